theorem cx_base {S : Type} {G : va_G} {lo n : Nat} {ad : Nat → Nat} {cell : S → Nat → va_E} {H0 : Heap} (hn : 0 < n) (hlo : ∀ i, i < n → lo ≤ ad i) (hinj : ∀ i j, i < n → j < n → ad i = ad j → i = j) :
    cx G lo n ad cell (fun σ H => (∀ i, i < n → va_at G vwCl (ad i, cell σ i) H) ∧ ∀ q : Nat, q < lo → H[q]? = H0[q]?) := by
  refine ⟨fun σ H hP i hi => hP.1 i hi, hlo, fun σ σ' H H1 i hi hP hz hq hat hc => ⟨fun j hj => ?_, fun q hl => (hq q (fun e => by have := hlo i hi; omega)).trans (hP.2 q hl)⟩, fun σ H H1 hP hz hq => ⟨fun j hj => (hP.1 j hj).kept (hq _ (hP.1 j hj).lt), fun q hl => (hq q (by have h1 : ad 0 < H.size := (hP.1 0 hn).lt; have := hlo 0 hn; omega)).trans (hP.2 q hl)⟩⟩
  by_cases e : j = i
  · subst e; exact hat
  · rw [hc j hj e]; exact (hP.1 j hj).kept (hq _ (fun q => e (hinj j i hj hi q)))
def mWd (G : va_G) (cA : Nat → ClassId) (a : Nat) (H0 : Heap) (μ : MdlS) (H : Heap) : Prop := (∀ i, i < 9 → va_at G vwCl (a + i, ceModel cA (fun j => a + j) μ i) H) ∧ ∀ q : Nat, q < a → H[q]? = H0[q]?
theorem mWd_cx {G : va_G} {cA : Nat → ClassId} {a : Nat} {H0 : Heap} : cx G a 9 (fun j => a + j) (ceModel cA (fun j => a + j)) (mWd G cA a H0) := cx_base (by decide) (fun i _ => Nat.le_add_right a i) (fun i j _ _ e => Nat.add_left_cancel e)
def iMn : Nat → Int32 := fun k => match k with
  | 17 => -1
  | _ => 0
def iMo (A : Nat → Int32) : MdlS := ((va_up (fun _ _ => 0) 0 A, iMn), 0)
theorem iMo_set (A : Nat → Int32) (j : Nat) (v : Int32) : ((oA (iMo A).1 0 j v, (iMo A).2) : MdlS) = iMo (upd A j v) := by
  refine Prod.ext (Prod.ext (funext fun i => ?_) rfl) rfl
  show va_up (va_up (fun _ _ => 0) 0 A) 0 (upd A j v) i = va_up (fun _ _ => 0) 0 (upd A j v) i
  unfold va_up
  by_cases h : i = 0
  · rw [if_pos h, if_pos h]
  · rw [if_neg h, if_neg h, if_neg h]
/-- the model's row as it begins, its first k blocks laid -/
def iMd (k : Nat) : Nat → Int32 := fun j => if j = 0 then 4 else if j = 1 then 8 else if j = 2 then 6 else if j = 3 then 10 else if 184 ≤ j ∧ j < 184 + 5 * k then (if (j - 184) % 5 = 1 ∨ (j - 184) % 5 = 2 then 0 else -1) else if 1184 ≤ j ∧ j < 1184 + k then iSt (j - 1184) else 0
theorem iMd_0 : upd (upd (upd (upd (fun _ => 0) 0 4) 1 8) 2 6) 3 10 = iMd 0 := by
  funext j
  unfold upd iMd
  by_cases h3 : j = 3
  · subst h3; rfl
  by_cases h2 : j = 2
  · subst h2; rfl
  by_cases h1 : j = 1
  · subst h1; rfl
  by_cases h0 : j = 0
  · subst h0; rfl
  rw [if_neg h3, if_neg h2, if_neg h1, if_neg h0, if_neg h0, if_neg h1, if_neg h2, if_neg h3, if_neg (by omega), if_neg (by omega)]
theorem iMd_s {k : Nat} (hk : k < 200) : upd (upd (upd (upd (iMd k) (184 + 5 * k + 0) (-1)) (184 + 5 * k + 4) (-1)) (184 + 5 * k + 3) (-1)) (1184 + k) (iSt k) = iMd (k + 1) := by
  funext j
  unfold upd iMd
  by_cases e : j = 1184 + k
  · subst e
    rw [if_pos rfl, if_neg (by omega), if_neg (by omega), if_neg (by omega), if_neg (by omega), if_neg (by omega), if_pos (by omega), show 1184 + k - 1184 = k by omega]
  · rw [if_neg e]
    by_cases e3 : j = 184 + 5 * k + 3
    · subst e3
      rw [if_pos rfl, if_neg (by omega), if_neg (by omega), if_neg (by omega), if_neg (by omega), if_pos (by omega), if_neg (by omega)]
    · rw [if_neg e3]
      by_cases e4 : j = 184 + 5 * k + 4
      · subst e4
        rw [if_pos rfl, if_neg (by omega), if_neg (by omega), if_neg (by omega), if_neg (by omega), if_pos (by omega), if_neg (by omega)]
      · rw [if_neg e4]
        by_cases e0 : j = 184 + 5 * k + 0
        · subst e0
          rw [if_pos rfl, if_neg (by omega), if_neg (by omega), if_neg (by omega), if_neg (by omega), if_pos (by omega), if_neg (by omega)]
        · rw [if_neg e0]
          by_cases h0 : j = 0
          · rw [if_pos h0, if_pos h0]
          rw [if_neg h0, if_neg h0]
          by_cases h1 : j = 1
          · rw [if_pos h1, if_pos h1]
          rw [if_neg h1, if_neg h1]
          by_cases h2 : j = 2
          · rw [if_pos h2, if_pos h2]
          rw [if_neg h2, if_neg h2]
          by_cases h3 : j = 3
          · rw [if_pos h3, if_pos h3]
          rw [if_neg h3, if_neg h3]
          by_cases h5 : 184 ≤ j ∧ j < 184 + 5 * k
          · rw [if_pos h5, if_pos (show 184 ≤ j ∧ j < 184 + 5 * (k + 1) by omega)]
          · rw [if_neg h5]
            by_cases h6 : 184 ≤ j ∧ j < 184 + 5 * (k + 1)
            · rw [if_pos h6, if_neg (show ¬ (1184 ≤ j ∧ j < 1184 + k) by omega), if_pos (show (j - 184) % 5 = 1 ∨ (j - 184) % 5 = 2 by omega)]
            · rw [if_neg h6]
              by_cases h7 : 1184 ≤ j ∧ j < 1184 + k
              · rw [if_pos h7, if_pos (show 1184 ≤ j ∧ j < 1184 + (k + 1) by omega)]
              · rw [if_neg h7, if_neg (show ¬ (1184 ≤ j ∧ j < 1184 + (k + 1)) by omega)]
theorem iMo_put (A : Nat → Int32) (b f : Nat) (hb : b < 200) (hf : f < 5) (v : Int32) : f_X9_put (iMo A) (nI b) (nI f) v = some (iMo (upd A (184 + 5 * b + f) v)) := by
  unfold f_X9_put
  rw [pu_of, pu_gd _ rfl (by omega) (by decide), nI_clamp (by omega), iMo_set]
  rfl
abbrev fsX9 : List Value := [.null, .null, .null, .null, .null, .int 0, .int 0, .null, .null, .int 0, .int 0, .int 0, .int 0, .int 0, .int 0, .int 0, .int 0, .int 0, .long 0, .int 0, .int 0, .null, .int 0]
theorem dfX9 : ∀ j, j < 23 → defaultValue (tyX9 j) = vp_V fsX9 j := fun j hj => by
  rcases (show j = 0 ∨ j = 1 ∨ j = 2 ∨ j = 3 ∨ j = 4 ∨ j = 5 ∨ j = 6 ∨ j = 7 ∨ j = 8 ∨ j = 9 ∨ j = 10 ∨ j = 11 ∨ j = 12 ∨ j = 13 ∨ j = 14 ∨ j = 15 ∨ j = 16 ∨ j = 17 ∨ j = 18 ∨ j = 19 ∨ j = 20 ∨ j = 21 ∨ j = 22 by omega) with rfl | rfl | rfl | rfl | rfl | rfl | rfl | rfl | rfl | rfl | rfl | rfl | rfl | rfl | rfl | rfl | rfl | rfl | rfl | rfl | rfl | rfl | rfl <;> rfl
abbrev rm_X9_init : Room := { frames := 1, cells := 8, slots := 17570, locals := 23 }
set_option maxHeartbeats 8000000 in
set_option maxRecDepth 100000 in
theorem w_X9_init_b112 {p : Program} {l : Launch} {e : Env} {s : State} {m : MethodId} {args : Array Value} {below : List Frame} {meth : Method} {c : Code} {G : va_G} {cA : Nat → ClassId} {H0 : Heap} {a : Nat} (C0 : cB p s m args meth c RX9 cX9_init 2 none G cA) : ∀ (n k : Nat), k + n = 200 → ∀ (H : Heap) (locs : List Loc) (ls : Array Slot), mWd G cA a H0 (iMo (iMd k)) H → (∀ q ∈ locs, a ≤ q.base) → lv_has ls 2 [(1, .int (nI k)), (0, .ref a)] → W p l e rm_X9_init s m args below meth c H locs 8 17570 (MQ below (cQ none (mWd G cA a H0 (iMo (iMd 200)))) args s 8 17570 (fun q => a ≤ q)) (F0 m 112 ls []) := by
  obtain ⟨⟨hx, hb, hml, hown, hts⟩, hr, hlocks, hK⟩ := id C0
  intro n
  induction n with
  | zero =>
    intro k hk H locs ls hP hL hl
    have e : k = 200 := by omega
    subst e
    refine lv_iload_n hx hb dX9_init_112 rfl (lv_at hl 0 rfl) ?_
    refine lv_sipush (v := 200) hx hb dX9_init_113 (by decide) ?_
    refine lv_icmp_ge (tgt := 163) hx hb dX9_init_116 (by decide) (fun _ => ?_) (fun c9 => absurd (nI_le (Nat.le_refl 200) (by decide)) c9)
    exact cx_vret hx hb hr hlocks hP hL dX9_init_163
  | succ n ih =>
    intro k hk H locs ls hP hL hl
    have hk2 : k < 200 := by omega
    refine lv_iload_n hx hb dX9_init_112 rfl (lv_at hl 0 rfl) ?_
    refine lv_sipush (v := 200) hx hb dX9_init_113 (by decide) ?_
    refine lv_icmp_ge (tgt := 163) hx hb dX9_init_116 (by decide) (fun c9 => absurd c9 (nI_ge hk2 (by decide))) (fun _ => ?_)
    refine lv_aload_n hx hb dX9_init_119 rfl (lv_at hl 1 rfl) ?_
    refine lv_iload_n hx hb dX9_init_120 rfl (lv_at hl 0 rfl) ?_
    refine lv_iconst (v := 0) hx hb dX9_init_121 (by decide) ?_
    refine lv_iconst (v := (-1)) hx hb dX9_init_122 (by decide) ?_
    refine cx_callV (As := [.int (nI k), .int 0, .int (-1)]) (rest := []) ⟨hx, hb, hml, hown, hts⟩ (c_X9_put (mWd_cx (G := G) (cA := cA) (a := a) (H0 := H0)) (iMo_put (iMd k) k 0 hk2 (by decide) (-1))) (cwV 3 hts (gV mw_124 mw_125 mw_126 mw_5 mw_127) rfl rfl rfl hd_X9_put ⟨Nat.le_of_ble_eq_true rfl, Nat.le_of_ble_eq_true rfl⟩) hK hP rfl (at_Model (mWd_cx (G := G) (cA := cA) (a := a) (H0 := H0)) hP) rfl hl.1 rfl (Nat.le_of_ble_eq_true rfl) dX9_init_123 ⟨Nat.le_refl _, Nat.le_refl _⟩ hL (fun H locs hP hL => ?_)
    refine lv_aload_n hx hb dX9_init_126 rfl (lv_at hl 1 rfl) ?_
    refine lv_iload_n hx hb dX9_init_127 rfl (lv_at hl 0 rfl) ?_
    refine lv_iconst (v := 4) hx hb dX9_init_128 (by decide) ?_
    refine lv_iconst (v := (-1)) hx hb dX9_init_129 (by decide) ?_
    refine cx_callV (As := [.int (nI k), .int 4, .int (-1)]) (rest := []) ⟨hx, hb, hml, hown, hts⟩ (c_X9_put (mWd_cx (G := G) (cA := cA) (a := a) (H0 := H0)) (iMo_put (upd (iMd k) (184 + 5 * k + 0) (-1)) k 4 hk2 (by decide) (-1))) (cwV 3 hts (gV mw_124 mw_125 mw_126 mw_5 mw_127) rfl rfl rfl hd_X9_put ⟨Nat.le_of_ble_eq_true rfl, Nat.le_of_ble_eq_true rfl⟩) hK hP rfl (at_Model (mWd_cx (G := G) (cA := cA) (a := a) (H0 := H0)) hP) rfl hl.1 rfl (Nat.le_of_ble_eq_true rfl) dX9_init_130 ⟨Nat.le_refl _, Nat.le_refl _⟩ hL (fun H locs hP hL => ?_)
    refine lv_aload_n hx hb dX9_init_133 rfl (lv_at hl 1 rfl) ?_
    refine lv_iload_n hx hb dX9_init_134 rfl (lv_at hl 0 rfl) ?_
    refine lv_iconst (v := 3) hx hb dX9_init_135 (by decide) ?_
    refine lv_iconst (v := (-1)) hx hb dX9_init_136 (by decide) ?_
    refine cx_callV (As := [.int (nI k), .int 3, .int (-1)]) (rest := []) ⟨hx, hb, hml, hown, hts⟩ (c_X9_put (mWd_cx (G := G) (cA := cA) (a := a) (H0 := H0)) (iMo_put (upd (upd (iMd k) (184 + 5 * k + 0) (-1)) (184 + 5 * k + 4) (-1)) k 3 hk2 (by decide) (-1))) (cwV 3 hts (gV mw_124 mw_125 mw_126 mw_5 mw_127) rfl rfl rfl hd_X9_put ⟨Nat.le_of_ble_eq_true rfl, Nat.le_of_ble_eq_true rfl⟩) hK hP rfl (at_Model (mWd_cx (G := G) (cA := cA) (a := a) (H0 := H0)) hP) rfl hl.1 rfl (Nat.le_of_ble_eq_true rfl) dX9_init_137 ⟨Nat.le_refl _, Nat.le_refl _⟩ hL (fun H locs hP hL => ?_)
    refine lv_aload_n hx hb dX9_init_140 rfl (lv_at hl 1 rfl) ?_
    refine g_Model_0 (mWd_cx (G := G) (cA := cA) (a := a) (H0 := H0)) hP hx hb hts hown hK mw_114 dX9_init_141 ?_
    refine lv_sipush (v := 1184) hx hb dX9_init_144 (by decide) ?_
    refine lv_iload_n hx hb dX9_init_147 rfl (lv_at hl 0 rfl) ?_
    refine lv_iadd hx hb dX9_init_148 ?_
    refine lv_iconst (v := 5) hx hb dX9_init_149 (by decide) ?_
    refine lv_iload_n hx hb dX9_init_150 rfl (lv_at hl 0 rfl) ?_
    refine lv_imul hx hb dX9_init_151 ?_
    refine lv_sipush (v := 1000) hx hb dX9_init_152 (by decide) ?_
    refine lv_irem hx hb dX9_init_155 (by decide) ?_
    have e8 : 1184 + nI k = nI (1184 + k) := nI_add 1184 k
    rw [e8]
    refine pa_Model_0 (mWd_cx (G := G) (cA := cA) (a := a) (H0 := H0)) hP hx hb hK (nI_in (show 1184 + k < 1384 by omega) (by decide)) dX9_init_156 hL (fun H locs hP hL => ?_)
    rw [nI_clamp (show 1184 + k < 2 ^ 31 by omega), iMo_set] at hP
    have hP : mWd G cA a H0 (iMo (upd (upd (upd (upd (iMd k) (184 + 5 * k + 0) (-1)) (184 + 5 * k + 4) (-1)) (184 + 5 * k + 3) (-1)) (1184 + k) (iSt k))) H := hP
    rw [iMd_s hk2] at hP
    refine lv_iinc (v := nI (k + 1)) (lv' := [(1, .int (nI (k + 1))), (0, .ref a)]) hx hb dX9_init_157 hl (k := 0) rfl (nI_1 k) (by decide) rfl (fun ls hl => ?_)
    refine lv_goto (tgt := 112) hx hb dX9_init_160 (by decide) ?_
    exact ih (k + 1) (by omega) _ _ _ hP hL hl
set_option maxHeartbeats 8000000 in
set_option maxRecDepth 100000 in
theorem c_X9_init {l : Launch} {G : va_G} {cA : Nat → ClassId} {a : Nat} {H0 : Heap} : Met l yX9_init (cW yX9_init cX9_init 2 none) rm_X9_init (cPn [.ref a] (gr G [.inr (9, fsX9)] a H0) G cA) (cQ none (mWd G cA a H0 (iMo (iMd 200)))) 8 17570 (fun q => a ≤ q) := by
  refine nx_met (by decide) (Nat.le_of_ble_eq_true rfl) (fun p e s m args below meth c ls C0 hN hin hG hl => ?_)
  have hl : lv_has ls 2 [(0, .ref a)] := hl
  obtain ⟨⟨hx, hb, hml, hown, hts⟩, hr, hlocks, hK⟩ := id C0
  have hL : ∀ q ∈ ([] : List Loc), a ≤ q.base := fun q h => nomatch h
  have hin : meth.name = "<init>" := hin
  have hG0 : gr G ([.inr (9, [.null, .null, .null, .null, .null, .int 0, .int 0, .null, .null, .int 0, .int 0, .int 0, .int 0, .int 0, .int 0, .int 0, .int 0, .int 0, .long 0, .int 0, .int 0, .null, .int 0])]) a s.heap s.heap := ⟨hG.1, hG.2.1, fun _ _ => rfl⟩
  have hb0 := hG.2.2
  generalize hH : s.heap = H at hG0
  replace hG0 : gr G ([.inr (9, [.null, .null, .null, .null, .null, .int 0, .int 0, .null, .null, .int 0, .int 0, .int 0, .int 0, .int 0, .int 0, .int 0, .int 0, .int 0, .long 0, .int 0, .int 0, .null, .int 0])]) a s.heap H := by rw [hH]; exact hG0
  have hG := hG0
  refine lv_aload_n hx hb dX9_init_0 rfl (lv_at hl 0 rfl) ?_
  refine W.objInit hx hb hown (hts _ mw_113) (hts _ mw_12) (hts _ mw_13) rfl (by rw [hml]; exact hl.1) rfl dX9_init_1 (Nat.le_of_ble_eq_true rfl) (Nat.le_of_ble_eq_true rfl) ?_
  refine W.eq (g2 := F0 m 4 ls []) rfl ?_
  refine lv_aload_n hx hb dX9_init_4 rfl (lv_at hl 0 rfl) ?_
  refine lv_sipush (v := 1384) hx hb dX9_init_5 (by decide) ?_
  refine sg_newi (n := 1) (N' := 1384) hx hb hts mw_36 hK hG rfl (by decide) (by decide) (Nat.le_of_ble_eq_true rfl) (Nat.le_of_ble_eq_true rfl) (Nat.le_of_ble_eq_true rfl) dX9_init_8 (fun H hG => ?_)
  have hG : gr G ([.inr (9, [.null, .null, .null, .null, .null, .int 0, .int 0, .null, .null, .int 0, .int 0, .int 0, .int 0, .int 0, .int 0, .int 0, .int 0, .int 0, .long 0, .int 0, .int 0, .null, .int 0]), .inl (cA 0, (1384, .inl fun _ => 0))]) a s.heap H := hG
  refine sg_putF (a := a) (ci := 9) (fs := [.null, .null, .null, .null, .null, .int 0, .int 0, .null, .null, .int 0, .int 0, .int 0, .int 0, .int 0, .int 0, .int 0, .int 0, .int 0, .long 0, .int 0, .int 0, .null, .int 0]) (T := TX9) (C := RX9) (N := 23) hx hb 0 hts inlX9 tyX9 tyX9_ok nmX9 hown hK hG rfl rfl 0 (by decide) mw_114 rfl rfl hin rfl rfl rfl (Nat.le_of_ble_eq_true rfl) dX9_init_10 hL (fun H locs hG hL => ?_)
  have hG : gr G ([.inr (9, [.ref (a + 1), .null, .null, .null, .null, .int 0, .int 0, .null, .null, .int 0, .int 0, .int 0, .int 0, .int 0, .int 0, .int 0, .int 0, .int 0, .long 0, .int 0, .int 0, .null, .int 0]), .inl (cA 0, (1384, .inl fun _ => 0))]) a s.heap H := hG
  refine lv_aload_n hx hb dX9_init_13 rfl (lv_at hl 0 rfl) ?_
  refine lv_sipush (v := 1384) hx hb dX9_init_14 (by decide) ?_
  refine sg_newi (n := 2) (N' := 1384) hx hb hts mw_36 hK hG rfl (by decide) (by decide) (Nat.le_of_ble_eq_true rfl) (Nat.le_of_ble_eq_true rfl) (Nat.le_of_ble_eq_true rfl) dX9_init_17 (fun H hG => ?_)
  have hG : gr G ([.inr (9, [.ref (a + 1), .null, .null, .null, .null, .int 0, .int 0, .null, .null, .int 0, .int 0, .int 0, .int 0, .int 0, .int 0, .int 0, .int 0, .int 0, .long 0, .int 0, .int 0, .null, .int 0]), .inl (cA 0, (1384, .inl fun _ => 0)), .inl (cA 0, (1384, .inl fun _ => 0))]) a s.heap H := hG
  refine sg_putF (a := a) (ci := 9) (fs := [.ref (a + 1), .null, .null, .null, .null, .int 0, .int 0, .null, .null, .int 0, .int 0, .int 0, .int 0, .int 0, .int 0, .int 0, .int 0, .int 0, .long 0, .int 0, .int 0, .null, .int 0]) (T := TX9) (C := RX9) (N := 23) hx hb 0 hts inlX9 tyX9 tyX9_ok nmX9 hown hK hG rfl rfl 1 (by decide) mw_115 rfl rfl hin rfl rfl rfl (Nat.le_of_ble_eq_true rfl) dX9_init_19 hL (fun H locs hG hL => ?_)
  have hG : gr G ([.inr (9, [.ref (a + 1), .ref (a + 2), .null, .null, .null, .int 0, .int 0, .null, .null, .int 0, .int 0, .int 0, .int 0, .int 0, .int 0, .int 0, .int 0, .int 0, .long 0, .int 0, .int 0, .null, .int 0]), .inl (cA 0, (1384, .inl fun _ => 0)), .inl (cA 0, (1384, .inl fun _ => 0))]) a s.heap H := hG
  refine lv_aload_n hx hb dX9_init_22 rfl (lv_at hl 0 rfl) ?_
  refine lv_sipush (v := 11072) hx hb dX9_init_23 (by decide) ?_
  refine sg_newi (n := 3) (N' := 11072) hx hb hts mw_36 hK hG rfl (by decide) (by decide) (Nat.le_of_ble_eq_true rfl) (Nat.le_of_ble_eq_true rfl) (Nat.le_of_ble_eq_true rfl) dX9_init_26 (fun H hG => ?_)
  have hG : gr G ([.inr (9, [.ref (a + 1), .ref (a + 2), .null, .null, .null, .int 0, .int 0, .null, .null, .int 0, .int 0, .int 0, .int 0, .int 0, .int 0, .int 0, .int 0, .int 0, .long 0, .int 0, .int 0, .null, .int 0]), .inl (cA 0, (1384, .inl fun _ => 0)), .inl (cA 0, (1384, .inl fun _ => 0)), .inl (cA 0, (11072, .inl fun _ => 0))]) a s.heap H := hG
  refine sg_putF (a := a) (ci := 9) (fs := [.ref (a + 1), .ref (a + 2), .null, .null, .null, .int 0, .int 0, .null, .null, .int 0, .int 0, .int 0, .int 0, .int 0, .int 0, .int 0, .int 0, .int 0, .long 0, .int 0, .int 0, .null, .int 0]) (T := TX9) (C := RX9) (N := 23) hx hb 0 hts inlX9 tyX9 tyX9_ok nmX9 hown hK hG rfl rfl 2 (by decide) mw_116 rfl rfl hin rfl rfl rfl (Nat.le_of_ble_eq_true rfl) dX9_init_28 hL (fun H locs hG hL => ?_)
  have hG : gr G ([.inr (9, [.ref (a + 1), .ref (a + 2), .ref (a + 3), .null, .null, .int 0, .int 0, .null, .null, .int 0, .int 0, .int 0, .int 0, .int 0, .int 0, .int 0, .int 0, .int 0, .long 0, .int 0, .int 0, .null, .int 0]), .inl (cA 0, (1384, .inl fun _ => 0)), .inl (cA 0, (1384, .inl fun _ => 0)), .inl (cA 0, (11072, .inl fun _ => 0))]) a s.heap H := hG
  refine lv_aload_n hx hb dX9_init_31 rfl (lv_at hl 0 rfl) ?_
  refine lv_sipush (v := 2768) hx hb dX9_init_32 (by decide) ?_
  refine sg_newi (n := 4) (N' := 2768) hx hb hts mw_36 hK hG rfl (by decide) (by decide) (Nat.le_of_ble_eq_true rfl) (Nat.le_of_ble_eq_true rfl) (Nat.le_of_ble_eq_true rfl) dX9_init_35 (fun H hG => ?_)
  have hG : gr G ([.inr (9, [.ref (a + 1), .ref (a + 2), .ref (a + 3), .null, .null, .int 0, .int 0, .null, .null, .int 0, .int 0, .int 0, .int 0, .int 0, .int 0, .int 0, .int 0, .int 0, .long 0, .int 0, .int 0, .null, .int 0]), .inl (cA 0, (1384, .inl fun _ => 0)), .inl (cA 0, (1384, .inl fun _ => 0)), .inl (cA 0, (11072, .inl fun _ => 0)), .inl (cA 0, (2768, .inl fun _ => 0))]) a s.heap H := hG
  refine sg_putF (a := a) (ci := 9) (fs := [.ref (a + 1), .ref (a + 2), .ref (a + 3), .null, .null, .int 0, .int 0, .null, .null, .int 0, .int 0, .int 0, .int 0, .int 0, .int 0, .int 0, .int 0, .int 0, .long 0, .int 0, .int 0, .null, .int 0]) (T := TX9) (C := RX9) (N := 23) hx hb 0 hts inlX9 tyX9 tyX9_ok nmX9 hown hK hG rfl rfl 3 (by decide) mw_117 rfl rfl hin rfl rfl rfl (Nat.le_of_ble_eq_true rfl) dX9_init_37 hL (fun H locs hG hL => ?_)
  have hG : gr G ([.inr (9, [.ref (a + 1), .ref (a + 2), .ref (a + 3), .ref (a + 4), .null, .int 0, .int 0, .null, .null, .int 0, .int 0, .int 0, .int 0, .int 0, .int 0, .int 0, .int 0, .int 0, .long 0, .int 0, .int 0, .null, .int 0]), .inl (cA 0, (1384, .inl fun _ => 0)), .inl (cA 0, (1384, .inl fun _ => 0)), .inl (cA 0, (11072, .inl fun _ => 0)), .inl (cA 0, (2768, .inl fun _ => 0))]) a s.heap H := hG
  refine lv_aload_n hx hb dX9_init_40 rfl (lv_at hl 0 rfl) ?_
  refine lv_iconst (v := 2) hx hb dX9_init_41 (by decide) ?_
  refine sg_newz (n := 5) (N' := 2) hx hb hts mw_118 hK hG rfl (by decide) (by decide) (Nat.le_of_ble_eq_true rfl) (Nat.le_of_ble_eq_true rfl) (Nat.le_of_ble_eq_true rfl) dX9_init_42 (fun H hG => ?_)
  have hG : gr G ([.inr (9, [.ref (a + 1), .ref (a + 2), .ref (a + 3), .ref (a + 4), .null, .int 0, .int 0, .null, .null, .int 0, .int 0, .int 0, .int 0, .int 0, .int 0, .int 0, .int 0, .int 0, .long 0, .int 0, .int 0, .null, .int 0]), .inl (cA 0, (1384, .inl fun _ => 0)), .inl (cA 0, (1384, .inl fun _ => 0)), .inl (cA 0, (11072, .inl fun _ => 0)), .inl (cA 0, (2768, .inl fun _ => 0)), .inl (cA 1, (2, .inl fun _ => 0))]) a s.heap H := hG
  refine sg_putF (a := a) (ci := 9) (fs := [.ref (a + 1), .ref (a + 2), .ref (a + 3), .ref (a + 4), .null, .int 0, .int 0, .null, .null, .int 0, .int 0, .int 0, .int 0, .int 0, .int 0, .int 0, .int 0, .int 0, .long 0, .int 0, .int 0, .null, .int 0]) (T := TX9) (C := RX9) (N := 23) hx hb 0 hts inlX9 tyX9 tyX9_ok nmX9 hown hK hG rfl rfl 4 (by decide) mw_119 rfl rfl hin rfl rfl rfl (Nat.le_of_ble_eq_true rfl) dX9_init_44 hL (fun H locs hG hL => ?_)
  have hG : gr G ([.inr (9, [.ref (a + 1), .ref (a + 2), .ref (a + 3), .ref (a + 4), .ref (a + 5), .int 0, .int 0, .null, .null, .int 0, .int 0, .int 0, .int 0, .int 0, .int 0, .int 0, .int 0, .int 0, .long 0, .int 0, .int 0, .null, .int 0]), .inl (cA 0, (1384, .inl fun _ => 0)), .inl (cA 0, (1384, .inl fun _ => 0)), .inl (cA 0, (11072, .inl fun _ => 0)), .inl (cA 0, (2768, .inl fun _ => 0)), .inl (cA 1, (2, .inl fun _ => 0))]) a s.heap H := hG
  refine lv_aload_n hx hb dX9_init_47 rfl (lv_at hl 0 rfl) ?_
  refine lv_sipush (v := 600) hx hb dX9_init_48 (by decide) ?_
  refine sg_newi (n := 6) (N' := 600) hx hb hts mw_36 hK hG rfl (by decide) (by decide) (Nat.le_of_ble_eq_true rfl) (Nat.le_of_ble_eq_true rfl) (Nat.le_of_ble_eq_true rfl) dX9_init_51 (fun H hG => ?_)
  have hG : gr G ([.inr (9, [.ref (a + 1), .ref (a + 2), .ref (a + 3), .ref (a + 4), .ref (a + 5), .int 0, .int 0, .null, .null, .int 0, .int 0, .int 0, .int 0, .int 0, .int 0, .int 0, .int 0, .int 0, .long 0, .int 0, .int 0, .null, .int 0]), .inl (cA 0, (1384, .inl fun _ => 0)), .inl (cA 0, (1384, .inl fun _ => 0)), .inl (cA 0, (11072, .inl fun _ => 0)), .inl (cA 0, (2768, .inl fun _ => 0)), .inl (cA 1, (2, .inl fun _ => 0)), .inl (cA 0, (600, .inl fun _ => 0))]) a s.heap H := hG
  refine sg_putF (a := a) (ci := 9) (fs := [.ref (a + 1), .ref (a + 2), .ref (a + 3), .ref (a + 4), .ref (a + 5), .int 0, .int 0, .null, .null, .int 0, .int 0, .int 0, .int 0, .int 0, .int 0, .int 0, .int 0, .int 0, .long 0, .int 0, .int 0, .null, .int 0]) (T := TX9) (C := RX9) (N := 23) hx hb 0 hts inlX9 tyX9 tyX9_ok nmX9 hown hK hG rfl rfl 7 (by decide) mw_120 rfl rfl hin rfl rfl rfl (Nat.le_of_ble_eq_true rfl) dX9_init_53 hL (fun H locs hG hL => ?_)
  have hG : gr G ([.inr (9, [.ref (a + 1), .ref (a + 2), .ref (a + 3), .ref (a + 4), .ref (a + 5), .int 0, .int 0, .ref (a + 6), .null, .int 0, .int 0, .int 0, .int 0, .int 0, .int 0, .int 0, .int 0, .int 0, .long 0, .int 0, .int 0, .null, .int 0]), .inl (cA 0, (1384, .inl fun _ => 0)), .inl (cA 0, (1384, .inl fun _ => 0)), .inl (cA 0, (11072, .inl fun _ => 0)), .inl (cA 0, (2768, .inl fun _ => 0)), .inl (cA 1, (2, .inl fun _ => 0)), .inl (cA 0, (600, .inl fun _ => 0))]) a s.heap H := hG
  refine lv_aload_n hx hb dX9_init_56 rfl (lv_at hl 0 rfl) ?_
  refine lv_sipush (v := 160) hx hb dX9_init_57 (by decide) ?_
  refine sg_newi (n := 7) (N' := 160) hx hb hts mw_36 hK hG rfl (by decide) (by decide) (Nat.le_of_ble_eq_true rfl) (Nat.le_of_ble_eq_true rfl) (Nat.le_of_ble_eq_true rfl) dX9_init_60 (fun H hG => ?_)
  have hG : gr G ([.inr (9, [.ref (a + 1), .ref (a + 2), .ref (a + 3), .ref (a + 4), .ref (a + 5), .int 0, .int 0, .ref (a + 6), .null, .int 0, .int 0, .int 0, .int 0, .int 0, .int 0, .int 0, .int 0, .int 0, .long 0, .int 0, .int 0, .null, .int 0]), .inl (cA 0, (1384, .inl fun _ => 0)), .inl (cA 0, (1384, .inl fun _ => 0)), .inl (cA 0, (11072, .inl fun _ => 0)), .inl (cA 0, (2768, .inl fun _ => 0)), .inl (cA 1, (2, .inl fun _ => 0)), .inl (cA 0, (600, .inl fun _ => 0)), .inl (cA 0, (160, .inl fun _ => 0))]) a s.heap H := hG
  refine sg_putF (a := a) (ci := 9) (fs := [.ref (a + 1), .ref (a + 2), .ref (a + 3), .ref (a + 4), .ref (a + 5), .int 0, .int 0, .ref (a + 6), .null, .int 0, .int 0, .int 0, .int 0, .int 0, .int 0, .int 0, .int 0, .int 0, .long 0, .int 0, .int 0, .null, .int 0]) (T := TX9) (C := RX9) (N := 23) hx hb 0 hts inlX9 tyX9 tyX9_ok nmX9 hown hK hG rfl rfl 8 (by decide) mw_121 rfl rfl hin rfl rfl rfl (Nat.le_of_ble_eq_true rfl) dX9_init_62 hL (fun H locs hG hL => ?_)
  have hG : gr G ([.inr (9, [.ref (a + 1), .ref (a + 2), .ref (a + 3), .ref (a + 4), .ref (a + 5), .int 0, .int 0, .ref (a + 6), .ref (a + 7), .int 0, .int 0, .int 0, .int 0, .int 0, .int 0, .int 0, .int 0, .int 0, .long 0, .int 0, .int 0, .null, .int 0]), .inl (cA 0, (1384, .inl fun _ => 0)), .inl (cA 0, (1384, .inl fun _ => 0)), .inl (cA 0, (11072, .inl fun _ => 0)), .inl (cA 0, (2768, .inl fun _ => 0)), .inl (cA 1, (2, .inl fun _ => 0)), .inl (cA 0, (600, .inl fun _ => 0)), .inl (cA 0, (160, .inl fun _ => 0))]) a s.heap H := hG
  refine lv_aload_n hx hb dX9_init_65 rfl (lv_at hl 0 rfl) ?_
  refine lv_iconst (v := (-1)) hx hb dX9_init_66 (by decide) ?_
  refine sg_put (a := a) (ci := 9) (fs := [.ref (a + 1), .ref (a + 2), .ref (a + 3), .ref (a + 4), .ref (a + 5), .int 0, .int 0, .ref (a + 6), .ref (a + 7), .int 0, .int 0, .int 0, .int 0, .int 0, .int 0, .int 0, .int 0, .int 0, .long 0, .int 0, .int 0, .null, .int 0]) (T := TX9) (C := RX9) (N := 23) hx hb 0 hts inlX9 tyX9 tyX9_ok nmX9 hown hK hG rfl rfl 17 (by decide) mw_122 rfl rfl rfl rfl (Nat.le_of_ble_eq_true rfl) dX9_init_67 hL (fun H locs hG hL => ?_)
  have hG : gr G ([.inr (9, [.ref (a + 1), .ref (a + 2), .ref (a + 3), .ref (a + 4), .ref (a + 5), .int 0, .int 0, .ref (a + 6), .ref (a + 7), .int 0, .int 0, .int 0, .int 0, .int 0, .int 0, .int 0, .int 0, .int (-1), .long 0, .int 0, .int 0, .null, .int 0]), .inl (cA 0, (1384, .inl fun _ => 0)), .inl (cA 0, (1384, .inl fun _ => 0)), .inl (cA 0, (11072, .inl fun _ => 0)), .inl (cA 0, (2768, .inl fun _ => 0)), .inl (cA 1, (2, .inl fun _ => 0)), .inl (cA 0, (600, .inl fun _ => 0)), .inl (cA 0, (160, .inl fun _ => 0))]) a s.heap H := hG
  refine lv_aload_n hx hb dX9_init_70 rfl (lv_at hl 0 rfl) ?_
  refine lv_sipush (v := 200) hx hb dX9_init_71 (by decide) ?_
  refine sg_newi (n := 8) (N' := 200) hx hb hts mw_36 hK hG rfl (by decide) (by decide) (Nat.le_of_ble_eq_true rfl) (Nat.le_of_ble_eq_true rfl) (Nat.le_of_ble_eq_true rfl) dX9_init_74 (fun H hG => ?_)
  have hG : gr G ([.inr (9, [.ref (a + 1), .ref (a + 2), .ref (a + 3), .ref (a + 4), .ref (a + 5), .int 0, .int 0, .ref (a + 6), .ref (a + 7), .int 0, .int 0, .int 0, .int 0, .int 0, .int 0, .int 0, .int 0, .int (-1), .long 0, .int 0, .int 0, .null, .int 0]), .inl (cA 0, (1384, .inl fun _ => 0)), .inl (cA 0, (1384, .inl fun _ => 0)), .inl (cA 0, (11072, .inl fun _ => 0)), .inl (cA 0, (2768, .inl fun _ => 0)), .inl (cA 1, (2, .inl fun _ => 0)), .inl (cA 0, (600, .inl fun _ => 0)), .inl (cA 0, (160, .inl fun _ => 0)), .inl (cA 0, (200, .inl fun _ => 0))]) a s.heap H := hG
  refine sg_putF (a := a) (ci := 9) (fs := [.ref (a + 1), .ref (a + 2), .ref (a + 3), .ref (a + 4), .ref (a + 5), .int 0, .int 0, .ref (a + 6), .ref (a + 7), .int 0, .int 0, .int 0, .int 0, .int 0, .int 0, .int 0, .int 0, .int (-1), .long 0, .int 0, .int 0, .null, .int 0]) (T := TX9) (C := RX9) (N := 23) hx hb 0 hts inlX9 tyX9 tyX9_ok nmX9 hown hK hG rfl rfl 21 (by decide) mw_123 rfl rfl hin rfl rfl rfl (Nat.le_of_ble_eq_true rfl) dX9_init_76 hL (fun H locs hG hL => ?_)
  have hG : gr G ([.inr (9, [.ref (a + 1), .ref (a + 2), .ref (a + 3), .ref (a + 4), .ref (a + 5), .int 0, .int 0, .ref (a + 6), .ref (a + 7), .int 0, .int 0, .int 0, .int 0, .int 0, .int 0, .int 0, .int 0, .int (-1), .long 0, .int 0, .int 0, .ref (a + 8), .int 0]), .inl (cA 0, (1384, .inl fun _ => 0)), .inl (cA 0, (1384, .inl fun _ => 0)), .inl (cA 0, (11072, .inl fun _ => 0)), .inl (cA 0, (2768, .inl fun _ => 0)), .inl (cA 1, (2, .inl fun _ => 0)), .inl (cA 0, (600, .inl fun _ => 0)), .inl (cA 0, (160, .inl fun _ => 0)), .inl (cA 0, (200, .inl fun _ => 0))]) a s.heap H := hG
  have hP : mWd G cA a H0 (iMo fun _ => 0) H := ⟨fun i hi => hG.2.1 i _ (by rcases (show i = 0 ∨ i = 1 ∨ i = 2 ∨ i = 3 ∨ i = 4 ∨ i = 5 ∨ i = 6 ∨ i = 7 ∨ i = 8 by omega) with rfl | rfl | rfl | rfl | rfl | rfl | rfl | rfl | rfl <;> rfl), fun q hq => (hG.2.2 q hq).trans (hb0 q hq)⟩
  refine lv_aload_n hx hb dX9_init_79 rfl (lv_at hl 0 rfl) ?_
  refine g_Model_0 (mWd_cx (G := G) (cA := cA) (a := a) (H0 := H0)) hP hx hb hts hown hK mw_114 dX9_init_80 ?_
  refine lv_iconst (v := 0) hx hb dX9_init_83 (by decide) ?_
  refine lv_iconst (v := 4) hx hb dX9_init_84 (by decide) ?_
  refine pa_Model_0 (mWd_cx (G := G) (cA := cA) (a := a) (H0 := H0)) hP hx hb hK (nI_in (c := 0) (N := 1384) (by decide) (by decide)) dX9_init_85 hL (fun H locs hP hL => ?_)
  rw [iMo_set] at hP
  have hP : mWd G cA a H0 (iMo (upd (fun _ => 0) 0 4)) H := hP
  refine lv_aload_n hx hb dX9_init_86 rfl (lv_at hl 0 rfl) ?_
  refine g_Model_0 (mWd_cx (G := G) (cA := cA) (a := a) (H0 := H0)) hP hx hb hts hown hK mw_114 dX9_init_87 ?_
  refine lv_iconst (v := 1) hx hb dX9_init_90 (by decide) ?_
  refine lv_bipush (v := 8) hx hb dX9_init_91 (by decide) ?_
  refine pa_Model_0 (mWd_cx (G := G) (cA := cA) (a := a) (H0 := H0)) hP hx hb hK (nI_in (c := 1) (N := 1384) (by decide) (by decide)) dX9_init_93 hL (fun H locs hP hL => ?_)
  rw [iMo_set] at hP
  have hP : mWd G cA a H0 (iMo (upd (upd (fun _ => 0) 0 4) 1 8)) H := hP
  refine lv_aload_n hx hb dX9_init_94 rfl (lv_at hl 0 rfl) ?_
  refine g_Model_0 (mWd_cx (G := G) (cA := cA) (a := a) (H0 := H0)) hP hx hb hts hown hK mw_114 dX9_init_95 ?_
  refine lv_iconst (v := 2) hx hb dX9_init_98 (by decide) ?_
  refine lv_bipush (v := 6) hx hb dX9_init_99 (by decide) ?_
  refine pa_Model_0 (mWd_cx (G := G) (cA := cA) (a := a) (H0 := H0)) hP hx hb hK (nI_in (c := 2) (N := 1384) (by decide) (by decide)) dX9_init_101 hL (fun H locs hP hL => ?_)
  rw [iMo_set] at hP
  have hP : mWd G cA a H0 (iMo (upd (upd (upd (fun _ => 0) 0 4) 1 8) 2 6)) H := hP
  refine lv_aload_n hx hb dX9_init_102 rfl (lv_at hl 0 rfl) ?_
  refine g_Model_0 (mWd_cx (G := G) (cA := cA) (a := a) (H0 := H0)) hP hx hb hts hown hK mw_114 dX9_init_103 ?_
  refine lv_iconst (v := 3) hx hb dX9_init_106 (by decide) ?_
  refine lv_bipush (v := 10) hx hb dX9_init_107 (by decide) ?_
  refine pa_Model_0 (mWd_cx (G := G) (cA := cA) (a := a) (H0 := H0)) hP hx hb hK (nI_in (c := 3) (N := 1384) (by decide) (by decide)) dX9_init_109 hL (fun H locs hP hL => ?_)
  rw [iMo_set] at hP
  have hP : mWd G cA a H0 (iMo (upd (upd (upd (upd (fun _ => 0) 0 4) 1 8) 2 6) 3 10)) H := hP
  rw [iMd_0] at hP
  refine lv_iconst (v := 0) hx hb dX9_init_110 (by decide) ?_
  refine lv_istore_n (lv' := [(1, .int 0), (0, .ref a)]) hx hb dX9_init_111 rfl hl (by decide) rfl (fun ls hl => ?_)
  exact w_X9_init_b112 C0 200 0 rfl _ _ _ hP hL hl
