/-! holds() OF THE LAW: its walk -/
abbrev rm_L_holds : Room := { frames := 9, cells := 2520, slots := 128160, locals := 240 }
theorem hd_L_holds : yL_holds.cls = RL ∧ yL_holds.cls ≠ "java/lang/invoke/MethodHandle" ∧ yL_holds.cls ≠ "java/lang/invoke/VarHandle" ∧ (parseMethodDescriptor yL_holds.desc).map (fun d => d.parameters.length) = some 1 := by decide +kernel
theorem cx_callVZn {p : Program} {l : Launch} {e : Env} {R : Room} {s : State} {m : MethodId} {args : Array Value} {below : List Frame} {meth : Method} {c : Code} {H : Heap} {locs : List Loc} {cells slots : Nat} {Q : State → Prop} {cc : ByteArray} {pc : Nat} {ls : Array Slot} {st0 : List Value} {G : va_G} {cA : Nat → ClassId} {z : ZS} {lo mc ms : Nat} {PH PH1 : Heap → Prop} {v : Option Value} {nL n index : Nat} {own C : String} {y : MethodName} {bytes : ByteArray} {maxL : Nat} {ret : Option FieldType} {rm : Room} (As : List Value) (rest : List Value) {ws : List Cond} {T : u_T} {N ci b : Nat} {fs : List Value} (S : CallFix p m c cc nL s args WL own) (hM : Met l y ws rm (cPZn lo z (.ref b :: As) PH G cA) (cQ v PH1) mc ms (fun q => lo ≤ q)) (cw : CallW R s args own C index y bytes maxL ret ws rm mc ms n) (hK : cKn G cA s) (hZ : Zt lo z s) (hP : PH H) (hc : vwCl[ci]? = some (C, T, N)) (hat : va_at G vwCl (b, .inr (ci, fs)) H) (hn : As.length = n) (hsize : ls.size = nL) (hst : st0 = As.reverse ++ .ref b :: rest) (hW : (rest.map fun v => v.category).sum ≤ 8) (hdg : decode cc pc = .ok (.invokevirtual index, 3)) (hf : cells + mc ≤ R.cells ∧ slots + ms ≤ R.slots) (hL : ∀ q ∈ locs, lo ≤ q.base)
    (kk : ∀ (H1 : Heap) (locs1 : List Loc), PH1 H1 → (∀ q ∈ locs1, lo ≤ q.base) → W p l e R s m args below meth c H1 locs1 (cells + mc) (slots + ms) Q (F0 m (pc + 3) ls (v.toList ++ rest))) : W p l e R s m args below meth c H locs cells slots Q (F0 m pc ls st0) := by
  subst hst
  exact cz_S hL (fun hS => cx_call (va_runV (As := As) (rest := rest) S hM cw (cPZn_preV hK hZ hS hP hc hat) rfl hn hsize rfl (lv_room hW) hdg hf) hL kk)
/-- from here on the law ends with 1 -/
def HK (p : Program) (l : Launch) (e : Env) (s : State) (m : MethodId) (args : Array Value) (below : List Frame) (meth : Method) (c : Code) (G : va_G) (cA : Nat → ClassId) (H0 : Heap) (lo aL aN aG : Nat) (z : ZS) (pc i T D C Sl : Nat) : Prop := ∀ (bs : Option Nat) (κ : CacS) (δ : LwS) (H : Heap) (locs : List Loc) (cells slots : Nat) (ls : Array Slot), cells ≤ C → slots ≤ Sl → BD (fun q => q < lo) lo aL aN aG bs → BW G cA H0 (fun q => q < lo) z.1 aL aN aG bs (δ, κ) H → Ky T D δ → (∀ q ∈ locs, lo ≤ q.base) → lv_has ls 3 [(2, .int (nI i)), (0, .ref aL)] → W p l e rm_L_holds s m args below meth c H locs cells slots (MQ below (cQ (some (.int 1)) (fun _ => True)) args s 2520 128160 (fun q => lo ≤ q)) (F0 m pc ls [])
/-- what stands still in holds() -/
def HC (p : Program) (s : State) (m : MethodId) (args : Array Value) (meth : Method) (c : Code) (G : va_G) (cA : Nat → ClassId) (lo : Nat) (z : ZS) : Prop := cB p s m args meth c RL cL_holds 3 (some .boolean) G cA ∧ cKn G cA s ∧ Zt lo z s ∧ z.2.1 ≤ 260
set_option maxHeartbeats 4000000 in
set_option maxRecDepth 100000 in
theorem hk_92 {p : Program} {l : Launch} {e : Env} {s : State} {m : MethodId} {args : Array Value} {below : List Frame} {meth : Method} {c : Code} {G : va_G} {cA : Nat → ClassId} {H0 : Heap} {lo aL aN aG i T D C Sl : Nat} {z : ZS} (h0 : HC p s m args meth c G cA lo z) (hk : HK p l e s m args below meth c G cA H0 lo aL aN aG z 16 (i + 1) T D C Sl) (hi : i < 90) : HK p l e s m args below meth c G cA H0 lo aL aN aG z 92 i T D C Sl := by
  obtain ⟨C0, hN, hZ, hz⟩ := h0
  obtain ⟨⟨hx, hb, hml, hown, hts⟩, hr, hlocks, hK⟩ := id C0
  intro bs κ δ H locs cells slots ls hc hs Db hP hy hL hl
  have hC := BW_L (G := G) (cA := cA) (H0 := H0) (sa := z.1) Db κ
  refine lv_iinc (v := nI i + 1) (lv' := [(2, .int (nI i + 1)), (0, .ref aL)]) hx hb dL_holds_92 hl (k := 0) rfl rfl (by decide) rfl (fun ls hl => ?_)
  refine lv_goto (tgt := 16) hx hb dL_holds_95 (by decide) ?_
  rw [nI_1] at hl
  exact hk bs κ δ H locs cells slots ls hc hs Db hP hy hL hl
set_option maxHeartbeats 4000000 in
set_option maxRecDepth 100000 in
theorem hk_74 {p : Program} {l : Launch} {e : Env} {s : State} {m : MethodId} {args : Array Value} {below : List Frame} {meth : Method} {c : Code} {G : va_G} {cA : Nat → ClassId} {H0 : Heap} {lo aL aN aG i T D C Sl : Nat} {z : ZS} (h0 : HC p s m args meth c G cA lo z) (hk : HK p l e s m args below meth c G cA H0 lo aL aN aG z 92 i (T + 60) (D + 5) (C + 27) (Sl + 1418)) (hi : i < 90) (hT : T < 2 ^ 16) (hD : D < 2 ^ 16) (hC1 : C + 27 ≤ 2520) (hS1 : Sl + 1418 ≤ 128160) : HK p l e s m args below meth c G cA H0 lo aL aN aG z 74 i T D C Sl := by
  obtain ⟨C0, hN, hZ, hz⟩ := h0
  obtain ⟨⟨hx, hb, hml, hown, hts⟩, hr, hlocks, hK⟩ := id C0
  intro bs κ δ H locs cells slots ls hc hs Db hP hy hL hl
  have hC := BW_L (G := G) (cA := cA) (H0 := H0) (sa := z.1) Db κ
  refine lv_iload_n hx hb dL_holds_74 rfl (lv_at hl 0 rfl) ?_
  refine lv_bipush (v := 29) hx hb dL_holds_75 (by decide) ?_
  refine lv_irem hx hb dL_holds_77 (by decide) ?_
  refine lv_bipush (v := 20) hx hb dL_holds_78 (by decide) ?_
  refine lv_icmp_ne (tgt := 92) hx hb dL_holds_80 (by decide) (fun _ => ?_) (fun _ => ?_)
  · exact hk bs κ δ H locs cells slots ls (by omega) (by omega) Db hP (hy.mono (by omega) (by omega)) hL hl
  · refine lv_aload_n hx hb dL_holds_83 rfl (lv_at hl 1 rfl) ?_
    obtain ⟨δ', κ', q, hy'⟩ := ky_fore (bs := bs) (κ := κ) hz hy hT hD
    refine cx_callVZn (As := []) (rest := []) ⟨hx, hb, hml, hown, hts⟩ (c_L_foretells (z := z) (H0 := H0) Db q) (cwV 0 hts (gV mw_712 mw_713 mw_714 mw_2 mw_715) rfl rfl rfl hd_L_foretells ⟨Nat.le_of_ble_eq_true rfl, Nat.le_of_ble_eq_true rfl⟩) hN hZ hP rfl (at_Law hC hP) rfl hl.1 rfl (Nat.le_of_ble_eq_true rfl) dL_holds_84 ⟨by show cells + 27 ≤ 2520; omega, by show slots + 1418 ≤ 128160; omega⟩ hL (fun H locs hP hL => ?_)
    obtain ⟨b2, D2, hP⟩ := hP
    refine lv_if_ne (tgt := 92) hx hb dL_holds_87 (by decide) (fun _ => ?_) (fun c9 => absurd c9 (show ¬ (1 : Int32) = 0 by decide))
    exact hk (some b2) κ' δ' H locs _ _ ls (by omega) (by omega) D2 hP hy' hL hl
set_option maxHeartbeats 4000000 in
set_option maxRecDepth 100000 in
theorem hk_45 {p : Program} {l : Launch} {e : Env} {s : State} {m : MethodId} {args : Array Value} {below : List Frame} {meth : Method} {c : Code} {G : va_G} {cA : Nat → ClassId} {H0 : Heap} {lo aL aN aG i T D C Sl : Nat} {z : ZS} (h0 : HC p s m args meth c G cA lo z) (hk : HK p l e s m args below meth c G cA H0 lo aL aN aG z 74 i T D C Sl) (hi : i < 90) (hFl : FlOk) (hT : T < 2 ^ 16) (hC1 : C ≤ 2520) (hS1 : Sl ≤ 128160) : HK p l e s m args below meth c G cA H0 lo aL aN aG z 45 i T D C Sl := by
  obtain ⟨C0, hN, hZ, hz⟩ := h0
  obtain ⟨⟨hx, hb, hml, hown, hts⟩, hr, hlocks, hK⟩ := id C0
  intro bs κ δ H locs cells slots ls hc hs Db hP hy hL hl
  have hC := BW_L (G := G) (cA := cA) (H0 := H0) (sa := z.1) Db κ
  refine lv_iload_n hx hb dL_holds_45 rfl (lv_at hl 0 rfl) ?_
  refine lv_bipush (v := 8) hx hb dL_holds_46 (by decide) ?_
  refine lv_irem hx hb dL_holds_48 (by decide) ?_
  refine lv_iconst (v := 3) hx hb dL_holds_49 (by decide) ?_
  refine lv_icmp_ne (tgt := 74) hx hb dL_holds_50 (by decide) (fun _ => ?_) (fun _ => ?_)
  · exact hk bs κ δ H locs cells slots ls hc hs Db hP hy hL hl
  · refine lv_aload_n hx hb dL_holds_53 rfl (lv_at hl 1 rfl) ?_
    refine cx_callV (As := []) (rest := []) ⟨hx, hb, hml, hown, hts⟩ (c_L_listsAreSo hC (ky_lists hFl hy hT)) (cwV 0 hts (gV mw_595 mw_596 mw_597 mw_2 mw_598) rfl rfl rfl hd_L_listsAreSo ⟨Nat.le_of_ble_eq_true rfl, Nat.le_of_ble_eq_true rfl⟩) hK hP rfl (at_Law hC hP) rfl hl.1 rfl (Nat.le_of_ble_eq_true rfl) dL_holds_54 ⟨by show cells + 0 ≤ 2520; omega, by show slots + 0 ≤ 128160; omega⟩ hL (fun H locs hP hL => ?_)
    refine lv_if_eq (tgt := 90) hx hb dL_holds_57 (by decide) (fun c9 => absurd c9 (show ¬ (1 : Int32) = 0 by decide)) (fun _ => ?_)
    refine lv_aload_n hx hb dL_holds_60 rfl (lv_at hl 1 rfl) ?_
    refine cx_callV (As := []) (rest := []) ⟨hx, hb, hml, hown, hts⟩ (c_L_ordersAreSo hC (ky_orders hy hT)) (cwV 0 hts (gV mw_676 mw_677 mw_678 mw_2 mw_679) rfl rfl rfl hd_L_ordersAreSo ⟨Nat.le_of_ble_eq_true rfl, Nat.le_of_ble_eq_true rfl⟩) hK hP rfl (at_Law hC hP) rfl hl.1 rfl (Nat.le_of_ble_eq_true rfl) dL_holds_61 ⟨by show cells + 0 ≤ 2520; omega, by show slots + 0 ≤ 128160; omega⟩ hL (fun H locs hP hL => ?_)
    refine lv_if_eq (tgt := 90) hx hb dL_holds_64 (by decide) (fun c9 => absurd c9 (show ¬ (1 : Int32) = 0 by decide)) (fun _ => ?_)
    refine lv_aload_n hx hb dL_holds_67 rfl (lv_at hl 1 rfl) ?_
    refine cx_callV (As := []) (rest := []) ⟨hx, hb, hml, hown, hts⟩ (c_L_sumsAreSo hC (ky_sums hy hT)) (cwV 0 hts (gV mw_708 mw_709 mw_710 mw_2 mw_711) rfl rfl rfl hd_L_sumsAreSo ⟨Nat.le_of_ble_eq_true rfl, Nat.le_of_ble_eq_true rfl⟩) hK hP rfl (at_Law hC hP) rfl hl.1 rfl (Nat.le_of_ble_eq_true rfl) dL_holds_68 ⟨by show cells + 0 ≤ 2520; omega, by show slots + 0 ≤ 128160; omega⟩ hL (fun H locs hP hL => ?_)
    refine lv_if_eq (tgt := 90) hx hb dL_holds_71 (by decide) (fun c9 => absurd c9 (show ¬ (1 : Int32) = 0 by decide)) (fun _ => ?_)
    exact hk bs κ δ H locs _ _ ls hc hs Db hP hy hL hl
set_option maxHeartbeats 4000000 in
set_option maxRecDepth 100000 in
theorem hk_29 {p : Program} {l : Launch} {e : Env} {s : State} {m : MethodId} {args : Array Value} {below : List Frame} {meth : Method} {c : Code} {G : va_G} {cA : Nat → ClassId} {H0 : Heap} {lo aL aN aG i T D C Sl : Nat} {z : ZS} (h0 : HC p s m args meth c G cA lo z) (hk : HK p l e s m args below meth c G cA H0 lo aL aN aG z 45 i T (D + 7) C Sl) (hi : i < 90) (hT : T < 2 ^ 16) (hD : D + 1 < 2 ^ 16) (hC1 : C ≤ 2520) (hS1 : Sl ≤ 128160) : HK p l e s m args below meth c G cA H0 lo aL aN aG z 29 i T D C Sl := by
  obtain ⟨C0, hN, hZ, hz⟩ := h0
  obtain ⟨⟨hx, hb, hml, hown, hts⟩, hr, hlocks, hK⟩ := id C0
  intro bs κ δ H locs cells slots ls hc hs Db hP hy hL hl
  have hC := BW_L (G := G) (cA := cA) (H0 := H0) (sa := z.1) Db κ
  refine lv_aload_n hx hb dL_holds_29 rfl (lv_at hl 1 rfl) ?_
  refine lv_bipush (v := 6) hx hb dL_holds_30 (by decide) ?_
  obtain ⟨x, δ', q, hy'⟩ := ky_draw hz hy (by omega)
  refine cx_callVZ (As := [.int 6]) (rest := []) ⟨hx, hb, hml, hown, hts⟩ (c_L_draw hC (z := z) q) (cwV 1 hts (gV mw_124 mw_125 mw_126 mw_2 mw_127) rfl rfl rfl hd_L_draw ⟨Nat.le_of_ble_eq_true rfl, Nat.le_of_ble_eq_true rfl⟩) hK hZ hP rfl (at_Law hC hP) rfl hl.1 rfl (Nat.le_of_ble_eq_true rfl) dL_holds_32 ⟨by show cells + 0 ≤ 2520; omega, by show slots + 0 ≤ 128160; omega⟩ hL (fun H locs hP hL => ?_)
  refine lv_if_ne (tgt := 45) hx hb dL_holds_35 (by decide) (fun _ => ?_) (fun _ => ?_)
  · exact hk bs κ δ' H locs _ _ ls hc hs Db hP (hy'.mono (by omega) (by omega)) hL hl
  · refine lv_aload_n hx hb dL_holds_38 rfl (lv_at hl 1 rfl) ?_
    obtain ⟨δ2, q2, hy2⟩ := ky_others hz hy' hT (by omega)
    refine cx_callVZ (As := []) (rest := []) ⟨hx, hb, hml, hown, hts⟩ (c_L_others hC (z := z) q2) (cwV 0 hts (gV mw_553 mw_554 mw_555 mw_2 mw_556) rfl rfl rfl hd_L_others ⟨Nat.le_of_ble_eq_true rfl, Nat.le_of_ble_eq_true rfl⟩) hK hZ hP rfl (at_Law hC hP) rfl hl.1 rfl (Nat.le_of_ble_eq_true rfl) dL_holds_39 ⟨by show cells + 0 ≤ 2520; omega, by show slots + 0 ≤ 128160; omega⟩ hL (fun H locs hP hL => ?_)
    refine lv_if_eq (tgt := 90) hx hb dL_holds_42 (by decide) (fun c9 => absurd c9 (show ¬ (1 : Int32) = 0 by decide)) (fun _ => ?_)
    exact hk bs κ δ2 H locs _ _ ls hc hs Db hP (hy2.mono (by omega) (by omega)) hL hl
set_option maxHeartbeats 4000000 in
set_option maxRecDepth 100000 in
theorem hk_22 {p : Program} {l : Launch} {e : Env} {s : State} {m : MethodId} {args : Array Value} {below : List Frame} {meth : Method} {c : Code} {G : va_G} {cA : Nat → ClassId} {H0 : Heap} {lo aL aN aG i T D C Sl : Nat} {z : ZS} (h0 : HC p s m args meth c G cA lo z) (hk : HK p l e s m args below meth c G cA H0 lo aL aN aG z 29 i (T + 1) (D + 10) (C + 1) (Sl + 6)) (hi : i < 90) (hT : T < 2 ^ 16) (hD : D < 2 ^ 16) (hC1 : C + 1 ≤ 2520) (hS1 : Sl + 6 ≤ 128160) : HK p l e s m args below meth c G cA H0 lo aL aN aG z 22 i T D C Sl := by
  obtain ⟨C0, hN, hZ, hz⟩ := h0
  obtain ⟨⟨hx, hb, hml, hown, hts⟩, hr, hlocks, hK⟩ := id C0
  intro bs κ δ H locs cells slots ls hc hs Db hP hy hL hl
  have hC := BW_L (G := G) (cA := cA) (H0 := H0) (sa := z.1) Db κ
  have hA := BW_loc (G := G) (cA := cA) (H0 := H0) (Fz := fun q => q < lo) (sa := z.1) (aL := aL) (aN := aN) (aG := aG) (bs := bs) κ
  refine lv_aload_n hx hb dL_holds_22 rfl (lv_at hl 1 rfl) ?_
  obtain ⟨δ', q, hy'⟩ := ky_acc hz hy hT hD
  refine cx_callVZ (As := []) (rest := []) ⟨hx, hb, hml, hown, hts⟩ (c_L_accesses hC hA (z := z) q) (cwV 0 hts (gV mw_271 mw_272 mw_273 mw_2 mw_274) rfl rfl rfl hd_L_accesses ⟨Nat.le_of_ble_eq_true rfl, Nat.le_of_ble_eq_true rfl⟩) hK hZ hP rfl (at_Law hC hP) rfl hl.1 rfl (Nat.le_of_ble_eq_true rfl) dL_holds_23 ⟨by show cells + 1 ≤ 2520; omega, by show slots + 6 ≤ 128160; omega⟩ hL (fun H locs hP hL => ?_)
  refine lv_if_eq (tgt := 90) hx hb dL_holds_26 (by decide) (fun c9 => absurd c9 (show ¬ (1 : Int32) = 0 by decide)) (fun _ => ?_)
  exact hk bs κ δ' H locs _ _ ls (by omega) (by omega) Db hP hy' hL hl
set_option maxHeartbeats 4000000 in
set_option maxRecDepth 100000 in
theorem hk_98 {p : Program} {l : Launch} {e : Env} {s : State} {m : MethodId} {args : Array Value} {below : List Frame} {meth : Method} {c : Code} {G : va_G} {cA : Nat → ClassId} {H0 : Heap} {lo aL aN aG i T D C Sl : Nat} {z : ZS} (h0 : HC p s m args meth c G cA lo z) (hFl : FlOk) (hT : T < 2 ^ 16) (hC1 : C ≤ 2520) (hS1 : Sl ≤ 128160) : HK p l e s m args below meth c G cA H0 lo aL aN aG z 98 i T D C Sl := by
  obtain ⟨C0, hN, hZ, hz⟩ := h0
  obtain ⟨⟨hx, hb, hml, hown, hts⟩, hr, hlocks, hK⟩ := id C0
  intro bs κ δ H locs cells slots ls hc hs Db hP hy hL hl
  have hC := BW_L (G := G) (cA := cA) (H0 := H0) (sa := z.1) Db κ
  refine lv_aload_n hx hb dL_holds_98 rfl (lv_at hl 1 rfl) ?_
  refine cx_callV (As := []) (rest := []) ⟨hx, hb, hml, hown, hts⟩ (c_L_listsAreSo hC (ky_lists hFl hy hT)) (cwV 0 hts (gV mw_595 mw_596 mw_597 mw_2 mw_598) rfl rfl rfl hd_L_listsAreSo ⟨Nat.le_of_ble_eq_true rfl, Nat.le_of_ble_eq_true rfl⟩) hK hP rfl (at_Law hC hP) rfl hl.1 rfl (Nat.le_of_ble_eq_true rfl) dL_holds_99 ⟨by show cells + 0 ≤ 2520; omega, by show slots + 0 ≤ 128160; omega⟩ hL (fun H locs hP hL => ?_)
  refine lv_if_eq (tgt := 157) hx hb dL_holds_102 (by decide) (fun c9 => absurd c9 (show ¬ (1 : Int32) = 0 by decide)) (fun _ => ?_)
  refine lv_aload_n hx hb dL_holds_105 rfl (lv_at hl 1 rfl) ?_
  refine cx_callV (As := []) (rest := []) ⟨hx, hb, hml, hown, hts⟩ (c_L_ordersAreSo hC (ky_orders hy hT)) (cwV 0 hts (gV mw_676 mw_677 mw_678 mw_2 mw_679) rfl rfl rfl hd_L_ordersAreSo ⟨Nat.le_of_ble_eq_true rfl, Nat.le_of_ble_eq_true rfl⟩) hK hP rfl (at_Law hC hP) rfl hl.1 rfl (Nat.le_of_ble_eq_true rfl) dL_holds_106 ⟨by show cells + 0 ≤ 2520; omega, by show slots + 0 ≤ 128160; omega⟩ hL (fun H locs hP hL => ?_)
  refine lv_if_eq (tgt := 157) hx hb dL_holds_109 (by decide) (fun c9 => absurd c9 (show ¬ (1 : Int32) = 0 by decide)) (fun _ => ?_)
  refine lv_aload_n hx hb dL_holds_112 rfl (lv_at hl 1 rfl) ?_
  refine cx_callV (As := []) (rest := []) ⟨hx, hb, hml, hown, hts⟩ (c_L_sumsAreSo hC (ky_sums hy hT)) (cwV 0 hts (gV mw_708 mw_709 mw_710 mw_2 mw_711) rfl rfl rfl hd_L_sumsAreSo ⟨Nat.le_of_ble_eq_true rfl, Nat.le_of_ble_eq_true rfl⟩) hK hP rfl (at_Law hC hP) rfl hl.1 rfl (Nat.le_of_ble_eq_true rfl) dL_holds_113 ⟨by show cells + 0 ≤ 2520; omega, by show slots + 0 ≤ 128160; omega⟩ hL (fun H locs hP hL => ?_)
  refine lv_if_eq (tgt := 157) hx hb dL_holds_116 (by decide) (fun c9 => absurd c9 (show ¬ (1 : Int32) = 0 by decide)) (fun _ => ?_)
  obtain ⟨x, γ', q1, hx1, q2, q3⟩ := ky_end hy hT
  refine lv_aload_n hx hb dL_holds_119 rfl (lv_at hl 1 rfl) ?_
  refine g_Law_0 hC hP hx hb hts hown hK mw_12 dL_holds_120 ?_
  refine lv_iconst (v := 5) hx hb dL_holds_123 (by decide) ?_
  refine lv_iconst (v := 5) hx hb dL_holds_124 (by decide) ?_
  refine cx_callSX (As := [.ref ((adLG (adLw aL aN aG)) 0), .int 5, .int 5]) (rest := []) ⟨hx, hb, hml, hown, hts⟩ (c_L_shape (cx_lwG hC δ) q1) (vx_cwSW 3 hts (gSWx mw_228 mw_229 mw_2 mw_230) rfl rfl rfl hd_L_shape.2 ⟨Nat.le_of_ble_eq_true rfl, Nat.le_of_ble_eq_true rfl⟩) hK hP rfl hl.1 rfl (Nat.le_of_ble_eq_true rfl) dL_holds_125 ⟨by show cells + 0 ≤ 2520; omega, by show slots + 0 ≤ 128160; omega⟩ hL (fun H locs hP hL => ?_)
  refine lv_if_lt (tgt := 157) hx hb dL_holds_128 (by decide) (fun c9 => absurd c9 (nI_pos (by omega))) (fun _ => ?_)
  refine lv_aload_n hx hb dL_holds_131 rfl (lv_at hl 1 rfl) ?_
  refine g_Law_0 (δ := (δ.1, γ')) hC hP hx hb hts hown hK mw_12 dL_holds_132 ?_
  refine lv_bipush (v := 12) hx hb dL_holds_135 (by decide) ?_
  refine cx_callSX (As := [.ref ((adLG (adLw aL aN aG)) 0), .int 12]) (rest := []) ⟨hx, hb, hml, hown, hts⟩ (c_L_count (cx_lwG hC (δ.1, γ')) q2) (vx_cwSW 2 hts (gSWx mw_275 mw_276 mw_2 mw_277) rfl rfl rfl hd_L_count.2 ⟨Nat.le_of_ble_eq_true rfl, Nat.le_of_ble_eq_true rfl⟩) hK hP rfl hl.1 rfl (Nat.le_of_ble_eq_true rfl) dL_holds_137 ⟨by show cells + 0 ≤ 2520; omega, by show slots + 0 ≤ 128160; omega⟩ hL (fun H locs hP hL => ?_)
  refine lv_if_ne (tgt := 157) hx hb dL_holds_140 (by decide) (fun c9 => absurd rfl c9) (fun _ => ?_)
  refine lv_aload_n hx hb dL_holds_143 rfl (lv_at hl 1 rfl) ?_
  refine g_Law_0 (δ := (δ.1, γ')) hC hP hx hb hts hown hK mw_12 dL_holds_144 ?_
  refine cx_callV (As := []) (rest := []) ⟨hx, hb, hml, hown, hts⟩ (c_X8_differing (cx_lwG hC (δ.1, γ')) q3) (cwV 0 hts (gV mw_668 mw_669 mw_670 mw_11 mw_671) rfl rfl rfl hd_X8_differing ⟨Nat.le_of_ble_eq_true rfl, Nat.le_of_ble_eq_true rfl⟩) hK hP rfl (at_GL (cx_lwG hC (δ.1, γ')) hP) rfl hl.1 rfl (Nat.le_of_ble_eq_true rfl) dL_holds_147 ⟨by show cells + 0 ≤ 2520; omega, by show slots + 0 ≤ 128160; omega⟩ hL (fun H locs hP hL => ?_)
  refine lv_if_ne (tgt := 157) hx hb dL_holds_150 (by decide) (fun c9 => absurd rfl c9) (fun _ => ?_)
  refine lv_iconst (v := 1) hx hb dL_holds_153 (by decide) ?_
  refine lv_goto (tgt := 158) hx hb dL_holds_154 (by decide) ?_
  refine W.widen (k := 2520) (n := 128160) (by omega) (by omega) ?_
  exact cx_zret hx hb hr hlocks (Or.inr rfl) trivial hL dL_holds_158
/-- the rounds -/
theorem hk_16 {p : Program} {l : Launch} {e : Env} {s : State} {m : MethodId} {args : Array Value} {below : List Frame} {meth : Method} {c : Code} {G : va_G} {cA : Nat → ClassId} {H0 : Heap} {lo aL aN aG : Nat} {z : ZS} (h0 : HC p s m args meth c G cA lo z) (hFl : FlOk) : ∀ r i, i + r = 90 → HK p l e s m args below meth c G cA H0 lo aL aN aG z 16 i (61 * i) (22 * i + 10) (28 * i) (1424 * i) := by
  intro r
  induction r with
  | zero =>
    intro i hi
    obtain ⟨C0, hN, hZ, hz⟩ := id h0
    obtain ⟨⟨hx, hb, hml, hown, hts⟩, hr, hlocks, hK⟩ := id C0
    intro bs κ δ H locs cells slots ls hc hs Db hP hy hL hl
    refine lv_iload_n hx hb dL_holds_16 rfl (lv_at hl 0 rfl) ?_
    refine lv_bipush (v := 90) hx hb dL_holds_17 (by decide) ?_
    refine lv_icmp_ge (tgt := 98) hx hb dL_holds_19 (by decide) (fun _ => ?_) (fun c9 => absurd (nI_le (a := 90) (by omega) (by omega)) c9)
    exact hk_98 (i := i) (T := 61 * i) (D := 22 * i + 10) (C := 28 * i) (Sl := 1424 * i) h0 hFl (by omega) (by omega) (by omega) bs κ δ H locs cells slots ls hc hs Db hP hy hL hl
  | succ r ih =>
    intro i hi
    have hk := ih (i + 1) (by omega)
    obtain ⟨C0, hN, hZ, hz⟩ := id h0
    obtain ⟨⟨hx, hb, hml, hown, hts⟩, hr, hlocks, hK⟩ := id C0
    intro bs κ δ H locs cells slots ls hc hs Db hP hy hL hl
    refine lv_iload_n hx hb dL_holds_16 rfl (lv_at hl 0 rfl) ?_
    refine lv_bipush (v := 90) hx hb dL_holds_17 (by decide) ?_
    refine lv_icmp_ge (tgt := 98) hx hb dL_holds_19 (by decide) (fun c9 => absurd c9 (nI_ge (b := 90) (by omega) (by decide))) (fun _ => ?_)
    refine hk_22 (i := i) (T := 61 * i) (D := 22 * i + 10) (C := 28 * i) (Sl := 1424 * i) h0 (hk_29 h0 (hk_45 h0 (hk_74 h0 (hk_92 h0 ?_ (by omega)) (by omega) (by omega) (by omega) (by omega) (by omega)) (by omega) hFl (by omega) (by omega) (by omega)) (by omega) (by omega) (by omega) (by omega) (by omega)) (by omega) (by omega) (by omega) (by omega) (by omega) bs κ δ H locs cells slots ls hc hs Db hP hy hL hl
    rw [show 61 * i + 1 + 60 = 61 * (i + 1) by omega, show 22 * i + 10 + 10 + 7 + 5 = 22 * (i + 1) + 10 by omega, show 28 * i + 1 + 27 = 28 * (i + 1) by omega, show 1424 * i + 6 + 1418 = 1424 * (i + 1) by omega]
    exact hk
