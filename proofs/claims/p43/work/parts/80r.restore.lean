/-! restore() of the class, and the law's own method around it: the place's cache stands beside the object -/
theorem pk_below2 {x : Int32} (h0 : ¬ x < 0) (h2 : x < 2) : vp_in x 2 ∧ x.toNatClampNeg < 2 ∧ x = nI x.toNatClampNeg := by
  obtain ⟨j, hj, rfl⟩ := nI_of h0
  have h3 : j < 2 := (nI_ltI (b := 2) hj (by decide)).mp h2
  rw [nI_clamp hj]
  exact ⟨nI_in h3 (by decide), h3, rfl⟩
abbrev rm_X8_restore : Room := { frames := 6, cells := 0, slots := 0, locals := 124 }
abbrev rm_L_restore : Room := { frames := 7, cells := 0, slots := 0, locals := 150 }
theorem hd_X8_restore : yX8_restore.cls = RX8 ∧ yX8_restore.cls ≠ "java/lang/invoke/MethodHandle" ∧ yX8_restore.cls ≠ "java/lang/invoke/VarHandle" ∧ (parseMethodDescriptor yX8_restore.desc).map (fun d => d.parameters.length) = some 1 := by decide +kernel
theorem hd_L_restore : yL_restore.cls = RL ∧ yL_restore.cls ≠ "java/lang/invoke/MethodHandle" ∧ yL_restore.cls ≠ "java/lang/invoke/VarHandle" ∧ (parseMethodDescriptor yL_restore.desc).map (fun d => d.parameters.length) = some 2 := by decide +kernel
def f_X8_restore (N : Nat) (γ : GLS) (κ : CacS) (p0 : Int32) : Option GLS :=
  if p0 = 1 then (f_X1_copyFrom N γ.2.2.1 κ).bind fun r => some (γ.1, γ.2.1, r, γ.2.2.2.1, (oI γ.2.2.2.2.1 2 0, γ.2.2.2.2.2)) else none
def f_L_restore (N : Nat) (γ : GLS) (κ : CacS) (p1 : Int32) : Option (Int32 × GLS) := (f_X8_restore N γ κ p1).bind fun r => some (0, r)
set_option maxHeartbeats 8000000 in
set_option maxRecDepth 100000 in
theorem c_X8_restore {l : Launch} {G : va_G} {cA : Nat → ClassId} {lo : Nat} {ad adk : Nat → Nat} {sv : Nat → Option Nat} {P : GLS → CacS → Heap → Prop} (hC : ∀ k : CacS, cx G lo 262 ad (ceGL sv cA ad) (fun x => P x k)) (hCk : ∀ g : GLS, cx G lo 25 adk (ceCache cA adk) (fun x => P g x)) (hsv : sv 1 = some (adk 0)) {N : Nat} {γ : GLS} {κ : CacS} {p0 : Int32} {res : GLS} (hf : f_X8_restore N γ κ p0 = some res) :
    Met l yX8_restore (cW yX8_restore cX8_restore 3 none) rm_X8_restore (cP [.ref (ad 0), .int p0] (P γ κ) G cA) (cQ none (P res κ)) 0 0 (fun q => lo ≤ q) := by
  refine cx_met (by decide) (Nat.le_of_ble_eq_true rfl) (fun p e s m args below meth c ls C0 hP hl => ?_)
  have hl : lv_has ls 3 [(0, .ref (ad 0)), (1, .int p0)] := hl
  obtain ⟨⟨hx, hb, hml, hown, hts⟩, hr, hlocks, hK⟩ := id C0
  have hL : ∀ q ∈ ([] : List Loc), lo ≤ q.base := fun q h => nomatch h
  have hsa : va_at G vwCl (ad 1, .inl (cA 4, (2, .inr (.inr (.inr (.inr sv)))))) s.heap := (hC κ).1 γ _ hP 1 (by decide)
  unfold f_X8_restore at hf
  by_cases hp : p0 = 1
  · have hf := cx_t hf hp
    subst hp
    obtain ⟨r, hr1, hf⟩ := cx_b hf
    cases hf
    obtain ⟨hin, hlt, -⟩ := pk_below2 (x := 1) (by decide) (by decide)
    refine lv_iload_n hx hb dX8_restore_0 rfl (lv_at hl 1 rfl) ?_
    refine lv_if_lt (tgt := 13) hx hb dX8_restore_1 (by decide) (fun c1 => absurd c1 (by decide)) (fun c1 => ?_)
    refine lv_iload_n hx hb dX8_restore_4 rfl (lv_at hl 1 rfl) ?_
    refine lv_aload_n hx hb dX8_restore_5 rfl (lv_at hl 0 rfl) ?_
    refine g_GL_5 (hC κ) (τ := γ) hP hx hb hts hown hK mw_36 dX8_restore_6 ?_
    refine va_alen (v := 2) (a := ad 1) hx hb hK (cx_one hsa) 0 4 rfl rfl rfl dX8_restore_9 ?_
    refine lv_icmp_lt (tgt := 24) hx hb dX8_restore_10 (by decide) (fun c2 => ?_) (fun c2 => absurd (by decide) c2)
    refine lv_aload_n hx hb dX8_restore_24 rfl (lv_at hl 0 rfl) ?_
    refine g_GL_5 (hC κ) (τ := γ) hP hx hb hts hown hK mw_36 dX8_restore_25 ?_
    refine lv_iload_n hx hb dX8_restore_28 rfl (lv_at hl 1 rfl) ?_
    refine va_aldq (a := ad 1) (C := "GhostLayers$Cache") hx hb hK (cx_one hsa) 0 4 rfl rfl hin dX8_restore_29 ?_
    have hrf : sv (Int32.toNatClampNeg 1) = some (adk 0) := hsv
    rw [hrf]
    have hC2 : ∀ zc : CacS, cx G lo 25 (adN ad) (ceCache cA (adN ad)) (fun x => P (γ.1, γ.2.1, x, γ.2.2.2) zc) := fun zc => cx_glN (hC zc) γ
    have hO : ∀ zc : CacS, cx G lo 25 adk (ceCache cA adk) (fun x => P (γ.1, γ.2.1, zc, γ.2.2.2) x) := fun zc => hCk (γ.1, γ.2.1, zc, γ.2.2.2)
    refine lv_astore_n (x := adk 0) (lv' := [(2, .ref (adk 0)), (0, .ref (ad 0)), (1, .int 1)]) hx hb dX8_restore_30 rfl hl (by decide) rfl (fun ls hl => ?_)
    refine lv_aload_n hx hb dX8_restore_31 rfl (lv_at hl 0 rfl) ?_
    refine lv_ifnonnull (tgt := 46) hx hb dX8_restore_32 (by decide) ?_
    refine lv_aload_n hx hb dX8_restore_46 rfl (lv_at hl 1 rfl) ?_
    refine g_GL_2 (hC κ) (τ := γ) hP hx hb hts hown hK mw_30 dX8_restore_47 ?_
    refine lv_aload_n hx hb dX8_restore_50 rfl (lv_at hl 0 rfl) ?_
    refine cx_callV (As := [.ref (adk 0)]) (rest := []) ⟨hx, hb, hml, hown, hts⟩ (c_X1_copyFrom hC2 hO hr1) (cwV 1 hts (gV mw_416 mw_168 mw_169 mw_29 mw_170) rfl rfl rfl hd_X1_copyFrom ⟨Nat.le_of_ble_eq_true rfl, Nat.le_of_ble_eq_true rfl⟩) hK hP rfl (at_Cache (hC2 κ) hP) rfl hl.1 rfl (Nat.le_of_ble_eq_true rfl) dX8_restore_51 ⟨Nat.zero_le _, Nat.zero_le _⟩ hL (fun H locs hP hL => ?_)
    refine lv_aload_n hx hb dX8_restore_54 rfl (lv_at hl 1 rfl) ?_
    refine g_GL_4 (hC κ) (τ := (γ.1, γ.2.1, r, γ.2.2.2)) hP hx hb hts hown hK mw_35 dX8_restore_55 ?_
    refine lv_iconst (v := 0) hx hb dX8_restore_58 (by decide) ?_
    refine p_History_2 (cx_glH (hC κ) (γ.1, γ.2.1, r, γ.2.2.2)) hP hx hb hts hown hK mw_282 dX8_restore_59 hL (fun H locs hP hL => ?_)
    exact cx_vret hx hb hr hlocks hP hL dX8_restore_62
  · have hf := cx_f hf hp
    cases hf
set_option maxHeartbeats 8000000 in
set_option maxRecDepth 100000 in
theorem c_L_restore {l : Launch} {G : va_G} {cA : Nat → ClassId} {lo : Nat} {ad adk : Nat → Nat} {sv : Nat → Option Nat} {P : GLS → CacS → Heap → Prop} (hC : ∀ k : CacS, cx G lo 262 ad (ceGL sv cA ad) (fun x => P x k)) (hCk : ∀ g : GLS, cx G lo 25 adk (ceCache cA adk) (fun x => P g x)) (hsv : sv 1 = some (adk 0)) {N : Nat} {γ : GLS} {κ : CacS} {p1 : Int32} {res : Int32 × GLS} (hf : f_L_restore N γ κ p1 = some res) :
    Met l yL_restore (cWx yL_restore cL_restore 3 (some .int) [(0, 6, 7, 46), (0, 6, 11, 48)]) rm_L_restore (cP [.ref (ad 0), .int p1] (P γ κ) G cA) (cQ (some (.int res.1)) (P res.2 κ)) 0 0 (fun q => lo ≤ q) := by
  refine cx_metX (by decide) (Nat.le_of_ble_eq_true rfl) (fun p e s m args below meth c ls C0 hP hl => ?_)
  have hl : lv_has ls 3 [(0, .ref (ad 0)), (1, .int p1)] := hl
  obtain ⟨⟨hx, hb, hml, hown, hts⟩, hr, hlocks, hK⟩ := id C0
  have hL : ∀ q ∈ ([] : List Loc), lo ≤ q.base := fun q h => nomatch h
  unfold f_L_restore at hf
  obtain ⟨r, q1, hf⟩ := cx_b hf
  cases hf
  refine lv_aload_n hx hb dL_restore_0 rfl (lv_at hl 0 rfl) ?_
  refine lv_iload_n hx hb dL_restore_1 rfl (lv_at hl 1 rfl) ?_
  refine cx_callV (As := [.int p1]) (rest := []) ⟨hx, hb, hml, hown, hts⟩ (c_X8_restore hC hCk hsv q1) (cwV 1 hts (gV mw_757 mw_758 mw_759 mw_11 mw_760) rfl rfl rfl hd_X8_restore ⟨Nat.le_of_ble_eq_true rfl, Nat.le_of_ble_eq_true rfl⟩) hK hP rfl (at_GL (hC κ) hP) rfl hl.1 rfl (Nat.le_of_ble_eq_true rfl) dL_restore_2 ⟨Nat.zero_le _, Nat.zero_le _⟩ hL (fun H locs hP hL => ?_)
  refine lv_iconst (v := 0) hx hb dL_restore_5 (by decide) ?_
  exact cx_iret hx hb hr hlocks hP hL dL_restore_6
