abbrev rm_X3_keep : Room := { frames := 3, cells := 0, slots := 0, locals := 105 }
theorem hd_X3_keep : yX3_keep.cls = RX3 ∧ yX3_keep.cls ≠ "java/lang/invoke/MethodHandle" ∧ yX3_keep.cls ≠ "java/lang/invoke/VarHandle" ∧ (parseMethodDescriptor yX3_keep.desc).map (fun d => d.parameters.length) = some 1 := by decide +kernel
def f_X3_keep (N : Nat) (η : HisS) (σ : CacS) : Option (HisS) := if η.1.2 1 < 0 then some η else if 8 ≤ η.1.2 1 then some η else gd (η.1.2 1) 8 ((f_X1_copyFrom N (η.2 (Int32.toNatClampNeg (η.1.2 1))) σ).bind fun r4 => cx_let ((η.1, va_up η.2 (Int32.toNatClampNeg (η.1.2 1)) r4)) fun z6 => cx_let ((oI z6.1 1 ((z6.1.2 1 + 1) - (z6.1.2 1 + 1) / 8 * 8), z6.2)) fun z7 => cx_let ((oI z7.1 2 (if (z7.1.2 2 + 1) < 8 then (z7.1.2 2 + 1) else 8), z7.2)) fun z8 => some z8)
set_option maxHeartbeats 4000000 in
set_option maxRecDepth 100000 in
theorem c_X3_keep {l : Launch} {G : va_G} {cA : Nat → ClassId} {lo : Nat} {ad : Nat → Nat} {adother : Nat → Nat} {P : HisS → CacS → Heap → Prop} (hC : ∀ z0 : CacS, cx G lo 202 ad (ceHistory cA ad) (fun x => P x z0)) (hCother : ∀ z0 : HisS, cx G lo 25 adother (ceCache cA adother) (fun x => P z0 x)) {N : Nat} {η : HisS} {σ : CacS} {res : HisS} (hf : f_X3_keep N η σ = some res) : Met l yX3_keep (cW yX3_keep cX3_keep 3 none) rm_X3_keep (cP [.ref (ad 0), .ref (adother 0)] (P η σ) G cA) (cQ none (P res σ)) 0 0 (fun q => lo ≤ q) := by
  refine cx_met (by decide) (Nat.le_of_ble_eq_true rfl) (fun p e s m args below meth c ls C0 hP hl => ?_)
  have hl : lv_has ls 3 [(0, .ref (ad 0)), (1, .ref (adother 0))] := hl
  obtain ⟨⟨hx, hb, hml, hown, hts⟩, hr, hlocks, hK⟩ := id C0
  have hL : ∀ q ∈ ([] : List Loc), lo ≤ q.base := fun q h => nomatch h
  unfold f_X3_keep at hf
  refine lv_aload_n hx hb dX3_keep_0 rfl (lv_at hl 0 rfl) ?_
  refine g_History_1 (hC σ) hP hx hb hts hown hK mw_162 dX3_keep_1 ?_
  refine lv_if_lt (tgt := 28) hx hb dX3_keep_4 (by decide) (fun c1 => ?_) (fun c1 => ?_)
  · have hf := cx_t hf c1
    refine lv_null hx hb dX3_keep_28 ?_
    refine lv_astore_nN (lv' := [(2, .null), (0, .ref (ad 0)), (1, .ref (adother 0))]) hx hb dX3_keep_29 rfl hl (by decide) rfl (fun ls hl => ?_)
    refine lv_aload_nN hx hb dX3_keep_30 rfl (lv_at hl 0 rfl) ?_
    refine lv_ifnonnullN hx hb dX3_keep_31 ?_
    cases hf
    exact cx_vret hx hb hr hlocks hP hL dX3_keep_34
  · have hf := cx_f hf c1
    refine lv_aload_n hx hb dX3_keep_7 rfl (lv_at hl 0 rfl) ?_
    refine g_History_1 (hC σ) hP hx hb hts hown hK mw_162 dX3_keep_8 ?_
    refine lv_bipush (v := 8) hx hb dX3_keep_11 (by decide) ?_
    refine lv_icmp_ge (tgt := 28) hx hb dX3_keep_13 (by decide) (fun c2 => ?_) (fun c2 => ?_)
    · have hf := cx_t hf c2
      refine lv_null hx hb dX3_keep_28 ?_
      refine lv_astore_nN (lv' := [(2, .null), (0, .ref (ad 0)), (1, .ref (adother 0))]) hx hb dX3_keep_29 rfl hl (by decide) rfl (fun ls hl => ?_)
      refine lv_aload_nN hx hb dX3_keep_30 rfl (lv_at hl 0 rfl) ?_
      refine lv_ifnonnullN hx hb dX3_keep_31 ?_
      cases hf
      exact cx_vret hx hb hr hlocks hP hL dX3_keep_34
    · have hf := cx_f hf c2
      refine lv_aload_n hx hb dX3_keep_16 rfl (lv_at hl 0 rfl) ?_
      refine g_History_0 (hC σ) hP hx hb hts hown hK mw_112 dX3_keep_17 ?_
      refine lv_aload_n hx hb dX3_keep_20 rfl (lv_at hl 0 rfl) ?_
      refine g_History_1 (hC σ) hP hx hb hts hown hK mw_162 dX3_keep_21 ?_
      obtain ⟨hi3, hf⟩ := gdE hf
      refine gh_History (hC σ) hP hx hb hK hi3 dX3_keep_24 ?_
      refine lv_goto (tgt := 29) hx hb dX3_keep_25 (by decide) ?_
      refine lv_astore_n (lv' := [(2, .ref ((adHis ad (Int32.toNatClampNeg (η.1.2 1))) 0)), (0, .ref (ad 0)), (1, .ref (adother 0))]) hx hb dX3_keep_29 rfl hl (by decide) rfl (fun ls hl => ?_)
      refine lv_aload_n hx hb dX3_keep_30 rfl (lv_at hl 0 rfl) ?_
      refine lv_ifnonnull (tgt := 35) hx hb dX3_keep_31 (by decide) ?_
      refine lv_aload_n hx hb dX3_keep_35 rfl (lv_at hl 0 rfl) ?_
      refine lv_aload_n hx hb dX3_keep_36 rfl (lv_at hl 2 rfl) ?_
      obtain ⟨r4, q5, hf⟩ := cx_b hf
      refine cx_callV (As := [.ref (adother 0)]) (rest := []) ⟨hx, hb, hml, hown, hts⟩ (c_X1_copyFrom (fun z => cx_his (hC z) η (Int32.toNatClampNeg (η.1.2 1)) (vp_lt hi3)) (fun z => (hCother (η.1, va_up η.2 (Int32.toNatClampNeg (η.1.2 1)) z))) q5) (cwV 1 hts (gV mw_167 mw_168 mw_169 mw_29 mw_170) rfl rfl rfl hd_X1_copyFrom ⟨Nat.le_of_ble_eq_true rfl, Nat.le_of_ble_eq_true rfl⟩) hK (show P (η.1, va_up η.2 (Int32.toNatClampNeg (η.1.2 1)) (η.2 (Int32.toNatClampNeg (η.1.2 1)))) σ _ by (repeat rw [va_up_id]); exact hP) rfl (at_Cache (cx_his (hC σ) η (Int32.toNatClampNeg (η.1.2 1)) (vp_lt hi3)) (show P (η.1, va_up η.2 (Int32.toNatClampNeg (η.1.2 1)) (η.2 (Int32.toNatClampNeg (η.1.2 1)))) σ _ by (repeat rw [va_up_id]); exact hP)) rfl hl.1 rfl (Nat.le_of_ble_eq_true rfl) dX3_keep_37 ⟨Nat.zero_le _, Nat.zero_le _⟩ hL (fun H locs hP hL => ?_)
      obtain ⟨z6, ez6, hf⟩ := cx_letE hf
      replace hP : P z6 σ H := by rw [← ez6]; (first | exact hP | (simpa only [va_up_id] using hP))
      replace hP : P z6 σ H := by first | exact hP | (simpa only [va_up_id] using hP)
      refine lv_aload_n hx hb dX3_keep_40 rfl (lv_at hl 1 rfl) ?_
      refine lv_aload_n hx hb dX3_keep_41 rfl (lv_at hl 1 rfl) ?_
      refine g_History_1 (hC σ) hP hx hb hts hown hK mw_162 dX3_keep_42 ?_
      refine lv_iconst (v := 1) hx hb dX3_keep_45 (by decide) ?_
      refine lv_iadd hx hb dX3_keep_46 ?_
      refine lv_bipush (v := 8) hx hb dX3_keep_47 (by decide) ?_
      refine lv_irem hx hb dX3_keep_49 (by decide) ?_
      obtain ⟨z7, ez7, hf⟩ := cx_letE hf
      refine p_History_1 (hC σ) hP hx hb hts hown hK mw_162 dX3_keep_50 hL (fun H locs hP hL => ?_)
      replace hP : P z7 σ H := by rw [← ez7]; exact hP
      refine lv_aload_n hx hb dX3_keep_53 rfl (lv_at hl 1 rfl) ?_
      refine lv_bipush (v := 8) hx hb dX3_keep_54 (by decide) ?_
      refine lv_aload_n hx hb dX3_keep_56 rfl (lv_at hl 1 rfl) ?_
      refine g_History_2 (hC σ) hP hx hb hts hown hK mw_163 dX3_keep_57 ?_
      refine lv_iconst (v := 1) hx hb dX3_keep_60 (by decide) ?_
      refine lv_iadd hx hb dX3_keep_61 ?_
      refine va_mmin hx hb (hml.trans hl.1.symm) hown (hts _ mw_164) (hts _ mw_165) (hts _ mw_131) (hts _ mw_166) (Nat.le_of_ble_eq_true rfl) (Nat.le_of_ble_eq_true rfl) (Nat.zero_le _) (Nat.zero_le _) dX3_keep_62 ?_
      obtain ⟨z8, ez8, hf⟩ := cx_letE hf
      refine p_History_2 (hC σ) hP hx hb hts hown hK mw_163 dX3_keep_65 hL (fun H locs hP hL => ?_)
      replace hP : P z8 σ H := by rw [← ez8]; exact hP
      cases hf
      exact cx_vret hx hb hr hlocks hP hL dX3_keep_68
abbrev rm_X3_takeBack : Room := { frames := 3, cells := 0, slots := 0, locals := 105 }
theorem hd_X3_takeBack : yX3_takeBack.cls = RX3 ∧ yX3_takeBack.cls ≠ "java/lang/invoke/MethodHandle" ∧ yX3_takeBack.cls ≠ "java/lang/invoke/VarHandle" ∧ (parseMethodDescriptor yX3_takeBack.desc).map (fun d => d.parameters.length) = some 1 := by decide +kernel
def f_X3_takeBack (N : Nat) (η : HisS) (σ : CacS) : Option (Int32 × HisS × CacS) := if η.1.2 1 = 0 then gd 7 8 (if η.1.2 2 = 0 then some (0, η, σ) else (f_X1_copyFrom N σ (η.2 (Int32.toNatClampNeg 7))).bind fun r14 => cx_let ((oI η.1 1 7, η.2)) fun z16 => cx_let ((oI z16.1 2 (z16.1.2 2 - 1), z16.2)) fun z17 => some (1, z17, r14)) else if (η.1.2 1 - 1) < 0 then if η.1.2 2 = 0 then some (0, η, σ) else some (0, η, σ) else if 8 ≤ (η.1.2 1 - 1) then if η.1.2 2 = 0 then some (0, η, σ) else some (0, η, σ) else gd (η.1.2 1 - 1) 8 (if η.1.2 2 = 0 then some (0, η, σ) else (f_X1_copyFrom N σ (η.2 (Int32.toNatClampNeg (η.1.2 1 - 1)))).bind fun r8 => cx_let ((oI η.1 1 (η.1.2 1 - 1), η.2)) fun z10 => cx_let ((oI z10.1 2 (z10.1.2 2 - 1), z10.2)) fun z11 => some (1, z11, r8))
set_option maxHeartbeats 4000000 in
set_option maxRecDepth 100000 in
theorem c_X3_takeBack {l : Launch} {G : va_G} {cA : Nat → ClassId} {lo : Nat} {ad : Nat → Nat} {adother : Nat → Nat} {P : HisS → CacS → Heap → Prop} (hC : ∀ z0 : CacS, cx G lo 202 ad (ceHistory cA ad) (fun x => P x z0)) (hCother : ∀ z0 : HisS, cx G lo 25 adother (ceCache cA adother) (fun x => P z0 x)) {N : Nat} {η : HisS} {σ : CacS} {res : Int32 × HisS × CacS} (hf : f_X3_takeBack N η σ = some res) : Met l yX3_takeBack (cW yX3_takeBack cX3_takeBack 4 (some .boolean)) rm_X3_takeBack (cP [.ref (ad 0), .ref (adother 0)] (P η σ) G cA) (cQ (some (.int res.1)) (P res.2.1 res.2.2)) 0 0 (fun q => lo ≤ q) := by
  refine cx_met (by decide) (Nat.le_of_ble_eq_true rfl) (fun p e s m args below meth c ls C0 hP hl => ?_)
  have hl : lv_has ls 4 [(0, .ref (ad 0)), (1, .ref (adother 0))] := hl
  obtain ⟨⟨hx, hb, hml, hown, hts⟩, hr, hlocks, hK⟩ := id C0
  have hL : ∀ q ∈ ([] : List Loc), lo ≤ q.base := fun q h => nomatch h
  unfold f_X3_takeBack at hf
  refine lv_aload_n hx hb dX3_takeBack_0 rfl (lv_at hl 0 rfl) ?_
  refine g_History_1 (hC σ) hP hx hb hts hown hK mw_162 dX3_takeBack_1 ?_
  refine lv_if_ne (tgt := 12) hx hb dX3_takeBack_4 (by decide) (fun c1 => ?_) (fun c1 => ?_)
  · have hf := cx_f hf c1
    refine lv_aload_n hx hb dX3_takeBack_12 rfl (lv_at hl 0 rfl) ?_
    refine g_History_1 (hC σ) hP hx hb hts hown hK mw_162 dX3_takeBack_13 ?_
    refine lv_iconst (v := 1) hx hb dX3_takeBack_16 (by decide) ?_
    refine lv_isub hx hb dX3_takeBack_17 ?_
    refine lv_istore_n (lv' := [(2, .int (η.1.2 1 - 1)), (0, .ref (ad 0)), (1, .ref (adother 0))]) hx hb dX3_takeBack_18 rfl hl (by decide) rfl (fun ls hl => ?_)
    refine lv_iload_n hx hb dX3_takeBack_19 rfl (lv_at hl 0 rfl) ?_
    refine lv_if_lt (tgt := 38) hx hb dX3_takeBack_20 (by decide) (fun c2 => ?_) (fun c2 => ?_)
    · have hf := cx_t hf c2
      refine lv_null hx hb dX3_takeBack_38 ?_
      refine lv_astore_nN (lv' := [(3, .null), (2, .int (η.1.2 1 - 1)), (0, .ref (ad 0)), (1, .ref (adother 0))]) hx hb dX3_takeBack_39 rfl hl (by decide) rfl (fun ls hl => ?_)
      refine lv_aload_n hx hb dX3_takeBack_40 rfl (lv_at hl 2 rfl) ?_
      refine g_History_2 (hC σ) hP hx hb hts hown hK mw_163 dX3_takeBack_41 ?_
      refine lv_if_eq (tgt := 51) hx hb dX3_takeBack_44 (by decide) (fun c3 => ?_) (fun c3 => ?_)
      · have hf := cx_t hf c3
        refine lv_iconst (v := 0) hx hb dX3_takeBack_51 (by decide) ?_
        cases hf
        exact cx_zret hx hb hr hlocks (Or.inl rfl) hP hL dX3_takeBack_52
      · have hf := cx_f hf c3
        refine lv_aload_nN hx hb dX3_takeBack_47 rfl (lv_at hl 0 rfl) ?_
        refine lv_ifnonnullN hx hb dX3_takeBack_48 ?_
        refine lv_iconst (v := 0) hx hb dX3_takeBack_51 (by decide) ?_
        cases hf
        exact cx_zret hx hb hr hlocks (Or.inl rfl) hP hL dX3_takeBack_52
    · have hf := cx_f hf c2
      refine lv_iload_n hx hb dX3_takeBack_23 rfl (lv_at hl 0 rfl) ?_
      refine lv_bipush (v := 8) hx hb dX3_takeBack_24 (by decide) ?_
      refine lv_icmp_ge (tgt := 38) hx hb dX3_takeBack_26 (by decide) (fun c4 => ?_) (fun c4 => ?_)
      · have hf := cx_t hf c4
        refine lv_null hx hb dX3_takeBack_38 ?_
        refine lv_astore_nN (lv' := [(3, .null), (2, .int (η.1.2 1 - 1)), (0, .ref (ad 0)), (1, .ref (adother 0))]) hx hb dX3_takeBack_39 rfl hl (by decide) rfl (fun ls hl => ?_)
        refine lv_aload_n hx hb dX3_takeBack_40 rfl (lv_at hl 2 rfl) ?_
        refine g_History_2 (hC σ) hP hx hb hts hown hK mw_163 dX3_takeBack_41 ?_
        refine lv_if_eq (tgt := 51) hx hb dX3_takeBack_44 (by decide) (fun c5 => ?_) (fun c5 => ?_)
        · have hf := cx_t hf c5
          refine lv_iconst (v := 0) hx hb dX3_takeBack_51 (by decide) ?_
          cases hf
          exact cx_zret hx hb hr hlocks (Or.inl rfl) hP hL dX3_takeBack_52
        · have hf := cx_f hf c5
          refine lv_aload_nN hx hb dX3_takeBack_47 rfl (lv_at hl 0 rfl) ?_
          refine lv_ifnonnullN hx hb dX3_takeBack_48 ?_
          refine lv_iconst (v := 0) hx hb dX3_takeBack_51 (by decide) ?_
          cases hf
          exact cx_zret hx hb hr hlocks (Or.inl rfl) hP hL dX3_takeBack_52
      · have hf := cx_f hf c4
        refine lv_aload_n hx hb dX3_takeBack_29 rfl (lv_at hl 1 rfl) ?_
        refine g_History_0 (hC σ) hP hx hb hts hown hK mw_112 dX3_takeBack_30 ?_
        refine lv_iload_n hx hb dX3_takeBack_33 rfl (lv_at hl 0 rfl) ?_
        obtain ⟨hi6, hf⟩ := gdE hf
        refine gh_History (hC σ) hP hx hb hK hi6 dX3_takeBack_34 ?_
        refine lv_goto (tgt := 39) hx hb dX3_takeBack_35 (by decide) ?_
        refine lv_astore_n (lv' := [(3, .ref ((adHis ad (Int32.toNatClampNeg (η.1.2 1 - 1))) 0)), (2, .int (η.1.2 1 - 1)), (0, .ref (ad 0)), (1, .ref (adother 0))]) hx hb dX3_takeBack_39 rfl hl (by decide) rfl (fun ls hl => ?_)
        refine lv_aload_n hx hb dX3_takeBack_40 rfl (lv_at hl 2 rfl) ?_
        refine g_History_2 (hC σ) hP hx hb hts hown hK mw_163 dX3_takeBack_41 ?_
        refine lv_if_eq (tgt := 51) hx hb dX3_takeBack_44 (by decide) (fun c7 => ?_) (fun c7 => ?_)
        · have hf := cx_t hf c7
          refine lv_iconst (v := 0) hx hb dX3_takeBack_51 (by decide) ?_
          cases hf
          exact cx_zret hx hb hr hlocks (Or.inl rfl) hP hL dX3_takeBack_52
        · have hf := cx_f hf c7
          refine lv_aload_n hx hb dX3_takeBack_47 rfl (lv_at hl 0 rfl) ?_
          refine lv_ifnonnull (tgt := 53) hx hb dX3_takeBack_48 (by decide) ?_
          refine lv_aload_n hx hb dX3_takeBack_53 rfl (lv_at hl 3 rfl) ?_
          refine lv_aload_n hx hb dX3_takeBack_54 rfl (lv_at hl 0 rfl) ?_
          obtain ⟨r8, q9, hf⟩ := cx_b hf
          refine cx_callV (As := [.ref ((adHis ad (Int32.toNatClampNeg (η.1.2 1 - 1))) 0)]) (rest := []) ⟨hx, hb, hml, hown, hts⟩ (c_X1_copyFrom (fun z => (hCother (η.1, va_up η.2 (Int32.toNatClampNeg (η.1.2 1 - 1)) z))) (fun z => cx_his (hC z) η (Int32.toNatClampNeg (η.1.2 1 - 1)) (vp_lt hi6)) q9) (cwV 1 hts (gV mw_167 mw_168 mw_169 mw_29 mw_170) rfl rfl rfl hd_X1_copyFrom ⟨Nat.le_of_ble_eq_true rfl, Nat.le_of_ble_eq_true rfl⟩) hK (show P (η.1, va_up η.2 (Int32.toNatClampNeg (η.1.2 1 - 1)) (η.2 (Int32.toNatClampNeg (η.1.2 1 - 1)))) σ _ by (repeat rw [va_up_id]); exact hP) rfl (at_Cache (hCother η) hP) rfl hl.1 rfl (Nat.le_of_ble_eq_true rfl) dX3_takeBack_55 ⟨Nat.zero_le _, Nat.zero_le _⟩ hL (fun H locs hP hL => ?_)
          replace hP : P η r8 H := by first | exact hP | (simpa only [va_up_id] using hP)
          refine lv_aload_n hx hb dX3_takeBack_58 rfl (lv_at hl 2 rfl) ?_
          refine lv_iload_n hx hb dX3_takeBack_59 rfl (lv_at hl 1 rfl) ?_
          obtain ⟨z10, ez10, hf⟩ := cx_letE hf
          refine p_History_1 (hC r8) hP hx hb hts hown hK mw_162 dX3_takeBack_60 hL (fun H locs hP hL => ?_)
          replace hP : P z10 r8 H := by rw [← ez10]; exact hP
          refine lv_aload_n hx hb dX3_takeBack_63 rfl (lv_at hl 2 rfl) ?_
          refine lv_dup hx hb dX3_takeBack_64 rfl ?_
          refine g_History_2 (hC r8) hP hx hb hts hown hK mw_163 dX3_takeBack_65 ?_
          refine lv_iconst (v := 1) hx hb dX3_takeBack_68 (by decide) ?_
          refine lv_isub hx hb dX3_takeBack_69 ?_
          obtain ⟨z11, ez11, hf⟩ := cx_letE hf
          refine p_History_2 (hC r8) hP hx hb hts hown hK mw_163 dX3_takeBack_70 hL (fun H locs hP hL => ?_)
          replace hP : P z11 r8 H := by rw [← ez11]; exact hP
          refine lv_iconst (v := 1) hx hb dX3_takeBack_73 (by decide) ?_
          cases hf
          exact cx_zret hx hb hr hlocks (Or.inr rfl) hP hL dX3_takeBack_74
  · have hf := cx_t hf c1
    refine lv_bipush (v := 7) hx hb dX3_takeBack_7 (by decide) ?_
    refine lv_goto (tgt := 18) hx hb dX3_takeBack_9 (by decide) ?_
    refine lv_istore_n (lv' := [(2, .int 7), (0, .ref (ad 0)), (1, .ref (adother 0))]) hx hb dX3_takeBack_18 rfl hl (by decide) rfl (fun ls hl => ?_)
    refine lv_iload_n hx hb dX3_takeBack_19 rfl (lv_at hl 0 rfl) ?_
    refine lv_if_lt (tgt := 38) hx hb dX3_takeBack_20 (by decide) (fun q => absurd q (by decide)) (fun _ => ?_)
    refine lv_iload_n hx hb dX3_takeBack_23 rfl (lv_at hl 0 rfl) ?_
    refine lv_bipush (v := 8) hx hb dX3_takeBack_24 (by decide) ?_
    refine lv_icmp_ge (tgt := 38) hx hb dX3_takeBack_26 (by decide) (fun q => absurd q (by decide)) (fun _ => ?_)
    refine lv_aload_n hx hb dX3_takeBack_29 rfl (lv_at hl 1 rfl) ?_
    refine g_History_0 (hC σ) hP hx hb hts hown hK mw_112 dX3_takeBack_30 ?_
    refine lv_iload_n hx hb dX3_takeBack_33 rfl (lv_at hl 0 rfl) ?_
    obtain ⟨hi12, hf⟩ := gdE hf
    refine gh_History (hC σ) hP hx hb hK hi12 dX3_takeBack_34 ?_
    refine lv_goto (tgt := 39) hx hb dX3_takeBack_35 (by decide) ?_
    refine lv_astore_n (lv' := [(3, .ref ((adHis ad (Int32.toNatClampNeg 7)) 0)), (2, .int 7), (0, .ref (ad 0)), (1, .ref (adother 0))]) hx hb dX3_takeBack_39 rfl hl (by decide) rfl (fun ls hl => ?_)
    refine lv_aload_n hx hb dX3_takeBack_40 rfl (lv_at hl 2 rfl) ?_
    refine g_History_2 (hC σ) hP hx hb hts hown hK mw_163 dX3_takeBack_41 ?_
    refine lv_if_eq (tgt := 51) hx hb dX3_takeBack_44 (by decide) (fun c13 => ?_) (fun c13 => ?_)
    · have hf := cx_t hf c13
      refine lv_iconst (v := 0) hx hb dX3_takeBack_51 (by decide) ?_
      cases hf
      exact cx_zret hx hb hr hlocks (Or.inl rfl) hP hL dX3_takeBack_52
    · have hf := cx_f hf c13
      refine lv_aload_n hx hb dX3_takeBack_47 rfl (lv_at hl 0 rfl) ?_
      refine lv_ifnonnull (tgt := 53) hx hb dX3_takeBack_48 (by decide) ?_
      refine lv_aload_n hx hb dX3_takeBack_53 rfl (lv_at hl 3 rfl) ?_
      refine lv_aload_n hx hb dX3_takeBack_54 rfl (lv_at hl 0 rfl) ?_
      obtain ⟨r14, q15, hf⟩ := cx_b hf
      refine cx_callV (As := [.ref ((adHis ad (Int32.toNatClampNeg 7)) 0)]) (rest := []) ⟨hx, hb, hml, hown, hts⟩ (c_X1_copyFrom (fun z => (hCother (η.1, va_up η.2 (Int32.toNatClampNeg 7) z))) (fun z => cx_his (hC z) η (Int32.toNatClampNeg 7) (vp_lt hi12)) q15) (cwV 1 hts (gV mw_167 mw_168 mw_169 mw_29 mw_170) rfl rfl rfl hd_X1_copyFrom ⟨Nat.le_of_ble_eq_true rfl, Nat.le_of_ble_eq_true rfl⟩) hK (show P (η.1, va_up η.2 (Int32.toNatClampNeg 7) (η.2 (Int32.toNatClampNeg 7))) σ _ by (repeat rw [va_up_id]); exact hP) rfl (at_Cache (hCother η) hP) rfl hl.1 rfl (Nat.le_of_ble_eq_true rfl) dX3_takeBack_55 ⟨Nat.zero_le _, Nat.zero_le _⟩ hL (fun H locs hP hL => ?_)
      replace hP : P η r14 H := by first | exact hP | (simpa only [va_up_id] using hP)
      refine lv_aload_n hx hb dX3_takeBack_58 rfl (lv_at hl 2 rfl) ?_
      refine lv_iload_n hx hb dX3_takeBack_59 rfl (lv_at hl 1 rfl) ?_
      obtain ⟨z16, ez16, hf⟩ := cx_letE hf
      refine p_History_1 (hC r14) hP hx hb hts hown hK mw_162 dX3_takeBack_60 hL (fun H locs hP hL => ?_)
      replace hP : P z16 r14 H := by rw [← ez16]; exact hP
      refine lv_aload_n hx hb dX3_takeBack_63 rfl (lv_at hl 2 rfl) ?_
      refine lv_dup hx hb dX3_takeBack_64 rfl ?_
      refine g_History_2 (hC r14) hP hx hb hts hown hK mw_163 dX3_takeBack_65 ?_
      refine lv_iconst (v := 1) hx hb dX3_takeBack_68 (by decide) ?_
      refine lv_isub hx hb dX3_takeBack_69 ?_
      obtain ⟨z17, ez17, hf⟩ := cx_letE hf
      refine p_History_2 (hC r14) hP hx hb hts hown hK mw_163 dX3_takeBack_70 hL (fun H locs hP hL => ?_)
      replace hP : P z17 r14 H := by rw [← ez17]; exact hP
      refine lv_iconst (v := 1) hx hb dX3_takeBack_73 (by decide) ?_
      cases hf
      exact cx_zret hx hb hr hlocks (Or.inr rfl) hP hL dX3_takeBack_74
