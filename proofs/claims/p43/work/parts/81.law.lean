abbrev rm_L_at : Room := { frames := 0, cells := 0, slots := 0, locals := 0 }
theorem hd_L_at : yL_at.cls = RL ∧ yL_at.cls ≠ "java/lang/invoke/MethodHandle" ∧ yL_at.cls ≠ "java/lang/invoke/VarHandle" ∧ (parseMethodDescriptor yL_at.desc).map (fun d => d.parameters.length) = some 2 := by decide +kernel
def f_L_at_b13 (z : ZS) (x1 : Int32) (y0 : Int32) : Option (Int32) := if y0 ≤ 0 then some y0 else if 512 ≤ y0 then some y0 else some ((y0 * -1640531535) ^^^ (x1 * -2048144789))
set_option maxHeartbeats 4000000 in
set_option maxRecDepth 100000 in
theorem w_L_at_b13 {p : Program} {l : Launch} {e : Env} {s : State} {m : MethodId} {args : Array Value} {below : List Frame} {meth : Method} {c : Code} {G : va_G} {cA : Nat → ClassId} (C0 : cB p s m args meth c RL cL_at 3 (some .int) G cA) {lo : Nat} {z : ZS} (hZ : Zt lo z s) {PH : Heap → Prop} {res : Int32} : ∀ (x1 : Int32) (y0 : Int32) (H : Heap) (locs : List Loc) (ls : Array Slot), f_L_at_b13 z x1 y0 = some res → PH H → (∀ q ∈ locs, lo ≤ q.base) → lv_has ls 3 [(1, .int x1)] → W p l e rm_L_at s m args below meth c H locs 0 0 (MQ below (cQ (some (.int res)) (PH)) args s 0 0 (fun q => lo ≤ q)) (F0 m 13 ls [.int y0]) := by
  obtain ⟨⟨hx, hb, hml, hown, hts⟩, hr, hlocks, hK⟩ := id C0
  intro x1 y0 H locs ls hf hP hL hl
  unfold f_L_at_b13 at hf
  refine lv_istore_n (lv' := [(2, .int y0), (1, .int x1)]) hx hb dL_at_13 rfl hl (by decide) rfl (fun ls hl => ?_)
  refine lv_iload_n hx hb dL_at_14 rfl (lv_at hl 0 rfl) ?_
  refine lv_if_le (tgt := 37) hx hb dL_at_15 (by decide) (fun c1 => ?_) (fun c1 => ?_)
  · have hf := cx_t hf c1
    refine lv_iload_n hx hb dL_at_37 rfl (lv_at hl 0 rfl) ?_
    cases hf
    exact cx_iret hx hb hr hlocks hP hL dL_at_38
  · have hf := cx_f hf c1
    refine lv_iload_n hx hb dL_at_18 rfl (lv_at hl 0 rfl) ?_
    refine lv_sipush (v := 512) hx hb dL_at_19 (by decide) ?_
    refine lv_icmp_ge (tgt := 37) hx hb dL_at_22 (by decide) (fun c2 => ?_) (fun c2 => ?_)
    · have hf := cx_t hf c2
      refine lv_iload_n hx hb dL_at_37 rfl (lv_at hl 0 rfl) ?_
      cases hf
      exact cx_iret hx hb hr hlocks hP hL dL_at_38
    · have hf := cx_f hf c2
      refine lv_iload_n hx hb dL_at_25 rfl (lv_at hl 0 rfl) ?_
      refine lv_ldc (v := -1640531535) hx hb hown (hts _ mw_139) dL_at_26 ?_
      refine lv_imul hx hb dL_at_28 ?_
      refine lv_iload_n hx hb dL_at_29 rfl (lv_at hl 1 rfl) ?_
      refine lv_ldc (v := -2048144789) hx hb hown (hts _ mw_140) dL_at_30 ?_
      refine lv_imul hx hb dL_at_32 ?_
      refine lv_ixor hx hb dL_at_33 ?_
      refine lv_goto (tgt := 38) hx hb dL_at_34 (by decide) ?_
      cases hf
      exact cx_iret hx hb hr hlocks hP hL dL_at_38
def f_L_at (z : ZS) (p1 : Int32) : Option (Int32) := if (Int32.ofNat z.2.1) ≤ p1 then f_L_at_b13 z p1 0 else gd p1 z.2.1 (f_L_at_b13 z p1 (z.2.2 (Int32.toNatClampNeg p1)))
set_option maxHeartbeats 4000000 in
set_option maxRecDepth 100000 in
theorem c_L_at {l : Launch} {G : va_G} {cA : Nat → ClassId} {lo : Nat} {z : ZS} {PH : Heap → Prop} {p1 : Int32} {res : Int32} (hf : f_L_at z p1 = some res) : Met l yL_at (cW yL_at cL_at 3 (some .int)) rm_L_at (cPZ lo z [.ref z.1, .int p1] (PH) G cA) (cQ (some (.int res)) (PH)) 0 0 (fun q => lo ≤ q) := by
  refine cx_metZ (by decide) (Nat.le_of_ble_eq_true rfl) (fun p e s m args below meth c ls C0 hZ hP hl => ?_)
  have hl : lv_has ls 3 [(0, .ref z.1), (1, .int p1)] := hl
  obtain ⟨⟨hx, hb, hml, hown, hts⟩, hr, hlocks, hK⟩ := id C0
  have hL : ∀ q ∈ ([] : List Loc), lo ≤ q.base := fun q h => nomatch h
  unfold f_L_at at hf
  refine lv_iload_n hx hb dL_at_0 rfl (lv_at hl 1 rfl) ?_
  refine lv_aload_n hx hb dL_at_1 rfl (lv_at hl 0 rfl) ?_
  refine cz_S hL (fun hS => va_slen hx hb hZ.2.2 hZ.2.1 (Nat.not_le.mpr hZ.1) hS dL_at_2 ?_)
  refine lv_icmp_ge (tgt := 12) hx hb dL_at_3 (by decide) (fun c1 => ?_) (fun c1 => ?_)
  · have hf := cx_t hf c1
    refine lv_iconst (v := 0) hx hb dL_at_12 (by decide) ?_
    exact w_L_at_b13 C0 hZ p1 0 _ _ _ hf hP hL (lv_sub hl [1] rfl)
  · have hf := cx_f hf c1
    refine lv_aload_n hx hb dL_at_6 rfl (lv_at hl 0 rfl) ?_
    refine lv_iload_n hx hb dL_at_7 rfl (lv_at hl 1 rfl) ?_
    obtain ⟨hi2, hf⟩ := gdE hf
    refine cz_S hL (fun hS => va_sld hx hb hZ.2.2 hZ.2.1 (Nat.not_le.mpr hZ.1) hS hi2 dL_at_8 ?_)
    refine lv_goto (tgt := 13) hx hb dL_at_9 (by decide) ?_
    exact w_L_at_b13 C0 hZ p1 (z.2.2 (Int32.toNatClampNeg p1)) _ _ _ hf hP hL (lv_sub hl [1] rfl)
abbrev rm_L_draw : Room := { frames := 1, cells := 0, slots := 0, locals := 22 }
theorem hd_L_draw : yL_draw.cls = RL ∧ yL_draw.cls ≠ "java/lang/invoke/MethodHandle" ∧ yL_draw.cls ≠ "java/lang/invoke/VarHandle" ∧ (parseMethodDescriptor yL_draw.desc).map (fun d => d.parameters.length) = some 1 := by decide +kernel
def f_L_draw (z : ZS) (δ : LwS) (p0 : Int32) : Option (Int32 × LwS) := dz (if 1 < (Int32.ofNat z.2.1) then (Int32.ofNat z.2.1) else 1) ((f_L_at z ((δ.1.2 2) - (δ.1.2 2) / (if 1 < (Int32.ofNat z.2.1) then (Int32.ofNat z.2.1) else 1) * (if 1 < (Int32.ofNat z.2.1) then (Int32.ofNat z.2.1) else 1))).bind fun r2 => cx_let ((oI δ.1 2 ((δ.1.2 2) + 1), δ.2)) fun z4 => dz p0 (some (((((((r2 + ((δ.1.2 2) * 668265263)) ^^^ (ushr (r2 + ((δ.1.2 2) * 668265263)) 15)) * 739982445) ^^^ (ushr (((r2 + ((δ.1.2 2) * 668265263)) ^^^ (ushr (r2 + ((δ.1.2 2) * 668265263)) 15)) * 739982445) 13)) &&& 2147483647) - (((((r2 + ((δ.1.2 2) * 668265263)) ^^^ (ushr (r2 + ((δ.1.2 2) * 668265263)) 15)) * 739982445) ^^^ (ushr (((r2 + ((δ.1.2 2) * 668265263)) ^^^ (ushr (r2 + ((δ.1.2 2) * 668265263)) 15)) * 739982445) 13)) &&& 2147483647) / p0 * p0), z4)))
set_option maxHeartbeats 4000000 in
set_option maxRecDepth 100000 in
theorem c_L_draw {l : Launch} {G : va_G} {cA : Nat → ClassId} {lo : Nat} {z : ZS} {ad : Nat → Nat} {sv : Nat → Option Nat} {P : LwS → Heap → Prop} (hC : cx G lo 264 ad (ceLaw z.1 sv cA ad) P) {δ : LwS} {p0 : Int32} {res : Int32 × LwS} (hf : f_L_draw z δ p0 = some res) : Met l yL_draw (cW yL_draw cL_draw 3 (some .int)) rm_L_draw (cPZ lo z [.ref (ad 0), .int p0] (P δ) G cA) (cQ (some (.int res.1)) (P res.2)) 0 0 (fun q => lo ≤ q) := by
  refine cx_metZ (by decide) (Nat.le_of_ble_eq_true rfl) (fun p e s m args below meth c ls C0 hZ hP hl => ?_)
  have hl : lv_has ls 3 [(0, .ref (ad 0)), (1, .int p0)] := hl
  obtain ⟨⟨hx, hb, hml, hown, hts⟩, hr, hlocks, hK⟩ := id C0
  have hL : ∀ q ∈ ([] : List Loc), lo ≤ q.base := fun q h => nomatch h
  unfold f_L_draw at hf
  refine lv_aload_n hx hb dL_draw_0 rfl (lv_at hl 0 rfl) ?_
  refine g_Law_1 hC hP hx hb hts hown hK mw_118 dL_draw_1 ?_
  refine lv_aload_n hx hb dL_draw_4 rfl (lv_at hl 0 rfl) ?_
  refine g_Law_2 hC hP hx hb hts hown hK mw_128 dL_draw_5 ?_
  refine lv_iconst (v := 1) hx hb dL_draw_8 (by decide) ?_
  refine lv_aload_n hx hb dL_draw_9 rfl (lv_at hl 0 rfl) ?_
  refine g_Law_1 hC hP hx hb hts hown hK mw_118 dL_draw_10 ?_
  refine cz_S hL (fun hS => va_slen hx hb hZ.2.2 hZ.2.1 (Nat.not_le.mpr hZ.1) hS dL_draw_13 ?_)
  refine va_mmax hx hb (hml.trans hl.1.symm) hown (hts _ mw_129) (hts _ mw_130) (hts _ mw_131) (hts _ mw_132) (Nat.le_of_ble_eq_true rfl) (Nat.le_of_ble_eq_true rfl) (Nat.zero_le _) (Nat.zero_le _) dL_draw_14 ?_
  obtain ⟨hd1, hf⟩ := dzE hf
  refine lv_irem hx hb dL_draw_17 hd1 ?_
  obtain ⟨r2, q3, hf⟩ := cx_b hf
  refine cx_callSZ (As := [.ref z.1, .int ((δ.1.2 2) - (δ.1.2 2) / (if 1 < (Int32.ofNat z.2.1) then (Int32.ofNat z.2.1) else 1) * (if 1 < (Int32.ofNat z.2.1) then (Int32.ofNat z.2.1) else 1))]) (rest := []) ⟨hx, hb, hml, hown, hts⟩ (c_L_at (PH := P δ) (z := z) q3) (cwS 2 hts (gS mw_136 mw_137 mw_2 mw_138) rfl rfl rfl hd_L_at ⟨Nat.le_of_ble_eq_true rfl, Nat.le_of_ble_eq_true rfl⟩) hK hZ hP rfl hl.1 rfl (Nat.le_of_ble_eq_true rfl) dL_draw_18 ⟨Nat.zero_le _, Nat.zero_le _⟩ hL (fun H locs hP hL => ?_)
  refine lv_aload_n hx hb dL_draw_21 rfl (lv_at hl 0 rfl) ?_
  refine g_Law_2 hC hP hx hb hts hown hK mw_128 dL_draw_22 ?_
  refine lv_ldc (v := 668265263) hx hb hown (hts _ mw_133) dL_draw_25 ?_
  refine lv_imul hx hb dL_draw_27 ?_
  refine lv_iadd hx hb dL_draw_28 ?_
  refine lv_istore_n (lv' := [(2, .int (r2 + ((δ.1.2 2) * 668265263))), (0, .ref (ad 0)), (1, .int p0)]) hx hb dL_draw_29 rfl hl (by decide) rfl (fun ls hl => ?_)
  refine lv_aload_n hx hb dL_draw_30 rfl (lv_at hl 1 rfl) ?_
  refine lv_dup hx hb dL_draw_31 rfl ?_
  refine g_Law_2 hC hP hx hb hts hown hK mw_128 dL_draw_32 ?_
  refine lv_iconst (v := 1) hx hb dL_draw_35 (by decide) ?_
  refine lv_iadd hx hb dL_draw_36 ?_
  obtain ⟨z4, ez4, hf⟩ := cx_letE hf
  refine p_Law_2 hC hP hx hb hts hown hK mw_128 dL_draw_37 hL (fun H locs hP hL => ?_)
  replace hP : P z4 H := by rw [← ez4]; exact hP
  refine lv_iload_n hx hb dL_draw_40 rfl (lv_at hl 0 rfl) ?_
  refine lv_iload_n hx hb dL_draw_41 rfl (lv_at hl 0 rfl) ?_
  refine lv_bipush (v := 15) hx hb dL_draw_42 (by decide) ?_
  refine lv_iushr (v := (ushr (r2 + ((δ.1.2 2) * 668265263)) 15)) hx hb dL_draw_44 rfl ?_
  refine lv_ixor hx hb dL_draw_45 ?_
  refine lv_istore_n (lv' := [(2, .int ((r2 + ((δ.1.2 2) * 668265263)) ^^^ (ushr (r2 + ((δ.1.2 2) * 668265263)) 15))), (0, .ref (ad 0)), (1, .int p0)]) hx hb dL_draw_46 rfl hl (by decide) rfl (fun ls hl => ?_)
  refine lv_iload_n hx hb dL_draw_47 rfl (lv_at hl 0 rfl) ?_
  refine lv_ldc (v := 739982445) hx hb hown (hts _ mw_134) dL_draw_48 ?_
  refine lv_imul hx hb dL_draw_50 ?_
  refine lv_istore_n (lv' := [(2, .int (((r2 + ((δ.1.2 2) * 668265263)) ^^^ (ushr (r2 + ((δ.1.2 2) * 668265263)) 15)) * 739982445)), (0, .ref (ad 0)), (1, .int p0)]) hx hb dL_draw_51 rfl hl (by decide) rfl (fun ls hl => ?_)
  refine lv_iload_n hx hb dL_draw_52 rfl (lv_at hl 0 rfl) ?_
  refine lv_iload_n hx hb dL_draw_53 rfl (lv_at hl 0 rfl) ?_
  refine lv_bipush (v := 13) hx hb dL_draw_54 (by decide) ?_
  refine lv_iushr (v := (ushr (((r2 + ((δ.1.2 2) * 668265263)) ^^^ (ushr (r2 + ((δ.1.2 2) * 668265263)) 15)) * 739982445) 13)) hx hb dL_draw_56 rfl ?_
  refine lv_ixor hx hb dL_draw_57 ?_
  refine lv_istore_n (lv' := [(2, .int ((((r2 + ((δ.1.2 2) * 668265263)) ^^^ (ushr (r2 + ((δ.1.2 2) * 668265263)) 15)) * 739982445) ^^^ (ushr (((r2 + ((δ.1.2 2) * 668265263)) ^^^ (ushr (r2 + ((δ.1.2 2) * 668265263)) 15)) * 739982445) 13))), (0, .ref (ad 0)), (1, .int p0)]) hx hb dL_draw_58 rfl hl (by decide) rfl (fun ls hl => ?_)
  refine lv_iload_n hx hb dL_draw_59 rfl (lv_at hl 0 rfl) ?_
  refine lv_ldc (v := 2147483647) hx hb hown (hts _ mw_135) dL_draw_60 ?_
  refine lv_iand hx hb dL_draw_62 ?_
  refine lv_iload_n hx hb dL_draw_63 rfl (lv_at hl 2 rfl) ?_
  obtain ⟨hd5, hf⟩ := dzE hf
  refine lv_irem hx hb dL_draw_64 hd5 ?_
  cases hf
  exact cx_iret hx hb hr hlocks hP hL dL_draw_65
abbrev rm_L_someBlock : Room := { frames := 2, cells := 0, slots := 0, locals := 44 }
theorem hd_L_someBlock : yL_someBlock.cls = RL ∧ yL_someBlock.cls ≠ "java/lang/invoke/MethodHandle" ∧ yL_someBlock.cls ≠ "java/lang/invoke/VarHandle" ∧ (parseMethodDescriptor yL_someBlock.desc).map (fun d => d.parameters.length) = some 0 := by decide +kernel
def f_L_someBlock (z : ZS) (δ : LwS) : Option (Int32 × LwS) := (f_L_draw z δ 9).bind fun r1 => if r1.1 = 0 then (f_L_draw z r1.2 200).bind fun r6 => some (r6.1, r6.2) else (f_L_draw z r1.2 24).bind fun r4 => some ((if ((r1.2.1.2 4) + r4.1) < 199 then ((r1.2.1.2 4) + r4.1) else 199), r4.2)
set_option maxHeartbeats 4000000 in
set_option maxRecDepth 100000 in
theorem c_L_someBlock {l : Launch} {G : va_G} {cA : Nat → ClassId} {lo : Nat} {z : ZS} {ad : Nat → Nat} {sv : Nat → Option Nat} {P : LwS → Heap → Prop} (hC : cx G lo 264 ad (ceLaw z.1 sv cA ad) P) {δ : LwS} {res : Int32 × LwS} (hf : f_L_someBlock z δ = some res) : Met l yL_someBlock (cW yL_someBlock cL_someBlock 1 (some .int)) rm_L_someBlock (cPZ lo z [.ref (ad 0)] (P δ) G cA) (cQ (some (.int res.1)) (P res.2)) 0 0 (fun q => lo ≤ q) := by
  refine cx_metZ (by decide) (Nat.le_of_ble_eq_true rfl) (fun p e s m args below meth c ls C0 hZ hP hl => ?_)
  have hl : lv_has ls 1 [(0, .ref (ad 0))] := hl
  obtain ⟨⟨hx, hb, hml, hown, hts⟩, hr, hlocks, hK⟩ := id C0
  have hL : ∀ q ∈ ([] : List Loc), lo ≤ q.base := fun q h => nomatch h
  unfold f_L_someBlock at hf
  refine lv_aload_n hx hb dL_someBlock_0 rfl (lv_at hl 0 rfl) ?_
  refine lv_bipush (v := 9) hx hb dL_someBlock_1 (by decide) ?_
  obtain ⟨r1, q2, hf⟩ := cx_b hf
  refine cx_callVZ (As := [.int 9]) (rest := []) ⟨hx, hb, hml, hown, hts⟩ (c_L_draw hC (z := z) q2) (cwV 1 hts (gV mw_124 mw_125 mw_126 mw_2 mw_127) rfl rfl rfl hd_L_draw ⟨Nat.le_of_ble_eq_true rfl, Nat.le_of_ble_eq_true rfl⟩) hK hZ hP rfl (at_Law hC hP) rfl hl.1 rfl (Nat.le_of_ble_eq_true rfl) dL_someBlock_3 ⟨Nat.zero_le _, Nat.zero_le _⟩ hL (fun H locs hP hL => ?_)
  replace hP : P r1.2 H := by first | exact hP | (simpa only [va_up_id] using hP)
  refine lv_if_ne (tgt := 19) hx hb dL_someBlock_6 (by decide) (fun c3 => ?_) (fun c3 => ?_)
  · have hf := cx_f hf c3
    refine lv_sipush (v := 199) hx hb dL_someBlock_19 (by decide) ?_
    refine lv_aload_n hx hb dL_someBlock_22 rfl (lv_at hl 0 rfl) ?_
    refine g_Law_4 hC hP hx hb hts hown hK mw_123 dL_someBlock_23 ?_
    refine lv_aload_n hx hb dL_someBlock_26 rfl (lv_at hl 0 rfl) ?_
    refine lv_bipush (v := 24) hx hb dL_someBlock_27 (by decide) ?_
    obtain ⟨r4, q5, hf⟩ := cx_b hf
    refine cx_callVZ (As := [.int 24]) (rest := [.int (r1.2.1.2 4), .int 199]) ⟨hx, hb, hml, hown, hts⟩ (c_L_draw hC (z := z) q5) (cwV 1 hts (gV mw_124 mw_125 mw_126 mw_2 mw_127) rfl rfl rfl hd_L_draw ⟨Nat.le_of_ble_eq_true rfl, Nat.le_of_ble_eq_true rfl⟩) hK hZ hP rfl (at_Law hC hP) rfl hl.1 rfl (Nat.le_of_ble_eq_true rfl) dL_someBlock_29 ⟨Nat.zero_le _, Nat.zero_le _⟩ hL (fun H locs hP hL => ?_)
    replace hP : P r4.2 H := by first | exact hP | (simpa only [va_up_id] using hP)
    refine lv_iadd hx hb dL_someBlock_32 ?_
    refine va_mmin hx hb (hml.trans hl.1.symm) hown (hts _ mw_352) (hts _ mw_165) (hts _ mw_131) (hts _ mw_166) (Nat.le_of_ble_eq_true rfl) (Nat.le_of_ble_eq_true rfl) (Nat.zero_le _) (Nat.zero_le _) dL_someBlock_33 ?_
    cases hf
    exact cx_iret hx hb hr hlocks hP hL dL_someBlock_36
  · have hf := cx_t hf c3
    refine lv_aload_n hx hb dL_someBlock_9 rfl (lv_at hl 0 rfl) ?_
    refine lv_sipush (v := 200) hx hb dL_someBlock_10 (by decide) ?_
    obtain ⟨r6, q7, hf⟩ := cx_b hf
    refine cx_callVZ (As := [.int 200]) (rest := []) ⟨hx, hb, hml, hown, hts⟩ (c_L_draw hC (z := z) q7) (cwV 1 hts (gV mw_124 mw_125 mw_126 mw_2 mw_127) rfl rfl rfl hd_L_draw ⟨Nat.le_of_ble_eq_true rfl, Nat.le_of_ble_eq_true rfl⟩) hK hZ hP rfl (at_Law hC hP) rfl hl.1 rfl (Nat.le_of_ble_eq_true rfl) dL_someBlock_13 ⟨Nat.zero_le _, Nat.zero_le _⟩ hL (fun H locs hP hL => ?_)
    replace hP : P r6.2 H := by first | exact hP | (simpa only [va_up_id] using hP)
    refine lv_goto (tgt := 36) hx hb dL_someBlock_16 (by decide) ?_
    cases hf
    exact cx_iret hx hb hr hlocks hP hL dL_someBlock_36
abbrev rm_L_begins : Room := { frames := 6, cells := 0, slots := 0, locals := 172 }
theorem hd_L_begins : yL_begins.cls = RL ∧ yL_begins.cls ≠ "java/lang/invoke/MethodHandle" ∧ yL_begins.cls ≠ "java/lang/invoke/VarHandle" ∧ (parseMethodDescriptor yL_begins.desc).map (fun d => d.parameters.length) = some 0 := by decide +kernel
def f_L_begins_b38 (N : Nat) : Nat → ZS → LwS → Int32 → Int32 → Option (Int32 × LwS)
  | 0, _, _, _, _ => none
  | n + 1, z, δ, x1, x2 => if x1 ≤ x2 then (f_L_draw z δ 176).bind fun r2 => cx_let ((oI r2.2.1 4 r2.1, r2.2.2)) fun z4 => (f_L_draw z z4 10).bind fun r5 => (f_L_draw z r5.2 14).bind fun r7 => (f_L_shape N r7.2.2 (2 + r5.1) (2 + r7.1)).bind fun r9 => cx_let ((r7.2.1, r9.2)) fun z11 => if r9.1 = 0 then (f_L_draw z z11 8).bind fun r13 => (f_L_set N r13.2.2 0 (2 + r13.1)).bind fun r15 => cx_let ((r13.2.1, r15.2)) fun z17 => if r15.1 = 4 then (f_L_draw z z17 10).bind fun r19 => (f_L_set N r19.2.2 1 r19.1).bind fun r21 => cx_let ((r19.2.1, r21.2)) fun z23 => if r21.1 = 8 then some (1, z23) else some (0, z23) else some (0, z17) else some (0, z11) else (f_L_draw z δ 9).bind fun r25 => (f_L_addClient N r25.2.2 (1 + r25.1)).bind fun r27 => cx_let ((r25.2.1, r27.2)) fun z29 => if r27.1 = x2 then f_L_begins_b38 N n z z29 x1 (x2 + 1) else some (0, z29)
set_option maxHeartbeats 4000000 in
set_option maxRecDepth 100000 in
theorem w_L_begins_b38 {p : Program} {l : Launch} {e : Env} {s : State} {m : MethodId} {args : Array Value} {below : List Frame} {meth : Method} {c : Code} {G : va_G} {cA : Nat → ClassId} (C0 : cB p s m args meth c RL cL_begins 3 (some .boolean) G cA) {lo : Nat} {z : ZS} (hZ : Zt lo z s) {ad : Nat → Nat} {sv : Nat → Option Nat} {P : LwS → Heap → Prop} (hC : cx G lo 264 ad (ceLaw z.1 sv cA ad) P) {N : Nat} {res : Int32 × LwS} : ∀ (n : Nat) (δ : LwS) (x1 : Int32) (x2 : Int32) (H : Heap) (locs : List Loc) (ls : Array Slot), f_L_begins_b38 N n z δ x1 x2 = some res → P δ H → (∀ q ∈ locs, lo ≤ q.base) → lv_has ls 3 [(0, .ref (ad 0)), (1, .int x1), (2, .int x2)] → W p l e rm_L_begins s m args below meth c H locs 0 0 (MQ below (cQ (some (.int res.1)) (P res.2)) args s 0 0 (fun q => lo ≤ q)) (F0 m 38 ls []) := by
  obtain ⟨⟨hx, hb, hml, hown, hts⟩, hr, hlocks, hK⟩ := id C0
  intro n
  induction n with
  | zero => intro δ x1 x2 H locs ls
            exact fun hf => nomatch hf
  | succ n ih =>
    intro δ x1 x2 H locs ls hf hP hL hl
    rw [f_L_begins_b38] at hf
    refine lv_iload_n hx hb dL_begins_38 rfl (lv_at hl 2 rfl) ?_
    refine lv_iload_n hx hb dL_begins_39 rfl (lv_at hl 1 rfl) ?_
    refine lv_icmp_ge (tgt := 70) hx hb dL_begins_40 (by decide) (fun c1 => ?_) (fun c1 => ?_)
    · have hf := cx_t hf c1
      refine lv_aload_n hx hb dL_begins_70 rfl (lv_at hl 0 rfl) ?_
      refine lv_aload_n hx hb dL_begins_71 rfl (lv_at hl 0 rfl) ?_
      refine lv_sipush (v := 176) hx hb dL_begins_72 (by decide) ?_
      obtain ⟨r2, q3, hf⟩ := cx_b hf
      refine cx_callVZ (As := [.int 176]) (rest := [.ref (ad 0)]) ⟨hx, hb, hml, hown, hts⟩ (c_L_draw hC (z := z) q3) (cwV 1 hts (gV mw_124 mw_125 mw_126 mw_2 mw_127) rfl rfl rfl hd_L_draw ⟨Nat.le_of_ble_eq_true rfl, Nat.le_of_ble_eq_true rfl⟩) hK hZ hP rfl (at_Law hC hP) rfl hl.1 rfl (Nat.le_of_ble_eq_true rfl) dL_begins_75 ⟨Nat.zero_le _, Nat.zero_le _⟩ hL (fun H locs hP hL => ?_)
      replace hP : P r2.2 H := by first | exact hP | (simpa only [va_up_id] using hP)
      obtain ⟨z4, ez4, hf⟩ := cx_letE hf
      refine p_Law_4 hC hP hx hb hts hown hK mw_123 dL_begins_78 hL (fun H locs hP hL => ?_)
      replace hP : P z4 H := by rw [← ez4]; exact hP
      refine lv_aload_n hx hb dL_begins_81 rfl (lv_at hl 0 rfl) ?_
      refine g_Law_0 hC hP hx hb hts hown hK mw_12 dL_begins_82 ?_
      refine lv_iconst (v := 2) hx hb dL_begins_85 (by decide) ?_
      refine lv_aload_n hx hb dL_begins_86 rfl (lv_at hl 0 rfl) ?_
      refine lv_bipush (v := 10) hx hb dL_begins_87 (by decide) ?_
      obtain ⟨r5, q6, hf⟩ := cx_b hf
      refine cx_callVZ (As := [.int 10]) (rest := [.int 2, .ref ((adLG ad) 0)]) ⟨hx, hb, hml, hown, hts⟩ (c_L_draw hC (z := z) q6) (cwV 1 hts (gV mw_124 mw_125 mw_126 mw_2 mw_127) rfl rfl rfl hd_L_draw ⟨Nat.le_of_ble_eq_true rfl, Nat.le_of_ble_eq_true rfl⟩) hK hZ hP rfl (at_Law hC hP) rfl hl.1 rfl (Nat.le_of_ble_eq_true rfl) dL_begins_89 ⟨Nat.zero_le _, Nat.zero_le _⟩ hL (fun H locs hP hL => ?_)
      replace hP : P r5.2 H := by first | exact hP | (simpa only [va_up_id] using hP)
      refine lv_iadd hx hb dL_begins_92 ?_
      refine lv_iconst (v := 2) hx hb dL_begins_93 (by decide) ?_
      refine lv_aload_n hx hb dL_begins_94 rfl (lv_at hl 0 rfl) ?_
      refine lv_bipush (v := 14) hx hb dL_begins_95 (by decide) ?_
      obtain ⟨r7, q8, hf⟩ := cx_b hf
      refine cx_callVZ (As := [.int 14]) (rest := [.int 2, .int (2 + r5.1), .ref ((adLG ad) 0)]) ⟨hx, hb, hml, hown, hts⟩ (c_L_draw hC (z := z) q8) (cwV 1 hts (gV mw_124 mw_125 mw_126 mw_2 mw_127) rfl rfl rfl hd_L_draw ⟨Nat.le_of_ble_eq_true rfl, Nat.le_of_ble_eq_true rfl⟩) hK hZ hP rfl (at_Law hC hP) rfl hl.1 rfl (Nat.le_of_ble_eq_true rfl) dL_begins_97 ⟨Nat.zero_le _, Nat.zero_le _⟩ hL (fun H locs hP hL => ?_)
      replace hP : P r7.2 H := by first | exact hP | (simpa only [va_up_id] using hP)
      refine lv_iadd hx hb dL_begins_100 ?_
      obtain ⟨r9, q10, hf⟩ := cx_b hf
      refine cx_callSX (As := [.ref ((adLG ad) 0), .int (2 + r5.1), .int (2 + r7.1)]) (rest := []) ⟨hx, hb, hml, hown, hts⟩ (c_L_shape (cx_lwG hC r7.2) q10) (vx_cwSW 3 hts (gSWx mw_228 mw_229 mw_2 mw_230) rfl rfl rfl hd_L_shape.2 ⟨Nat.le_of_ble_eq_true rfl, Nat.le_of_ble_eq_true rfl⟩) hK (show P (r7.2.1, r7.2.2) _ by (repeat rw [va_up_id]); exact hP) rfl hl.1 rfl (Nat.le_of_ble_eq_true rfl) dL_begins_101 ⟨Nat.zero_le _, Nat.zero_le _⟩ hL (fun H locs hP hL => ?_)
      obtain ⟨z11, ez11, hf⟩ := cx_letE hf
      replace hP : P z11 H := by rw [← ez11]; exact hP
      refine lv_if_ne (tgt := 150) hx hb dL_begins_104 (by decide) (fun c12 => ?_) (fun c12 => ?_)
      · have hf := cx_f hf c12
        refine lv_iconst (v := 0) hx hb dL_begins_150 (by decide) ?_
        cases hf
        exact cx_zret hx hb hr hlocks (Or.inl rfl) hP hL dL_begins_151
      · have hf := cx_t hf c12
        refine lv_aload_n hx hb dL_begins_107 rfl (lv_at hl 0 rfl) ?_
        refine g_Law_0 hC hP hx hb hts hown hK mw_12 dL_begins_108 ?_
        refine lv_iconst (v := 0) hx hb dL_begins_111 (by decide) ?_
        refine lv_iconst (v := 2) hx hb dL_begins_112 (by decide) ?_
        refine lv_aload_n hx hb dL_begins_113 rfl (lv_at hl 0 rfl) ?_
        refine lv_bipush (v := 8) hx hb dL_begins_114 (by decide) ?_
        obtain ⟨r13, q14, hf⟩ := cx_b hf
        refine cx_callVZ (As := [.int 8]) (rest := [.int 2, .int 0, .ref ((adLG ad) 0)]) ⟨hx, hb, hml, hown, hts⟩ (c_L_draw hC (z := z) q14) (cwV 1 hts (gV mw_124 mw_125 mw_126 mw_2 mw_127) rfl rfl rfl hd_L_draw ⟨Nat.le_of_ble_eq_true rfl, Nat.le_of_ble_eq_true rfl⟩) hK hZ hP rfl (at_Law hC hP) rfl hl.1 rfl (Nat.le_of_ble_eq_true rfl) dL_begins_116 ⟨Nat.zero_le _, Nat.zero_le _⟩ hL (fun H locs hP hL => ?_)
        replace hP : P r13.2 H := by first | exact hP | (simpa only [va_up_id] using hP)
        refine lv_iadd hx hb dL_begins_119 ?_
        obtain ⟨r15, q16, hf⟩ := cx_b hf
        refine cx_callSX (As := [.ref ((adLG ad) 0), .int 0, .int (2 + r13.1)]) (rest := []) ⟨hx, hb, hml, hown, hts⟩ (c_L_set (cx_lwG hC r13.2) q16) (vx_cwSW 3 hts (gSWx mw_260 mw_261 mw_2 mw_262) rfl rfl rfl hd_L_set.2 ⟨Nat.le_of_ble_eq_true rfl, Nat.le_of_ble_eq_true rfl⟩) hK (show P (r13.2.1, r13.2.2) _ by (repeat rw [va_up_id]); exact hP) rfl hl.1 rfl (Nat.le_of_ble_eq_true rfl) dL_begins_120 ⟨Nat.zero_le _, Nat.zero_le _⟩ hL (fun H locs hP hL => ?_)
        obtain ⟨z17, ez17, hf⟩ := cx_letE hf
        replace hP : P z17 H := by rw [← ez17]; exact hP
        refine lv_iconst (v := 4) hx hb dL_begins_123 (by decide) ?_
        refine lv_icmp_ne (tgt := 150) hx hb dL_begins_124 (by decide) (fun c18 => ?_) (fun c18 => ?_)
        · have hf := cx_f hf c18
          refine lv_iconst (v := 0) hx hb dL_begins_150 (by decide) ?_
          cases hf
          exact cx_zret hx hb hr hlocks (Or.inl rfl) hP hL dL_begins_151
        · have hf := cx_t hf c18
          refine lv_aload_n hx hb dL_begins_127 rfl (lv_at hl 0 rfl) ?_
          refine g_Law_0 hC hP hx hb hts hown hK mw_12 dL_begins_128 ?_
          refine lv_iconst (v := 1) hx hb dL_begins_131 (by decide) ?_
          refine lv_aload_n hx hb dL_begins_132 rfl (lv_at hl 0 rfl) ?_
          refine lv_bipush (v := 10) hx hb dL_begins_133 (by decide) ?_
          obtain ⟨r19, q20, hf⟩ := cx_b hf
          refine cx_callVZ (As := [.int 10]) (rest := [.int 1, .ref ((adLG ad) 0)]) ⟨hx, hb, hml, hown, hts⟩ (c_L_draw hC (z := z) q20) (cwV 1 hts (gV mw_124 mw_125 mw_126 mw_2 mw_127) rfl rfl rfl hd_L_draw ⟨Nat.le_of_ble_eq_true rfl, Nat.le_of_ble_eq_true rfl⟩) hK hZ hP rfl (at_Law hC hP) rfl hl.1 rfl (Nat.le_of_ble_eq_true rfl) dL_begins_135 ⟨Nat.zero_le _, Nat.zero_le _⟩ hL (fun H locs hP hL => ?_)
          replace hP : P r19.2 H := by first | exact hP | (simpa only [va_up_id] using hP)
          obtain ⟨r21, q22, hf⟩ := cx_b hf
          refine cx_callSX (As := [.ref ((adLG ad) 0), .int 1, .int r19.1]) (rest := []) ⟨hx, hb, hml, hown, hts⟩ (c_L_set (cx_lwG hC r19.2) q22) (vx_cwSW 3 hts (gSWx mw_260 mw_261 mw_2 mw_262) rfl rfl rfl hd_L_set.2 ⟨Nat.le_of_ble_eq_true rfl, Nat.le_of_ble_eq_true rfl⟩) hK (show P (r19.2.1, r19.2.2) _ by (repeat rw [va_up_id]); exact hP) rfl hl.1 rfl (Nat.le_of_ble_eq_true rfl) dL_begins_138 ⟨Nat.zero_le _, Nat.zero_le _⟩ hL (fun H locs hP hL => ?_)
          obtain ⟨z23, ez23, hf⟩ := cx_letE hf
          replace hP : P z23 H := by rw [← ez23]; exact hP
          refine lv_bipush (v := 8) hx hb dL_begins_141 (by decide) ?_
          refine lv_icmp_ne (tgt := 150) hx hb dL_begins_143 (by decide) (fun c24 => ?_) (fun c24 => ?_)
          · have hf := cx_f hf c24
            refine lv_iconst (v := 0) hx hb dL_begins_150 (by decide) ?_
            cases hf
            exact cx_zret hx hb hr hlocks (Or.inl rfl) hP hL dL_begins_151
          · have hf := cx_t hf c24
            refine lv_iconst (v := 1) hx hb dL_begins_146 (by decide) ?_
            refine lv_goto (tgt := 151) hx hb dL_begins_147 (by decide) ?_
            cases hf
            exact cx_zret hx hb hr hlocks (Or.inr rfl) hP hL dL_begins_151
    · have hf := cx_f hf c1
      refine lv_aload_n hx hb dL_begins_43 rfl (lv_at hl 0 rfl) ?_
      refine g_Law_0 hC hP hx hb hts hown hK mw_12 dL_begins_44 ?_
      refine lv_iconst (v := 1) hx hb dL_begins_47 (by decide) ?_
      refine lv_aload_n hx hb dL_begins_48 rfl (lv_at hl 0 rfl) ?_
      refine lv_bipush (v := 9) hx hb dL_begins_49 (by decide) ?_
      obtain ⟨r25, q26, hf⟩ := cx_b hf
      refine cx_callVZ (As := [.int 9]) (rest := [.int 1, .ref ((adLG ad) 0)]) ⟨hx, hb, hml, hown, hts⟩ (c_L_draw hC (z := z) q26) (cwV 1 hts (gV mw_124 mw_125 mw_126 mw_2 mw_127) rfl rfl rfl hd_L_draw ⟨Nat.le_of_ble_eq_true rfl, Nat.le_of_ble_eq_true rfl⟩) hK hZ hP rfl (at_Law hC hP) rfl hl.1 rfl (Nat.le_of_ble_eq_true rfl) dL_begins_51 ⟨Nat.zero_le _, Nat.zero_le _⟩ hL (fun H locs hP hL => ?_)
      replace hP : P r25.2 H := by first | exact hP | (simpa only [va_up_id] using hP)
      refine lv_iadd hx hb dL_begins_54 ?_
      obtain ⟨r27, q28, hf⟩ := cx_b hf
      refine cx_callSX (As := [.ref ((adLG ad) 0), .int (1 + r25.1)]) (rest := []) ⟨hx, hb, hml, hown, hts⟩ (c_L_addClient (cx_lwG hC r25.2) q28) (vx_cwSW 2 hts (gSWx mw_141 mw_142 mw_2 mw_143) rfl rfl rfl hd_L_addClient.2 ⟨Nat.le_of_ble_eq_true rfl, Nat.le_of_ble_eq_true rfl⟩) hK (show P (r25.2.1, r25.2.2) _ by (repeat rw [va_up_id]); exact hP) rfl hl.1 rfl (Nat.le_of_ble_eq_true rfl) dL_begins_55 ⟨Nat.zero_le _, Nat.zero_le _⟩ hL (fun H locs hP hL => ?_)
      obtain ⟨z29, ez29, hf⟩ := cx_letE hf
      replace hP : P z29 H := by rw [← ez29]; exact hP
      refine lv_iload_n hx hb dL_begins_58 rfl (lv_at hl 2 rfl) ?_
      refine lv_icmp_eq (tgt := 64) hx hb dL_begins_59 (by decide) (fun c30 => ?_) (fun c30 => ?_)
      · have hf := cx_t hf c30
        refine lv_iinc (v := (x2 + 1)) (lv' := [(2, .int (x2 + 1)), (0, .ref (ad 0)), (1, .int x1)]) hx hb dL_begins_64 hl (k := 2) rfl rfl (by decide) rfl (fun ls hl => ?_)
        refine lv_goto (tgt := 38) hx hb dL_begins_67 (by decide) ?_
        exact ih z29 x1 (x2 + 1) _ _ _ hf hP hL (lv_sub hl [1, 2, 0] rfl)
      · have hf := cx_f hf c30
        refine lv_iconst (v := 0) hx hb dL_begins_62 (by decide) ?_
        cases hf
        exact cx_zret hx hb hr hlocks (Or.inl rfl) hP hL dL_begins_63
def f_L_begins_b2 (N : Nat) : Nat → ZS → LwS → Int32 → Option (Int32 × LwS)
  | 0, _, _, _ => none
  | n + 1, z, δ, x1 => if 200 ≤ x1 then (f_L_draw z δ 4).bind fun r2 => f_L_begins_b38 N N z r2.2 (1 + r2.1) 0 else gd x1 200 (cx_let ((oA δ.1 3 (Int32.toNatClampNeg x1) ((5 * x1) - (5 * x1) / 1000 * 1000), δ.2)) fun z5 => f_L_begins_b2 N n z z5 (x1 + 1))
set_option maxHeartbeats 4000000 in
set_option maxRecDepth 100000 in
theorem w_L_begins_b2 {p : Program} {l : Launch} {e : Env} {s : State} {m : MethodId} {args : Array Value} {below : List Frame} {meth : Method} {c : Code} {G : va_G} {cA : Nat → ClassId} (C0 : cB p s m args meth c RL cL_begins 3 (some .boolean) G cA) {lo : Nat} {z : ZS} (hZ : Zt lo z s) {ad : Nat → Nat} {sv : Nat → Option Nat} {P : LwS → Heap → Prop} (hC : cx G lo 264 ad (ceLaw z.1 sv cA ad) P) {N : Nat} {res : Int32 × LwS} : ∀ (n : Nat) (δ : LwS) (x1 : Int32) (H : Heap) (locs : List Loc) (ls : Array Slot), f_L_begins_b2 N n z δ x1 = some res → P δ H → (∀ q ∈ locs, lo ≤ q.base) → lv_has ls 3 [(0, .ref (ad 0)), (1, .int x1)] → W p l e rm_L_begins s m args below meth c H locs 0 0 (MQ below (cQ (some (.int res.1)) (P res.2)) args s 0 0 (fun q => lo ≤ q)) (F0 m 2 ls []) := by
  obtain ⟨⟨hx, hb, hml, hown, hts⟩, hr, hlocks, hK⟩ := id C0
  intro n
  induction n with
  | zero => intro δ x1 H locs ls
            exact fun hf => nomatch hf
  | succ n ih =>
    intro δ x1 H locs ls hf hP hL hl
    rw [f_L_begins_b2] at hf
    refine lv_iload_n hx hb dL_begins_2 rfl (lv_at hl 1 rfl) ?_
    refine lv_sipush (v := 200) hx hb dL_begins_3 (by decide) ?_
    refine lv_icmp_ge (tgt := 28) hx hb dL_begins_6 (by decide) (fun c1 => ?_) (fun c1 => ?_)
    · have hf := cx_t hf c1
      refine lv_iconst (v := 1) hx hb dL_begins_28 (by decide) ?_
      refine lv_aload_n hx hb dL_begins_29 rfl (lv_at hl 0 rfl) ?_
      refine lv_iconst (v := 4) hx hb dL_begins_30 (by decide) ?_
      obtain ⟨r2, q3, hf⟩ := cx_b hf
      refine cx_callVZ (As := [.int 4]) (rest := [.int 1]) ⟨hx, hb, hml, hown, hts⟩ (c_L_draw hC (z := z) q3) (cwV 1 hts (gV mw_124 mw_125 mw_126 mw_2 mw_127) rfl rfl rfl hd_L_draw ⟨Nat.le_of_ble_eq_true rfl, Nat.le_of_ble_eq_true rfl⟩) hK hZ hP rfl (at_Law hC hP) rfl hl.1 rfl (Nat.le_of_ble_eq_true rfl) dL_begins_31 ⟨Nat.zero_le _, Nat.zero_le _⟩ hL (fun H locs hP hL => ?_)
      replace hP : P r2.2 H := by first | exact hP | (simpa only [va_up_id] using hP)
      refine lv_iadd hx hb dL_begins_34 ?_
      refine lv_istore_n (lv' := [(1, .int (1 + r2.1)), (0, .ref (ad 0))]) hx hb dL_begins_35 rfl hl (by decide) rfl (fun ls hl => ?_)
      refine lv_iconst (v := 0) hx hb dL_begins_36 (by decide) ?_
      refine lv_istore_n (lv' := [(2, .int 0), (1, .int (1 + r2.1)), (0, .ref (ad 0))]) hx hb dL_begins_37 rfl hl (by decide) rfl (fun ls hl => ?_)
      exact w_L_begins_b38 C0 hZ hC N r2.2 (1 + r2.1) 0 _ _ _ hf hP hL (lv_sub hl [2, 1, 0] rfl)
    · have hf := cx_f hf c1
      refine lv_aload_n hx hb dL_begins_9 rfl (lv_at hl 0 rfl) ?_
      refine g_Law_3 hC hP hx hb hts hown hK mw_14 dL_begins_10 ?_
      refine lv_iload_n hx hb dL_begins_13 rfl (lv_at hl 1 rfl) ?_
      refine lv_iconst (v := 5) hx hb dL_begins_14 (by decide) ?_
      refine lv_iload_n hx hb dL_begins_15 rfl (lv_at hl 1 rfl) ?_
      refine lv_imul hx hb dL_begins_16 ?_
      refine lv_sipush (v := 1000) hx hb dL_begins_17 (by decide) ?_
      refine lv_irem hx hb dL_begins_20 (by decide) ?_
      obtain ⟨hi4, hf⟩ := gdE hf
      obtain ⟨z5, ez5, hf⟩ := cx_letE hf
      refine pa_Law_3 hC hP hx hb hK hi4 dL_begins_21 hL (fun H locs hP hL => ?_)
      replace hP : P z5 H := by rw [← ez5]; exact hP
      refine lv_iinc (v := (x1 + 1)) (lv' := [(1, .int (x1 + 1)), (0, .ref (ad 0))]) hx hb dL_begins_22 hl (k := 1) rfl rfl (by decide) rfl (fun ls hl => ?_)
      refine lv_goto (tgt := 2) hx hb dL_begins_25 (by decide) ?_
      exact ih z5 (x1 + 1) _ _ _ hf hP hL (lv_sub hl [1, 0] rfl)
def f_L_begins (N : Nat) (z : ZS) (δ : LwS) : Option (Int32 × LwS) := f_L_begins_b2 N N z δ 0
set_option maxHeartbeats 4000000 in
set_option maxRecDepth 100000 in
theorem c_L_begins {l : Launch} {G : va_G} {cA : Nat → ClassId} {lo : Nat} {z : ZS} {ad : Nat → Nat} {sv : Nat → Option Nat} {P : LwS → Heap → Prop} (hC : cx G lo 264 ad (ceLaw z.1 sv cA ad) P) {N : Nat} {δ : LwS} {res : Int32 × LwS} (hf : f_L_begins N z δ = some res) : Met l yL_begins (cW yL_begins cL_begins 3 (some .boolean)) rm_L_begins (cPZ lo z [.ref (ad 0)] (P δ) G cA) (cQ (some (.int res.1)) (P res.2)) 0 0 (fun q => lo ≤ q) := by
  refine cx_metZ (by decide) (Nat.le_of_ble_eq_true rfl) (fun p e s m args below meth c ls C0 hZ hP hl => ?_)
  have hl : lv_has ls 3 [(0, .ref (ad 0))] := hl
  obtain ⟨⟨hx, hb, hml, hown, hts⟩, hr, hlocks, hK⟩ := id C0
  have hL : ∀ q ∈ ([] : List Loc), lo ≤ q.base := fun q h => nomatch h
  unfold f_L_begins at hf
  refine lv_iconst (v := 0) hx hb dL_begins_0 (by decide) ?_
  refine lv_istore_n (lv' := [(1, .int 0), (0, .ref (ad 0))]) hx hb dL_begins_1 rfl hl (by decide) rfl (fun ls hl => ?_)
  exact w_L_begins_b2 C0 hZ hC N δ 0 _ _ _ hf hP hL (lv_sub hl [1, 0] rfl)
abbrev rm_L_listsAreSo : Room := { frames := 6, cells := 0, slots := 0, locals := 134 }
theorem hd_L_listsAreSo : yL_listsAreSo.cls = RL ∧ yL_listsAreSo.cls ≠ "java/lang/invoke/MethodHandle" ∧ yL_listsAreSo.cls ≠ "java/lang/invoke/VarHandle" ∧ (parseMethodDescriptor yL_listsAreSo.desc).map (fun d => d.parameters.length) = some 0 := by decide +kernel
def f_L_listsAreSo_b279 (N : Nat) (k19 : LwS → Int32 → Int32 → Int32 → Int32 → Int32 → Option (Int32)) (k82 : LwS → Int32 → Int32 → Int32 → Int32 → Int32 → Int32 → Int32 → Option (Int32)) (δ : LwS) (x1 : Int32) (x2 : Int32) (x3 : Int32) (x4 : Int32) (x5 : Int32) (x6 : Int32) (x7 : Int32) (x8 : Int32) : Option (Int32) := if 3 ≤ x5 then k82 δ x1 x2 x3 x4 x5 x6 (x7 + 1) else (f_L_block N δ.2 x8 4).bind fun r2 => if r2 < 0 then k82 δ x1 (x2 + 0) x3 x4 x5 x6 (x7 + 1) else k82 δ x1 (x2 + 1) x3 x4 x5 x6 (x7 + 1)
set_option maxHeartbeats 4000000 in
set_option maxRecDepth 100000 in
theorem w_L_listsAreSo_b279 {p : Program} {l : Launch} {e : Env} {s : State} {m : MethodId} {args : Array Value} {below : List Frame} {meth : Method} {c : Code} {G : va_G} {cA : Nat → ClassId} (C0 : cB p s m args meth c RL cL_listsAreSo 9 (some .boolean) G cA) {lo : Nat} {ad : Nat → Nat} {sa : Nat} {sv : Nat → Option Nat} {P : LwS → Heap → Prop} (hC : cx G lo 264 ad (ceLaw sa sv cA ad) P) {N : Nat} {res : Int32} {k19 : LwS → Int32 → Int32 → Int32 → Int32 → Int32 → Option (Int32)} {k82 : LwS → Int32 → Int32 → Int32 → Int32 → Int32 → Int32 → Int32 → Option (Int32)} (hk19 : ∀ (δ : LwS) (x1 : Int32) (x2 : Int32) (x3 : Int32) (x4 : Int32) (x5 : Int32) (H : Heap) (locs : List Loc) (ls : Array Slot), k19 δ x1 x2 x3 x4 x5 = some res → P δ H → (∀ q ∈ locs, lo ≤ q.base) → lv_has ls 9 [(0, .ref (ad 0)), (1, .int x1), (2, .int x2), (3, .int x3), (4, .int x4), (5, .int x5)] → W p l e rm_L_listsAreSo s m args below meth c H locs 0 0 (MQ below (cQ (some (.int res)) (P δ)) args s 0 0 (fun q => lo ≤ q)) (F0 m 19 ls [])) (hk82 : ∀ (δ : LwS) (x1 : Int32) (x2 : Int32) (x3 : Int32) (x4 : Int32) (x5 : Int32) (x6 : Int32) (x7 : Int32) (H : Heap) (locs : List Loc) (ls : Array Slot), k82 δ x1 x2 x3 x4 x5 x6 x7 = some res → P δ H → (∀ q ∈ locs, lo ≤ q.base) → lv_has ls 9 [(0, .ref (ad 0)), (1, .int x1), (2, .int x2), (3, .int x3), (4, .int x4), (5, .int x5), (6, .int x6), (7, .int x7)] → W p l e rm_L_listsAreSo s m args below meth c H locs 0 0 (MQ below (cQ (some (.int res)) (P δ)) args s 0 0 (fun q => lo ≤ q)) (F0 m 82 ls [])) : ∀ (δ : LwS) (x1 : Int32) (x2 : Int32) (x3 : Int32) (x4 : Int32) (x5 : Int32) (x6 : Int32) (x7 : Int32) (x8 : Int32) (H : Heap) (locs : List Loc) (ls : Array Slot), f_L_listsAreSo_b279 N k19 k82 δ x1 x2 x3 x4 x5 x6 x7 x8 = some res → P δ H → (∀ q ∈ locs, lo ≤ q.base) → lv_has ls 9 [(0, .ref (ad 0)), (1, .int x1), (2, .int x2), (3, .int x3), (4, .int x4), (5, .int x5), (6, .int x6), (7, .int x7), (8, .int x8)] → W p l e rm_L_listsAreSo s m args below meth c H locs 0 0 (MQ below (cQ (some (.int res)) (P δ)) args s 0 0 (fun q => lo ≤ q)) (F0 m 279 ls []) := by
  obtain ⟨⟨hx, hb, hml, hown, hts⟩, hr, hlocks, hK⟩ := id C0
  intro δ x1 x2 x3 x4 x5 x6 x7 x8 H locs ls hf hP hL hl
  unfold f_L_listsAreSo_b279 at hf
  refine lv_iload hx hb dL_listsAreSo_279 (lv_at hl 5 rfl) ?_
  refine lv_iconst (v := 3) hx hb dL_listsAreSo_281 (by decide) ?_
  refine lv_icmp_ge (tgt := 306) hx hb dL_listsAreSo_282 (by decide) (fun c1 => ?_) (fun c1 => ?_)
  · have hf := cx_t hf c1
    refine lv_iinc (v := (x7 + 1)) (lv' := [(7, .int (x7 + 1)), (0, .ref (ad 0)), (1, .int x1), (2, .int x2), (3, .int x3), (4, .int x4), (5, .int x5), (6, .int x6), (8, .int x8)]) hx hb dL_listsAreSo_306 hl (k := 7) rfl rfl (by decide) rfl (fun ls hl => ?_)
    refine lv_goto (tgt := 82) hx hb dL_listsAreSo_309 (by decide) ?_
    exact hk82 δ x1 x2 x3 x4 x5 x6 (x7 + 1) _ _ _ hf hP hL (lv_sub hl [1, 2, 3, 4, 5, 6, 7, 0] rfl)
  · have hf := cx_f hf c1
    refine lv_iload_n hx hb dL_listsAreSo_285 rfl (lv_at hl 2 rfl) ?_
    refine lv_aload_n hx hb dL_listsAreSo_286 rfl (lv_at hl 0 rfl) ?_
    refine g_Law_0 hC hP hx hb hts hown hK mw_12 dL_listsAreSo_287 ?_
    refine lv_iload hx hb dL_listsAreSo_290 (lv_at hl 8 rfl) ?_
    refine lv_iconst (v := 4) hx hb dL_listsAreSo_292 (by decide) ?_
    obtain ⟨r2, q3, hf⟩ := cx_b hf
    refine cx_callSX (As := [.ref ((adLG ad) 0), .int x8, .int 4]) (rest := [.int x2]) ⟨hx, hb, hml, hown, hts⟩ (c_L_block (cx_lwG hC δ) q3) (vx_cwSW 3 hts (gSWx mw_353 mw_354 mw_2 mw_355) rfl rfl rfl hd_L_block.2 ⟨Nat.le_of_ble_eq_true rfl, Nat.le_of_ble_eq_true rfl⟩) hK (show P (δ.1, δ.2) _ by (repeat rw [va_up_id]); exact hP) rfl hl.1 rfl (Nat.le_of_ble_eq_true rfl) dL_listsAreSo_293 ⟨Nat.zero_le _, Nat.zero_le _⟩ hL (fun H locs hP hL => ?_)
    replace hP : P δ H := by first | exact hP | (simpa only [va_up_id] using hP)
    refine lv_if_lt (tgt := 303) hx hb dL_listsAreSo_296 (by decide) (fun c4 => ?_) (fun c4 => ?_)
    · have hf := cx_t hf c4
      refine lv_iconst (v := 0) hx hb dL_listsAreSo_303 (by decide) ?_
      refine lv_iadd hx hb dL_listsAreSo_304 ?_
      refine lv_istore_n (lv' := [(2, .int (x2 + 0)), (0, .ref (ad 0)), (1, .int x1), (3, .int x3), (4, .int x4), (5, .int x5), (6, .int x6), (7, .int x7), (8, .int x8)]) hx hb dL_listsAreSo_305 rfl hl (by decide) rfl (fun ls hl => ?_)
      refine lv_iinc (v := (x7 + 1)) (lv' := [(7, .int (x7 + 1)), (2, .int (x2 + 0)), (0, .ref (ad 0)), (1, .int x1), (3, .int x3), (4, .int x4), (5, .int x5), (6, .int x6), (8, .int x8)]) hx hb dL_listsAreSo_306 hl (k := 7) rfl rfl (by decide) rfl (fun ls hl => ?_)
      refine lv_goto (tgt := 82) hx hb dL_listsAreSo_309 (by decide) ?_
      exact hk82 δ x1 (x2 + 0) x3 x4 x5 x6 (x7 + 1) _ _ _ hf hP hL (lv_sub hl [2, 3, 1, 4, 5, 6, 7, 0] rfl)
    · have hf := cx_f hf c4
      refine lv_iconst (v := 1) hx hb dL_listsAreSo_299 (by decide) ?_
      refine lv_goto (tgt := 304) hx hb dL_listsAreSo_300 (by decide) ?_
      refine lv_iadd hx hb dL_listsAreSo_304 ?_
      refine lv_istore_n (lv' := [(2, .int (x2 + 1)), (0, .ref (ad 0)), (1, .int x1), (3, .int x3), (4, .int x4), (5, .int x5), (6, .int x6), (7, .int x7), (8, .int x8)]) hx hb dL_listsAreSo_305 rfl hl (by decide) rfl (fun ls hl => ?_)
      refine lv_iinc (v := (x7 + 1)) (lv' := [(7, .int (x7 + 1)), (2, .int (x2 + 1)), (0, .ref (ad 0)), (1, .int x1), (3, .int x3), (4, .int x4), (5, .int x5), (6, .int x6), (8, .int x8)]) hx hb dL_listsAreSo_306 hl (k := 7) rfl rfl (by decide) rfl (fun ls hl => ?_)
      refine lv_goto (tgt := 82) hx hb dL_listsAreSo_309 (by decide) ?_
      exact hk82 δ x1 (x2 + 1) x3 x4 x5 x6 (x7 + 1) _ _ _ hf hP hL (lv_sub hl [2, 3, 1, 4, 5, 6, 7, 0] rfl)
def f_L_listsAreSo_b217 (N : Nat) (k19 : LwS → Int32 → Int32 → Int32 → Int32 → Int32 → Option (Int32)) (k82 : LwS → Int32 → Int32 → Int32 → Int32 → Int32 → Int32 → Int32 → Option (Int32)) (δ : LwS) (x1 : Int32) (x2 : Int32) (x3 : Int32) (x4 : Int32) (x5 : Int32) (x6 : Int32) (x7 : Int32) (x8 : Int32) : Option (Int32) := if 3 ≤ x5 then f_L_listsAreSo_b279 N k19 k82 δ x1 x2 x3 x4 x5 x6 x7 x8 else (f_L_block N δ.2 x8 2).bind fun r2 => gd x8 200 (if r2 = (δ.1.1 3 (Int32.toNatClampNeg x8)) then (f_L_block N δ.2 x8 4).bind fun r6 => if 0 ≤ r6 then f_L_listsAreSo_b279 N k19 k82 δ x1 x2 x3 x4 x5 x6 x7 x8 else (f_L_block N δ.2 x8 6).bind fun r9 => gd x8 200 (if r9 = (δ.1.1 3 (Int32.toNatClampNeg x8)) then f_L_listsAreSo_b279 N k19 k82 δ x1 x2 x3 x4 x5 x6 x7 x8 else some 0) else some 0)
set_option maxHeartbeats 4000000 in
set_option maxRecDepth 100000 in
theorem w_L_listsAreSo_b217 {p : Program} {l : Launch} {e : Env} {s : State} {m : MethodId} {args : Array Value} {below : List Frame} {meth : Method} {c : Code} {G : va_G} {cA : Nat → ClassId} (C0 : cB p s m args meth c RL cL_listsAreSo 9 (some .boolean) G cA) {lo : Nat} {ad : Nat → Nat} {sa : Nat} {sv : Nat → Option Nat} {P : LwS → Heap → Prop} (hC : cx G lo 264 ad (ceLaw sa sv cA ad) P) {N : Nat} {res : Int32} {k19 : LwS → Int32 → Int32 → Int32 → Int32 → Int32 → Option (Int32)} {k82 : LwS → Int32 → Int32 → Int32 → Int32 → Int32 → Int32 → Int32 → Option (Int32)} (hk19 : ∀ (δ : LwS) (x1 : Int32) (x2 : Int32) (x3 : Int32) (x4 : Int32) (x5 : Int32) (H : Heap) (locs : List Loc) (ls : Array Slot), k19 δ x1 x2 x3 x4 x5 = some res → P δ H → (∀ q ∈ locs, lo ≤ q.base) → lv_has ls 9 [(0, .ref (ad 0)), (1, .int x1), (2, .int x2), (3, .int x3), (4, .int x4), (5, .int x5)] → W p l e rm_L_listsAreSo s m args below meth c H locs 0 0 (MQ below (cQ (some (.int res)) (P δ)) args s 0 0 (fun q => lo ≤ q)) (F0 m 19 ls [])) (hk82 : ∀ (δ : LwS) (x1 : Int32) (x2 : Int32) (x3 : Int32) (x4 : Int32) (x5 : Int32) (x6 : Int32) (x7 : Int32) (H : Heap) (locs : List Loc) (ls : Array Slot), k82 δ x1 x2 x3 x4 x5 x6 x7 = some res → P δ H → (∀ q ∈ locs, lo ≤ q.base) → lv_has ls 9 [(0, .ref (ad 0)), (1, .int x1), (2, .int x2), (3, .int x3), (4, .int x4), (5, .int x5), (6, .int x6), (7, .int x7)] → W p l e rm_L_listsAreSo s m args below meth c H locs 0 0 (MQ below (cQ (some (.int res)) (P δ)) args s 0 0 (fun q => lo ≤ q)) (F0 m 82 ls [])) : ∀ (δ : LwS) (x1 : Int32) (x2 : Int32) (x3 : Int32) (x4 : Int32) (x5 : Int32) (x6 : Int32) (x7 : Int32) (x8 : Int32) (H : Heap) (locs : List Loc) (ls : Array Slot), f_L_listsAreSo_b217 N k19 k82 δ x1 x2 x3 x4 x5 x6 x7 x8 = some res → P δ H → (∀ q ∈ locs, lo ≤ q.base) → lv_has ls 9 [(0, .ref (ad 0)), (1, .int x1), (2, .int x2), (3, .int x3), (4, .int x4), (5, .int x5), (6, .int x6), (7, .int x7), (8, .int x8)] → W p l e rm_L_listsAreSo s m args below meth c H locs 0 0 (MQ below (cQ (some (.int res)) (P δ)) args s 0 0 (fun q => lo ≤ q)) (F0 m 217 ls []) := by
  obtain ⟨⟨hx, hb, hml, hown, hts⟩, hr, hlocks, hK⟩ := id C0
  intro δ x1 x2 x3 x4 x5 x6 x7 x8 H locs ls hf hP hL hl
  unfold f_L_listsAreSo_b217 at hf
  refine lv_iload hx hb dL_listsAreSo_217 (lv_at hl 5 rfl) ?_
  refine lv_iconst (v := 3) hx hb dL_listsAreSo_219 (by decide) ?_
  refine lv_icmp_ge (tgt := 279) hx hb dL_listsAreSo_220 (by decide) (fun c1 => ?_) (fun c1 => ?_)
  · have hf := cx_t hf c1
    exact w_L_listsAreSo_b279 C0 hC hk19 hk82 δ x1 x2 x3 x4 x5 x6 x7 x8 _ _ _ hf hP hL (lv_sub hl [0, 1, 2, 3, 4, 5, 6, 7, 8] rfl)
  · have hf := cx_f hf c1
    refine lv_aload_n hx hb dL_listsAreSo_223 rfl (lv_at hl 0 rfl) ?_
    refine g_Law_0 hC hP hx hb hts hown hK mw_12 dL_listsAreSo_224 ?_
    refine lv_iload hx hb dL_listsAreSo_227 (lv_at hl 8 rfl) ?_
    refine lv_iconst (v := 2) hx hb dL_listsAreSo_229 (by decide) ?_
    obtain ⟨r2, q3, hf⟩ := cx_b hf
    refine cx_callSX (As := [.ref ((adLG ad) 0), .int x8, .int 2]) (rest := []) ⟨hx, hb, hml, hown, hts⟩ (c_L_block (cx_lwG hC δ) q3) (vx_cwSW 3 hts (gSWx mw_353 mw_354 mw_2 mw_355) rfl rfl rfl hd_L_block.2 ⟨Nat.le_of_ble_eq_true rfl, Nat.le_of_ble_eq_true rfl⟩) hK (show P (δ.1, δ.2) _ by (repeat rw [va_up_id]); exact hP) rfl hl.1 rfl (Nat.le_of_ble_eq_true rfl) dL_listsAreSo_230 ⟨Nat.zero_le _, Nat.zero_le _⟩ hL (fun H locs hP hL => ?_)
    replace hP : P δ H := by first | exact hP | (simpa only [va_up_id] using hP)
    refine lv_aload_n hx hb dL_listsAreSo_233 rfl (lv_at hl 0 rfl) ?_
    refine g_Law_3 hC hP hx hb hts hown hK mw_14 dL_listsAreSo_234 ?_
    refine lv_iload hx hb dL_listsAreSo_237 (lv_at hl 8 rfl) ?_
    obtain ⟨hi4, hf⟩ := gdE hf
    refine ga_Law_3 hC hP hx hb hK hi4 dL_listsAreSo_239 ?_
    refine lv_icmp_ne (tgt := 277) hx hb dL_listsAreSo_240 (by decide) (fun c5 => ?_) (fun c5 => ?_)
    · have hf := cx_f hf c5
      refine lv_iconst (v := 0) hx hb dL_listsAreSo_277 (by decide) ?_
      cases hf
      exact cx_zret hx hb hr hlocks (Or.inl rfl) hP hL dL_listsAreSo_278
    · have hf := cx_t hf c5
      refine lv_aload_n hx hb dL_listsAreSo_243 rfl (lv_at hl 0 rfl) ?_
      refine g_Law_0 hC hP hx hb hts hown hK mw_12 dL_listsAreSo_244 ?_
      refine lv_iload hx hb dL_listsAreSo_247 (lv_at hl 8 rfl) ?_
      refine lv_iconst (v := 4) hx hb dL_listsAreSo_249 (by decide) ?_
      obtain ⟨r6, q7, hf⟩ := cx_b hf
      refine cx_callSX (As := [.ref ((adLG ad) 0), .int x8, .int 4]) (rest := []) ⟨hx, hb, hml, hown, hts⟩ (c_L_block (cx_lwG hC δ) q7) (vx_cwSW 3 hts (gSWx mw_353 mw_354 mw_2 mw_355) rfl rfl rfl hd_L_block.2 ⟨Nat.le_of_ble_eq_true rfl, Nat.le_of_ble_eq_true rfl⟩) hK (show P (δ.1, δ.2) _ by (repeat rw [va_up_id]); exact hP) rfl hl.1 rfl (Nat.le_of_ble_eq_true rfl) dL_listsAreSo_250 ⟨Nat.zero_le _, Nat.zero_le _⟩ hL (fun H locs hP hL => ?_)
      replace hP : P δ H := by first | exact hP | (simpa only [va_up_id] using hP)
      refine lv_if_ge (tgt := 279) hx hb dL_listsAreSo_253 (by decide) (fun c8 => ?_) (fun c8 => ?_)
      · have hf := cx_t hf c8
        exact w_L_listsAreSo_b279 C0 hC hk19 hk82 δ x1 x2 x3 x4 x5 x6 x7 x8 _ _ _ hf hP hL (lv_sub hl [0, 1, 2, 3, 4, 5, 6, 7, 8] rfl)
      · have hf := cx_f hf c8
        refine lv_aload_n hx hb dL_listsAreSo_256 rfl (lv_at hl 0 rfl) ?_
        refine g_Law_0 hC hP hx hb hts hown hK mw_12 dL_listsAreSo_257 ?_
        refine lv_iload hx hb dL_listsAreSo_260 (lv_at hl 8 rfl) ?_
        refine lv_bipush (v := 6) hx hb dL_listsAreSo_262 (by decide) ?_
        obtain ⟨r9, q10, hf⟩ := cx_b hf
        refine cx_callSX (As := [.ref ((adLG ad) 0), .int x8, .int 6]) (rest := []) ⟨hx, hb, hml, hown, hts⟩ (c_L_block (cx_lwG hC δ) q10) (vx_cwSW 3 hts (gSWx mw_353 mw_354 mw_2 mw_355) rfl rfl rfl hd_L_block.2 ⟨Nat.le_of_ble_eq_true rfl, Nat.le_of_ble_eq_true rfl⟩) hK (show P (δ.1, δ.2) _ by (repeat rw [va_up_id]); exact hP) rfl hl.1 rfl (Nat.le_of_ble_eq_true rfl) dL_listsAreSo_264 ⟨Nat.zero_le _, Nat.zero_le _⟩ hL (fun H locs hP hL => ?_)
        replace hP : P δ H := by first | exact hP | (simpa only [va_up_id] using hP)
        refine lv_aload_n hx hb dL_listsAreSo_267 rfl (lv_at hl 0 rfl) ?_
        refine g_Law_3 hC hP hx hb hts hown hK mw_14 dL_listsAreSo_268 ?_
        refine lv_iload hx hb dL_listsAreSo_271 (lv_at hl 8 rfl) ?_
        obtain ⟨hi11, hf⟩ := gdE hf
        refine ga_Law_3 hC hP hx hb hK hi11 dL_listsAreSo_273 ?_
        refine lv_icmp_eq (tgt := 279) hx hb dL_listsAreSo_274 (by decide) (fun c12 => ?_) (fun c12 => ?_)
        · have hf := cx_t hf c12
          exact w_L_listsAreSo_b279 C0 hC hk19 hk82 δ x1 x2 x3 x4 x5 x6 x7 x8 _ _ _ hf hP hL (lv_sub hl [0, 1, 2, 3, 4, 5, 6, 7, 8] rfl)
        · have hf := cx_f hf c12
          refine lv_iconst (v := 0) hx hb dL_listsAreSo_277 (by decide) ?_
          cases hf
          exact cx_zret hx hb hr hlocks (Or.inl rfl) hP hL dL_listsAreSo_278
def f_L_listsAreSo_b195 (N : Nat) (k19 : LwS → Int32 → Int32 → Int32 → Int32 → Int32 → Option (Int32)) (k82 : LwS → Int32 → Int32 → Int32 → Int32 → Int32 → Int32 → Int32 → Option (Int32)) (δ : LwS) (x1 : Int32) (x2 : Int32) (x3 : Int32) (x4 : Int32) (x5 : Int32) (x6 : Int32) (x7 : Int32) (x8 : Int32) : Option (Int32) := if 2 ≤ x5 then f_L_listsAreSo_b217 N k19 k82 δ x1 x2 x3 x4 x5 x6 x7 x8 else (f_L_block N δ.2 x8 5).bind fun r2 => if r2 = (-1) then f_L_listsAreSo_b217 N k19 k82 δ x1 x2 x3 x4 x5 x6 x7 x8 else some 0
set_option maxHeartbeats 4000000 in
set_option maxRecDepth 100000 in
theorem w_L_listsAreSo_b195 {p : Program} {l : Launch} {e : Env} {s : State} {m : MethodId} {args : Array Value} {below : List Frame} {meth : Method} {c : Code} {G : va_G} {cA : Nat → ClassId} (C0 : cB p s m args meth c RL cL_listsAreSo 9 (some .boolean) G cA) {lo : Nat} {ad : Nat → Nat} {sa : Nat} {sv : Nat → Option Nat} {P : LwS → Heap → Prop} (hC : cx G lo 264 ad (ceLaw sa sv cA ad) P) {N : Nat} {res : Int32} {k19 : LwS → Int32 → Int32 → Int32 → Int32 → Int32 → Option (Int32)} {k82 : LwS → Int32 → Int32 → Int32 → Int32 → Int32 → Int32 → Int32 → Option (Int32)} (hk19 : ∀ (δ : LwS) (x1 : Int32) (x2 : Int32) (x3 : Int32) (x4 : Int32) (x5 : Int32) (H : Heap) (locs : List Loc) (ls : Array Slot), k19 δ x1 x2 x3 x4 x5 = some res → P δ H → (∀ q ∈ locs, lo ≤ q.base) → lv_has ls 9 [(0, .ref (ad 0)), (1, .int x1), (2, .int x2), (3, .int x3), (4, .int x4), (5, .int x5)] → W p l e rm_L_listsAreSo s m args below meth c H locs 0 0 (MQ below (cQ (some (.int res)) (P δ)) args s 0 0 (fun q => lo ≤ q)) (F0 m 19 ls [])) (hk82 : ∀ (δ : LwS) (x1 : Int32) (x2 : Int32) (x3 : Int32) (x4 : Int32) (x5 : Int32) (x6 : Int32) (x7 : Int32) (H : Heap) (locs : List Loc) (ls : Array Slot), k82 δ x1 x2 x3 x4 x5 x6 x7 = some res → P δ H → (∀ q ∈ locs, lo ≤ q.base) → lv_has ls 9 [(0, .ref (ad 0)), (1, .int x1), (2, .int x2), (3, .int x3), (4, .int x4), (5, .int x5), (6, .int x6), (7, .int x7)] → W p l e rm_L_listsAreSo s m args below meth c H locs 0 0 (MQ below (cQ (some (.int res)) (P δ)) args s 0 0 (fun q => lo ≤ q)) (F0 m 82 ls [])) : ∀ (δ : LwS) (x1 : Int32) (x2 : Int32) (x3 : Int32) (x4 : Int32) (x5 : Int32) (x6 : Int32) (x7 : Int32) (x8 : Int32) (H : Heap) (locs : List Loc) (ls : Array Slot), f_L_listsAreSo_b195 N k19 k82 δ x1 x2 x3 x4 x5 x6 x7 x8 = some res → P δ H → (∀ q ∈ locs, lo ≤ q.base) → lv_has ls 9 [(0, .ref (ad 0)), (1, .int x1), (2, .int x2), (3, .int x3), (4, .int x4), (5, .int x5), (6, .int x6), (7, .int x7), (8, .int x8)] → W p l e rm_L_listsAreSo s m args below meth c H locs 0 0 (MQ below (cQ (some (.int res)) (P δ)) args s 0 0 (fun q => lo ≤ q)) (F0 m 195 ls []) := by
  obtain ⟨⟨hx, hb, hml, hown, hts⟩, hr, hlocks, hK⟩ := id C0
  intro δ x1 x2 x3 x4 x5 x6 x7 x8 H locs ls hf hP hL hl
  unfold f_L_listsAreSo_b195 at hf
  refine lv_iload hx hb dL_listsAreSo_195 (lv_at hl 5 rfl) ?_
  refine lv_iconst (v := 2) hx hb dL_listsAreSo_197 (by decide) ?_
  refine lv_icmp_ge (tgt := 217) hx hb dL_listsAreSo_198 (by decide) (fun c1 => ?_) (fun c1 => ?_)
  · have hf := cx_t hf c1
    exact w_L_listsAreSo_b217 C0 hC hk19 hk82 δ x1 x2 x3 x4 x5 x6 x7 x8 _ _ _ hf hP hL (lv_sub hl [0, 1, 2, 3, 4, 5, 6, 7, 8] rfl)
  · have hf := cx_f hf c1
    refine lv_aload_n hx hb dL_listsAreSo_201 rfl (lv_at hl 0 rfl) ?_
    refine g_Law_0 hC hP hx hb hts hown hK mw_12 dL_listsAreSo_202 ?_
    refine lv_iload hx hb dL_listsAreSo_205 (lv_at hl 8 rfl) ?_
    refine lv_iconst (v := 5) hx hb dL_listsAreSo_207 (by decide) ?_
    obtain ⟨r2, q3, hf⟩ := cx_b hf
    refine cx_callSX (As := [.ref ((adLG ad) 0), .int x8, .int 5]) (rest := []) ⟨hx, hb, hml, hown, hts⟩ (c_L_block (cx_lwG hC δ) q3) (vx_cwSW 3 hts (gSWx mw_353 mw_354 mw_2 mw_355) rfl rfl rfl hd_L_block.2 ⟨Nat.le_of_ble_eq_true rfl, Nat.le_of_ble_eq_true rfl⟩) hK (show P (δ.1, δ.2) _ by (repeat rw [va_up_id]); exact hP) rfl hl.1 rfl (Nat.le_of_ble_eq_true rfl) dL_listsAreSo_208 ⟨Nat.zero_le _, Nat.zero_le _⟩ hL (fun H locs hP hL => ?_)
    replace hP : P δ H := by first | exact hP | (simpa only [va_up_id] using hP)
    refine lv_iconst (v := (-1)) hx hb dL_listsAreSo_211 (by decide) ?_
    refine lv_icmp_eq (tgt := 217) hx hb dL_listsAreSo_212 (by decide) (fun c4 => ?_) (fun c4 => ?_)
    · have hf := cx_t hf c4
      exact w_L_listsAreSo_b217 C0 hC hk19 hk82 δ x1 x2 x3 x4 x5 x6 x7 x8 _ _ _ hf hP hL (lv_sub hl [0, 1, 2, 3, 4, 5, 6, 7, 8] rfl)
    · have hf := cx_f hf c4
      refine lv_iconst (v := 0) hx hb dL_listsAreSo_215 (by decide) ?_
      cases hf
      exact cx_zret hx hb hr hlocks (Or.inl rfl) hP hL dL_listsAreSo_216
def f_L_listsAreSo_b145 (N : Nat) (k19 : LwS → Int32 → Int32 → Int32 → Int32 → Int32 → Option (Int32)) (k82 : LwS → Int32 → Int32 → Int32 → Int32 → Int32 → Int32 → Int32 → Option (Int32)) (δ : LwS) (x1 : Int32) (x2 : Int32) (x3 : Int32) (x4 : Int32) (x5 : Int32) (x6 : Int32) (x7 : Int32) (x8 : Int32) : Option (Int32) := if x5 ≤ 2 then f_L_listsAreSo_b195 N k19 k82 δ x1 x2 x3 x4 x5 x6 x7 x8 else (f_L_block N δ.2 x8 5).bind fun r2 => if r2 = x5 then (f_L_block N δ.2 x8 0).bind fun r5 => if r5 = 0 then some 0 else (f_L_block N δ.2 x8 0).bind fun r8 => if r8 = 1 then some 0 else f_L_listsAreSo_b195 N k19 k82 δ x1 x2 x3 x4 x5 x6 x7 x8 else some 0
set_option maxHeartbeats 4000000 in
set_option maxRecDepth 100000 in
theorem w_L_listsAreSo_b145 {p : Program} {l : Launch} {e : Env} {s : State} {m : MethodId} {args : Array Value} {below : List Frame} {meth : Method} {c : Code} {G : va_G} {cA : Nat → ClassId} (C0 : cB p s m args meth c RL cL_listsAreSo 9 (some .boolean) G cA) {lo : Nat} {ad : Nat → Nat} {sa : Nat} {sv : Nat → Option Nat} {P : LwS → Heap → Prop} (hC : cx G lo 264 ad (ceLaw sa sv cA ad) P) {N : Nat} {res : Int32} {k19 : LwS → Int32 → Int32 → Int32 → Int32 → Int32 → Option (Int32)} {k82 : LwS → Int32 → Int32 → Int32 → Int32 → Int32 → Int32 → Int32 → Option (Int32)} (hk19 : ∀ (δ : LwS) (x1 : Int32) (x2 : Int32) (x3 : Int32) (x4 : Int32) (x5 : Int32) (H : Heap) (locs : List Loc) (ls : Array Slot), k19 δ x1 x2 x3 x4 x5 = some res → P δ H → (∀ q ∈ locs, lo ≤ q.base) → lv_has ls 9 [(0, .ref (ad 0)), (1, .int x1), (2, .int x2), (3, .int x3), (4, .int x4), (5, .int x5)] → W p l e rm_L_listsAreSo s m args below meth c H locs 0 0 (MQ below (cQ (some (.int res)) (P δ)) args s 0 0 (fun q => lo ≤ q)) (F0 m 19 ls [])) (hk82 : ∀ (δ : LwS) (x1 : Int32) (x2 : Int32) (x3 : Int32) (x4 : Int32) (x5 : Int32) (x6 : Int32) (x7 : Int32) (H : Heap) (locs : List Loc) (ls : Array Slot), k82 δ x1 x2 x3 x4 x5 x6 x7 = some res → P δ H → (∀ q ∈ locs, lo ≤ q.base) → lv_has ls 9 [(0, .ref (ad 0)), (1, .int x1), (2, .int x2), (3, .int x3), (4, .int x4), (5, .int x5), (6, .int x6), (7, .int x7)] → W p l e rm_L_listsAreSo s m args below meth c H locs 0 0 (MQ below (cQ (some (.int res)) (P δ)) args s 0 0 (fun q => lo ≤ q)) (F0 m 82 ls [])) : ∀ (δ : LwS) (x1 : Int32) (x2 : Int32) (x3 : Int32) (x4 : Int32) (x5 : Int32) (x6 : Int32) (x7 : Int32) (x8 : Int32) (H : Heap) (locs : List Loc) (ls : Array Slot), f_L_listsAreSo_b145 N k19 k82 δ x1 x2 x3 x4 x5 x6 x7 x8 = some res → P δ H → (∀ q ∈ locs, lo ≤ q.base) → lv_has ls 9 [(0, .ref (ad 0)), (1, .int x1), (2, .int x2), (3, .int x3), (4, .int x4), (5, .int x5), (6, .int x6), (7, .int x7), (8, .int x8)] → W p l e rm_L_listsAreSo s m args below meth c H locs 0 0 (MQ below (cQ (some (.int res)) (P δ)) args s 0 0 (fun q => lo ≤ q)) (F0 m 145 ls []) := by
  obtain ⟨⟨hx, hb, hml, hown, hts⟩, hr, hlocks, hK⟩ := id C0
  intro δ x1 x2 x3 x4 x5 x6 x7 x8 H locs ls hf hP hL hl
  unfold f_L_listsAreSo_b145 at hf
  refine lv_iload hx hb dL_listsAreSo_145 (lv_at hl 5 rfl) ?_
  refine lv_iconst (v := 2) hx hb dL_listsAreSo_147 (by decide) ?_
  refine lv_icmp_le (tgt := 195) hx hb dL_listsAreSo_148 (by decide) (fun c1 => ?_) (fun c1 => ?_)
  · have hf := cx_t hf c1
    exact w_L_listsAreSo_b195 C0 hC hk19 hk82 δ x1 x2 x3 x4 x5 x6 x7 x8 _ _ _ hf hP hL (lv_sub hl [0, 1, 2, 3, 4, 5, 6, 7, 8] rfl)
  · have hf := cx_f hf c1
    refine lv_aload_n hx hb dL_listsAreSo_151 rfl (lv_at hl 0 rfl) ?_
    refine g_Law_0 hC hP hx hb hts hown hK mw_12 dL_listsAreSo_152 ?_
    refine lv_iload hx hb dL_listsAreSo_155 (lv_at hl 8 rfl) ?_
    refine lv_iconst (v := 5) hx hb dL_listsAreSo_157 (by decide) ?_
    obtain ⟨r2, q3, hf⟩ := cx_b hf
    refine cx_callSX (As := [.ref ((adLG ad) 0), .int x8, .int 5]) (rest := []) ⟨hx, hb, hml, hown, hts⟩ (c_L_block (cx_lwG hC δ) q3) (vx_cwSW 3 hts (gSWx mw_353 mw_354 mw_2 mw_355) rfl rfl rfl hd_L_block.2 ⟨Nat.le_of_ble_eq_true rfl, Nat.le_of_ble_eq_true rfl⟩) hK (show P (δ.1, δ.2) _ by (repeat rw [va_up_id]); exact hP) rfl hl.1 rfl (Nat.le_of_ble_eq_true rfl) dL_listsAreSo_158 ⟨Nat.zero_le _, Nat.zero_le _⟩ hL (fun H locs hP hL => ?_)
    replace hP : P δ H := by first | exact hP | (simpa only [va_up_id] using hP)
    refine lv_iload hx hb dL_listsAreSo_161 (lv_at hl 5 rfl) ?_
    refine lv_icmp_ne (tgt := 193) hx hb dL_listsAreSo_163 (by decide) (fun c4 => ?_) (fun c4 => ?_)
    · have hf := cx_f hf c4
      refine lv_iconst (v := 0) hx hb dL_listsAreSo_193 (by decide) ?_
      cases hf
      exact cx_zret hx hb hr hlocks (Or.inl rfl) hP hL dL_listsAreSo_194
    · have hf := cx_t hf c4
      refine lv_aload_n hx hb dL_listsAreSo_166 rfl (lv_at hl 0 rfl) ?_
      refine g_Law_0 hC hP hx hb hts hown hK mw_12 dL_listsAreSo_167 ?_
      refine lv_iload hx hb dL_listsAreSo_170 (lv_at hl 8 rfl) ?_
      refine lv_iconst (v := 0) hx hb dL_listsAreSo_172 (by decide) ?_
      obtain ⟨r5, q6, hf⟩ := cx_b hf
      refine cx_callSX (As := [.ref ((adLG ad) 0), .int x8, .int 0]) (rest := []) ⟨hx, hb, hml, hown, hts⟩ (c_L_block (cx_lwG hC δ) q6) (vx_cwSW 3 hts (gSWx mw_353 mw_354 mw_2 mw_355) rfl rfl rfl hd_L_block.2 ⟨Nat.le_of_ble_eq_true rfl, Nat.le_of_ble_eq_true rfl⟩) hK (show P (δ.1, δ.2) _ by (repeat rw [va_up_id]); exact hP) rfl hl.1 rfl (Nat.le_of_ble_eq_true rfl) dL_listsAreSo_173 ⟨Nat.zero_le _, Nat.zero_le _⟩ hL (fun H locs hP hL => ?_)
      replace hP : P δ H := by first | exact hP | (simpa only [va_up_id] using hP)
      refine lv_if_eq (tgt := 193) hx hb dL_listsAreSo_176 (by decide) (fun c7 => ?_) (fun c7 => ?_)
      · have hf := cx_t hf c7
        refine lv_iconst (v := 0) hx hb dL_listsAreSo_193 (by decide) ?_
        cases hf
        exact cx_zret hx hb hr hlocks (Or.inl rfl) hP hL dL_listsAreSo_194
      · have hf := cx_f hf c7
        refine lv_aload_n hx hb dL_listsAreSo_179 rfl (lv_at hl 0 rfl) ?_
        refine g_Law_0 hC hP hx hb hts hown hK mw_12 dL_listsAreSo_180 ?_
        refine lv_iload hx hb dL_listsAreSo_183 (lv_at hl 8 rfl) ?_
        refine lv_iconst (v := 0) hx hb dL_listsAreSo_185 (by decide) ?_
        obtain ⟨r8, q9, hf⟩ := cx_b hf
        refine cx_callSX (As := [.ref ((adLG ad) 0), .int x8, .int 0]) (rest := []) ⟨hx, hb, hml, hown, hts⟩ (c_L_block (cx_lwG hC δ) q9) (vx_cwSW 3 hts (gSWx mw_353 mw_354 mw_2 mw_355) rfl rfl rfl hd_L_block.2 ⟨Nat.le_of_ble_eq_true rfl, Nat.le_of_ble_eq_true rfl⟩) hK (show P (δ.1, δ.2) _ by (repeat rw [va_up_id]); exact hP) rfl hl.1 rfl (Nat.le_of_ble_eq_true rfl) dL_listsAreSo_186 ⟨Nat.zero_le _, Nat.zero_le _⟩ hL (fun H locs hP hL => ?_)
        replace hP : P δ H := by first | exact hP | (simpa only [va_up_id] using hP)
        refine lv_iconst (v := 1) hx hb dL_listsAreSo_189 (by decide) ?_
        refine lv_icmp_ne (tgt := 195) hx hb dL_listsAreSo_190 (by decide) (fun c10 => ?_) (fun c10 => ?_)
        · have hf := cx_f hf c10
          exact w_L_listsAreSo_b195 C0 hC hk19 hk82 δ x1 x2 x3 x4 x5 x6 x7 x8 _ _ _ hf hP hL (lv_sub hl [0, 1, 2, 3, 4, 5, 6, 7, 8] rfl)
        · have hf := cx_t hf c10
          refine lv_iconst (v := 0) hx hb dL_listsAreSo_193 (by decide) ?_
          cases hf
          exact cx_zret hx hb hr hlocks (Or.inl rfl) hP hL dL_listsAreSo_194
def f_L_listsAreSo_b362 (N : Nat) (k19 : LwS → Int32 → Int32 → Int32 → Int32 → Int32 → Option (Int32)) (δ : LwS) (x1 : Int32) (x2 : Int32) (x3 : Int32) (x4 : Int32) (x5 : Int32) (x8 : Int32) (y0 : Int32) : Option (Int32) := if x8 ≤ 0 then if y0 = 0 then k19 δ x1 x2 x3 x4 (x5 + 1) else some 0 else if y0 = 1 then k19 δ x1 x2 x3 x4 (x5 + 1) else some 0
set_option maxHeartbeats 4000000 in
set_option maxRecDepth 100000 in
theorem w_L_listsAreSo_b362 {p : Program} {l : Launch} {e : Env} {s : State} {m : MethodId} {args : Array Value} {below : List Frame} {meth : Method} {c : Code} {G : va_G} {cA : Nat → ClassId} (C0 : cB p s m args meth c RL cL_listsAreSo 9 (some .boolean) G cA) {lo : Nat} {ad : Nat → Nat} {sa : Nat} {sv : Nat → Option Nat} {P : LwS → Heap → Prop} (hC : cx G lo 264 ad (ceLaw sa sv cA ad) P) {N : Nat} {res : Int32} {k19 : LwS → Int32 → Int32 → Int32 → Int32 → Int32 → Option (Int32)} (hk19 : ∀ (δ : LwS) (x1 : Int32) (x2 : Int32) (x3 : Int32) (x4 : Int32) (x5 : Int32) (H : Heap) (locs : List Loc) (ls : Array Slot), k19 δ x1 x2 x3 x4 x5 = some res → P δ H → (∀ q ∈ locs, lo ≤ q.base) → lv_has ls 9 [(0, .ref (ad 0)), (1, .int x1), (2, .int x2), (3, .int x3), (4, .int x4), (5, .int x5)] → W p l e rm_L_listsAreSo s m args below meth c H locs 0 0 (MQ below (cQ (some (.int res)) (P δ)) args s 0 0 (fun q => lo ≤ q)) (F0 m 19 ls [])) : ∀ (δ : LwS) (x1 : Int32) (x2 : Int32) (x3 : Int32) (x4 : Int32) (x5 : Int32) (x8 : Int32) (y0 : Int32) (H : Heap) (locs : List Loc) (ls : Array Slot), f_L_listsAreSo_b362 N k19 δ x1 x2 x3 x4 x5 x8 y0 = some res → P δ H → (∀ q ∈ locs, lo ≤ q.base) → lv_has ls 9 [(0, .ref (ad 0)), (1, .int x1), (2, .int x2), (3, .int x3), (4, .int x4), (5, .int x5), (8, .int x8)] → W p l e rm_L_listsAreSo s m args below meth c H locs 0 0 (MQ below (cQ (some (.int res)) (P δ)) args s 0 0 (fun q => lo ≤ q)) (F0 m 362 ls [.int y0]) := by
  obtain ⟨⟨hx, hb, hml, hown, hts⟩, hr, hlocks, hK⟩ := id C0
  intro δ x1 x2 x3 x4 x5 x8 y0 H locs ls hf hP hL hl
  unfold f_L_listsAreSo_b362 at hf
  refine lv_iload hx hb dL_listsAreSo_362 (lv_at hl 6 rfl) ?_
  refine lv_if_le (tgt := 371) hx hb dL_listsAreSo_364 (by decide) (fun c1 => ?_) (fun c1 => ?_)
  · have hf := cx_t hf c1
    refine lv_iconst (v := 0) hx hb dL_listsAreSo_371 (by decide) ?_
    refine lv_icmp_eq (tgt := 377) hx hb dL_listsAreSo_372 (by decide) (fun c2 => ?_) (fun c2 => ?_)
    · have hf := cx_t hf c2
      refine lv_iinc (v := (x5 + 1)) (lv' := [(5, .int (x5 + 1)), (0, .ref (ad 0)), (1, .int x1), (2, .int x2), (3, .int x3), (4, .int x4), (8, .int x8)]) hx hb dL_listsAreSo_377 hl (k := 5) rfl rfl (by decide) rfl (fun ls hl => ?_)
      refine lv_goto (tgt := 19) hx hb dL_listsAreSo_380 (by decide) ?_
      exact hk19 δ x1 x2 x3 x4 (x5 + 1) _ _ _ hf hP hL (lv_sub hl [1, 2, 3, 4, 5, 0] rfl)
    · have hf := cx_f hf c2
      refine lv_iconst (v := 0) hx hb dL_listsAreSo_375 (by decide) ?_
      cases hf
      exact cx_zret hx hb hr hlocks (Or.inl rfl) hP hL dL_listsAreSo_376
  · have hf := cx_f hf c1
    refine lv_iconst (v := 1) hx hb dL_listsAreSo_367 (by decide) ?_
    refine lv_goto (tgt := 372) hx hb dL_listsAreSo_368 (by decide) ?_
    refine lv_icmp_eq (tgt := 377) hx hb dL_listsAreSo_372 (by decide) (fun c3 => ?_) (fun c3 => ?_)
    · have hf := cx_t hf c3
      refine lv_iinc (v := (x5 + 1)) (lv' := [(5, .int (x5 + 1)), (0, .ref (ad 0)), (1, .int x1), (2, .int x2), (3, .int x3), (4, .int x4), (8, .int x8)]) hx hb dL_listsAreSo_377 hl (k := 5) rfl rfl (by decide) rfl (fun ls hl => ?_)
      refine lv_goto (tgt := 19) hx hb dL_listsAreSo_380 (by decide) ?_
      exact hk19 δ x1 x2 x3 x4 (x5 + 1) _ _ _ hf hP hL (lv_sub hl [1, 2, 3, 4, 5, 0] rfl)
    · have hf := cx_f hf c3
      refine lv_iconst (v := 0) hx hb dL_listsAreSo_375 (by decide) ?_
      cases hf
      exact cx_zret hx hb hr hlocks (Or.inl rfl) hP hL dL_listsAreSo_376
def f_L_listsAreSo_b82 (N : Nat) (k19 : LwS → Int32 → Int32 → Int32 → Int32 → Int32 → Option (Int32)) : Nat → LwS → Int32 → Int32 → Int32 → Int32 → Int32 → Int32 → Int32 → Option (Int32)
  | 0, _, _, _, _, _, _, _, _ => none
  | n + 1, δ, x1, x2, x3, x4, x5, x6, x7 => if x6 ≤ x7 then (f_L_between N δ.2 x5 0 199).bind fun r2 => (f_L_longest N δ.2 x5).bind fun r4 => if r2 = x6 then if x6 < r4 then some 0 else if x6 ≤ 0 then f_L_listsAreSo_b362 N k19 δ x1 x2 x3 x4 x5 r4 0 else f_L_listsAreSo_b362 N k19 δ x1 x2 x3 x4 x5 r4 1 else some 0 else (f_L_at_ δ.2 x5 x7).bind fun r9 => if 0 ≤ r9 then if 3 ≤ x5 then f_L_listsAreSo_b145 N k19 (f_L_listsAreSo_b82 N k19 n) δ x1 x2 x3 x4 x5 x6 x7 r9 else (f_L_block N δ.2 r9 0).bind fun r13 => if r13 = x5 then (f_L_block N δ.2 r9 1).bind fun r16 => if r16 = x7 then f_L_listsAreSo_b145 N k19 (f_L_listsAreSo_b82 N k19 n) δ x1 x2 x3 x4 x5 x6 x7 r9 else some 0 else some 0 else some 0
set_option maxHeartbeats 4000000 in
set_option maxRecDepth 100000 in
theorem w_L_listsAreSo_b82 {p : Program} {l : Launch} {e : Env} {s : State} {m : MethodId} {args : Array Value} {below : List Frame} {meth : Method} {c : Code} {G : va_G} {cA : Nat → ClassId} (C0 : cB p s m args meth c RL cL_listsAreSo 9 (some .boolean) G cA) {lo : Nat} {ad : Nat → Nat} {sa : Nat} {sv : Nat → Option Nat} {P : LwS → Heap → Prop} (hC : cx G lo 264 ad (ceLaw sa sv cA ad) P) {N : Nat} {res : Int32} {k19 : LwS → Int32 → Int32 → Int32 → Int32 → Int32 → Option (Int32)} (hk19 : ∀ (δ : LwS) (x1 : Int32) (x2 : Int32) (x3 : Int32) (x4 : Int32) (x5 : Int32) (H : Heap) (locs : List Loc) (ls : Array Slot), k19 δ x1 x2 x3 x4 x5 = some res → P δ H → (∀ q ∈ locs, lo ≤ q.base) → lv_has ls 9 [(0, .ref (ad 0)), (1, .int x1), (2, .int x2), (3, .int x3), (4, .int x4), (5, .int x5)] → W p l e rm_L_listsAreSo s m args below meth c H locs 0 0 (MQ below (cQ (some (.int res)) (P δ)) args s 0 0 (fun q => lo ≤ q)) (F0 m 19 ls [])) : ∀ (n : Nat) (δ : LwS) (x1 : Int32) (x2 : Int32) (x3 : Int32) (x4 : Int32) (x5 : Int32) (x6 : Int32) (x7 : Int32) (H : Heap) (locs : List Loc) (ls : Array Slot), f_L_listsAreSo_b82 N k19 n δ x1 x2 x3 x4 x5 x6 x7 = some res → P δ H → (∀ q ∈ locs, lo ≤ q.base) → lv_has ls 9 [(0, .ref (ad 0)), (1, .int x1), (2, .int x2), (3, .int x3), (4, .int x4), (5, .int x5), (6, .int x6), (7, .int x7)] → W p l e rm_L_listsAreSo s m args below meth c H locs 0 0 (MQ below (cQ (some (.int res)) (P δ)) args s 0 0 (fun q => lo ≤ q)) (F0 m 82 ls []) := by
  obtain ⟨⟨hx, hb, hml, hown, hts⟩, hr, hlocks, hK⟩ := id C0
  intro n
  induction n with
  | zero => intro δ x1 x2 x3 x4 x5 x6 x7 H locs ls
            exact fun hf => nomatch hf
  | succ n ih =>
    intro δ x1 x2 x3 x4 x5 x6 x7 H locs ls hf hP hL hl
    rw [f_L_listsAreSo_b82] at hf
    refine lv_iload hx hb dL_listsAreSo_82 (lv_at hl 7 rfl) ?_
    refine lv_iload hx hb dL_listsAreSo_84 (lv_at hl 6 rfl) ?_
    refine lv_icmp_ge (tgt := 312) hx hb dL_listsAreSo_86 (by decide) (fun c1 => ?_) (fun c1 => ?_)
    · have hf := cx_t hf c1
      refine lv_aload_n hx hb dL_listsAreSo_312 rfl (lv_at hl 0 rfl) ?_
      refine g_Law_0 hC hP hx hb hts hown hK mw_12 dL_listsAreSo_313 ?_
      refine lv_iload hx hb dL_listsAreSo_316 (lv_at hl 5 rfl) ?_
      refine lv_iconst (v := 0) hx hb dL_listsAreSo_318 (by decide) ?_
      refine lv_sipush (v := 199) hx hb dL_listsAreSo_319 (by decide) ?_
      obtain ⟨r2, q3, hf⟩ := cx_b hf
      refine cx_callSX (As := [.ref ((adLG ad) 0), .int x5, .int 0, .int 199]) (rest := []) ⟨hx, hb, hml, hown, hts⟩ (c_L_between (cx_lwG hC δ) q3) (vx_cwSW 4 hts (gSWx mw_611 mw_612 mw_2 mw_613) rfl rfl rfl hd_L_between.2 ⟨Nat.le_of_ble_eq_true rfl, Nat.le_of_ble_eq_true rfl⟩) hK (show P (δ.1, δ.2) _ by (repeat rw [va_up_id]); exact hP) rfl hl.1 rfl (Nat.le_of_ble_eq_true rfl) dL_listsAreSo_322 ⟨Nat.zero_le _, Nat.zero_le _⟩ hL (fun H locs hP hL => ?_)
      replace hP : P δ H := by first | exact hP | (simpa only [va_up_id] using hP)
      refine lv_istore (lv' := [(7, .int r2), (0, .ref (ad 0)), (1, .int x1), (2, .int x2), (3, .int x3), (4, .int x4), (5, .int x5), (6, .int x6)]) hx hb dL_listsAreSo_325 hl (by decide) rfl (fun ls hl => ?_)
      refine lv_aload_n hx hb dL_listsAreSo_327 rfl (lv_at hl 1 rfl) ?_
      refine g_Law_0 hC hP hx hb hts hown hK mw_12 dL_listsAreSo_328 ?_
      refine lv_iload hx hb dL_listsAreSo_331 (lv_at hl 6 rfl) ?_
      obtain ⟨r4, q5, hf⟩ := cx_b hf
      refine cx_callSX (As := [.ref ((adLG ad) 0), .int x5]) (rest := []) ⟨hx, hb, hml, hown, hts⟩ (c_L_longest (cx_lwG hC δ) q5) (vx_cwSW 2 hts (gSWx mw_622 mw_623 mw_2 mw_624) rfl rfl rfl hd_L_longest.2 ⟨Nat.le_of_ble_eq_true rfl, Nat.le_of_ble_eq_true rfl⟩) hK (show P (δ.1, δ.2) _ by (repeat rw [va_up_id]); exact hP) rfl hl.1 rfl (Nat.le_of_ble_eq_true rfl) dL_listsAreSo_333 ⟨Nat.zero_le _, Nat.zero_le _⟩ hL (fun H locs hP hL => ?_)
      replace hP : P δ H := by first | exact hP | (simpa only [va_up_id] using hP)
      refine lv_istore (lv' := [(8, .int r4), (7, .int r2), (0, .ref (ad 0)), (1, .int x1), (2, .int x2), (3, .int x3), (4, .int x4), (5, .int x5), (6, .int x6)]) hx hb dL_listsAreSo_336 hl (by decide) rfl (fun ls hl => ?_)
      refine lv_iload hx hb dL_listsAreSo_338 (lv_at hl 1 rfl) ?_
      refine lv_iload hx hb dL_listsAreSo_340 (lv_at hl 8 rfl) ?_
      refine lv_icmp_ne (tgt := 375) hx hb dL_listsAreSo_342 (by decide) (fun c6 => ?_) (fun c6 => ?_)
      · have hf := cx_f hf c6
        refine lv_iconst (v := 0) hx hb dL_listsAreSo_375 (by decide) ?_
        cases hf
        exact cx_zret hx hb hr hlocks (Or.inl rfl) hP hL dL_listsAreSo_376
      · have hf := cx_t hf c6
        refine lv_iload hx hb dL_listsAreSo_345 (lv_at hl 0 rfl) ?_
        refine lv_iload hx hb dL_listsAreSo_347 (lv_at hl 8 rfl) ?_
        refine lv_icmp_gt (tgt := 375) hx hb dL_listsAreSo_349 (by decide) (fun c7 => ?_) (fun c7 => ?_)
        · have hf := cx_t hf c7
          refine lv_iconst (v := 0) hx hb dL_listsAreSo_375 (by decide) ?_
          cases hf
          exact cx_zret hx hb hr hlocks (Or.inl rfl) hP hL dL_listsAreSo_376
        · have hf := cx_f hf c7
          refine lv_iload hx hb dL_listsAreSo_352 (lv_at hl 8 rfl) ?_
          refine lv_if_le (tgt := 361) hx hb dL_listsAreSo_354 (by decide) (fun c8 => ?_) (fun c8 => ?_)
          · have hf := cx_t hf c8
            refine lv_iconst (v := 0) hx hb dL_listsAreSo_361 (by decide) ?_
            exact w_L_listsAreSo_b362 C0 hC hk19 δ x1 x2 x3 x4 x5 r4 0 _ _ _ hf hP hL (lv_sub hl [2, 3, 4, 5, 6, 7, 0] rfl)
          · have hf := cx_f hf c8
            refine lv_iconst (v := 1) hx hb dL_listsAreSo_357 (by decide) ?_
            refine lv_goto (tgt := 362) hx hb dL_listsAreSo_358 (by decide) ?_
            exact w_L_listsAreSo_b362 C0 hC hk19 δ x1 x2 x3 x4 x5 r4 1 _ _ _ hf hP hL (lv_sub hl [2, 3, 4, 5, 6, 7, 0] rfl)
    · have hf := cx_f hf c1
      refine lv_aload_n hx hb dL_listsAreSo_89 rfl (lv_at hl 0 rfl) ?_
      refine g_Law_0 hC hP hx hb hts hown hK mw_12 dL_listsAreSo_90 ?_
      refine lv_iload hx hb dL_listsAreSo_93 (lv_at hl 5 rfl) ?_
      refine lv_iload hx hb dL_listsAreSo_95 (lv_at hl 7 rfl) ?_
      obtain ⟨r9, q10, hf⟩ := cx_b hf
      refine cx_callSX (As := [.ref ((adLG ad) 0), .int x5, .int x7]) (rest := []) ⟨hx, hb, hml, hown, hts⟩ (c_L_at_ (cx_lwG hC δ) q10) (vx_cwSW 3 hts (gSWx mw_599 mw_600 mw_2 mw_601) rfl rfl rfl hd_L_at_.2 ⟨Nat.le_of_ble_eq_true rfl, Nat.le_of_ble_eq_true rfl⟩) hK (show P (δ.1, δ.2) _ by (repeat rw [va_up_id]); exact hP) rfl hl.1 rfl (Nat.le_of_ble_eq_true rfl) dL_listsAreSo_97 ⟨Nat.zero_le _, Nat.zero_le _⟩ hL (fun H locs hP hL => ?_)
      replace hP : P δ H := by first | exact hP | (simpa only [va_up_id] using hP)
      refine lv_istore (lv' := [(8, .int r9), (0, .ref (ad 0)), (1, .int x1), (2, .int x2), (3, .int x3), (4, .int x4), (5, .int x5), (6, .int x6), (7, .int x7)]) hx hb dL_listsAreSo_100 hl (by decide) rfl (fun ls hl => ?_)
      refine lv_iload hx hb dL_listsAreSo_102 (lv_at hl 0 rfl) ?_
      refine lv_if_ge (tgt := 109) hx hb dL_listsAreSo_104 (by decide) (fun c11 => ?_) (fun c11 => ?_)
      · have hf := cx_t hf c11
        refine lv_iload hx hb dL_listsAreSo_109 (lv_at hl 6 rfl) ?_
        refine lv_iconst (v := 3) hx hb dL_listsAreSo_111 (by decide) ?_
        refine lv_icmp_ge (tgt := 145) hx hb dL_listsAreSo_112 (by decide) (fun c12 => ?_) (fun c12 => ?_)
        · have hf := cx_t hf c12
          exact w_L_listsAreSo_b145 C0 hC hk19 ih δ x1 x2 x3 x4 x5 x6 x7 r9 _ _ _ hf hP hL (lv_sub hl [1, 2, 3, 4, 5, 6, 7, 8, 0] rfl)
        · have hf := cx_f hf c12
          refine lv_aload_n hx hb dL_listsAreSo_115 rfl (lv_at hl 1 rfl) ?_
          refine g_Law_0 hC hP hx hb hts hown hK mw_12 dL_listsAreSo_116 ?_
          refine lv_iload hx hb dL_listsAreSo_119 (lv_at hl 0 rfl) ?_
          refine lv_iconst (v := 0) hx hb dL_listsAreSo_121 (by decide) ?_
          obtain ⟨r13, q14, hf⟩ := cx_b hf
          refine cx_callSX (As := [.ref ((adLG ad) 0), .int r9, .int 0]) (rest := []) ⟨hx, hb, hml, hown, hts⟩ (c_L_block (cx_lwG hC δ) q14) (vx_cwSW 3 hts (gSWx mw_353 mw_354 mw_2 mw_355) rfl rfl rfl hd_L_block.2 ⟨Nat.le_of_ble_eq_true rfl, Nat.le_of_ble_eq_true rfl⟩) hK (show P (δ.1, δ.2) _ by (repeat rw [va_up_id]); exact hP) rfl hl.1 rfl (Nat.le_of_ble_eq_true rfl) dL_listsAreSo_122 ⟨Nat.zero_le _, Nat.zero_le _⟩ hL (fun H locs hP hL => ?_)
          replace hP : P δ H := by first | exact hP | (simpa only [va_up_id] using hP)
          refine lv_iload hx hb dL_listsAreSo_125 (lv_at hl 6 rfl) ?_
          refine lv_icmp_ne (tgt := 193) hx hb dL_listsAreSo_127 (by decide) (fun c15 => ?_) (fun c15 => ?_)
          · have hf := cx_f hf c15
            refine lv_iconst (v := 0) hx hb dL_listsAreSo_193 (by decide) ?_
            cases hf
            exact cx_zret hx hb hr hlocks (Or.inl rfl) hP hL dL_listsAreSo_194
          · have hf := cx_t hf c15
            refine lv_aload_n hx hb dL_listsAreSo_130 rfl (lv_at hl 1 rfl) ?_
            refine g_Law_0 hC hP hx hb hts hown hK mw_12 dL_listsAreSo_131 ?_
            refine lv_iload hx hb dL_listsAreSo_134 (lv_at hl 0 rfl) ?_
            refine lv_iconst (v := 1) hx hb dL_listsAreSo_136 (by decide) ?_
            obtain ⟨r16, q17, hf⟩ := cx_b hf
            refine cx_callSX (As := [.ref ((adLG ad) 0), .int r9, .int 1]) (rest := []) ⟨hx, hb, hml, hown, hts⟩ (c_L_block (cx_lwG hC δ) q17) (vx_cwSW 3 hts (gSWx mw_353 mw_354 mw_2 mw_355) rfl rfl rfl hd_L_block.2 ⟨Nat.le_of_ble_eq_true rfl, Nat.le_of_ble_eq_true rfl⟩) hK (show P (δ.1, δ.2) _ by (repeat rw [va_up_id]); exact hP) rfl hl.1 rfl (Nat.le_of_ble_eq_true rfl) dL_listsAreSo_137 ⟨Nat.zero_le _, Nat.zero_le _⟩ hL (fun H locs hP hL => ?_)
            replace hP : P δ H := by first | exact hP | (simpa only [va_up_id] using hP)
            refine lv_iload hx hb dL_listsAreSo_140 (lv_at hl 8 rfl) ?_
            refine lv_icmp_ne (tgt := 193) hx hb dL_listsAreSo_142 (by decide) (fun c18 => ?_) (fun c18 => ?_)
            · have hf := cx_f hf c18
              refine lv_iconst (v := 0) hx hb dL_listsAreSo_193 (by decide) ?_
              cases hf
              exact cx_zret hx hb hr hlocks (Or.inl rfl) hP hL dL_listsAreSo_194
            · have hf := cx_t hf c18
              exact w_L_listsAreSo_b145 C0 hC hk19 ih δ x1 x2 x3 x4 x5 x6 x7 r9 _ _ _ hf hP hL (lv_sub hl [1, 2, 3, 4, 5, 6, 7, 8, 0] rfl)
      · have hf := cx_f hf c11
        refine lv_iconst (v := 0) hx hb dL_listsAreSo_107 (by decide) ?_
        cases hf
        exact cx_zret hx hb hr hlocks (Or.inl rfl) hP hL dL_listsAreSo_108
def f_L_listsAreSo_b59 (N : Nat) (k19 : LwS → Int32 → Int32 → Int32 → Int32 → Int32 → Option (Int32)) (δ : LwS) (x1 : Int32) (x2 : Int32) (x3 : Int32) (x4 : Int32) (x5 : Int32) (x6 : Int32) (y0 : Int32) (y1 : Int32) : Option (Int32) := if y0 < y1 then some 0 else (f_L_at_ δ.2 x5 x6).bind fun r2 => if r2 = (-1) then f_L_listsAreSo_b82 N k19 N δ x1 x2 x3 x4 x5 x6 0 else some 0
set_option maxHeartbeats 4000000 in
set_option maxRecDepth 100000 in
theorem w_L_listsAreSo_b59 {p : Program} {l : Launch} {e : Env} {s : State} {m : MethodId} {args : Array Value} {below : List Frame} {meth : Method} {c : Code} {G : va_G} {cA : Nat → ClassId} (C0 : cB p s m args meth c RL cL_listsAreSo 9 (some .boolean) G cA) {lo : Nat} {ad : Nat → Nat} {sa : Nat} {sv : Nat → Option Nat} {P : LwS → Heap → Prop} (hC : cx G lo 264 ad (ceLaw sa sv cA ad) P) {N : Nat} {res : Int32} {k19 : LwS → Int32 → Int32 → Int32 → Int32 → Int32 → Option (Int32)} (hk19 : ∀ (δ : LwS) (x1 : Int32) (x2 : Int32) (x3 : Int32) (x4 : Int32) (x5 : Int32) (H : Heap) (locs : List Loc) (ls : Array Slot), k19 δ x1 x2 x3 x4 x5 = some res → P δ H → (∀ q ∈ locs, lo ≤ q.base) → lv_has ls 9 [(0, .ref (ad 0)), (1, .int x1), (2, .int x2), (3, .int x3), (4, .int x4), (5, .int x5)] → W p l e rm_L_listsAreSo s m args below meth c H locs 0 0 (MQ below (cQ (some (.int res)) (P δ)) args s 0 0 (fun q => lo ≤ q)) (F0 m 19 ls [])) : ∀ (δ : LwS) (x1 : Int32) (x2 : Int32) (x3 : Int32) (x4 : Int32) (x5 : Int32) (x6 : Int32) (y0 : Int32) (y1 : Int32) (H : Heap) (locs : List Loc) (ls : Array Slot), f_L_listsAreSo_b59 N k19 δ x1 x2 x3 x4 x5 x6 y0 y1 = some res → P δ H → (∀ q ∈ locs, lo ≤ q.base) → lv_has ls 9 [(0, .ref (ad 0)), (1, .int x1), (2, .int x2), (3, .int x3), (4, .int x4), (5, .int x5), (6, .int x6)] → W p l e rm_L_listsAreSo s m args below meth c H locs 0 0 (MQ below (cQ (some (.int res)) (P δ)) args s 0 0 (fun q => lo ≤ q)) (F0 m 59 ls [.int y0, .int y1]) := by
  obtain ⟨⟨hx, hb, hml, hown, hts⟩, hr, hlocks, hK⟩ := id C0
  intro δ x1 x2 x3 x4 x5 x6 y0 y1 H locs ls hf hP hL hl
  unfold f_L_listsAreSo_b59 at hf
  refine lv_icmp_gt (tgt := 77) hx hb dL_listsAreSo_59 (by decide) (fun c1 => ?_) (fun c1 => ?_)
  · have hf := cx_t hf c1
    refine lv_iconst (v := 0) hx hb dL_listsAreSo_77 (by decide) ?_
    cases hf
    exact cx_zret hx hb hr hlocks (Or.inl rfl) hP hL dL_listsAreSo_78
  · have hf := cx_f hf c1
    refine lv_aload_n hx hb dL_listsAreSo_62 rfl (lv_at hl 0 rfl) ?_
    refine g_Law_0 hC hP hx hb hts hown hK mw_12 dL_listsAreSo_63 ?_
    refine lv_iload hx hb dL_listsAreSo_66 (lv_at hl 5 rfl) ?_
    refine lv_iload hx hb dL_listsAreSo_68 (lv_at hl 6 rfl) ?_
    obtain ⟨r2, q3, hf⟩ := cx_b hf
    refine cx_callSX (As := [.ref ((adLG ad) 0), .int x5, .int x6]) (rest := []) ⟨hx, hb, hml, hown, hts⟩ (c_L_at_ (cx_lwG hC δ) q3) (vx_cwSW 3 hts (gSWx mw_599 mw_600 mw_2 mw_601) rfl rfl rfl hd_L_at_.2 ⟨Nat.le_of_ble_eq_true rfl, Nat.le_of_ble_eq_true rfl⟩) hK (show P (δ.1, δ.2) _ by (repeat rw [va_up_id]); exact hP) rfl hl.1 rfl (Nat.le_of_ble_eq_true rfl) dL_listsAreSo_70 ⟨Nat.zero_le _, Nat.zero_le _⟩ hL (fun H locs hP hL => ?_)
    replace hP : P δ H := by first | exact hP | (simpa only [va_up_id] using hP)
    refine lv_iconst (v := (-1)) hx hb dL_listsAreSo_73 (by decide) ?_
    refine lv_icmp_eq (tgt := 79) hx hb dL_listsAreSo_74 (by decide) (fun c4 => ?_) (fun c4 => ?_)
    · have hf := cx_t hf c4
      refine lv_iconst (v := 0) hx hb dL_listsAreSo_79 (by decide) ?_
      refine lv_istore (lv' := [(7, .int 0), (0, .ref (ad 0)), (1, .int x1), (2, .int x2), (3, .int x3), (4, .int x4), (5, .int x5), (6, .int x6)]) hx hb dL_listsAreSo_80 hl (by decide) rfl (fun ls hl => ?_)
      exact w_L_listsAreSo_b82 C0 hC hk19 N δ x1 x2 x3 x4 x5 x6 0 _ _ _ hf hP hL (lv_sub hl [1, 2, 3, 4, 5, 6, 7, 0] rfl)
    · have hf := cx_f hf c4
      refine lv_iconst (v := 0) hx hb dL_listsAreSo_77 (by decide) ?_
      cases hf
      exact cx_zret hx hb hr hlocks (Or.inl rfl) hP hL dL_listsAreSo_78
def f_L_listsAreSo_b412 (N : Nat) (k386 : LwS → Int32 → Int32 → Int32 → Int32 → Int32 → Option (Int32)) (k403 : LwS → Int32 → Int32 → Int32 → Int32 → Int32 → Int32 → Option (Int32)) : Nat → LwS → Int32 → Int32 → Int32 → Int32 → Int32 → Int32 → Int32 → Option (Int32)
  | 0, _, _, _, _, _, _, _, _ => none
  | n + 1, δ, x1, x2, x3, x4, x5, x6, x7 => (f_L_ownedAt N δ.2 x5 x6 x7).bind fun r1 => if r1 < 0 then k403 δ x1 x2 x3 x4 x5 (x6 + 1) else f_L_listsAreSo_b412 N k386 k403 n δ x1 x2 x3 (x4 + 1) x5 x6 (x7 + 1)
set_option maxHeartbeats 4000000 in
set_option maxRecDepth 100000 in
theorem w_L_listsAreSo_b412 {p : Program} {l : Launch} {e : Env} {s : State} {m : MethodId} {args : Array Value} {below : List Frame} {meth : Method} {c : Code} {G : va_G} {cA : Nat → ClassId} (C0 : cB p s m args meth c RL cL_listsAreSo 9 (some .boolean) G cA) {lo : Nat} {ad : Nat → Nat} {sa : Nat} {sv : Nat → Option Nat} {P : LwS → Heap → Prop} (hC : cx G lo 264 ad (ceLaw sa sv cA ad) P) {N : Nat} {res : Int32} {k386 : LwS → Int32 → Int32 → Int32 → Int32 → Int32 → Option (Int32)} {k403 : LwS → Int32 → Int32 → Int32 → Int32 → Int32 → Int32 → Option (Int32)} (hk386 : ∀ (δ : LwS) (x1 : Int32) (x2 : Int32) (x3 : Int32) (x4 : Int32) (x5 : Int32) (H : Heap) (locs : List Loc) (ls : Array Slot), k386 δ x1 x2 x3 x4 x5 = some res → P δ H → (∀ q ∈ locs, lo ≤ q.base) → lv_has ls 9 [(0, .ref (ad 0)), (1, .int x1), (2, .int x2), (3, .int x3), (4, .int x4), (5, .int x5)] → W p l e rm_L_listsAreSo s m args below meth c H locs 0 0 (MQ below (cQ (some (.int res)) (P δ)) args s 0 0 (fun q => lo ≤ q)) (F0 m 386 ls [])) (hk403 : ∀ (δ : LwS) (x1 : Int32) (x2 : Int32) (x3 : Int32) (x4 : Int32) (x5 : Int32) (x6 : Int32) (H : Heap) (locs : List Loc) (ls : Array Slot), k403 δ x1 x2 x3 x4 x5 x6 = some res → P δ H → (∀ q ∈ locs, lo ≤ q.base) → lv_has ls 9 [(0, .ref (ad 0)), (1, .int x1), (2, .int x2), (3, .int x3), (4, .int x4), (5, .int x5), (6, .int x6)] → W p l e rm_L_listsAreSo s m args below meth c H locs 0 0 (MQ below (cQ (some (.int res)) (P δ)) args s 0 0 (fun q => lo ≤ q)) (F0 m 403 ls [])) : ∀ (n : Nat) (δ : LwS) (x1 : Int32) (x2 : Int32) (x3 : Int32) (x4 : Int32) (x5 : Int32) (x6 : Int32) (x7 : Int32) (H : Heap) (locs : List Loc) (ls : Array Slot), f_L_listsAreSo_b412 N k386 k403 n δ x1 x2 x3 x4 x5 x6 x7 = some res → P δ H → (∀ q ∈ locs, lo ≤ q.base) → lv_has ls 9 [(0, .ref (ad 0)), (1, .int x1), (2, .int x2), (3, .int x3), (4, .int x4), (5, .int x5), (6, .int x6), (7, .int x7)] → W p l e rm_L_listsAreSo s m args below meth c H locs 0 0 (MQ below (cQ (some (.int res)) (P δ)) args s 0 0 (fun q => lo ≤ q)) (F0 m 412 ls []) := by
  obtain ⟨⟨hx, hb, hml, hown, hts⟩, hr, hlocks, hK⟩ := id C0
  intro n
  induction n with
  | zero => intro δ x1 x2 x3 x4 x5 x6 x7 H locs ls
            exact fun hf => nomatch hf
  | succ n ih =>
    intro δ x1 x2 x3 x4 x5 x6 x7 H locs ls hf hP hL hl
    rw [f_L_listsAreSo_b412] at hf
    refine lv_aload_n hx hb dL_listsAreSo_412 rfl (lv_at hl 0 rfl) ?_
    refine g_Law_0 hC hP hx hb hts hown hK mw_12 dL_listsAreSo_413 ?_
    refine lv_iload hx hb dL_listsAreSo_416 (lv_at hl 5 rfl) ?_
    refine lv_iload hx hb dL_listsAreSo_418 (lv_at hl 6 rfl) ?_
    refine lv_iload hx hb dL_listsAreSo_420 (lv_at hl 7 rfl) ?_
    obtain ⟨r1, q2, hf⟩ := cx_b hf
    refine cx_callSX (As := [.ref ((adLG ad) 0), .int x5, .int x6, .int x7]) (rest := []) ⟨hx, hb, hml, hown, hts⟩ (c_L_ownedAt (cx_lwG hC δ) q2) (vx_cwSW 4 hts (gSWx mw_634 mw_635 mw_2 mw_636) rfl rfl rfl hd_L_ownedAt.2 ⟨Nat.le_of_ble_eq_true rfl, Nat.le_of_ble_eq_true rfl⟩) hK (show P (δ.1, δ.2) _ by (repeat rw [va_up_id]); exact hP) rfl hl.1 rfl (Nat.le_of_ble_eq_true rfl) dL_listsAreSo_422 ⟨Nat.zero_le _, Nat.zero_le _⟩ hL (fun H locs hP hL => ?_)
    replace hP : P δ H := by first | exact hP | (simpa only [va_up_id] using hP)
    refine lv_if_lt (tgt := 437) hx hb dL_listsAreSo_425 (by decide) (fun c3 => ?_) (fun c3 => ?_)
    · have hf := cx_t hf c3
      refine lv_iinc (v := (x6 + 1)) (lv' := [(6, .int (x6 + 1)), (0, .ref (ad 0)), (1, .int x1), (2, .int x2), (3, .int x3), (4, .int x4), (5, .int x5), (7, .int x7)]) hx hb dL_listsAreSo_437 hl (k := 6) rfl rfl (by decide) rfl (fun ls hl => ?_)
      refine lv_goto (tgt := 403) hx hb dL_listsAreSo_440 (by decide) ?_
      exact hk403 δ x1 x2 x3 x4 x5 (x6 + 1) _ _ _ hf hP hL (lv_sub hl [1, 2, 3, 4, 5, 6, 0] rfl)
    · have hf := cx_f hf c3
      refine lv_iinc (v := (x4 + 1)) (lv' := [(4, .int (x4 + 1)), (0, .ref (ad 0)), (1, .int x1), (2, .int x2), (3, .int x3), (5, .int x5), (6, .int x6), (7, .int x7)]) hx hb dL_listsAreSo_428 hl (k := 4) rfl rfl (by decide) rfl (fun ls hl => ?_)
      refine lv_iinc (v := (x7 + 1)) (lv' := [(7, .int (x7 + 1)), (4, .int (x4 + 1)), (0, .ref (ad 0)), (1, .int x1), (2, .int x2), (3, .int x3), (5, .int x5), (6, .int x6)]) hx hb dL_listsAreSo_431 hl (k := 7) rfl rfl (by decide) rfl (fun ls hl => ?_)
      refine lv_goto (tgt := 412) hx hb dL_listsAreSo_434 (by decide) ?_
      exact ih δ x1 x2 x3 (x4 + 1) x5 x6 (x7 + 1) _ _ _ hf hP hL (lv_sub hl [2, 3, 4, 5, 1, 6, 7, 0] rfl)
def f_L_listsAreSo_b486 (N : Nat) (k386 : LwS → Int32 → Int32 → Int32 → Int32 → Int32 → Option (Int32)) (δ : LwS) (x1 : Int32) (x2 : Int32) (x3 : Int32) (x4 : Int32) (x5 : Int32) (y0 : Int32) : Option (Int32) := (f_L_client N δ.2 x5 10).bind fun r1 => if r1 = 1 then if y0 = 1 then k386 δ x1 x2 x3 x4 (x5 + 1) else some 0 else if y0 = 0 then k386 δ x1 x2 x3 x4 (x5 + 1) else some 0
set_option maxHeartbeats 4000000 in
set_option maxRecDepth 100000 in
theorem w_L_listsAreSo_b486 {p : Program} {l : Launch} {e : Env} {s : State} {m : MethodId} {args : Array Value} {below : List Frame} {meth : Method} {c : Code} {G : va_G} {cA : Nat → ClassId} (C0 : cB p s m args meth c RL cL_listsAreSo 9 (some .boolean) G cA) {lo : Nat} {ad : Nat → Nat} {sa : Nat} {sv : Nat → Option Nat} {P : LwS → Heap → Prop} (hC : cx G lo 264 ad (ceLaw sa sv cA ad) P) {N : Nat} {res : Int32} {k386 : LwS → Int32 → Int32 → Int32 → Int32 → Int32 → Option (Int32)} (hk386 : ∀ (δ : LwS) (x1 : Int32) (x2 : Int32) (x3 : Int32) (x4 : Int32) (x5 : Int32) (H : Heap) (locs : List Loc) (ls : Array Slot), k386 δ x1 x2 x3 x4 x5 = some res → P δ H → (∀ q ∈ locs, lo ≤ q.base) → lv_has ls 9 [(0, .ref (ad 0)), (1, .int x1), (2, .int x2), (3, .int x3), (4, .int x4), (5, .int x5)] → W p l e rm_L_listsAreSo s m args below meth c H locs 0 0 (MQ below (cQ (some (.int res)) (P δ)) args s 0 0 (fun q => lo ≤ q)) (F0 m 386 ls [])) : ∀ (δ : LwS) (x1 : Int32) (x2 : Int32) (x3 : Int32) (x4 : Int32) (x5 : Int32) (y0 : Int32) (H : Heap) (locs : List Loc) (ls : Array Slot), f_L_listsAreSo_b486 N k386 δ x1 x2 x3 x4 x5 y0 = some res → P δ H → (∀ q ∈ locs, lo ≤ q.base) → lv_has ls 9 [(0, .ref (ad 0)), (1, .int x1), (2, .int x2), (3, .int x3), (4, .int x4), (5, .int x5)] → W p l e rm_L_listsAreSo s m args below meth c H locs 0 0 (MQ below (cQ (some (.int res)) (P δ)) args s 0 0 (fun q => lo ≤ q)) (F0 m 486 ls [.int y0]) := by
  obtain ⟨⟨hx, hb, hml, hown, hts⟩, hr, hlocks, hK⟩ := id C0
  intro δ x1 x2 x3 x4 x5 y0 H locs ls hf hP hL hl
  unfold f_L_listsAreSo_b486 at hf
  refine lv_aload_n hx hb dL_listsAreSo_486 rfl (lv_at hl 0 rfl) ?_
  refine g_Law_0 hC hP hx hb hts hown hK mw_12 dL_listsAreSo_487 ?_
  refine lv_iload hx hb dL_listsAreSo_490 (lv_at hl 5 rfl) ?_
  refine lv_bipush (v := 10) hx hb dL_listsAreSo_492 (by decide) ?_
  obtain ⟨r1, q2, hf⟩ := cx_b hf
  refine cx_callSX (As := [.ref ((adLG ad) 0), .int x5, .int 10]) (rest := [.int y0]) ⟨hx, hb, hml, hown, hts⟩ (c_L_client (cx_lwG hC δ) q2) (vx_cwSW 3 hts (gSWx mw_301 mw_302 mw_2 mw_303) rfl rfl rfl hd_L_client.2 ⟨Nat.le_of_ble_eq_true rfl, Nat.le_of_ble_eq_true rfl⟩) hK (show P (δ.1, δ.2) _ by (repeat rw [va_up_id]); exact hP) rfl hl.1 rfl (Nat.le_of_ble_eq_true rfl) dL_listsAreSo_494 ⟨Nat.zero_le _, Nat.zero_le _⟩ hL (fun H locs hP hL => ?_)
  replace hP : P δ H := by first | exact hP | (simpa only [va_up_id] using hP)
  refine lv_iconst (v := 1) hx hb dL_listsAreSo_497 (by decide) ?_
  refine lv_icmp_ne (tgt := 505) hx hb dL_listsAreSo_498 (by decide) (fun c3 => ?_) (fun c3 => ?_)
  · have hf := cx_f hf c3
    refine lv_iconst (v := 0) hx hb dL_listsAreSo_505 (by decide) ?_
    refine lv_icmp_eq (tgt := 511) hx hb dL_listsAreSo_506 (by decide) (fun c4 => ?_) (fun c4 => ?_)
    · have hf := cx_t hf c4
      refine lv_iinc (v := (x5 + 1)) (lv' := [(5, .int (x5 + 1)), (0, .ref (ad 0)), (1, .int x1), (2, .int x2), (3, .int x3), (4, .int x4)]) hx hb dL_listsAreSo_511 hl (k := 5) rfl rfl (by decide) rfl (fun ls hl => ?_)
      refine lv_goto (tgt := 386) hx hb dL_listsAreSo_514 (by decide) ?_
      exact hk386 δ x1 x2 x3 x4 (x5 + 1) _ _ _ hf hP hL (lv_sub hl [1, 2, 3, 4, 5, 0] rfl)
    · have hf := cx_f hf c4
      refine lv_iconst (v := 0) hx hb dL_listsAreSo_509 (by decide) ?_
      cases hf
      exact cx_zret hx hb hr hlocks (Or.inl rfl) hP hL dL_listsAreSo_510
  · have hf := cx_t hf c3
    refine lv_iconst (v := 1) hx hb dL_listsAreSo_501 (by decide) ?_
    refine lv_goto (tgt := 506) hx hb dL_listsAreSo_502 (by decide) ?_
    refine lv_icmp_eq (tgt := 511) hx hb dL_listsAreSo_506 (by decide) (fun c5 => ?_) (fun c5 => ?_)
    · have hf := cx_t hf c5
      refine lv_iinc (v := (x5 + 1)) (lv' := [(5, .int (x5 + 1)), (0, .ref (ad 0)), (1, .int x1), (2, .int x2), (3, .int x3), (4, .int x4)]) hx hb dL_listsAreSo_511 hl (k := 5) rfl rfl (by decide) rfl (fun ls hl => ?_)
      refine lv_goto (tgt := 386) hx hb dL_listsAreSo_514 (by decide) ?_
      exact hk386 δ x1 x2 x3 x4 (x5 + 1) _ _ _ hf hP hL (lv_sub hl [1, 2, 3, 4, 5, 0] rfl)
    · have hf := cx_f hf c5
      refine lv_iconst (v := 0) hx hb dL_listsAreSo_509 (by decide) ?_
      cases hf
      exact cx_zret hx hb hr hlocks (Or.inl rfl) hP hL dL_listsAreSo_510
def f_L_listsAreSo_b403 (N : Nat) (k386 : LwS → Int32 → Int32 → Int32 → Int32 → Int32 → Option (Int32)) : Nat → LwS → Int32 → Int32 → Int32 → Int32 → Int32 → Int32 → Option (Int32)
  | 0, _, _, _, _, _, _, _ => none
  | n + 1, δ, x1, x2, x3, x4, x5, x6 => if 3 ≤ x6 then (f_L_client N δ.2 x5 1).bind fun r2 => (f_L_client N δ.2 x5 2).bind fun r4 => (f_L_excess N δ.2 x5).bind fun r6 => if (Op.cmpValue (FP.fcmp r6 FP.fconst0) .l) ≤ 0 then f_L_listsAreSo_b486 N k386 δ x1 x2 (x3 + (r2 + r4)) x4 x5 0 else f_L_listsAreSo_b486 N k386 δ x1 x2 (x3 + (r2 + r4)) x4 x5 1 else f_L_listsAreSo_b412 N k386 (f_L_listsAreSo_b403 N k386 n) N δ x1 x2 x3 x4 x5 x6 0
set_option maxHeartbeats 4000000 in
set_option maxRecDepth 100000 in
theorem w_L_listsAreSo_b403 {p : Program} {l : Launch} {e : Env} {s : State} {m : MethodId} {args : Array Value} {below : List Frame} {meth : Method} {c : Code} {G : va_G} {cA : Nat → ClassId} (C0 : cB p s m args meth c RL cL_listsAreSo 9 (some .boolean) G cA) {lo : Nat} {ad : Nat → Nat} {sa : Nat} {sv : Nat → Option Nat} {P : LwS → Heap → Prop} (hC : cx G lo 264 ad (ceLaw sa sv cA ad) P) {N : Nat} {res : Int32} {k386 : LwS → Int32 → Int32 → Int32 → Int32 → Int32 → Option (Int32)} (hk386 : ∀ (δ : LwS) (x1 : Int32) (x2 : Int32) (x3 : Int32) (x4 : Int32) (x5 : Int32) (H : Heap) (locs : List Loc) (ls : Array Slot), k386 δ x1 x2 x3 x4 x5 = some res → P δ H → (∀ q ∈ locs, lo ≤ q.base) → lv_has ls 9 [(0, .ref (ad 0)), (1, .int x1), (2, .int x2), (3, .int x3), (4, .int x4), (5, .int x5)] → W p l e rm_L_listsAreSo s m args below meth c H locs 0 0 (MQ below (cQ (some (.int res)) (P δ)) args s 0 0 (fun q => lo ≤ q)) (F0 m 386 ls [])) : ∀ (n : Nat) (δ : LwS) (x1 : Int32) (x2 : Int32) (x3 : Int32) (x4 : Int32) (x5 : Int32) (x6 : Int32) (H : Heap) (locs : List Loc) (ls : Array Slot), f_L_listsAreSo_b403 N k386 n δ x1 x2 x3 x4 x5 x6 = some res → P δ H → (∀ q ∈ locs, lo ≤ q.base) → lv_has ls 9 [(0, .ref (ad 0)), (1, .int x1), (2, .int x2), (3, .int x3), (4, .int x4), (5, .int x5), (6, .int x6)] → W p l e rm_L_listsAreSo s m args below meth c H locs 0 0 (MQ below (cQ (some (.int res)) (P δ)) args s 0 0 (fun q => lo ≤ q)) (F0 m 403 ls []) := by
  obtain ⟨⟨hx, hb, hml, hown, hts⟩, hr, hlocks, hK⟩ := id C0
  intro n
  induction n with
  | zero => intro δ x1 x2 x3 x4 x5 x6 H locs ls
            exact fun hf => nomatch hf
  | succ n ih =>
    intro δ x1 x2 x3 x4 x5 x6 H locs ls hf hP hL hl
    rw [f_L_listsAreSo_b403] at hf
    refine lv_iload hx hb dL_listsAreSo_403 (lv_at hl 6 rfl) ?_
    refine lv_iconst (v := 3) hx hb dL_listsAreSo_405 (by decide) ?_
    refine lv_icmp_ge (tgt := 443) hx hb dL_listsAreSo_406 (by decide) (fun c1 => ?_) (fun c1 => ?_)
    · have hf := cx_t hf c1
      refine lv_iload_n hx hb dL_listsAreSo_443 rfl (lv_at hl 3 rfl) ?_
      refine lv_aload_n hx hb dL_listsAreSo_444 rfl (lv_at hl 0 rfl) ?_
      refine g_Law_0 hC hP hx hb hts hown hK mw_12 dL_listsAreSo_445 ?_
      refine lv_iload hx hb dL_listsAreSo_448 (lv_at hl 5 rfl) ?_
      refine lv_iconst (v := 1) hx hb dL_listsAreSo_450 (by decide) ?_
      obtain ⟨r2, q3, hf⟩ := cx_b hf
      refine cx_callSX (As := [.ref ((adLG ad) 0), .int x5, .int 1]) (rest := [.int x3]) ⟨hx, hb, hml, hown, hts⟩ (c_L_client (cx_lwG hC δ) q3) (vx_cwSW 3 hts (gSWx mw_301 mw_302 mw_2 mw_303) rfl rfl rfl hd_L_client.2 ⟨Nat.le_of_ble_eq_true rfl, Nat.le_of_ble_eq_true rfl⟩) hK (show P (δ.1, δ.2) _ by (repeat rw [va_up_id]); exact hP) rfl hl.1 rfl (Nat.le_of_ble_eq_true rfl) dL_listsAreSo_451 ⟨Nat.zero_le _, Nat.zero_le _⟩ hL (fun H locs hP hL => ?_)
      replace hP : P δ H := by first | exact hP | (simpa only [va_up_id] using hP)
      refine lv_aload_n hx hb dL_listsAreSo_454 rfl (lv_at hl 0 rfl) ?_
      refine g_Law_0 hC hP hx hb hts hown hK mw_12 dL_listsAreSo_455 ?_
      refine lv_iload hx hb dL_listsAreSo_458 (lv_at hl 5 rfl) ?_
      refine lv_iconst (v := 2) hx hb dL_listsAreSo_460 (by decide) ?_
      obtain ⟨r4, q5, hf⟩ := cx_b hf
      refine cx_callSX (As := [.ref ((adLG ad) 0), .int x5, .int 2]) (rest := [.int r2, .int x3]) ⟨hx, hb, hml, hown, hts⟩ (c_L_client (cx_lwG hC δ) q5) (vx_cwSW 3 hts (gSWx mw_301 mw_302 mw_2 mw_303) rfl rfl rfl hd_L_client.2 ⟨Nat.le_of_ble_eq_true rfl, Nat.le_of_ble_eq_true rfl⟩) hK (show P (δ.1, δ.2) _ by (repeat rw [va_up_id]); exact hP) rfl hl.1 rfl (Nat.le_of_ble_eq_true rfl) dL_listsAreSo_461 ⟨Nat.zero_le _, Nat.zero_le _⟩ hL (fun H locs hP hL => ?_)
      replace hP : P δ H := by first | exact hP | (simpa only [va_up_id] using hP)
      refine lv_iadd hx hb dL_listsAreSo_464 ?_
      refine lv_iadd hx hb dL_listsAreSo_465 ?_
      refine lv_istore_n (lv' := [(3, .int (x3 + (r2 + r4))), (0, .ref (ad 0)), (1, .int x1), (2, .int x2), (4, .int x4), (5, .int x5), (6, .int x6)]) hx hb dL_listsAreSo_466 rfl hl (by decide) rfl (fun ls hl => ?_)
      refine lv_aload_n hx hb dL_listsAreSo_467 rfl (lv_at hl 1 rfl) ?_
      refine g_Law_0 hC hP hx hb hts hown hK mw_12 dL_listsAreSo_468 ?_
      refine lv_iload hx hb dL_listsAreSo_471 (lv_at hl 5 rfl) ?_
      obtain ⟨r6, q7, hf⟩ := cx_b hf
      refine cx_callSX (As := [.ref ((adLG ad) 0), .int x5]) (rest := []) ⟨hx, hb, hml, hown, hts⟩ (c_L_excess (cx_lwG hC δ) q7) (vx_cwSW 2 hts (gSWx mw_645 mw_646 mw_2 mw_647) rfl rfl rfl hd_L_excess.2 ⟨Nat.le_of_ble_eq_true rfl, Nat.le_of_ble_eq_true rfl⟩) hK (show P (δ.1, δ.2) _ by (repeat rw [va_up_id]); exact hP) rfl hl.1 rfl (Nat.le_of_ble_eq_true rfl) dL_listsAreSo_473 ⟨Nat.zero_le _, Nat.zero_le _⟩ hL (fun H locs hP hL => ?_)
      replace hP : P δ H := by first | exact hP | (simpa only [va_up_id] using hP)
      refine lv_fconst0 hx hb dL_listsAreSo_476 ?_
      refine lv_fcmp hx hb dL_listsAreSo_477 ?_
      refine lv_if_le (tgt := 485) hx hb dL_listsAreSo_478 (by decide) (fun c8 => ?_) (fun c8 => ?_)
      · have hf := cx_t hf c8
        refine lv_iconst (v := 0) hx hb dL_listsAreSo_485 (by decide) ?_
        exact w_L_listsAreSo_b486 C0 hC hk386 δ x1 x2 (x3 + (r2 + r4)) x4 x5 0 _ _ _ hf hP hL (lv_sub hl [1, 2, 3, 0, 4, 5] rfl)
      · have hf := cx_f hf c8
        refine lv_iconst (v := 1) hx hb dL_listsAreSo_481 (by decide) ?_
        refine lv_goto (tgt := 486) hx hb dL_listsAreSo_482 (by decide) ?_
        exact w_L_listsAreSo_b486 C0 hC hk386 δ x1 x2 (x3 + (r2 + r4)) x4 x5 1 _ _ _ hf hP hL (lv_sub hl [1, 2, 3, 0, 4, 5] rfl)
    · have hf := cx_f hf c1
      refine lv_iconst (v := 0) hx hb dL_listsAreSo_409 (by decide) ?_
      refine lv_istore (lv' := [(7, .int 0), (0, .ref (ad 0)), (1, .int x1), (2, .int x2), (3, .int x3), (4, .int x4), (5, .int x5), (6, .int x6)]) hx hb dL_listsAreSo_410 hl (by decide) rfl (fun ls hl => ?_)
      exact w_L_listsAreSo_b412 C0 hC hk386 ih N δ x1 x2 x3 x4 x5 x6 0 _ _ _ hf hP hL (lv_sub hl [1, 2, 3, 4, 5, 6, 7, 0] rfl)
def f_L_listsAreSo_b386 (N : Nat) : Nat → LwS → Int32 → Int32 → Int32 → Int32 → Int32 → Option (Int32)
  | 0, _, _, _, _, _, _ => none
  | n + 1, δ, x1, x2, x3, x4, x5 => (f_L_count N δ.2 6).bind fun r1 => if r1 ≤ x5 then (f_L_count N δ.2 7).bind fun r4 => (f_L_count N δ.2 8).bind fun r6 => (f_L_count N δ.2 9).bind fun r8 => (f_L_count N δ.2 7).bind fun r10 => (f_L_count N δ.2 8).bind fun r12 => if x1 < (r10 + r12) then some 0 else (f_L_count N δ.2 4).bind fun r15 => if r15 < 0 then some 0 else (f_L_count N δ.2 4).bind fun r18 => if x1 < r18 then some 0 else (f_L_count N δ.2 12).bind fun r21 => if x2 = r21 then if x3 = ((r4 + r6) + r8) then if x4 = ((r4 + r6) + r8) then (f_L_stale N δ.2 0).bind fun r26 => if r26 = x2 then (f_X8_differing N δ.2).bind fun r29 => if x2 < r29 then some 0 else some 1 else some 0 else some 0 else some 0 else some 0 else f_L_listsAreSo_b403 N (f_L_listsAreSo_b386 N n) N δ x1 x2 x3 x4 x5 0
set_option maxHeartbeats 4000000 in
set_option maxRecDepth 100000 in
theorem w_L_listsAreSo_b386 {p : Program} {l : Launch} {e : Env} {s : State} {m : MethodId} {args : Array Value} {below : List Frame} {meth : Method} {c : Code} {G : va_G} {cA : Nat → ClassId} (C0 : cB p s m args meth c RL cL_listsAreSo 9 (some .boolean) G cA) {lo : Nat} {ad : Nat → Nat} {sa : Nat} {sv : Nat → Option Nat} {P : LwS → Heap → Prop} (hC : cx G lo 264 ad (ceLaw sa sv cA ad) P) {N : Nat} {res : Int32} : ∀ (n : Nat) (δ : LwS) (x1 : Int32) (x2 : Int32) (x3 : Int32) (x4 : Int32) (x5 : Int32) (H : Heap) (locs : List Loc) (ls : Array Slot), f_L_listsAreSo_b386 N n δ x1 x2 x3 x4 x5 = some res → P δ H → (∀ q ∈ locs, lo ≤ q.base) → lv_has ls 9 [(0, .ref (ad 0)), (1, .int x1), (2, .int x2), (3, .int x3), (4, .int x4), (5, .int x5)] → W p l e rm_L_listsAreSo s m args below meth c H locs 0 0 (MQ below (cQ (some (.int res)) (P δ)) args s 0 0 (fun q => lo ≤ q)) (F0 m 386 ls []) := by
  obtain ⟨⟨hx, hb, hml, hown, hts⟩, hr, hlocks, hK⟩ := id C0
  intro n
  induction n with
  | zero => intro δ x1 x2 x3 x4 x5 H locs ls
            exact fun hf => nomatch hf
  | succ n ih =>
    intro δ x1 x2 x3 x4 x5 H locs ls hf hP hL hl
    rw [f_L_listsAreSo_b386] at hf
    refine lv_iload hx hb dL_listsAreSo_386 (lv_at hl 5 rfl) ?_
    refine lv_aload_n hx hb dL_listsAreSo_388 rfl (lv_at hl 0 rfl) ?_
    refine g_Law_0 hC hP hx hb hts hown hK mw_12 dL_listsAreSo_389 ?_
    refine lv_bipush (v := 6) hx hb dL_listsAreSo_392 (by decide) ?_
    obtain ⟨r1, q2, hf⟩ := cx_b hf
    refine cx_callSX (As := [.ref ((adLG ad) 0), .int 6]) (rest := [.int x5]) ⟨hx, hb, hml, hown, hts⟩ (c_L_count (cx_lwG hC δ) q2) (vx_cwSW 2 hts (gSWx mw_275 mw_276 mw_2 mw_277) rfl rfl rfl hd_L_count.2 ⟨Nat.le_of_ble_eq_true rfl, Nat.le_of_ble_eq_true rfl⟩) hK (show P (δ.1, δ.2) _ by (repeat rw [va_up_id]); exact hP) rfl hl.1 rfl (Nat.le_of_ble_eq_true rfl) dL_listsAreSo_394 ⟨Nat.zero_le _, Nat.zero_le _⟩ hL (fun H locs hP hL => ?_)
    replace hP : P δ H := by first | exact hP | (simpa only [va_up_id] using hP)
    refine lv_icmp_ge (tgt := 517) hx hb dL_listsAreSo_397 (by decide) (fun c3 => ?_) (fun c3 => ?_)
    · have hf := cx_t hf c3
      refine lv_aload_n hx hb dL_listsAreSo_517 rfl (lv_at hl 0 rfl) ?_
      refine g_Law_0 hC hP hx hb hts hown hK mw_12 dL_listsAreSo_518 ?_
      refine lv_bipush (v := 7) hx hb dL_listsAreSo_521 (by decide) ?_
      obtain ⟨r4, q5, hf⟩ := cx_b hf
      refine cx_callSX (As := [.ref ((adLG ad) 0), .int 7]) (rest := []) ⟨hx, hb, hml, hown, hts⟩ (c_L_count (cx_lwG hC δ) q5) (vx_cwSW 2 hts (gSWx mw_275 mw_276 mw_2 mw_277) rfl rfl rfl hd_L_count.2 ⟨Nat.le_of_ble_eq_true rfl, Nat.le_of_ble_eq_true rfl⟩) hK (show P (δ.1, δ.2) _ by (repeat rw [va_up_id]); exact hP) rfl hl.1 rfl (Nat.le_of_ble_eq_true rfl) dL_listsAreSo_523 ⟨Nat.zero_le _, Nat.zero_le _⟩ hL (fun H locs hP hL => ?_)
      replace hP : P δ H := by first | exact hP | (simpa only [va_up_id] using hP)
      refine lv_aload_n hx hb dL_listsAreSo_526 rfl (lv_at hl 0 rfl) ?_
      refine g_Law_0 hC hP hx hb hts hown hK mw_12 dL_listsAreSo_527 ?_
      refine lv_bipush (v := 8) hx hb dL_listsAreSo_530 (by decide) ?_
      obtain ⟨r6, q7, hf⟩ := cx_b hf
      refine cx_callSX (As := [.ref ((adLG ad) 0), .int 8]) (rest := [.int r4]) ⟨hx, hb, hml, hown, hts⟩ (c_L_count (cx_lwG hC δ) q7) (vx_cwSW 2 hts (gSWx mw_275 mw_276 mw_2 mw_277) rfl rfl rfl hd_L_count.2 ⟨Nat.le_of_ble_eq_true rfl, Nat.le_of_ble_eq_true rfl⟩) hK (show P (δ.1, δ.2) _ by (repeat rw [va_up_id]); exact hP) rfl hl.1 rfl (Nat.le_of_ble_eq_true rfl) dL_listsAreSo_532 ⟨Nat.zero_le _, Nat.zero_le _⟩ hL (fun H locs hP hL => ?_)
      replace hP : P δ H := by first | exact hP | (simpa only [va_up_id] using hP)
      refine lv_iadd hx hb dL_listsAreSo_535 ?_
      refine lv_aload_n hx hb dL_listsAreSo_536 rfl (lv_at hl 0 rfl) ?_
      refine g_Law_0 hC hP hx hb hts hown hK mw_12 dL_listsAreSo_537 ?_
      refine lv_bipush (v := 9) hx hb dL_listsAreSo_540 (by decide) ?_
      obtain ⟨r8, q9, hf⟩ := cx_b hf
      refine cx_callSX (As := [.ref ((adLG ad) 0), .int 9]) (rest := [.int (r4 + r6)]) ⟨hx, hb, hml, hown, hts⟩ (c_L_count (cx_lwG hC δ) q9) (vx_cwSW 2 hts (gSWx mw_275 mw_276 mw_2 mw_277) rfl rfl rfl hd_L_count.2 ⟨Nat.le_of_ble_eq_true rfl, Nat.le_of_ble_eq_true rfl⟩) hK (show P (δ.1, δ.2) _ by (repeat rw [va_up_id]); exact hP) rfl hl.1 rfl (Nat.le_of_ble_eq_true rfl) dL_listsAreSo_542 ⟨Nat.zero_le _, Nat.zero_le _⟩ hL (fun H locs hP hL => ?_)
      replace hP : P δ H := by first | exact hP | (simpa only [va_up_id] using hP)
      refine lv_iadd hx hb dL_listsAreSo_545 ?_
      refine lv_istore (lv' := [(5, .int ((r4 + r6) + r8)), (0, .ref (ad 0)), (1, .int x1), (2, .int x2), (3, .int x3), (4, .int x4)]) hx hb dL_listsAreSo_546 hl (by decide) rfl (fun ls hl => ?_)
      refine lv_aload_n hx hb dL_listsAreSo_548 rfl (lv_at hl 1 rfl) ?_
      refine g_Law_0 hC hP hx hb hts hown hK mw_12 dL_listsAreSo_549 ?_
      refine lv_bipush (v := 7) hx hb dL_listsAreSo_552 (by decide) ?_
      obtain ⟨r10, q11, hf⟩ := cx_b hf
      refine cx_callSX (As := [.ref ((adLG ad) 0), .int 7]) (rest := []) ⟨hx, hb, hml, hown, hts⟩ (c_L_count (cx_lwG hC δ) q11) (vx_cwSW 2 hts (gSWx mw_275 mw_276 mw_2 mw_277) rfl rfl rfl hd_L_count.2 ⟨Nat.le_of_ble_eq_true rfl, Nat.le_of_ble_eq_true rfl⟩) hK (show P (δ.1, δ.2) _ by (repeat rw [va_up_id]); exact hP) rfl hl.1 rfl (Nat.le_of_ble_eq_true rfl) dL_listsAreSo_554 ⟨Nat.zero_le _, Nat.zero_le _⟩ hL (fun H locs hP hL => ?_)
      replace hP : P δ H := by first | exact hP | (simpa only [va_up_id] using hP)
      refine lv_aload_n hx hb dL_listsAreSo_557 rfl (lv_at hl 1 rfl) ?_
      refine g_Law_0 hC hP hx hb hts hown hK mw_12 dL_listsAreSo_558 ?_
      refine lv_bipush (v := 8) hx hb dL_listsAreSo_561 (by decide) ?_
      obtain ⟨r12, q13, hf⟩ := cx_b hf
      refine cx_callSX (As := [.ref ((adLG ad) 0), .int 8]) (rest := [.int r10]) ⟨hx, hb, hml, hown, hts⟩ (c_L_count (cx_lwG hC δ) q13) (vx_cwSW 2 hts (gSWx mw_275 mw_276 mw_2 mw_277) rfl rfl rfl hd_L_count.2 ⟨Nat.le_of_ble_eq_true rfl, Nat.le_of_ble_eq_true rfl⟩) hK (show P (δ.1, δ.2) _ by (repeat rw [va_up_id]); exact hP) rfl hl.1 rfl (Nat.le_of_ble_eq_true rfl) dL_listsAreSo_563 ⟨Nat.zero_le _, Nat.zero_le _⟩ hL (fun H locs hP hL => ?_)
      replace hP : P δ H := by first | exact hP | (simpa only [va_up_id] using hP)
      refine lv_iadd hx hb dL_listsAreSo_566 ?_
      refine lv_iload_n hx hb dL_listsAreSo_567 rfl (lv_at hl 2 rfl) ?_
      refine lv_icmp_gt (tgt := 647) hx hb dL_listsAreSo_568 (by decide) (fun c14 => ?_) (fun c14 => ?_)
      · have hf := cx_t hf c14
        refine lv_iconst (v := 0) hx hb dL_listsAreSo_647 (by decide) ?_
        cases hf
        exact cx_zret hx hb hr hlocks (Or.inl rfl) hP hL dL_listsAreSo_648
      · have hf := cx_f hf c14
        refine lv_aload_n hx hb dL_listsAreSo_571 rfl (lv_at hl 1 rfl) ?_
        refine g_Law_0 hC hP hx hb hts hown hK mw_12 dL_listsAreSo_572 ?_
        refine lv_iconst (v := 4) hx hb dL_listsAreSo_575 (by decide) ?_
        obtain ⟨r15, q16, hf⟩ := cx_b hf
        refine cx_callSX (As := [.ref ((adLG ad) 0), .int 4]) (rest := []) ⟨hx, hb, hml, hown, hts⟩ (c_L_count (cx_lwG hC δ) q16) (vx_cwSW 2 hts (gSWx mw_275 mw_276 mw_2 mw_277) rfl rfl rfl hd_L_count.2 ⟨Nat.le_of_ble_eq_true rfl, Nat.le_of_ble_eq_true rfl⟩) hK (show P (δ.1, δ.2) _ by (repeat rw [va_up_id]); exact hP) rfl hl.1 rfl (Nat.le_of_ble_eq_true rfl) dL_listsAreSo_576 ⟨Nat.zero_le _, Nat.zero_le _⟩ hL (fun H locs hP hL => ?_)
        replace hP : P δ H := by first | exact hP | (simpa only [va_up_id] using hP)
        refine lv_if_lt (tgt := 647) hx hb dL_listsAreSo_579 (by decide) (fun c17 => ?_) (fun c17 => ?_)
        · have hf := cx_t hf c17
          refine lv_iconst (v := 0) hx hb dL_listsAreSo_647 (by decide) ?_
          cases hf
          exact cx_zret hx hb hr hlocks (Or.inl rfl) hP hL dL_listsAreSo_648
        · have hf := cx_f hf c17
          refine lv_aload_n hx hb dL_listsAreSo_582 rfl (lv_at hl 1 rfl) ?_
          refine g_Law_0 hC hP hx hb hts hown hK mw_12 dL_listsAreSo_583 ?_
          refine lv_iconst (v := 4) hx hb dL_listsAreSo_586 (by decide) ?_
          obtain ⟨r18, q19, hf⟩ := cx_b hf
          refine cx_callSX (As := [.ref ((adLG ad) 0), .int 4]) (rest := []) ⟨hx, hb, hml, hown, hts⟩ (c_L_count (cx_lwG hC δ) q19) (vx_cwSW 2 hts (gSWx mw_275 mw_276 mw_2 mw_277) rfl rfl rfl hd_L_count.2 ⟨Nat.le_of_ble_eq_true rfl, Nat.le_of_ble_eq_true rfl⟩) hK (show P (δ.1, δ.2) _ by (repeat rw [va_up_id]); exact hP) rfl hl.1 rfl (Nat.le_of_ble_eq_true rfl) dL_listsAreSo_587 ⟨Nat.zero_le _, Nat.zero_le _⟩ hL (fun H locs hP hL => ?_)
          replace hP : P δ H := by first | exact hP | (simpa only [va_up_id] using hP)
          refine lv_iload_n hx hb dL_listsAreSo_590 rfl (lv_at hl 2 rfl) ?_
          refine lv_icmp_gt (tgt := 647) hx hb dL_listsAreSo_591 (by decide) (fun c20 => ?_) (fun c20 => ?_)
          · have hf := cx_t hf c20
            refine lv_iconst (v := 0) hx hb dL_listsAreSo_647 (by decide) ?_
            cases hf
            exact cx_zret hx hb hr hlocks (Or.inl rfl) hP hL dL_listsAreSo_648
          · have hf := cx_f hf c20
            refine lv_iload_n hx hb dL_listsAreSo_594 rfl (lv_at hl 3 rfl) ?_
            refine lv_aload_n hx hb dL_listsAreSo_595 rfl (lv_at hl 1 rfl) ?_
            refine g_Law_0 hC hP hx hb hts hown hK mw_12 dL_listsAreSo_596 ?_
            refine lv_bipush (v := 12) hx hb dL_listsAreSo_599 (by decide) ?_
            obtain ⟨r21, q22, hf⟩ := cx_b hf
            refine cx_callSX (As := [.ref ((adLG ad) 0), .int 12]) (rest := [.int x2]) ⟨hx, hb, hml, hown, hts⟩ (c_L_count (cx_lwG hC δ) q22) (vx_cwSW 2 hts (gSWx mw_275 mw_276 mw_2 mw_277) rfl rfl rfl hd_L_count.2 ⟨Nat.le_of_ble_eq_true rfl, Nat.le_of_ble_eq_true rfl⟩) hK (show P (δ.1, δ.2) _ by (repeat rw [va_up_id]); exact hP) rfl hl.1 rfl (Nat.le_of_ble_eq_true rfl) dL_listsAreSo_601 ⟨Nat.zero_le _, Nat.zero_le _⟩ hL (fun H locs hP hL => ?_)
            replace hP : P δ H := by first | exact hP | (simpa only [va_up_id] using hP)
            refine lv_icmp_ne (tgt := 647) hx hb dL_listsAreSo_604 (by decide) (fun c23 => ?_) (fun c23 => ?_)
            · have hf := cx_f hf c23
              refine lv_iconst (v := 0) hx hb dL_listsAreSo_647 (by decide) ?_
              cases hf
              exact cx_zret hx hb hr hlocks (Or.inl rfl) hP hL dL_listsAreSo_648
            · have hf := cx_t hf c23
              refine lv_iload_n hx hb dL_listsAreSo_607 rfl (lv_at hl 4 rfl) ?_
              refine lv_iload hx hb dL_listsAreSo_608 (lv_at hl 0 rfl) ?_
              refine lv_icmp_ne (tgt := 647) hx hb dL_listsAreSo_610 (by decide) (fun c24 => ?_) (fun c24 => ?_)
              · have hf := cx_f hf c24
                refine lv_iconst (v := 0) hx hb dL_listsAreSo_647 (by decide) ?_
                cases hf
                exact cx_zret hx hb hr hlocks (Or.inl rfl) hP hL dL_listsAreSo_648
              · have hf := cx_t hf c24
                refine lv_iload hx hb dL_listsAreSo_613 (lv_at hl 5 rfl) ?_
                refine lv_iload hx hb dL_listsAreSo_615 (lv_at hl 0 rfl) ?_
                refine lv_icmp_ne (tgt := 647) hx hb dL_listsAreSo_617 (by decide) (fun c25 => ?_) (fun c25 => ?_)
                · have hf := cx_f hf c25
                  refine lv_iconst (v := 0) hx hb dL_listsAreSo_647 (by decide) ?_
                  cases hf
                  exact cx_zret hx hb hr hlocks (Or.inl rfl) hP hL dL_listsAreSo_648
                · have hf := cx_t hf c25
                  refine lv_aload_n hx hb dL_listsAreSo_620 rfl (lv_at hl 1 rfl) ?_
                  refine g_Law_0 hC hP hx hb hts hown hK mw_12 dL_listsAreSo_621 ?_
                  refine lv_iconst (v := 0) hx hb dL_listsAreSo_624 (by decide) ?_
                  obtain ⟨r26, q27, hf⟩ := cx_b hf
                  refine cx_callSX (As := [.ref ((adLG ad) 0), .int 0]) (rest := []) ⟨hx, hb, hml, hown, hts⟩ (c_L_stale (cx_lwG hC δ) q27) (vx_cwSW 2 hts (gSWx mw_656 mw_657 mw_2 mw_658) rfl rfl rfl hd_L_stale.2 ⟨Nat.le_of_ble_eq_true rfl, Nat.le_of_ble_eq_true rfl⟩) hK (show P (δ.1, δ.2) _ by (repeat rw [va_up_id]); exact hP) rfl hl.1 rfl (Nat.le_of_ble_eq_true rfl) dL_listsAreSo_625 ⟨Nat.zero_le _, Nat.zero_le _⟩ hL (fun H locs hP hL => ?_)
                  replace hP : P δ H := by first | exact hP | (simpa only [va_up_id] using hP)
                  refine lv_iload_n hx hb dL_listsAreSo_628 rfl (lv_at hl 3 rfl) ?_
                  refine lv_icmp_ne (tgt := 647) hx hb dL_listsAreSo_629 (by decide) (fun c28 => ?_) (fun c28 => ?_)
                  · have hf := cx_f hf c28
                    refine lv_iconst (v := 0) hx hb dL_listsAreSo_647 (by decide) ?_
                    cases hf
                    exact cx_zret hx hb hr hlocks (Or.inl rfl) hP hL dL_listsAreSo_648
                  · have hf := cx_t hf c28
                    refine lv_aload_n hx hb dL_listsAreSo_632 rfl (lv_at hl 1 rfl) ?_
                    refine g_Law_0 hC hP hx hb hts hown hK mw_12 dL_listsAreSo_633 ?_
                    obtain ⟨r29, q30, hf⟩ := cx_b hf
                    refine cx_callV (As := []) (rest := []) ⟨hx, hb, hml, hown, hts⟩ (c_X8_differing (cx_lwG hC δ) q30) (cwV 0 hts (gV mw_668 mw_669 mw_670 mw_11 mw_671) rfl rfl rfl hd_X8_differing ⟨Nat.le_of_ble_eq_true rfl, Nat.le_of_ble_eq_true rfl⟩) hK (show P (δ.1, δ.2) _ by (repeat rw [va_up_id]); exact hP) rfl (at_GL (cx_lwG hC δ) (show P (δ.1, δ.2) _ by (repeat rw [va_up_id]); exact hP)) rfl hl.1 rfl (Nat.le_of_ble_eq_true rfl) dL_listsAreSo_636 ⟨Nat.zero_le _, Nat.zero_le _⟩ hL (fun H locs hP hL => ?_)
                    replace hP : P δ H := by first | exact hP | (simpa only [va_up_id] using hP)
                    refine lv_iload_n hx hb dL_listsAreSo_639 rfl (lv_at hl 3 rfl) ?_
                    refine lv_icmp_gt (tgt := 647) hx hb dL_listsAreSo_640 (by decide) (fun c31 => ?_) (fun c31 => ?_)
                    · have hf := cx_t hf c31
                      refine lv_iconst (v := 0) hx hb dL_listsAreSo_647 (by decide) ?_
                      cases hf
                      exact cx_zret hx hb hr hlocks (Or.inl rfl) hP hL dL_listsAreSo_648
                    · have hf := cx_f hf c31
                      refine lv_iconst (v := 1) hx hb dL_listsAreSo_643 (by decide) ?_
                      refine lv_goto (tgt := 648) hx hb dL_listsAreSo_644 (by decide) ?_
                      cases hf
                      exact cx_zret hx hb hr hlocks (Or.inr rfl) hP hL dL_listsAreSo_648
    · have hf := cx_f hf c3
      refine lv_iconst (v := 0) hx hb dL_listsAreSo_400 (by decide) ?_
      refine lv_istore (lv' := [(6, .int 0), (0, .ref (ad 0)), (1, .int x1), (2, .int x2), (3, .int x3), (4, .int x4), (5, .int x5)]) hx hb dL_listsAreSo_401 hl (by decide) rfl (fun ls hl => ?_)
      exact w_L_listsAreSo_b403 C0 hC ih N δ x1 x2 x3 x4 x5 0 _ _ _ hf hP hL (lv_sub hl [1, 2, 3, 4, 5, 6, 0] rfl)
def f_L_listsAreSo_b19 (N : Nat) : Nat → LwS → Int32 → Int32 → Int32 → Int32 → Int32 → Option (Int32)
  | 0, _, _, _, _, _, _ => none
  | n + 1, δ, x1, x2, x3, x4, x5 => if 5 ≤ x5 then f_L_listsAreSo_b386 N N δ x1 x2 x3 x4 0 else (f_L_count N δ.2 (7 + x5)).bind fun r2 => if x5 = 2 then (f_L_count N δ.2 3).bind fun r5 => f_L_listsAreSo_b59 N (f_L_listsAreSo_b19 N n) δ x1 x2 x3 x4 x5 r2 r5 r2 else f_L_listsAreSo_b59 N (f_L_listsAreSo_b19 N n) δ x1 x2 x3 x4 x5 r2 x1 r2
set_option maxHeartbeats 4000000 in
set_option maxRecDepth 100000 in
theorem w_L_listsAreSo_b19 {p : Program} {l : Launch} {e : Env} {s : State} {m : MethodId} {args : Array Value} {below : List Frame} {meth : Method} {c : Code} {G : va_G} {cA : Nat → ClassId} (C0 : cB p s m args meth c RL cL_listsAreSo 9 (some .boolean) G cA) {lo : Nat} {ad : Nat → Nat} {sa : Nat} {sv : Nat → Option Nat} {P : LwS → Heap → Prop} (hC : cx G lo 264 ad (ceLaw sa sv cA ad) P) {N : Nat} {res : Int32} : ∀ (n : Nat) (δ : LwS) (x1 : Int32) (x2 : Int32) (x3 : Int32) (x4 : Int32) (x5 : Int32) (H : Heap) (locs : List Loc) (ls : Array Slot), f_L_listsAreSo_b19 N n δ x1 x2 x3 x4 x5 = some res → P δ H → (∀ q ∈ locs, lo ≤ q.base) → lv_has ls 9 [(0, .ref (ad 0)), (1, .int x1), (2, .int x2), (3, .int x3), (4, .int x4), (5, .int x5)] → W p l e rm_L_listsAreSo s m args below meth c H locs 0 0 (MQ below (cQ (some (.int res)) (P δ)) args s 0 0 (fun q => lo ≤ q)) (F0 m 19 ls []) := by
  obtain ⟨⟨hx, hb, hml, hown, hts⟩, hr, hlocks, hK⟩ := id C0
  intro n
  induction n with
  | zero => intro δ x1 x2 x3 x4 x5 H locs ls
            exact fun hf => nomatch hf
  | succ n ih =>
    intro δ x1 x2 x3 x4 x5 H locs ls hf hP hL hl
    rw [f_L_listsAreSo_b19] at hf
    refine lv_iload hx hb dL_listsAreSo_19 (lv_at hl 5 rfl) ?_
    refine lv_iconst (v := 5) hx hb dL_listsAreSo_21 (by decide) ?_
    refine lv_icmp_ge (tgt := 383) hx hb dL_listsAreSo_22 (by decide) (fun c1 => ?_) (fun c1 => ?_)
    · have hf := cx_t hf c1
      refine lv_iconst (v := 0) hx hb dL_listsAreSo_383 (by decide) ?_
      refine lv_istore (lv' := [(5, .int 0), (0, .ref (ad 0)), (1, .int x1), (2, .int x2), (3, .int x3), (4, .int x4)]) hx hb dL_listsAreSo_384 hl (by decide) rfl (fun ls hl => ?_)
      exact w_L_listsAreSo_b386 C0 hC N δ x1 x2 x3 x4 0 _ _ _ hf hP hL (lv_sub hl [1, 2, 3, 4, 5, 0] rfl)
    · have hf := cx_f hf c1
      refine lv_aload_n hx hb dL_listsAreSo_25 rfl (lv_at hl 0 rfl) ?_
      refine g_Law_0 hC hP hx hb hts hown hK mw_12 dL_listsAreSo_26 ?_
      refine lv_bipush (v := 7) hx hb dL_listsAreSo_29 (by decide) ?_
      refine lv_iload hx hb dL_listsAreSo_31 (lv_at hl 5 rfl) ?_
      refine lv_iadd hx hb dL_listsAreSo_33 ?_
      obtain ⟨r2, q3, hf⟩ := cx_b hf
      refine cx_callSX (As := [.ref ((adLG ad) 0), .int (7 + x5)]) (rest := []) ⟨hx, hb, hml, hown, hts⟩ (c_L_count (cx_lwG hC δ) q3) (vx_cwSW 2 hts (gSWx mw_275 mw_276 mw_2 mw_277) rfl rfl rfl hd_L_count.2 ⟨Nat.le_of_ble_eq_true rfl, Nat.le_of_ble_eq_true rfl⟩) hK (show P (δ.1, δ.2) _ by (repeat rw [va_up_id]); exact hP) rfl hl.1 rfl (Nat.le_of_ble_eq_true rfl) dL_listsAreSo_34 ⟨Nat.zero_le _, Nat.zero_le _⟩ hL (fun H locs hP hL => ?_)
      replace hP : P δ H := by first | exact hP | (simpa only [va_up_id] using hP)
      refine lv_istore (lv' := [(6, .int r2), (0, .ref (ad 0)), (1, .int x1), (2, .int x2), (3, .int x3), (4, .int x4), (5, .int x5)]) hx hb dL_listsAreSo_37 hl (by decide) rfl (fun ls hl => ?_)
      refine lv_iload hx hb dL_listsAreSo_39 (lv_at hl 0 rfl) ?_
      refine lv_iload hx hb dL_listsAreSo_41 (lv_at hl 6 rfl) ?_
      refine lv_iconst (v := 2) hx hb dL_listsAreSo_43 (by decide) ?_
      refine lv_icmp_ne (tgt := 58) hx hb dL_listsAreSo_44 (by decide) (fun c4 => ?_) (fun c4 => ?_)
      · have hf := cx_f hf c4
        refine lv_iload_n hx hb dL_listsAreSo_58 rfl (lv_at hl 2 rfl) ?_
        exact w_L_listsAreSo_b59 C0 hC ih δ x1 x2 x3 x4 x5 r2 x1 r2 _ _ _ hf hP hL (lv_sub hl [1, 2, 3, 4, 5, 6, 0] rfl)
      · have hf := cx_t hf c4
        refine lv_aload_n hx hb dL_listsAreSo_47 rfl (lv_at hl 1 rfl) ?_
        refine g_Law_0 hC hP hx hb hts hown hK mw_12 dL_listsAreSo_48 ?_
        refine lv_iconst (v := 3) hx hb dL_listsAreSo_51 (by decide) ?_
        obtain ⟨r5, q6, hf⟩ := cx_b hf
        refine cx_callSX (As := [.ref ((adLG ad) 0), .int 3]) (rest := [.int r2]) ⟨hx, hb, hml, hown, hts⟩ (c_L_count (cx_lwG hC δ) q6) (vx_cwSW 2 hts (gSWx mw_275 mw_276 mw_2 mw_277) rfl rfl rfl hd_L_count.2 ⟨Nat.le_of_ble_eq_true rfl, Nat.le_of_ble_eq_true rfl⟩) hK (show P (δ.1, δ.2) _ by (repeat rw [va_up_id]); exact hP) rfl hl.1 rfl (Nat.le_of_ble_eq_true rfl) dL_listsAreSo_52 ⟨Nat.zero_le _, Nat.zero_le _⟩ hL (fun H locs hP hL => ?_)
        replace hP : P δ H := by first | exact hP | (simpa only [va_up_id] using hP)
        refine lv_goto (tgt := 59) hx hb dL_listsAreSo_55 (by decide) ?_
        exact w_L_listsAreSo_b59 C0 hC ih δ x1 x2 x3 x4 x5 r2 r5 r2 _ _ _ hf hP hL (lv_sub hl [1, 2, 3, 4, 5, 6, 0] rfl)
def f_L_listsAreSo (N : Nat) (δ : LwS) : Option (Int32) := (f_L_count N δ.2 2).bind fun r1 => f_L_listsAreSo_b19 N N δ r1 0 0 0 0
set_option maxHeartbeats 4000000 in
set_option maxRecDepth 100000 in
theorem c_L_listsAreSo {l : Launch} {G : va_G} {cA : Nat → ClassId} {lo : Nat} {ad : Nat → Nat} {sa : Nat} {sv : Nat → Option Nat} {P : LwS → Heap → Prop} (hC : cx G lo 264 ad (ceLaw sa sv cA ad) P) {N : Nat} {δ : LwS} {res : Int32} (hf : f_L_listsAreSo N δ = some res) : Met l yL_listsAreSo (cW yL_listsAreSo cL_listsAreSo 9 (some .boolean)) rm_L_listsAreSo (cP [.ref (ad 0)] (P δ) G cA) (cQ (some (.int res)) (P δ)) 0 0 (fun q => lo ≤ q) := by
  refine cx_met (by decide) (Nat.le_of_ble_eq_true rfl) (fun p e s m args below meth c ls C0 hP hl => ?_)
  have hl : lv_has ls 9 [(0, .ref (ad 0))] := hl
  obtain ⟨⟨hx, hb, hml, hown, hts⟩, hr, hlocks, hK⟩ := id C0
  have hL : ∀ q ∈ ([] : List Loc), lo ≤ q.base := fun q h => nomatch h
  unfold f_L_listsAreSo at hf
  refine lv_aload_n hx hb dL_listsAreSo_0 rfl (lv_at hl 0 rfl) ?_
  refine g_Law_0 hC hP hx hb hts hown hK mw_12 dL_listsAreSo_1 ?_
  refine lv_iconst (v := 2) hx hb dL_listsAreSo_4 (by decide) ?_
  obtain ⟨r1, q2, hf⟩ := cx_b hf
  refine cx_callSX (As := [.ref ((adLG ad) 0), .int 2]) (rest := []) ⟨hx, hb, hml, hown, hts⟩ (c_L_count (cx_lwG hC δ) q2) (vx_cwSW 2 hts (gSWx mw_275 mw_276 mw_2 mw_277) rfl rfl rfl hd_L_count.2 ⟨Nat.le_of_ble_eq_true rfl, Nat.le_of_ble_eq_true rfl⟩) hK (show P (δ.1, δ.2) _ by (repeat rw [va_up_id]); exact hP) rfl hl.1 rfl (Nat.le_of_ble_eq_true rfl) dL_listsAreSo_5 ⟨Nat.zero_le _, Nat.zero_le _⟩ hL (fun H locs hP hL => ?_)
  replace hP : P δ H := by first | exact hP | (simpa only [va_up_id] using hP)
  refine lv_istore_n (lv' := [(1, .int r1), (0, .ref (ad 0))]) hx hb dL_listsAreSo_8 rfl hl (by decide) rfl (fun ls hl => ?_)
  refine lv_iconst (v := 0) hx hb dL_listsAreSo_9 (by decide) ?_
  refine lv_istore_n (lv' := [(2, .int 0), (1, .int r1), (0, .ref (ad 0))]) hx hb dL_listsAreSo_10 rfl hl (by decide) rfl (fun ls hl => ?_)
  refine lv_iconst (v := 0) hx hb dL_listsAreSo_11 (by decide) ?_
  refine lv_istore_n (lv' := [(3, .int 0), (2, .int 0), (1, .int r1), (0, .ref (ad 0))]) hx hb dL_listsAreSo_12 rfl hl (by decide) rfl (fun ls hl => ?_)
  refine lv_iconst (v := 0) hx hb dL_listsAreSo_13 (by decide) ?_
  refine lv_istore (lv' := [(4, .int 0), (3, .int 0), (2, .int 0), (1, .int r1), (0, .ref (ad 0))]) hx hb dL_listsAreSo_14 hl (by decide) rfl (fun ls hl => ?_)
  refine lv_iconst (v := 0) hx hb dL_listsAreSo_16 (by decide) ?_
  refine lv_istore (lv' := [(5, .int 0), (4, .int 0), (3, .int 0), (2, .int 0), (1, .int r1), (0, .ref (ad 0))]) hx hb dL_listsAreSo_17 hl (by decide) rfl (fun ls hl => ?_)
  exact w_L_listsAreSo_b19 C0 hC N δ r1 0 0 0 0 _ _ _ hf hP hL (lv_sub hl [5, 4, 3, 2, 1, 0] rfl)
abbrev rm_L_ordersAreSo : Room := { frames := 5, cells := 0, slots := 0, locals := 111 }
theorem hd_L_ordersAreSo : yL_ordersAreSo.cls = RL ∧ yL_ordersAreSo.cls ≠ "java/lang/invoke/MethodHandle" ∧ yL_ordersAreSo.cls ≠ "java/lang/invoke/VarHandle" ∧ (parseMethodDescriptor yL_ordersAreSo.desc).map (fun d => d.parameters.length) = some 0 := by decide +kernel
def f_L_ordersAreSo_b117 (N : Nat) (k28 : LwS → Int32 → Int32 → Int32 → Int32 → Int32 → Option (Int32)) (δ : LwS) (x1 : Int32) (x2 : Int32) (x3 : Int32) (x5 : Int32) (x6 : Int32) : Option (Int32) := (f_L_block N δ.2 x6 4).bind fun r1 => k28 δ x1 x2 x3 r1 (x5 + 1)
set_option maxHeartbeats 4000000 in
set_option maxRecDepth 100000 in
theorem w_L_ordersAreSo_b117 {p : Program} {l : Launch} {e : Env} {s : State} {m : MethodId} {args : Array Value} {below : List Frame} {meth : Method} {c : Code} {G : va_G} {cA : Nat → ClassId} (C0 : cB p s m args meth c RL cL_ordersAreSo 8 (some .boolean) G cA) {lo : Nat} {ad : Nat → Nat} {sa : Nat} {sv : Nat → Option Nat} {P : LwS → Heap → Prop} (hC : cx G lo 264 ad (ceLaw sa sv cA ad) P) {N : Nat} {res : Int32} {k28 : LwS → Int32 → Int32 → Int32 → Int32 → Int32 → Option (Int32)} (hk28 : ∀ (δ : LwS) (x1 : Int32) (x2 : Int32) (x3 : Int32) (x4 : Int32) (x5 : Int32) (H : Heap) (locs : List Loc) (ls : Array Slot), k28 δ x1 x2 x3 x4 x5 = some res → P δ H → (∀ q ∈ locs, lo ≤ q.base) → lv_has ls 8 [(0, .ref (ad 0)), (1, .int x1), (2, .int x2), (3, .int x3), (4, .int x4), (5, .int x5)] → W p l e rm_L_ordersAreSo s m args below meth c H locs 0 0 (MQ below (cQ (some (.int res)) (P δ)) args s 0 0 (fun q => lo ≤ q)) (F0 m 28 ls [])) : ∀ (δ : LwS) (x1 : Int32) (x2 : Int32) (x3 : Int32) (x5 : Int32) (x6 : Int32) (H : Heap) (locs : List Loc) (ls : Array Slot), f_L_ordersAreSo_b117 N k28 δ x1 x2 x3 x5 x6 = some res → P δ H → (∀ q ∈ locs, lo ≤ q.base) → lv_has ls 8 [(0, .ref (ad 0)), (1, .int x1), (2, .int x2), (3, .int x3), (5, .int x5), (6, .int x6)] → W p l e rm_L_ordersAreSo s m args below meth c H locs 0 0 (MQ below (cQ (some (.int res)) (P δ)) args s 0 0 (fun q => lo ≤ q)) (F0 m 117 ls []) := by
  obtain ⟨⟨hx, hb, hml, hown, hts⟩, hr, hlocks, hK⟩ := id C0
  intro δ x1 x2 x3 x5 x6 H locs ls hf hP hL hl
  unfold f_L_ordersAreSo_b117 at hf
  refine lv_aload_n hx hb dL_ordersAreSo_117 rfl (lv_at hl 0 rfl) ?_
  refine g_Law_0 hC hP hx hb hts hown hK mw_12 dL_ordersAreSo_118 ?_
  refine lv_iload hx hb dL_ordersAreSo_121 (lv_at hl 5 rfl) ?_
  refine lv_iconst (v := 4) hx hb dL_ordersAreSo_123 (by decide) ?_
  obtain ⟨r1, q2, hf⟩ := cx_b hf
  refine cx_callSX (As := [.ref ((adLG ad) 0), .int x6, .int 4]) (rest := []) ⟨hx, hb, hml, hown, hts⟩ (c_L_block (cx_lwG hC δ) q2) (vx_cwSW 3 hts (gSWx mw_353 mw_354 mw_2 mw_355) rfl rfl rfl hd_L_block.2 ⟨Nat.le_of_ble_eq_true rfl, Nat.le_of_ble_eq_true rfl⟩) hK (show P (δ.1, δ.2) _ by (repeat rw [va_up_id]); exact hP) rfl hl.1 rfl (Nat.le_of_ble_eq_true rfl) dL_ordersAreSo_124 ⟨Nat.zero_le _, Nat.zero_le _⟩ hL (fun H locs hP hL => ?_)
  replace hP : P δ H := by first | exact hP | (simpa only [va_up_id] using hP)
  refine lv_goto (tgt := 132) hx hb dL_ordersAreSo_127 (by decide) ?_
  refine lv_istore (lv' := [(4, .int r1), (0, .ref (ad 0)), (1, .int x1), (2, .int x2), (3, .int x3), (5, .int x5), (6, .int x6)]) hx hb dL_ordersAreSo_132 hl (by decide) rfl (fun ls hl => ?_)
  refine lv_iinc (v := (x5 + 1)) (lv' := [(5, .int (x5 + 1)), (4, .int r1), (0, .ref (ad 0)), (1, .int x1), (2, .int x2), (3, .int x3), (6, .int x6)]) hx hb dL_ordersAreSo_134 hl (k := 5) rfl rfl (by decide) rfl (fun ls hl => ?_)
  refine lv_goto (tgt := 28) hx hb dL_ordersAreSo_137 (by decide) ?_
  exact hk28 δ x1 x2 x3 r1 (x5 + 1) _ _ _ hf hP hL (lv_sub hl [2, 3, 4, 5, 1, 0] rfl)
def f_L_ordersAreSo_b28 (N : Nat) : Nat → LwS → Int32 → Int32 → Int32 → Int32 → Int32 → Option (Int32)
  | 0, _, _, _, _, _, _ => none
  | n + 1, δ, x1, x2, x3, x4, x5 => if x3 ≤ x5 then (f_L_order N δ.2 x3).bind fun r2 => if r2 = (-1) then if x3 = 0 then (f_X8_oldest N δ.2).bind fun r11 => if r11 = (-1) then some 1 else some 0 else (f_X8_oldest N δ.2).bind fun r6 => (f_L_block N δ.2 r6 4).bind fun r8 => if r8 = x4 then some 1 else some 0 else some 0 else (f_L_order N δ.2 x5).bind fun r14 => if (((r14 - x1) + 200) - ((r14 - x1) + 200) / 200 * 200) ≤ x2 then some 0 else (f_L_rank N δ.2 r14).bind fun r17 => if r17 = x5 then (f_L_block N δ.2 r14 4).bind fun r20 => if 0 ≤ r20 then if x4 < 0 then f_L_ordersAreSo_b117 N (f_L_ordersAreSo_b28 N n) δ x1 (((r14 - x1) + 200) - ((r14 - x1) + 200) / 200 * 200) x3 x5 r14 else (f_L_block N δ.2 r14 4).bind fun r24 => if x4 ≤ r24 then f_L_ordersAreSo_b28 N n δ x1 (((r14 - x1) + 200) - ((r14 - x1) + 200) / 200 * 200) x3 x4 (x5 + 1) else f_L_ordersAreSo_b117 N (f_L_ordersAreSo_b28 N n) δ x1 (((r14 - x1) + 200) - ((r14 - x1) + 200) / 200 * 200) x3 x5 r14 else some 0 else some 0
set_option maxHeartbeats 4000000 in
set_option maxRecDepth 100000 in
theorem w_L_ordersAreSo_b28 {p : Program} {l : Launch} {e : Env} {s : State} {m : MethodId} {args : Array Value} {below : List Frame} {meth : Method} {c : Code} {G : va_G} {cA : Nat → ClassId} (C0 : cB p s m args meth c RL cL_ordersAreSo 8 (some .boolean) G cA) {lo : Nat} {ad : Nat → Nat} {sa : Nat} {sv : Nat → Option Nat} {P : LwS → Heap → Prop} (hC : cx G lo 264 ad (ceLaw sa sv cA ad) P) {N : Nat} {res : Int32} : ∀ (n : Nat) (δ : LwS) (x1 : Int32) (x2 : Int32) (x3 : Int32) (x4 : Int32) (x5 : Int32) (H : Heap) (locs : List Loc) (ls : Array Slot), f_L_ordersAreSo_b28 N n δ x1 x2 x3 x4 x5 = some res → P δ H → (∀ q ∈ locs, lo ≤ q.base) → lv_has ls 8 [(0, .ref (ad 0)), (1, .int x1), (2, .int x2), (3, .int x3), (4, .int x4), (5, .int x5)] → W p l e rm_L_ordersAreSo s m args below meth c H locs 0 0 (MQ below (cQ (some (.int res)) (P δ)) args s 0 0 (fun q => lo ≤ q)) (F0 m 28 ls []) := by
  obtain ⟨⟨hx, hb, hml, hown, hts⟩, hr, hlocks, hK⟩ := id C0
  intro n
  induction n with
  | zero => intro δ x1 x2 x3 x4 x5 H locs ls
            exact fun hf => nomatch hf
  | succ n ih =>
    intro δ x1 x2 x3 x4 x5 H locs ls hf hP hL hl
    rw [f_L_ordersAreSo_b28] at hf
    refine lv_iload hx hb dL_ordersAreSo_28 (lv_at hl 5 rfl) ?_
    refine lv_iload_n hx hb dL_ordersAreSo_30 rfl (lv_at hl 3 rfl) ?_
    refine lv_icmp_ge (tgt := 140) hx hb dL_ordersAreSo_31 (by decide) (fun c1 => ?_) (fun c1 => ?_)
    · have hf := cx_t hf c1
      refine lv_aload_n hx hb dL_ordersAreSo_140 rfl (lv_at hl 0 rfl) ?_
      refine g_Law_0 hC hP hx hb hts hown hK mw_12 dL_ordersAreSo_141 ?_
      refine lv_iload_n hx hb dL_ordersAreSo_144 rfl (lv_at hl 3 rfl) ?_
      obtain ⟨r2, q3, hf⟩ := cx_b hf
      refine cx_callSX (As := [.ref ((adLG ad) 0), .int x3]) (rest := []) ⟨hx, hb, hml, hown, hts⟩ (c_L_order (cx_lwG hC δ) q3) (vx_cwSW 2 hts (gSWx mw_680 mw_681 mw_2 mw_682) rfl rfl rfl hd_L_order.2 ⟨Nat.le_of_ble_eq_true rfl, Nat.le_of_ble_eq_true rfl⟩) hK (show P (δ.1, δ.2) _ by (repeat rw [va_up_id]); exact hP) rfl hl.1 rfl (Nat.le_of_ble_eq_true rfl) dL_ordersAreSo_145 ⟨Nat.zero_le _, Nat.zero_le _⟩ hL (fun H locs hP hL => ?_)
      replace hP : P δ H := by first | exact hP | (simpa only [va_up_id] using hP)
      refine lv_iconst (v := (-1)) hx hb dL_ordersAreSo_148 (by decide) ?_
      refine lv_icmp_ne (tgt := 194) hx hb dL_ordersAreSo_149 (by decide) (fun c4 => ?_) (fun c4 => ?_)
      · have hf := cx_f hf c4
        refine lv_iconst (v := 0) hx hb dL_ordersAreSo_194 (by decide) ?_
        cases hf
        exact cx_zret hx hb hr hlocks (Or.inl rfl) hP hL dL_ordersAreSo_195
      · have hf := cx_t hf c4
        refine lv_iload_n hx hb dL_ordersAreSo_152 rfl (lv_at hl 3 rfl) ?_
        refine lv_if_ne (tgt := 170) hx hb dL_ordersAreSo_153 (by decide) (fun c5 => ?_) (fun c5 => ?_)
        · have hf := cx_f hf c5
          refine lv_aload_n hx hb dL_ordersAreSo_170 rfl (lv_at hl 0 rfl) ?_
          refine g_Law_0 hC hP hx hb hts hown hK mw_12 dL_ordersAreSo_171 ?_
          refine lv_aload_n hx hb dL_ordersAreSo_174 rfl (lv_at hl 0 rfl) ?_
          refine g_Law_0 hC hP hx hb hts hown hK mw_12 dL_ordersAreSo_175 ?_
          obtain ⟨r6, q7, hf⟩ := cx_b hf
          refine cx_callV (As := []) (rest := [.ref ((adLG ad) 0)]) ⟨hx, hb, hml, hown, hts⟩ (c_X8_oldest (cx_lwG hC δ) q7) (cwV 0 hts (gV mw_699 mw_700 mw_701 mw_11 mw_702) rfl rfl rfl hd_X8_oldest ⟨Nat.le_of_ble_eq_true rfl, Nat.le_of_ble_eq_true rfl⟩) hK (show P (δ.1, δ.2) _ by (repeat rw [va_up_id]); exact hP) rfl (at_GL (cx_lwG hC δ) (show P (δ.1, δ.2) _ by (repeat rw [va_up_id]); exact hP)) rfl hl.1 rfl (Nat.le_of_ble_eq_true rfl) dL_ordersAreSo_178 ⟨Nat.zero_le _, Nat.zero_le _⟩ hL (fun H locs hP hL => ?_)
          replace hP : P δ H := by first | exact hP | (simpa only [va_up_id] using hP)
          refine lv_iconst (v := 4) hx hb dL_ordersAreSo_181 (by decide) ?_
          obtain ⟨r8, q9, hf⟩ := cx_b hf
          refine cx_callSX (As := [.ref ((adLG ad) 0), .int r6, .int 4]) (rest := []) ⟨hx, hb, hml, hown, hts⟩ (c_L_block (cx_lwG hC δ) q9) (vx_cwSW 3 hts (gSWx mw_353 mw_354 mw_2 mw_355) rfl rfl rfl hd_L_block.2 ⟨Nat.le_of_ble_eq_true rfl, Nat.le_of_ble_eq_true rfl⟩) hK (show P (δ.1, δ.2) _ by (repeat rw [va_up_id]); exact hP) rfl hl.1 rfl (Nat.le_of_ble_eq_true rfl) dL_ordersAreSo_182 ⟨Nat.zero_le _, Nat.zero_le _⟩ hL (fun H locs hP hL => ?_)
          replace hP : P δ H := by first | exact hP | (simpa only [va_up_id] using hP)
          refine lv_iload hx hb dL_ordersAreSo_185 (lv_at hl 4 rfl) ?_
          refine lv_icmp_ne (tgt := 194) hx hb dL_ordersAreSo_187 (by decide) (fun c10 => ?_) (fun c10 => ?_)
          · have hf := cx_f hf c10
            refine lv_iconst (v := 0) hx hb dL_ordersAreSo_194 (by decide) ?_
            cases hf
            exact cx_zret hx hb hr hlocks (Or.inl rfl) hP hL dL_ordersAreSo_195
          · have hf := cx_t hf c10
            refine lv_iconst (v := 1) hx hb dL_ordersAreSo_190 (by decide) ?_
            refine lv_goto (tgt := 195) hx hb dL_ordersAreSo_191 (by decide) ?_
            cases hf
            exact cx_zret hx hb hr hlocks (Or.inr rfl) hP hL dL_ordersAreSo_195
        · have hf := cx_t hf c5
          refine lv_aload_n hx hb dL_ordersAreSo_156 rfl (lv_at hl 0 rfl) ?_
          refine g_Law_0 hC hP hx hb hts hown hK mw_12 dL_ordersAreSo_157 ?_
          obtain ⟨r11, q12, hf⟩ := cx_b hf
          refine cx_callV (As := []) (rest := []) ⟨hx, hb, hml, hown, hts⟩ (c_X8_oldest (cx_lwG hC δ) q12) (cwV 0 hts (gV mw_699 mw_700 mw_701 mw_11 mw_702) rfl rfl rfl hd_X8_oldest ⟨Nat.le_of_ble_eq_true rfl, Nat.le_of_ble_eq_true rfl⟩) hK (show P (δ.1, δ.2) _ by (repeat rw [va_up_id]); exact hP) rfl (at_GL (cx_lwG hC δ) (show P (δ.1, δ.2) _ by (repeat rw [va_up_id]); exact hP)) rfl hl.1 rfl (Nat.le_of_ble_eq_true rfl) dL_ordersAreSo_160 ⟨Nat.zero_le _, Nat.zero_le _⟩ hL (fun H locs hP hL => ?_)
          replace hP : P δ H := by first | exact hP | (simpa only [va_up_id] using hP)
          refine lv_iconst (v := (-1)) hx hb dL_ordersAreSo_163 (by decide) ?_
          refine lv_icmp_ne (tgt := 194) hx hb dL_ordersAreSo_164 (by decide) (fun c13 => ?_) (fun c13 => ?_)
          · have hf := cx_f hf c13
            refine lv_iconst (v := 0) hx hb dL_ordersAreSo_194 (by decide) ?_
            cases hf
            exact cx_zret hx hb hr hlocks (Or.inl rfl) hP hL dL_ordersAreSo_195
          · have hf := cx_t hf c13
            refine lv_goto (tgt := 190) hx hb dL_ordersAreSo_167 (by decide) ?_
            refine lv_iconst (v := 1) hx hb dL_ordersAreSo_190 (by decide) ?_
            refine lv_goto (tgt := 195) hx hb dL_ordersAreSo_191 (by decide) ?_
            cases hf
            exact cx_zret hx hb hr hlocks (Or.inr rfl) hP hL dL_ordersAreSo_195
    · have hf := cx_f hf c1
      refine lv_aload_n hx hb dL_ordersAreSo_34 rfl (lv_at hl 0 rfl) ?_
      refine g_Law_0 hC hP hx hb hts hown hK mw_12 dL_ordersAreSo_35 ?_
      refine lv_iload hx hb dL_ordersAreSo_38 (lv_at hl 5 rfl) ?_
      obtain ⟨r14, q15, hf⟩ := cx_b hf
      refine cx_callSX (As := [.ref ((adLG ad) 0), .int x5]) (rest := []) ⟨hx, hb, hml, hown, hts⟩ (c_L_order (cx_lwG hC δ) q15) (vx_cwSW 2 hts (gSWx mw_680 mw_681 mw_2 mw_682) rfl rfl rfl hd_L_order.2 ⟨Nat.le_of_ble_eq_true rfl, Nat.le_of_ble_eq_true rfl⟩) hK (show P (δ.1, δ.2) _ by (repeat rw [va_up_id]); exact hP) rfl hl.1 rfl (Nat.le_of_ble_eq_true rfl) dL_ordersAreSo_40 ⟨Nat.zero_le _, Nat.zero_le _⟩ hL (fun H locs hP hL => ?_)
      replace hP : P δ H := by first | exact hP | (simpa only [va_up_id] using hP)
      refine lv_istore (lv' := [(6, .int r14), (0, .ref (ad 0)), (1, .int x1), (2, .int x2), (3, .int x3), (4, .int x4), (5, .int x5)]) hx hb dL_ordersAreSo_43 hl (by decide) rfl (fun ls hl => ?_)
      refine lv_iload hx hb dL_ordersAreSo_45 (lv_at hl 0 rfl) ?_
      refine lv_iload_n hx hb dL_ordersAreSo_47 rfl (lv_at hl 2 rfl) ?_
      refine lv_isub hx hb dL_ordersAreSo_48 ?_
      refine lv_sipush (v := 200) hx hb dL_ordersAreSo_49 (by decide) ?_
      refine lv_iadd hx hb dL_ordersAreSo_52 ?_
      refine lv_sipush (v := 200) hx hb dL_ordersAreSo_53 (by decide) ?_
      refine lv_irem hx hb dL_ordersAreSo_56 (by decide) ?_
      refine lv_istore (lv' := [(7, .int (((r14 - x1) + 200) - ((r14 - x1) + 200) / 200 * 200)), (6, .int r14), (0, .ref (ad 0)), (1, .int x1), (2, .int x2), (3, .int x3), (4, .int x4), (5, .int x5)]) hx hb dL_ordersAreSo_57 hl (by decide) rfl (fun ls hl => ?_)
      refine lv_iload hx hb dL_ordersAreSo_59 (lv_at hl 0 rfl) ?_
      refine lv_iload_n hx hb dL_ordersAreSo_61 rfl (lv_at hl 4 rfl) ?_
      refine lv_icmp_le (tgt := 92) hx hb dL_ordersAreSo_62 (by decide) (fun c16 => ?_) (fun c16 => ?_)
      · have hf := cx_t hf c16
        refine lv_iconst (v := 0) hx hb dL_ordersAreSo_92 (by decide) ?_
        cases hf
        exact cx_zret hx hb hr hlocks (Or.inl rfl) hP hL dL_ordersAreSo_93
      · have hf := cx_f hf c16
        refine lv_aload_n hx hb dL_ordersAreSo_65 rfl (lv_at hl 2 rfl) ?_
        refine g_Law_0 hC hP hx hb hts hown hK mw_12 dL_ordersAreSo_66 ?_
        refine lv_iload hx hb dL_ordersAreSo_69 (lv_at hl 1 rfl) ?_
        obtain ⟨r17, q18, hf⟩ := cx_b hf
        refine cx_callSX (As := [.ref ((adLG ad) 0), .int r14]) (rest := []) ⟨hx, hb, hml, hown, hts⟩ (c_L_rank (cx_lwG hC δ) q18) (vx_cwSW 2 hts (gSWx mw_688 mw_689 mw_2 mw_690) rfl rfl rfl hd_L_rank.2 ⟨Nat.le_of_ble_eq_true rfl, Nat.le_of_ble_eq_true rfl⟩) hK (show P (δ.1, δ.2) _ by (repeat rw [va_up_id]); exact hP) rfl hl.1 rfl (Nat.le_of_ble_eq_true rfl) dL_ordersAreSo_71 ⟨Nat.zero_le _, Nat.zero_le _⟩ hL (fun H locs hP hL => ?_)
        replace hP : P δ H := by first | exact hP | (simpa only [va_up_id] using hP)
        refine lv_iload hx hb dL_ordersAreSo_74 (lv_at hl 7 rfl) ?_
        refine lv_icmp_ne (tgt := 92) hx hb dL_ordersAreSo_76 (by decide) (fun c19 => ?_) (fun c19 => ?_)
        · have hf := cx_f hf c19
          refine lv_iconst (v := 0) hx hb dL_ordersAreSo_92 (by decide) ?_
          cases hf
          exact cx_zret hx hb hr hlocks (Or.inl rfl) hP hL dL_ordersAreSo_93
        · have hf := cx_t hf c19
          refine lv_aload_n hx hb dL_ordersAreSo_79 rfl (lv_at hl 2 rfl) ?_
          refine g_Law_0 hC hP hx hb hts hown hK mw_12 dL_ordersAreSo_80 ?_
          refine lv_iload hx hb dL_ordersAreSo_83 (lv_at hl 1 rfl) ?_
          refine lv_iconst (v := 4) hx hb dL_ordersAreSo_85 (by decide) ?_
          obtain ⟨r20, q21, hf⟩ := cx_b hf
          refine cx_callSX (As := [.ref ((adLG ad) 0), .int r14, .int 4]) (rest := []) ⟨hx, hb, hml, hown, hts⟩ (c_L_block (cx_lwG hC δ) q21) (vx_cwSW 3 hts (gSWx mw_353 mw_354 mw_2 mw_355) rfl rfl rfl hd_L_block.2 ⟨Nat.le_of_ble_eq_true rfl, Nat.le_of_ble_eq_true rfl⟩) hK (show P (δ.1, δ.2) _ by (repeat rw [va_up_id]); exact hP) rfl hl.1 rfl (Nat.le_of_ble_eq_true rfl) dL_ordersAreSo_86 ⟨Nat.zero_le _, Nat.zero_le _⟩ hL (fun H locs hP hL => ?_)
          replace hP : P δ H := by first | exact hP | (simpa only [va_up_id] using hP)
          refine lv_if_ge (tgt := 94) hx hb dL_ordersAreSo_89 (by decide) (fun c22 => ?_) (fun c22 => ?_)
          · have hf := cx_t hf c22
            refine lv_iload hx hb dL_ordersAreSo_94 (lv_at hl 0 rfl) ?_
            refine lv_istore_n (lv' := [(2, .int (((r14 - x1) + 200) - ((r14 - x1) + 200) / 200 * 200)), (7, .int (((r14 - x1) + 200) - ((r14 - x1) + 200) / 200 * 200)), (6, .int r14), (0, .ref (ad 0)), (1, .int x1), (3, .int x3), (4, .int x4), (5, .int x5)]) hx hb dL_ordersAreSo_96 rfl hl (by decide) rfl (fun ls hl => ?_)
            refine lv_iload hx hb dL_ordersAreSo_97 (lv_at hl 6 rfl) ?_
            refine lv_if_lt (tgt := 117) hx hb dL_ordersAreSo_99 (by decide) (fun c23 => ?_) (fun c23 => ?_)
            · have hf := cx_t hf c23
              exact w_L_ordersAreSo_b117 C0 hC ih δ x1 (((r14 - x1) + 200) - ((r14 - x1) + 200) / 200 * 200) x3 x5 r14 _ _ _ hf hP hL (lv_sub hl [3, 4, 0, 5, 7, 2] rfl)
            · have hf := cx_f hf c23
              refine lv_aload_n hx hb dL_ordersAreSo_102 rfl (lv_at hl 3 rfl) ?_
              refine g_Law_0 hC hP hx hb hts hown hK mw_12 dL_ordersAreSo_103 ?_
              refine lv_iload hx hb dL_ordersAreSo_106 (lv_at hl 2 rfl) ?_
              refine lv_iconst (v := 4) hx hb dL_ordersAreSo_108 (by decide) ?_
              obtain ⟨r24, q25, hf⟩ := cx_b hf
              refine cx_callSX (As := [.ref ((adLG ad) 0), .int r14, .int 4]) (rest := []) ⟨hx, hb, hml, hown, hts⟩ (c_L_block (cx_lwG hC δ) q25) (vx_cwSW 3 hts (gSWx mw_353 mw_354 mw_2 mw_355) rfl rfl rfl hd_L_block.2 ⟨Nat.le_of_ble_eq_true rfl, Nat.le_of_ble_eq_true rfl⟩) hK (show P (δ.1, δ.2) _ by (repeat rw [va_up_id]); exact hP) rfl hl.1 rfl (Nat.le_of_ble_eq_true rfl) dL_ordersAreSo_109 ⟨Nat.zero_le _, Nat.zero_le _⟩ hL (fun H locs hP hL => ?_)
              replace hP : P δ H := by first | exact hP | (simpa only [va_up_id] using hP)
              refine lv_iload hx hb dL_ordersAreSo_112 (lv_at hl 6 rfl) ?_
              refine lv_icmp_ge (tgt := 130) hx hb dL_ordersAreSo_114 (by decide) (fun c26 => ?_) (fun c26 => ?_)
              · have hf := cx_t hf c26
                refine lv_iload hx hb dL_ordersAreSo_130 (lv_at hl 6 rfl) ?_
                refine lv_istore (lv' := [(4, .int x4), (2, .int (((r14 - x1) + 200) - ((r14 - x1) + 200) / 200 * 200)), (7, .int (((r14 - x1) + 200) - ((r14 - x1) + 200) / 200 * 200)), (6, .int r14), (0, .ref (ad 0)), (1, .int x1), (3, .int x3), (5, .int x5)]) hx hb dL_ordersAreSo_132 hl (by decide) rfl (fun ls hl => ?_)
                refine lv_iinc (v := (x5 + 1)) (lv' := [(5, .int (x5 + 1)), (4, .int x4), (2, .int (((r14 - x1) + 200) - ((r14 - x1) + 200) / 200 * 200)), (7, .int (((r14 - x1) + 200) - ((r14 - x1) + 200) / 200 * 200)), (6, .int r14), (0, .ref (ad 0)), (1, .int x1), (3, .int x3)]) hx hb dL_ordersAreSo_134 hl (k := 7) rfl rfl (by decide) rfl (fun ls hl => ?_)
                refine lv_goto (tgt := 28) hx hb dL_ordersAreSo_137 (by decide) ?_
                exact ih δ x1 (((r14 - x1) + 200) - ((r14 - x1) + 200) / 200 * 200) x3 x4 (x5 + 1) _ _ _ hf hP hL (lv_sub hl [5, 6, 2, 7, 1, 0] rfl)
              · have hf := cx_f hf c26
                exact w_L_ordersAreSo_b117 C0 hC ih δ x1 (((r14 - x1) + 200) - ((r14 - x1) + 200) / 200 * 200) x3 x5 r14 _ _ _ hf hP hL (lv_sub hl [3, 4, 0, 5, 7, 2] rfl)
          · have hf := cx_f hf c22
            refine lv_iconst (v := 0) hx hb dL_ordersAreSo_92 (by decide) ?_
            cases hf
            exact cx_zret hx hb hr hlocks (Or.inl rfl) hP hL dL_ordersAreSo_93
def f_L_ordersAreSo (N : Nat) (δ : LwS) : Option (Int32) := (f_L_count N δ.2 13).bind fun r1 => (f_L_count N δ.2 12).bind fun r3 => f_L_ordersAreSo_b28 N N δ r1 (-1) r3 (-1) 0
set_option maxHeartbeats 4000000 in
set_option maxRecDepth 100000 in
theorem c_L_ordersAreSo {l : Launch} {G : va_G} {cA : Nat → ClassId} {lo : Nat} {ad : Nat → Nat} {sa : Nat} {sv : Nat → Option Nat} {P : LwS → Heap → Prop} (hC : cx G lo 264 ad (ceLaw sa sv cA ad) P) {N : Nat} {δ : LwS} {res : Int32} (hf : f_L_ordersAreSo N δ = some res) : Met l yL_ordersAreSo (cW yL_ordersAreSo cL_ordersAreSo 8 (some .boolean)) rm_L_ordersAreSo (cP [.ref (ad 0)] (P δ) G cA) (cQ (some (.int res)) (P δ)) 0 0 (fun q => lo ≤ q) := by
  refine cx_met (by decide) (Nat.le_of_ble_eq_true rfl) (fun p e s m args below meth c ls C0 hP hl => ?_)
  have hl : lv_has ls 8 [(0, .ref (ad 0))] := hl
  obtain ⟨⟨hx, hb, hml, hown, hts⟩, hr, hlocks, hK⟩ := id C0
  have hL : ∀ q ∈ ([] : List Loc), lo ≤ q.base := fun q h => nomatch h
  unfold f_L_ordersAreSo at hf
  refine lv_aload_n hx hb dL_ordersAreSo_0 rfl (lv_at hl 0 rfl) ?_
  refine g_Law_0 hC hP hx hb hts hown hK mw_12 dL_ordersAreSo_1 ?_
  refine lv_bipush (v := 13) hx hb dL_ordersAreSo_4 (by decide) ?_
  obtain ⟨r1, q2, hf⟩ := cx_b hf
  refine cx_callSX (As := [.ref ((adLG ad) 0), .int 13]) (rest := []) ⟨hx, hb, hml, hown, hts⟩ (c_L_count (cx_lwG hC δ) q2) (vx_cwSW 2 hts (gSWx mw_275 mw_276 mw_2 mw_277) rfl rfl rfl hd_L_count.2 ⟨Nat.le_of_ble_eq_true rfl, Nat.le_of_ble_eq_true rfl⟩) hK (show P (δ.1, δ.2) _ by (repeat rw [va_up_id]); exact hP) rfl hl.1 rfl (Nat.le_of_ble_eq_true rfl) dL_ordersAreSo_6 ⟨Nat.zero_le _, Nat.zero_le _⟩ hL (fun H locs hP hL => ?_)
  replace hP : P δ H := by first | exact hP | (simpa only [va_up_id] using hP)
  refine lv_istore_n (lv' := [(1, .int r1), (0, .ref (ad 0))]) hx hb dL_ordersAreSo_9 rfl hl (by decide) rfl (fun ls hl => ?_)
  refine lv_iconst (v := (-1)) hx hb dL_ordersAreSo_10 (by decide) ?_
  refine lv_istore_n (lv' := [(2, .int (-1)), (1, .int r1), (0, .ref (ad 0))]) hx hb dL_ordersAreSo_11 rfl hl (by decide) rfl (fun ls hl => ?_)
  refine lv_aload_n hx hb dL_ordersAreSo_12 rfl (lv_at hl 2 rfl) ?_
  refine g_Law_0 hC hP hx hb hts hown hK mw_12 dL_ordersAreSo_13 ?_
  refine lv_bipush (v := 12) hx hb dL_ordersAreSo_16 (by decide) ?_
  obtain ⟨r3, q4, hf⟩ := cx_b hf
  refine cx_callSX (As := [.ref ((adLG ad) 0), .int 12]) (rest := []) ⟨hx, hb, hml, hown, hts⟩ (c_L_count (cx_lwG hC δ) q4) (vx_cwSW 2 hts (gSWx mw_275 mw_276 mw_2 mw_277) rfl rfl rfl hd_L_count.2 ⟨Nat.le_of_ble_eq_true rfl, Nat.le_of_ble_eq_true rfl⟩) hK (show P (δ.1, δ.2) _ by (repeat rw [va_up_id]); exact hP) rfl hl.1 rfl (Nat.le_of_ble_eq_true rfl) dL_ordersAreSo_18 ⟨Nat.zero_le _, Nat.zero_le _⟩ hL (fun H locs hP hL => ?_)
  replace hP : P δ H := by first | exact hP | (simpa only [va_up_id] using hP)
  refine lv_istore_n (lv' := [(3, .int r3), (2, .int (-1)), (1, .int r1), (0, .ref (ad 0))]) hx hb dL_ordersAreSo_21 rfl hl (by decide) rfl (fun ls hl => ?_)
  refine lv_iconst (v := (-1)) hx hb dL_ordersAreSo_22 (by decide) ?_
  refine lv_istore (lv' := [(4, .int (-1)), (3, .int r3), (2, .int (-1)), (1, .int r1), (0, .ref (ad 0))]) hx hb dL_ordersAreSo_23 hl (by decide) rfl (fun ls hl => ?_)
  refine lv_iconst (v := 0) hx hb dL_ordersAreSo_25 (by decide) ?_
  refine lv_istore (lv' := [(5, .int 0), (4, .int (-1)), (3, .int r3), (2, .int (-1)), (1, .int r1), (0, .ref (ad 0))]) hx hb dL_ordersAreSo_26 hl (by decide) rfl (fun ls hl => ?_)
  exact w_L_ordersAreSo_b28 C0 hC N δ r1 (-1) r3 (-1) 0 _ _ _ hf hP hL (lv_sub hl [5, 4, 3, 2, 1, 0] rfl)
abbrev rm_L_sumsAreSo : Room := { frames := 6, cells := 0, slots := 0, locals := 134 }
theorem hd_L_sumsAreSo : yL_sumsAreSo.cls = RL ∧ yL_sumsAreSo.cls ≠ "java/lang/invoke/MethodHandle" ∧ yL_sumsAreSo.cls ≠ "java/lang/invoke/VarHandle" ∧ (parseMethodDescriptor yL_sumsAreSo.desc).map (fun d => d.parameters.length) = some 0 := by decide +kernel
def f_L_sumsAreSo_b15 (N : Nat) : Nat → LwS → Int32 → Int32 → Int32 → Int32 → Int32 → Int32 → Option (Int32)
  | 0, _, _, _, _, _, _, _ => none
  | n + 1, δ, x1, x2, x3, x4, x5, x6 => (f_L_count N δ.2 6).bind fun r1 => if r1 ≤ x6 then (f_L_count N δ.2 5).bind fun r4 => if (x1 + x2) = r4 then (f_L_count N δ.2 14).bind fun r7 => if x3 = r7 then (f_L_count N δ.2 15).bind fun r10 => if x4 = r10 then (f_L_count N δ.2 16).bind fun r13 => if x5 = r13 then (f_L_count N δ.2 5).bind fun r16 => if ((x3 + x4) + x5) = r16 then (f_L_count N δ.2 17).bind fun r19 => (f_L_count N δ.2 18).bind fun r21 => if (x4 + x5) < (r19 + r21) then some 0 else (f_L_count N δ.2 22).bind fun r24 => (f_L_count N δ.2 5).bind fun r26 => if r26 < r24 then some 0 else some 1 else some 0 else some 0 else some 0 else some 0 else some 0 else (f_L_client N δ.2 x6 5).bind fun r29 => (f_L_client N δ.2 x6 6).bind fun r31 => (f_L_client N δ.2 x6 7).bind fun r33 => (f_L_client N δ.2 x6 8).bind fun r35 => (f_L_client N δ.2 x6 9).bind fun r37 => f_L_sumsAreSo_b15 N n δ (x1 + r29) (x2 + r31) (x3 + r33) (x4 + r35) (x5 + r37) (x6 + 1)
set_option maxHeartbeats 4000000 in
set_option maxRecDepth 100000 in
theorem w_L_sumsAreSo_b15 {p : Program} {l : Launch} {e : Env} {s : State} {m : MethodId} {args : Array Value} {below : List Frame} {meth : Method} {c : Code} {G : va_G} {cA : Nat → ClassId} (C0 : cB p s m args meth c RL cL_sumsAreSo 7 (some .boolean) G cA) {lo : Nat} {ad : Nat → Nat} {sa : Nat} {sv : Nat → Option Nat} {P : LwS → Heap → Prop} (hC : cx G lo 264 ad (ceLaw sa sv cA ad) P) {N : Nat} {res : Int32} : ∀ (n : Nat) (δ : LwS) (x1 : Int32) (x2 : Int32) (x3 : Int32) (x4 : Int32) (x5 : Int32) (x6 : Int32) (H : Heap) (locs : List Loc) (ls : Array Slot), f_L_sumsAreSo_b15 N n δ x1 x2 x3 x4 x5 x6 = some res → P δ H → (∀ q ∈ locs, lo ≤ q.base) → lv_has ls 7 [(0, .ref (ad 0)), (1, .int x1), (2, .int x2), (3, .int x3), (4, .int x4), (5, .int x5), (6, .int x6)] → W p l e rm_L_sumsAreSo s m args below meth c H locs 0 0 (MQ below (cQ (some (.int res)) (P δ)) args s 0 0 (fun q => lo ≤ q)) (F0 m 15 ls []) := by
  obtain ⟨⟨hx, hb, hml, hown, hts⟩, hr, hlocks, hK⟩ := id C0
  intro n
  induction n with
  | zero => intro δ x1 x2 x3 x4 x5 x6 H locs ls
            exact fun hf => nomatch hf
  | succ n ih =>
    intro δ x1 x2 x3 x4 x5 x6 H locs ls hf hP hL hl
    rw [f_L_sumsAreSo_b15] at hf
    refine lv_iload hx hb dL_sumsAreSo_15 (lv_at hl 6 rfl) ?_
    refine lv_aload_n hx hb dL_sumsAreSo_17 rfl (lv_at hl 0 rfl) ?_
    refine g_Law_0 hC hP hx hb hts hown hK mw_12 dL_sumsAreSo_18 ?_
    refine lv_bipush (v := 6) hx hb dL_sumsAreSo_21 (by decide) ?_
    obtain ⟨r1, q2, hf⟩ := cx_b hf
    refine cx_callSX (As := [.ref ((adLG ad) 0), .int 6]) (rest := [.int x6]) ⟨hx, hb, hml, hown, hts⟩ (c_L_count (cx_lwG hC δ) q2) (vx_cwSW 2 hts (gSWx mw_275 mw_276 mw_2 mw_277) rfl rfl rfl hd_L_count.2 ⟨Nat.le_of_ble_eq_true rfl, Nat.le_of_ble_eq_true rfl⟩) hK (show P (δ.1, δ.2) _ by (repeat rw [va_up_id]); exact hP) rfl hl.1 rfl (Nat.le_of_ble_eq_true rfl) dL_sumsAreSo_23 ⟨Nat.zero_le _, Nat.zero_le _⟩ hL (fun H locs hP hL => ?_)
    replace hP : P δ H := by first | exact hP | (simpa only [va_up_id] using hP)
    refine lv_icmp_ge (tgt := 108) hx hb dL_sumsAreSo_26 (by decide) (fun c3 => ?_) (fun c3 => ?_)
    · have hf := cx_t hf c3
      refine lv_iload_n hx hb dL_sumsAreSo_108 rfl (lv_at hl 1 rfl) ?_
      refine lv_iload_n hx hb dL_sumsAreSo_109 rfl (lv_at hl 2 rfl) ?_
      refine lv_iadd hx hb dL_sumsAreSo_110 ?_
      refine lv_aload_n hx hb dL_sumsAreSo_111 rfl (lv_at hl 0 rfl) ?_
      refine g_Law_0 hC hP hx hb hts hown hK mw_12 dL_sumsAreSo_112 ?_
      refine lv_iconst (v := 5) hx hb dL_sumsAreSo_115 (by decide) ?_
      obtain ⟨r4, q5, hf⟩ := cx_b hf
      refine cx_callSX (As := [.ref ((adLG ad) 0), .int 5]) (rest := [.int (x1 + x2)]) ⟨hx, hb, hml, hown, hts⟩ (c_L_count (cx_lwG hC δ) q5) (vx_cwSW 2 hts (gSWx mw_275 mw_276 mw_2 mw_277) rfl rfl rfl hd_L_count.2 ⟨Nat.le_of_ble_eq_true rfl, Nat.le_of_ble_eq_true rfl⟩) hK (show P (δ.1, δ.2) _ by (repeat rw [va_up_id]); exact hP) rfl hl.1 rfl (Nat.le_of_ble_eq_true rfl) dL_sumsAreSo_116 ⟨Nat.zero_le _, Nat.zero_le _⟩ hL (fun H locs hP hL => ?_)
      replace hP : P δ H := by first | exact hP | (simpa only [va_up_id] using hP)
      refine lv_icmp_ne (tgt := 232) hx hb dL_sumsAreSo_119 (by decide) (fun c6 => ?_) (fun c6 => ?_)
      · have hf := cx_f hf c6
        refine lv_iconst (v := 0) hx hb dL_sumsAreSo_232 (by decide) ?_
        cases hf
        exact cx_zret hx hb hr hlocks (Or.inl rfl) hP hL dL_sumsAreSo_233
      · have hf := cx_t hf c6
        refine lv_iload_n hx hb dL_sumsAreSo_122 rfl (lv_at hl 3 rfl) ?_
        refine lv_aload_n hx hb dL_sumsAreSo_123 rfl (lv_at hl 0 rfl) ?_
        refine g_Law_0 hC hP hx hb hts hown hK mw_12 dL_sumsAreSo_124 ?_
        refine lv_bipush (v := 14) hx hb dL_sumsAreSo_127 (by decide) ?_
        obtain ⟨r7, q8, hf⟩ := cx_b hf
        refine cx_callSX (As := [.ref ((adLG ad) 0), .int 14]) (rest := [.int x3]) ⟨hx, hb, hml, hown, hts⟩ (c_L_count (cx_lwG hC δ) q8) (vx_cwSW 2 hts (gSWx mw_275 mw_276 mw_2 mw_277) rfl rfl rfl hd_L_count.2 ⟨Nat.le_of_ble_eq_true rfl, Nat.le_of_ble_eq_true rfl⟩) hK (show P (δ.1, δ.2) _ by (repeat rw [va_up_id]); exact hP) rfl hl.1 rfl (Nat.le_of_ble_eq_true rfl) dL_sumsAreSo_129 ⟨Nat.zero_le _, Nat.zero_le _⟩ hL (fun H locs hP hL => ?_)
        replace hP : P δ H := by first | exact hP | (simpa only [va_up_id] using hP)
        refine lv_icmp_ne (tgt := 232) hx hb dL_sumsAreSo_132 (by decide) (fun c9 => ?_) (fun c9 => ?_)
        · have hf := cx_f hf c9
          refine lv_iconst (v := 0) hx hb dL_sumsAreSo_232 (by decide) ?_
          cases hf
          exact cx_zret hx hb hr hlocks (Or.inl rfl) hP hL dL_sumsAreSo_233
        · have hf := cx_t hf c9
          refine lv_iload hx hb dL_sumsAreSo_135 (lv_at hl 4 rfl) ?_
          refine lv_aload_n hx hb dL_sumsAreSo_137 rfl (lv_at hl 0 rfl) ?_
          refine g_Law_0 hC hP hx hb hts hown hK mw_12 dL_sumsAreSo_138 ?_
          refine lv_bipush (v := 15) hx hb dL_sumsAreSo_141 (by decide) ?_
          obtain ⟨r10, q11, hf⟩ := cx_b hf
          refine cx_callSX (As := [.ref ((adLG ad) 0), .int 15]) (rest := [.int x4]) ⟨hx, hb, hml, hown, hts⟩ (c_L_count (cx_lwG hC δ) q11) (vx_cwSW 2 hts (gSWx mw_275 mw_276 mw_2 mw_277) rfl rfl rfl hd_L_count.2 ⟨Nat.le_of_ble_eq_true rfl, Nat.le_of_ble_eq_true rfl⟩) hK (show P (δ.1, δ.2) _ by (repeat rw [va_up_id]); exact hP) rfl hl.1 rfl (Nat.le_of_ble_eq_true rfl) dL_sumsAreSo_143 ⟨Nat.zero_le _, Nat.zero_le _⟩ hL (fun H locs hP hL => ?_)
          replace hP : P δ H := by first | exact hP | (simpa only [va_up_id] using hP)
          refine lv_icmp_ne (tgt := 232) hx hb dL_sumsAreSo_146 (by decide) (fun c12 => ?_) (fun c12 => ?_)
          · have hf := cx_f hf c12
            refine lv_iconst (v := 0) hx hb dL_sumsAreSo_232 (by decide) ?_
            cases hf
            exact cx_zret hx hb hr hlocks (Or.inl rfl) hP hL dL_sumsAreSo_233
          · have hf := cx_t hf c12
            refine lv_iload hx hb dL_sumsAreSo_149 (lv_at hl 5 rfl) ?_
            refine lv_aload_n hx hb dL_sumsAreSo_151 rfl (lv_at hl 0 rfl) ?_
            refine g_Law_0 hC hP hx hb hts hown hK mw_12 dL_sumsAreSo_152 ?_
            refine lv_bipush (v := 16) hx hb dL_sumsAreSo_155 (by decide) ?_
            obtain ⟨r13, q14, hf⟩ := cx_b hf
            refine cx_callSX (As := [.ref ((adLG ad) 0), .int 16]) (rest := [.int x5]) ⟨hx, hb, hml, hown, hts⟩ (c_L_count (cx_lwG hC δ) q14) (vx_cwSW 2 hts (gSWx mw_275 mw_276 mw_2 mw_277) rfl rfl rfl hd_L_count.2 ⟨Nat.le_of_ble_eq_true rfl, Nat.le_of_ble_eq_true rfl⟩) hK (show P (δ.1, δ.2) _ by (repeat rw [va_up_id]); exact hP) rfl hl.1 rfl (Nat.le_of_ble_eq_true rfl) dL_sumsAreSo_157 ⟨Nat.zero_le _, Nat.zero_le _⟩ hL (fun H locs hP hL => ?_)
            replace hP : P δ H := by first | exact hP | (simpa only [va_up_id] using hP)
            refine lv_icmp_ne (tgt := 232) hx hb dL_sumsAreSo_160 (by decide) (fun c15 => ?_) (fun c15 => ?_)
            · have hf := cx_f hf c15
              refine lv_iconst (v := 0) hx hb dL_sumsAreSo_232 (by decide) ?_
              cases hf
              exact cx_zret hx hb hr hlocks (Or.inl rfl) hP hL dL_sumsAreSo_233
            · have hf := cx_t hf c15
              refine lv_iload_n hx hb dL_sumsAreSo_163 rfl (lv_at hl 3 rfl) ?_
              refine lv_iload hx hb dL_sumsAreSo_164 (lv_at hl 4 rfl) ?_
              refine lv_iadd hx hb dL_sumsAreSo_166 ?_
              refine lv_iload hx hb dL_sumsAreSo_167 (lv_at hl 5 rfl) ?_
              refine lv_iadd hx hb dL_sumsAreSo_169 ?_
              refine lv_aload_n hx hb dL_sumsAreSo_170 rfl (lv_at hl 0 rfl) ?_
              refine g_Law_0 hC hP hx hb hts hown hK mw_12 dL_sumsAreSo_171 ?_
              refine lv_iconst (v := 5) hx hb dL_sumsAreSo_174 (by decide) ?_
              obtain ⟨r16, q17, hf⟩ := cx_b hf
              refine cx_callSX (As := [.ref ((adLG ad) 0), .int 5]) (rest := [.int ((x3 + x4) + x5)]) ⟨hx, hb, hml, hown, hts⟩ (c_L_count (cx_lwG hC δ) q17) (vx_cwSW 2 hts (gSWx mw_275 mw_276 mw_2 mw_277) rfl rfl rfl hd_L_count.2 ⟨Nat.le_of_ble_eq_true rfl, Nat.le_of_ble_eq_true rfl⟩) hK (show P (δ.1, δ.2) _ by (repeat rw [va_up_id]); exact hP) rfl hl.1 rfl (Nat.le_of_ble_eq_true rfl) dL_sumsAreSo_175 ⟨Nat.zero_le _, Nat.zero_le _⟩ hL (fun H locs hP hL => ?_)
              replace hP : P δ H := by first | exact hP | (simpa only [va_up_id] using hP)
              refine lv_icmp_ne (tgt := 232) hx hb dL_sumsAreSo_178 (by decide) (fun c18 => ?_) (fun c18 => ?_)
              · have hf := cx_f hf c18
                refine lv_iconst (v := 0) hx hb dL_sumsAreSo_232 (by decide) ?_
                cases hf
                exact cx_zret hx hb hr hlocks (Or.inl rfl) hP hL dL_sumsAreSo_233
              · have hf := cx_t hf c18
                refine lv_aload_n hx hb dL_sumsAreSo_181 rfl (lv_at hl 0 rfl) ?_
                refine g_Law_0 hC hP hx hb hts hown hK mw_12 dL_sumsAreSo_182 ?_
                refine lv_bipush (v := 17) hx hb dL_sumsAreSo_185 (by decide) ?_
                obtain ⟨r19, q20, hf⟩ := cx_b hf
                refine cx_callSX (As := [.ref ((adLG ad) 0), .int 17]) (rest := []) ⟨hx, hb, hml, hown, hts⟩ (c_L_count (cx_lwG hC δ) q20) (vx_cwSW 2 hts (gSWx mw_275 mw_276 mw_2 mw_277) rfl rfl rfl hd_L_count.2 ⟨Nat.le_of_ble_eq_true rfl, Nat.le_of_ble_eq_true rfl⟩) hK (show P (δ.1, δ.2) _ by (repeat rw [va_up_id]); exact hP) rfl hl.1 rfl (Nat.le_of_ble_eq_true rfl) dL_sumsAreSo_187 ⟨Nat.zero_le _, Nat.zero_le _⟩ hL (fun H locs hP hL => ?_)
                replace hP : P δ H := by first | exact hP | (simpa only [va_up_id] using hP)
                refine lv_aload_n hx hb dL_sumsAreSo_190 rfl (lv_at hl 0 rfl) ?_
                refine g_Law_0 hC hP hx hb hts hown hK mw_12 dL_sumsAreSo_191 ?_
                refine lv_bipush (v := 18) hx hb dL_sumsAreSo_194 (by decide) ?_
                obtain ⟨r21, q22, hf⟩ := cx_b hf
                refine cx_callSX (As := [.ref ((adLG ad) 0), .int 18]) (rest := [.int r19]) ⟨hx, hb, hml, hown, hts⟩ (c_L_count (cx_lwG hC δ) q22) (vx_cwSW 2 hts (gSWx mw_275 mw_276 mw_2 mw_277) rfl rfl rfl hd_L_count.2 ⟨Nat.le_of_ble_eq_true rfl, Nat.le_of_ble_eq_true rfl⟩) hK (show P (δ.1, δ.2) _ by (repeat rw [va_up_id]); exact hP) rfl hl.1 rfl (Nat.le_of_ble_eq_true rfl) dL_sumsAreSo_196 ⟨Nat.zero_le _, Nat.zero_le _⟩ hL (fun H locs hP hL => ?_)
                replace hP : P δ H := by first | exact hP | (simpa only [va_up_id] using hP)
                refine lv_iadd hx hb dL_sumsAreSo_199 ?_
                refine lv_iload hx hb dL_sumsAreSo_200 (lv_at hl 4 rfl) ?_
                refine lv_iload hx hb dL_sumsAreSo_202 (lv_at hl 5 rfl) ?_
                refine lv_iadd hx hb dL_sumsAreSo_204 ?_
                refine lv_icmp_gt (tgt := 232) hx hb dL_sumsAreSo_205 (by decide) (fun c23 => ?_) (fun c23 => ?_)
                · have hf := cx_t hf c23
                  refine lv_iconst (v := 0) hx hb dL_sumsAreSo_232 (by decide) ?_
                  cases hf
                  exact cx_zret hx hb hr hlocks (Or.inl rfl) hP hL dL_sumsAreSo_233
                · have hf := cx_f hf c23
                  refine lv_aload_n hx hb dL_sumsAreSo_208 rfl (lv_at hl 0 rfl) ?_
                  refine g_Law_0 hC hP hx hb hts hown hK mw_12 dL_sumsAreSo_209 ?_
                  refine lv_bipush (v := 22) hx hb dL_sumsAreSo_212 (by decide) ?_
                  obtain ⟨r24, q25, hf⟩ := cx_b hf
                  refine cx_callSX (As := [.ref ((adLG ad) 0), .int 22]) (rest := []) ⟨hx, hb, hml, hown, hts⟩ (c_L_count (cx_lwG hC δ) q25) (vx_cwSW 2 hts (gSWx mw_275 mw_276 mw_2 mw_277) rfl rfl rfl hd_L_count.2 ⟨Nat.le_of_ble_eq_true rfl, Nat.le_of_ble_eq_true rfl⟩) hK (show P (δ.1, δ.2) _ by (repeat rw [va_up_id]); exact hP) rfl hl.1 rfl (Nat.le_of_ble_eq_true rfl) dL_sumsAreSo_214 ⟨Nat.zero_le _, Nat.zero_le _⟩ hL (fun H locs hP hL => ?_)
                  replace hP : P δ H := by first | exact hP | (simpa only [va_up_id] using hP)
                  refine lv_aload_n hx hb dL_sumsAreSo_217 rfl (lv_at hl 0 rfl) ?_
                  refine g_Law_0 hC hP hx hb hts hown hK mw_12 dL_sumsAreSo_218 ?_
                  refine lv_iconst (v := 5) hx hb dL_sumsAreSo_221 (by decide) ?_
                  obtain ⟨r26, q27, hf⟩ := cx_b hf
                  refine cx_callSX (As := [.ref ((adLG ad) 0), .int 5]) (rest := [.int r24]) ⟨hx, hb, hml, hown, hts⟩ (c_L_count (cx_lwG hC δ) q27) (vx_cwSW 2 hts (gSWx mw_275 mw_276 mw_2 mw_277) rfl rfl rfl hd_L_count.2 ⟨Nat.le_of_ble_eq_true rfl, Nat.le_of_ble_eq_true rfl⟩) hK (show P (δ.1, δ.2) _ by (repeat rw [va_up_id]); exact hP) rfl hl.1 rfl (Nat.le_of_ble_eq_true rfl) dL_sumsAreSo_222 ⟨Nat.zero_le _, Nat.zero_le _⟩ hL (fun H locs hP hL => ?_)
                  replace hP : P δ H := by first | exact hP | (simpa only [va_up_id] using hP)
                  refine lv_icmp_gt (tgt := 232) hx hb dL_sumsAreSo_225 (by decide) (fun c28 => ?_) (fun c28 => ?_)
                  · have hf := cx_t hf c28
                    refine lv_iconst (v := 0) hx hb dL_sumsAreSo_232 (by decide) ?_
                    cases hf
                    exact cx_zret hx hb hr hlocks (Or.inl rfl) hP hL dL_sumsAreSo_233
                  · have hf := cx_f hf c28
                    refine lv_iconst (v := 1) hx hb dL_sumsAreSo_228 (by decide) ?_
                    refine lv_goto (tgt := 233) hx hb dL_sumsAreSo_229 (by decide) ?_
                    cases hf
                    exact cx_zret hx hb hr hlocks (Or.inr rfl) hP hL dL_sumsAreSo_233
    · have hf := cx_f hf c3
      refine lv_iload_n hx hb dL_sumsAreSo_29 rfl (lv_at hl 1 rfl) ?_
      refine lv_aload_n hx hb dL_sumsAreSo_30 rfl (lv_at hl 0 rfl) ?_
      refine g_Law_0 hC hP hx hb hts hown hK mw_12 dL_sumsAreSo_31 ?_
      refine lv_iload hx hb dL_sumsAreSo_34 (lv_at hl 6 rfl) ?_
      refine lv_iconst (v := 5) hx hb dL_sumsAreSo_36 (by decide) ?_
      obtain ⟨r29, q30, hf⟩ := cx_b hf
      refine cx_callSX (As := [.ref ((adLG ad) 0), .int x6, .int 5]) (rest := [.int x1]) ⟨hx, hb, hml, hown, hts⟩ (c_L_client (cx_lwG hC δ) q30) (vx_cwSW 3 hts (gSWx mw_301 mw_302 mw_2 mw_303) rfl rfl rfl hd_L_client.2 ⟨Nat.le_of_ble_eq_true rfl, Nat.le_of_ble_eq_true rfl⟩) hK (show P (δ.1, δ.2) _ by (repeat rw [va_up_id]); exact hP) rfl hl.1 rfl (Nat.le_of_ble_eq_true rfl) dL_sumsAreSo_37 ⟨Nat.zero_le _, Nat.zero_le _⟩ hL (fun H locs hP hL => ?_)
      replace hP : P δ H := by first | exact hP | (simpa only [va_up_id] using hP)
      refine lv_iadd hx hb dL_sumsAreSo_40 ?_
      refine lv_istore_n (lv' := [(1, .int (x1 + r29)), (0, .ref (ad 0)), (2, .int x2), (3, .int x3), (4, .int x4), (5, .int x5), (6, .int x6)]) hx hb dL_sumsAreSo_41 rfl hl (by decide) rfl (fun ls hl => ?_)
      refine lv_iload_n hx hb dL_sumsAreSo_42 rfl (lv_at hl 2 rfl) ?_
      refine lv_aload_n hx hb dL_sumsAreSo_43 rfl (lv_at hl 1 rfl) ?_
      refine g_Law_0 hC hP hx hb hts hown hK mw_12 dL_sumsAreSo_44 ?_
      refine lv_iload hx hb dL_sumsAreSo_47 (lv_at hl 6 rfl) ?_
      refine lv_bipush (v := 6) hx hb dL_sumsAreSo_49 (by decide) ?_
      obtain ⟨r31, q32, hf⟩ := cx_b hf
      refine cx_callSX (As := [.ref ((adLG ad) 0), .int x6, .int 6]) (rest := [.int x2]) ⟨hx, hb, hml, hown, hts⟩ (c_L_client (cx_lwG hC δ) q32) (vx_cwSW 3 hts (gSWx mw_301 mw_302 mw_2 mw_303) rfl rfl rfl hd_L_client.2 ⟨Nat.le_of_ble_eq_true rfl, Nat.le_of_ble_eq_true rfl⟩) hK (show P (δ.1, δ.2) _ by (repeat rw [va_up_id]); exact hP) rfl hl.1 rfl (Nat.le_of_ble_eq_true rfl) dL_sumsAreSo_51 ⟨Nat.zero_le _, Nat.zero_le _⟩ hL (fun H locs hP hL => ?_)
      replace hP : P δ H := by first | exact hP | (simpa only [va_up_id] using hP)
      refine lv_iadd hx hb dL_sumsAreSo_54 ?_
      refine lv_istore_n (lv' := [(2, .int (x2 + r31)), (1, .int (x1 + r29)), (0, .ref (ad 0)), (3, .int x3), (4, .int x4), (5, .int x5), (6, .int x6)]) hx hb dL_sumsAreSo_55 rfl hl (by decide) rfl (fun ls hl => ?_)
      refine lv_iload_n hx hb dL_sumsAreSo_56 rfl (lv_at hl 3 rfl) ?_
      refine lv_aload_n hx hb dL_sumsAreSo_57 rfl (lv_at hl 2 rfl) ?_
      refine g_Law_0 hC hP hx hb hts hown hK mw_12 dL_sumsAreSo_58 ?_
      refine lv_iload hx hb dL_sumsAreSo_61 (lv_at hl 6 rfl) ?_
      refine lv_bipush (v := 7) hx hb dL_sumsAreSo_63 (by decide) ?_
      obtain ⟨r33, q34, hf⟩ := cx_b hf
      refine cx_callSX (As := [.ref ((adLG ad) 0), .int x6, .int 7]) (rest := [.int x3]) ⟨hx, hb, hml, hown, hts⟩ (c_L_client (cx_lwG hC δ) q34) (vx_cwSW 3 hts (gSWx mw_301 mw_302 mw_2 mw_303) rfl rfl rfl hd_L_client.2 ⟨Nat.le_of_ble_eq_true rfl, Nat.le_of_ble_eq_true rfl⟩) hK (show P (δ.1, δ.2) _ by (repeat rw [va_up_id]); exact hP) rfl hl.1 rfl (Nat.le_of_ble_eq_true rfl) dL_sumsAreSo_65 ⟨Nat.zero_le _, Nat.zero_le _⟩ hL (fun H locs hP hL => ?_)
      replace hP : P δ H := by first | exact hP | (simpa only [va_up_id] using hP)
      refine lv_iadd hx hb dL_sumsAreSo_68 ?_
      refine lv_istore_n (lv' := [(3, .int (x3 + r33)), (2, .int (x2 + r31)), (1, .int (x1 + r29)), (0, .ref (ad 0)), (4, .int x4), (5, .int x5), (6, .int x6)]) hx hb dL_sumsAreSo_69 rfl hl (by decide) rfl (fun ls hl => ?_)
      refine lv_iload hx hb dL_sumsAreSo_70 (lv_at hl 4 rfl) ?_
      refine lv_aload_n hx hb dL_sumsAreSo_72 rfl (lv_at hl 3 rfl) ?_
      refine g_Law_0 hC hP hx hb hts hown hK mw_12 dL_sumsAreSo_73 ?_
      refine lv_iload hx hb dL_sumsAreSo_76 (lv_at hl 6 rfl) ?_
      refine lv_bipush (v := 8) hx hb dL_sumsAreSo_78 (by decide) ?_
      obtain ⟨r35, q36, hf⟩ := cx_b hf
      refine cx_callSX (As := [.ref ((adLG ad) 0), .int x6, .int 8]) (rest := [.int x4]) ⟨hx, hb, hml, hown, hts⟩ (c_L_client (cx_lwG hC δ) q36) (vx_cwSW 3 hts (gSWx mw_301 mw_302 mw_2 mw_303) rfl rfl rfl hd_L_client.2 ⟨Nat.le_of_ble_eq_true rfl, Nat.le_of_ble_eq_true rfl⟩) hK (show P (δ.1, δ.2) _ by (repeat rw [va_up_id]); exact hP) rfl hl.1 rfl (Nat.le_of_ble_eq_true rfl) dL_sumsAreSo_80 ⟨Nat.zero_le _, Nat.zero_le _⟩ hL (fun H locs hP hL => ?_)
      replace hP : P δ H := by first | exact hP | (simpa only [va_up_id] using hP)
      refine lv_iadd hx hb dL_sumsAreSo_83 ?_
      refine lv_istore (lv' := [(4, .int (x4 + r35)), (3, .int (x3 + r33)), (2, .int (x2 + r31)), (1, .int (x1 + r29)), (0, .ref (ad 0)), (5, .int x5), (6, .int x6)]) hx hb dL_sumsAreSo_84 hl (by decide) rfl (fun ls hl => ?_)
      refine lv_iload hx hb dL_sumsAreSo_86 (lv_at hl 5 rfl) ?_
      refine lv_aload_n hx hb dL_sumsAreSo_88 rfl (lv_at hl 4 rfl) ?_
      refine g_Law_0 hC hP hx hb hts hown hK mw_12 dL_sumsAreSo_89 ?_
      refine lv_iload hx hb dL_sumsAreSo_92 (lv_at hl 6 rfl) ?_
      refine lv_bipush (v := 9) hx hb dL_sumsAreSo_94 (by decide) ?_
      obtain ⟨r37, q38, hf⟩ := cx_b hf
      refine cx_callSX (As := [.ref ((adLG ad) 0), .int x6, .int 9]) (rest := [.int x5]) ⟨hx, hb, hml, hown, hts⟩ (c_L_client (cx_lwG hC δ) q38) (vx_cwSW 3 hts (gSWx mw_301 mw_302 mw_2 mw_303) rfl rfl rfl hd_L_client.2 ⟨Nat.le_of_ble_eq_true rfl, Nat.le_of_ble_eq_true rfl⟩) hK (show P (δ.1, δ.2) _ by (repeat rw [va_up_id]); exact hP) rfl hl.1 rfl (Nat.le_of_ble_eq_true rfl) dL_sumsAreSo_96 ⟨Nat.zero_le _, Nat.zero_le _⟩ hL (fun H locs hP hL => ?_)
      replace hP : P δ H := by first | exact hP | (simpa only [va_up_id] using hP)
      refine lv_iadd hx hb dL_sumsAreSo_99 ?_
      refine lv_istore (lv' := [(5, .int (x5 + r37)), (4, .int (x4 + r35)), (3, .int (x3 + r33)), (2, .int (x2 + r31)), (1, .int (x1 + r29)), (0, .ref (ad 0)), (6, .int x6)]) hx hb dL_sumsAreSo_100 hl (by decide) rfl (fun ls hl => ?_)
      refine lv_iinc (v := (x6 + 1)) (lv' := [(6, .int (x6 + 1)), (5, .int (x5 + r37)), (4, .int (x4 + r35)), (3, .int (x3 + r33)), (2, .int (x2 + r31)), (1, .int (x1 + r29)), (0, .ref (ad 0))]) hx hb dL_sumsAreSo_102 hl (k := 6) rfl rfl (by decide) rfl (fun ls hl => ?_)
      refine lv_goto (tgt := 15) hx hb dL_sumsAreSo_105 (by decide) ?_
      exact ih δ (x1 + r29) (x2 + r31) (x3 + r33) (x4 + r35) (x5 + r37) (x6 + 1) _ _ _ hf hP hL (lv_sub hl [6, 5, 4, 3, 2, 1, 0] rfl)
def f_L_sumsAreSo (N : Nat) (δ : LwS) : Option (Int32) := f_L_sumsAreSo_b15 N N δ 0 0 0 0 0 0
set_option maxHeartbeats 4000000 in
set_option maxRecDepth 100000 in
theorem c_L_sumsAreSo {l : Launch} {G : va_G} {cA : Nat → ClassId} {lo : Nat} {ad : Nat → Nat} {sa : Nat} {sv : Nat → Option Nat} {P : LwS → Heap → Prop} (hC : cx G lo 264 ad (ceLaw sa sv cA ad) P) {N : Nat} {δ : LwS} {res : Int32} (hf : f_L_sumsAreSo N δ = some res) : Met l yL_sumsAreSo (cW yL_sumsAreSo cL_sumsAreSo 7 (some .boolean)) rm_L_sumsAreSo (cP [.ref (ad 0)] (P δ) G cA) (cQ (some (.int res)) (P δ)) 0 0 (fun q => lo ≤ q) := by
  refine cx_met (by decide) (Nat.le_of_ble_eq_true rfl) (fun p e s m args below meth c ls C0 hP hl => ?_)
  have hl : lv_has ls 7 [(0, .ref (ad 0))] := hl
  obtain ⟨⟨hx, hb, hml, hown, hts⟩, hr, hlocks, hK⟩ := id C0
  have hL : ∀ q ∈ ([] : List Loc), lo ≤ q.base := fun q h => nomatch h
  unfold f_L_sumsAreSo at hf
  refine lv_iconst (v := 0) hx hb dL_sumsAreSo_0 (by decide) ?_
  refine lv_istore_n (lv' := [(1, .int 0), (0, .ref (ad 0))]) hx hb dL_sumsAreSo_1 rfl hl (by decide) rfl (fun ls hl => ?_)
  refine lv_iconst (v := 0) hx hb dL_sumsAreSo_2 (by decide) ?_
  refine lv_istore_n (lv' := [(2, .int 0), (1, .int 0), (0, .ref (ad 0))]) hx hb dL_sumsAreSo_3 rfl hl (by decide) rfl (fun ls hl => ?_)
  refine lv_iconst (v := 0) hx hb dL_sumsAreSo_4 (by decide) ?_
  refine lv_istore_n (lv' := [(3, .int 0), (2, .int 0), (1, .int 0), (0, .ref (ad 0))]) hx hb dL_sumsAreSo_5 rfl hl (by decide) rfl (fun ls hl => ?_)
  refine lv_iconst (v := 0) hx hb dL_sumsAreSo_6 (by decide) ?_
  refine lv_istore (lv' := [(4, .int 0), (3, .int 0), (2, .int 0), (1, .int 0), (0, .ref (ad 0))]) hx hb dL_sumsAreSo_7 hl (by decide) rfl (fun ls hl => ?_)
  refine lv_iconst (v := 0) hx hb dL_sumsAreSo_9 (by decide) ?_
  refine lv_istore (lv' := [(5, .int 0), (4, .int 0), (3, .int 0), (2, .int 0), (1, .int 0), (0, .ref (ad 0))]) hx hb dL_sumsAreSo_10 hl (by decide) rfl (fun ls hl => ?_)
  refine lv_iconst (v := 0) hx hb dL_sumsAreSo_12 (by decide) ?_
  refine lv_istore (lv' := [(6, .int 0), (5, .int 0), (4, .int 0), (3, .int 0), (2, .int 0), (1, .int 0), (0, .ref (ad 0))]) hx hb dL_sumsAreSo_13 hl (by decide) rfl (fun ls hl => ?_)
  exact w_L_sumsAreSo_b15 C0 hC N δ 0 0 0 0 0 0 _ _ _ hf hP hL (lv_sub hl [6, 5, 4, 3, 2, 1, 0] rfl)
abbrev rm_L_others : Room := { frames := 7, cells := 0, slots := 0, locals := 175 }
theorem hd_L_others : yL_others.cls = RL ∧ yL_others.cls ≠ "java/lang/invoke/MethodHandle" ∧ yL_others.cls ≠ "java/lang/invoke/VarHandle" ∧ (parseMethodDescriptor yL_others.desc).map (fun d => d.parameters.length) = some 0 := by decide +kernel
def f_L_others_b213 (N : Nat) (z : ZS) (δ : LwS) (x1 : Int32) (x4 : Int32) (y0 : Int32) (y1 : Int32) : Option (Int32 × LwS) := if y1 = y0 then (f_L_block N δ.2 x1 0).bind fun r2 => if r2 = (-1) then (f_L_block N δ.2 x1 5).bind fun r5 => if r5 = (-1) then (f_L_count N δ.2 21).bind fun r8 => if r8 = x4 then some (1, δ) else some (0, δ) else some (0, δ) else some (0, δ) else some (0, δ)
set_option maxHeartbeats 4000000 in
set_option maxRecDepth 100000 in
theorem w_L_others_b213 {p : Program} {l : Launch} {e : Env} {s : State} {m : MethodId} {args : Array Value} {below : List Frame} {meth : Method} {c : Code} {G : va_G} {cA : Nat → ClassId} (C0 : cB p s m args meth c RL cL_others 10 (some .boolean) G cA) {lo : Nat} {z : ZS} (hZ : Zt lo z s) {ad : Nat → Nat} {sv : Nat → Option Nat} {P : LwS → Heap → Prop} (hC : cx G lo 264 ad (ceLaw z.1 sv cA ad) P) {N : Nat} {res : Int32 × LwS} : ∀ (δ : LwS) (x1 : Int32) (x4 : Int32) (y0 : Int32) (y1 : Int32) (H : Heap) (locs : List Loc) (ls : Array Slot), f_L_others_b213 N z δ x1 x4 y0 y1 = some res → P δ H → (∀ q ∈ locs, lo ≤ q.base) → lv_has ls 10 [(0, .ref (ad 0)), (1, .int x1), (4, .int x4)] → W p l e rm_L_others s m args below meth c H locs 0 0 (MQ below (cQ (some (.int res.1)) (P res.2)) args s 0 0 (fun q => lo ≤ q)) (F0 m 213 ls [.int y0, .int y1]) := by
  obtain ⟨⟨hx, hb, hml, hown, hts⟩, hr, hlocks, hK⟩ := id C0
  intro δ x1 x4 y0 y1 H locs ls hf hP hL hl
  unfold f_L_others_b213 at hf
  refine lv_icmp_ne (tgt := 260) hx hb dL_others_213 (by decide) (fun c1 => ?_) (fun c1 => ?_)
  · have hf := cx_f hf c1
    refine lv_iconst (v := 0) hx hb dL_others_260 (by decide) ?_
    cases hf
    exact cx_zret hx hb hr hlocks (Or.inl rfl) hP hL dL_others_261
  · have hf := cx_t hf c1
    refine lv_aload_n hx hb dL_others_216 rfl (lv_at hl 0 rfl) ?_
    refine g_Law_0 hC hP hx hb hts hown hK mw_12 dL_others_217 ?_
    refine lv_iload_n hx hb dL_others_220 rfl (lv_at hl 1 rfl) ?_
    refine lv_iconst (v := 0) hx hb dL_others_221 (by decide) ?_
    obtain ⟨r2, q3, hf⟩ := cx_b hf
    refine cx_callSX (As := [.ref ((adLG ad) 0), .int x1, .int 0]) (rest := []) ⟨hx, hb, hml, hown, hts⟩ (c_L_block (cx_lwG hC δ) q3) (vx_cwSW 3 hts (gSWx mw_353 mw_354 mw_2 mw_355) rfl rfl rfl hd_L_block.2 ⟨Nat.le_of_ble_eq_true rfl, Nat.le_of_ble_eq_true rfl⟩) hK (show P (δ.1, δ.2) _ by (repeat rw [va_up_id]); exact hP) rfl hl.1 rfl (Nat.le_of_ble_eq_true rfl) dL_others_222 ⟨Nat.zero_le _, Nat.zero_le _⟩ hL (fun H locs hP hL => ?_)
    replace hP : P δ H := by first | exact hP | (simpa only [va_up_id] using hP)
    refine lv_iconst (v := (-1)) hx hb dL_others_225 (by decide) ?_
    refine lv_icmp_ne (tgt := 260) hx hb dL_others_226 (by decide) (fun c4 => ?_) (fun c4 => ?_)
    · have hf := cx_f hf c4
      refine lv_iconst (v := 0) hx hb dL_others_260 (by decide) ?_
      cases hf
      exact cx_zret hx hb hr hlocks (Or.inl rfl) hP hL dL_others_261
    · have hf := cx_t hf c4
      refine lv_aload_n hx hb dL_others_229 rfl (lv_at hl 0 rfl) ?_
      refine g_Law_0 hC hP hx hb hts hown hK mw_12 dL_others_230 ?_
      refine lv_iload_n hx hb dL_others_233 rfl (lv_at hl 1 rfl) ?_
      refine lv_iconst (v := 5) hx hb dL_others_234 (by decide) ?_
      obtain ⟨r5, q6, hf⟩ := cx_b hf
      refine cx_callSX (As := [.ref ((adLG ad) 0), .int x1, .int 5]) (rest := []) ⟨hx, hb, hml, hown, hts⟩ (c_L_block (cx_lwG hC δ) q6) (vx_cwSW 3 hts (gSWx mw_353 mw_354 mw_2 mw_355) rfl rfl rfl hd_L_block.2 ⟨Nat.le_of_ble_eq_true rfl, Nat.le_of_ble_eq_true rfl⟩) hK (show P (δ.1, δ.2) _ by (repeat rw [va_up_id]); exact hP) rfl hl.1 rfl (Nat.le_of_ble_eq_true rfl) dL_others_235 ⟨Nat.zero_le _, Nat.zero_le _⟩ hL (fun H locs hP hL => ?_)
      replace hP : P δ H := by first | exact hP | (simpa only [va_up_id] using hP)
      refine lv_iconst (v := (-1)) hx hb dL_others_238 (by decide) ?_
      refine lv_icmp_ne (tgt := 260) hx hb dL_others_239 (by decide) (fun c7 => ?_) (fun c7 => ?_)
      · have hf := cx_f hf c7
        refine lv_iconst (v := 0) hx hb dL_others_260 (by decide) ?_
        cases hf
        exact cx_zret hx hb hr hlocks (Or.inl rfl) hP hL dL_others_261
      · have hf := cx_t hf c7
        refine lv_aload_n hx hb dL_others_242 rfl (lv_at hl 0 rfl) ?_
        refine g_Law_0 hC hP hx hb hts hown hK mw_12 dL_others_243 ?_
        refine lv_bipush (v := 21) hx hb dL_others_246 (by decide) ?_
        obtain ⟨r8, q9, hf⟩ := cx_b hf
        refine cx_callSX (As := [.ref ((adLG ad) 0), .int 21]) (rest := []) ⟨hx, hb, hml, hown, hts⟩ (c_L_count (cx_lwG hC δ) q9) (vx_cwSW 2 hts (gSWx mw_275 mw_276 mw_2 mw_277) rfl rfl rfl hd_L_count.2 ⟨Nat.le_of_ble_eq_true rfl, Nat.le_of_ble_eq_true rfl⟩) hK (show P (δ.1, δ.2) _ by (repeat rw [va_up_id]); exact hP) rfl hl.1 rfl (Nat.le_of_ble_eq_true rfl) dL_others_248 ⟨Nat.zero_le _, Nat.zero_le _⟩ hL (fun H locs hP hL => ?_)
        replace hP : P δ H := by first | exact hP | (simpa only [va_up_id] using hP)
        refine lv_iload hx hb dL_others_251 (lv_at hl 2 rfl) ?_
        refine lv_icmp_ne (tgt := 260) hx hb dL_others_253 (by decide) (fun c10 => ?_) (fun c10 => ?_)
        · have hf := cx_f hf c10
          refine lv_iconst (v := 0) hx hb dL_others_260 (by decide) ?_
          cases hf
          exact cx_zret hx hb hr hlocks (Or.inl rfl) hP hL dL_others_261
        · have hf := cx_t hf c10
          refine lv_iconst (v := 1) hx hb dL_others_256 (by decide) ?_
          refine lv_goto (tgt := 261) hx hb dL_others_257 (by decide) ?_
          cases hf
          exact cx_zret hx hb hr hlocks (Or.inr rfl) hP hL dL_others_261
def f_L_others (N : Nat) (z : ZS) (δ : LwS) : Option (Int32 × LwS) := (f_L_someBlock z δ).bind fun r1 => (f_L_count N r1.2.2 23).bind fun r3 => (f_L_count N r1.2.2 12).bind fun r5 => (f_L_count N r1.2.2 21).bind fun r7 => (f_L_draw z r1.2 4).bind fun r9 => if r9.1 = 0 then (f_L_draw z r9.2 12).bind fun r12 => (f_L_flush N r12.2.2 (1 + r12.1)).bind fun r14 => cx_let ((r12.2.1, r14.2)) fun z16 => if r14.1 = (if r5 < (1 + r12.1) then r5 else (1 + r12.1)) then (f_L_count N z16.2 12).bind fun r18 => if r18 = (r5 - r14.1) then (f_L_count N z16.2 21).bind fun r21 => if r21 = (r7 + r14.1) then (f_L_count N z16.2 23).bind fun r24 => if r24 = (if (r3 + 1) < 8 then (r3 + 1) else 8) then some (1, z16) else some (0, z16) else some (0, z16) else some (0, z16) else some (0, z16) else if r9.1 = 1 then (f_L_block N r9.2.2 r1.1 0).bind fun r28 => (f_L_forget N r9.2.2 r1.1).bind fun r30 => cx_let ((r9.2.1, r30.2)) fun z32 => if r28 < 0 then if 0 ≤ r28 then f_L_others_b213 N z z32 r1.1 r7 1 r30.1 else f_L_others_b213 N z z32 r1.1 r7 0 r30.1 else (f_L_block N z32.2 r1.1 6).bind fun r35 => gd r1.1 200 (cx_let ((oA z32.1 3 (Int32.toNatClampNeg r1.1) r35, z32.2)) fun z38 => if 0 ≤ r28 then f_L_others_b213 N z z38 r1.1 r7 1 r30.1 else f_L_others_b213 N z z38 r1.1 r7 0 r30.1) else if r9.1 = 2 then (f_L_block N r9.2.2 r1.1 2).bind fun r41 => (f_L_block N r9.2.2 r1.1 6).bind fun r43 => (f_L_count N r9.2.2 5).bind fun r45 => (f_L_block N r9.2.2 r1.1 0).bind fun r47 => (f_L_block N r9.2.2 r1.1 1).bind fun r49 => (f_L_draw z r9.2 1000).bind fun r51 => (f_L_write N r51.2.2 0 r1.1 r51.1).bind fun r53 => cx_let ((r51.2.1, r53.2)) fun z55 => if r53.1 < 0 then some (0, z55) else (f_X8_undo N z55.2).bind fun r57 => cx_let ((z55.1, r57.2)) fun z59 => if r57.1 = (if r3 < 7 then r3 else 7) then (f_L_block N z59.2 r1.1 2).bind fun r61 => if r61 = r41 then (f_L_block N z59.2 r1.1 6).bind fun r64 => if r64 = r43 then (f_L_count N z59.2 5).bind fun r67 => if r67 = r45 then (f_L_block N z59.2 r1.1 0).bind fun r70 => if r70 = r47 then (f_L_block N z59.2 r1.1 1).bind fun r73 => if r73 = r49 then (f_L_count N z59.2 12).bind fun r76 => if r76 = r5 then some (1, z59) else some (0, z59) else some (0, z59) else some (0, z59) else some (0, z59) else some (0, z59) else some (0, z59) else some (0, z59) else (f_L_draw z r9.2 176).bind fun r79 => cx_let ((oI r79.2.1 4 r79.1, r79.2.2)) fun z81 => (f_L_count N z81.2 6).bind fun r82 => (f_L_draw z z81 r82).bind fun r84 => (f_L_draw z r84.2 9).bind fun r86 => (f_L_setWeight N r86.2.2 r84.1 (1 + r86.1)).bind fun r88 => cx_let ((r86.2.1, r88.2)) fun z90 => if r88.1 ≤ 0 then some (0, z90) else some (1, z90)
set_option maxHeartbeats 4000000 in
set_option maxRecDepth 100000 in
theorem c_L_others {l : Launch} {G : va_G} {cA : Nat → ClassId} {lo : Nat} {z : ZS} {ad : Nat → Nat} {sv : Nat → Option Nat} {P : LwS → Heap → Prop} (hC : cx G lo 264 ad (ceLaw z.1 sv cA ad) P) {N : Nat} {δ : LwS} {res : Int32 × LwS} (hf : f_L_others N z δ = some res) : Met l yL_others (cW yL_others cL_others 10 (some .boolean)) rm_L_others (cPZ lo z [.ref (ad 0)] (P δ) G cA) (cQ (some (.int res.1)) (P res.2)) 0 0 (fun q => lo ≤ q) := by
  refine cx_metZ (by decide) (Nat.le_of_ble_eq_true rfl) (fun p e s m args below meth c ls C0 hZ hP hl => ?_)
  have hl : lv_has ls 10 [(0, .ref (ad 0))] := hl
  obtain ⟨⟨hx, hb, hml, hown, hts⟩, hr, hlocks, hK⟩ := id C0
  have hL : ∀ q ∈ ([] : List Loc), lo ≤ q.base := fun q h => nomatch h
  unfold f_L_others at hf
  refine lv_aload_n hx hb dL_others_0 rfl (lv_at hl 0 rfl) ?_
  obtain ⟨r1, q2, hf⟩ := cx_b hf
  refine cx_callVZ (As := []) (rest := []) ⟨hx, hb, hml, hown, hts⟩ (c_L_someBlock hC (z := z) q2) (cwV 0 hts (gV mw_348 mw_349 mw_350 mw_2 mw_351) rfl rfl rfl hd_L_someBlock ⟨Nat.le_of_ble_eq_true rfl, Nat.le_of_ble_eq_true rfl⟩) hK hZ hP rfl (at_Law hC hP) rfl hl.1 rfl (Nat.le_of_ble_eq_true rfl) dL_others_1 ⟨Nat.zero_le _, Nat.zero_le _⟩ hL (fun H locs hP hL => ?_)
  replace hP : P r1.2 H := by first | exact hP | (simpa only [va_up_id] using hP)
  refine lv_istore_n (lv' := [(1, .int r1.1), (0, .ref (ad 0))]) hx hb dL_others_4 rfl hl (by decide) rfl (fun ls hl => ?_)
  refine lv_aload_n hx hb dL_others_5 rfl (lv_at hl 1 rfl) ?_
  refine g_Law_0 hC hP hx hb hts hown hK mw_12 dL_others_6 ?_
  refine lv_bipush (v := 23) hx hb dL_others_9 (by decide) ?_
  obtain ⟨r3, q4, hf⟩ := cx_b hf
  refine cx_callSX (As := [.ref ((adLG ad) 0), .int 23]) (rest := []) ⟨hx, hb, hml, hown, hts⟩ (c_L_count (cx_lwG hC r1.2) q4) (vx_cwSW 2 hts (gSWx mw_275 mw_276 mw_2 mw_277) rfl rfl rfl hd_L_count.2 ⟨Nat.le_of_ble_eq_true rfl, Nat.le_of_ble_eq_true rfl⟩) hK (show P (r1.2.1, r1.2.2) _ by (repeat rw [va_up_id]); exact hP) rfl hl.1 rfl (Nat.le_of_ble_eq_true rfl) dL_others_11 ⟨Nat.zero_le _, Nat.zero_le _⟩ hL (fun H locs hP hL => ?_)
  replace hP : P r1.2 H := by first | exact hP | (simpa only [va_up_id] using hP)
  refine lv_istore_n (lv' := [(2, .int r3), (1, .int r1.1), (0, .ref (ad 0))]) hx hb dL_others_14 rfl hl (by decide) rfl (fun ls hl => ?_)
  refine lv_aload_n hx hb dL_others_15 rfl (lv_at hl 2 rfl) ?_
  refine g_Law_0 hC hP hx hb hts hown hK mw_12 dL_others_16 ?_
  refine lv_bipush (v := 12) hx hb dL_others_19 (by decide) ?_
  obtain ⟨r5, q6, hf⟩ := cx_b hf
  refine cx_callSX (As := [.ref ((adLG ad) 0), .int 12]) (rest := []) ⟨hx, hb, hml, hown, hts⟩ (c_L_count (cx_lwG hC r1.2) q6) (vx_cwSW 2 hts (gSWx mw_275 mw_276 mw_2 mw_277) rfl rfl rfl hd_L_count.2 ⟨Nat.le_of_ble_eq_true rfl, Nat.le_of_ble_eq_true rfl⟩) hK (show P (r1.2.1, r1.2.2) _ by (repeat rw [va_up_id]); exact hP) rfl hl.1 rfl (Nat.le_of_ble_eq_true rfl) dL_others_21 ⟨Nat.zero_le _, Nat.zero_le _⟩ hL (fun H locs hP hL => ?_)
  replace hP : P r1.2 H := by first | exact hP | (simpa only [va_up_id] using hP)
  refine lv_istore_n (lv' := [(3, .int r5), (2, .int r3), (1, .int r1.1), (0, .ref (ad 0))]) hx hb dL_others_24 rfl hl (by decide) rfl (fun ls hl => ?_)
  refine lv_aload_n hx hb dL_others_25 rfl (lv_at hl 3 rfl) ?_
  refine g_Law_0 hC hP hx hb hts hown hK mw_12 dL_others_26 ?_
  refine lv_bipush (v := 21) hx hb dL_others_29 (by decide) ?_
  obtain ⟨r7, q8, hf⟩ := cx_b hf
  refine cx_callSX (As := [.ref ((adLG ad) 0), .int 21]) (rest := []) ⟨hx, hb, hml, hown, hts⟩ (c_L_count (cx_lwG hC r1.2) q8) (vx_cwSW 2 hts (gSWx mw_275 mw_276 mw_2 mw_277) rfl rfl rfl hd_L_count.2 ⟨Nat.le_of_ble_eq_true rfl, Nat.le_of_ble_eq_true rfl⟩) hK (show P (r1.2.1, r1.2.2) _ by (repeat rw [va_up_id]); exact hP) rfl hl.1 rfl (Nat.le_of_ble_eq_true rfl) dL_others_31 ⟨Nat.zero_le _, Nat.zero_le _⟩ hL (fun H locs hP hL => ?_)
  replace hP : P r1.2 H := by first | exact hP | (simpa only [va_up_id] using hP)
  refine lv_istore (lv' := [(4, .int r7), (3, .int r5), (2, .int r3), (1, .int r1.1), (0, .ref (ad 0))]) hx hb dL_others_34 hl (by decide) rfl (fun ls hl => ?_)
  refine lv_aload_n hx hb dL_others_36 rfl (lv_at hl 4 rfl) ?_
  refine lv_iconst (v := 4) hx hb dL_others_37 (by decide) ?_
  obtain ⟨r9, q10, hf⟩ := cx_b hf
  refine cx_callVZ (As := [.int 4]) (rest := []) ⟨hx, hb, hml, hown, hts⟩ (c_L_draw hC (z := z) q10) (cwV 1 hts (gV mw_124 mw_125 mw_126 mw_2 mw_127) rfl rfl rfl hd_L_draw ⟨Nat.le_of_ble_eq_true rfl, Nat.le_of_ble_eq_true rfl⟩) hK hZ hP rfl (at_Law hC hP) rfl hl.1 rfl (Nat.le_of_ble_eq_true rfl) dL_others_38 ⟨Nat.zero_le _, Nat.zero_le _⟩ hL (fun H locs hP hL => ?_)
  replace hP : P r9.2 H := by first | exact hP | (simpa only [va_up_id] using hP)
  by_cases c11 : r9.1 = 0
  · have hf := cx_t hf c11
    refine lv_tableIn (off := 27) (tgt := 68) hx hb dL_others_41 (by rw [c11]; decide) (by rw [c11]; decide) (by rw [c11]; rfl) (by decide) ?_
    refine lv_iconst (v := 1) hx hb dL_others_68 (by decide) ?_
    refine lv_aload_n hx hb dL_others_69 rfl (lv_at hl 4 rfl) ?_
    refine lv_bipush (v := 12) hx hb dL_others_70 (by decide) ?_
    obtain ⟨r12, q13, hf⟩ := cx_b hf
    refine cx_callVZ (As := [.int 12]) (rest := [.int 1]) ⟨hx, hb, hml, hown, hts⟩ (c_L_draw hC (z := z) q13) (cwV 1 hts (gV mw_124 mw_125 mw_126 mw_2 mw_127) rfl rfl rfl hd_L_draw ⟨Nat.le_of_ble_eq_true rfl, Nat.le_of_ble_eq_true rfl⟩) hK hZ hP rfl (at_Law hC hP) rfl hl.1 rfl (Nat.le_of_ble_eq_true rfl) dL_others_72 ⟨Nat.zero_le _, Nat.zero_le _⟩ hL (fun H locs hP hL => ?_)
    replace hP : P r12.2 H := by first | exact hP | (simpa only [va_up_id] using hP)
    refine lv_iadd hx hb dL_others_75 ?_
    refine lv_istore (lv' := [(5, .int (1 + r12.1)), (4, .int r7), (3, .int r5), (2, .int r3), (1, .int r1.1), (0, .ref (ad 0))]) hx hb dL_others_76 hl (by decide) rfl (fun ls hl => ?_)
    refine lv_aload_n hx hb dL_others_78 rfl (lv_at hl 5 rfl) ?_
    refine g_Law_0 hC hP hx hb hts hown hK mw_12 dL_others_79 ?_
    refine lv_iload hx hb dL_others_82 (lv_at hl 0 rfl) ?_
    obtain ⟨r14, q15, hf⟩ := cx_b hf
    refine cx_callSX (As := [.ref ((adLG ad) 0), .int (1 + r12.1)]) (rest := []) ⟨hx, hb, hml, hown, hts⟩ (c_L_flush (cx_lwG hC r12.2) q15) (vx_cwSW 2 hts (gSWx mw_557 mw_558 mw_2 mw_559) rfl rfl rfl hd_L_flush.2 ⟨Nat.le_of_ble_eq_true rfl, Nat.le_of_ble_eq_true rfl⟩) hK (show P (r12.2.1, r12.2.2) _ by (repeat rw [va_up_id]); exact hP) rfl hl.1 rfl (Nat.le_of_ble_eq_true rfl) dL_others_84 ⟨Nat.zero_le _, Nat.zero_le _⟩ hL (fun H locs hP hL => ?_)
    obtain ⟨z16, ez16, hf⟩ := cx_letE hf
    replace hP : P z16 H := by rw [← ez16]; exact hP
    refine lv_istore (lv' := [(6, .int r14.1), (5, .int (1 + r12.1)), (4, .int r7), (3, .int r5), (2, .int r3), (1, .int r1.1), (0, .ref (ad 0))]) hx hb dL_others_87 hl (by decide) rfl (fun ls hl => ?_)
    refine lv_iload hx hb dL_others_89 (lv_at hl 0 rfl) ?_
    refine lv_iload hx hb dL_others_91 (lv_at hl 1 rfl) ?_
    refine lv_iload_n hx hb dL_others_93 rfl (lv_at hl 3 rfl) ?_
    refine va_mmin hx hb (hml.trans hl.1.symm) hown (hts _ mw_352) (hts _ mw_165) (hts _ mw_131) (hts _ mw_166) (Nat.le_of_ble_eq_true rfl) (Nat.le_of_ble_eq_true rfl) (Nat.zero_le _) (Nat.zero_le _) dL_others_94 ?_
    refine lv_icmp_ne (tgt := 157) hx hb dL_others_97 (by decide) (fun c17 => ?_) (fun c17 => ?_)
    · have hf := cx_f hf c17
      refine lv_iconst (v := 0) hx hb dL_others_157 (by decide) ?_
      cases hf
      exact cx_zret hx hb hr hlocks (Or.inl rfl) hP hL dL_others_158
    · have hf := cx_t hf c17
      refine lv_aload_n hx hb dL_others_100 rfl (lv_at hl 6 rfl) ?_
      refine g_Law_0 hC hP hx hb hts hown hK mw_12 dL_others_101 ?_
      refine lv_bipush (v := 12) hx hb dL_others_104 (by decide) ?_
      obtain ⟨r18, q19, hf⟩ := cx_b hf
      refine cx_callSX (As := [.ref ((adLG ad) 0), .int 12]) (rest := []) ⟨hx, hb, hml, hown, hts⟩ (c_L_count (cx_lwG hC z16) q19) (vx_cwSW 2 hts (gSWx mw_275 mw_276 mw_2 mw_277) rfl rfl rfl hd_L_count.2 ⟨Nat.le_of_ble_eq_true rfl, Nat.le_of_ble_eq_true rfl⟩) hK (show P (z16.1, z16.2) _ by (repeat rw [va_up_id]); exact hP) rfl hl.1 rfl (Nat.le_of_ble_eq_true rfl) dL_others_106 ⟨Nat.zero_le _, Nat.zero_le _⟩ hL (fun H locs hP hL => ?_)
      replace hP : P z16 H := by first | exact hP | (simpa only [va_up_id] using hP)
      refine lv_iload_n hx hb dL_others_109 rfl (lv_at hl 3 rfl) ?_
      refine lv_iload hx hb dL_others_110 (lv_at hl 0 rfl) ?_
      refine lv_isub hx hb dL_others_112 ?_
      refine lv_icmp_ne (tgt := 157) hx hb dL_others_113 (by decide) (fun c20 => ?_) (fun c20 => ?_)
      · have hf := cx_f hf c20
        refine lv_iconst (v := 0) hx hb dL_others_157 (by decide) ?_
        cases hf
        exact cx_zret hx hb hr hlocks (Or.inl rfl) hP hL dL_others_158
      · have hf := cx_t hf c20
        refine lv_aload_n hx hb dL_others_116 rfl (lv_at hl 6 rfl) ?_
        refine g_Law_0 hC hP hx hb hts hown hK mw_12 dL_others_117 ?_
        refine lv_bipush (v := 21) hx hb dL_others_120 (by decide) ?_
        obtain ⟨r21, q22, hf⟩ := cx_b hf
        refine cx_callSX (As := [.ref ((adLG ad) 0), .int 21]) (rest := []) ⟨hx, hb, hml, hown, hts⟩ (c_L_count (cx_lwG hC z16) q22) (vx_cwSW 2 hts (gSWx mw_275 mw_276 mw_2 mw_277) rfl rfl rfl hd_L_count.2 ⟨Nat.le_of_ble_eq_true rfl, Nat.le_of_ble_eq_true rfl⟩) hK (show P (z16.1, z16.2) _ by (repeat rw [va_up_id]); exact hP) rfl hl.1 rfl (Nat.le_of_ble_eq_true rfl) dL_others_122 ⟨Nat.zero_le _, Nat.zero_le _⟩ hL (fun H locs hP hL => ?_)
        replace hP : P z16 H := by first | exact hP | (simpa only [va_up_id] using hP)
        refine lv_iload hx hb dL_others_125 (lv_at hl 2 rfl) ?_
        refine lv_iload hx hb dL_others_127 (lv_at hl 0 rfl) ?_
        refine lv_iadd hx hb dL_others_129 ?_
        refine lv_icmp_ne (tgt := 157) hx hb dL_others_130 (by decide) (fun c23 => ?_) (fun c23 => ?_)
        · have hf := cx_f hf c23
          refine lv_iconst (v := 0) hx hb dL_others_157 (by decide) ?_
          cases hf
          exact cx_zret hx hb hr hlocks (Or.inl rfl) hP hL dL_others_158
        · have hf := cx_t hf c23
          refine lv_aload_n hx hb dL_others_133 rfl (lv_at hl 6 rfl) ?_
          refine g_Law_0 hC hP hx hb hts hown hK mw_12 dL_others_134 ?_
          refine lv_bipush (v := 23) hx hb dL_others_137 (by decide) ?_
          obtain ⟨r24, q25, hf⟩ := cx_b hf
          refine cx_callSX (As := [.ref ((adLG ad) 0), .int 23]) (rest := []) ⟨hx, hb, hml, hown, hts⟩ (c_L_count (cx_lwG hC z16) q25) (vx_cwSW 2 hts (gSWx mw_275 mw_276 mw_2 mw_277) rfl rfl rfl hd_L_count.2 ⟨Nat.le_of_ble_eq_true rfl, Nat.le_of_ble_eq_true rfl⟩) hK (show P (z16.1, z16.2) _ by (repeat rw [va_up_id]); exact hP) rfl hl.1 rfl (Nat.le_of_ble_eq_true rfl) dL_others_139 ⟨Nat.zero_le _, Nat.zero_le _⟩ hL (fun H locs hP hL => ?_)
          replace hP : P z16 H := by first | exact hP | (simpa only [va_up_id] using hP)
          refine lv_bipush (v := 8) hx hb dL_others_142 (by decide) ?_
          refine lv_iload_n hx hb dL_others_144 rfl (lv_at hl 4 rfl) ?_
          refine lv_iconst (v := 1) hx hb dL_others_145 (by decide) ?_
          refine lv_iadd hx hb dL_others_146 ?_
          refine va_mmin hx hb (hml.trans hl.1.symm) hown (hts _ mw_352) (hts _ mw_165) (hts _ mw_131) (hts _ mw_166) (Nat.le_of_ble_eq_true rfl) (Nat.le_of_ble_eq_true rfl) (Nat.zero_le _) (Nat.zero_le _) dL_others_147 ?_
          refine lv_icmp_ne (tgt := 157) hx hb dL_others_150 (by decide) (fun c26 => ?_) (fun c26 => ?_)
          · have hf := cx_f hf c26
            refine lv_iconst (v := 0) hx hb dL_others_157 (by decide) ?_
            cases hf
            exact cx_zret hx hb hr hlocks (Or.inl rfl) hP hL dL_others_158
          · have hf := cx_t hf c26
            refine lv_iconst (v := 1) hx hb dL_others_153 (by decide) ?_
            refine lv_goto (tgt := 158) hx hb dL_others_154 (by decide) ?_
            cases hf
            exact cx_zret hx hb hr hlocks (Or.inr rfl) hP hL dL_others_158
  · have hf := cx_f hf c11
    by_cases c27 : r9.1 = 1
    · have hf := cx_t hf c27
      refine lv_tableIn (off := 118) (tgt := 159) hx hb dL_others_41 (by rw [c27]; decide) (by rw [c27]; decide) (by rw [c27]; rfl) (by decide) ?_
      refine lv_aload_n hx hb dL_others_159 rfl (lv_at hl 4 rfl) ?_
      refine g_Law_0 hC hP hx hb hts hown hK mw_12 dL_others_160 ?_
      refine lv_iload_n hx hb dL_others_163 rfl (lv_at hl 3 rfl) ?_
      refine lv_iconst (v := 0) hx hb dL_others_164 (by decide) ?_
      obtain ⟨r28, q29, hf⟩ := cx_b hf
      refine cx_callSX (As := [.ref ((adLG ad) 0), .int r1.1, .int 0]) (rest := []) ⟨hx, hb, hml, hown, hts⟩ (c_L_block (cx_lwG hC r9.2) q29) (vx_cwSW 3 hts (gSWx mw_353 mw_354 mw_2 mw_355) rfl rfl rfl hd_L_block.2 ⟨Nat.le_of_ble_eq_true rfl, Nat.le_of_ble_eq_true rfl⟩) hK (show P (r9.2.1, r9.2.2) _ by (repeat rw [va_up_id]); exact hP) rfl hl.1 rfl (Nat.le_of_ble_eq_true rfl) dL_others_165 ⟨Nat.zero_le _, Nat.zero_le _⟩ hL (fun H locs hP hL => ?_)
      replace hP : P r9.2 H := by first | exact hP | (simpa only [va_up_id] using hP)
      refine lv_istore (lv' := [(5, .int r28), (4, .int r7), (3, .int r5), (2, .int r3), (1, .int r1.1), (0, .ref (ad 0))]) hx hb dL_others_168 hl (by decide) rfl (fun ls hl => ?_)
      refine lv_aload_n hx hb dL_others_170 rfl (lv_at hl 5 rfl) ?_
      refine g_Law_0 hC hP hx hb hts hown hK mw_12 dL_others_171 ?_
      refine lv_iload_n hx hb dL_others_174 rfl (lv_at hl 4 rfl) ?_
      obtain ⟨r30, q31, hf⟩ := cx_b hf
      refine cx_callSX (As := [.ref ((adLG ad) 0), .int r1.1]) (rest := []) ⟨hx, hb, hml, hown, hts⟩ (c_L_forget (cx_lwG hC r9.2) q31) (vx_cwSW 2 hts (gSWx mw_565 mw_566 mw_2 mw_567) rfl rfl rfl hd_L_forget.2 ⟨Nat.le_of_ble_eq_true rfl, Nat.le_of_ble_eq_true rfl⟩) hK (show P (r9.2.1, r9.2.2) _ by (repeat rw [va_up_id]); exact hP) rfl hl.1 rfl (Nat.le_of_ble_eq_true rfl) dL_others_175 ⟨Nat.zero_le _, Nat.zero_le _⟩ hL (fun H locs hP hL => ?_)
      obtain ⟨z32, ez32, hf⟩ := cx_letE hf
      replace hP : P z32 H := by rw [← ez32]; exact hP
      refine lv_istore (lv' := [(6, .int r30.1), (5, .int r28), (4, .int r7), (3, .int r5), (2, .int r3), (1, .int r1.1), (0, .ref (ad 0))]) hx hb dL_others_178 hl (by decide) rfl (fun ls hl => ?_)
      refine lv_iload hx hb dL_others_180 (lv_at hl 1 rfl) ?_
      refine lv_if_lt (tgt := 201) hx hb dL_others_182 (by decide) (fun c33 => ?_) (fun c33 => ?_)
      · have hf := cx_t hf c33
        refine lv_iload hx hb dL_others_201 (lv_at hl 0 rfl) ?_
        refine lv_iload hx hb dL_others_203 (lv_at hl 1 rfl) ?_
        refine lv_if_ge (tgt := 212) hx hb dL_others_205 (by decide) (fun c34 => ?_) (fun c34 => ?_)
        · have hf := cx_t hf c34
          refine lv_iconst (v := 1) hx hb dL_others_212 (by decide) ?_
          exact w_L_others_b213 C0 hZ hC z32 r1.1 r7 1 r30.1 _ _ _ hf hP hL (lv_sub hl [6, 5, 2] rfl)
        · have hf := cx_f hf c34
          refine lv_iconst (v := 0) hx hb dL_others_208 (by decide) ?_
          refine lv_goto (tgt := 213) hx hb dL_others_209 (by decide) ?_
          exact w_L_others_b213 C0 hZ hC z32 r1.1 r7 0 r30.1 _ _ _ hf hP hL (lv_sub hl [6, 5, 2] rfl)
      · have hf := cx_f hf c33
        refine lv_aload_n hx hb dL_others_185 rfl (lv_at hl 6 rfl) ?_
        refine g_Law_3 hC hP hx hb hts hown hK mw_14 dL_others_186 ?_
        refine lv_iload_n hx hb dL_others_189 rfl (lv_at hl 5 rfl) ?_
        refine lv_aload_n hx hb dL_others_190 rfl (lv_at hl 6 rfl) ?_
        refine g_Law_0 hC hP hx hb hts hown hK mw_12 dL_others_191 ?_
        refine lv_iload_n hx hb dL_others_194 rfl (lv_at hl 5 rfl) ?_
        refine lv_bipush (v := 6) hx hb dL_others_195 (by decide) ?_
        obtain ⟨r35, q36, hf⟩ := cx_b hf
        refine cx_callSX (As := [.ref ((adLG ad) 0), .int r1.1, .int 6]) (rest := [.int r1.1, .ref (ad 1)]) ⟨hx, hb, hml, hown, hts⟩ (c_L_block (cx_lwG hC z32) q36) (vx_cwSW 3 hts (gSWx mw_353 mw_354 mw_2 mw_355) rfl rfl rfl hd_L_block.2 ⟨Nat.le_of_ble_eq_true rfl, Nat.le_of_ble_eq_true rfl⟩) hK (show P (z32.1, z32.2) _ by (repeat rw [va_up_id]); exact hP) rfl hl.1 rfl (Nat.le_of_ble_eq_true rfl) dL_others_197 ⟨Nat.zero_le _, Nat.zero_le _⟩ hL (fun H locs hP hL => ?_)
        replace hP : P z32 H := by first | exact hP | (simpa only [va_up_id] using hP)
        obtain ⟨hi37, hf⟩ := gdE hf
        obtain ⟨z38, ez38, hf⟩ := cx_letE hf
        refine pa_Law_3 hC hP hx hb hK hi37 dL_others_200 hL (fun H locs hP hL => ?_)
        replace hP : P z38 H := by rw [← ez38]; exact hP
        refine lv_iload hx hb dL_others_201 (lv_at hl 0 rfl) ?_
        refine lv_iload hx hb dL_others_203 (lv_at hl 1 rfl) ?_
        refine lv_if_ge (tgt := 212) hx hb dL_others_205 (by decide) (fun c39 => ?_) (fun c39 => ?_)
        · have hf := cx_t hf c39
          refine lv_iconst (v := 1) hx hb dL_others_212 (by decide) ?_
          exact w_L_others_b213 C0 hZ hC z38 r1.1 r7 1 r30.1 _ _ _ hf hP hL (lv_sub hl [6, 5, 2] rfl)
        · have hf := cx_f hf c39
          refine lv_iconst (v := 0) hx hb dL_others_208 (by decide) ?_
          refine lv_goto (tgt := 213) hx hb dL_others_209 (by decide) ?_
          exact w_L_others_b213 C0 hZ hC z38 r1.1 r7 0 r30.1 _ _ _ hf hP hL (lv_sub hl [6, 5, 2] rfl)
    · have hf := cx_f hf c27
      by_cases c40 : r9.1 = 2
      · have hf := cx_t hf c40
        refine lv_tableIn (off := 221) (tgt := 262) hx hb dL_others_41 (by rw [c40]; decide) (by rw [c40]; decide) (by rw [c40]; rfl) (by decide) ?_
        refine lv_aload_n hx hb dL_others_262 rfl (lv_at hl 4 rfl) ?_
        refine g_Law_0 hC hP hx hb hts hown hK mw_12 dL_others_263 ?_
        refine lv_iload_n hx hb dL_others_266 rfl (lv_at hl 3 rfl) ?_
        refine lv_iconst (v := 2) hx hb dL_others_267 (by decide) ?_
        obtain ⟨r41, q42, hf⟩ := cx_b hf
        refine cx_callSX (As := [.ref ((adLG ad) 0), .int r1.1, .int 2]) (rest := []) ⟨hx, hb, hml, hown, hts⟩ (c_L_block (cx_lwG hC r9.2) q42) (vx_cwSW 3 hts (gSWx mw_353 mw_354 mw_2 mw_355) rfl rfl rfl hd_L_block.2 ⟨Nat.le_of_ble_eq_true rfl, Nat.le_of_ble_eq_true rfl⟩) hK (show P (r9.2.1, r9.2.2) _ by (repeat rw [va_up_id]); exact hP) rfl hl.1 rfl (Nat.le_of_ble_eq_true rfl) dL_others_268 ⟨Nat.zero_le _, Nat.zero_le _⟩ hL (fun H locs hP hL => ?_)
        replace hP : P r9.2 H := by first | exact hP | (simpa only [va_up_id] using hP)
        refine lv_istore (lv' := [(5, .int r41), (4, .int r7), (3, .int r5), (2, .int r3), (1, .int r1.1), (0, .ref (ad 0))]) hx hb dL_others_271 hl (by decide) rfl (fun ls hl => ?_)
        refine lv_aload_n hx hb dL_others_273 rfl (lv_at hl 5 rfl) ?_
        refine g_Law_0 hC hP hx hb hts hown hK mw_12 dL_others_274 ?_
        refine lv_iload_n hx hb dL_others_277 rfl (lv_at hl 4 rfl) ?_
        refine lv_bipush (v := 6) hx hb dL_others_278 (by decide) ?_
        obtain ⟨r43, q44, hf⟩ := cx_b hf
        refine cx_callSX (As := [.ref ((adLG ad) 0), .int r1.1, .int 6]) (rest := []) ⟨hx, hb, hml, hown, hts⟩ (c_L_block (cx_lwG hC r9.2) q44) (vx_cwSW 3 hts (gSWx mw_353 mw_354 mw_2 mw_355) rfl rfl rfl hd_L_block.2 ⟨Nat.le_of_ble_eq_true rfl, Nat.le_of_ble_eq_true rfl⟩) hK (show P (r9.2.1, r9.2.2) _ by (repeat rw [va_up_id]); exact hP) rfl hl.1 rfl (Nat.le_of_ble_eq_true rfl) dL_others_280 ⟨Nat.zero_le _, Nat.zero_le _⟩ hL (fun H locs hP hL => ?_)
        replace hP : P r9.2 H := by first | exact hP | (simpa only [va_up_id] using hP)
        refine lv_istore (lv' := [(6, .int r43), (5, .int r41), (4, .int r7), (3, .int r5), (2, .int r3), (1, .int r1.1), (0, .ref (ad 0))]) hx hb dL_others_283 hl (by decide) rfl (fun ls hl => ?_)
        refine lv_aload_n hx hb dL_others_285 rfl (lv_at hl 6 rfl) ?_
        refine g_Law_0 hC hP hx hb hts hown hK mw_12 dL_others_286 ?_
        refine lv_iconst (v := 5) hx hb dL_others_289 (by decide) ?_
        obtain ⟨r45, q46, hf⟩ := cx_b hf
        refine cx_callSX (As := [.ref ((adLG ad) 0), .int 5]) (rest := []) ⟨hx, hb, hml, hown, hts⟩ (c_L_count (cx_lwG hC r9.2) q46) (vx_cwSW 2 hts (gSWx mw_275 mw_276 mw_2 mw_277) rfl rfl rfl hd_L_count.2 ⟨Nat.le_of_ble_eq_true rfl, Nat.le_of_ble_eq_true rfl⟩) hK (show P (r9.2.1, r9.2.2) _ by (repeat rw [va_up_id]); exact hP) rfl hl.1 rfl (Nat.le_of_ble_eq_true rfl) dL_others_290 ⟨Nat.zero_le _, Nat.zero_le _⟩ hL (fun H locs hP hL => ?_)
        replace hP : P r9.2 H := by first | exact hP | (simpa only [va_up_id] using hP)
        refine lv_istore (lv' := [(7, .int r45), (6, .int r43), (5, .int r41), (4, .int r7), (3, .int r5), (2, .int r3), (1, .int r1.1), (0, .ref (ad 0))]) hx hb dL_others_293 hl (by decide) rfl (fun ls hl => ?_)
        refine lv_aload_n hx hb dL_others_295 rfl (lv_at hl 7 rfl) ?_
        refine g_Law_0 hC hP hx hb hts hown hK mw_12 dL_others_296 ?_
        refine lv_iload_n hx hb dL_others_299 rfl (lv_at hl 6 rfl) ?_
        refine lv_iconst (v := 0) hx hb dL_others_300 (by decide) ?_
        obtain ⟨r47, q48, hf⟩ := cx_b hf
        refine cx_callSX (As := [.ref ((adLG ad) 0), .int r1.1, .int 0]) (rest := []) ⟨hx, hb, hml, hown, hts⟩ (c_L_block (cx_lwG hC r9.2) q48) (vx_cwSW 3 hts (gSWx mw_353 mw_354 mw_2 mw_355) rfl rfl rfl hd_L_block.2 ⟨Nat.le_of_ble_eq_true rfl, Nat.le_of_ble_eq_true rfl⟩) hK (show P (r9.2.1, r9.2.2) _ by (repeat rw [va_up_id]); exact hP) rfl hl.1 rfl (Nat.le_of_ble_eq_true rfl) dL_others_301 ⟨Nat.zero_le _, Nat.zero_le _⟩ hL (fun H locs hP hL => ?_)
        replace hP : P r9.2 H := by first | exact hP | (simpa only [va_up_id] using hP)
        refine lv_istore (lv' := [(8, .int r47), (7, .int r45), (6, .int r43), (5, .int r41), (4, .int r7), (3, .int r5), (2, .int r3), (1, .int r1.1), (0, .ref (ad 0))]) hx hb dL_others_304 hl (by decide) rfl (fun ls hl => ?_)
        refine lv_aload_n hx hb dL_others_306 rfl (lv_at hl 8 rfl) ?_
        refine g_Law_0 hC hP hx hb hts hown hK mw_12 dL_others_307 ?_
        refine lv_iload_n hx hb dL_others_310 rfl (lv_at hl 7 rfl) ?_
        refine lv_iconst (v := 1) hx hb dL_others_311 (by decide) ?_
        obtain ⟨r49, q50, hf⟩ := cx_b hf
        refine cx_callSX (As := [.ref ((adLG ad) 0), .int r1.1, .int 1]) (rest := []) ⟨hx, hb, hml, hown, hts⟩ (c_L_block (cx_lwG hC r9.2) q50) (vx_cwSW 3 hts (gSWx mw_353 mw_354 mw_2 mw_355) rfl rfl rfl hd_L_block.2 ⟨Nat.le_of_ble_eq_true rfl, Nat.le_of_ble_eq_true rfl⟩) hK (show P (r9.2.1, r9.2.2) _ by (repeat rw [va_up_id]); exact hP) rfl hl.1 rfl (Nat.le_of_ble_eq_true rfl) dL_others_312 ⟨Nat.zero_le _, Nat.zero_le _⟩ hL (fun H locs hP hL => ?_)
        replace hP : P r9.2 H := by first | exact hP | (simpa only [va_up_id] using hP)
        refine lv_istore (lv' := [(9, .int r49), (8, .int r47), (7, .int r45), (6, .int r43), (5, .int r41), (4, .int r7), (3, .int r5), (2, .int r3), (1, .int r1.1), (0, .ref (ad 0))]) hx hb dL_others_315 hl (by decide) rfl (fun ls hl => ?_)
        refine lv_aload_n hx hb dL_others_317 rfl (lv_at hl 9 rfl) ?_
        refine g_Law_0 hC hP hx hb hts hown hK mw_12 dL_others_318 ?_
        refine lv_iconst (v := 0) hx hb dL_others_321 (by decide) ?_
        refine lv_iload_n hx hb dL_others_322 rfl (lv_at hl 8 rfl) ?_
        refine lv_aload_n hx hb dL_others_323 rfl (lv_at hl 9 rfl) ?_
        refine lv_sipush (v := 1000) hx hb dL_others_324 (by decide) ?_
        obtain ⟨r51, q52, hf⟩ := cx_b hf
        refine cx_callVZ (As := [.int 1000]) (rest := [.int r1.1, .int 0, .ref ((adLG ad) 0)]) ⟨hx, hb, hml, hown, hts⟩ (c_L_draw hC (z := z) q52) (cwV 1 hts (gV mw_124 mw_125 mw_126 mw_2 mw_127) rfl rfl rfl hd_L_draw ⟨Nat.le_of_ble_eq_true rfl, Nat.le_of_ble_eq_true rfl⟩) hK hZ hP rfl (at_Law hC hP) rfl hl.1 rfl (Nat.le_of_ble_eq_true rfl) dL_others_327 ⟨Nat.zero_le _, Nat.zero_le _⟩ hL (fun H locs hP hL => ?_)
        replace hP : P r51.2 H := by first | exact hP | (simpa only [va_up_id] using hP)
        obtain ⟨r53, q54, hf⟩ := cx_b hf
        refine cx_callSX (As := [.ref ((adLG ad) 0), .int 0, .int r1.1, .int r51.1]) (rest := []) ⟨hx, hb, hml, hown, hts⟩ (c_L_write (cx_lwG hC r51.2) q54) (vx_cwSW 4 hts (gSWx mw_529 mw_530 mw_2 mw_531) rfl rfl rfl hd_L_write.2 ⟨Nat.le_of_ble_eq_true rfl, Nat.le_of_ble_eq_true rfl⟩) hK (show P (r51.2.1, r51.2.2) _ by (repeat rw [va_up_id]); exact hP) rfl hl.1 rfl (Nat.le_of_ble_eq_true rfl) dL_others_330 ⟨Nat.zero_le _, Nat.zero_le _⟩ hL (fun H locs hP hL => ?_)
        obtain ⟨z55, ez55, hf⟩ := cx_letE hf
        replace hP : P z55 H := by rw [← ez55]; exact hP
        refine lv_if_lt (tgt := 352) hx hb dL_others_333 (by decide) (fun c56 => ?_) (fun c56 => ?_)
        · have hf := cx_t hf c56
          refine lv_iconst (v := 0) hx hb dL_others_352 (by decide) ?_
          cases hf
          exact cx_zret hx hb hr hlocks (Or.inl rfl) hP hL dL_others_353
        · have hf := cx_f hf c56
          refine lv_aload_n hx hb dL_others_336 rfl (lv_at hl 9 rfl) ?_
          refine g_Law_0 hC hP hx hb hts hown hK mw_12 dL_others_337 ?_
          obtain ⟨r57, q58, hf⟩ := cx_b hf
          refine cx_callV (As := []) (rest := []) ⟨hx, hb, hml, hown, hts⟩ (c_X8_undo (cx_lwG hC z55) q58) (cwV 0 hts (gV mw_576 mw_577 mw_578 mw_11 mw_579) rfl rfl rfl hd_X8_undo ⟨Nat.le_of_ble_eq_true rfl, Nat.le_of_ble_eq_true rfl⟩) hK (show P (z55.1, z55.2) _ by (repeat rw [va_up_id]); exact hP) rfl (at_GL (cx_lwG hC z55) (show P (z55.1, z55.2) _ by (repeat rw [va_up_id]); exact hP)) rfl hl.1 rfl (Nat.le_of_ble_eq_true rfl) dL_others_340 ⟨Nat.zero_le _, Nat.zero_le _⟩ hL (fun H locs hP hL => ?_)
          obtain ⟨z59, ez59, hf⟩ := cx_letE hf
          replace hP : P z59 H := by rw [← ez59]; exact hP
          refine lv_bipush (v := 7) hx hb dL_others_343 (by decide) ?_
          refine lv_iload_n hx hb dL_others_345 rfl (lv_at hl 7 rfl) ?_
          refine va_mmin hx hb (hml.trans hl.1.symm) hown (hts _ mw_352) (hts _ mw_165) (hts _ mw_131) (hts _ mw_166) (Nat.le_of_ble_eq_true rfl) (Nat.le_of_ble_eq_true rfl) (Nat.zero_le _) (Nat.zero_le _) dL_others_346 ?_
          refine lv_icmp_eq (tgt := 354) hx hb dL_others_349 (by decide) (fun c60 => ?_) (fun c60 => ?_)
          · have hf := cx_t hf c60
            refine lv_aload_n hx hb dL_others_354 rfl (lv_at hl 9 rfl) ?_
            refine g_Law_0 hC hP hx hb hts hown hK mw_12 dL_others_355 ?_
            refine lv_iload_n hx hb dL_others_358 rfl (lv_at hl 8 rfl) ?_
            refine lv_iconst (v := 2) hx hb dL_others_359 (by decide) ?_
            obtain ⟨r61, q62, hf⟩ := cx_b hf
            refine cx_callSX (As := [.ref ((adLG ad) 0), .int r1.1, .int 2]) (rest := []) ⟨hx, hb, hml, hown, hts⟩ (c_L_block (cx_lwG hC z59) q62) (vx_cwSW 3 hts (gSWx mw_353 mw_354 mw_2 mw_355) rfl rfl rfl hd_L_block.2 ⟨Nat.le_of_ble_eq_true rfl, Nat.le_of_ble_eq_true rfl⟩) hK (show P (z59.1, z59.2) _ by (repeat rw [va_up_id]); exact hP) rfl hl.1 rfl (Nat.le_of_ble_eq_true rfl) dL_others_360 ⟨Nat.zero_le _, Nat.zero_le _⟩ hL (fun H locs hP hL => ?_)
            replace hP : P z59 H := by first | exact hP | (simpa only [va_up_id] using hP)
            refine lv_iload hx hb dL_others_363 (lv_at hl 4 rfl) ?_
            refine lv_icmp_ne (tgt := 441) hx hb dL_others_365 (by decide) (fun c63 => ?_) (fun c63 => ?_)
            · have hf := cx_f hf c63
              refine lv_iconst (v := 0) hx hb dL_others_441 (by decide) ?_
              cases hf
              exact cx_zret hx hb hr hlocks (Or.inl rfl) hP hL dL_others_442
            · have hf := cx_t hf c63
              refine lv_aload_n hx hb dL_others_368 rfl (lv_at hl 9 rfl) ?_
              refine g_Law_0 hC hP hx hb hts hown hK mw_12 dL_others_369 ?_
              refine lv_iload_n hx hb dL_others_372 rfl (lv_at hl 8 rfl) ?_
              refine lv_bipush (v := 6) hx hb dL_others_373 (by decide) ?_
              obtain ⟨r64, q65, hf⟩ := cx_b hf
              refine cx_callSX (As := [.ref ((adLG ad) 0), .int r1.1, .int 6]) (rest := []) ⟨hx, hb, hml, hown, hts⟩ (c_L_block (cx_lwG hC z59) q65) (vx_cwSW 3 hts (gSWx mw_353 mw_354 mw_2 mw_355) rfl rfl rfl hd_L_block.2 ⟨Nat.le_of_ble_eq_true rfl, Nat.le_of_ble_eq_true rfl⟩) hK (show P (z59.1, z59.2) _ by (repeat rw [va_up_id]); exact hP) rfl hl.1 rfl (Nat.le_of_ble_eq_true rfl) dL_others_375 ⟨Nat.zero_le _, Nat.zero_le _⟩ hL (fun H locs hP hL => ?_)
              replace hP : P z59 H := by first | exact hP | (simpa only [va_up_id] using hP)
              refine lv_iload hx hb dL_others_378 (lv_at hl 3 rfl) ?_
              refine lv_icmp_ne (tgt := 441) hx hb dL_others_380 (by decide) (fun c66 => ?_) (fun c66 => ?_)
              · have hf := cx_f hf c66
                refine lv_iconst (v := 0) hx hb dL_others_441 (by decide) ?_
                cases hf
                exact cx_zret hx hb hr hlocks (Or.inl rfl) hP hL dL_others_442
              · have hf := cx_t hf c66
                refine lv_aload_n hx hb dL_others_383 rfl (lv_at hl 9 rfl) ?_
                refine g_Law_0 hC hP hx hb hts hown hK mw_12 dL_others_384 ?_
                refine lv_iconst (v := 5) hx hb dL_others_387 (by decide) ?_
                obtain ⟨r67, q68, hf⟩ := cx_b hf
                refine cx_callSX (As := [.ref ((adLG ad) 0), .int 5]) (rest := []) ⟨hx, hb, hml, hown, hts⟩ (c_L_count (cx_lwG hC z59) q68) (vx_cwSW 2 hts (gSWx mw_275 mw_276 mw_2 mw_277) rfl rfl rfl hd_L_count.2 ⟨Nat.le_of_ble_eq_true rfl, Nat.le_of_ble_eq_true rfl⟩) hK (show P (z59.1, z59.2) _ by (repeat rw [va_up_id]); exact hP) rfl hl.1 rfl (Nat.le_of_ble_eq_true rfl) dL_others_388 ⟨Nat.zero_le _, Nat.zero_le _⟩ hL (fun H locs hP hL => ?_)
                replace hP : P z59 H := by first | exact hP | (simpa only [va_up_id] using hP)
                refine lv_iload hx hb dL_others_391 (lv_at hl 2 rfl) ?_
                refine lv_icmp_ne (tgt := 441) hx hb dL_others_393 (by decide) (fun c69 => ?_) (fun c69 => ?_)
                · have hf := cx_f hf c69
                  refine lv_iconst (v := 0) hx hb dL_others_441 (by decide) ?_
                  cases hf
                  exact cx_zret hx hb hr hlocks (Or.inl rfl) hP hL dL_others_442
                · have hf := cx_t hf c69
                  refine lv_aload_n hx hb dL_others_396 rfl (lv_at hl 9 rfl) ?_
                  refine g_Law_0 hC hP hx hb hts hown hK mw_12 dL_others_397 ?_
                  refine lv_iload_n hx hb dL_others_400 rfl (lv_at hl 8 rfl) ?_
                  refine lv_iconst (v := 0) hx hb dL_others_401 (by decide) ?_
                  obtain ⟨r70, q71, hf⟩ := cx_b hf
                  refine cx_callSX (As := [.ref ((adLG ad) 0), .int r1.1, .int 0]) (rest := []) ⟨hx, hb, hml, hown, hts⟩ (c_L_block (cx_lwG hC z59) q71) (vx_cwSW 3 hts (gSWx mw_353 mw_354 mw_2 mw_355) rfl rfl rfl hd_L_block.2 ⟨Nat.le_of_ble_eq_true rfl, Nat.le_of_ble_eq_true rfl⟩) hK (show P (z59.1, z59.2) _ by (repeat rw [va_up_id]); exact hP) rfl hl.1 rfl (Nat.le_of_ble_eq_true rfl) dL_others_402 ⟨Nat.zero_le _, Nat.zero_le _⟩ hL (fun H locs hP hL => ?_)
                  replace hP : P z59 H := by first | exact hP | (simpa only [va_up_id] using hP)
                  refine lv_iload hx hb dL_others_405 (lv_at hl 1 rfl) ?_
                  refine lv_icmp_ne (tgt := 441) hx hb dL_others_407 (by decide) (fun c72 => ?_) (fun c72 => ?_)
                  · have hf := cx_f hf c72
                    refine lv_iconst (v := 0) hx hb dL_others_441 (by decide) ?_
                    cases hf
                    exact cx_zret hx hb hr hlocks (Or.inl rfl) hP hL dL_others_442
                  · have hf := cx_t hf c72
                    refine lv_aload_n hx hb dL_others_410 rfl (lv_at hl 9 rfl) ?_
                    refine g_Law_0 hC hP hx hb hts hown hK mw_12 dL_others_411 ?_
                    refine lv_iload_n hx hb dL_others_414 rfl (lv_at hl 8 rfl) ?_
                    refine lv_iconst (v := 1) hx hb dL_others_415 (by decide) ?_
                    obtain ⟨r73, q74, hf⟩ := cx_b hf
                    refine cx_callSX (As := [.ref ((adLG ad) 0), .int r1.1, .int 1]) (rest := []) ⟨hx, hb, hml, hown, hts⟩ (c_L_block (cx_lwG hC z59) q74) (vx_cwSW 3 hts (gSWx mw_353 mw_354 mw_2 mw_355) rfl rfl rfl hd_L_block.2 ⟨Nat.le_of_ble_eq_true rfl, Nat.le_of_ble_eq_true rfl⟩) hK (show P (z59.1, z59.2) _ by (repeat rw [va_up_id]); exact hP) rfl hl.1 rfl (Nat.le_of_ble_eq_true rfl) dL_others_416 ⟨Nat.zero_le _, Nat.zero_le _⟩ hL (fun H locs hP hL => ?_)
                    replace hP : P z59 H := by first | exact hP | (simpa only [va_up_id] using hP)
                    refine lv_iload hx hb dL_others_419 (lv_at hl 0 rfl) ?_
                    refine lv_icmp_ne (tgt := 441) hx hb dL_others_421 (by decide) (fun c75 => ?_) (fun c75 => ?_)
                    · have hf := cx_f hf c75
                      refine lv_iconst (v := 0) hx hb dL_others_441 (by decide) ?_
                      cases hf
                      exact cx_zret hx hb hr hlocks (Or.inl rfl) hP hL dL_others_442
                    · have hf := cx_t hf c75
                      refine lv_aload_n hx hb dL_others_424 rfl (lv_at hl 9 rfl) ?_
                      refine g_Law_0 hC hP hx hb hts hown hK mw_12 dL_others_425 ?_
                      refine lv_bipush (v := 12) hx hb dL_others_428 (by decide) ?_
                      obtain ⟨r76, q77, hf⟩ := cx_b hf
                      refine cx_callSX (As := [.ref ((adLG ad) 0), .int 12]) (rest := []) ⟨hx, hb, hml, hown, hts⟩ (c_L_count (cx_lwG hC z59) q77) (vx_cwSW 2 hts (gSWx mw_275 mw_276 mw_2 mw_277) rfl rfl rfl hd_L_count.2 ⟨Nat.le_of_ble_eq_true rfl, Nat.le_of_ble_eq_true rfl⟩) hK (show P (z59.1, z59.2) _ by (repeat rw [va_up_id]); exact hP) rfl hl.1 rfl (Nat.le_of_ble_eq_true rfl) dL_others_430 ⟨Nat.zero_le _, Nat.zero_le _⟩ hL (fun H locs hP hL => ?_)
                      replace hP : P z59 H := by first | exact hP | (simpa only [va_up_id] using hP)
                      refine lv_iload_n hx hb dL_others_433 rfl (lv_at hl 6 rfl) ?_
                      refine lv_icmp_ne (tgt := 441) hx hb dL_others_434 (by decide) (fun c78 => ?_) (fun c78 => ?_)
                      · have hf := cx_f hf c78
                        refine lv_iconst (v := 0) hx hb dL_others_441 (by decide) ?_
                        cases hf
                        exact cx_zret hx hb hr hlocks (Or.inl rfl) hP hL dL_others_442
                      · have hf := cx_t hf c78
                        refine lv_iconst (v := 1) hx hb dL_others_437 (by decide) ?_
                        refine lv_goto (tgt := 442) hx hb dL_others_438 (by decide) ?_
                        cases hf
                        exact cx_zret hx hb hr hlocks (Or.inr rfl) hP hL dL_others_442
          · have hf := cx_f hf c60
            refine lv_iconst (v := 0) hx hb dL_others_352 (by decide) ?_
            cases hf
            exact cx_zret hx hb hr hlocks (Or.inl rfl) hP hL dL_others_353
      · have hf := cx_f hf c40
        refine lv_tableOut (tgt := 443) hx hb dL_others_41 (by have := lv_neT (a := 0) c11 (by decide); have := lv_neT (a := 1) c27 (by decide); have := lv_neT (a := 2) c40 (by decide); omega) (by decide) ?_
        refine lv_aload_n hx hb dL_others_443 rfl (lv_at hl 4 rfl) ?_
        refine lv_aload_n hx hb dL_others_444 rfl (lv_at hl 4 rfl) ?_
        refine lv_sipush (v := 176) hx hb dL_others_445 (by decide) ?_
        obtain ⟨r79, q80, hf⟩ := cx_b hf
        refine cx_callVZ (As := [.int 176]) (rest := [.ref (ad 0)]) ⟨hx, hb, hml, hown, hts⟩ (c_L_draw hC (z := z) q80) (cwV 1 hts (gV mw_124 mw_125 mw_126 mw_2 mw_127) rfl rfl rfl hd_L_draw ⟨Nat.le_of_ble_eq_true rfl, Nat.le_of_ble_eq_true rfl⟩) hK hZ hP rfl (at_Law hC hP) rfl hl.1 rfl (Nat.le_of_ble_eq_true rfl) dL_others_448 ⟨Nat.zero_le _, Nat.zero_le _⟩ hL (fun H locs hP hL => ?_)
        replace hP : P r79.2 H := by first | exact hP | (simpa only [va_up_id] using hP)
        obtain ⟨z81, ez81, hf⟩ := cx_letE hf
        refine p_Law_4 hC hP hx hb hts hown hK mw_123 dL_others_451 hL (fun H locs hP hL => ?_)
        replace hP : P z81 H := by rw [← ez81]; exact hP
        refine lv_aload_n hx hb dL_others_454 rfl (lv_at hl 4 rfl) ?_
        refine g_Law_0 hC hP hx hb hts hown hK mw_12 dL_others_455 ?_
        refine lv_aload_n hx hb dL_others_458 rfl (lv_at hl 4 rfl) ?_
        refine lv_aload_n hx hb dL_others_459 rfl (lv_at hl 4 rfl) ?_
        refine g_Law_0 hC hP hx hb hts hown hK mw_12 dL_others_460 ?_
        refine lv_bipush (v := 6) hx hb dL_others_463 (by decide) ?_
        obtain ⟨r82, q83, hf⟩ := cx_b hf
        refine cx_callSX (As := [.ref ((adLG ad) 0), .int 6]) (rest := [.ref (ad 0), .ref ((adLG ad) 0)]) ⟨hx, hb, hml, hown, hts⟩ (c_L_count (cx_lwG hC z81) q83) (vx_cwSW 2 hts (gSWx mw_275 mw_276 mw_2 mw_277) rfl rfl rfl hd_L_count.2 ⟨Nat.le_of_ble_eq_true rfl, Nat.le_of_ble_eq_true rfl⟩) hK (show P (z81.1, z81.2) _ by (repeat rw [va_up_id]); exact hP) rfl hl.1 rfl (Nat.le_of_ble_eq_true rfl) dL_others_465 ⟨Nat.zero_le _, Nat.zero_le _⟩ hL (fun H locs hP hL => ?_)
        replace hP : P z81 H := by first | exact hP | (simpa only [va_up_id] using hP)
        obtain ⟨r84, q85, hf⟩ := cx_b hf
        refine cx_callVZ (As := [.int r82]) (rest := [.ref ((adLG ad) 0)]) ⟨hx, hb, hml, hown, hts⟩ (c_L_draw hC (z := z) q85) (cwV 1 hts (gV mw_124 mw_125 mw_126 mw_2 mw_127) rfl rfl rfl hd_L_draw ⟨Nat.le_of_ble_eq_true rfl, Nat.le_of_ble_eq_true rfl⟩) hK hZ hP rfl (at_Law hC hP) rfl hl.1 rfl (Nat.le_of_ble_eq_true rfl) dL_others_468 ⟨Nat.zero_le _, Nat.zero_le _⟩ hL (fun H locs hP hL => ?_)
        replace hP : P r84.2 H := by first | exact hP | (simpa only [va_up_id] using hP)
        refine lv_iconst (v := 1) hx hb dL_others_471 (by decide) ?_
        refine lv_aload_n hx hb dL_others_472 rfl (lv_at hl 4 rfl) ?_
        refine lv_bipush (v := 9) hx hb dL_others_473 (by decide) ?_
        obtain ⟨r86, q87, hf⟩ := cx_b hf
        refine cx_callVZ (As := [.int 9]) (rest := [.int 1, .int r84.1, .ref ((adLG ad) 0)]) ⟨hx, hb, hml, hown, hts⟩ (c_L_draw hC (z := z) q87) (cwV 1 hts (gV mw_124 mw_125 mw_126 mw_2 mw_127) rfl rfl rfl hd_L_draw ⟨Nat.le_of_ble_eq_true rfl, Nat.le_of_ble_eq_true rfl⟩) hK hZ hP rfl (at_Law hC hP) rfl hl.1 rfl (Nat.le_of_ble_eq_true rfl) dL_others_475 ⟨Nat.zero_le _, Nat.zero_le _⟩ hL (fun H locs hP hL => ?_)
        replace hP : P r86.2 H := by first | exact hP | (simpa only [va_up_id] using hP)
        refine lv_iadd hx hb dL_others_478 ?_
        obtain ⟨r88, q89, hf⟩ := cx_b hf
        refine cx_callSX (As := [.ref ((adLG ad) 0), .int r84.1, .int (1 + r86.1)]) (rest := []) ⟨hx, hb, hml, hown, hts⟩ (c_L_setWeight (cx_lwG hC r86.2) q89) (vx_cwSW 3 hts (gSWx mw_584 mw_585 mw_2 mw_586) rfl rfl rfl hd_L_setWeight.2 ⟨Nat.le_of_ble_eq_true rfl, Nat.le_of_ble_eq_true rfl⟩) hK (show P (r86.2.1, r86.2.2) _ by (repeat rw [va_up_id]); exact hP) rfl hl.1 rfl (Nat.le_of_ble_eq_true rfl) dL_others_479 ⟨Nat.zero_le _, Nat.zero_le _⟩ hL (fun H locs hP hL => ?_)
        obtain ⟨z90, ez90, hf⟩ := cx_letE hf
        replace hP : P z90 H := by rw [← ez90]; exact hP
        refine lv_if_le (tgt := 489) hx hb dL_others_482 (by decide) (fun c91 => ?_) (fun c91 => ?_)
        · have hf := cx_t hf c91
          refine lv_iconst (v := 0) hx hb dL_others_489 (by decide) ?_
          cases hf
          exact cx_zret hx hb hr hlocks (Or.inl rfl) hP hL dL_others_490
        · have hf := cx_f hf c91
          refine lv_iconst (v := 1) hx hb dL_others_485 (by decide) ?_
          refine lv_goto (tgt := 490) hx hb dL_others_486 (by decide) ?_
          cases hf
          exact cx_zret hx hb hr hlocks (Or.inr rfl) hP hL dL_others_490
abbrev rm_L_accesses : Room := { frames := 7, cells := 1, slots := 6, locals := 175 }
theorem hd_L_accesses : yL_accesses.cls = RL ∧ yL_accesses.cls ≠ "java/lang/invoke/MethodHandle" ∧ yL_accesses.cls ≠ "java/lang/invoke/VarHandle" ∧ (parseMethodDescriptor yL_accesses.desc).map (fun d => d.parameters.length) = some 0 := by decide +kernel
def f_L_accesses_b214 {ρ : Type} (N : Nat) (k216 : ZS → LwS → Int32 → Int32 → Int32 → Int32 → Int32 → Int32 → Int32 → Int32 → Int32 → Int32 → Option (ρ)) (z : ZS) (δ : LwS) (x1 : Int32) (x2 : Int32) (x4 : Int32) (x5 : Int32) (x6 : Int32) (x7 : Int32) (x8 : Int32) (x9 : Int32) (x10 : Int32) (y0 : Int32) : Option (ρ) := k216 z δ x1 x2 x4 x5 x6 x7 x8 x9 x10 y0
set_option maxHeartbeats 4000000 in
set_option maxRecDepth 100000 in
theorem w_L_accesses_b214 {p : Program} {l : Launch} {e : Env} {s : State} {m : MethodId} {args : Array Value} {below : List Frame} {meth : Method} {c : Code} {G : va_G} {cA : Nat → ClassId} (C0 : cB p s m args meth c RL cL_accesses 17 (some .boolean) G cA) {lo : Nat} {z : ZS} (hZ : Zt lo z s) {ad : Nat → Nat} {sv : Nat → Option Nat} {P : LwS → Heap → Prop} (hC : cx G lo 264 ad (ceLaw z.1 sv cA ad) P) {Q : State → Prop} {ρ : Type} {N : Nat} {res : ρ} {k216 : ZS → LwS → Int32 → Int32 → Int32 → Int32 → Int32 → Int32 → Int32 → Int32 → Int32 → Int32 → Option (ρ)} (hk216 : ∀ (δ : LwS) (x1 : Int32) (x2 : Int32) (x4 : Int32) (x5 : Int32) (x6 : Int32) (x7 : Int32) (x8 : Int32) (x9 : Int32) (x10 : Int32) (x11 : Int32) (H : Heap) (locs : List Loc) (ls : Array Slot), k216 z δ x1 x2 x4 x5 x6 x7 x8 x9 x10 x11 = some res → P δ H → (∀ q ∈ locs, lo ≤ q.base) → lv_has ls 17 [(0, .ref (ad 0)), (1, .int x1), (2, .int x2), (4, .int x4), (5, .int x5), (6, .int x6), (7, .int x7), (8, .int x8), (9, .int x9), (10, .int x10), (11, .int x11)] → W p l e rm_L_accesses s m args below meth c H locs 0 0 Q (F0 m 216 ls [])) : ∀ (δ : LwS) (x1 : Int32) (x2 : Int32) (x4 : Int32) (x5 : Int32) (x6 : Int32) (x7 : Int32) (x8 : Int32) (x9 : Int32) (x10 : Int32) (y0 : Int32) (H : Heap) (locs : List Loc) (ls : Array Slot), f_L_accesses_b214 N k216 z δ x1 x2 x4 x5 x6 x7 x8 x9 x10 y0 = some res → P δ H → (∀ q ∈ locs, lo ≤ q.base) → lv_has ls 17 [(0, .ref (ad 0)), (1, .int x1), (2, .int x2), (4, .int x4), (5, .int x5), (6, .int x6), (7, .int x7), (8, .int x8), (9, .int x9), (10, .int x10)] → W p l e rm_L_accesses s m args below meth c H locs 0 0 Q (F0 m 214 ls [.int y0]) := by
  obtain ⟨⟨hx, hb, hml, hown, hts⟩, hr, hlocks, hK⟩ := id C0
  intro δ x1 x2 x4 x5 x6 x7 x8 x9 x10 y0 H locs ls hf hP hL hl
  unfold f_L_accesses_b214 at hf
  refine lv_istore (lv' := [(11, .int y0), (0, .ref (ad 0)), (1, .int x1), (2, .int x2), (4, .int x4), (5, .int x5), (6, .int x6), (7, .int x7), (8, .int x8), (9, .int x9), (10, .int x10)]) hx hb dL_accesses_214 hl (by decide) rfl (fun ls hl => ?_)
  exact hk216 δ x1 x2 x4 x5 x6 x7 x8 x9 x10 y0 _ _ _ hf hP hL (lv_sub hl [1, 2, 3, 4, 5, 6, 7, 8, 9, 10, 0] rfl)
def f_L_accesses_b116 {ρ : Type} (N : Nat) (k216 : ZS → LwS → Int32 → Int32 → Int32 → Int32 → Int32 → Int32 → Int32 → Int32 → Int32 → Int32 → Option (ρ)) (z : ZS) (δ : LwS) (x1 : Int32) (x2 : Int32) (x4 : Int32) (y0 : Int32) : Option (ρ) := (f_L_wouldBe N δ.2 x1 x2 2).bind fun r1 => cx_let ((δ.1, r1.2)) fun z3 => (f_L_wouldBe N z3.2 x1 x2 3).bind fun r4 => cx_let ((z3.1, r4.2)) fun z6 => (f_L_wouldBe N z6.2 x1 x2 4).bind fun r7 => cx_let ((z6.1, r7.2)) fun z9 => (f_L_wouldBe N z9.2 x1 x2 5).bind fun r10 => cx_let ((z9.1, r10.2)) fun z12 => (f_L_wouldBe N z12.2 x1 x2 6).bind fun r13 => cx_let ((z12.1, r13.2)) fun z15 => (f_L_count N z15.2 7).bind fun r16 => (f_L_count N z15.2 8).bind fun r18 => (f_L_count N z15.2 2).bind fun r20 => if (r16 + r18) = r20 then f_L_accesses_b214 N k216 z z15 x1 x2 x4 y0 r1.1 r4.1 r7.1 r10.1 r13.1 1 else f_L_accesses_b214 N k216 z z15 x1 x2 x4 y0 r1.1 r4.1 r7.1 r10.1 r13.1 0
set_option maxHeartbeats 4000000 in
set_option maxRecDepth 100000 in
theorem w_L_accesses_b116 {p : Program} {l : Launch} {e : Env} {s : State} {m : MethodId} {args : Array Value} {below : List Frame} {meth : Method} {c : Code} {G : va_G} {cA : Nat → ClassId} (C0 : cB p s m args meth c RL cL_accesses 17 (some .boolean) G cA) {lo : Nat} {z : ZS} (hZ : Zt lo z s) {ad : Nat → Nat} {sv : Nat → Option Nat} {P : LwS → Heap → Prop} (hC : cx G lo 264 ad (ceLaw z.1 sv cA ad) P) {Q : State → Prop} {ρ : Type} {N : Nat} {res : ρ} {k216 : ZS → LwS → Int32 → Int32 → Int32 → Int32 → Int32 → Int32 → Int32 → Int32 → Int32 → Int32 → Option (ρ)} (hk216 : ∀ (δ : LwS) (x1 : Int32) (x2 : Int32) (x4 : Int32) (x5 : Int32) (x6 : Int32) (x7 : Int32) (x8 : Int32) (x9 : Int32) (x10 : Int32) (x11 : Int32) (H : Heap) (locs : List Loc) (ls : Array Slot), k216 z δ x1 x2 x4 x5 x6 x7 x8 x9 x10 x11 = some res → P δ H → (∀ q ∈ locs, lo ≤ q.base) → lv_has ls 17 [(0, .ref (ad 0)), (1, .int x1), (2, .int x2), (4, .int x4), (5, .int x5), (6, .int x6), (7, .int x7), (8, .int x8), (9, .int x9), (10, .int x10), (11, .int x11)] → W p l e rm_L_accesses s m args below meth c H locs 0 0 Q (F0 m 216 ls [])) : ∀ (δ : LwS) (x1 : Int32) (x2 : Int32) (x4 : Int32) (y0 : Int32) (H : Heap) (locs : List Loc) (ls : Array Slot), f_L_accesses_b116 N k216 z δ x1 x2 x4 y0 = some res → P δ H → (∀ q ∈ locs, lo ≤ q.base) → lv_has ls 17 [(0, .ref (ad 0)), (1, .int x1), (2, .int x2), (4, .int x4)] → W p l e rm_L_accesses s m args below meth c H locs 0 0 Q (F0 m 116 ls [.int y0]) := by
  obtain ⟨⟨hx, hb, hml, hown, hts⟩, hr, hlocks, hK⟩ := id C0
  intro δ x1 x2 x4 y0 H locs ls hf hP hL hl
  unfold f_L_accesses_b116 at hf
  refine lv_istore (lv' := [(5, .int y0), (0, .ref (ad 0)), (1, .int x1), (2, .int x2), (4, .int x4)]) hx hb dL_accesses_116 hl (by decide) rfl (fun ls hl => ?_)
  refine lv_aload_n hx hb dL_accesses_118 rfl (lv_at hl 1 rfl) ?_
  refine g_Law_0 hC hP hx hb hts hown hK mw_12 dL_accesses_119 ?_
  refine lv_iload_n hx hb dL_accesses_122 rfl (lv_at hl 2 rfl) ?_
  refine lv_iload_n hx hb dL_accesses_123 rfl (lv_at hl 3 rfl) ?_
  refine lv_iconst (v := 2) hx hb dL_accesses_124 (by decide) ?_
  obtain ⟨r1, q2, hf⟩ := cx_b hf
  refine cx_callSX (As := [.ref ((adLG ad) 0), .int x1, .int x2, .int 2]) (rest := []) ⟨hx, hb, hml, hown, hts⟩ (c_L_wouldBe (cx_lwG hC δ) q2) (vx_cwSW 4 hts (gSWx mw_409 mw_410 mw_2 mw_411) rfl rfl rfl hd_L_wouldBe.2 ⟨Nat.le_of_ble_eq_true rfl, Nat.le_of_ble_eq_true rfl⟩) hK (show P (δ.1, δ.2) _ by (repeat rw [va_up_id]); exact hP) rfl hl.1 rfl (Nat.le_of_ble_eq_true rfl) dL_accesses_125 ⟨Nat.zero_le _, Nat.zero_le _⟩ hL (fun H locs hP hL => ?_)
  obtain ⟨z3, ez3, hf⟩ := cx_letE hf
  replace hP : P z3 H := by rw [← ez3]; exact hP
  refine lv_istore (lv' := [(6, .int r1.1), (5, .int y0), (0, .ref (ad 0)), (1, .int x1), (2, .int x2), (4, .int x4)]) hx hb dL_accesses_128 hl (by decide) rfl (fun ls hl => ?_)
  refine lv_aload_n hx hb dL_accesses_130 rfl (lv_at hl 2 rfl) ?_
  refine g_Law_0 hC hP hx hb hts hown hK mw_12 dL_accesses_131 ?_
  refine lv_iload_n hx hb dL_accesses_134 rfl (lv_at hl 3 rfl) ?_
  refine lv_iload_n hx hb dL_accesses_135 rfl (lv_at hl 4 rfl) ?_
  refine lv_iconst (v := 3) hx hb dL_accesses_136 (by decide) ?_
  obtain ⟨r4, q5, hf⟩ := cx_b hf
  refine cx_callSX (As := [.ref ((adLG ad) 0), .int x1, .int x2, .int 3]) (rest := []) ⟨hx, hb, hml, hown, hts⟩ (c_L_wouldBe (cx_lwG hC z3) q5) (vx_cwSW 4 hts (gSWx mw_409 mw_410 mw_2 mw_411) rfl rfl rfl hd_L_wouldBe.2 ⟨Nat.le_of_ble_eq_true rfl, Nat.le_of_ble_eq_true rfl⟩) hK (show P (z3.1, z3.2) _ by (repeat rw [va_up_id]); exact hP) rfl hl.1 rfl (Nat.le_of_ble_eq_true rfl) dL_accesses_137 ⟨Nat.zero_le _, Nat.zero_le _⟩ hL (fun H locs hP hL => ?_)
  obtain ⟨z6, ez6, hf⟩ := cx_letE hf
  replace hP : P z6 H := by rw [← ez6]; exact hP
  refine lv_istore (lv' := [(7, .int r4.1), (6, .int r1.1), (5, .int y0), (0, .ref (ad 0)), (1, .int x1), (2, .int x2), (4, .int x4)]) hx hb dL_accesses_140 hl (by decide) rfl (fun ls hl => ?_)
  refine lv_aload_n hx hb dL_accesses_142 rfl (lv_at hl 3 rfl) ?_
  refine g_Law_0 hC hP hx hb hts hown hK mw_12 dL_accesses_143 ?_
  refine lv_iload_n hx hb dL_accesses_146 rfl (lv_at hl 4 rfl) ?_
  refine lv_iload_n hx hb dL_accesses_147 rfl (lv_at hl 5 rfl) ?_
  refine lv_iconst (v := 4) hx hb dL_accesses_148 (by decide) ?_
  obtain ⟨r7, q8, hf⟩ := cx_b hf
  refine cx_callSX (As := [.ref ((adLG ad) 0), .int x1, .int x2, .int 4]) (rest := []) ⟨hx, hb, hml, hown, hts⟩ (c_L_wouldBe (cx_lwG hC z6) q8) (vx_cwSW 4 hts (gSWx mw_409 mw_410 mw_2 mw_411) rfl rfl rfl hd_L_wouldBe.2 ⟨Nat.le_of_ble_eq_true rfl, Nat.le_of_ble_eq_true rfl⟩) hK (show P (z6.1, z6.2) _ by (repeat rw [va_up_id]); exact hP) rfl hl.1 rfl (Nat.le_of_ble_eq_true rfl) dL_accesses_149 ⟨Nat.zero_le _, Nat.zero_le _⟩ hL (fun H locs hP hL => ?_)
  obtain ⟨z9, ez9, hf⟩ := cx_letE hf
  replace hP : P z9 H := by rw [← ez9]; exact hP
  refine lv_istore (lv' := [(8, .int r7.1), (7, .int r4.1), (6, .int r1.1), (5, .int y0), (0, .ref (ad 0)), (1, .int x1), (2, .int x2), (4, .int x4)]) hx hb dL_accesses_152 hl (by decide) rfl (fun ls hl => ?_)
  refine lv_aload_n hx hb dL_accesses_154 rfl (lv_at hl 4 rfl) ?_
  refine g_Law_0 hC hP hx hb hts hown hK mw_12 dL_accesses_155 ?_
  refine lv_iload_n hx hb dL_accesses_158 rfl (lv_at hl 5 rfl) ?_
  refine lv_iload_n hx hb dL_accesses_159 rfl (lv_at hl 6 rfl) ?_
  refine lv_iconst (v := 5) hx hb dL_accesses_160 (by decide) ?_
  obtain ⟨r10, q11, hf⟩ := cx_b hf
  refine cx_callSX (As := [.ref ((adLG ad) 0), .int x1, .int x2, .int 5]) (rest := []) ⟨hx, hb, hml, hown, hts⟩ (c_L_wouldBe (cx_lwG hC z9) q11) (vx_cwSW 4 hts (gSWx mw_409 mw_410 mw_2 mw_411) rfl rfl rfl hd_L_wouldBe.2 ⟨Nat.le_of_ble_eq_true rfl, Nat.le_of_ble_eq_true rfl⟩) hK (show P (z9.1, z9.2) _ by (repeat rw [va_up_id]); exact hP) rfl hl.1 rfl (Nat.le_of_ble_eq_true rfl) dL_accesses_161 ⟨Nat.zero_le _, Nat.zero_le _⟩ hL (fun H locs hP hL => ?_)
  obtain ⟨z12, ez12, hf⟩ := cx_letE hf
  replace hP : P z12 H := by rw [← ez12]; exact hP
  refine lv_istore (lv' := [(9, .int r10.1), (8, .int r7.1), (7, .int r4.1), (6, .int r1.1), (5, .int y0), (0, .ref (ad 0)), (1, .int x1), (2, .int x2), (4, .int x4)]) hx hb dL_accesses_164 hl (by decide) rfl (fun ls hl => ?_)
  refine lv_aload_n hx hb dL_accesses_166 rfl (lv_at hl 5 rfl) ?_
  refine g_Law_0 hC hP hx hb hts hown hK mw_12 dL_accesses_167 ?_
  refine lv_iload_n hx hb dL_accesses_170 rfl (lv_at hl 6 rfl) ?_
  refine lv_iload_n hx hb dL_accesses_171 rfl (lv_at hl 7 rfl) ?_
  refine lv_bipush (v := 6) hx hb dL_accesses_172 (by decide) ?_
  obtain ⟨r13, q14, hf⟩ := cx_b hf
  refine cx_callSX (As := [.ref ((adLG ad) 0), .int x1, .int x2, .int 6]) (rest := []) ⟨hx, hb, hml, hown, hts⟩ (c_L_wouldBe (cx_lwG hC z12) q14) (vx_cwSW 4 hts (gSWx mw_409 mw_410 mw_2 mw_411) rfl rfl rfl hd_L_wouldBe.2 ⟨Nat.le_of_ble_eq_true rfl, Nat.le_of_ble_eq_true rfl⟩) hK (show P (z12.1, z12.2) _ by (repeat rw [va_up_id]); exact hP) rfl hl.1 rfl (Nat.le_of_ble_eq_true rfl) dL_accesses_174 ⟨Nat.zero_le _, Nat.zero_le _⟩ hL (fun H locs hP hL => ?_)
  obtain ⟨z15, ez15, hf⟩ := cx_letE hf
  replace hP : P z15 H := by rw [← ez15]; exact hP
  refine lv_istore (lv' := [(10, .int r13.1), (9, .int r10.1), (8, .int r7.1), (7, .int r4.1), (6, .int r1.1), (5, .int y0), (0, .ref (ad 0)), (1, .int x1), (2, .int x2), (4, .int x4)]) hx hb dL_accesses_177 hl (by decide) rfl (fun ls hl => ?_)
  refine lv_aload_n hx hb dL_accesses_179 rfl (lv_at hl 6 rfl) ?_
  refine g_Law_0 hC hP hx hb hts hown hK mw_12 dL_accesses_180 ?_
  refine lv_bipush (v := 7) hx hb dL_accesses_183 (by decide) ?_
  obtain ⟨r16, q17, hf⟩ := cx_b hf
  refine cx_callSX (As := [.ref ((adLG ad) 0), .int 7]) (rest := []) ⟨hx, hb, hml, hown, hts⟩ (c_L_count (cx_lwG hC z15) q17) (vx_cwSW 2 hts (gSWx mw_275 mw_276 mw_2 mw_277) rfl rfl rfl hd_L_count.2 ⟨Nat.le_of_ble_eq_true rfl, Nat.le_of_ble_eq_true rfl⟩) hK (show P (z15.1, z15.2) _ by (repeat rw [va_up_id]); exact hP) rfl hl.1 rfl (Nat.le_of_ble_eq_true rfl) dL_accesses_185 ⟨Nat.zero_le _, Nat.zero_le _⟩ hL (fun H locs hP hL => ?_)
  replace hP : P z15 H := by first | exact hP | (simpa only [va_up_id] using hP)
  refine lv_aload_n hx hb dL_accesses_188 rfl (lv_at hl 6 rfl) ?_
  refine g_Law_0 hC hP hx hb hts hown hK mw_12 dL_accesses_189 ?_
  refine lv_bipush (v := 8) hx hb dL_accesses_192 (by decide) ?_
  obtain ⟨r18, q19, hf⟩ := cx_b hf
  refine cx_callSX (As := [.ref ((adLG ad) 0), .int 8]) (rest := [.int r16]) ⟨hx, hb, hml, hown, hts⟩ (c_L_count (cx_lwG hC z15) q19) (vx_cwSW 2 hts (gSWx mw_275 mw_276 mw_2 mw_277) rfl rfl rfl hd_L_count.2 ⟨Nat.le_of_ble_eq_true rfl, Nat.le_of_ble_eq_true rfl⟩) hK (show P (z15.1, z15.2) _ by (repeat rw [va_up_id]); exact hP) rfl hl.1 rfl (Nat.le_of_ble_eq_true rfl) dL_accesses_194 ⟨Nat.zero_le _, Nat.zero_le _⟩ hL (fun H locs hP hL => ?_)
  replace hP : P z15 H := by first | exact hP | (simpa only [va_up_id] using hP)
  refine lv_iadd hx hb dL_accesses_197 ?_
  refine lv_aload_n hx hb dL_accesses_198 rfl (lv_at hl 6 rfl) ?_
  refine g_Law_0 hC hP hx hb hts hown hK mw_12 dL_accesses_199 ?_
  refine lv_iconst (v := 2) hx hb dL_accesses_202 (by decide) ?_
  obtain ⟨r20, q21, hf⟩ := cx_b hf
  refine cx_callSX (As := [.ref ((adLG ad) 0), .int 2]) (rest := [.int (r16 + r18)]) ⟨hx, hb, hml, hown, hts⟩ (c_L_count (cx_lwG hC z15) q21) (vx_cwSW 2 hts (gSWx mw_275 mw_276 mw_2 mw_277) rfl rfl rfl hd_L_count.2 ⟨Nat.le_of_ble_eq_true rfl, Nat.le_of_ble_eq_true rfl⟩) hK (show P (z15.1, z15.2) _ by (repeat rw [va_up_id]); exact hP) rfl hl.1 rfl (Nat.le_of_ble_eq_true rfl) dL_accesses_203 ⟨Nat.zero_le _, Nat.zero_le _⟩ hL (fun H locs hP hL => ?_)
  replace hP : P z15 H := by first | exact hP | (simpa only [va_up_id] using hP)
  refine lv_icmp_ne (tgt := 213) hx hb dL_accesses_206 (by decide) (fun c22 => ?_) (fun c22 => ?_)
  · have hf := cx_f hf c22
    refine lv_iconst (v := 0) hx hb dL_accesses_213 (by decide) ?_
    exact w_L_accesses_b214 C0 hZ hC hk216 z15 x1 x2 x4 y0 r1.1 r4.1 r7.1 r10.1 r13.1 0 _ _ _ hf hP hL (lv_sub hl [6, 7, 8, 9, 5, 4, 3, 2, 1, 0] rfl)
  · have hf := cx_t hf c22
    refine lv_iconst (v := 1) hx hb dL_accesses_209 (by decide) ?_
    refine lv_goto (tgt := 214) hx hb dL_accesses_210 (by decide) ?_
    exact w_L_accesses_b214 C0 hZ hC hk216 z15 x1 x2 x4 y0 r1.1 r4.1 r7.1 r10.1 r13.1 1 _ _ _ hf hP hL (lv_sub hl [6, 7, 8, 9, 5, 4, 3, 2, 1, 0] rfl)
def f_L_accesses_b96 {ρ : Type} (N : Nat) (k216 : ZS → LwS → Int32 → Int32 → Int32 → Int32 → Int32 → Int32 → Int32 → Int32 → Int32 → Int32 → Option (ρ)) (z : ZS) (δ : LwS) (x1 : Int32) (x2 : Int32) (y0 : Int32) : Option (ρ) := (f_L_toScan δ.2 x1 x2).bind fun r1 => if r1 = 1 then f_L_accesses_b116 N k216 z δ x1 x2 y0 1 else f_L_accesses_b116 N k216 z δ x1 x2 y0 0
set_option maxHeartbeats 4000000 in
set_option maxRecDepth 100000 in
theorem w_L_accesses_b96 {p : Program} {l : Launch} {e : Env} {s : State} {m : MethodId} {args : Array Value} {below : List Frame} {meth : Method} {c : Code} {G : va_G} {cA : Nat → ClassId} (C0 : cB p s m args meth c RL cL_accesses 17 (some .boolean) G cA) {lo : Nat} {z : ZS} (hZ : Zt lo z s) {ad : Nat → Nat} {sv : Nat → Option Nat} {P : LwS → Heap → Prop} (hC : cx G lo 264 ad (ceLaw z.1 sv cA ad) P) {Q : State → Prop} {ρ : Type} {N : Nat} {res : ρ} {k216 : ZS → LwS → Int32 → Int32 → Int32 → Int32 → Int32 → Int32 → Int32 → Int32 → Int32 → Int32 → Option (ρ)} (hk216 : ∀ (δ : LwS) (x1 : Int32) (x2 : Int32) (x4 : Int32) (x5 : Int32) (x6 : Int32) (x7 : Int32) (x8 : Int32) (x9 : Int32) (x10 : Int32) (x11 : Int32) (H : Heap) (locs : List Loc) (ls : Array Slot), k216 z δ x1 x2 x4 x5 x6 x7 x8 x9 x10 x11 = some res → P δ H → (∀ q ∈ locs, lo ≤ q.base) → lv_has ls 17 [(0, .ref (ad 0)), (1, .int x1), (2, .int x2), (4, .int x4), (5, .int x5), (6, .int x6), (7, .int x7), (8, .int x8), (9, .int x9), (10, .int x10), (11, .int x11)] → W p l e rm_L_accesses s m args below meth c H locs 0 0 Q (F0 m 216 ls [])) : ∀ (δ : LwS) (x1 : Int32) (x2 : Int32) (y0 : Int32) (H : Heap) (locs : List Loc) (ls : Array Slot), f_L_accesses_b96 N k216 z δ x1 x2 y0 = some res → P δ H → (∀ q ∈ locs, lo ≤ q.base) → lv_has ls 17 [(0, .ref (ad 0)), (1, .int x1), (2, .int x2)] → W p l e rm_L_accesses s m args below meth c H locs 0 0 Q (F0 m 96 ls [.int y0]) := by
  obtain ⟨⟨hx, hb, hml, hown, hts⟩, hr, hlocks, hK⟩ := id C0
  intro δ x1 x2 y0 H locs ls hf hP hL hl
  unfold f_L_accesses_b96 at hf
  refine lv_istore (lv' := [(4, .int y0), (0, .ref (ad 0)), (1, .int x1), (2, .int x2)]) hx hb dL_accesses_96 hl (by decide) rfl (fun ls hl => ?_)
  refine lv_aload_n hx hb dL_accesses_98 rfl (lv_at hl 1 rfl) ?_
  refine g_Law_0 hC hP hx hb hts hown hK mw_12 dL_accesses_99 ?_
  refine lv_iload_n hx hb dL_accesses_102 rfl (lv_at hl 2 rfl) ?_
  refine lv_iload_n hx hb dL_accesses_103 rfl (lv_at hl 3 rfl) ?_
  obtain ⟨r1, q2, hf⟩ := cx_b hf
  refine cx_callSX (As := [.ref ((adLG ad) 0), .int x1, .int x2]) (rest := []) ⟨hx, hb, hml, hown, hts⟩ (c_L_toScan (cx_lwG hC δ) q2) (vx_cwSW 3 hts (gSWx mw_392 mw_393 mw_2 mw_394) rfl rfl rfl hd_L_toScan.2 ⟨Nat.le_of_ble_eq_true rfl, Nat.le_of_ble_eq_true rfl⟩) hK (show P (δ.1, δ.2) _ by (repeat rw [va_up_id]); exact hP) rfl hl.1 rfl (Nat.le_of_ble_eq_true rfl) dL_accesses_104 ⟨Nat.zero_le _, Nat.zero_le _⟩ hL (fun H locs hP hL => ?_)
  replace hP : P δ H := by first | exact hP | (simpa only [va_up_id] using hP)
  refine lv_iconst (v := 1) hx hb dL_accesses_107 (by decide) ?_
  refine lv_icmp_ne (tgt := 115) hx hb dL_accesses_108 (by decide) (fun c3 => ?_) (fun c3 => ?_)
  · have hf := cx_f hf c3
    refine lv_iconst (v := 0) hx hb dL_accesses_115 (by decide) ?_
    exact w_L_accesses_b116 C0 hZ hC hk216 δ x1 x2 y0 0 _ _ _ hf hP hL (lv_sub hl [1, 2, 3, 0] rfl)
  · have hf := cx_t hf c3
    refine lv_iconst (v := 1) hx hb dL_accesses_111 (by decide) ?_
    refine lv_goto (tgt := 116) hx hb dL_accesses_112 (by decide) ?_
    exact w_L_accesses_b116 C0 hZ hC hk216 δ x1 x2 y0 1 _ _ _ hf hP hL (lv_sub hl [1, 2, 3, 0] rfl)
def f_L_accesses_b67 {ρ : Type} (N : Nat) (k216 : ZS → LwS → Int32 → Int32 → Int32 → Int32 → Int32 → Int32 → Int32 → Int32 → Int32 → Int32 → Option (ρ)) (z : ZS) (δ : LwS) (x1 : Int32) (y0 : Int32) : Option (ρ) := (f_L_block N δ.2 y0 0).bind fun r1 => if 0 ≤ r1 then if r1 = 2 then f_L_accesses_b96 N k216 z δ x1 y0 1 else f_L_accesses_b96 N k216 z δ x1 y0 0 else f_L_accesses_b96 N k216 z δ x1 y0 2
set_option maxHeartbeats 4000000 in
set_option maxRecDepth 100000 in
theorem w_L_accesses_b67 {p : Program} {l : Launch} {e : Env} {s : State} {m : MethodId} {args : Array Value} {below : List Frame} {meth : Method} {c : Code} {G : va_G} {cA : Nat → ClassId} (C0 : cB p s m args meth c RL cL_accesses 17 (some .boolean) G cA) {lo : Nat} {z : ZS} (hZ : Zt lo z s) {ad : Nat → Nat} {sv : Nat → Option Nat} {P : LwS → Heap → Prop} (hC : cx G lo 264 ad (ceLaw z.1 sv cA ad) P) {Q : State → Prop} {ρ : Type} {N : Nat} {res : ρ} {k216 : ZS → LwS → Int32 → Int32 → Int32 → Int32 → Int32 → Int32 → Int32 → Int32 → Int32 → Int32 → Option (ρ)} (hk216 : ∀ (δ : LwS) (x1 : Int32) (x2 : Int32) (x4 : Int32) (x5 : Int32) (x6 : Int32) (x7 : Int32) (x8 : Int32) (x9 : Int32) (x10 : Int32) (x11 : Int32) (H : Heap) (locs : List Loc) (ls : Array Slot), k216 z δ x1 x2 x4 x5 x6 x7 x8 x9 x10 x11 = some res → P δ H → (∀ q ∈ locs, lo ≤ q.base) → lv_has ls 17 [(0, .ref (ad 0)), (1, .int x1), (2, .int x2), (4, .int x4), (5, .int x5), (6, .int x6), (7, .int x7), (8, .int x8), (9, .int x9), (10, .int x10), (11, .int x11)] → W p l e rm_L_accesses s m args below meth c H locs 0 0 Q (F0 m 216 ls [])) : ∀ (δ : LwS) (x1 : Int32) (y0 : Int32) (H : Heap) (locs : List Loc) (ls : Array Slot), f_L_accesses_b67 N k216 z δ x1 y0 = some res → P δ H → (∀ q ∈ locs, lo ≤ q.base) → lv_has ls 17 [(0, .ref (ad 0)), (1, .int x1)] → W p l e rm_L_accesses s m args below meth c H locs 0 0 Q (F0 m 67 ls [.int y0]) := by
  obtain ⟨⟨hx, hb, hml, hown, hts⟩, hr, hlocks, hK⟩ := id C0
  intro δ x1 y0 H locs ls hf hP hL hl
  unfold f_L_accesses_b67 at hf
  refine lv_istore_n (lv' := [(2, .int y0), (0, .ref (ad 0)), (1, .int x1)]) hx hb dL_accesses_67 rfl hl (by decide) rfl (fun ls hl => ?_)
  refine lv_aload_n hx hb dL_accesses_68 rfl (lv_at hl 1 rfl) ?_
  refine g_Law_0 hC hP hx hb hts hown hK mw_12 dL_accesses_69 ?_
  refine lv_iload_n hx hb dL_accesses_72 rfl (lv_at hl 0 rfl) ?_
  refine lv_iconst (v := 0) hx hb dL_accesses_73 (by decide) ?_
  obtain ⟨r1, q2, hf⟩ := cx_b hf
  refine cx_callSX (As := [.ref ((adLG ad) 0), .int y0, .int 0]) (rest := []) ⟨hx, hb, hml, hown, hts⟩ (c_L_block (cx_lwG hC δ) q2) (vx_cwSW 3 hts (gSWx mw_353 mw_354 mw_2 mw_355) rfl rfl rfl hd_L_block.2 ⟨Nat.le_of_ble_eq_true rfl, Nat.le_of_ble_eq_true rfl⟩) hK (show P (δ.1, δ.2) _ by (repeat rw [va_up_id]); exact hP) rfl hl.1 rfl (Nat.le_of_ble_eq_true rfl) dL_accesses_74 ⟨Nat.zero_le _, Nat.zero_le _⟩ hL (fun H locs hP hL => ?_)
  replace hP : P δ H := by first | exact hP | (simpa only [va_up_id] using hP)
  refine lv_istore_n (lv' := [(3, .int r1), (2, .int y0), (0, .ref (ad 0)), (1, .int x1)]) hx hb dL_accesses_77 rfl hl (by decide) rfl (fun ls hl => ?_)
  refine lv_iload_n hx hb dL_accesses_78 rfl (lv_at hl 0 rfl) ?_
  refine lv_if_ge (tgt := 86) hx hb dL_accesses_79 (by decide) (fun c3 => ?_) (fun c3 => ?_)
  · have hf := cx_t hf c3
    refine lv_iload_n hx hb dL_accesses_86 rfl (lv_at hl 0 rfl) ?_
    refine lv_iconst (v := 2) hx hb dL_accesses_87 (by decide) ?_
    refine lv_icmp_ne (tgt := 95) hx hb dL_accesses_88 (by decide) (fun c4 => ?_) (fun c4 => ?_)
    · have hf := cx_f hf c4
      refine lv_iconst (v := 0) hx hb dL_accesses_95 (by decide) ?_
      exact w_L_accesses_b96 C0 hZ hC hk216 δ x1 y0 0 _ _ _ hf hP hL (lv_sub hl [2, 3, 1] rfl)
    · have hf := cx_t hf c4
      refine lv_iconst (v := 1) hx hb dL_accesses_91 (by decide) ?_
      refine lv_goto (tgt := 96) hx hb dL_accesses_92 (by decide) ?_
      exact w_L_accesses_b96 C0 hZ hC hk216 δ x1 y0 1 _ _ _ hf hP hL (lv_sub hl [2, 3, 1] rfl)
  · have hf := cx_f hf c3
    refine lv_iconst (v := 2) hx hb dL_accesses_82 (by decide) ?_
    refine lv_goto (tgt := 96) hx hb dL_accesses_83 (by decide) ?_
    exact w_L_accesses_b96 C0 hZ hC hk216 δ x1 y0 2 _ _ _ hf hP hL (lv_sub hl [2, 3, 1] rfl)
def f_L_accesses_b0 {ρ : Type} (N : Nat) (k216 : ZS → LwS → Int32 → Int32 → Int32 → Int32 → Int32 → Int32 → Int32 → Int32 → Int32 → Int32 → Option (ρ)) (z : ZS) (δ : LwS) : Option (ρ) := (f_L_count N δ.2 6).bind fun r1 => (f_L_draw z δ r1).bind fun r3 => (f_L_client N r3.2.2 r3.1 4).bind fun r5 => if r5 < 0 then (f_L_someBlock z r3.2).bind fun r8 => f_L_accesses_b67 N k216 z r8.2 r3.1 r8.1 else (f_L_client N r3.2.2 r3.1 4).bind fun r10 => if 199 ≤ r10 then (f_L_someBlock z r3.2).bind fun r13 => f_L_accesses_b67 N k216 z r13.2 r3.1 r13.1 else (f_L_draw z r3.2 3).bind fun r15 => if r15.1 = 0 then (f_L_client N r15.2.2 r3.1 4).bind fun r20 => f_L_accesses_b67 N k216 z r15.2 r3.1 (r20 + 1) else (f_L_someBlock z r15.2).bind fun r18 => f_L_accesses_b67 N k216 z r18.2 r3.1 r18.1
set_option maxHeartbeats 4000000 in
set_option maxRecDepth 100000 in
theorem w_L_accesses_b0 {p : Program} {l : Launch} {e : Env} {s : State} {m : MethodId} {args : Array Value} {below : List Frame} {meth : Method} {c : Code} {G : va_G} {cA : Nat → ClassId} (C0 : cB p s m args meth c RL cL_accesses 17 (some .boolean) G cA) {lo : Nat} {z : ZS} (hZ : Zt lo z s) {ad : Nat → Nat} {sv : Nat → Option Nat} {P : LwS → Heap → Prop} (hC : cx G lo 264 ad (ceLaw z.1 sv cA ad) P) {Q : State → Prop} {ρ : Type} {N : Nat} {res : ρ} {k216 : ZS → LwS → Int32 → Int32 → Int32 → Int32 → Int32 → Int32 → Int32 → Int32 → Int32 → Int32 → Option (ρ)} (hk216 : ∀ (δ : LwS) (x1 : Int32) (x2 : Int32) (x4 : Int32) (x5 : Int32) (x6 : Int32) (x7 : Int32) (x8 : Int32) (x9 : Int32) (x10 : Int32) (x11 : Int32) (H : Heap) (locs : List Loc) (ls : Array Slot), k216 z δ x1 x2 x4 x5 x6 x7 x8 x9 x10 x11 = some res → P δ H → (∀ q ∈ locs, lo ≤ q.base) → lv_has ls 17 [(0, .ref (ad 0)), (1, .int x1), (2, .int x2), (4, .int x4), (5, .int x5), (6, .int x6), (7, .int x7), (8, .int x8), (9, .int x9), (10, .int x10), (11, .int x11)] → W p l e rm_L_accesses s m args below meth c H locs 0 0 Q (F0 m 216 ls [])) : ∀ (δ : LwS) (H : Heap) (locs : List Loc) (ls : Array Slot), f_L_accesses_b0 N k216 z δ = some res → P δ H → (∀ q ∈ locs, lo ≤ q.base) → lv_has ls 17 [(0, .ref (ad 0))] → W p l e rm_L_accesses s m args below meth c H locs 0 0 Q (F0 m 0 ls []) := by
  obtain ⟨⟨hx, hb, hml, hown, hts⟩, hr, hlocks, hK⟩ := id C0
  intro δ H locs ls hf hP hL hl
  unfold f_L_accesses_b0 at hf
  refine lv_aload_n hx hb dL_accesses_0 rfl (lv_at hl 0 rfl) ?_
  refine lv_aload_n hx hb dL_accesses_1 rfl (lv_at hl 0 rfl) ?_
  refine g_Law_0 hC hP hx hb hts hown hK mw_12 dL_accesses_2 ?_
  refine lv_bipush (v := 6) hx hb dL_accesses_5 (by decide) ?_
  obtain ⟨r1, q2, hf⟩ := cx_b hf
  refine cx_callSX (As := [.ref ((adLG ad) 0), .int 6]) (rest := [.ref (ad 0)]) ⟨hx, hb, hml, hown, hts⟩ (c_L_count (cx_lwG hC δ) q2) (vx_cwSW 2 hts (gSWx mw_275 mw_276 mw_2 mw_277) rfl rfl rfl hd_L_count.2 ⟨Nat.le_of_ble_eq_true rfl, Nat.le_of_ble_eq_true rfl⟩) hK (show P (δ.1, δ.2) _ by (repeat rw [va_up_id]); exact hP) rfl hl.1 rfl (Nat.le_of_ble_eq_true rfl) dL_accesses_7 ⟨Nat.zero_le _, Nat.zero_le _⟩ hL (fun H locs hP hL => ?_)
  replace hP : P δ H := by first | exact hP | (simpa only [va_up_id] using hP)
  obtain ⟨r3, q4, hf⟩ := cx_b hf
  refine cx_callVZ (As := [.int r1]) (rest := []) ⟨hx, hb, hml, hown, hts⟩ (c_L_draw hC (z := z) q4) (cwV 1 hts (gV mw_124 mw_125 mw_126 mw_2 mw_127) rfl rfl rfl hd_L_draw ⟨Nat.le_of_ble_eq_true rfl, Nat.le_of_ble_eq_true rfl⟩) hK hZ hP rfl (at_Law hC hP) rfl hl.1 rfl (Nat.le_of_ble_eq_true rfl) dL_accesses_10 ⟨Nat.zero_le _, Nat.zero_le _⟩ hL (fun H locs hP hL => ?_)
  replace hP : P r3.2 H := by first | exact hP | (simpa only [va_up_id] using hP)
  refine lv_istore_n (lv' := [(1, .int r3.1), (0, .ref (ad 0))]) hx hb dL_accesses_13 rfl hl (by decide) rfl (fun ls hl => ?_)
  refine lv_aload_n hx hb dL_accesses_14 rfl (lv_at hl 1 rfl) ?_
  refine g_Law_0 hC hP hx hb hts hown hK mw_12 dL_accesses_15 ?_
  refine lv_iload_n hx hb dL_accesses_18 rfl (lv_at hl 0 rfl) ?_
  refine lv_iconst (v := 4) hx hb dL_accesses_19 (by decide) ?_
  obtain ⟨r5, q6, hf⟩ := cx_b hf
  refine cx_callSX (As := [.ref ((adLG ad) 0), .int r3.1, .int 4]) (rest := []) ⟨hx, hb, hml, hown, hts⟩ (c_L_client (cx_lwG hC r3.2) q6) (vx_cwSW 3 hts (gSWx mw_301 mw_302 mw_2 mw_303) rfl rfl rfl hd_L_client.2 ⟨Nat.le_of_ble_eq_true rfl, Nat.le_of_ble_eq_true rfl⟩) hK (show P (r3.2.1, r3.2.2) _ by (repeat rw [va_up_id]); exact hP) rfl hl.1 rfl (Nat.le_of_ble_eq_true rfl) dL_accesses_20 ⟨Nat.zero_le _, Nat.zero_le _⟩ hL (fun H locs hP hL => ?_)
  replace hP : P r3.2 H := by first | exact hP | (simpa only [va_up_id] using hP)
  refine lv_if_lt (tgt := 63) hx hb dL_accesses_23 (by decide) (fun c7 => ?_) (fun c7 => ?_)
  · have hf := cx_t hf c7
    refine lv_aload_n hx hb dL_accesses_63 rfl (lv_at hl 1 rfl) ?_
    obtain ⟨r8, q9, hf⟩ := cx_b hf
    refine cx_callVZ (As := []) (rest := []) ⟨hx, hb, hml, hown, hts⟩ (c_L_someBlock hC (z := z) q9) (cwV 0 hts (gV mw_348 mw_349 mw_350 mw_2 mw_351) rfl rfl rfl hd_L_someBlock ⟨Nat.le_of_ble_eq_true rfl, Nat.le_of_ble_eq_true rfl⟩) hK hZ hP rfl (at_Law hC hP) rfl hl.1 rfl (Nat.le_of_ble_eq_true rfl) dL_accesses_64 ⟨Nat.zero_le _, Nat.zero_le _⟩ hL (fun H locs hP hL => ?_)
    replace hP : P r8.2 H := by first | exact hP | (simpa only [va_up_id] using hP)
    exact w_L_accesses_b67 C0 hZ hC hk216 r8.2 r3.1 r8.1 _ _ _ hf hP hL (lv_sub hl [1, 0] rfl)
  · have hf := cx_f hf c7
    refine lv_aload_n hx hb dL_accesses_26 rfl (lv_at hl 1 rfl) ?_
    refine g_Law_0 hC hP hx hb hts hown hK mw_12 dL_accesses_27 ?_
    refine lv_iload_n hx hb dL_accesses_30 rfl (lv_at hl 0 rfl) ?_
    refine lv_iconst (v := 4) hx hb dL_accesses_31 (by decide) ?_
    obtain ⟨r10, q11, hf⟩ := cx_b hf
    refine cx_callSX (As := [.ref ((adLG ad) 0), .int r3.1, .int 4]) (rest := []) ⟨hx, hb, hml, hown, hts⟩ (c_L_client (cx_lwG hC r3.2) q11) (vx_cwSW 3 hts (gSWx mw_301 mw_302 mw_2 mw_303) rfl rfl rfl hd_L_client.2 ⟨Nat.le_of_ble_eq_true rfl, Nat.le_of_ble_eq_true rfl⟩) hK (show P (r3.2.1, r3.2.2) _ by (repeat rw [va_up_id]); exact hP) rfl hl.1 rfl (Nat.le_of_ble_eq_true rfl) dL_accesses_32 ⟨Nat.zero_le _, Nat.zero_le _⟩ hL (fun H locs hP hL => ?_)
    replace hP : P r3.2 H := by first | exact hP | (simpa only [va_up_id] using hP)
    refine lv_sipush (v := 199) hx hb dL_accesses_35 (by decide) ?_
    refine lv_icmp_ge (tgt := 63) hx hb dL_accesses_38 (by decide) (fun c12 => ?_) (fun c12 => ?_)
    · have hf := cx_t hf c12
      refine lv_aload_n hx hb dL_accesses_63 rfl (lv_at hl 1 rfl) ?_
      obtain ⟨r13, q14, hf⟩ := cx_b hf
      refine cx_callVZ (As := []) (rest := []) ⟨hx, hb, hml, hown, hts⟩ (c_L_someBlock hC (z := z) q14) (cwV 0 hts (gV mw_348 mw_349 mw_350 mw_2 mw_351) rfl rfl rfl hd_L_someBlock ⟨Nat.le_of_ble_eq_true rfl, Nat.le_of_ble_eq_true rfl⟩) hK hZ hP rfl (at_Law hC hP) rfl hl.1 rfl (Nat.le_of_ble_eq_true rfl) dL_accesses_64 ⟨Nat.zero_le _, Nat.zero_le _⟩ hL (fun H locs hP hL => ?_)
      replace hP : P r13.2 H := by first | exact hP | (simpa only [va_up_id] using hP)
      exact w_L_accesses_b67 C0 hZ hC hk216 r13.2 r3.1 r13.1 _ _ _ hf hP hL (lv_sub hl [1, 0] rfl)
    · have hf := cx_f hf c12
      refine lv_aload_n hx hb dL_accesses_41 rfl (lv_at hl 1 rfl) ?_
      refine lv_iconst (v := 3) hx hb dL_accesses_42 (by decide) ?_
      obtain ⟨r15, q16, hf⟩ := cx_b hf
      refine cx_callVZ (As := [.int 3]) (rest := []) ⟨hx, hb, hml, hown, hts⟩ (c_L_draw hC (z := z) q16) (cwV 1 hts (gV mw_124 mw_125 mw_126 mw_2 mw_127) rfl rfl rfl hd_L_draw ⟨Nat.le_of_ble_eq_true rfl, Nat.le_of_ble_eq_true rfl⟩) hK hZ hP rfl (at_Law hC hP) rfl hl.1 rfl (Nat.le_of_ble_eq_true rfl) dL_accesses_43 ⟨Nat.zero_le _, Nat.zero_le _⟩ hL (fun H locs hP hL => ?_)
      replace hP : P r15.2 H := by first | exact hP | (simpa only [va_up_id] using hP)
      refine lv_if_ne (tgt := 63) hx hb dL_accesses_46 (by decide) (fun c17 => ?_) (fun c17 => ?_)
      · have hf := cx_f hf c17
        refine lv_aload_n hx hb dL_accesses_63 rfl (lv_at hl 1 rfl) ?_
        obtain ⟨r18, q19, hf⟩ := cx_b hf
        refine cx_callVZ (As := []) (rest := []) ⟨hx, hb, hml, hown, hts⟩ (c_L_someBlock hC (z := z) q19) (cwV 0 hts (gV mw_348 mw_349 mw_350 mw_2 mw_351) rfl rfl rfl hd_L_someBlock ⟨Nat.le_of_ble_eq_true rfl, Nat.le_of_ble_eq_true rfl⟩) hK hZ hP rfl (at_Law hC hP) rfl hl.1 rfl (Nat.le_of_ble_eq_true rfl) dL_accesses_64 ⟨Nat.zero_le _, Nat.zero_le _⟩ hL (fun H locs hP hL => ?_)
        replace hP : P r18.2 H := by first | exact hP | (simpa only [va_up_id] using hP)
        exact w_L_accesses_b67 C0 hZ hC hk216 r18.2 r3.1 r18.1 _ _ _ hf hP hL (lv_sub hl [1, 0] rfl)
      · have hf := cx_t hf c17
        refine lv_aload_n hx hb dL_accesses_49 rfl (lv_at hl 1 rfl) ?_
        refine g_Law_0 hC hP hx hb hts hown hK mw_12 dL_accesses_50 ?_
        refine lv_iload_n hx hb dL_accesses_53 rfl (lv_at hl 0 rfl) ?_
        refine lv_iconst (v := 4) hx hb dL_accesses_54 (by decide) ?_
        obtain ⟨r20, q21, hf⟩ := cx_b hf
        refine cx_callSX (As := [.ref ((adLG ad) 0), .int r3.1, .int 4]) (rest := []) ⟨hx, hb, hml, hown, hts⟩ (c_L_client (cx_lwG hC r15.2) q21) (vx_cwSW 3 hts (gSWx mw_301 mw_302 mw_2 mw_303) rfl rfl rfl hd_L_client.2 ⟨Nat.le_of_ble_eq_true rfl, Nat.le_of_ble_eq_true rfl⟩) hK (show P (r15.2.1, r15.2.2) _ by (repeat rw [va_up_id]); exact hP) rfl hl.1 rfl (Nat.le_of_ble_eq_true rfl) dL_accesses_55 ⟨Nat.zero_le _, Nat.zero_le _⟩ hL (fun H locs hP hL => ?_)
        replace hP : P r15.2 H := by first | exact hP | (simpa only [va_up_id] using hP)
        refine lv_iconst (v := 1) hx hb dL_accesses_58 (by decide) ?_
        refine lv_iadd hx hb dL_accesses_59 ?_
        refine lv_goto (tgt := 67) hx hb dL_accesses_60 (by decide) ?_
        exact w_L_accesses_b67 C0 hZ hC hk216 r15.2 r3.1 (r20 + 1) _ _ _ hf hP hL (lv_sub hl [1, 0] rfl)
def f_L_accesses_b744 (N : Nat) (nhad : Nat) (z : ZS) (δ : LwS) (h : (Nat → Int32)) (x4 : Int32) (x5 : Int32) (x6 : Int32) : Option (Int32 × LwS × ((Nat → Int32))) := if x4 = 0 then some (1, δ, h) else if x5 = 0 then some (1, δ, h) else if x6 = 2 then some (1, δ, h) else some (0, δ, h)
set_option maxHeartbeats 4000000 in
set_option maxRecDepth 100000 in
theorem w_L_accesses_b744 {p : Program} {l : Launch} {e : Env} {s : State} {m : MethodId} {args : Array Value} {below : List Frame} {meth : Method} {c : Code} {G : va_G} {cA : Nat → ClassId} (C0 : cB p s m args meth c RL cL_accesses 17 (some .boolean) G cA) {lo : Nat} {z : ZS} (hZ : Zt lo z s) {ad : Nat → Nat} {adhad : Nat → Nat} {nhad : Nat} {sv : Nat → Option Nat} {P : LwS → ((Nat → Int32)) → Heap → Prop} (hC : ∀ z0 : (Nat → Int32), cx G lo 264 ad (ceLaw z.1 sv cA ad) (fun x => P x z0)) (hChad : ∀ z0 : LwS, cx G lo 1 adhad (ceArr nhad cA adhad) (fun x => P z0 x)) {N : Nat} {res : Int32 × LwS × ((Nat → Int32))} : ∀ (δ : LwS) (h : (Nat → Int32)) (x4 : Int32) (x5 : Int32) (x6 : Int32) (H : Heap) (locs : List Loc) (ls : Array Slot), f_L_accesses_b744 N nhad z δ h x4 x5 x6 = some res → P δ h H → (∀ q ∈ locs, lo ≤ q.base) → lv_has ls 17 [(4, .int x4), (5, .int x5), (6, .int x6)] → W p l e rm_L_accesses s m args below meth c H locs 1 6 (MQ below (cQ (some (.int res.1)) (P res.2.1 res.2.2)) args s 1 6 (fun q => lo ≤ q)) (F0 m 744 ls []) := by
  obtain ⟨⟨hx, hb, hml, hown, hts⟩, hr, hlocks, hK⟩ := id C0
  intro δ h x4 x5 x6 H locs ls hf hP hL hl
  unfold f_L_accesses_b744 at hf
  refine lv_iload hx hb dL_accesses_744 (lv_at hl 0 rfl) ?_
  refine lv_if_eq (tgt := 760) hx hb dL_accesses_746 (by decide) (fun c1 => ?_) (fun c1 => ?_)
  · have hf := cx_t hf c1
    refine lv_iconst (v := 1) hx hb dL_accesses_760 (by decide) ?_
    refine lv_goto (tgt := 765) hx hb dL_accesses_761 (by decide) ?_
    cases hf
    exact cx_zret hx hb hr hlocks (Or.inr rfl) hP hL dL_accesses_765
  · have hf := cx_f hf c1
    refine lv_iload hx hb dL_accesses_749 (lv_at hl 1 rfl) ?_
    refine lv_if_eq (tgt := 760) hx hb dL_accesses_751 (by decide) (fun c2 => ?_) (fun c2 => ?_)
    · have hf := cx_t hf c2
      refine lv_iconst (v := 1) hx hb dL_accesses_760 (by decide) ?_
      refine lv_goto (tgt := 765) hx hb dL_accesses_761 (by decide) ?_
      cases hf
      exact cx_zret hx hb hr hlocks (Or.inr rfl) hP hL dL_accesses_765
    · have hf := cx_f hf c2
      refine lv_iload hx hb dL_accesses_754 (lv_at hl 2 rfl) ?_
      refine lv_iconst (v := 2) hx hb dL_accesses_756 (by decide) ?_
      refine lv_icmp_ne (tgt := 764) hx hb dL_accesses_757 (by decide) (fun c3 => ?_) (fun c3 => ?_)
      · have hf := cx_f hf c3
        refine lv_iconst (v := 0) hx hb dL_accesses_764 (by decide) ?_
        cases hf
        exact cx_zret hx hb hr hlocks (Or.inl rfl) hP hL dL_accesses_765
      · have hf := cx_t hf c3
        refine lv_iconst (v := 1) hx hb dL_accesses_760 (by decide) ?_
        refine lv_goto (tgt := 765) hx hb dL_accesses_761 (by decide) ?_
        cases hf
        exact cx_zret hx hb hr hlocks (Or.inr rfl) hP hL dL_accesses_765
def f_L_accesses_b713 (N : Nat) (nhad : Nat) (z : ZS) (δ : LwS) (h : (Nat → Int32)) (x4 : Int32) (x5 : Int32) (x6 : Int32) (x8 : Int32) : Option (Int32 × LwS × ((Nat → Int32))) := if x8 < 0 then if x5 = 1 then f_L_accesses_b744 N nhad z δ h x4 x5 x6 else if 2 ≤ x6 then some (0, δ, h) else f_L_accesses_b744 N nhad z δ h x4 x5 x6 else (f_L_block N δ.2 x8 0).bind fun r4 => if r4 = (-1) then if x5 = 1 then f_L_accesses_b744 N nhad z δ h x4 x5 x6 else if 2 ≤ x6 then some (0, δ, h) else f_L_accesses_b744 N nhad z δ h x4 x5 x6 else some (0, δ, h)
set_option maxHeartbeats 4000000 in
set_option maxRecDepth 100000 in
theorem w_L_accesses_b713 {p : Program} {l : Launch} {e : Env} {s : State} {m : MethodId} {args : Array Value} {below : List Frame} {meth : Method} {c : Code} {G : va_G} {cA : Nat → ClassId} (C0 : cB p s m args meth c RL cL_accesses 17 (some .boolean) G cA) {lo : Nat} {z : ZS} (hZ : Zt lo z s) {ad : Nat → Nat} {adhad : Nat → Nat} {nhad : Nat} {sv : Nat → Option Nat} {P : LwS → ((Nat → Int32)) → Heap → Prop} (hC : ∀ z0 : (Nat → Int32), cx G lo 264 ad (ceLaw z.1 sv cA ad) (fun x => P x z0)) (hChad : ∀ z0 : LwS, cx G lo 1 adhad (ceArr nhad cA adhad) (fun x => P z0 x)) {N : Nat} {res : Int32 × LwS × ((Nat → Int32))} : ∀ (δ : LwS) (h : (Nat → Int32)) (x4 : Int32) (x5 : Int32) (x6 : Int32) (x8 : Int32) (H : Heap) (locs : List Loc) (ls : Array Slot), f_L_accesses_b713 N nhad z δ h x4 x5 x6 x8 = some res → P δ h H → (∀ q ∈ locs, lo ≤ q.base) → lv_has ls 17 [(0, .ref (ad 0)), (4, .int x4), (5, .int x5), (6, .int x6), (8, .int x8)] → W p l e rm_L_accesses s m args below meth c H locs 1 6 (MQ below (cQ (some (.int res.1)) (P res.2.1 res.2.2)) args s 1 6 (fun q => lo ≤ q)) (F0 m 713 ls []) := by
  obtain ⟨⟨hx, hb, hml, hown, hts⟩, hr, hlocks, hK⟩ := id C0
  intro δ h x4 x5 x6 x8 H locs ls hf hP hL hl
  unfold f_L_accesses_b713 at hf
  refine lv_iload hx hb dL_accesses_713 (lv_at hl 4 rfl) ?_
  refine lv_if_lt (tgt := 732) hx hb dL_accesses_715 (by decide) (fun c1 => ?_) (fun c1 => ?_)
  · have hf := cx_t hf c1
    refine lv_iload hx hb dL_accesses_732 (lv_at hl 2 rfl) ?_
    refine lv_iconst (v := 1) hx hb dL_accesses_734 (by decide) ?_
    refine lv_icmp_eq (tgt := 744) hx hb dL_accesses_735 (by decide) (fun c2 => ?_) (fun c2 => ?_)
    · have hf := cx_t hf c2
      exact w_L_accesses_b744 C0 hZ hC hChad δ h x4 x5 x6 _ _ _ hf hP hL (lv_sub hl [1, 2, 3] rfl)
    · have hf := cx_f hf c2
      refine lv_iload hx hb dL_accesses_738 (lv_at hl 3 rfl) ?_
      refine lv_iconst (v := 2) hx hb dL_accesses_740 (by decide) ?_
      refine lv_icmp_ge (tgt := 764) hx hb dL_accesses_741 (by decide) (fun c3 => ?_) (fun c3 => ?_)
      · have hf := cx_t hf c3
        refine lv_iconst (v := 0) hx hb dL_accesses_764 (by decide) ?_
        cases hf
        exact cx_zret hx hb hr hlocks (Or.inl rfl) hP hL dL_accesses_765
      · have hf := cx_f hf c3
        exact w_L_accesses_b744 C0 hZ hC hChad δ h x4 x5 x6 _ _ _ hf hP hL (lv_sub hl [1, 2, 3] rfl)
  · have hf := cx_f hf c1
    refine lv_aload_n hx hb dL_accesses_718 rfl (lv_at hl 0 rfl) ?_
    refine g_Law_0 (hC h) hP hx hb hts hown hK mw_12 dL_accesses_719 ?_
    refine lv_iload hx hb dL_accesses_722 (lv_at hl 4 rfl) ?_
    refine lv_iconst (v := 0) hx hb dL_accesses_724 (by decide) ?_
    obtain ⟨r4, q5, hf⟩ := cx_b hf
    refine cx_callSX (As := [.ref ((adLG ad) 0), .int x8, .int 0]) (rest := []) ⟨hx, hb, hml, hown, hts⟩ (c_L_block (cx_lwG (hC h) δ) q5) (vx_cwSW 3 hts (gSWx mw_353 mw_354 mw_2 mw_355) rfl rfl rfl hd_L_block.2 ⟨Nat.le_of_ble_eq_true rfl, Nat.le_of_ble_eq_true rfl⟩) hK (show P (δ.1, δ.2) h _ by (repeat rw [va_up_id]); exact hP) rfl hl.1 rfl (Nat.le_of_ble_eq_true rfl) dL_accesses_725 ⟨by decide, by decide⟩ hL (fun H locs hP hL => ?_)
    replace hP : P δ h H := by first | exact hP | (simpa only [va_up_id] using hP)
    refine lv_iconst (v := (-1)) hx hb dL_accesses_728 (by decide) ?_
    refine lv_icmp_ne (tgt := 764) hx hb dL_accesses_729 (by decide) (fun c6 => ?_) (fun c6 => ?_)
    · have hf := cx_f hf c6
      refine lv_iconst (v := 0) hx hb dL_accesses_764 (by decide) ?_
      cases hf
      exact cx_zret hx hb hr hlocks (Or.inl rfl) hP hL dL_accesses_765
    · have hf := cx_t hf c6
      refine lv_iload hx hb dL_accesses_732 (lv_at hl 2 rfl) ?_
      refine lv_iconst (v := 1) hx hb dL_accesses_734 (by decide) ?_
      refine lv_icmp_eq (tgt := 744) hx hb dL_accesses_735 (by decide) (fun c7 => ?_) (fun c7 => ?_)
      · have hf := cx_t hf c7
        exact w_L_accesses_b744 C0 hZ hC hChad δ h x4 x5 x6 _ _ _ hf hP hL (lv_sub hl [1, 2, 3] rfl)
      · have hf := cx_f hf c7
        refine lv_iload hx hb dL_accesses_738 (lv_at hl 3 rfl) ?_
        refine lv_iconst (v := 2) hx hb dL_accesses_740 (by decide) ?_
        refine lv_icmp_ge (tgt := 764) hx hb dL_accesses_741 (by decide) (fun c8 => ?_) (fun c8 => ?_)
        · have hf := cx_t hf c8
          refine lv_iconst (v := 0) hx hb dL_accesses_764 (by decide) ?_
          cases hf
          exact cx_zret hx hb hr hlocks (Or.inl rfl) hP hL dL_accesses_765
        · have hf := cx_f hf c8
          exact w_L_accesses_b744 C0 hZ hC hChad δ h x4 x5 x6 _ _ _ hf hP hL (lv_sub hl [1, 2, 3] rfl)
def f_L_accesses_b621 (N : Nat) (nhad : Nat) (z : ZS) (δ : LwS) (h : (Nat → Int32)) (x1 : Int32) (x2 : Int32) (x4 : Int32) (x5 : Int32) (x6 : Int32) (x7 : Int32) (x8 : Int32) (x10 : Int32) (x11 : Int32) : Option (Int32 × LwS × ((Nat → Int32))) := (f_L_block N δ.2 x2 3).bind fun r1 => if r1 = x1 then (f_L_count N δ.2 4).bind fun r4 => if r4 = x10 then (f_L_client N δ.2 x1 4).bind fun r7 => if r7 = x2 then if x7 < 0 then f_L_accesses_b713 N nhad z δ h x4 x5 x6 x8 else (f_L_block N δ.2 x7 0).bind fun r11 => if r11 = 2 then (f_L_block N δ.2 x7 5).bind fun r14 => if r14 < 3 then some (0, δ, h) else if x11 = 0 then some (0, δ, h) else if x4 = 0 then some (0, δ, h) else if x5 = 1 then some (0, δ, h) else f_L_accesses_b713 N nhad z δ h x4 x5 x6 x8 else some (0, δ, h) else some (0, δ, h) else some (0, δ, h) else some (0, δ, h)
set_option maxHeartbeats 4000000 in
set_option maxRecDepth 100000 in
theorem w_L_accesses_b621 {p : Program} {l : Launch} {e : Env} {s : State} {m : MethodId} {args : Array Value} {below : List Frame} {meth : Method} {c : Code} {G : va_G} {cA : Nat → ClassId} (C0 : cB p s m args meth c RL cL_accesses 17 (some .boolean) G cA) {lo : Nat} {z : ZS} (hZ : Zt lo z s) {ad : Nat → Nat} {adhad : Nat → Nat} {nhad : Nat} {sv : Nat → Option Nat} {P : LwS → ((Nat → Int32)) → Heap → Prop} (hC : ∀ z0 : (Nat → Int32), cx G lo 264 ad (ceLaw z.1 sv cA ad) (fun x => P x z0)) (hChad : ∀ z0 : LwS, cx G lo 1 adhad (ceArr nhad cA adhad) (fun x => P z0 x)) {N : Nat} {res : Int32 × LwS × ((Nat → Int32))} : ∀ (δ : LwS) (h : (Nat → Int32)) (x1 : Int32) (x2 : Int32) (x4 : Int32) (x5 : Int32) (x6 : Int32) (x7 : Int32) (x8 : Int32) (x10 : Int32) (x11 : Int32) (H : Heap) (locs : List Loc) (ls : Array Slot), f_L_accesses_b621 N nhad z δ h x1 x2 x4 x5 x6 x7 x8 x10 x11 = some res → P δ h H → (∀ q ∈ locs, lo ≤ q.base) → lv_has ls 17 [(0, .ref (ad 0)), (1, .int x1), (2, .int x2), (4, .int x4), (5, .int x5), (6, .int x6), (7, .int x7), (8, .int x8), (10, .int x10), (11, .int x11)] → W p l e rm_L_accesses s m args below meth c H locs 1 6 (MQ below (cQ (some (.int res.1)) (P res.2.1 res.2.2)) args s 1 6 (fun q => lo ≤ q)) (F0 m 621 ls []) := by
  obtain ⟨⟨hx, hb, hml, hown, hts⟩, hr, hlocks, hK⟩ := id C0
  intro δ h x1 x2 x4 x5 x6 x7 x8 x10 x11 H locs ls hf hP hL hl
  unfold f_L_accesses_b621 at hf
  refine lv_aload_n hx hb dL_accesses_621 rfl (lv_at hl 0 rfl) ?_
  refine g_Law_0 (hC h) hP hx hb hts hown hK mw_12 dL_accesses_622 ?_
  refine lv_iload_n hx hb dL_accesses_625 rfl (lv_at hl 2 rfl) ?_
  refine lv_iconst (v := 3) hx hb dL_accesses_626 (by decide) ?_
  obtain ⟨r1, q2, hf⟩ := cx_b hf
  refine cx_callSX (As := [.ref ((adLG ad) 0), .int x2, .int 3]) (rest := []) ⟨hx, hb, hml, hown, hts⟩ (c_L_block (cx_lwG (hC h) δ) q2) (vx_cwSW 3 hts (gSWx mw_353 mw_354 mw_2 mw_355) rfl rfl rfl hd_L_block.2 ⟨Nat.le_of_ble_eq_true rfl, Nat.le_of_ble_eq_true rfl⟩) hK (show P (δ.1, δ.2) h _ by (repeat rw [va_up_id]); exact hP) rfl hl.1 rfl (Nat.le_of_ble_eq_true rfl) dL_accesses_627 ⟨by decide, by decide⟩ hL (fun H locs hP hL => ?_)
  replace hP : P δ h H := by first | exact hP | (simpa only [va_up_id] using hP)
  refine lv_iload_n hx hb dL_accesses_630 rfl (lv_at hl 1 rfl) ?_
  refine lv_icmp_ne (tgt := 660) hx hb dL_accesses_631 (by decide) (fun c3 => ?_) (fun c3 => ?_)
  · have hf := cx_f hf c3
    refine lv_iconst (v := 0) hx hb dL_accesses_660 (by decide) ?_
    cases hf
    exact cx_zret hx hb hr hlocks (Or.inl rfl) hP hL dL_accesses_661
  · have hf := cx_t hf c3
    refine lv_aload_n hx hb dL_accesses_634 rfl (lv_at hl 0 rfl) ?_
    refine g_Law_0 (hC h) hP hx hb hts hown hK mw_12 dL_accesses_635 ?_
    refine lv_iconst (v := 4) hx hb dL_accesses_638 (by decide) ?_
    obtain ⟨r4, q5, hf⟩ := cx_b hf
    refine cx_callSX (As := [.ref ((adLG ad) 0), .int 4]) (rest := []) ⟨hx, hb, hml, hown, hts⟩ (c_L_count (cx_lwG (hC h) δ) q5) (vx_cwSW 2 hts (gSWx mw_275 mw_276 mw_2 mw_277) rfl rfl rfl hd_L_count.2 ⟨Nat.le_of_ble_eq_true rfl, Nat.le_of_ble_eq_true rfl⟩) hK (show P (δ.1, δ.2) h _ by (repeat rw [va_up_id]); exact hP) rfl hl.1 rfl (Nat.le_of_ble_eq_true rfl) dL_accesses_639 ⟨by decide, by decide⟩ hL (fun H locs hP hL => ?_)
    replace hP : P δ h H := by first | exact hP | (simpa only [va_up_id] using hP)
    refine lv_iload hx hb dL_accesses_642 (lv_at hl 8 rfl) ?_
    refine lv_icmp_ne (tgt := 660) hx hb dL_accesses_644 (by decide) (fun c6 => ?_) (fun c6 => ?_)
    · have hf := cx_f hf c6
      refine lv_iconst (v := 0) hx hb dL_accesses_660 (by decide) ?_
      cases hf
      exact cx_zret hx hb hr hlocks (Or.inl rfl) hP hL dL_accesses_661
    · have hf := cx_t hf c6
      refine lv_aload_n hx hb dL_accesses_647 rfl (lv_at hl 0 rfl) ?_
      refine g_Law_0 (hC h) hP hx hb hts hown hK mw_12 dL_accesses_648 ?_
      refine lv_iload_n hx hb dL_accesses_651 rfl (lv_at hl 1 rfl) ?_
      refine lv_iconst (v := 4) hx hb dL_accesses_652 (by decide) ?_
      obtain ⟨r7, q8, hf⟩ := cx_b hf
      refine cx_callSX (As := [.ref ((adLG ad) 0), .int x1, .int 4]) (rest := []) ⟨hx, hb, hml, hown, hts⟩ (c_L_client (cx_lwG (hC h) δ) q8) (vx_cwSW 3 hts (gSWx mw_301 mw_302 mw_2 mw_303) rfl rfl rfl hd_L_client.2 ⟨Nat.le_of_ble_eq_true rfl, Nat.le_of_ble_eq_true rfl⟩) hK (show P (δ.1, δ.2) h _ by (repeat rw [va_up_id]); exact hP) rfl hl.1 rfl (Nat.le_of_ble_eq_true rfl) dL_accesses_653 ⟨by decide, by decide⟩ hL (fun H locs hP hL => ?_)
      replace hP : P δ h H := by first | exact hP | (simpa only [va_up_id] using hP)
      refine lv_iload_n hx hb dL_accesses_656 rfl (lv_at hl 2 rfl) ?_
      refine lv_icmp_eq (tgt := 662) hx hb dL_accesses_657 (by decide) (fun c9 => ?_) (fun c9 => ?_)
      · have hf := cx_t hf c9
        refine lv_iload hx hb dL_accesses_662 (lv_at hl 6 rfl) ?_
        refine lv_if_lt (tgt := 713) hx hb dL_accesses_664 (by decide) (fun c10 => ?_) (fun c10 => ?_)
        · have hf := cx_t hf c10
          exact w_L_accesses_b713 C0 hZ hC hChad δ h x4 x5 x6 x8 _ _ _ hf hP hL (lv_sub hl [0, 3, 4, 5, 7] rfl)
        · have hf := cx_f hf c10
          refine lv_aload_n hx hb dL_accesses_667 rfl (lv_at hl 0 rfl) ?_
          refine g_Law_0 (hC h) hP hx hb hts hown hK mw_12 dL_accesses_668 ?_
          refine lv_iload hx hb dL_accesses_671 (lv_at hl 6 rfl) ?_
          refine lv_iconst (v := 0) hx hb dL_accesses_673 (by decide) ?_
          obtain ⟨r11, q12, hf⟩ := cx_b hf
          refine cx_callSX (As := [.ref ((adLG ad) 0), .int x7, .int 0]) (rest := []) ⟨hx, hb, hml, hown, hts⟩ (c_L_block (cx_lwG (hC h) δ) q12) (vx_cwSW 3 hts (gSWx mw_353 mw_354 mw_2 mw_355) rfl rfl rfl hd_L_block.2 ⟨Nat.le_of_ble_eq_true rfl, Nat.le_of_ble_eq_true rfl⟩) hK (show P (δ.1, δ.2) h _ by (repeat rw [va_up_id]); exact hP) rfl hl.1 rfl (Nat.le_of_ble_eq_true rfl) dL_accesses_674 ⟨by decide, by decide⟩ hL (fun H locs hP hL => ?_)
          replace hP : P δ h H := by first | exact hP | (simpa only [va_up_id] using hP)
          refine lv_iconst (v := 2) hx hb dL_accesses_677 (by decide) ?_
          refine lv_icmp_ne (tgt := 711) hx hb dL_accesses_678 (by decide) (fun c13 => ?_) (fun c13 => ?_)
          · have hf := cx_f hf c13
            refine lv_iconst (v := 0) hx hb dL_accesses_711 (by decide) ?_
            cases hf
            exact cx_zret hx hb hr hlocks (Or.inl rfl) hP hL dL_accesses_712
          · have hf := cx_t hf c13
            refine lv_aload_n hx hb dL_accesses_681 rfl (lv_at hl 0 rfl) ?_
            refine g_Law_0 (hC h) hP hx hb hts hown hK mw_12 dL_accesses_682 ?_
            refine lv_iload hx hb dL_accesses_685 (lv_at hl 6 rfl) ?_
            refine lv_iconst (v := 5) hx hb dL_accesses_687 (by decide) ?_
            obtain ⟨r14, q15, hf⟩ := cx_b hf
            refine cx_callSX (As := [.ref ((adLG ad) 0), .int x7, .int 5]) (rest := []) ⟨hx, hb, hml, hown, hts⟩ (c_L_block (cx_lwG (hC h) δ) q15) (vx_cwSW 3 hts (gSWx mw_353 mw_354 mw_2 mw_355) rfl rfl rfl hd_L_block.2 ⟨Nat.le_of_ble_eq_true rfl, Nat.le_of_ble_eq_true rfl⟩) hK (show P (δ.1, δ.2) h _ by (repeat rw [va_up_id]); exact hP) rfl hl.1 rfl (Nat.le_of_ble_eq_true rfl) dL_accesses_688 ⟨by decide, by decide⟩ hL (fun H locs hP hL => ?_)
            replace hP : P δ h H := by first | exact hP | (simpa only [va_up_id] using hP)
            refine lv_iconst (v := 3) hx hb dL_accesses_691 (by decide) ?_
            refine lv_icmp_lt (tgt := 711) hx hb dL_accesses_692 (by decide) (fun c16 => ?_) (fun c16 => ?_)
            · have hf := cx_t hf c16
              refine lv_iconst (v := 0) hx hb dL_accesses_711 (by decide) ?_
              cases hf
              exact cx_zret hx hb hr hlocks (Or.inl rfl) hP hL dL_accesses_712
            · have hf := cx_f hf c16
              refine lv_iload hx hb dL_accesses_695 (lv_at hl 9 rfl) ?_
              refine lv_if_eq (tgt := 711) hx hb dL_accesses_697 (by decide) (fun c17 => ?_) (fun c17 => ?_)
              · have hf := cx_t hf c17
                refine lv_iconst (v := 0) hx hb dL_accesses_711 (by decide) ?_
                cases hf
                exact cx_zret hx hb hr hlocks (Or.inl rfl) hP hL dL_accesses_712
              · have hf := cx_f hf c17
                refine lv_iload hx hb dL_accesses_700 (lv_at hl 3 rfl) ?_
                refine lv_if_eq (tgt := 711) hx hb dL_accesses_702 (by decide) (fun c18 => ?_) (fun c18 => ?_)
                · have hf := cx_t hf c18
                  refine lv_iconst (v := 0) hx hb dL_accesses_711 (by decide) ?_
                  cases hf
                  exact cx_zret hx hb hr hlocks (Or.inl rfl) hP hL dL_accesses_712
                · have hf := cx_f hf c18
                  refine lv_iload hx hb dL_accesses_705 (lv_at hl 4 rfl) ?_
                  refine lv_iconst (v := 1) hx hb dL_accesses_707 (by decide) ?_
                  refine lv_icmp_ne (tgt := 713) hx hb dL_accesses_708 (by decide) (fun c19 => ?_) (fun c19 => ?_)
                  · have hf := cx_f hf c19
                    exact w_L_accesses_b713 C0 hZ hC hChad δ h x4 x5 x6 x8 _ _ _ hf hP hL (lv_sub hl [0, 3, 4, 5, 7] rfl)
                  · have hf := cx_t hf c19
                    refine lv_iconst (v := 0) hx hb dL_accesses_711 (by decide) ?_
                    cases hf
                    exact cx_zret hx hb hr hlocks (Or.inl rfl) hP hL dL_accesses_712
      · have hf := cx_f hf c9
        refine lv_iconst (v := 0) hx hb dL_accesses_660 (by decide) ?_
        cases hf
        exact cx_zret hx hb hr hlocks (Or.inl rfl) hP hL dL_accesses_661
def f_L_accesses_b584 (N : Nat) (nhad : Nat) (z : ZS) (δ : LwS) (h : (Nat → Int32)) (x1 : Int32) (x2 : Int32) (x4 : Int32) (x5 : Int32) (x6 : Int32) (x7 : Int32) (x8 : Int32) (x10 : Int32) (x11 : Int32) (y0 : Int32) (y1 : Int32) (y2 : Int32) : Option (Int32 × LwS × ((Nat → Int32))) := if y2 = (y1 + y0) then (f_L_block N δ.2 x2 0).bind fun r2 => if r2 = x6 then (f_L_block N δ.2 x2 1).bind fun r5 => if r5 = 0 then f_L_accesses_b621 N nhad z δ h x1 x2 x4 x5 x6 x7 x8 x10 x11 else if 0 < x4 then some (0, δ, h) else f_L_accesses_b621 N nhad z δ h x1 x2 x4 x5 x6 x7 x8 x10 x11 else some (0, δ, h) else some (0, δ, h)
set_option maxHeartbeats 4000000 in
set_option maxRecDepth 100000 in
theorem w_L_accesses_b584 {p : Program} {l : Launch} {e : Env} {s : State} {m : MethodId} {args : Array Value} {below : List Frame} {meth : Method} {c : Code} {G : va_G} {cA : Nat → ClassId} (C0 : cB p s m args meth c RL cL_accesses 17 (some .boolean) G cA) {lo : Nat} {z : ZS} (hZ : Zt lo z s) {ad : Nat → Nat} {adhad : Nat → Nat} {nhad : Nat} {sv : Nat → Option Nat} {P : LwS → ((Nat → Int32)) → Heap → Prop} (hC : ∀ z0 : (Nat → Int32), cx G lo 264 ad (ceLaw z.1 sv cA ad) (fun x => P x z0)) (hChad : ∀ z0 : LwS, cx G lo 1 adhad (ceArr nhad cA adhad) (fun x => P z0 x)) {N : Nat} {res : Int32 × LwS × ((Nat → Int32))} : ∀ (δ : LwS) (h : (Nat → Int32)) (x1 : Int32) (x2 : Int32) (x4 : Int32) (x5 : Int32) (x6 : Int32) (x7 : Int32) (x8 : Int32) (x10 : Int32) (x11 : Int32) (y0 : Int32) (y1 : Int32) (y2 : Int32) (H : Heap) (locs : List Loc) (ls : Array Slot), f_L_accesses_b584 N nhad z δ h x1 x2 x4 x5 x6 x7 x8 x10 x11 y0 y1 y2 = some res → P δ h H → (∀ q ∈ locs, lo ≤ q.base) → lv_has ls 17 [(0, .ref (ad 0)), (1, .int x1), (2, .int x2), (4, .int x4), (5, .int x5), (6, .int x6), (7, .int x7), (8, .int x8), (10, .int x10), (11, .int x11)] → W p l e rm_L_accesses s m args below meth c H locs 1 6 (MQ below (cQ (some (.int res.1)) (P res.2.1 res.2.2)) args s 1 6 (fun q => lo ≤ q)) (F0 m 584 ls [.int y0, .int y1, .int y2]) := by
  obtain ⟨⟨hx, hb, hml, hown, hts⟩, hr, hlocks, hK⟩ := id C0
  intro δ h x1 x2 x4 x5 x6 x7 x8 x10 x11 y0 y1 y2 H locs ls hf hP hL hl
  unfold f_L_accesses_b584 at hf
  refine lv_iadd hx hb dL_accesses_584 ?_
  refine lv_icmp_eq (tgt := 590) hx hb dL_accesses_585 (by decide) (fun c1 => ?_) (fun c1 => ?_)
  · have hf := cx_t hf c1
    refine lv_aload_n hx hb dL_accesses_590 rfl (lv_at hl 0 rfl) ?_
    refine g_Law_0 (hC h) hP hx hb hts hown hK mw_12 dL_accesses_591 ?_
    refine lv_iload_n hx hb dL_accesses_594 rfl (lv_at hl 2 rfl) ?_
    refine lv_iconst (v := 0) hx hb dL_accesses_595 (by decide) ?_
    obtain ⟨r2, q3, hf⟩ := cx_b hf
    refine cx_callSX (As := [.ref ((adLG ad) 0), .int x2, .int 0]) (rest := []) ⟨hx, hb, hml, hown, hts⟩ (c_L_block (cx_lwG (hC h) δ) q3) (vx_cwSW 3 hts (gSWx mw_353 mw_354 mw_2 mw_355) rfl rfl rfl hd_L_block.2 ⟨Nat.le_of_ble_eq_true rfl, Nat.le_of_ble_eq_true rfl⟩) hK (show P (δ.1, δ.2) h _ by (repeat rw [va_up_id]); exact hP) rfl hl.1 rfl (Nat.le_of_ble_eq_true rfl) dL_accesses_596 ⟨by decide, by decide⟩ hL (fun H locs hP hL => ?_)
    replace hP : P δ h H := by first | exact hP | (simpa only [va_up_id] using hP)
    refine lv_iload hx hb dL_accesses_599 (lv_at hl 5 rfl) ?_
    refine lv_icmp_ne (tgt := 660) hx hb dL_accesses_601 (by decide) (fun c4 => ?_) (fun c4 => ?_)
    · have hf := cx_f hf c4
      refine lv_iconst (v := 0) hx hb dL_accesses_660 (by decide) ?_
      cases hf
      exact cx_zret hx hb hr hlocks (Or.inl rfl) hP hL dL_accesses_661
    · have hf := cx_t hf c4
      refine lv_aload_n hx hb dL_accesses_604 rfl (lv_at hl 0 rfl) ?_
      refine g_Law_0 (hC h) hP hx hb hts hown hK mw_12 dL_accesses_605 ?_
      refine lv_iload_n hx hb dL_accesses_608 rfl (lv_at hl 2 rfl) ?_
      refine lv_iconst (v := 1) hx hb dL_accesses_609 (by decide) ?_
      obtain ⟨r5, q6, hf⟩ := cx_b hf
      refine cx_callSX (As := [.ref ((adLG ad) 0), .int x2, .int 1]) (rest := []) ⟨hx, hb, hml, hown, hts⟩ (c_L_block (cx_lwG (hC h) δ) q6) (vx_cwSW 3 hts (gSWx mw_353 mw_354 mw_2 mw_355) rfl rfl rfl hd_L_block.2 ⟨Nat.le_of_ble_eq_true rfl, Nat.le_of_ble_eq_true rfl⟩) hK (show P (δ.1, δ.2) h _ by (repeat rw [va_up_id]); exact hP) rfl hl.1 rfl (Nat.le_of_ble_eq_true rfl) dL_accesses_610 ⟨by decide, by decide⟩ hL (fun H locs hP hL => ?_)
      replace hP : P δ h H := by first | exact hP | (simpa only [va_up_id] using hP)
      refine lv_if_eq (tgt := 621) hx hb dL_accesses_613 (by decide) (fun c7 => ?_) (fun c7 => ?_)
      · have hf := cx_t hf c7
        exact w_L_accesses_b621 C0 hZ hC hChad δ h x1 x2 x4 x5 x6 x7 x8 x10 x11 _ _ _ hf hP hL (lv_sub hl [0, 1, 2, 3, 4, 5, 6, 7, 8, 9] rfl)
      · have hf := cx_f hf c7
        refine lv_iload hx hb dL_accesses_616 (lv_at hl 3 rfl) ?_
        refine lv_if_gt (tgt := 660) hx hb dL_accesses_618 (by decide) (fun c8 => ?_) (fun c8 => ?_)
        · have hf := cx_t hf c8
          refine lv_iconst (v := 0) hx hb dL_accesses_660 (by decide) ?_
          cases hf
          exact cx_zret hx hb hr hlocks (Or.inl rfl) hP hL dL_accesses_661
        · have hf := cx_f hf c8
          exact w_L_accesses_b621 C0 hZ hC hChad δ h x1 x2 x4 x5 x6 x7 x8 x10 x11 _ _ _ hf hP hL (lv_sub hl [0, 1, 2, 3, 4, 5, 6, 7, 8, 9] rfl)
  · have hf := cx_f hf c1
    refine lv_iconst (v := 0) hx hb dL_accesses_588 (by decide) ?_
    cases hf
    exact cx_zret hx hb hr hlocks (Or.inl rfl) hP hL dL_accesses_589
def f_L_accesses_b557 (N : Nat) (nhad : Nat) (z : ZS) (δ : LwS) (h : (Nat → Int32)) (x1 : Int32) (x2 : Int32) (x4 : Int32) (x5 : Int32) (x6 : Int32) (x7 : Int32) (x8 : Int32) (x10 : Int32) (x11 : Int32) (y0 : Int32) (y1 : Int32) (y2 : Int32) : Option (Int32 × LwS × ((Nat → Int32))) := if y2 = (y1 + y0) then (f_L_count N δ.2 20).bind fun r2 => gd 2 nhad (if 0 ≤ x8 then f_L_accesses_b584 N nhad z δ h x1 x2 x4 x5 x6 x7 x8 x10 x11 1 (h (Int32.toNatClampNeg 2)) r2 else f_L_accesses_b584 N nhad z δ h x1 x2 x4 x5 x6 x7 x8 x10 x11 0 (h (Int32.toNatClampNeg 2)) r2) else some (0, δ, h)
set_option maxHeartbeats 4000000 in
set_option maxRecDepth 100000 in
theorem w_L_accesses_b557 {p : Program} {l : Launch} {e : Env} {s : State} {m : MethodId} {args : Array Value} {below : List Frame} {meth : Method} {c : Code} {G : va_G} {cA : Nat → ClassId} (C0 : cB p s m args meth c RL cL_accesses 17 (some .boolean) G cA) {lo : Nat} {z : ZS} (hZ : Zt lo z s) {ad : Nat → Nat} {adhad : Nat → Nat} {nhad : Nat} {sv : Nat → Option Nat} {P : LwS → ((Nat → Int32)) → Heap → Prop} (hC : ∀ z0 : (Nat → Int32), cx G lo 264 ad (ceLaw z.1 sv cA ad) (fun x => P x z0)) (hChad : ∀ z0 : LwS, cx G lo 1 adhad (ceArr nhad cA adhad) (fun x => P z0 x)) {N : Nat} {res : Int32 × LwS × ((Nat → Int32))} : ∀ (δ : LwS) (h : (Nat → Int32)) (x1 : Int32) (x2 : Int32) (x4 : Int32) (x5 : Int32) (x6 : Int32) (x7 : Int32) (x8 : Int32) (x10 : Int32) (x11 : Int32) (y0 : Int32) (y1 : Int32) (y2 : Int32) (H : Heap) (locs : List Loc) (ls : Array Slot), f_L_accesses_b557 N nhad z δ h x1 x2 x4 x5 x6 x7 x8 x10 x11 y0 y1 y2 = some res → P δ h H → (∀ q ∈ locs, lo ≤ q.base) → lv_has ls 17 [(0, .ref (ad 0)), (1, .int x1), (2, .int x2), (4, .int x4), (5, .int x5), (6, .int x6), (7, .int x7), (8, .int x8), (10, .int x10), (11, .int x11), (12, .ref (adhad 0))] → W p l e rm_L_accesses s m args below meth c H locs 1 6 (MQ below (cQ (some (.int res.1)) (P res.2.1 res.2.2)) args s 1 6 (fun q => lo ≤ q)) (F0 m 557 ls [.int y0, .int y1, .int y2]) := by
  obtain ⟨⟨hx, hb, hml, hown, hts⟩, hr, hlocks, hK⟩ := id C0
  intro δ h x1 x2 x4 x5 x6 x7 x8 x10 x11 y0 y1 y2 H locs ls hf hP hL hl
  unfold f_L_accesses_b557 at hf
  refine lv_iadd hx hb dL_accesses_557 ?_
  refine lv_icmp_ne (tgt := 588) hx hb dL_accesses_558 (by decide) (fun c1 => ?_) (fun c1 => ?_)
  · have hf := cx_f hf c1
    refine lv_iconst (v := 0) hx hb dL_accesses_588 (by decide) ?_
    cases hf
    exact cx_zret hx hb hr hlocks (Or.inl rfl) hP hL dL_accesses_589
  · have hf := cx_t hf c1
    refine lv_aload_n hx hb dL_accesses_561 rfl (lv_at hl 0 rfl) ?_
    refine g_Law_0 (hC h) hP hx hb hts hown hK mw_12 dL_accesses_562 ?_
    refine lv_bipush (v := 20) hx hb dL_accesses_565 (by decide) ?_
    obtain ⟨r2, q3, hf⟩ := cx_b hf
    refine cx_callSX (As := [.ref ((adLG ad) 0), .int 20]) (rest := []) ⟨hx, hb, hml, hown, hts⟩ (c_L_count (cx_lwG (hC h) δ) q3) (vx_cwSW 2 hts (gSWx mw_275 mw_276 mw_2 mw_277) rfl rfl rfl hd_L_count.2 ⟨Nat.le_of_ble_eq_true rfl, Nat.le_of_ble_eq_true rfl⟩) hK (show P (δ.1, δ.2) h _ by (repeat rw [va_up_id]); exact hP) rfl hl.1 rfl (Nat.le_of_ble_eq_true rfl) dL_accesses_567 ⟨by decide, by decide⟩ hL (fun H locs hP hL => ?_)
    replace hP : P δ h H := by first | exact hP | (simpa only [va_up_id] using hP)
    refine lv_aload hx hb dL_accesses_570 (lv_at hl 10 rfl) ?_
    refine lv_iconst (v := 2) hx hb dL_accesses_572 (by decide) ?_
    obtain ⟨hi4, hf⟩ := gdE hf
    refine ga_Arr_0 (hChad δ) hP hx hb hK hi4 dL_accesses_573 ?_
    refine lv_iload hx hb dL_accesses_574 (lv_at hl 7 rfl) ?_
    refine lv_if_ge (tgt := 583) hx hb dL_accesses_576 (by decide) (fun c5 => ?_) (fun c5 => ?_)
    · have hf := cx_t hf c5
      refine lv_iconst (v := 1) hx hb dL_accesses_583 (by decide) ?_
      exact w_L_accesses_b584 C0 hZ hC hChad δ h x1 x2 x4 x5 x6 x7 x8 x10 x11 1 (h (Int32.toNatClampNeg 2)) r2 _ _ _ hf hP hL (lv_sub hl [0, 1, 2, 3, 4, 5, 6, 7, 8, 9] rfl)
    · have hf := cx_f hf c5
      refine lv_iconst (v := 0) hx hb dL_accesses_579 (by decide) ?_
      refine lv_goto (tgt := 584) hx hb dL_accesses_580 (by decide) ?_
      exact w_L_accesses_b584 C0 hZ hC hChad δ h x1 x2 x4 x5 x6 x7 x8 x10 x11 0 (h (Int32.toNatClampNeg 2)) r2 _ _ _ hf hP hL (lv_sub hl [0, 1, 2, 3, 4, 5, 6, 7, 8, 9] rfl)
def f_L_accesses_b477 (N : Nat) (nhad : Nat) (z : ZS) (δ : LwS) (h : (Nat → Int32)) (x1 : Int32) (x2 : Int32) (x4 : Int32) (x5 : Int32) (x6 : Int32) (x7 : Int32) (x8 : Int32) (x10 : Int32) (x11 : Int32) : Option (Int32 × LwS × ((Nat → Int32))) := (f_L_count N δ.2 (14 + x4)).bind fun r1 => gd 0 nhad (if r1 = ((h (Int32.toNatClampNeg 0)) + 1) then (f_L_count N δ.2 5).bind fun r5 => gd 5 nhad (if r5 = ((h (Int32.toNatClampNeg 5)) + 1) then (f_L_count N δ.2 22).bind fun r9 => gd 4 nhad (if r9 = ((h (Int32.toNatClampNeg 4)) + x5) then (f_L_count N δ.2 19).bind fun r13 => gd 1 nhad (if 0 ≤ x7 then f_L_accesses_b557 N nhad z δ h x1 x2 x4 x5 x6 x7 x8 x10 x11 1 (h (Int32.toNatClampNeg 1)) r13 else f_L_accesses_b557 N nhad z δ h x1 x2 x4 x5 x6 x7 x8 x10 x11 0 (h (Int32.toNatClampNeg 1)) r13) else some (0, δ, h)) else some (0, δ, h)) else some (0, δ, h))
set_option maxHeartbeats 4000000 in
set_option maxRecDepth 100000 in
theorem w_L_accesses_b477 {p : Program} {l : Launch} {e : Env} {s : State} {m : MethodId} {args : Array Value} {below : List Frame} {meth : Method} {c : Code} {G : va_G} {cA : Nat → ClassId} (C0 : cB p s m args meth c RL cL_accesses 17 (some .boolean) G cA) {lo : Nat} {z : ZS} (hZ : Zt lo z s) {ad : Nat → Nat} {adhad : Nat → Nat} {nhad : Nat} {sv : Nat → Option Nat} {P : LwS → ((Nat → Int32)) → Heap → Prop} (hC : ∀ z0 : (Nat → Int32), cx G lo 264 ad (ceLaw z.1 sv cA ad) (fun x => P x z0)) (hChad : ∀ z0 : LwS, cx G lo 1 adhad (ceArr nhad cA adhad) (fun x => P z0 x)) {N : Nat} {res : Int32 × LwS × ((Nat → Int32))} : ∀ (δ : LwS) (h : (Nat → Int32)) (x1 : Int32) (x2 : Int32) (x4 : Int32) (x5 : Int32) (x6 : Int32) (x7 : Int32) (x8 : Int32) (x10 : Int32) (x11 : Int32) (H : Heap) (locs : List Loc) (ls : Array Slot), f_L_accesses_b477 N nhad z δ h x1 x2 x4 x5 x6 x7 x8 x10 x11 = some res → P δ h H → (∀ q ∈ locs, lo ≤ q.base) → lv_has ls 17 [(0, .ref (ad 0)), (1, .int x1), (2, .int x2), (4, .int x4), (5, .int x5), (6, .int x6), (7, .int x7), (8, .int x8), (10, .int x10), (11, .int x11), (12, .ref (adhad 0))] → W p l e rm_L_accesses s m args below meth c H locs 1 6 (MQ below (cQ (some (.int res.1)) (P res.2.1 res.2.2)) args s 1 6 (fun q => lo ≤ q)) (F0 m 477 ls []) := by
  obtain ⟨⟨hx, hb, hml, hown, hts⟩, hr, hlocks, hK⟩ := id C0
  intro δ h x1 x2 x4 x5 x6 x7 x8 x10 x11 H locs ls hf hP hL hl
  unfold f_L_accesses_b477 at hf
  refine lv_aload_n hx hb dL_accesses_477 rfl (lv_at hl 0 rfl) ?_
  refine g_Law_0 (hC h) hP hx hb hts hown hK mw_12 dL_accesses_478 ?_
  refine lv_bipush (v := 14) hx hb dL_accesses_481 (by decide) ?_
  refine lv_iload hx hb dL_accesses_483 (lv_at hl 3 rfl) ?_
  refine lv_iadd hx hb dL_accesses_485 ?_
  obtain ⟨r1, q2, hf⟩ := cx_b hf
  refine cx_callSX (As := [.ref ((adLG ad) 0), .int (14 + x4)]) (rest := []) ⟨hx, hb, hml, hown, hts⟩ (c_L_count (cx_lwG (hC h) δ) q2) (vx_cwSW 2 hts (gSWx mw_275 mw_276 mw_2 mw_277) rfl rfl rfl hd_L_count.2 ⟨Nat.le_of_ble_eq_true rfl, Nat.le_of_ble_eq_true rfl⟩) hK (show P (δ.1, δ.2) h _ by (repeat rw [va_up_id]); exact hP) rfl hl.1 rfl (Nat.le_of_ble_eq_true rfl) dL_accesses_486 ⟨by decide, by decide⟩ hL (fun H locs hP hL => ?_)
  replace hP : P δ h H := by first | exact hP | (simpa only [va_up_id] using hP)
  refine lv_aload hx hb dL_accesses_489 (lv_at hl 10 rfl) ?_
  refine lv_iconst (v := 0) hx hb dL_accesses_491 (by decide) ?_
  obtain ⟨hi3, hf⟩ := gdE hf
  refine ga_Arr_0 (hChad δ) hP hx hb hK hi3 dL_accesses_492 ?_
  refine lv_iconst (v := 1) hx hb dL_accesses_493 (by decide) ?_
  refine lv_iadd hx hb dL_accesses_494 ?_
  refine lv_icmp_ne (tgt := 588) hx hb dL_accesses_495 (by decide) (fun c4 => ?_) (fun c4 => ?_)
  · have hf := cx_f hf c4
    refine lv_iconst (v := 0) hx hb dL_accesses_588 (by decide) ?_
    cases hf
    exact cx_zret hx hb hr hlocks (Or.inl rfl) hP hL dL_accesses_589
  · have hf := cx_t hf c4
    refine lv_aload_n hx hb dL_accesses_498 rfl (lv_at hl 0 rfl) ?_
    refine g_Law_0 (hC h) hP hx hb hts hown hK mw_12 dL_accesses_499 ?_
    refine lv_iconst (v := 5) hx hb dL_accesses_502 (by decide) ?_
    obtain ⟨r5, q6, hf⟩ := cx_b hf
    refine cx_callSX (As := [.ref ((adLG ad) 0), .int 5]) (rest := []) ⟨hx, hb, hml, hown, hts⟩ (c_L_count (cx_lwG (hC h) δ) q6) (vx_cwSW 2 hts (gSWx mw_275 mw_276 mw_2 mw_277) rfl rfl rfl hd_L_count.2 ⟨Nat.le_of_ble_eq_true rfl, Nat.le_of_ble_eq_true rfl⟩) hK (show P (δ.1, δ.2) h _ by (repeat rw [va_up_id]); exact hP) rfl hl.1 rfl (Nat.le_of_ble_eq_true rfl) dL_accesses_503 ⟨by decide, by decide⟩ hL (fun H locs hP hL => ?_)
    replace hP : P δ h H := by first | exact hP | (simpa only [va_up_id] using hP)
    refine lv_aload hx hb dL_accesses_506 (lv_at hl 10 rfl) ?_
    refine lv_iconst (v := 5) hx hb dL_accesses_508 (by decide) ?_
    obtain ⟨hi7, hf⟩ := gdE hf
    refine ga_Arr_0 (hChad δ) hP hx hb hK hi7 dL_accesses_509 ?_
    refine lv_iconst (v := 1) hx hb dL_accesses_510 (by decide) ?_
    refine lv_iadd hx hb dL_accesses_511 ?_
    refine lv_icmp_ne (tgt := 588) hx hb dL_accesses_512 (by decide) (fun c8 => ?_) (fun c8 => ?_)
    · have hf := cx_f hf c8
      refine lv_iconst (v := 0) hx hb dL_accesses_588 (by decide) ?_
      cases hf
      exact cx_zret hx hb hr hlocks (Or.inl rfl) hP hL dL_accesses_589
    · have hf := cx_t hf c8
      refine lv_aload_n hx hb dL_accesses_515 rfl (lv_at hl 0 rfl) ?_
      refine g_Law_0 (hC h) hP hx hb hts hown hK mw_12 dL_accesses_516 ?_
      refine lv_bipush (v := 22) hx hb dL_accesses_519 (by decide) ?_
      obtain ⟨r9, q10, hf⟩ := cx_b hf
      refine cx_callSX (As := [.ref ((adLG ad) 0), .int 22]) (rest := []) ⟨hx, hb, hml, hown, hts⟩ (c_L_count (cx_lwG (hC h) δ) q10) (vx_cwSW 2 hts (gSWx mw_275 mw_276 mw_2 mw_277) rfl rfl rfl hd_L_count.2 ⟨Nat.le_of_ble_eq_true rfl, Nat.le_of_ble_eq_true rfl⟩) hK (show P (δ.1, δ.2) h _ by (repeat rw [va_up_id]); exact hP) rfl hl.1 rfl (Nat.le_of_ble_eq_true rfl) dL_accesses_521 ⟨by decide, by decide⟩ hL (fun H locs hP hL => ?_)
      replace hP : P δ h H := by first | exact hP | (simpa only [va_up_id] using hP)
      refine lv_aload hx hb dL_accesses_524 (lv_at hl 10 rfl) ?_
      refine lv_iconst (v := 4) hx hb dL_accesses_526 (by decide) ?_
      obtain ⟨hi11, hf⟩ := gdE hf
      refine ga_Arr_0 (hChad δ) hP hx hb hK hi11 dL_accesses_527 ?_
      refine lv_iload hx hb dL_accesses_528 (lv_at hl 4 rfl) ?_
      refine lv_iadd hx hb dL_accesses_530 ?_
      refine lv_icmp_ne (tgt := 588) hx hb dL_accesses_531 (by decide) (fun c12 => ?_) (fun c12 => ?_)
      · have hf := cx_f hf c12
        refine lv_iconst (v := 0) hx hb dL_accesses_588 (by decide) ?_
        cases hf
        exact cx_zret hx hb hr hlocks (Or.inl rfl) hP hL dL_accesses_589
      · have hf := cx_t hf c12
        refine lv_aload_n hx hb dL_accesses_534 rfl (lv_at hl 0 rfl) ?_
        refine g_Law_0 (hC h) hP hx hb hts hown hK mw_12 dL_accesses_535 ?_
        refine lv_bipush (v := 19) hx hb dL_accesses_538 (by decide) ?_
        obtain ⟨r13, q14, hf⟩ := cx_b hf
        refine cx_callSX (As := [.ref ((adLG ad) 0), .int 19]) (rest := []) ⟨hx, hb, hml, hown, hts⟩ (c_L_count (cx_lwG (hC h) δ) q14) (vx_cwSW 2 hts (gSWx mw_275 mw_276 mw_2 mw_277) rfl rfl rfl hd_L_count.2 ⟨Nat.le_of_ble_eq_true rfl, Nat.le_of_ble_eq_true rfl⟩) hK (show P (δ.1, δ.2) h _ by (repeat rw [va_up_id]); exact hP) rfl hl.1 rfl (Nat.le_of_ble_eq_true rfl) dL_accesses_540 ⟨by decide, by decide⟩ hL (fun H locs hP hL => ?_)
        replace hP : P δ h H := by first | exact hP | (simpa only [va_up_id] using hP)
        refine lv_aload hx hb dL_accesses_543 (lv_at hl 10 rfl) ?_
        refine lv_iconst (v := 1) hx hb dL_accesses_545 (by decide) ?_
        obtain ⟨hi15, hf⟩ := gdE hf
        refine ga_Arr_0 (hChad δ) hP hx hb hK hi15 dL_accesses_546 ?_
        refine lv_iload hx hb dL_accesses_547 (lv_at hl 6 rfl) ?_
        refine lv_if_ge (tgt := 556) hx hb dL_accesses_549 (by decide) (fun c16 => ?_) (fun c16 => ?_)
        · have hf := cx_t hf c16
          refine lv_iconst (v := 1) hx hb dL_accesses_556 (by decide) ?_
          exact w_L_accesses_b557 C0 hZ hC hChad δ h x1 x2 x4 x5 x6 x7 x8 x10 x11 1 (h (Int32.toNatClampNeg 1)) r13 _ _ _ hf hP hL (lv_sub hl [0, 1, 2, 3, 4, 5, 6, 7, 8, 9, 10] rfl)
        · have hf := cx_f hf c16
          refine lv_iconst (v := 0) hx hb dL_accesses_552 (by decide) ?_
          refine lv_goto (tgt := 557) hx hb dL_accesses_553 (by decide) ?_
          exact w_L_accesses_b557 C0 hZ hC hChad δ h x1 x2 x4 x5 x6 x7 x8 x10 x11 0 (h (Int32.toNatClampNeg 1)) r13 _ _ _ hf hP hL (lv_sub hl [0, 1, 2, 3, 4, 5, 6, 7, 8, 9, 10] rfl)
def f_L_accesses_b414 (N : Nat) (nhad : Nat) (z : ZS) (δ : LwS) (h : (Nat → Int32)) (x1 : Int32) (x2 : Int32) (x4 : Int32) (x5 : Int32) (x6 : Int32) (x7 : Int32) (x8 : Int32) (x10 : Int32) (x11 : Int32) (x15 : Int32) : Option (Int32 × LwS × ((Nat → Int32))) := (f_L_count N δ.2 21).bind fun r1 => gd 3 nhad (if r1 = ((h (Int32.toNatClampNeg 3)) + x15) then f_L_accesses_b477 N nhad z δ h x1 x2 x4 x5 x6 x7 x8 x10 x11 else some (0, δ, h))
set_option maxHeartbeats 4000000 in
set_option maxRecDepth 100000 in
theorem w_L_accesses_b414 {p : Program} {l : Launch} {e : Env} {s : State} {m : MethodId} {args : Array Value} {below : List Frame} {meth : Method} {c : Code} {G : va_G} {cA : Nat → ClassId} (C0 : cB p s m args meth c RL cL_accesses 17 (some .boolean) G cA) {lo : Nat} {z : ZS} (hZ : Zt lo z s) {ad : Nat → Nat} {adhad : Nat → Nat} {nhad : Nat} {sv : Nat → Option Nat} {P : LwS → ((Nat → Int32)) → Heap → Prop} (hC : ∀ z0 : (Nat → Int32), cx G lo 264 ad (ceLaw z.1 sv cA ad) (fun x => P x z0)) (hChad : ∀ z0 : LwS, cx G lo 1 adhad (ceArr nhad cA adhad) (fun x => P z0 x)) {N : Nat} {res : Int32 × LwS × ((Nat → Int32))} : ∀ (δ : LwS) (h : (Nat → Int32)) (x1 : Int32) (x2 : Int32) (x4 : Int32) (x5 : Int32) (x6 : Int32) (x7 : Int32) (x8 : Int32) (x10 : Int32) (x11 : Int32) (x15 : Int32) (H : Heap) (locs : List Loc) (ls : Array Slot), f_L_accesses_b414 N nhad z δ h x1 x2 x4 x5 x6 x7 x8 x10 x11 x15 = some res → P δ h H → (∀ q ∈ locs, lo ≤ q.base) → lv_has ls 17 [(0, .ref (ad 0)), (1, .int x1), (2, .int x2), (4, .int x4), (5, .int x5), (6, .int x6), (7, .int x7), (8, .int x8), (10, .int x10), (11, .int x11), (12, .ref (adhad 0)), (15, .int x15)] → W p l e rm_L_accesses s m args below meth c H locs 1 6 (MQ below (cQ (some (.int res.1)) (P res.2.1 res.2.2)) args s 1 6 (fun q => lo ≤ q)) (F0 m 414 ls []) := by
  obtain ⟨⟨hx, hb, hml, hown, hts⟩, hr, hlocks, hK⟩ := id C0
  intro δ h x1 x2 x4 x5 x6 x7 x8 x10 x11 x15 H locs ls hf hP hL hl
  unfold f_L_accesses_b414 at hf
  refine lv_aload_n hx hb dL_accesses_414 rfl (lv_at hl 0 rfl) ?_
  refine g_Law_0 (hC h) hP hx hb hts hown hK mw_12 dL_accesses_415 ?_
  refine lv_bipush (v := 21) hx hb dL_accesses_418 (by decide) ?_
  obtain ⟨r1, q2, hf⟩ := cx_b hf
  refine cx_callSX (As := [.ref ((adLG ad) 0), .int 21]) (rest := []) ⟨hx, hb, hml, hown, hts⟩ (c_L_count (cx_lwG (hC h) δ) q2) (vx_cwSW 2 hts (gSWx mw_275 mw_276 mw_2 mw_277) rfl rfl rfl hd_L_count.2 ⟨Nat.le_of_ble_eq_true rfl, Nat.le_of_ble_eq_true rfl⟩) hK (show P (δ.1, δ.2) h _ by (repeat rw [va_up_id]); exact hP) rfl hl.1 rfl (Nat.le_of_ble_eq_true rfl) dL_accesses_420 ⟨by decide, by decide⟩ hL (fun H locs hP hL => ?_)
  replace hP : P δ h H := by first | exact hP | (simpa only [va_up_id] using hP)
  refine lv_aload hx hb dL_accesses_423 (lv_at hl 10 rfl) ?_
  refine lv_iconst (v := 3) hx hb dL_accesses_425 (by decide) ?_
  obtain ⟨hi3, hf⟩ := gdE hf
  refine ga_Arr_0 (hChad δ) hP hx hb hK hi3 dL_accesses_426 ?_
  refine lv_iload hx hb dL_accesses_427 (lv_at hl 11 rfl) ?_
  refine lv_iadd hx hb dL_accesses_429 ?_
  refine lv_icmp_eq (tgt := 435) hx hb dL_accesses_430 (by decide) (fun c4 => ?_) (fun c4 => ?_)
  · have hf := cx_t hf c4
    refine lv_goto (tgt := 477) hx hb dL_accesses_435 (by decide) ?_
    exact w_L_accesses_b477 C0 hZ hC hChad δ h x1 x2 x4 x5 x6 x7 x8 x10 x11 _ _ _ hf hP hL (lv_sub hl [0, 1, 2, 3, 4, 5, 6, 7, 8, 9, 10] rfl)
  · have hf := cx_f hf c4
    refine lv_iconst (v := 0) hx hb dL_accesses_433 (by decide) ?_
    cases hf
    exact cx_zret hx hb hr hlocks (Or.inl rfl) hP hL dL_accesses_434
def f_L_accesses_b341 (N : Nat) (nhad : Nat) (z : ZS) (δ : LwS) (h : (Nat → Int32)) (x1 : Int32) (x2 : Int32) (x4 : Int32) (x5 : Int32) (x6 : Int32) (x7 : Int32) (x8 : Int32) (x9 : Int32) (x10 : Int32) (x11 : Int32) (y0 : Int32) : Option (Int32 × LwS × ((Nat → Int32))) := (f_L_draw z δ 1000).bind fun r1 => if y0 = 0 then (f_L_read N r1.2.2 x1 x2).bind fun r4 => cx_let ((r1.2.1, r4.2)) fun z6 => gd x2 200 (if r4.1 = (z6.1.1 3 (Int32.toNatClampNeg x2)) then (f_L_count N z6.2 21).bind fun r9 => gd 3 nhad (if r9 = ((h (Int32.toNatClampNeg 3)) + x9) then f_L_accesses_b477 N nhad z z6 h x1 x2 x4 x5 x6 x7 x8 x10 x11 else some (0, z6, h)) else some (0, z6, h)) else (f_L_write N r1.2.2 x1 x2 r1.1).bind fun r13 => cx_let ((r1.2.1, r13.2)) fun z15 => (f_L_count N z15.2 12).bind fun r16 => gd x2 200 (cx_let ((oA z15.1 3 (Int32.toNatClampNeg x2) r1.1, z15.2)) fun z19 => if r13.1 < x9 then some (0, z19, h) else (f_L_count N z19.2 1).bind fun r21 => if r16 ≤ r21 then f_L_accesses_b414 N nhad z z19 h x1 x2 x4 x5 x6 x7 x8 x10 x11 r13.1 else if 0 < r16 then some (0, z19, h) else f_L_accesses_b414 N nhad z z19 h x1 x2 x4 x5 x6 x7 x8 x10 x11 r13.1)
set_option maxHeartbeats 4000000 in
set_option maxRecDepth 100000 in
theorem w_L_accesses_b341 {p : Program} {l : Launch} {e : Env} {s : State} {m : MethodId} {args : Array Value} {below : List Frame} {meth : Method} {c : Code} {G : va_G} {cA : Nat → ClassId} (C0 : cB p s m args meth c RL cL_accesses 17 (some .boolean) G cA) {lo : Nat} {z : ZS} (hZ : Zt lo z s) {ad : Nat → Nat} {adhad : Nat → Nat} {nhad : Nat} {sv : Nat → Option Nat} {P : LwS → ((Nat → Int32)) → Heap → Prop} (hC : ∀ z0 : (Nat → Int32), cx G lo 264 ad (ceLaw z.1 sv cA ad) (fun x => P x z0)) (hChad : ∀ z0 : LwS, cx G lo 1 adhad (ceArr nhad cA adhad) (fun x => P z0 x)) {N : Nat} {res : Int32 × LwS × ((Nat → Int32))} : ∀ (δ : LwS) (h : (Nat → Int32)) (x1 : Int32) (x2 : Int32) (x4 : Int32) (x5 : Int32) (x6 : Int32) (x7 : Int32) (x8 : Int32) (x9 : Int32) (x10 : Int32) (x11 : Int32) (y0 : Int32) (H : Heap) (locs : List Loc) (ls : Array Slot), f_L_accesses_b341 N nhad z δ h x1 x2 x4 x5 x6 x7 x8 x9 x10 x11 y0 = some res → P δ h H → (∀ q ∈ locs, lo ≤ q.base) → lv_has ls 17 [(0, .ref (ad 0)), (1, .int x1), (2, .int x2), (4, .int x4), (5, .int x5), (6, .int x6), (7, .int x7), (8, .int x8), (9, .int x9), (10, .int x10), (11, .int x11), (12, .ref (adhad 0))] → W p l e rm_L_accesses s m args below meth c H locs 1 6 (MQ below (cQ (some (.int res.1)) (P res.2.1 res.2.2)) args s 1 6 (fun q => lo ≤ q)) (F0 m 341 ls [.int y0]) := by
  obtain ⟨⟨hx, hb, hml, hown, hts⟩, hr, hlocks, hK⟩ := id C0
  intro δ h x1 x2 x4 x5 x6 x7 x8 x9 x10 x11 y0 H locs ls hf hP hL hl
  unfold f_L_accesses_b341 at hf
  refine lv_istore (lv' := [(13, .int y0), (0, .ref (ad 0)), (1, .int x1), (2, .int x2), (4, .int x4), (5, .int x5), (6, .int x6), (7, .int x7), (8, .int x8), (9, .int x9), (10, .int x10), (11, .int x11), (12, .ref (adhad 0))]) hx hb dL_accesses_341 hl (by decide) rfl (fun ls hl => ?_)
  refine lv_aload_n hx hb dL_accesses_343 rfl (lv_at hl 1 rfl) ?_
  refine lv_sipush (v := 1000) hx hb dL_accesses_344 (by decide) ?_
  obtain ⟨r1, q2, hf⟩ := cx_b hf
  refine cx_callVZ (As := [.int 1000]) (rest := []) ⟨hx, hb, hml, hown, hts⟩ (c_L_draw (hC h) (z := z) q2) (cwV 1 hts (gV mw_124 mw_125 mw_126 mw_2 mw_127) rfl rfl rfl hd_L_draw ⟨Nat.le_of_ble_eq_true rfl, Nat.le_of_ble_eq_true rfl⟩) hK hZ hP rfl (at_Law (hC h) hP) rfl hl.1 rfl (Nat.le_of_ble_eq_true rfl) dL_accesses_347 ⟨by decide, by decide⟩ hL (fun H locs hP hL => ?_)
  replace hP : P r1.2 h H := by first | exact hP | (simpa only [va_up_id] using hP)
  refine lv_istore (lv' := [(14, .int r1.1), (13, .int y0), (0, .ref (ad 0)), (1, .int x1), (2, .int x2), (4, .int x4), (5, .int x5), (6, .int x6), (7, .int x7), (8, .int x8), (9, .int x9), (10, .int x10), (11, .int x11), (12, .ref (adhad 0))]) hx hb dL_accesses_350 hl (by decide) rfl (fun ls hl => ?_)
  refine lv_iload hx hb dL_accesses_352 (lv_at hl 1 rfl) ?_
  refine lv_if_eq (tgt := 438) hx hb dL_accesses_354 (by decide) (fun c3 => ?_) (fun c3 => ?_)
  · have hf := cx_t hf c3
    refine lv_aload_n hx hb dL_accesses_438 rfl (lv_at hl 2 rfl) ?_
    refine g_Law_0 (hC h) hP hx hb hts hown hK mw_12 dL_accesses_439 ?_
    refine lv_iload_n hx hb dL_accesses_442 rfl (lv_at hl 3 rfl) ?_
    refine lv_iload_n hx hb dL_accesses_443 rfl (lv_at hl 4 rfl) ?_
    obtain ⟨r4, q5, hf⟩ := cx_b hf
    refine cx_callSX (As := [.ref ((adLG ad) 0), .int x1, .int x2]) (rest := []) ⟨hx, hb, hml, hown, hts⟩ (c_L_read (cx_lwG (hC h) r1.2) q5) (vx_cwSW 3 hts (gSWx mw_545 mw_546 mw_2 mw_547) rfl rfl rfl hd_L_read.2 ⟨Nat.le_of_ble_eq_true rfl, Nat.le_of_ble_eq_true rfl⟩) hK (show P (r1.2.1, r1.2.2) h _ by (repeat rw [va_up_id]); exact hP) rfl hl.1 rfl (Nat.le_of_ble_eq_true rfl) dL_accesses_444 ⟨by decide, by decide⟩ hL (fun H locs hP hL => ?_)
    obtain ⟨z6, ez6, hf⟩ := cx_letE hf
    replace hP : P z6 h H := by rw [← ez6]; exact hP
    refine lv_aload_n hx hb dL_accesses_447 rfl (lv_at hl 2 rfl) ?_
    refine g_Law_3 (hC h) hP hx hb hts hown hK mw_14 dL_accesses_448 ?_
    refine lv_iload_n hx hb dL_accesses_451 rfl (lv_at hl 4 rfl) ?_
    obtain ⟨hi7, hf⟩ := gdE hf
    refine ga_Law_3 (hC h) hP hx hb hK hi7 dL_accesses_452 ?_
    refine lv_icmp_ne (tgt := 475) hx hb dL_accesses_453 (by decide) (fun c8 => ?_) (fun c8 => ?_)
    · have hf := cx_f hf c8
      refine lv_iconst (v := 0) hx hb dL_accesses_475 (by decide) ?_
      cases hf
      exact cx_zret hx hb hr hlocks (Or.inl rfl) hP hL dL_accesses_476
    · have hf := cx_t hf c8
      refine lv_aload_n hx hb dL_accesses_456 rfl (lv_at hl 2 rfl) ?_
      refine g_Law_0 (hC h) hP hx hb hts hown hK mw_12 dL_accesses_457 ?_
      refine lv_bipush (v := 21) hx hb dL_accesses_460 (by decide) ?_
      obtain ⟨r9, q10, hf⟩ := cx_b hf
      refine cx_callSX (As := [.ref ((adLG ad) 0), .int 21]) (rest := []) ⟨hx, hb, hml, hown, hts⟩ (c_L_count (cx_lwG (hC h) z6) q10) (vx_cwSW 2 hts (gSWx mw_275 mw_276 mw_2 mw_277) rfl rfl rfl hd_L_count.2 ⟨Nat.le_of_ble_eq_true rfl, Nat.le_of_ble_eq_true rfl⟩) hK (show P (z6.1, z6.2) h _ by (repeat rw [va_up_id]); exact hP) rfl hl.1 rfl (Nat.le_of_ble_eq_true rfl) dL_accesses_462 ⟨by decide, by decide⟩ hL (fun H locs hP hL => ?_)
      replace hP : P z6 h H := by first | exact hP | (simpa only [va_up_id] using hP)
      refine lv_aload hx hb dL_accesses_465 (lv_at hl 13 rfl) ?_
      refine lv_iconst (v := 3) hx hb dL_accesses_467 (by decide) ?_
      obtain ⟨hi11, hf⟩ := gdE hf
      refine ga_Arr_0 (hChad z6) hP hx hb hK hi11 dL_accesses_468 ?_
      refine lv_iload hx hb dL_accesses_469 (lv_at hl 10 rfl) ?_
      refine lv_iadd hx hb dL_accesses_471 ?_
      refine lv_icmp_eq (tgt := 477) hx hb dL_accesses_472 (by decide) (fun c12 => ?_) (fun c12 => ?_)
      · have hf := cx_t hf c12
        exact w_L_accesses_b477 C0 hZ hC hChad z6 h x1 x2 x4 x5 x6 x7 x8 x10 x11 _ _ _ hf hP hL (lv_sub hl [2, 3, 4, 5, 6, 7, 8, 9, 11, 12, 13] rfl)
      · have hf := cx_f hf c12
        refine lv_iconst (v := 0) hx hb dL_accesses_475 (by decide) ?_
        cases hf
        exact cx_zret hx hb hr hlocks (Or.inl rfl) hP hL dL_accesses_476
  · have hf := cx_f hf c3
    refine lv_aload_n hx hb dL_accesses_357 rfl (lv_at hl 2 rfl) ?_
    refine g_Law_0 (hC h) hP hx hb hts hown hK mw_12 dL_accesses_358 ?_
    refine lv_iload_n hx hb dL_accesses_361 rfl (lv_at hl 3 rfl) ?_
    refine lv_iload_n hx hb dL_accesses_362 rfl (lv_at hl 4 rfl) ?_
    refine lv_iload hx hb dL_accesses_363 (lv_at hl 0 rfl) ?_
    obtain ⟨r13, q14, hf⟩ := cx_b hf
    refine cx_callSX (As := [.ref ((adLG ad) 0), .int x1, .int x2, .int r1.1]) (rest := []) ⟨hx, hb, hml, hown, hts⟩ (c_L_write (cx_lwG (hC h) r1.2) q14) (vx_cwSW 4 hts (gSWx mw_529 mw_530 mw_2 mw_531) rfl rfl rfl hd_L_write.2 ⟨Nat.le_of_ble_eq_true rfl, Nat.le_of_ble_eq_true rfl⟩) hK (show P (r1.2.1, r1.2.2) h _ by (repeat rw [va_up_id]); exact hP) rfl hl.1 rfl (Nat.le_of_ble_eq_true rfl) dL_accesses_365 ⟨by decide, by decide⟩ hL (fun H locs hP hL => ?_)
    obtain ⟨z15, ez15, hf⟩ := cx_letE hf
    replace hP : P z15 h H := by rw [← ez15]; exact hP
    refine lv_istore (lv' := [(15, .int r13.1), (14, .int r1.1), (13, .int y0), (0, .ref (ad 0)), (1, .int x1), (2, .int x2), (4, .int x4), (5, .int x5), (6, .int x6), (7, .int x7), (8, .int x8), (9, .int x9), (10, .int x10), (11, .int x11), (12, .ref (adhad 0))]) hx hb dL_accesses_368 hl (by decide) rfl (fun ls hl => ?_)
    refine lv_aload_n hx hb dL_accesses_370 rfl (lv_at hl 3 rfl) ?_
    refine g_Law_0 (hC h) hP hx hb hts hown hK mw_12 dL_accesses_371 ?_
    refine lv_bipush (v := 12) hx hb dL_accesses_374 (by decide) ?_
    obtain ⟨r16, q17, hf⟩ := cx_b hf
    refine cx_callSX (As := [.ref ((adLG ad) 0), .int 12]) (rest := []) ⟨hx, hb, hml, hown, hts⟩ (c_L_count (cx_lwG (hC h) z15) q17) (vx_cwSW 2 hts (gSWx mw_275 mw_276 mw_2 mw_277) rfl rfl rfl hd_L_count.2 ⟨Nat.le_of_ble_eq_true rfl, Nat.le_of_ble_eq_true rfl⟩) hK (show P (z15.1, z15.2) h _ by (repeat rw [va_up_id]); exact hP) rfl hl.1 rfl (Nat.le_of_ble_eq_true rfl) dL_accesses_376 ⟨by decide, by decide⟩ hL (fun H locs hP hL => ?_)
    replace hP : P z15 h H := by first | exact hP | (simpa only [va_up_id] using hP)
    refine lv_istore (lv' := [(16, .int r16), (15, .int r13.1), (14, .int r1.1), (13, .int y0), (0, .ref (ad 0)), (1, .int x1), (2, .int x2), (4, .int x4), (5, .int x5), (6, .int x6), (7, .int x7), (8, .int x8), (9, .int x9), (10, .int x10), (11, .int x11), (12, .ref (adhad 0))]) hx hb dL_accesses_379 hl (by decide) rfl (fun ls hl => ?_)
    refine lv_aload_n hx hb dL_accesses_381 rfl (lv_at hl 4 rfl) ?_
    refine g_Law_3 (hC h) hP hx hb hts hown hK mw_14 dL_accesses_382 ?_
    refine lv_iload_n hx hb dL_accesses_385 rfl (lv_at hl 6 rfl) ?_
    refine lv_iload hx hb dL_accesses_386 (lv_at hl 2 rfl) ?_
    obtain ⟨hi18, hf⟩ := gdE hf
    obtain ⟨z19, ez19, hf⟩ := cx_letE hf
    refine pa_Law_3 (hC h) hP hx hb hK hi18 dL_accesses_388 hL (fun H locs hP hL => ?_)
    replace hP : P z19 h H := by rw [← ez19]; exact hP
    refine lv_iload hx hb dL_accesses_389 (lv_at hl 1 rfl) ?_
    refine lv_iload hx hb dL_accesses_391 (lv_at hl 12 rfl) ?_
    refine lv_icmp_lt (tgt := 433) hx hb dL_accesses_393 (by decide) (fun c20 => ?_) (fun c20 => ?_)
    · have hf := cx_t hf c20
      refine lv_iconst (v := 0) hx hb dL_accesses_433 (by decide) ?_
      cases hf
      exact cx_zret hx hb hr hlocks (Or.inl rfl) hP hL dL_accesses_434
    · have hf := cx_f hf c20
      refine lv_iload hx hb dL_accesses_396 (lv_at hl 0 rfl) ?_
      refine lv_aload_n hx hb dL_accesses_398 rfl (lv_at hl 4 rfl) ?_
      refine g_Law_0 (hC h) hP hx hb hts hown hK mw_12 dL_accesses_399 ?_
      refine lv_iconst (v := 1) hx hb dL_accesses_402 (by decide) ?_
      obtain ⟨r21, q22, hf⟩ := cx_b hf
      refine cx_callSX (As := [.ref ((adLG ad) 0), .int 1]) (rest := [.int r16]) ⟨hx, hb, hml, hown, hts⟩ (c_L_count (cx_lwG (hC h) z19) q22) (vx_cwSW 2 hts (gSWx mw_275 mw_276 mw_2 mw_277) rfl rfl rfl hd_L_count.2 ⟨Nat.le_of_ble_eq_true rfl, Nat.le_of_ble_eq_true rfl⟩) hK (show P (z19.1, z19.2) h _ by (repeat rw [va_up_id]); exact hP) rfl hl.1 rfl (Nat.le_of_ble_eq_true rfl) dL_accesses_403 ⟨by decide, by decide⟩ hL (fun H locs hP hL => ?_)
      replace hP : P z19 h H := by first | exact hP | (simpa only [va_up_id] using hP)
      refine lv_icmp_le (tgt := 414) hx hb dL_accesses_406 (by decide) (fun c23 => ?_) (fun c23 => ?_)
      · have hf := cx_t hf c23
        exact w_L_accesses_b414 C0 hZ hC hChad z19 h x1 x2 x4 x5 x6 x7 x8 x10 x11 r13.1 _ _ _ hf hP hL (lv_sub hl [4, 5, 6, 7, 8, 9, 10, 11, 13, 14, 15, 1] rfl)
      · have hf := cx_f hf c23
        refine lv_iload hx hb dL_accesses_409 (lv_at hl 0 rfl) ?_
        refine lv_if_gt (tgt := 433) hx hb dL_accesses_411 (by decide) (fun c24 => ?_) (fun c24 => ?_)
        · have hf := cx_t hf c24
          refine lv_iconst (v := 0) hx hb dL_accesses_433 (by decide) ?_
          cases hf
          exact cx_zret hx hb hr hlocks (Or.inl rfl) hP hL dL_accesses_434
        · have hf := cx_f hf c24
          exact w_L_accesses_b414 C0 hZ hC hChad z19 h x1 x2 x4 x5 x6 x7 x8 x10 x11 r13.1 _ _ _ hf hP hL (lv_sub hl [4, 5, 6, 7, 8, 9, 10, 11, 13, 14, 15, 1] rfl)
def f_L_accesses_b220 (N : Nat) (nhad : Nat) (z : ZS) (δ : LwS) (h : (Nat → Int32)) (x1 : Int32) (x2 : Int32) (x4 : Int32) (x5 : Int32) (x6 : Int32) (x7 : Int32) (x8 : Int32) (x9 : Int32) (x10 : Int32) (x11 : Int32) : Option (Int32 × LwS × ((Nat → Int32))) := (f_L_count N δ.2 (14 + x4)).bind fun r1 => gd 0 nhad (cx_let (upd h (Int32.toNatClampNeg 0) r1) fun z4 => (f_L_count N δ.2 19).bind fun r5 => gd 1 nhad (cx_let (upd z4 (Int32.toNatClampNeg 1) r5) fun z8 => (f_L_count N δ.2 20).bind fun r9 => gd 2 nhad (cx_let (upd z8 (Int32.toNatClampNeg 2) r9) fun z12 => (f_L_count N δ.2 21).bind fun r13 => gd 3 nhad (cx_let (upd z12 (Int32.toNatClampNeg 3) r13) fun z16 => (f_L_count N δ.2 22).bind fun r17 => gd 4 nhad (cx_let (upd z16 (Int32.toNatClampNeg 4) r17) fun z20 => (f_L_count N δ.2 5).bind fun r21 => gd 5 nhad (cx_let (upd z20 (Int32.toNatClampNeg 5) r21) fun z24 => (f_L_wouldBe N δ.2 x1 x2 0).bind fun r25 => cx_let ((δ.1, r25.2)) fun z27 => if r25.1 = x4 then (f_L_wouldBe N z27.2 x1 x2 1).bind fun r29 => cx_let ((z27.1, r29.2)) fun z31 => if r29.1 = x5 then (f_L_draw z z31 2).bind fun r33 => if r33.1 = 0 then f_L_accesses_b341 N nhad z r33.2 z24 x1 x2 x4 x5 x6 x7 x8 x9 x10 x11 1 else f_L_accesses_b341 N nhad z r33.2 z24 x1 x2 x4 x5 x6 x7 x8 x9 x10 x11 0 else some (0, z31, z24) else some (0, z27, z24)))))))
set_option maxHeartbeats 4000000 in
set_option maxRecDepth 100000 in
theorem w_L_accesses_b220 {p : Program} {l : Launch} {e : Env} {s : State} {m : MethodId} {args : Array Value} {below : List Frame} {meth : Method} {c : Code} {G : va_G} {cA : Nat → ClassId} (C0 : cB p s m args meth c RL cL_accesses 17 (some .boolean) G cA) {lo : Nat} {z : ZS} (hZ : Zt lo z s) {ad : Nat → Nat} {adhad : Nat → Nat} {nhad : Nat} {sv : Nat → Option Nat} {P : LwS → ((Nat → Int32)) → Heap → Prop} (hC : ∀ z0 : (Nat → Int32), cx G lo 264 ad (ceLaw z.1 sv cA ad) (fun x => P x z0)) (hChad : ∀ z0 : LwS, cx G lo 1 adhad (ceArr nhad cA adhad) (fun x => P z0 x)) {N : Nat} {res : Int32 × LwS × ((Nat → Int32))} : ∀ (δ : LwS) (h : (Nat → Int32)) (x1 : Int32) (x2 : Int32) (x4 : Int32) (x5 : Int32) (x6 : Int32) (x7 : Int32) (x8 : Int32) (x9 : Int32) (x10 : Int32) (x11 : Int32) (H : Heap) (locs : List Loc) (ls : Array Slot), f_L_accesses_b220 N nhad z δ h x1 x2 x4 x5 x6 x7 x8 x9 x10 x11 = some res → P δ h H → (∀ q ∈ locs, lo ≤ q.base) → lv_has ls 17 [(0, .ref (ad 0)), (1, .int x1), (2, .int x2), (4, .int x4), (5, .int x5), (6, .int x6), (7, .int x7), (8, .int x8), (9, .int x9), (10, .int x10), (11, .int x11)] → W p l e rm_L_accesses s m args below meth c H locs 1 6 (MQ below (cQ (some (.int res.1)) (P res.2.1 res.2.2)) args s 1 6 (fun q => lo ≤ q)) (F0 m 220 ls [.ref (adhad 0)]) := by
  obtain ⟨⟨hx, hb, hml, hown, hts⟩, hr, hlocks, hK⟩ := id C0
  intro δ h x1 x2 x4 x5 x6 x7 x8 x9 x10 x11 H locs ls hf hP hL hl
  unfold f_L_accesses_b220 at hf
  refine lv_dup hx hb dL_accesses_220 rfl ?_
  refine lv_iconst (v := 0) hx hb dL_accesses_221 (by decide) ?_
  refine lv_aload_n hx hb dL_accesses_222 rfl (lv_at hl 0 rfl) ?_
  refine g_Law_0 (hC h) hP hx hb hts hown hK mw_12 dL_accesses_223 ?_
  refine lv_bipush (v := 14) hx hb dL_accesses_226 (by decide) ?_
  refine lv_iload hx hb dL_accesses_228 (lv_at hl 3 rfl) ?_
  refine lv_iadd hx hb dL_accesses_230 ?_
  obtain ⟨r1, q2, hf⟩ := cx_b hf
  refine cx_callSX (As := [.ref ((adLG ad) 0), .int (14 + x4)]) (rest := [.int 0, .ref (adhad 0), .ref (adhad 0)]) ⟨hx, hb, hml, hown, hts⟩ (c_L_count (cx_lwG (hC h) δ) q2) (vx_cwSW 2 hts (gSWx mw_275 mw_276 mw_2 mw_277) rfl rfl rfl hd_L_count.2 ⟨Nat.le_of_ble_eq_true rfl, Nat.le_of_ble_eq_true rfl⟩) hK (show P (δ.1, δ.2) h _ by (repeat rw [va_up_id]); exact hP) rfl hl.1 rfl (Nat.le_of_ble_eq_true rfl) dL_accesses_231 ⟨by decide, by decide⟩ hL (fun H locs hP hL => ?_)
  replace hP : P δ h H := by first | exact hP | (simpa only [va_up_id] using hP)
  obtain ⟨hi3, hf⟩ := gdE hf
  obtain ⟨z4, ez4, hf⟩ := cx_letE hf
  refine pa_Arr_0 (hChad δ) hP hx hb hK hi3 dL_accesses_234 hL (fun H locs hP hL => ?_)
  replace hP : P δ z4 H := by rw [← ez4]; exact hP
  refine lv_dup hx hb dL_accesses_235 rfl ?_
  refine lv_iconst (v := 1) hx hb dL_accesses_236 (by decide) ?_
  refine lv_aload_n hx hb dL_accesses_237 rfl (lv_at hl 0 rfl) ?_
  refine g_Law_0 (hC z4) hP hx hb hts hown hK mw_12 dL_accesses_238 ?_
  refine lv_bipush (v := 19) hx hb dL_accesses_241 (by decide) ?_
  obtain ⟨r5, q6, hf⟩ := cx_b hf
  refine cx_callSX (As := [.ref ((adLG ad) 0), .int 19]) (rest := [.int 1, .ref (adhad 0), .ref (adhad 0)]) ⟨hx, hb, hml, hown, hts⟩ (c_L_count (cx_lwG (hC z4) δ) q6) (vx_cwSW 2 hts (gSWx mw_275 mw_276 mw_2 mw_277) rfl rfl rfl hd_L_count.2 ⟨Nat.le_of_ble_eq_true rfl, Nat.le_of_ble_eq_true rfl⟩) hK (show P (δ.1, δ.2) z4 _ by (repeat rw [va_up_id]); exact hP) rfl hl.1 rfl (Nat.le_of_ble_eq_true rfl) dL_accesses_243 ⟨by decide, by decide⟩ hL (fun H locs hP hL => ?_)
  replace hP : P δ z4 H := by first | exact hP | (simpa only [va_up_id] using hP)
  obtain ⟨hi7, hf⟩ := gdE hf
  obtain ⟨z8, ez8, hf⟩ := cx_letE hf
  refine pa_Arr_0 (hChad δ) hP hx hb hK hi7 dL_accesses_246 hL (fun H locs hP hL => ?_)
  replace hP : P δ z8 H := by rw [← ez8]; exact hP
  refine lv_dup hx hb dL_accesses_247 rfl ?_
  refine lv_iconst (v := 2) hx hb dL_accesses_248 (by decide) ?_
  refine lv_aload_n hx hb dL_accesses_249 rfl (lv_at hl 0 rfl) ?_
  refine g_Law_0 (hC z8) hP hx hb hts hown hK mw_12 dL_accesses_250 ?_
  refine lv_bipush (v := 20) hx hb dL_accesses_253 (by decide) ?_
  obtain ⟨r9, q10, hf⟩ := cx_b hf
  refine cx_callSX (As := [.ref ((adLG ad) 0), .int 20]) (rest := [.int 2, .ref (adhad 0), .ref (adhad 0)]) ⟨hx, hb, hml, hown, hts⟩ (c_L_count (cx_lwG (hC z8) δ) q10) (vx_cwSW 2 hts (gSWx mw_275 mw_276 mw_2 mw_277) rfl rfl rfl hd_L_count.2 ⟨Nat.le_of_ble_eq_true rfl, Nat.le_of_ble_eq_true rfl⟩) hK (show P (δ.1, δ.2) z8 _ by (repeat rw [va_up_id]); exact hP) rfl hl.1 rfl (Nat.le_of_ble_eq_true rfl) dL_accesses_255 ⟨by decide, by decide⟩ hL (fun H locs hP hL => ?_)
  replace hP : P δ z8 H := by first | exact hP | (simpa only [va_up_id] using hP)
  obtain ⟨hi11, hf⟩ := gdE hf
  obtain ⟨z12, ez12, hf⟩ := cx_letE hf
  refine pa_Arr_0 (hChad δ) hP hx hb hK hi11 dL_accesses_258 hL (fun H locs hP hL => ?_)
  replace hP : P δ z12 H := by rw [← ez12]; exact hP
  refine lv_dup hx hb dL_accesses_259 rfl ?_
  refine lv_iconst (v := 3) hx hb dL_accesses_260 (by decide) ?_
  refine lv_aload_n hx hb dL_accesses_261 rfl (lv_at hl 0 rfl) ?_
  refine g_Law_0 (hC z12) hP hx hb hts hown hK mw_12 dL_accesses_262 ?_
  refine lv_bipush (v := 21) hx hb dL_accesses_265 (by decide) ?_
  obtain ⟨r13, q14, hf⟩ := cx_b hf
  refine cx_callSX (As := [.ref ((adLG ad) 0), .int 21]) (rest := [.int 3, .ref (adhad 0), .ref (adhad 0)]) ⟨hx, hb, hml, hown, hts⟩ (c_L_count (cx_lwG (hC z12) δ) q14) (vx_cwSW 2 hts (gSWx mw_275 mw_276 mw_2 mw_277) rfl rfl rfl hd_L_count.2 ⟨Nat.le_of_ble_eq_true rfl, Nat.le_of_ble_eq_true rfl⟩) hK (show P (δ.1, δ.2) z12 _ by (repeat rw [va_up_id]); exact hP) rfl hl.1 rfl (Nat.le_of_ble_eq_true rfl) dL_accesses_267 ⟨by decide, by decide⟩ hL (fun H locs hP hL => ?_)
  replace hP : P δ z12 H := by first | exact hP | (simpa only [va_up_id] using hP)
  obtain ⟨hi15, hf⟩ := gdE hf
  obtain ⟨z16, ez16, hf⟩ := cx_letE hf
  refine pa_Arr_0 (hChad δ) hP hx hb hK hi15 dL_accesses_270 hL (fun H locs hP hL => ?_)
  replace hP : P δ z16 H := by rw [← ez16]; exact hP
  refine lv_dup hx hb dL_accesses_271 rfl ?_
  refine lv_iconst (v := 4) hx hb dL_accesses_272 (by decide) ?_
  refine lv_aload_n hx hb dL_accesses_273 rfl (lv_at hl 0 rfl) ?_
  refine g_Law_0 (hC z16) hP hx hb hts hown hK mw_12 dL_accesses_274 ?_
  refine lv_bipush (v := 22) hx hb dL_accesses_277 (by decide) ?_
  obtain ⟨r17, q18, hf⟩ := cx_b hf
  refine cx_callSX (As := [.ref ((adLG ad) 0), .int 22]) (rest := [.int 4, .ref (adhad 0), .ref (adhad 0)]) ⟨hx, hb, hml, hown, hts⟩ (c_L_count (cx_lwG (hC z16) δ) q18) (vx_cwSW 2 hts (gSWx mw_275 mw_276 mw_2 mw_277) rfl rfl rfl hd_L_count.2 ⟨Nat.le_of_ble_eq_true rfl, Nat.le_of_ble_eq_true rfl⟩) hK (show P (δ.1, δ.2) z16 _ by (repeat rw [va_up_id]); exact hP) rfl hl.1 rfl (Nat.le_of_ble_eq_true rfl) dL_accesses_279 ⟨by decide, by decide⟩ hL (fun H locs hP hL => ?_)
  replace hP : P δ z16 H := by first | exact hP | (simpa only [va_up_id] using hP)
  obtain ⟨hi19, hf⟩ := gdE hf
  obtain ⟨z20, ez20, hf⟩ := cx_letE hf
  refine pa_Arr_0 (hChad δ) hP hx hb hK hi19 dL_accesses_282 hL (fun H locs hP hL => ?_)
  replace hP : P δ z20 H := by rw [← ez20]; exact hP
  refine lv_dup hx hb dL_accesses_283 rfl ?_
  refine lv_iconst (v := 5) hx hb dL_accesses_284 (by decide) ?_
  refine lv_aload_n hx hb dL_accesses_285 rfl (lv_at hl 0 rfl) ?_
  refine g_Law_0 (hC z20) hP hx hb hts hown hK mw_12 dL_accesses_286 ?_
  refine lv_iconst (v := 5) hx hb dL_accesses_289 (by decide) ?_
  obtain ⟨r21, q22, hf⟩ := cx_b hf
  refine cx_callSX (As := [.ref ((adLG ad) 0), .int 5]) (rest := [.int 5, .ref (adhad 0), .ref (adhad 0)]) ⟨hx, hb, hml, hown, hts⟩ (c_L_count (cx_lwG (hC z20) δ) q22) (vx_cwSW 2 hts (gSWx mw_275 mw_276 mw_2 mw_277) rfl rfl rfl hd_L_count.2 ⟨Nat.le_of_ble_eq_true rfl, Nat.le_of_ble_eq_true rfl⟩) hK (show P (δ.1, δ.2) z20 _ by (repeat rw [va_up_id]); exact hP) rfl hl.1 rfl (Nat.le_of_ble_eq_true rfl) dL_accesses_290 ⟨by decide, by decide⟩ hL (fun H locs hP hL => ?_)
  replace hP : P δ z20 H := by first | exact hP | (simpa only [va_up_id] using hP)
  obtain ⟨hi23, hf⟩ := gdE hf
  obtain ⟨z24, ez24, hf⟩ := cx_letE hf
  refine pa_Arr_0 (hChad δ) hP hx hb hK hi23 dL_accesses_293 hL (fun H locs hP hL => ?_)
  replace hP : P δ z24 H := by rw [← ez24]; exact hP
  refine lv_astore (lv' := [(12, .ref (adhad 0)), (0, .ref (ad 0)), (1, .int x1), (2, .int x2), (4, .int x4), (5, .int x5), (6, .int x6), (7, .int x7), (8, .int x8), (9, .int x9), (10, .int x10), (11, .int x11)]) hx hb dL_accesses_294 hl (by decide) rfl (fun ls hl => ?_)
  refine lv_aload_n hx hb dL_accesses_296 rfl (lv_at hl 1 rfl) ?_
  refine g_Law_0 (hC z24) hP hx hb hts hown hK mw_12 dL_accesses_297 ?_
  refine lv_iload_n hx hb dL_accesses_300 rfl (lv_at hl 2 rfl) ?_
  refine lv_iload_n hx hb dL_accesses_301 rfl (lv_at hl 3 rfl) ?_
  refine lv_iconst (v := 0) hx hb dL_accesses_302 (by decide) ?_
  obtain ⟨r25, q26, hf⟩ := cx_b hf
  refine cx_callSX (As := [.ref ((adLG ad) 0), .int x1, .int x2, .int 0]) (rest := []) ⟨hx, hb, hml, hown, hts⟩ (c_L_wouldBe (cx_lwG (hC z24) δ) q26) (vx_cwSW 4 hts (gSWx mw_409 mw_410 mw_2 mw_411) rfl rfl rfl hd_L_wouldBe.2 ⟨Nat.le_of_ble_eq_true rfl, Nat.le_of_ble_eq_true rfl⟩) hK (show P (δ.1, δ.2) z24 _ by (repeat rw [va_up_id]); exact hP) rfl hl.1 rfl (Nat.le_of_ble_eq_true rfl) dL_accesses_303 ⟨by decide, by decide⟩ hL (fun H locs hP hL => ?_)
  obtain ⟨z27, ez27, hf⟩ := cx_letE hf
  replace hP : P z27 z24 H := by rw [← ez27]; exact hP
  refine lv_iload hx hb dL_accesses_306 (lv_at hl 4 rfl) ?_
  refine lv_icmp_ne (tgt := 326) hx hb dL_accesses_308 (by decide) (fun c28 => ?_) (fun c28 => ?_)
  · have hf := cx_f hf c28
    refine lv_iconst (v := 0) hx hb dL_accesses_326 (by decide) ?_
    cases hf
    exact cx_zret hx hb hr hlocks (Or.inl rfl) hP hL dL_accesses_327
  · have hf := cx_t hf c28
    refine lv_aload_n hx hb dL_accesses_311 rfl (lv_at hl 1 rfl) ?_
    refine g_Law_0 (hC z24) hP hx hb hts hown hK mw_12 dL_accesses_312 ?_
    refine lv_iload_n hx hb dL_accesses_315 rfl (lv_at hl 2 rfl) ?_
    refine lv_iload_n hx hb dL_accesses_316 rfl (lv_at hl 3 rfl) ?_
    refine lv_iconst (v := 1) hx hb dL_accesses_317 (by decide) ?_
    obtain ⟨r29, q30, hf⟩ := cx_b hf
    refine cx_callSX (As := [.ref ((adLG ad) 0), .int x1, .int x2, .int 1]) (rest := []) ⟨hx, hb, hml, hown, hts⟩ (c_L_wouldBe (cx_lwG (hC z24) z27) q30) (vx_cwSW 4 hts (gSWx mw_409 mw_410 mw_2 mw_411) rfl rfl rfl hd_L_wouldBe.2 ⟨Nat.le_of_ble_eq_true rfl, Nat.le_of_ble_eq_true rfl⟩) hK (show P (z27.1, z27.2) z24 _ by (repeat rw [va_up_id]); exact hP) rfl hl.1 rfl (Nat.le_of_ble_eq_true rfl) dL_accesses_318 ⟨by decide, by decide⟩ hL (fun H locs hP hL => ?_)
    obtain ⟨z31, ez31, hf⟩ := cx_letE hf
    replace hP : P z31 z24 H := by rw [← ez31]; exact hP
    refine lv_iload hx hb dL_accesses_321 (lv_at hl 5 rfl) ?_
    refine lv_icmp_eq (tgt := 328) hx hb dL_accesses_323 (by decide) (fun c32 => ?_) (fun c32 => ?_)
    · have hf := cx_t hf c32
      refine lv_aload_n hx hb dL_accesses_328 rfl (lv_at hl 1 rfl) ?_
      refine lv_iconst (v := 2) hx hb dL_accesses_329 (by decide) ?_
      obtain ⟨r33, q34, hf⟩ := cx_b hf
      refine cx_callVZ (As := [.int 2]) (rest := []) ⟨hx, hb, hml, hown, hts⟩ (c_L_draw (hC z24) (z := z) q34) (cwV 1 hts (gV mw_124 mw_125 mw_126 mw_2 mw_127) rfl rfl rfl hd_L_draw ⟨Nat.le_of_ble_eq_true rfl, Nat.le_of_ble_eq_true rfl⟩) hK hZ hP rfl (at_Law (hC z24) hP) rfl hl.1 rfl (Nat.le_of_ble_eq_true rfl) dL_accesses_330 ⟨by decide, by decide⟩ hL (fun H locs hP hL => ?_)
      replace hP : P r33.2 z24 H := by first | exact hP | (simpa only [va_up_id] using hP)
      refine lv_if_ne (tgt := 340) hx hb dL_accesses_333 (by decide) (fun c35 => ?_) (fun c35 => ?_)
      · have hf := cx_f hf c35
        refine lv_iconst (v := 0) hx hb dL_accesses_340 (by decide) ?_
        exact w_L_accesses_b341 C0 hZ hC hChad r33.2 z24 x1 x2 x4 x5 x6 x7 x8 x9 x10 x11 0 _ _ _ hf hP hL (lv_sub hl [1, 2, 3, 4, 5, 6, 7, 8, 9, 10, 11, 0] rfl)
      · have hf := cx_t hf c35
        refine lv_iconst (v := 1) hx hb dL_accesses_336 (by decide) ?_
        refine lv_goto (tgt := 341) hx hb dL_accesses_337 (by decide) ?_
        exact w_L_accesses_b341 C0 hZ hC hChad r33.2 z24 x1 x2 x4 x5 x6 x7 x8 x9 x10 x11 1 _ _ _ hf hP hL (lv_sub hl [1, 2, 3, 4, 5, 6, 7, 8, 9, 10, 11, 0] rfl)
    · have hf := cx_f hf c32
      refine lv_iconst (v := 0) hx hb dL_accesses_326 (by decide) ?_
      cases hf
      exact cx_zret hx hb hr hlocks (Or.inl rfl) hP hL dL_accesses_327
abbrev rm_L_foretells : Room := { frames := 8, cells := 27, slots := 1418, locals := 201 }
theorem hd_L_foretells : yL_foretells.cls = RL ∧ yL_foretells.cls ≠ "java/lang/invoke/MethodHandle" ∧ yL_foretells.cls ≠ "java/lang/invoke/VarHandle" ∧ (parseMethodDescriptor yL_foretells.desc).map (fun d => d.parameters.length) = some 0 := by decide +kernel
def f_L_foretells_b0 {ρ : Type} (N : Nat) (k63 : ZS → LwS → Int32 → Int32 → Int32 → Int32 → Int32 → Int32 → Int32 → Option (ρ)) (z : ZS) (δ : LwS) : Option (ρ) := (f_L_count N δ.2 6).bind fun r1 => (f_L_draw z δ r1).bind fun r3 => (f_L_someBlock z r3.2).bind fun r5 => (f_L_draw z r5.2 20).bind fun r7 => (f_L_draw z r7.2 3).bind fun r9 => (f_L_bestLength N r9.2.2 r3.1 (if r5.1 < 150 then r5.1 else 150) (1 + r7.1) (1 + r9.1)).bind fun r11 => cx_let ((r9.2.1, r11.2)) fun z13 => k63 z z13 r3.1 (if r5.1 < 150 then r5.1 else 150) (1 + r7.1) (1 + r9.1) r11.1 (-1) (-1)
set_option maxHeartbeats 4000000 in
set_option maxRecDepth 100000 in
theorem w_L_foretells_b0 {p : Program} {l : Launch} {e : Env} {s : State} {m : MethodId} {args : Array Value} {below : List Frame} {meth : Method} {c : Code} {G : va_G} {cA : Nat → ClassId} (C0 : cB p s m args meth c RL cL_foretells 12 (some .boolean) G cA) {lo : Nat} {z : ZS} (hZ : Zt lo z s) {ad : Nat → Nat} {sv : Nat → Option Nat} {P : LwS → Heap → Prop} (hC : cx G lo 264 ad (ceLaw z.1 sv cA ad) P) {Q : State → Prop} {ρ : Type} {N : Nat} {res : ρ} {k63 : ZS → LwS → Int32 → Int32 → Int32 → Int32 → Int32 → Int32 → Int32 → Option (ρ)} (hk63 : ∀ (δ : LwS) (x1 : Int32) (x2 : Int32) (x3 : Int32) (x4 : Int32) (x5 : Int32) (x6 : Int32) (x7 : Int32) (H : Heap) (locs : List Loc) (ls : Array Slot), k63 z δ x1 x2 x3 x4 x5 x6 x7 = some res → P δ H → (∀ q ∈ locs, lo ≤ q.base) → lv_has ls 12 [(0, .ref (ad 0)), (1, .int x1), (2, .int x2), (3, .int x3), (4, .int x4), (5, .int x5), (6, .int x6), (7, .int x7)] → W p l e rm_L_foretells s m args below meth c H locs 0 0 Q (F0 m 63 ls [])) : ∀ (δ : LwS) (H : Heap) (locs : List Loc) (ls : Array Slot), f_L_foretells_b0 N k63 z δ = some res → P δ H → (∀ q ∈ locs, lo ≤ q.base) → lv_has ls 12 [(0, .ref (ad 0))] → W p l e rm_L_foretells s m args below meth c H locs 0 0 Q (F0 m 0 ls []) := by
  obtain ⟨⟨hx, hb, hml, hown, hts⟩, hr, hlocks, hK⟩ := id C0
  intro δ H locs ls hf hP hL hl
  unfold f_L_foretells_b0 at hf
  refine lv_aload_n hx hb dL_foretells_0 rfl (lv_at hl 0 rfl) ?_
  refine lv_aload_n hx hb dL_foretells_1 rfl (lv_at hl 0 rfl) ?_
  refine g_Law_0 hC hP hx hb hts hown hK mw_12 dL_foretells_2 ?_
  refine lv_bipush (v := 6) hx hb dL_foretells_5 (by decide) ?_
  obtain ⟨r1, q2, hf⟩ := cx_b hf
  refine cx_callSX (As := [.ref ((adLG ad) 0), .int 6]) (rest := [.ref (ad 0)]) ⟨hx, hb, hml, hown, hts⟩ (c_L_count (cx_lwG hC δ) q2) (vx_cwSW 2 hts (gSWx mw_275 mw_276 mw_2 mw_277) rfl rfl rfl hd_L_count.2 ⟨Nat.le_of_ble_eq_true rfl, Nat.le_of_ble_eq_true rfl⟩) hK (show P (δ.1, δ.2) _ by (repeat rw [va_up_id]); exact hP) rfl hl.1 rfl (Nat.le_of_ble_eq_true rfl) dL_foretells_7 ⟨Nat.zero_le _, Nat.zero_le _⟩ hL (fun H locs hP hL => ?_)
  replace hP : P δ H := by first | exact hP | (simpa only [va_up_id] using hP)
  obtain ⟨r3, q4, hf⟩ := cx_b hf
  refine cx_callVZ (As := [.int r1]) (rest := []) ⟨hx, hb, hml, hown, hts⟩ (c_L_draw hC (z := z) q4) (cwV 1 hts (gV mw_124 mw_125 mw_126 mw_2 mw_127) rfl rfl rfl hd_L_draw ⟨Nat.le_of_ble_eq_true rfl, Nat.le_of_ble_eq_true rfl⟩) hK hZ hP rfl (at_Law hC hP) rfl hl.1 rfl (Nat.le_of_ble_eq_true rfl) dL_foretells_10 ⟨Nat.zero_le _, Nat.zero_le _⟩ hL (fun H locs hP hL => ?_)
  replace hP : P r3.2 H := by first | exact hP | (simpa only [va_up_id] using hP)
  refine lv_istore_n (lv' := [(1, .int r3.1), (0, .ref (ad 0))]) hx hb dL_foretells_13 rfl hl (by decide) rfl (fun ls hl => ?_)
  refine lv_sipush (v := 150) hx hb dL_foretells_14 (by decide) ?_
  refine lv_aload_n hx hb dL_foretells_17 rfl (lv_at hl 1 rfl) ?_
  obtain ⟨r5, q6, hf⟩ := cx_b hf
  refine cx_callVZ (As := []) (rest := [.int 150]) ⟨hx, hb, hml, hown, hts⟩ (c_L_someBlock hC (z := z) q6) (cwV 0 hts (gV mw_348 mw_349 mw_350 mw_2 mw_351) rfl rfl rfl hd_L_someBlock ⟨Nat.le_of_ble_eq_true rfl, Nat.le_of_ble_eq_true rfl⟩) hK hZ hP rfl (at_Law hC hP) rfl hl.1 rfl (Nat.le_of_ble_eq_true rfl) dL_foretells_18 ⟨Nat.zero_le _, Nat.zero_le _⟩ hL (fun H locs hP hL => ?_)
  replace hP : P r5.2 H := by first | exact hP | (simpa only [va_up_id] using hP)
  refine va_mmin hx hb (hml.trans hl.1.symm) hown (hts _ mw_352) (hts _ mw_165) (hts _ mw_131) (hts _ mw_166) (Nat.le_of_ble_eq_true rfl) (Nat.le_of_ble_eq_true rfl) (Nat.zero_le _) (Nat.zero_le _) dL_foretells_21 ?_
  refine lv_istore_n (lv' := [(2, .int (if r5.1 < 150 then r5.1 else 150)), (1, .int r3.1), (0, .ref (ad 0))]) hx hb dL_foretells_24 rfl hl (by decide) rfl (fun ls hl => ?_)
  refine lv_iconst (v := 1) hx hb dL_foretells_25 (by decide) ?_
  refine lv_aload_n hx hb dL_foretells_26 rfl (lv_at hl 2 rfl) ?_
  refine lv_bipush (v := 20) hx hb dL_foretells_27 (by decide) ?_
  obtain ⟨r7, q8, hf⟩ := cx_b hf
  refine cx_callVZ (As := [.int 20]) (rest := [.int 1]) ⟨hx, hb, hml, hown, hts⟩ (c_L_draw hC (z := z) q8) (cwV 1 hts (gV mw_124 mw_125 mw_126 mw_2 mw_127) rfl rfl rfl hd_L_draw ⟨Nat.le_of_ble_eq_true rfl, Nat.le_of_ble_eq_true rfl⟩) hK hZ hP rfl (at_Law hC hP) rfl hl.1 rfl (Nat.le_of_ble_eq_true rfl) dL_foretells_29 ⟨Nat.zero_le _, Nat.zero_le _⟩ hL (fun H locs hP hL => ?_)
  replace hP : P r7.2 H := by first | exact hP | (simpa only [va_up_id] using hP)
  refine lv_iadd hx hb dL_foretells_32 ?_
  refine lv_istore_n (lv' := [(3, .int (1 + r7.1)), (2, .int (if r5.1 < 150 then r5.1 else 150)), (1, .int r3.1), (0, .ref (ad 0))]) hx hb dL_foretells_33 rfl hl (by decide) rfl (fun ls hl => ?_)
  refine lv_iconst (v := 1) hx hb dL_foretells_34 (by decide) ?_
  refine lv_aload_n hx hb dL_foretells_35 rfl (lv_at hl 3 rfl) ?_
  refine lv_iconst (v := 3) hx hb dL_foretells_36 (by decide) ?_
  obtain ⟨r9, q10, hf⟩ := cx_b hf
  refine cx_callVZ (As := [.int 3]) (rest := [.int 1]) ⟨hx, hb, hml, hown, hts⟩ (c_L_draw hC (z := z) q10) (cwV 1 hts (gV mw_124 mw_125 mw_126 mw_2 mw_127) rfl rfl rfl hd_L_draw ⟨Nat.le_of_ble_eq_true rfl, Nat.le_of_ble_eq_true rfl⟩) hK hZ hP rfl (at_Law hC hP) rfl hl.1 rfl (Nat.le_of_ble_eq_true rfl) dL_foretells_37 ⟨Nat.zero_le _, Nat.zero_le _⟩ hL (fun H locs hP hL => ?_)
  replace hP : P r9.2 H := by first | exact hP | (simpa only [va_up_id] using hP)
  refine lv_iadd hx hb dL_foretells_40 ?_
  refine lv_istore (lv' := [(4, .int (1 + r9.1)), (3, .int (1 + r7.1)), (2, .int (if r5.1 < 150 then r5.1 else 150)), (1, .int r3.1), (0, .ref (ad 0))]) hx hb dL_foretells_41 hl (by decide) rfl (fun ls hl => ?_)
  refine lv_aload_n hx hb dL_foretells_43 rfl (lv_at hl 4 rfl) ?_
  refine g_Law_0 hC hP hx hb hts hown hK mw_12 dL_foretells_44 ?_
  refine lv_iload_n hx hb dL_foretells_47 rfl (lv_at hl 3 rfl) ?_
  refine lv_iload_n hx hb dL_foretells_48 rfl (lv_at hl 2 rfl) ?_
  refine lv_iload_n hx hb dL_foretells_49 rfl (lv_at hl 1 rfl) ?_
  refine lv_iload hx hb dL_foretells_50 (lv_at hl 0 rfl) ?_
  obtain ⟨r11, q12, hf⟩ := cx_b hf
  refine cx_callSX (As := [.ref ((adLG ad) 0), .int r3.1, .int (if r5.1 < 150 then r5.1 else 150), .int (1 + r7.1), .int (1 + r9.1)]) (rest := []) ⟨hx, hb, hml, hown, hts⟩ (c_L_bestLength (cx_lwG hC r9.2) q12) (vx_cwSW 5 hts (gSWx mw_716 mw_717 mw_2 mw_718) rfl rfl rfl hd_L_bestLength.2 ⟨Nat.le_of_ble_eq_true rfl, Nat.le_of_ble_eq_true rfl⟩) hK (show P (r9.2.1, r9.2.2) _ by (repeat rw [va_up_id]); exact hP) rfl hl.1 rfl (Nat.le_of_ble_eq_true rfl) dL_foretells_52 ⟨Nat.zero_le _, Nat.zero_le _⟩ hL (fun H locs hP hL => ?_)
  obtain ⟨z13, ez13, hf⟩ := cx_letE hf
  replace hP : P z13 H := by rw [← ez13]; exact hP
  refine lv_istore (lv' := [(5, .int r11.1), (4, .int (1 + r9.1)), (3, .int (1 + r7.1)), (2, .int (if r5.1 < 150 then r5.1 else 150)), (1, .int r3.1), (0, .ref (ad 0))]) hx hb dL_foretells_55 hl (by decide) rfl (fun ls hl => ?_)
  refine lv_iconst (v := (-1)) hx hb dL_foretells_57 (by decide) ?_
  refine lv_istore (lv' := [(6, .int (-1)), (5, .int r11.1), (4, .int (1 + r9.1)), (3, .int (1 + r7.1)), (2, .int (if r5.1 < 150 then r5.1 else 150)), (1, .int r3.1), (0, .ref (ad 0))]) hx hb dL_foretells_58 hl (by decide) rfl (fun ls hl => ?_)
  refine lv_iconst (v := (-1)) hx hb dL_foretells_60 (by decide) ?_
  refine lv_istore (lv' := [(7, .int (-1)), (6, .int (-1)), (5, .int r11.1), (4, .int (1 + r9.1)), (3, .int (1 + r7.1)), (2, .int (if r5.1 < 150 then r5.1 else 150)), (1, .int r3.1), (0, .ref (ad 0))]) hx hb dL_foretells_61 hl (by decide) rfl (fun ls hl => ?_)
  exact hk63 z13 r3.1 (if r5.1 < 150 then r5.1 else 150) (1 + r7.1) (1 + r9.1) r11.1 (-1) (-1) _ _ _ hf hP hL (lv_sub hl [7, 6, 5, 4, 3, 2, 1, 0] rfl)
def f_L_foretells_b67 {ρ : Type} (N : Nat) (k69 : Nat → ZS → LwS → (Nat → Int32) → Int32 → Int32 → Int32 → Int32 → Int32 → Int32 → Int32 → Option (ρ)) (nits : Nat) (z : ZS) (δ : LwS) (h : (Nat → Int32)) (x1 : Int32) (x2 : Int32) (x3 : Int32) (x4 : Int32) (x5 : Int32) (x6 : Int32) (x7 : Int32) : Option (ρ) := k69 nits z δ h x1 x2 x3 x4 x5 x6 x7
set_option maxHeartbeats 4000000 in
set_option maxRecDepth 100000 in
theorem w_L_foretells_b67 {p : Program} {l : Launch} {e : Env} {s : State} {m : MethodId} {args : Array Value} {below : List Frame} {meth : Method} {c : Code} {G : va_G} {cA : Nat → ClassId} (C0 : cB p s m args meth c RL cL_foretells 12 (some .boolean) G cA) {lo : Nat} {z : ZS} (hZ : Zt lo z s) {ad : Nat → Nat} {adits : Nat → Nat} {nits : Nat} {sv : Nat → Option Nat} {P : LwS → ((Nat → Int32)) → Heap → Prop} (hC : ∀ z0 : (Nat → Int32), cx G lo 264 ad (ceLaw z.1 sv cA ad) (fun x => P x z0)) (hCits : ∀ z0 : LwS, cx G lo 1 adits (ceArr nits cA adits) (fun x => P z0 x)) {Q : State → Prop} {ρ : Type} {N : Nat} {res : ρ} {k69 : Nat → ZS → LwS → (Nat → Int32) → Int32 → Int32 → Int32 → Int32 → Int32 → Int32 → Int32 → Option (ρ)} (hk69 : ∀ (δ : LwS) (h : (Nat → Int32)) (x1 : Int32) (x2 : Int32) (x3 : Int32) (x4 : Int32) (x5 : Int32) (x6 : Int32) (x7 : Int32) (H : Heap) (locs : List Loc) (ls : Array Slot), k69 nits z δ h x1 x2 x3 x4 x5 x6 x7 = some res → P δ h H → (∀ q ∈ locs, lo ≤ q.base) → lv_has ls 12 [(0, .ref (ad 0)), (1, .int x1), (2, .int x2), (3, .int x3), (4, .int x4), (5, .int x5), (6, .int x6), (7, .int x7), (8, .ref (adits 0))] → W p l e rm_L_foretells s m args below meth c H locs 1 7 Q (F0 m 69 ls [])) : ∀ (δ : LwS) (h : (Nat → Int32)) (x1 : Int32) (x2 : Int32) (x3 : Int32) (x4 : Int32) (x5 : Int32) (x6 : Int32) (x7 : Int32) (H : Heap) (locs : List Loc) (ls : Array Slot), f_L_foretells_b67 N k69 nits z δ h x1 x2 x3 x4 x5 x6 x7 = some res → P δ h H → (∀ q ∈ locs, lo ≤ q.base) → lv_has ls 12 [(0, .ref (ad 0)), (1, .int x1), (2, .int x2), (3, .int x3), (4, .int x4), (5, .int x5), (6, .int x6), (7, .int x7)] → W p l e rm_L_foretells s m args below meth c H locs 1 7 Q (F0 m 67 ls [.ref (adits 0)]) := by
  obtain ⟨⟨hx, hb, hml, hown, hts⟩, hr, hlocks, hK⟩ := id C0
  intro δ h x1 x2 x3 x4 x5 x6 x7 H locs ls hf hP hL hl
  unfold f_L_foretells_b67 at hf
  refine lv_astore (lv' := [(8, .ref (adits 0)), (0, .ref (ad 0)), (1, .int x1), (2, .int x2), (3, .int x3), (4, .int x4), (5, .int x5), (6, .int x6), (7, .int x7)]) hx hb dL_foretells_67 hl (by decide) rfl (fun ls hl => ?_)
  exact hk69 δ h x1 x2 x3 x4 x5 x6 x7 _ _ _ hf hP hL (lv_sub hl [1, 2, 3, 4, 5, 6, 7, 8, 0] rfl)
def f_L_foretells_b113 {ρ : Type} (N : Nat) (k168 : Nat → Nat → ZS → LwS → (Nat → Int32) → (Nat → Int32) → Int32 → Int32 → Int32 → Int32 → Int32 → Int32 → Int32 → Option (ρ)) : Nat → Nat → Nat → ZS → LwS → (Nat → Int32) → (Nat → Int32) → Int32 → Int32 → Int32 → Int32 → Int32 → Int32 → Int32 → Int32 → Option (ρ)
  | 0, _, _, _, _, _, _, _, _, _, _, _, _, _, _ => none
  | n + 1, nits, nat, z, δ, h, g, x1, x2, x3, x4, x5, x6, x7, x10 => if 7 ≤ x10 then k168 nits nat z δ h g x1 x2 x3 x4 x5 x6 x7 else (f_L_ahead N δ.2 x1 x2 x3 x4 x10).bind fun r2 => cx_let ((δ.1, r2.2)) fun z4 => if x10 = 5 then gd x10 nits (cx_let (upd h (Int32.toNatClampNeg x10) (r2.1 + 0)) fun z12 => f_L_foretells_b113 N k168 n nits nat z z4 z12 g x1 x2 x3 x4 x5 x6 x7 (x10 + 1)) else gd x10 nat ((f_L_count N z4.2 (g (Int32.toNatClampNeg x10))).bind fun r7 => gd x10 nits (cx_let (upd h (Int32.toNatClampNeg x10) (r2.1 + r7)) fun z10 => f_L_foretells_b113 N k168 n nits nat z z4 z10 g x1 x2 x3 x4 x5 x6 x7 (x10 + 1)))
set_option maxHeartbeats 4000000 in
set_option maxRecDepth 100000 in
theorem w_L_foretells_b113 {p : Program} {l : Launch} {e : Env} {s : State} {m : MethodId} {args : Array Value} {below : List Frame} {meth : Method} {c : Code} {G : va_G} {cA : Nat → ClassId} (C0 : cB p s m args meth c RL cL_foretells 12 (some .boolean) G cA) {lo : Nat} {z : ZS} (hZ : Zt lo z s) {ad : Nat → Nat} {adits : Nat → Nat} {adat : Nat → Nat} {nits : Nat} {nat : Nat} {sv : Nat → Option Nat} {P : LwS → ((Nat → Int32)) → ((Nat → Int32)) → Heap → Prop} (hC : ∀ z0 : (Nat → Int32), ∀ z1 : (Nat → Int32), cx G lo 264 ad (ceLaw z.1 sv cA ad) (fun x => P x z0 z1)) (hCits : ∀ z0 : LwS, ∀ z1 : (Nat → Int32), cx G lo 1 adits (ceArr nits cA adits) (fun x => P z0 x z1)) (hCat : ∀ z0 : LwS, ∀ z1 : (Nat → Int32), cx G lo 1 adat (ceArr nat cA adat) (fun x => P z0 z1 x)) {Q : State → Prop} {ρ : Type} {N : Nat} {res : ρ} {k168 : Nat → Nat → ZS → LwS → (Nat → Int32) → (Nat → Int32) → Int32 → Int32 → Int32 → Int32 → Int32 → Int32 → Int32 → Option (ρ)} (hk168 : ∀ (δ : LwS) (h : (Nat → Int32)) (g : (Nat → Int32)) (x1 : Int32) (x2 : Int32) (x3 : Int32) (x4 : Int32) (x5 : Int32) (x6 : Int32) (x7 : Int32) (H : Heap) (locs : List Loc) (ls : Array Slot), k168 nits nat z δ h g x1 x2 x3 x4 x5 x6 x7 = some res → P δ h g H → (∀ q ∈ locs, lo ≤ q.base) → lv_has ls 12 [(0, .ref (ad 0)), (1, .int x1), (2, .int x2), (3, .int x3), (4, .int x4), (5, .int x5), (6, .int x6), (7, .int x7), (8, .ref (adits 0)), (9, .ref (adat 0))] → W p l e rm_L_foretells s m args below meth c H locs 2 14 Q (F0 m 168 ls [])) : ∀ (n : Nat) (δ : LwS) (h : (Nat → Int32)) (g : (Nat → Int32)) (x1 : Int32) (x2 : Int32) (x3 : Int32) (x4 : Int32) (x5 : Int32) (x6 : Int32) (x7 : Int32) (x10 : Int32) (H : Heap) (locs : List Loc) (ls : Array Slot), f_L_foretells_b113 N k168 n nits nat z δ h g x1 x2 x3 x4 x5 x6 x7 x10 = some res → P δ h g H → (∀ q ∈ locs, lo ≤ q.base) → lv_has ls 12 [(0, .ref (ad 0)), (1, .int x1), (2, .int x2), (3, .int x3), (4, .int x4), (5, .int x5), (6, .int x6), (7, .int x7), (8, .ref (adits 0)), (9, .ref (adat 0)), (10, .int x10)] → W p l e rm_L_foretells s m args below meth c H locs 2 14 Q (F0 m 113 ls []) := by
  obtain ⟨⟨hx, hb, hml, hown, hts⟩, hr, hlocks, hK⟩ := id C0
  intro n
  induction n with
  | zero => intro δ h g x1 x2 x3 x4 x5 x6 x7 x10 H locs ls
            exact fun hf => nomatch hf
  | succ n ih =>
    intro δ h g x1 x2 x3 x4 x5 x6 x7 x10 H locs ls hf hP hL hl
    rw [f_L_foretells_b113] at hf
    refine lv_iload hx hb dL_foretells_113 (lv_at hl 10 rfl) ?_
    refine lv_bipush (v := 7) hx hb dL_foretells_115 (by decide) ?_
    refine lv_icmp_ge (tgt := 168) hx hb dL_foretells_117 (by decide) (fun c1 => ?_) (fun c1 => ?_)
    · have hf := cx_t hf c1
      exact hk168 δ h g x1 x2 x3 x4 x5 x6 x7 _ _ _ hf hP hL (lv_sub hl [0, 1, 2, 3, 4, 5, 6, 7, 8, 9] rfl)
    · have hf := cx_f hf c1
      refine lv_aload hx hb dL_foretells_120 (lv_at hl 8 rfl) ?_
      refine lv_iload hx hb dL_foretells_122 (lv_at hl 10 rfl) ?_
      refine lv_aload_n hx hb dL_foretells_124 rfl (lv_at hl 0 rfl) ?_
      refine g_Law_0 (hC h g) hP hx hb hts hown hK mw_12 dL_foretells_125 ?_
      refine lv_iload_n hx hb dL_foretells_128 rfl (lv_at hl 1 rfl) ?_
      refine lv_iload_n hx hb dL_foretells_129 rfl (lv_at hl 2 rfl) ?_
      refine lv_iload_n hx hb dL_foretells_130 rfl (lv_at hl 3 rfl) ?_
      refine lv_iload hx hb dL_foretells_131 (lv_at hl 4 rfl) ?_
      refine lv_iload hx hb dL_foretells_133 (lv_at hl 10 rfl) ?_
      obtain ⟨r2, q3, hf⟩ := cx_b hf
      refine cx_callSX (As := [.ref ((adLG ad) 0), .int x1, .int x2, .int x3, .int x4, .int x10]) (rest := [.int x10, .ref (adits 0)]) ⟨hx, hb, hml, hown, hts⟩ (c_L_ahead (cx_lwG (hC h g) δ) q3) (vx_cwSW 6 hts (gSWx mw_740 mw_741 mw_2 mw_742) rfl rfl rfl hd_L_ahead.2 ⟨Nat.le_of_ble_eq_true rfl, Nat.le_of_ble_eq_true rfl⟩) hK (show P (δ.1, δ.2) h g _ by (repeat rw [va_up_id]); exact hP) rfl hl.1 rfl (Nat.le_of_ble_eq_true rfl) dL_foretells_135 ⟨by decide, by decide⟩ hL (fun H locs hP hL => ?_)
      obtain ⟨z4, ez4, hf⟩ := cx_letE hf
      replace hP : P z4 h g H := by rw [← ez4]; exact hP
      refine lv_iload hx hb dL_foretells_138 (lv_at hl 10 rfl) ?_
      refine lv_iconst (v := 5) hx hb dL_foretells_140 (by decide) ?_
      refine lv_icmp_ne (tgt := 148) hx hb dL_foretells_141 (by decide) (fun c5 => ?_) (fun c5 => ?_)
      · have hf := cx_f hf c5
        refine lv_aload_n hx hb dL_foretells_148 rfl (lv_at hl 0 rfl) ?_
        refine g_Law_0 (hC h g) hP hx hb hts hown hK mw_12 dL_foretells_149 ?_
        refine lv_aload hx hb dL_foretells_152 (lv_at hl 9 rfl) ?_
        refine lv_iload hx hb dL_foretells_154 (lv_at hl 10 rfl) ?_
        obtain ⟨hi6, hf⟩ := gdE hf
        refine ga_Arr_0 (hCat z4 h) hP hx hb hK hi6 dL_foretells_156 ?_
        obtain ⟨r7, q8, hf⟩ := cx_b hf
        refine cx_callSX (As := [.ref ((adLG ad) 0), .int (g (Int32.toNatClampNeg x10))]) (rest := [.int r2.1, .int x10, .ref (adits 0)]) ⟨hx, hb, hml, hown, hts⟩ (c_L_count (cx_lwG (hC h g) z4) q8) (vx_cwSW 2 hts (gSWx mw_275 mw_276 mw_2 mw_277) rfl rfl rfl hd_L_count.2 ⟨Nat.le_of_ble_eq_true rfl, Nat.le_of_ble_eq_true rfl⟩) hK (show P (z4.1, z4.2) h g _ by (repeat rw [va_up_id]); exact hP) rfl hl.1 rfl (Nat.le_of_ble_eq_true rfl) dL_foretells_157 ⟨by decide, by decide⟩ hL (fun H locs hP hL => ?_)
        replace hP : P z4 h g H := by first | exact hP | (simpa only [va_up_id] using hP)
        refine lv_iadd hx hb dL_foretells_160 ?_
        obtain ⟨hi9, hf⟩ := gdE hf
        obtain ⟨z10, ez10, hf⟩ := cx_letE hf
        refine pa_Arr_0 (hCits z4 g) hP hx hb hK hi9 dL_foretells_161 hL (fun H locs hP hL => ?_)
        replace hP : P z4 z10 g H := by rw [← ez10]; exact hP
        refine lv_iinc (v := (x10 + 1)) (lv' := [(10, .int (x10 + 1)), (0, .ref (ad 0)), (1, .int x1), (2, .int x2), (3, .int x3), (4, .int x4), (5, .int x5), (6, .int x6), (7, .int x7), (8, .ref (adits 0)), (9, .ref (adat 0))]) hx hb dL_foretells_162 hl (k := 10) rfl rfl (by decide) rfl (fun ls hl => ?_)
        refine lv_goto (tgt := 113) hx hb dL_foretells_165 (by decide) ?_
        exact ih z4 z10 g x1 x2 x3 x4 x5 x6 x7 (x10 + 1) _ _ _ hf hP hL (lv_sub hl [1, 2, 3, 4, 5, 6, 7, 8, 9, 10, 0] rfl)
      · have hf := cx_t hf c5
        refine lv_iconst (v := 0) hx hb dL_foretells_144 (by decide) ?_
        refine lv_goto (tgt := 160) hx hb dL_foretells_145 (by decide) ?_
        refine lv_iadd hx hb dL_foretells_160 ?_
        obtain ⟨hi11, hf⟩ := gdE hf
        obtain ⟨z12, ez12, hf⟩ := cx_letE hf
        refine pa_Arr_0 (hCits z4 g) hP hx hb hK hi11 dL_foretells_161 hL (fun H locs hP hL => ?_)
        replace hP : P z4 z12 g H := by rw [← ez12]; exact hP
        refine lv_iinc (v := (x10 + 1)) (lv' := [(10, .int (x10 + 1)), (0, .ref (ad 0)), (1, .int x1), (2, .int x2), (3, .int x3), (4, .int x4), (5, .int x5), (6, .int x6), (7, .int x7), (8, .ref (adits 0)), (9, .ref (adat 0))]) hx hb dL_foretells_162 hl (k := 10) rfl rfl (by decide) rfl (fun ls hl => ?_)
        refine lv_goto (tgt := 113) hx hb dL_foretells_165 (by decide) ?_
        exact ih z4 z12 g x1 x2 x3 x4 x5 x6 x7 (x10 + 1) _ _ _ hf hP hL (lv_sub hl [1, 2, 3, 4, 5, 6, 7, 8, 9, 10, 0] rfl)
def f_L_foretells_b73 {ρ : Type} (N : Nat) (k168 : Nat → Nat → ZS → LwS → (Nat → Int32) → (Nat → Int32) → Int32 → Int32 → Int32 → Int32 → Int32 → Int32 → Int32 → Option (ρ)) (nits : Nat) (nat : Nat) (z : ZS) (δ : LwS) (h : (Nat → Int32)) (g : (Nat → Int32)) (x1 : Int32) (x2 : Int32) (x3 : Int32) (x4 : Int32) (x5 : Int32) (x6 : Int32) (x7 : Int32) : Option (ρ) := gd 0 nat (cx_let (upd g (Int32.toNatClampNeg 0) 14) fun z2 => gd 1 nat (cx_let (upd z2 (Int32.toNatClampNeg 1) 15) fun z4 => gd 2 nat (cx_let (upd z4 (Int32.toNatClampNeg 2) 16) fun z6 => gd 3 nat (cx_let (upd z6 (Int32.toNatClampNeg 3) 19) fun z8 => gd 4 nat (cx_let (upd z8 (Int32.toNatClampNeg 4) 21) fun z10 => gd 5 nat (cx_let (upd z10 (Int32.toNatClampNeg 5) 4) fun z12 => gd 6 nat (cx_let (upd z12 (Int32.toNatClampNeg 6) 22) fun z14 => f_L_foretells_b113 N k168 N nits nat z δ h z14 x1 x2 x3 x4 x5 x6 x7 0)))))))
set_option maxHeartbeats 4000000 in
set_option maxRecDepth 100000 in
theorem w_L_foretells_b73 {p : Program} {l : Launch} {e : Env} {s : State} {m : MethodId} {args : Array Value} {below : List Frame} {meth : Method} {c : Code} {G : va_G} {cA : Nat → ClassId} (C0 : cB p s m args meth c RL cL_foretells 12 (some .boolean) G cA) {lo : Nat} {z : ZS} (hZ : Zt lo z s) {ad : Nat → Nat} {adits : Nat → Nat} {adat : Nat → Nat} {nits : Nat} {nat : Nat} {sv : Nat → Option Nat} {P : LwS → ((Nat → Int32)) → ((Nat → Int32)) → Heap → Prop} (hC : ∀ z0 : (Nat → Int32), ∀ z1 : (Nat → Int32), cx G lo 264 ad (ceLaw z.1 sv cA ad) (fun x => P x z0 z1)) (hCits : ∀ z0 : LwS, ∀ z1 : (Nat → Int32), cx G lo 1 adits (ceArr nits cA adits) (fun x => P z0 x z1)) (hCat : ∀ z0 : LwS, ∀ z1 : (Nat → Int32), cx G lo 1 adat (ceArr nat cA adat) (fun x => P z0 z1 x)) {Q : State → Prop} {ρ : Type} {N : Nat} {res : ρ} {k168 : Nat → Nat → ZS → LwS → (Nat → Int32) → (Nat → Int32) → Int32 → Int32 → Int32 → Int32 → Int32 → Int32 → Int32 → Option (ρ)} (hk168 : ∀ (δ : LwS) (h : (Nat → Int32)) (g : (Nat → Int32)) (x1 : Int32) (x2 : Int32) (x3 : Int32) (x4 : Int32) (x5 : Int32) (x6 : Int32) (x7 : Int32) (H : Heap) (locs : List Loc) (ls : Array Slot), k168 nits nat z δ h g x1 x2 x3 x4 x5 x6 x7 = some res → P δ h g H → (∀ q ∈ locs, lo ≤ q.base) → lv_has ls 12 [(0, .ref (ad 0)), (1, .int x1), (2, .int x2), (3, .int x3), (4, .int x4), (5, .int x5), (6, .int x6), (7, .int x7), (8, .ref (adits 0)), (9, .ref (adat 0))] → W p l e rm_L_foretells s m args below meth c H locs 2 14 Q (F0 m 168 ls [])) : ∀ (δ : LwS) (h : (Nat → Int32)) (g : (Nat → Int32)) (x1 : Int32) (x2 : Int32) (x3 : Int32) (x4 : Int32) (x5 : Int32) (x6 : Int32) (x7 : Int32) (H : Heap) (locs : List Loc) (ls : Array Slot), f_L_foretells_b73 N k168 nits nat z δ h g x1 x2 x3 x4 x5 x6 x7 = some res → P δ h g H → (∀ q ∈ locs, lo ≤ q.base) → lv_has ls 12 [(0, .ref (ad 0)), (1, .int x1), (2, .int x2), (3, .int x3), (4, .int x4), (5, .int x5), (6, .int x6), (7, .int x7), (8, .ref (adits 0))] → W p l e rm_L_foretells s m args below meth c H locs 2 14 Q (F0 m 73 ls [.ref (adat 0)]) := by
  obtain ⟨⟨hx, hb, hml, hown, hts⟩, hr, hlocks, hK⟩ := id C0
  intro δ h g x1 x2 x3 x4 x5 x6 x7 H locs ls hf hP hL hl
  unfold f_L_foretells_b73 at hf
  refine lv_dup hx hb dL_foretells_73 rfl ?_
  refine lv_iconst (v := 0) hx hb dL_foretells_74 (by decide) ?_
  refine lv_bipush (v := 14) hx hb dL_foretells_75 (by decide) ?_
  obtain ⟨hi1, hf⟩ := gdE hf
  obtain ⟨z2, ez2, hf⟩ := cx_letE hf
  refine pa_Arr_0 (hCat δ h) hP hx hb hK hi1 dL_foretells_77 hL (fun H locs hP hL => ?_)
  replace hP : P δ h z2 H := by rw [← ez2]; exact hP
  refine lv_dup hx hb dL_foretells_78 rfl ?_
  refine lv_iconst (v := 1) hx hb dL_foretells_79 (by decide) ?_
  refine lv_bipush (v := 15) hx hb dL_foretells_80 (by decide) ?_
  obtain ⟨hi3, hf⟩ := gdE hf
  obtain ⟨z4, ez4, hf⟩ := cx_letE hf
  refine pa_Arr_0 (hCat δ h) hP hx hb hK hi3 dL_foretells_82 hL (fun H locs hP hL => ?_)
  replace hP : P δ h z4 H := by rw [← ez4]; exact hP
  refine lv_dup hx hb dL_foretells_83 rfl ?_
  refine lv_iconst (v := 2) hx hb dL_foretells_84 (by decide) ?_
  refine lv_bipush (v := 16) hx hb dL_foretells_85 (by decide) ?_
  obtain ⟨hi5, hf⟩ := gdE hf
  obtain ⟨z6, ez6, hf⟩ := cx_letE hf
  refine pa_Arr_0 (hCat δ h) hP hx hb hK hi5 dL_foretells_87 hL (fun H locs hP hL => ?_)
  replace hP : P δ h z6 H := by rw [← ez6]; exact hP
  refine lv_dup hx hb dL_foretells_88 rfl ?_
  refine lv_iconst (v := 3) hx hb dL_foretells_89 (by decide) ?_
  refine lv_bipush (v := 19) hx hb dL_foretells_90 (by decide) ?_
  obtain ⟨hi7, hf⟩ := gdE hf
  obtain ⟨z8, ez8, hf⟩ := cx_letE hf
  refine pa_Arr_0 (hCat δ h) hP hx hb hK hi7 dL_foretells_92 hL (fun H locs hP hL => ?_)
  replace hP : P δ h z8 H := by rw [← ez8]; exact hP
  refine lv_dup hx hb dL_foretells_93 rfl ?_
  refine lv_iconst (v := 4) hx hb dL_foretells_94 (by decide) ?_
  refine lv_bipush (v := 21) hx hb dL_foretells_95 (by decide) ?_
  obtain ⟨hi9, hf⟩ := gdE hf
  obtain ⟨z10, ez10, hf⟩ := cx_letE hf
  refine pa_Arr_0 (hCat δ h) hP hx hb hK hi9 dL_foretells_97 hL (fun H locs hP hL => ?_)
  replace hP : P δ h z10 H := by rw [← ez10]; exact hP
  refine lv_dup hx hb dL_foretells_98 rfl ?_
  refine lv_iconst (v := 5) hx hb dL_foretells_99 (by decide) ?_
  refine lv_iconst (v := 4) hx hb dL_foretells_100 (by decide) ?_
  obtain ⟨hi11, hf⟩ := gdE hf
  obtain ⟨z12, ez12, hf⟩ := cx_letE hf
  refine pa_Arr_0 (hCat δ h) hP hx hb hK hi11 dL_foretells_101 hL (fun H locs hP hL => ?_)
  replace hP : P δ h z12 H := by rw [← ez12]; exact hP
  refine lv_dup hx hb dL_foretells_102 rfl ?_
  refine lv_bipush (v := 6) hx hb dL_foretells_103 (by decide) ?_
  refine lv_bipush (v := 22) hx hb dL_foretells_105 (by decide) ?_
  obtain ⟨hi13, hf⟩ := gdE hf
  obtain ⟨z14, ez14, hf⟩ := cx_letE hf
  refine pa_Arr_0 (hCat δ h) hP hx hb hK hi13 dL_foretells_107 hL (fun H locs hP hL => ?_)
  replace hP : P δ h z14 H := by rw [← ez14]; exact hP
  refine lv_astore (lv' := [(9, .ref (adat 0)), (0, .ref (ad 0)), (1, .int x1), (2, .int x2), (3, .int x3), (4, .int x4), (5, .int x5), (6, .int x6), (7, .int x7), (8, .ref (adits 0))]) hx hb dL_foretells_108 hl (by decide) rfl (fun ls hl => ?_)
  refine lv_iconst (v := 0) hx hb dL_foretells_110 (by decide) ?_
  refine lv_istore (lv' := [(10, .int 0), (9, .ref (adat 0)), (0, .ref (ad 0)), (1, .int x1), (2, .int x2), (3, .int x3), (4, .int x4), (5, .int x5), (6, .int x6), (7, .int x7), (8, .ref (adits 0))]) hx hb dL_foretells_111 hl (by decide) rfl (fun ls hl => ?_)
  exact w_L_foretells_b113 C0 hZ hC hCits hCat hk168 N δ h z14 x1 x2 x3 x4 x5 x6 x7 0 _ _ _ hf hP hL (lv_sub hl [2, 3, 4, 5, 6, 7, 8, 9, 10, 1, 0] rfl)
def f_L_foretells_b295 (N : Nat) (k285 : Nat → Nat → ZS → LwS → (Nat → Int32) → (Nat → Int32) → CacS → Int32 → Int32 → Int32 → Int32 → Int32 → Option (Int32 × LwS × ((Nat → Int32)) × ((Nat → Int32)) × CacS)) : Nat → Nat → Nat → ZS → LwS → (Nat → Int32) → (Nat → Int32) → CacS → Int32 → Int32 → Int32 → Int32 → Int32 → Int32 → Option (Int32 × LwS × ((Nat → Int32)) × ((Nat → Int32)) × CacS)
  | 0, _, _, _, _, _, _, _, _, _, _, _, _, _ => none
  | n + 1, nits, nat, z, δ, h, g, κ, x1, x2, x3, x4, x10, x11 => if (x2 + x3) ≤ x11 then k285 nits nat z δ h g κ x1 x2 x3 x4 (x10 + 1) else (f_L_read N δ.2 x1 x11).bind fun r2 => cx_let ((δ.1, r2.2)) fun z4 => gd x11 200 (if r2.1 = (z4.1.1 3 (Int32.toNatClampNeg x11)) then f_L_foretells_b295 N k285 n nits nat z z4 h g κ x1 x2 x3 x4 x10 (x11 + 1) else some (0, z4, h, g, κ))
set_option maxHeartbeats 4000000 in
set_option maxRecDepth 100000 in
theorem w_L_foretells_b295 {p : Program} {l : Launch} {e : Env} {s : State} {m : MethodId} {args : Array Value} {below : List Frame} {meth : Method} {c : Code} {G : va_G} {cA : Nat → ClassId} (C0 : cB p s m args meth c RL cL_foretells 12 (some .boolean) G cA) {lo : Nat} {z : ZS} (hZ : Zt lo z s) {ad : Nat → Nat} {adits : Nat → Nat} {adat : Nat → Nat} {adkept : Nat → Nat} {nits : Nat} {nat : Nat} {sv : Nat → Option Nat} {P : LwS → ((Nat → Int32)) → ((Nat → Int32)) → CacS → Heap → Prop} (hC : ∀ z0 : (Nat → Int32), ∀ z1 : (Nat → Int32), ∀ z2 : CacS, cx G lo 264 ad (ceLaw z.1 sv cA ad) (fun x => P x z0 z1 z2)) (hCits : ∀ z0 : LwS, ∀ z1 : (Nat → Int32), ∀ z2 : CacS, cx G lo 1 adits (ceArr nits cA adits) (fun x => P z0 x z1 z2)) (hCat : ∀ z0 : LwS, ∀ z1 : (Nat → Int32), ∀ z2 : CacS, cx G lo 1 adat (ceArr nat cA adat) (fun x => P z0 z1 x z2)) (hCkept : ∀ z0 : LwS, ∀ z1 : (Nat → Int32), ∀ z2 : (Nat → Int32), cx G lo 25 adkept (ceCache cA adkept) (fun x => P z0 z1 z2 x)) (hsv : sv 1 = some (adkept 0)) {N : Nat} {res : Int32 × LwS × ((Nat → Int32)) × ((Nat → Int32)) × CacS} {k285 : Nat → Nat → ZS → LwS → (Nat → Int32) → (Nat → Int32) → CacS → Int32 → Int32 → Int32 → Int32 → Int32 → Option (Int32 × LwS × ((Nat → Int32)) × ((Nat → Int32)) × CacS)} (hk285 : ∀ (δ : LwS) (h : (Nat → Int32)) (g : (Nat → Int32)) (κ : CacS) (x1 : Int32) (x2 : Int32) (x3 : Int32) (x4 : Int32) (x10 : Int32) (H : Heap) (locs : List Loc) (ls : Array Slot), k285 nits nat z δ h g κ x1 x2 x3 x4 x10 = some res → P δ h g κ H → (∀ q ∈ locs, lo ≤ q.base) → lv_has ls 12 [(0, .ref (ad 0)), (1, .int x1), (2, .int x2), (3, .int x3), (4, .int x4), (8, .ref (adits 0)), (9, .ref (adat 0)), (10, .int x10)] → W p l e rm_L_foretells s m args below meth c H locs 27 1418 (MQ below (cQ (some (.int res.1)) (P res.2.1 res.2.2.1 res.2.2.2.1 res.2.2.2.2)) args s 27 1418 (fun q => lo ≤ q)) (F0 m 285 ls [])) : ∀ (n : Nat) (δ : LwS) (h : (Nat → Int32)) (g : (Nat → Int32)) (κ : CacS) (x1 : Int32) (x2 : Int32) (x3 : Int32) (x4 : Int32) (x10 : Int32) (x11 : Int32) (H : Heap) (locs : List Loc) (ls : Array Slot), f_L_foretells_b295 N k285 n nits nat z δ h g κ x1 x2 x3 x4 x10 x11 = some res → P δ h g κ H → (∀ q ∈ locs, lo ≤ q.base) → lv_has ls 12 [(0, .ref (ad 0)), (1, .int x1), (2, .int x2), (3, .int x3), (4, .int x4), (8, .ref (adits 0)), (9, .ref (adat 0)), (10, .int x10), (11, .int x11)] → W p l e rm_L_foretells s m args below meth c H locs 27 1418 (MQ below (cQ (some (.int res.1)) (P res.2.1 res.2.2.1 res.2.2.2.1 res.2.2.2.2)) args s 27 1418 (fun q => lo ≤ q)) (F0 m 295 ls []) := by
  obtain ⟨⟨hx, hb, hml, hown, hts⟩, hr, hlocks, hK⟩ := id C0
  intro n
  induction n with
  | zero => intro δ h g κ x1 x2 x3 x4 x10 x11 H locs ls
            exact fun hf => nomatch hf
  | succ n ih =>
    intro δ h g κ x1 x2 x3 x4 x10 x11 H locs ls hf hP hL hl
    rw [f_L_foretells_b295] at hf
    refine lv_iload hx hb dL_foretells_295 (lv_at hl 8 rfl) ?_
    refine lv_iload_n hx hb dL_foretells_297 rfl (lv_at hl 2 rfl) ?_
    refine lv_iload_n hx hb dL_foretells_298 rfl (lv_at hl 3 rfl) ?_
    refine lv_iadd hx hb dL_foretells_299 ?_
    refine lv_icmp_ge (tgt := 331) hx hb dL_foretells_300 (by decide) (fun c1 => ?_) (fun c1 => ?_)
    · have hf := cx_t hf c1
      refine lv_iinc (v := (x10 + 1)) (lv' := [(10, .int (x10 + 1)), (0, .ref (ad 0)), (1, .int x1), (2, .int x2), (3, .int x3), (4, .int x4), (8, .ref (adits 0)), (9, .ref (adat 0)), (11, .int x11)]) hx hb dL_foretells_331 hl (k := 7) rfl rfl (by decide) rfl (fun ls hl => ?_)
      refine lv_goto (tgt := 285) hx hb dL_foretells_334 (by decide) ?_
      exact hk285 δ h g κ x1 x2 x3 x4 (x10 + 1) _ _ _ hf hP hL (lv_sub hl [1, 2, 3, 4, 5, 6, 7, 0] rfl)
    · have hf := cx_f hf c1
      refine lv_aload_n hx hb dL_foretells_303 rfl (lv_at hl 0 rfl) ?_
      refine g_Law_0 (hC h g κ) hP hx hb hts hown hK mw_12 dL_foretells_304 ?_
      refine lv_iload_n hx hb dL_foretells_307 rfl (lv_at hl 1 rfl) ?_
      refine lv_iload hx hb dL_foretells_308 (lv_at hl 8 rfl) ?_
      obtain ⟨r2, q3, hf⟩ := cx_b hf
      refine cx_callSX (As := [.ref ((adLG ad) 0), .int x1, .int x11]) (rest := []) ⟨hx, hb, hml, hown, hts⟩ (c_L_read (cx_lwG (hC h g κ) δ) q3) (vx_cwSW 3 hts (gSWx mw_545 mw_546 mw_2 mw_547) rfl rfl rfl hd_L_read.2 ⟨Nat.le_of_ble_eq_true rfl, Nat.le_of_ble_eq_true rfl⟩) hK (show P (δ.1, δ.2) h g κ _ by (repeat rw [va_up_id]); exact hP) rfl hl.1 rfl (Nat.le_of_ble_eq_true rfl) dL_foretells_310 ⟨by decide, by decide⟩ hL (fun H locs hP hL => ?_)
      obtain ⟨z4, ez4, hf⟩ := cx_letE hf
      replace hP : P z4 h g κ H := by rw [← ez4]; exact hP
      refine lv_aload_n hx hb dL_foretells_313 rfl (lv_at hl 0 rfl) ?_
      refine g_Law_3 (hC h g κ) hP hx hb hts hown hK mw_14 dL_foretells_314 ?_
      refine lv_iload hx hb dL_foretells_317 (lv_at hl 8 rfl) ?_
      obtain ⟨hi5, hf⟩ := gdE hf
      refine ga_Law_3 (hC h g κ) hP hx hb hK hi5 dL_foretells_319 ?_
      refine lv_icmp_eq (tgt := 325) hx hb dL_foretells_320 (by decide) (fun c6 => ?_) (fun c6 => ?_)
      · have hf := cx_t hf c6
        refine lv_iinc (v := (x11 + 1)) (lv' := [(11, .int (x11 + 1)), (0, .ref (ad 0)), (1, .int x1), (2, .int x2), (3, .int x3), (4, .int x4), (8, .ref (adits 0)), (9, .ref (adat 0)), (10, .int x10)]) hx hb dL_foretells_325 hl (k := 8) rfl rfl (by decide) rfl (fun ls hl => ?_)
        refine lv_goto (tgt := 295) hx hb dL_foretells_328 (by decide) ?_
        exact ih z4 h g κ x1 x2 x3 x4 x10 (x11 + 1) _ _ _ hf hP hL (lv_sub hl [1, 2, 3, 4, 5, 6, 7, 8, 0] rfl)
      · have hf := cx_f hf c6
        refine lv_iconst (v := 0) hx hb dL_foretells_323 (by decide) ?_
        cases hf
        exact cx_zret hx hb hr hlocks (Or.inl rfl) hP hL dL_foretells_324
def f_L_foretells_b340 (N : Nat) : Nat → Nat → Nat → ZS → LwS → (Nat → Int32) → (Nat → Int32) → CacS → Int32 → Option (Int32 × LwS × ((Nat → Int32)) × ((Nat → Int32)) × CacS)
  | 0, _, _, _, _, _, _, _, _ => none
  | n + 1, nits, nat, z, δ, h, g, κ, x10 => if 7 ≤ x10 then some (1, δ, h, g, κ) else gd x10 nat ((f_L_count N δ.2 (g (Int32.toNatClampNeg x10))).bind fun r3 => gd x10 nits (if r3 = (h (Int32.toNatClampNeg x10)) then f_L_foretells_b340 N n nits nat z δ h g κ (x10 + 1) else some (0, δ, h, g, κ)))
set_option maxHeartbeats 4000000 in
set_option maxRecDepth 100000 in
theorem w_L_foretells_b340 {p : Program} {l : Launch} {e : Env} {s : State} {m : MethodId} {args : Array Value} {below : List Frame} {meth : Method} {c : Code} {G : va_G} {cA : Nat → ClassId} (C0 : cB p s m args meth c RL cL_foretells 12 (some .boolean) G cA) {lo : Nat} {z : ZS} (hZ : Zt lo z s) {ad : Nat → Nat} {adits : Nat → Nat} {adat : Nat → Nat} {adkept : Nat → Nat} {nits : Nat} {nat : Nat} {sv : Nat → Option Nat} {P : LwS → ((Nat → Int32)) → ((Nat → Int32)) → CacS → Heap → Prop} (hC : ∀ z0 : (Nat → Int32), ∀ z1 : (Nat → Int32), ∀ z2 : CacS, cx G lo 264 ad (ceLaw z.1 sv cA ad) (fun x => P x z0 z1 z2)) (hCits : ∀ z0 : LwS, ∀ z1 : (Nat → Int32), ∀ z2 : CacS, cx G lo 1 adits (ceArr nits cA adits) (fun x => P z0 x z1 z2)) (hCat : ∀ z0 : LwS, ∀ z1 : (Nat → Int32), ∀ z2 : CacS, cx G lo 1 adat (ceArr nat cA adat) (fun x => P z0 z1 x z2)) (hCkept : ∀ z0 : LwS, ∀ z1 : (Nat → Int32), ∀ z2 : (Nat → Int32), cx G lo 25 adkept (ceCache cA adkept) (fun x => P z0 z1 z2 x)) (hsv : sv 1 = some (adkept 0)) {N : Nat} {res : Int32 × LwS × ((Nat → Int32)) × ((Nat → Int32)) × CacS} : ∀ (n : Nat) (δ : LwS) (h : (Nat → Int32)) (g : (Nat → Int32)) (κ : CacS) (x10 : Int32) (H : Heap) (locs : List Loc) (ls : Array Slot), f_L_foretells_b340 N n nits nat z δ h g κ x10 = some res → P δ h g κ H → (∀ q ∈ locs, lo ≤ q.base) → lv_has ls 12 [(0, .ref (ad 0)), (8, .ref (adits 0)), (9, .ref (adat 0)), (10, .int x10)] → W p l e rm_L_foretells s m args below meth c H locs 27 1418 (MQ below (cQ (some (.int res.1)) (P res.2.1 res.2.2.1 res.2.2.2.1 res.2.2.2.2)) args s 27 1418 (fun q => lo ≤ q)) (F0 m 340 ls []) := by
  obtain ⟨⟨hx, hb, hml, hown, hts⟩, hr, hlocks, hK⟩ := id C0
  intro n
  induction n with
  | zero => intro δ h g κ x10 H locs ls
            exact fun hf => nomatch hf
  | succ n ih =>
    intro δ h g κ x10 H locs ls hf hP hL hl
    rw [f_L_foretells_b340] at hf
    refine lv_iload hx hb dL_foretells_340 (lv_at hl 3 rfl) ?_
    refine lv_bipush (v := 7) hx hb dL_foretells_342 (by decide) ?_
    refine lv_icmp_ge (tgt := 375) hx hb dL_foretells_344 (by decide) (fun c1 => ?_) (fun c1 => ?_)
    · have hf := cx_t hf c1
      refine lv_iconst (v := 1) hx hb dL_foretells_375 (by decide) ?_
      cases hf
      exact cx_zret hx hb hr hlocks (Or.inr rfl) hP hL dL_foretells_376
    · have hf := cx_f hf c1
      refine lv_aload_n hx hb dL_foretells_347 rfl (lv_at hl 0 rfl) ?_
      refine g_Law_0 (hC h g κ) hP hx hb hts hown hK mw_12 dL_foretells_348 ?_
      refine lv_aload hx hb dL_foretells_351 (lv_at hl 2 rfl) ?_
      refine lv_iload hx hb dL_foretells_353 (lv_at hl 3 rfl) ?_
      obtain ⟨hi2, hf⟩ := gdE hf
      refine ga_Arr_0 (hCat δ h κ) hP hx hb hK hi2 dL_foretells_355 ?_
      obtain ⟨r3, q4, hf⟩ := cx_b hf
      refine cx_callSX (As := [.ref ((adLG ad) 0), .int (g (Int32.toNatClampNeg x10))]) (rest := []) ⟨hx, hb, hml, hown, hts⟩ (c_L_count (cx_lwG (hC h g κ) δ) q4) (vx_cwSW 2 hts (gSWx mw_275 mw_276 mw_2 mw_277) rfl rfl rfl hd_L_count.2 ⟨Nat.le_of_ble_eq_true rfl, Nat.le_of_ble_eq_true rfl⟩) hK (show P (δ.1, δ.2) h g κ _ by (repeat rw [va_up_id]); exact hP) rfl hl.1 rfl (Nat.le_of_ble_eq_true rfl) dL_foretells_356 ⟨by decide, by decide⟩ hL (fun H locs hP hL => ?_)
      replace hP : P δ h g κ H := by first | exact hP | (simpa only [va_up_id] using hP)
      refine lv_aload hx hb dL_foretells_359 (lv_at hl 1 rfl) ?_
      refine lv_iload hx hb dL_foretells_361 (lv_at hl 3 rfl) ?_
      obtain ⟨hi5, hf⟩ := gdE hf
      refine ga_Arr_0 (hCits δ g κ) hP hx hb hK hi5 dL_foretells_363 ?_
      refine lv_icmp_eq (tgt := 369) hx hb dL_foretells_364 (by decide) (fun c6 => ?_) (fun c6 => ?_)
      · have hf := cx_t hf c6
        refine lv_iinc (v := (x10 + 1)) (lv' := [(10, .int (x10 + 1)), (0, .ref (ad 0)), (8, .ref (adits 0)), (9, .ref (adat 0))]) hx hb dL_foretells_369 hl (k := 3) rfl rfl (by decide) rfl (fun ls hl => ?_)
        refine lv_goto (tgt := 340) hx hb dL_foretells_372 (by decide) ?_
        exact ih δ h g κ (x10 + 1) _ _ _ hf hP hL (lv_sub hl [1, 2, 3, 0] rfl)
      · have hf := cx_f hf c6
        refine lv_iconst (v := 0) hx hb dL_foretells_367 (by decide) ?_
        cases hf
        exact cx_zret hx hb hr hlocks (Or.inl rfl) hP hL dL_foretells_368
def f_L_foretells_b285 (N : Nat) : Nat → Nat → Nat → ZS → LwS → (Nat → Int32) → (Nat → Int32) → CacS → Int32 → Int32 → Int32 → Int32 → Int32 → Option (Int32 × LwS × ((Nat → Int32)) × ((Nat → Int32)) × CacS)
  | 0, _, _, _, _, _, _, _, _, _, _, _, _ => none
  | n + 1, nits, nat, z, δ, h, g, κ, x1, x2, x3, x4, x10 => if x4 ≤ x10 then f_L_foretells_b340 N N nits nat z δ h g κ 0 else f_L_foretells_b295 N (f_L_foretells_b285 N n) N nits nat z δ h g κ x1 x2 x3 x4 x10 x2
set_option maxHeartbeats 4000000 in
set_option maxRecDepth 100000 in
theorem w_L_foretells_b285 {p : Program} {l : Launch} {e : Env} {s : State} {m : MethodId} {args : Array Value} {below : List Frame} {meth : Method} {c : Code} {G : va_G} {cA : Nat → ClassId} (C0 : cB p s m args meth c RL cL_foretells 12 (some .boolean) G cA) {lo : Nat} {z : ZS} (hZ : Zt lo z s) {ad : Nat → Nat} {adits : Nat → Nat} {adat : Nat → Nat} {adkept : Nat → Nat} {nits : Nat} {nat : Nat} {sv : Nat → Option Nat} {P : LwS → ((Nat → Int32)) → ((Nat → Int32)) → CacS → Heap → Prop} (hC : ∀ z0 : (Nat → Int32), ∀ z1 : (Nat → Int32), ∀ z2 : CacS, cx G lo 264 ad (ceLaw z.1 sv cA ad) (fun x => P x z0 z1 z2)) (hCits : ∀ z0 : LwS, ∀ z1 : (Nat → Int32), ∀ z2 : CacS, cx G lo 1 adits (ceArr nits cA adits) (fun x => P z0 x z1 z2)) (hCat : ∀ z0 : LwS, ∀ z1 : (Nat → Int32), ∀ z2 : CacS, cx G lo 1 adat (ceArr nat cA adat) (fun x => P z0 z1 x z2)) (hCkept : ∀ z0 : LwS, ∀ z1 : (Nat → Int32), ∀ z2 : (Nat → Int32), cx G lo 25 adkept (ceCache cA adkept) (fun x => P z0 z1 z2 x)) (hsv : sv 1 = some (adkept 0)) {N : Nat} {res : Int32 × LwS × ((Nat → Int32)) × ((Nat → Int32)) × CacS} : ∀ (n : Nat) (δ : LwS) (h : (Nat → Int32)) (g : (Nat → Int32)) (κ : CacS) (x1 : Int32) (x2 : Int32) (x3 : Int32) (x4 : Int32) (x10 : Int32) (H : Heap) (locs : List Loc) (ls : Array Slot), f_L_foretells_b285 N n nits nat z δ h g κ x1 x2 x3 x4 x10 = some res → P δ h g κ H → (∀ q ∈ locs, lo ≤ q.base) → lv_has ls 12 [(0, .ref (ad 0)), (1, .int x1), (2, .int x2), (3, .int x3), (4, .int x4), (8, .ref (adits 0)), (9, .ref (adat 0)), (10, .int x10)] → W p l e rm_L_foretells s m args below meth c H locs 27 1418 (MQ below (cQ (some (.int res.1)) (P res.2.1 res.2.2.1 res.2.2.2.1 res.2.2.2.2)) args s 27 1418 (fun q => lo ≤ q)) (F0 m 285 ls []) := by
  obtain ⟨⟨hx, hb, hml, hown, hts⟩, hr, hlocks, hK⟩ := id C0
  intro n
  induction n with
  | zero => intro δ h g κ x1 x2 x3 x4 x10 H locs ls
            exact fun hf => nomatch hf
  | succ n ih =>
    intro δ h g κ x1 x2 x3 x4 x10 H locs ls hf hP hL hl
    rw [f_L_foretells_b285] at hf
    refine lv_iload hx hb dL_foretells_285 (lv_at hl 7 rfl) ?_
    refine lv_iload hx hb dL_foretells_287 (lv_at hl 4 rfl) ?_
    refine lv_icmp_ge (tgt := 337) hx hb dL_foretells_289 (by decide) (fun c1 => ?_) (fun c1 => ?_)
    · have hf := cx_t hf c1
      refine lv_iconst (v := 0) hx hb dL_foretells_337 (by decide) ?_
      refine lv_istore (lv' := [(10, .int 0), (0, .ref (ad 0)), (1, .int x1), (2, .int x2), (3, .int x3), (4, .int x4), (8, .ref (adits 0)), (9, .ref (adat 0))]) hx hb dL_foretells_338 hl (by decide) rfl (fun ls hl => ?_)
      exact w_L_foretells_b340 C0 hZ hC hCits hCat hCkept hsv N δ h g κ 0 _ _ _ hf hP hL (lv_sub hl [1, 6, 7, 0] rfl)
    · have hf := cx_f hf c1
      refine lv_iload_n hx hb dL_foretells_292 rfl (lv_at hl 2 rfl) ?_
      refine lv_istore (lv' := [(11, .int x2), (0, .ref (ad 0)), (1, .int x1), (2, .int x2), (3, .int x3), (4, .int x4), (8, .ref (adits 0)), (9, .ref (adat 0)), (10, .int x10)]) hx hb dL_foretells_293 hl (by decide) rfl (fun ls hl => ?_)
      exact w_L_foretells_b295 C0 hZ hC hCits hCat hCkept hsv ih N δ h g κ x1 x2 x3 x4 x10 x2 _ _ _ hf hP hL (lv_sub hl [1, 2, 3, 4, 5, 6, 7, 8, 0] rfl)
def f_L_foretells_b184 (N : Nat) : Nat → Nat → Nat → ZS → LwS → (Nat → Int32) → (Nat → Int32) → CacS → Int32 → Int32 → Int32 → Int32 → Int32 → Int32 → Int32 → Int32 → Option (Int32 × LwS × ((Nat → Int32)) × ((Nat → Int32)) × CacS)
  | 0, _, _, _, _, _, _, _, _, _, _, _, _, _, _, _ => none
  | n + 1, nits, nat, z, δ, h, g, κ, x1, x2, x3, x4, x5, x6, x7, x10 => if 21 ≤ x10 then if x6 = x5 then (f_L_restore N δ.2 κ 1).bind fun r3 => cx_let ((δ.1, r3.2)) fun z5 => if r3.1 = 0 then f_L_foretells_b285 N N nits nat z z5 h g κ x1 x2 x3 x4 0 else some (0, z5, h, g, κ) else some (0, δ, h, g, κ) else (f_L_set N δ.2 0 x10).bind fun r7 => cx_let ((δ.1, r7.2)) fun z9 => if 2 ≤ r7.1 then (f_L_ahead N z9.2 x1 x2 x3 x4 0).bind fun r11 => cx_let ((z9.1, r11.2)) fun z13 => (f_L_ahead N z13.2 x1 x2 x3 x4 1).bind fun r14 => cx_let ((z13.1, r14.2)) fun z16 => if (r11.1 + r14.1) ≤ x7 then f_L_foretells_b184 N n nits nat z z16 h g κ x1 x2 x3 x4 x5 x6 (if x7 < (r11.1 + r14.1) then (r11.1 + r14.1) else x7) (x10 + 1) else f_L_foretells_b184 N n nits nat z z16 h g κ x1 x2 x3 x4 x5 x10 (if x7 < (r11.1 + r14.1) then (r11.1 + r14.1) else x7) (x10 + 1) else some (0, z9, h, g, κ)
set_option maxHeartbeats 4000000 in
set_option maxRecDepth 100000 in
theorem w_L_foretells_b184 {p : Program} {l : Launch} {e : Env} {s : State} {m : MethodId} {args : Array Value} {below : List Frame} {meth : Method} {c : Code} {G : va_G} {cA : Nat → ClassId} (C0 : cB p s m args meth c RL cL_foretells 12 (some .boolean) G cA) {lo : Nat} {z : ZS} (hZ : Zt lo z s) {ad : Nat → Nat} {adits : Nat → Nat} {adat : Nat → Nat} {adkept : Nat → Nat} {nits : Nat} {nat : Nat} {sv : Nat → Option Nat} {P : LwS → ((Nat → Int32)) → ((Nat → Int32)) → CacS → Heap → Prop} (hC : ∀ z0 : (Nat → Int32), ∀ z1 : (Nat → Int32), ∀ z2 : CacS, cx G lo 264 ad (ceLaw z.1 sv cA ad) (fun x => P x z0 z1 z2)) (hCits : ∀ z0 : LwS, ∀ z1 : (Nat → Int32), ∀ z2 : CacS, cx G lo 1 adits (ceArr nits cA adits) (fun x => P z0 x z1 z2)) (hCat : ∀ z0 : LwS, ∀ z1 : (Nat → Int32), ∀ z2 : CacS, cx G lo 1 adat (ceArr nat cA adat) (fun x => P z0 z1 x z2)) (hCkept : ∀ z0 : LwS, ∀ z1 : (Nat → Int32), ∀ z2 : (Nat → Int32), cx G lo 25 adkept (ceCache cA adkept) (fun x => P z0 z1 z2 x)) (hsv : sv 1 = some (adkept 0)) {N : Nat} {res : Int32 × LwS × ((Nat → Int32)) × ((Nat → Int32)) × CacS} : ∀ (n : Nat) (δ : LwS) (h : (Nat → Int32)) (g : (Nat → Int32)) (κ : CacS) (x1 : Int32) (x2 : Int32) (x3 : Int32) (x4 : Int32) (x5 : Int32) (x6 : Int32) (x7 : Int32) (x10 : Int32) (H : Heap) (locs : List Loc) (ls : Array Slot), f_L_foretells_b184 N n nits nat z δ h g κ x1 x2 x3 x4 x5 x6 x7 x10 = some res → P δ h g κ H → (∀ q ∈ locs, lo ≤ q.base) → lv_has ls 12 [(0, .ref (ad 0)), (1, .int x1), (2, .int x2), (3, .int x3), (4, .int x4), (5, .int x5), (6, .int x6), (7, .int x7), (8, .ref (adits 0)), (9, .ref (adat 0)), (10, .int x10)] → W p l e rm_L_foretells s m args below meth c H locs 27 1418 (MQ below (cQ (some (.int res.1)) (P res.2.1 res.2.2.1 res.2.2.2.1 res.2.2.2.2)) args s 27 1418 (fun q => lo ≤ q)) (F0 m 184 ls []) := by
  obtain ⟨⟨hx, hb, hml, hown, hts⟩, hr, hlocks, hK⟩ := id C0
  intro n
  induction n with
  | zero => intro δ h g κ x1 x2 x3 x4 x5 x6 x7 x10 H locs ls
            exact fun hf => nomatch hf
  | succ n ih =>
    intro δ h g κ x1 x2 x3 x4 x5 x6 x7 x10 H locs ls hf hP hL hl
    rw [f_L_foretells_b184] at hf
    refine lv_iload hx hb dL_foretells_184 (lv_at hl 10 rfl) ?_
    refine lv_bipush (v := 21) hx hb dL_foretells_186 (by decide) ?_
    refine lv_icmp_ge (tgt := 262) hx hb dL_foretells_188 (by decide) (fun c1 => ?_) (fun c1 => ?_)
    · have hf := cx_t hf c1
      refine lv_iload hx hb dL_foretells_262 (lv_at hl 6 rfl) ?_
      refine lv_iload hx hb dL_foretells_264 (lv_at hl 5 rfl) ?_
      refine lv_icmp_ne (tgt := 280) hx hb dL_foretells_266 (by decide) (fun c2 => ?_) (fun c2 => ?_)
      · have hf := cx_f hf c2
        refine lv_iconst (v := 0) hx hb dL_foretells_280 (by decide) ?_
        cases hf
        exact cx_zret hx hb hr hlocks (Or.inl rfl) hP hL dL_foretells_281
      · have hf := cx_t hf c2
        refine lv_aload_n hx hb dL_foretells_269 rfl (lv_at hl 0 rfl) ?_
        refine g_Law_0 (hC h g κ) hP hx hb hts hown hK mw_12 dL_foretells_270 ?_
        refine lv_iconst (v := 1) hx hb dL_foretells_273 (by decide) ?_
        obtain ⟨r3, q4, hf⟩ := cx_b hf
        refine cx_callSX (As := [.ref (adLG ad 0), .int 1]) (rest := []) ⟨hx, hb, hml, hown, hts⟩ (c_L_restore (P := fun γ k => P ((δ).1, γ) h g k) (fun k => cx_lwG (hC h g k) δ) (fun γ => hCkept ((δ).1, γ) h g) hsv q4) (vx_cwSW 2 hts (gSWx mw_754 mw_755 mw_2 mw_756) rfl rfl rfl hd_L_restore.2 ⟨Nat.le_of_ble_eq_true rfl, Nat.le_of_ble_eq_true rfl⟩) hK hP rfl hl.1 rfl (Nat.le_of_ble_eq_true rfl) dL_foretells_274 ⟨by decide, by decide⟩ hL (fun H locs hP hL => ?_)
        obtain ⟨z5, ez5, hf⟩ := cx_letE hf
        replace hP : P z5 h g κ H := by rw [← ez5]; exact hP
        refine lv_if_eq (tgt := 282) hx hb dL_foretells_277 (by decide) (fun c6 => ?_) (fun c6 => ?_)
        · have hf := cx_t hf c6
          refine lv_iconst (v := 0) hx hb dL_foretells_282 (by decide) ?_
          refine lv_istore (lv' := [(10, .int 0), (0, .ref (ad 0)), (1, .int x1), (2, .int x2), (3, .int x3), (4, .int x4), (5, .int x5), (6, .int x6), (7, .int x7), (8, .ref (adits 0)), (9, .ref (adat 0))]) hx hb dL_foretells_283 hl (by decide) rfl (fun ls hl => ?_)
          exact w_L_foretells_b285 C0 hZ hC hCits hCat hCkept hsv N z5 h g κ x1 x2 x3 x4 0 _ _ _ hf hP hL (lv_sub hl [1, 2, 3, 4, 5, 9, 10, 0] rfl)
        · have hf := cx_f hf c6
          refine lv_iconst (v := 0) hx hb dL_foretells_280 (by decide) ?_
          cases hf
          exact cx_zret hx hb hr hlocks (Or.inl rfl) hP hL dL_foretells_281
    · have hf := cx_f hf c1
      refine lv_aload_n hx hb dL_foretells_191 rfl (lv_at hl 0 rfl) ?_
      refine g_Law_0 (hC h g κ) hP hx hb hts hown hK mw_12 dL_foretells_192 ?_
      refine lv_iconst (v := 0) hx hb dL_foretells_195 (by decide) ?_
      refine lv_iload hx hb dL_foretells_196 (lv_at hl 10 rfl) ?_
      obtain ⟨r7, q8, hf⟩ := cx_b hf
      refine cx_callSX (As := [.ref ((adLG ad) 0), .int 0, .int x10]) (rest := []) ⟨hx, hb, hml, hown, hts⟩ (c_L_set (cx_lwG (hC h g κ) δ) q8) (vx_cwSW 3 hts (gSWx mw_260 mw_261 mw_2 mw_262) rfl rfl rfl hd_L_set.2 ⟨Nat.le_of_ble_eq_true rfl, Nat.le_of_ble_eq_true rfl⟩) hK (show P (δ.1, δ.2) h g κ _ by (repeat rw [va_up_id]); exact hP) rfl hl.1 rfl (Nat.le_of_ble_eq_true rfl) dL_foretells_198 ⟨by decide, by decide⟩ hL (fun H locs hP hL => ?_)
      obtain ⟨z9, ez9, hf⟩ := cx_letE hf
      replace hP : P z9 h g κ H := by rw [← ez9]; exact hP
      refine lv_iconst (v := 2) hx hb dL_foretells_201 (by decide) ?_
      refine lv_icmp_ge (tgt := 207) hx hb dL_foretells_202 (by decide) (fun c10 => ?_) (fun c10 => ?_)
      · have hf := cx_t hf c10
        refine lv_aload_n hx hb dL_foretells_207 rfl (lv_at hl 0 rfl) ?_
        refine g_Law_0 (hC h g κ) hP hx hb hts hown hK mw_12 dL_foretells_208 ?_
        refine lv_iload_n hx hb dL_foretells_211 rfl (lv_at hl 1 rfl) ?_
        refine lv_iload_n hx hb dL_foretells_212 rfl (lv_at hl 2 rfl) ?_
        refine lv_iload_n hx hb dL_foretells_213 rfl (lv_at hl 3 rfl) ?_
        refine lv_iload hx hb dL_foretells_214 (lv_at hl 4 rfl) ?_
        refine lv_iconst (v := 0) hx hb dL_foretells_216 (by decide) ?_
        obtain ⟨r11, q12, hf⟩ := cx_b hf
        refine cx_callSX (As := [.ref ((adLG ad) 0), .int x1, .int x2, .int x3, .int x4, .int 0]) (rest := []) ⟨hx, hb, hml, hown, hts⟩ (c_L_ahead (cx_lwG (hC h g κ) z9) q12) (vx_cwSW 6 hts (gSWx mw_740 mw_741 mw_2 mw_742) rfl rfl rfl hd_L_ahead.2 ⟨Nat.le_of_ble_eq_true rfl, Nat.le_of_ble_eq_true rfl⟩) hK (show P (z9.1, z9.2) h g κ _ by (repeat rw [va_up_id]); exact hP) rfl hl.1 rfl (Nat.le_of_ble_eq_true rfl) dL_foretells_217 ⟨by decide, by decide⟩ hL (fun H locs hP hL => ?_)
        obtain ⟨z13, ez13, hf⟩ := cx_letE hf
        replace hP : P z13 h g κ H := by rw [← ez13]; exact hP
        refine lv_aload_n hx hb dL_foretells_220 rfl (lv_at hl 0 rfl) ?_
        refine g_Law_0 (hC h g κ) hP hx hb hts hown hK mw_12 dL_foretells_221 ?_
        refine lv_iload_n hx hb dL_foretells_224 rfl (lv_at hl 1 rfl) ?_
        refine lv_iload_n hx hb dL_foretells_225 rfl (lv_at hl 2 rfl) ?_
        refine lv_iload_n hx hb dL_foretells_226 rfl (lv_at hl 3 rfl) ?_
        refine lv_iload hx hb dL_foretells_227 (lv_at hl 4 rfl) ?_
        refine lv_iconst (v := 1) hx hb dL_foretells_229 (by decide) ?_
        obtain ⟨r14, q15, hf⟩ := cx_b hf
        refine cx_callSX (As := [.ref ((adLG ad) 0), .int x1, .int x2, .int x3, .int x4, .int 1]) (rest := [.int r11.1]) ⟨hx, hb, hml, hown, hts⟩ (c_L_ahead (cx_lwG (hC h g κ) z13) q15) (vx_cwSW 6 hts (gSWx mw_740 mw_741 mw_2 mw_742) rfl rfl rfl hd_L_ahead.2 ⟨Nat.le_of_ble_eq_true rfl, Nat.le_of_ble_eq_true rfl⟩) hK (show P (z13.1, z13.2) h g κ _ by (repeat rw [va_up_id]); exact hP) rfl hl.1 rfl (Nat.le_of_ble_eq_true rfl) dL_foretells_230 ⟨by decide, by decide⟩ hL (fun H locs hP hL => ?_)
        obtain ⟨z16, ez16, hf⟩ := cx_letE hf
        replace hP : P z16 h g κ H := by rw [← ez16]; exact hP
        refine lv_iadd hx hb dL_foretells_233 ?_
        refine lv_istore (lv' := [(11, .int (r11.1 + r14.1)), (0, .ref (ad 0)), (1, .int x1), (2, .int x2), (3, .int x3), (4, .int x4), (5, .int x5), (6, .int x6), (7, .int x7), (8, .ref (adits 0)), (9, .ref (adat 0)), (10, .int x10)]) hx hb dL_foretells_234 hl (by decide) rfl (fun ls hl => ?_)
        refine lv_iload hx hb dL_foretells_236 (lv_at hl 0 rfl) ?_
        refine lv_iload hx hb dL_foretells_238 (lv_at hl 8 rfl) ?_
        refine lv_icmp_le (tgt := 247) hx hb dL_foretells_240 (by decide) (fun c17 => ?_) (fun c17 => ?_)
        · have hf := cx_t hf c17
          refine lv_iload hx hb dL_foretells_247 (lv_at hl 8 rfl) ?_
          refine lv_iload hx hb dL_foretells_249 (lv_at hl 0 rfl) ?_
          refine va_mmax hx hb (hml.trans hl.1.symm) hown (hts _ mw_129) (hts _ mw_130) (hts _ mw_131) (hts _ mw_132) (Nat.le_of_ble_eq_true rfl) (Nat.le_of_ble_eq_true rfl) (by decide) (by decide) dL_foretells_251 ?_
          refine lv_istore (lv' := [(7, .int (if x7 < (r11.1 + r14.1) then (r11.1 + r14.1) else x7)), (11, .int (r11.1 + r14.1)), (0, .ref (ad 0)), (1, .int x1), (2, .int x2), (3, .int x3), (4, .int x4), (5, .int x5), (6, .int x6), (8, .ref (adits 0)), (9, .ref (adat 0)), (10, .int x10)]) hx hb dL_foretells_254 hl (by decide) rfl (fun ls hl => ?_)
          refine lv_iinc (v := (x10 + 1)) (lv' := [(10, .int (x10 + 1)), (7, .int (if x7 < (r11.1 + r14.1) then (r11.1 + r14.1) else x7)), (11, .int (r11.1 + r14.1)), (0, .ref (ad 0)), (1, .int x1), (2, .int x2), (3, .int x3), (4, .int x4), (5, .int x5), (6, .int x6), (8, .ref (adits 0)), (9, .ref (adat 0))]) hx hb dL_foretells_256 hl (k := 11) rfl rfl (by decide) rfl (fun ls hl => ?_)
          refine lv_goto (tgt := 184) hx hb dL_foretells_259 (by decide) ?_
          exact ih z16 h g κ x1 x2 x3 x4 x5 x6 (if x7 < (r11.1 + r14.1) then (r11.1 + r14.1) else x7) (x10 + 1) _ _ _ hf hP hL (lv_sub hl [3, 4, 5, 6, 7, 8, 9, 1, 10, 11, 0] rfl)
        · have hf := cx_f hf c17
          refine lv_iload hx hb dL_foretells_243 (lv_at hl 11 rfl) ?_
          refine lv_istore (lv' := [(6, .int x10), (11, .int (r11.1 + r14.1)), (0, .ref (ad 0)), (1, .int x1), (2, .int x2), (3, .int x3), (4, .int x4), (5, .int x5), (7, .int x7), (8, .ref (adits 0)), (9, .ref (adat 0)), (10, .int x10)]) hx hb dL_foretells_245 hl (by decide) rfl (fun ls hl => ?_)
          refine lv_iload hx hb dL_foretells_247 (lv_at hl 8 rfl) ?_
          refine lv_iload hx hb dL_foretells_249 (lv_at hl 1 rfl) ?_
          refine va_mmax hx hb (hml.trans hl.1.symm) hown (hts _ mw_129) (hts _ mw_130) (hts _ mw_131) (hts _ mw_132) (Nat.le_of_ble_eq_true rfl) (Nat.le_of_ble_eq_true rfl) (by decide) (by decide) dL_foretells_251 ?_
          refine lv_istore (lv' := [(7, .int (if x7 < (r11.1 + r14.1) then (r11.1 + r14.1) else x7)), (6, .int x10), (11, .int (r11.1 + r14.1)), (0, .ref (ad 0)), (1, .int x1), (2, .int x2), (3, .int x3), (4, .int x4), (5, .int x5), (8, .ref (adits 0)), (9, .ref (adat 0)), (10, .int x10)]) hx hb dL_foretells_254 hl (by decide) rfl (fun ls hl => ?_)
          refine lv_iinc (v := (x10 + 1)) (lv' := [(10, .int (x10 + 1)), (7, .int (if x7 < (r11.1 + r14.1) then (r11.1 + r14.1) else x7)), (6, .int x10), (11, .int (r11.1 + r14.1)), (0, .ref (ad 0)), (1, .int x1), (2, .int x2), (3, .int x3), (4, .int x4), (5, .int x5), (8, .ref (adits 0)), (9, .ref (adat 0))]) hx hb dL_foretells_256 hl (k := 11) rfl rfl (by decide) rfl (fun ls hl => ?_)
          refine lv_goto (tgt := 184) hx hb dL_foretells_259 (by decide) ?_
          exact ih z16 h g κ x1 x2 x3 x4 x5 x10 (if x7 < (r11.1 + r14.1) then (r11.1 + r14.1) else x7) (x10 + 1) _ _ _ hf hP hL (lv_sub hl [4, 5, 6, 7, 8, 9, 2, 1, 10, 11, 0] rfl)
      · have hf := cx_f hf c10
        refine lv_iconst (v := 0) hx hb dL_foretells_205 (by decide) ?_
        cases hf
        exact cx_zret hx hb hr hlocks (Or.inl rfl) hP hL dL_foretells_206
def f_L_foretells_b181 (N : Nat) (nits : Nat) (nat : Nat) (z : ZS) (δ : LwS) (h : (Nat → Int32)) (g : (Nat → Int32)) (κ : CacS) (x1 : Int32) (x2 : Int32) (x3 : Int32) (x4 : Int32) (x5 : Int32) (x6 : Int32) (x7 : Int32) : Option (Int32 × LwS × ((Nat → Int32)) × ((Nat → Int32)) × CacS) := f_L_foretells_b184 N N nits nat z δ h g κ x1 x2 x3 x4 x5 x6 x7 2
set_option maxHeartbeats 4000000 in
set_option maxRecDepth 100000 in
theorem w_L_foretells_b181 {p : Program} {l : Launch} {e : Env} {s : State} {m : MethodId} {args : Array Value} {below : List Frame} {meth : Method} {c : Code} {G : va_G} {cA : Nat → ClassId} (C0 : cB p s m args meth c RL cL_foretells 12 (some .boolean) G cA) {lo : Nat} {z : ZS} (hZ : Zt lo z s) {ad : Nat → Nat} {adits : Nat → Nat} {adat : Nat → Nat} {adkept : Nat → Nat} {nits : Nat} {nat : Nat} {sv : Nat → Option Nat} {P : LwS → ((Nat → Int32)) → ((Nat → Int32)) → CacS → Heap → Prop} (hC : ∀ z0 : (Nat → Int32), ∀ z1 : (Nat → Int32), ∀ z2 : CacS, cx G lo 264 ad (ceLaw z.1 sv cA ad) (fun x => P x z0 z1 z2)) (hCits : ∀ z0 : LwS, ∀ z1 : (Nat → Int32), ∀ z2 : CacS, cx G lo 1 adits (ceArr nits cA adits) (fun x => P z0 x z1 z2)) (hCat : ∀ z0 : LwS, ∀ z1 : (Nat → Int32), ∀ z2 : CacS, cx G lo 1 adat (ceArr nat cA adat) (fun x => P z0 z1 x z2)) (hCkept : ∀ z0 : LwS, ∀ z1 : (Nat → Int32), ∀ z2 : (Nat → Int32), cx G lo 25 adkept (ceCache cA adkept) (fun x => P z0 z1 z2 x)) (hsv : sv 1 = some (adkept 0)) {N : Nat} {res : Int32 × LwS × ((Nat → Int32)) × ((Nat → Int32)) × CacS} : ∀ (δ : LwS) (h : (Nat → Int32)) (g : (Nat → Int32)) (κ : CacS) (x1 : Int32) (x2 : Int32) (x3 : Int32) (x4 : Int32) (x5 : Int32) (x6 : Int32) (x7 : Int32) (H : Heap) (locs : List Loc) (ls : Array Slot), f_L_foretells_b181 N nits nat z δ h g κ x1 x2 x3 x4 x5 x6 x7 = some res → P δ h g κ H → (∀ q ∈ locs, lo ≤ q.base) → lv_has ls 12 [(0, .ref (ad 0)), (1, .int x1), (2, .int x2), (3, .int x3), (4, .int x4), (5, .int x5), (6, .int x6), (7, .int x7), (8, .ref (adits 0)), (9, .ref (adat 0))] → W p l e rm_L_foretells s m args below meth c H locs 27 1418 (MQ below (cQ (some (.int res.1)) (P res.2.1 res.2.2.1 res.2.2.2.1 res.2.2.2.2)) args s 27 1418 (fun q => lo ≤ q)) (F0 m 181 ls []) := by
  obtain ⟨⟨hx, hb, hml, hown, hts⟩, hr, hlocks, hK⟩ := id C0
  intro δ h g κ x1 x2 x3 x4 x5 x6 x7 H locs ls hf hP hL hl
  unfold f_L_foretells_b181 at hf
  refine lv_iconst (v := 2) hx hb dL_foretells_181 (by decide) ?_
  refine lv_istore (lv' := [(10, .int 2), (0, .ref (ad 0)), (1, .int x1), (2, .int x2), (3, .int x3), (4, .int x4), (5, .int x5), (6, .int x6), (7, .int x7), (8, .ref (adits 0)), (9, .ref (adat 0))]) hx hb dL_foretells_182 hl (by decide) rfl (fun ls hl => ?_)
  exact w_L_foretells_b184 C0 hZ hC hCits hCat hCkept hsv N δ h g κ x1 x2 x3 x4 x5 x6 x7 2 _ _ _ hf hP hL (lv_sub hl [1, 2, 3, 4, 5, 6, 7, 8, 9, 10, 0] rfl)
