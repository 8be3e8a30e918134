abbrev rm_X9_thrown : Room := { frames := 0, cells := 0, slots := 0, locals := 0 }
theorem hd_X9_thrown : yX9_thrown.cls = RX9 ∧ yX9_thrown.cls ≠ "java/lang/invoke/MethodHandle" ∧ yX9_thrown.cls ≠ "java/lang/invoke/VarHandle" ∧ (parseMethodDescriptor yX9_thrown.desc).map (fun d => d.parameters.length) = some 0 := by decide +kernel
def f_X9_thrown (μ : MdlS) : Option (Int32) := some (μ.1.2 6)
set_option maxHeartbeats 4000000 in
set_option maxRecDepth 100000 in
theorem c_X9_thrown {l : Launch} {G : va_G} {cA : Nat → ClassId} {lo : Nat} {ad : Nat → Nat} {P : MdlS → Heap → Prop} (hC : cx G lo 9 ad (ceModel cA ad) P) {μ : MdlS} {res : Int32} (hf : f_X9_thrown μ = some res) : Met l yX9_thrown (cW yX9_thrown cX9_thrown 1 (some .int)) rm_X9_thrown (cP [.ref (ad 0)] (P μ) G cA) (cQ (some (.int res)) (P μ)) 0 0 (fun q => lo ≤ q) := by
  refine cx_met (by decide) (Nat.le_of_ble_eq_true rfl) (fun p e s m args below meth c ls C0 hP hl => ?_)
  have hl : lv_has ls 1 [(0, .ref (ad 0))] := hl
  obtain ⟨⟨hx, hb, hml, hown, hts⟩, hr, hlocks, hK⟩ := id C0
  have hL : ∀ q ∈ ([] : List Loc), lo ≤ q.base := fun q h => nomatch h
  unfold f_X9_thrown at hf
  refine lv_aload_n hx hb dX9_thrown_0 rfl (lv_at hl 0 rfl) ?_
  refine g_Model_6 hC hP hx hb hts hown hK mw_149 dX9_thrown_1 ?_
  cases hf
  exact cx_iret hx hb hr hlocks hP hL dX9_thrown_4
abbrev rm_X9_fail : Room := { frames := 0, cells := 0, slots := 0, locals := 0 }
theorem hd_X9_fail : yX9_fail.cls = RX9 ∧ yX9_fail.cls ≠ "java/lang/invoke/MethodHandle" ∧ yX9_fail.cls ≠ "java/lang/invoke/VarHandle" ∧ (parseMethodDescriptor yX9_fail.desc).map (fun d => d.parameters.length) = some 1 := by decide +kernel
def f_X9_fail (μ : MdlS) (p0 : Int32) : Option (Int32 × MdlS) := cx_let ((oI μ.1 6 p0, μ.2)) fun z1 => some (0, z1)
set_option maxHeartbeats 4000000 in
set_option maxRecDepth 100000 in
theorem c_X9_fail {l : Launch} {G : va_G} {cA : Nat → ClassId} {lo : Nat} {ad : Nat → Nat} {P : MdlS → Heap → Prop} (hC : cx G lo 9 ad (ceModel cA ad) P) {μ : MdlS} {p0 : Int32} {res : Int32 × MdlS} (hf : f_X9_fail μ p0 = some res) : Met l yX9_fail (cW yX9_fail cX9_fail 2 (some .int)) rm_X9_fail (cP [.ref (ad 0), .int p0] (P μ) G cA) (cQ (some (.int res.1)) (P res.2)) 0 0 (fun q => lo ≤ q) := by
  refine cx_met (by decide) (Nat.le_of_ble_eq_true rfl) (fun p e s m args below meth c ls C0 hP hl => ?_)
  have hl : lv_has ls 2 [(0, .ref (ad 0)), (1, .int p0)] := hl
  obtain ⟨⟨hx, hb, hml, hown, hts⟩, hr, hlocks, hK⟩ := id C0
  have hL : ∀ q ∈ ([] : List Loc), lo ≤ q.base := fun q h => nomatch h
  unfold f_X9_fail at hf
  refine lv_aload_n hx hb dX9_fail_0 rfl (lv_at hl 0 rfl) ?_
  refine lv_iload_n hx hb dX9_fail_1 rfl (lv_at hl 1 rfl) ?_
  obtain ⟨z1, ez1, hf⟩ := cx_letE hf
  refine p_Model_6 hC hP hx hb hts hown hK mw_149 dX9_fail_2 hL (fun H locs hP hL => ?_)
  replace hP : P z1 H := by rw [← ez1]; exact hP
  refine lv_iconst (v := 0) hx hb dX9_fail_5 (by decide) ?_
  cases hf
  exact cx_iret hx hb hr hlocks hP hL dX9_fail_6
abbrev rm_X9_isBetween : Room := { frames := 0, cells := 0, slots := 0, locals := 0 }
theorem hd_X9_isBetween : yX9_isBetween.cls = RX9 ∧ yX9_isBetween.cls ≠ "java/lang/invoke/MethodHandle" ∧ yX9_isBetween.cls ≠ "java/lang/invoke/VarHandle" ∧ (parseMethodDescriptor yX9_isBetween.desc).map (fun d => d.parameters.length) = some 3 := by decide +kernel
def f_X9_isBetween (p0 : Int32) (p1 : Int32) (p2 : Int32) : Option (Int32) := if p0 < p1 then some 0 else if p2 < p0 then some 0 else some 1
set_option maxHeartbeats 4000000 in
set_option maxRecDepth 100000 in
theorem c_X9_isBetween {l : Launch} {G : va_G} {cA : Nat → ClassId} {lo : Nat} {PH : Heap → Prop} {p0 : Int32} {p1 : Int32} {p2 : Int32} {res : Int32} (hf : f_X9_isBetween p0 p1 p2 = some res) : Met l yX9_isBetween (cW yX9_isBetween cX9_isBetween 3 (some .boolean)) rm_X9_isBetween (cP [.int p0, .int p1, .int p2] (PH) G cA) (cQ (some (.int res)) (PH)) 0 0 (fun q => lo ≤ q) := by
  refine cx_met (by decide) (Nat.le_of_ble_eq_true rfl) (fun p e s m args below meth c ls C0 hP hl => ?_)
  have hl : lv_has ls 3 [(0, .int p0), (1, .int p1), (2, .int p2)] := hl
  obtain ⟨⟨hx, hb, hml, hown, hts⟩, hr, hlocks, hK⟩ := id C0
  have hL : ∀ q ∈ ([] : List Loc), lo ≤ q.base := fun q h => nomatch h
  unfold f_X9_isBetween at hf
  refine lv_iload_n hx hb dX9_isBetween_0 rfl (lv_at hl 0 rfl) ?_
  refine lv_iload_n hx hb dX9_isBetween_1 rfl (lv_at hl 1 rfl) ?_
  refine lv_icmp_lt (tgt := 14) hx hb dX9_isBetween_2 (by decide) (fun c1 => ?_) (fun c1 => ?_)
  · have hf := cx_t hf c1
    refine lv_iconst (v := 0) hx hb dX9_isBetween_14 (by decide) ?_
    cases hf
    exact cx_zret hx hb hr hlocks (Or.inl rfl) hP hL dX9_isBetween_15
  · have hf := cx_f hf c1
    refine lv_iload_n hx hb dX9_isBetween_5 rfl (lv_at hl 0 rfl) ?_
    refine lv_iload_n hx hb dX9_isBetween_6 rfl (lv_at hl 2 rfl) ?_
    refine lv_icmp_gt (tgt := 14) hx hb dX9_isBetween_7 (by decide) (fun c2 => ?_) (fun c2 => ?_)
    · have hf := cx_t hf c2
      refine lv_iconst (v := 0) hx hb dX9_isBetween_14 (by decide) ?_
      cases hf
      exact cx_zret hx hb hr hlocks (Or.inl rfl) hP hL dX9_isBetween_15
    · have hf := cx_f hf c2
      refine lv_iconst (v := 1) hx hb dX9_isBetween_10 (by decide) ?_
      refine lv_goto (tgt := 15) hx hb dX9_isBetween_11 (by decide) ?_
      cases hf
      exact cx_zret hx hb hr hlocks (Or.inr rfl) hP hL dX9_isBetween_15
abbrev rm_X9_beginAct : Room := { frames := 1, cells := 0, slots := 0, locals := 24 }
theorem hd_X9_beginAct : yX9_beginAct.cls = RX9 ∧ yX9_beginAct.cls ≠ "java/lang/invoke/MethodHandle" ∧ yX9_beginAct.cls ≠ "java/lang/invoke/VarHandle" ∧ (parseMethodDescriptor yX9_beginAct.desc).map (fun d => d.parameters.length) = some 0 := by decide +kernel
def f_X9_beginAct_b50 (N : Nat) (μ : MdlS) : Option (MdlS) := (f_X9_copyM_0_2 N μ 0 (1384 * μ.1.2 5)).bind fun r1 => cx_let ((oI r1.1 5 (r1.1.2 5 + 1), r1.2)) fun z3 => some z3
set_option maxHeartbeats 4000000 in
set_option maxRecDepth 100000 in
theorem w_X9_beginAct_b50 {p : Program} {l : Launch} {e : Env} {s : State} {m : MethodId} {args : Array Value} {below : List Frame} {meth : Method} {c : Code} {G : va_G} {cA : Nat → ClassId} (C0 : cB p s m args meth c RX9 cX9_beginAct 2 none G cA) {lo : Nat} {ad : Nat → Nat} {P : MdlS → Heap → Prop} (hC : cx G lo 9 ad (ceModel cA ad) P) {N : Nat} {res : MdlS} : ∀ (μ : MdlS) (H : Heap) (locs : List Loc) (ls : Array Slot), f_X9_beginAct_b50 N μ = some res → P μ H → (∀ q ∈ locs, lo ≤ q.base) → lv_has ls 2 [(0, .ref (ad 0))] → W p l e rm_X9_beginAct s m args below meth c H locs 0 0 (MQ below (cQ none (P res)) args s 0 0 (fun q => lo ≤ q)) (F0 m 50 ls []) := by
  obtain ⟨⟨hx, hb, hml, hown, hts⟩, hr, hlocks, hK⟩ := id C0
  intro μ H locs ls hf hP hL hl
  unfold f_X9_beginAct_b50 at hf
  refine lv_aload_n hx hb dX9_beginAct_50 rfl (lv_at hl 0 rfl) ?_
  refine g_Model_0 hC hP hx hb hts hown hK mw_114 dX9_beginAct_51 ?_
  refine lv_iconst (v := 0) hx hb dX9_beginAct_54 (by decide) ?_
  refine lv_aload_n hx hb dX9_beginAct_55 rfl (lv_at hl 0 rfl) ?_
  refine g_Model_2 hC hP hx hb hts hown hK mw_116 dX9_beginAct_56 ?_
  refine lv_sipush (v := 1384) hx hb dX9_beginAct_59 (by decide) ?_
  refine lv_aload_n hx hb dX9_beginAct_62 rfl (lv_at hl 0 rfl) ?_
  refine g_Model_5 hC hP hx hb hts hown hK mw_594 dX9_beginAct_63 ?_
  refine lv_imul hx hb dX9_beginAct_66 ?_
  obtain ⟨r1, q2, hf⟩ := cx_b hf
  refine cx_callS (As := [.ref (ad 1), .int 0, .ref (ad 3), .int (1384 * μ.1.2 5)]) (rest := []) ⟨hx, hb, hml, hown, hts⟩ (c_X9_copyM_0_2 hC q2) (cwS 4 hts (gS mw_595 mw_596 mw_5 mw_597) rfl rfl rfl hd_X9_copy ⟨Nat.le_of_ble_eq_true rfl, Nat.le_of_ble_eq_true rfl⟩) hK hP rfl hl.1 rfl (Nat.le_of_ble_eq_true rfl) dX9_beginAct_67 ⟨Nat.zero_le _, Nat.zero_le _⟩ hL (fun H locs hP hL => ?_)
  replace hP : P r1 H := by first | exact hP | (simpa only [va_up_id] using hP)
  refine lv_aload_n hx hb dX9_beginAct_70 rfl (lv_at hl 0 rfl) ?_
  refine lv_dup hx hb dX9_beginAct_71 rfl ?_
  refine g_Model_5 hC hP hx hb hts hown hK mw_594 dX9_beginAct_72 ?_
  refine lv_iconst (v := 1) hx hb dX9_beginAct_75 (by decide) ?_
  refine lv_iadd hx hb dX9_beginAct_76 ?_
  obtain ⟨z3, ez3, hf⟩ := cx_letE hf
  refine p_Model_5 hC hP hx hb hts hown hK mw_594 dX9_beginAct_77 hL (fun H locs hP hL => ?_)
  replace hP : P z3 H := by rw [← ez3]; exact hP
  cases hf
  exact cx_vret hx hb hr hlocks hP hL dX9_beginAct_80
def f_X9_beginAct_b11 (N : Nat) : Nat → MdlS → Int32 → Option (MdlS)
  | 0, _, _ => none
  | n + 1, μ, x1 => if 9688 ≤ x1 then cx_let ((oI μ.1 5 (μ.1.2 5 - 1), μ.2)) fun z2 => f_X9_beginAct_b50 N z2 else gd (x1 + 1384) 11072 (gd x1 11072 (cx_let ((oA μ.1 2 (Int32.toNatClampNeg x1) (μ.1.1 2 (Int32.toNatClampNeg (x1 + 1384))), μ.2)) fun z5 => f_X9_beginAct_b11 N n z5 (x1 + 1)))
set_option maxHeartbeats 4000000 in
set_option maxRecDepth 100000 in
theorem w_X9_beginAct_b11 {p : Program} {l : Launch} {e : Env} {s : State} {m : MethodId} {args : Array Value} {below : List Frame} {meth : Method} {c : Code} {G : va_G} {cA : Nat → ClassId} (C0 : cB p s m args meth c RX9 cX9_beginAct 2 none G cA) {lo : Nat} {ad : Nat → Nat} {P : MdlS → Heap → Prop} (hC : cx G lo 9 ad (ceModel cA ad) P) {N : Nat} {res : MdlS} : ∀ (n : Nat) (μ : MdlS) (x1 : Int32) (H : Heap) (locs : List Loc) (ls : Array Slot), f_X9_beginAct_b11 N n μ x1 = some res → P μ H → (∀ q ∈ locs, lo ≤ q.base) → lv_has ls 2 [(0, .ref (ad 0)), (1, .int x1)] → W p l e rm_X9_beginAct s m args below meth c H locs 0 0 (MQ below (cQ none (P res)) args s 0 0 (fun q => lo ≤ q)) (F0 m 11 ls []) := by
  obtain ⟨⟨hx, hb, hml, hown, hts⟩, hr, hlocks, hK⟩ := id C0
  intro n
  induction n with
  | zero => intro μ x1 H locs ls
            exact fun hf => nomatch hf
  | succ n ih =>
    intro μ x1 H locs ls hf hP hL hl
    rw [f_X9_beginAct_b11] at hf
    refine lv_iload_n hx hb dX9_beginAct_11 rfl (lv_at hl 1 rfl) ?_
    refine lv_sipush (v := 9688) hx hb dX9_beginAct_12 (by decide) ?_
    refine lv_icmp_ge (tgt := 40) hx hb dX9_beginAct_15 (by decide) (fun c1 => ?_) (fun c1 => ?_)
    · have hf := cx_t hf c1
      refine lv_aload_n hx hb dX9_beginAct_40 rfl (lv_at hl 0 rfl) ?_
      refine lv_dup hx hb dX9_beginAct_41 rfl ?_
      refine g_Model_5 hC hP hx hb hts hown hK mw_594 dX9_beginAct_42 ?_
      refine lv_iconst (v := 1) hx hb dX9_beginAct_45 (by decide) ?_
      refine lv_isub hx hb dX9_beginAct_46 ?_
      obtain ⟨z2, ez2, hf⟩ := cx_letE hf
      refine p_Model_5 hC hP hx hb hts hown hK mw_594 dX9_beginAct_47 hL (fun H locs hP hL => ?_)
      replace hP : P z2 H := by rw [← ez2]; exact hP
      exact w_X9_beginAct_b50 C0 hC z2 _ _ _ hf hP hL (lv_sub hl [0] rfl)
    · have hf := cx_f hf c1
      refine lv_aload_n hx hb dX9_beginAct_18 rfl (lv_at hl 0 rfl) ?_
      refine g_Model_2 hC hP hx hb hts hown hK mw_116 dX9_beginAct_19 ?_
      refine lv_iload_n hx hb dX9_beginAct_22 rfl (lv_at hl 1 rfl) ?_
      refine lv_aload_n hx hb dX9_beginAct_23 rfl (lv_at hl 0 rfl) ?_
      refine g_Model_2 hC hP hx hb hts hown hK mw_116 dX9_beginAct_24 ?_
      refine lv_iload_n hx hb dX9_beginAct_27 rfl (lv_at hl 1 rfl) ?_
      refine lv_sipush (v := 1384) hx hb dX9_beginAct_28 (by decide) ?_
      refine lv_iadd hx hb dX9_beginAct_31 ?_
      obtain ⟨hi3, hf⟩ := gdE hf
      refine ga_Model_2 hC hP hx hb hK hi3 dX9_beginAct_32 ?_
      obtain ⟨hi4, hf⟩ := gdE hf
      obtain ⟨z5, ez5, hf⟩ := cx_letE hf
      refine pa_Model_2 hC hP hx hb hK hi4 dX9_beginAct_33 hL (fun H locs hP hL => ?_)
      replace hP : P z5 H := by rw [← ez5]; exact hP
      refine lv_iinc (v := (x1 + 1)) (lv' := [(1, .int (x1 + 1)), (0, .ref (ad 0))]) hx hb dX9_beginAct_34 hl (k := 1) rfl rfl (by decide) rfl (fun ls hl => ?_)
      refine lv_goto (tgt := 11) hx hb dX9_beginAct_37 (by decide) ?_
      exact ih z5 (x1 + 1) _ _ _ hf hP hL (lv_sub hl [1, 0] rfl)
def f_X9_beginAct (N : Nat) (μ : MdlS) : Option (MdlS) := if μ.1.2 5 = 8 then f_X9_beginAct_b11 N N μ 0 else f_X9_beginAct_b50 N μ
set_option maxHeartbeats 4000000 in
set_option maxRecDepth 100000 in
theorem c_X9_beginAct {l : Launch} {G : va_G} {cA : Nat → ClassId} {lo : Nat} {ad : Nat → Nat} {P : MdlS → Heap → Prop} (hC : cx G lo 9 ad (ceModel cA ad) P) {N : Nat} {μ : MdlS} {res : MdlS} (hf : f_X9_beginAct N μ = some res) : Met l yX9_beginAct (cW yX9_beginAct cX9_beginAct 2 none) rm_X9_beginAct (cP [.ref (ad 0)] (P μ) G cA) (cQ none (P res)) 0 0 (fun q => lo ≤ q) := by
  refine cx_met (by decide) (Nat.le_of_ble_eq_true rfl) (fun p e s m args below meth c ls C0 hP hl => ?_)
  have hl : lv_has ls 2 [(0, .ref (ad 0))] := hl
  obtain ⟨⟨hx, hb, hml, hown, hts⟩, hr, hlocks, hK⟩ := id C0
  have hL : ∀ q ∈ ([] : List Loc), lo ≤ q.base := fun q h => nomatch h
  unfold f_X9_beginAct at hf
  refine lv_aload_n hx hb dX9_beginAct_0 rfl (lv_at hl 0 rfl) ?_
  refine g_Model_5 hC hP hx hb hts hown hK mw_594 dX9_beginAct_1 ?_
  refine lv_bipush (v := 8) hx hb dX9_beginAct_4 (by decide) ?_
  refine lv_icmp_ne (tgt := 50) hx hb dX9_beginAct_6 (by decide) (fun c1 => ?_) (fun c1 => ?_)
  · have hf := cx_f hf c1
    exact w_X9_beginAct_b50 C0 hC μ _ _ _ hf hP hL (lv_sub hl [0] rfl)
  · have hf := cx_t hf c1
    refine lv_iconst (v := 0) hx hb dX9_beginAct_9 (by decide) ?_
    refine lv_istore_n (lv' := [(1, .int 0), (0, .ref (ad 0))]) hx hb dX9_beginAct_10 rfl hl (by decide) rfl (fun ls hl => ?_)
    exact w_X9_beginAct_b11 C0 hC N μ 0 _ _ _ hf hP hL (lv_sub hl [1, 0] rfl)
abbrev rm_X9_of : Room := { frames := 0, cells := 0, slots := 0, locals := 0 }
theorem hd_X9_of : yX9_of.cls = RX9 ∧ yX9_of.cls ≠ "java/lang/invoke/MethodHandle" ∧ yX9_of.cls ≠ "java/lang/invoke/VarHandle" ∧ (parseMethodDescriptor yX9_of.desc).map (fun d => d.parameters.length) = some 2 := by decide +kernel
def f_X9_of (μ : MdlS) (p0 : Int32) (p1 : Int32) : Option (Int32) := gd ((184 + (5 * p0)) + p1) 1384 (some (μ.1.1 0 (Int32.toNatClampNeg ((184 + (5 * p0)) + p1))))
set_option maxHeartbeats 4000000 in
set_option maxRecDepth 100000 in
theorem c_X9_of {l : Launch} {G : va_G} {cA : Nat → ClassId} {lo : Nat} {ad : Nat → Nat} {P : MdlS → Heap → Prop} (hC : cx G lo 9 ad (ceModel cA ad) P) {μ : MdlS} {p0 : Int32} {p1 : Int32} {res : Int32} (hf : f_X9_of μ p0 p1 = some res) : Met l yX9_of (cW yX9_of cX9_of 3 (some .int)) rm_X9_of (cP [.ref (ad 0), .int p0, .int p1] (P μ) G cA) (cQ (some (.int res)) (P μ)) 0 0 (fun q => lo ≤ q) := by
  refine cx_met (by decide) (Nat.le_of_ble_eq_true rfl) (fun p e s m args below meth c ls C0 hP hl => ?_)
  have hl : lv_has ls 3 [(0, .ref (ad 0)), (1, .int p0), (2, .int p1)] := hl
  obtain ⟨⟨hx, hb, hml, hown, hts⟩, hr, hlocks, hK⟩ := id C0
  have hL : ∀ q ∈ ([] : List Loc), lo ≤ q.base := fun q h => nomatch h
  unfold f_X9_of at hf
  refine lv_aload_n hx hb dX9_of_0 rfl (lv_at hl 0 rfl) ?_
  refine g_Model_0 hC hP hx hb hts hown hK mw_114 dX9_of_1 ?_
  refine lv_sipush (v := 184) hx hb dX9_of_4 (by decide) ?_
  refine lv_iconst (v := 5) hx hb dX9_of_7 (by decide) ?_
  refine lv_iload_n hx hb dX9_of_8 rfl (lv_at hl 1 rfl) ?_
  refine lv_imul hx hb dX9_of_9 ?_
  refine lv_iadd hx hb dX9_of_10 ?_
  refine lv_iload_n hx hb dX9_of_11 rfl (lv_at hl 2 rfl) ?_
  refine lv_iadd hx hb dX9_of_12 ?_
  obtain ⟨hi1, hf⟩ := gdE hf
  refine ga_Model_0 hC hP hx hb hK hi1 dX9_of_13 ?_
  cases hf
  exact cx_iret hx hb hr hlocks hP hL dX9_of_14
abbrev rm_X9_put : Room := { frames := 0, cells := 0, slots := 0, locals := 0 }
theorem hd_X9_put : yX9_put.cls = RX9 ∧ yX9_put.cls ≠ "java/lang/invoke/MethodHandle" ∧ yX9_put.cls ≠ "java/lang/invoke/VarHandle" ∧ (parseMethodDescriptor yX9_put.desc).map (fun d => d.parameters.length) = some 3 := by decide +kernel
def f_X9_put (μ : MdlS) (p0 : Int32) (p1 : Int32) (p2 : Int32) : Option (MdlS) := gd ((184 + (5 * p0)) + p1) 1384 (cx_let ((oA μ.1 0 (Int32.toNatClampNeg ((184 + (5 * p0)) + p1)) p2, μ.2)) fun z2 => some z2)
set_option maxHeartbeats 4000000 in
set_option maxRecDepth 100000 in
theorem c_X9_put {l : Launch} {G : va_G} {cA : Nat → ClassId} {lo : Nat} {ad : Nat → Nat} {P : MdlS → Heap → Prop} (hC : cx G lo 9 ad (ceModel cA ad) P) {μ : MdlS} {p0 : Int32} {p1 : Int32} {p2 : Int32} {res : MdlS} (hf : f_X9_put μ p0 p1 p2 = some res) : Met l yX9_put (cW yX9_put cX9_put 4 none) rm_X9_put (cP [.ref (ad 0), .int p0, .int p1, .int p2] (P μ) G cA) (cQ none (P res)) 0 0 (fun q => lo ≤ q) := by
  refine cx_met (by decide) (Nat.le_of_ble_eq_true rfl) (fun p e s m args below meth c ls C0 hP hl => ?_)
  have hl : lv_has ls 4 [(0, .ref (ad 0)), (1, .int p0), (2, .int p1), (3, .int p2)] := hl
  obtain ⟨⟨hx, hb, hml, hown, hts⟩, hr, hlocks, hK⟩ := id C0
  have hL : ∀ q ∈ ([] : List Loc), lo ≤ q.base := fun q h => nomatch h
  unfold f_X9_put at hf
  refine lv_aload_n hx hb dX9_put_0 rfl (lv_at hl 0 rfl) ?_
  refine g_Model_0 hC hP hx hb hts hown hK mw_114 dX9_put_1 ?_
  refine lv_sipush (v := 184) hx hb dX9_put_4 (by decide) ?_
  refine lv_iconst (v := 5) hx hb dX9_put_7 (by decide) ?_
  refine lv_iload_n hx hb dX9_put_8 rfl (lv_at hl 1 rfl) ?_
  refine lv_imul hx hb dX9_put_9 ?_
  refine lv_iadd hx hb dX9_put_10 ?_
  refine lv_iload_n hx hb dX9_put_11 rfl (lv_at hl 2 rfl) ?_
  refine lv_iadd hx hb dX9_put_12 ?_
  refine lv_iload_n hx hb dX9_put_13 rfl (lv_at hl 3 rfl) ?_
  obtain ⟨hi1, hf⟩ := gdE hf
  obtain ⟨z2, ez2, hf⟩ := cx_letE hf
  refine pa_Model_0 hC hP hx hb hK hi1 dX9_put_14 hL (fun H locs hP hL => ?_)
  replace hP : P z2 H := by rw [← ez2]; exact hP
  cases hf
  exact cx_vret hx hb hr hlocks hP hL dX9_put_15
abbrev rm_X9_ofClient : Room := { frames := 0, cells := 0, slots := 0, locals := 0 }
theorem hd_X9_ofClient : yX9_ofClient.cls = RX9 ∧ yX9_ofClient.cls ≠ "java/lang/invoke/MethodHandle" ∧ yX9_ofClient.cls ≠ "java/lang/invoke/VarHandle" ∧ (parseMethodDescriptor yX9_ofClient.desc).map (fun d => d.parameters.length) = some 2 := by decide +kernel
def f_X9_ofClient (μ : MdlS) (p0 : Int32) (p1 : Int32) : Option (Int32) := gd ((144 + (10 * p0)) + p1) 1384 (some (μ.1.1 0 (Int32.toNatClampNeg ((144 + (10 * p0)) + p1))))
set_option maxHeartbeats 4000000 in
set_option maxRecDepth 100000 in
theorem c_X9_ofClient {l : Launch} {G : va_G} {cA : Nat → ClassId} {lo : Nat} {ad : Nat → Nat} {P : MdlS → Heap → Prop} (hC : cx G lo 9 ad (ceModel cA ad) P) {μ : MdlS} {p0 : Int32} {p1 : Int32} {res : Int32} (hf : f_X9_ofClient μ p0 p1 = some res) : Met l yX9_ofClient (cW yX9_ofClient cX9_ofClient 3 (some .int)) rm_X9_ofClient (cP [.ref (ad 0), .int p0, .int p1] (P μ) G cA) (cQ (some (.int res)) (P μ)) 0 0 (fun q => lo ≤ q) := by
  refine cx_met (by decide) (Nat.le_of_ble_eq_true rfl) (fun p e s m args below meth c ls C0 hP hl => ?_)
  have hl : lv_has ls 3 [(0, .ref (ad 0)), (1, .int p0), (2, .int p1)] := hl
  obtain ⟨⟨hx, hb, hml, hown, hts⟩, hr, hlocks, hK⟩ := id C0
  have hL : ∀ q ∈ ([] : List Loc), lo ≤ q.base := fun q h => nomatch h
  unfold f_X9_ofClient at hf
  refine lv_aload_n hx hb dX9_ofClient_0 rfl (lv_at hl 0 rfl) ?_
  refine g_Model_0 hC hP hx hb hts hown hK mw_114 dX9_ofClient_1 ?_
  refine lv_sipush (v := 144) hx hb dX9_ofClient_4 (by decide) ?_
  refine lv_bipush (v := 10) hx hb dX9_ofClient_7 (by decide) ?_
  refine lv_iload_n hx hb dX9_ofClient_9 rfl (lv_at hl 1 rfl) ?_
  refine lv_imul hx hb dX9_ofClient_10 ?_
  refine lv_iadd hx hb dX9_ofClient_11 ?_
  refine lv_iload_n hx hb dX9_ofClient_12 rfl (lv_at hl 2 rfl) ?_
  refine lv_iadd hx hb dX9_ofClient_13 ?_
  obtain ⟨hi1, hf⟩ := gdE hf
  refine ga_Model_0 hC hP hx hb hK hi1 dX9_ofClient_14 ?_
  cases hf
  exact cx_iret hx hb hr hlocks hP hL dX9_ofClient_15
abbrev rm_X9_putClient : Room := { frames := 0, cells := 0, slots := 0, locals := 0 }
theorem hd_X9_putClient : yX9_putClient.cls = RX9 ∧ yX9_putClient.cls ≠ "java/lang/invoke/MethodHandle" ∧ yX9_putClient.cls ≠ "java/lang/invoke/VarHandle" ∧ (parseMethodDescriptor yX9_putClient.desc).map (fun d => d.parameters.length) = some 3 := by decide +kernel
def f_X9_putClient (μ : MdlS) (p0 : Int32) (p1 : Int32) (p2 : Int32) : Option (MdlS) := gd ((144 + (10 * p0)) + p1) 1384 (cx_let ((oA μ.1 0 (Int32.toNatClampNeg ((144 + (10 * p0)) + p1)) p2, μ.2)) fun z2 => some z2)
set_option maxHeartbeats 4000000 in
set_option maxRecDepth 100000 in
theorem c_X9_putClient {l : Launch} {G : va_G} {cA : Nat → ClassId} {lo : Nat} {ad : Nat → Nat} {P : MdlS → Heap → Prop} (hC : cx G lo 9 ad (ceModel cA ad) P) {μ : MdlS} {p0 : Int32} {p1 : Int32} {p2 : Int32} {res : MdlS} (hf : f_X9_putClient μ p0 p1 p2 = some res) : Met l yX9_putClient (cW yX9_putClient cX9_putClient 4 none) rm_X9_putClient (cP [.ref (ad 0), .int p0, .int p1, .int p2] (P μ) G cA) (cQ none (P res)) 0 0 (fun q => lo ≤ q) := by
  refine cx_met (by decide) (Nat.le_of_ble_eq_true rfl) (fun p e s m args below meth c ls C0 hP hl => ?_)
  have hl : lv_has ls 4 [(0, .ref (ad 0)), (1, .int p0), (2, .int p1), (3, .int p2)] := hl
  obtain ⟨⟨hx, hb, hml, hown, hts⟩, hr, hlocks, hK⟩ := id C0
  have hL : ∀ q ∈ ([] : List Loc), lo ≤ q.base := fun q h => nomatch h
  unfold f_X9_putClient at hf
  refine lv_aload_n hx hb dX9_putClient_0 rfl (lv_at hl 0 rfl) ?_
  refine g_Model_0 hC hP hx hb hts hown hK mw_114 dX9_putClient_1 ?_
  refine lv_sipush (v := 144) hx hb dX9_putClient_4 (by decide) ?_
  refine lv_bipush (v := 10) hx hb dX9_putClient_7 (by decide) ?_
  refine lv_iload_n hx hb dX9_putClient_9 rfl (lv_at hl 1 rfl) ?_
  refine lv_imul hx hb dX9_putClient_10 ?_
  refine lv_iadd hx hb dX9_putClient_11 ?_
  refine lv_iload_n hx hb dX9_putClient_12 rfl (lv_at hl 2 rfl) ?_
  refine lv_iadd hx hb dX9_putClient_13 ?_
  refine lv_iload_n hx hb dX9_putClient_14 rfl (lv_at hl 3 rfl) ?_
  obtain ⟨hi1, hf⟩ := gdE hf
  obtain ⟨z2, ez2, hf⟩ := cx_letE hf
  refine pa_Model_0 hC hP hx hb hK hi1 dX9_putClient_15 hL (fun H locs hP hL => ?_)
  replace hP : P z2 H := by rw [← ez2]; exact hP
  cases hf
  exact cx_vret hx hb hr hlocks hP hL dX9_putClient_16
abbrev rm_X9_isClient : Room := { frames := 1, cells := 0, slots := 0, locals := 22 }
theorem hd_X9_isClient : yX9_isClient.cls = RX9 ∧ yX9_isClient.cls ≠ "java/lang/invoke/MethodHandle" ∧ yX9_isClient.cls ≠ "java/lang/invoke/VarHandle" ∧ (parseMethodDescriptor yX9_isClient.desc).map (fun d => d.parameters.length) = some 1 := by decide +kernel
def f_X9_isClient (μ : MdlS) (p0 : Int32) : Option (Int32) := gd 6 1384 ((f_X9_isBetween p0 0 ((μ.1.1 0 (Int32.toNatClampNeg 6)) - 1)).bind fun r2 => zb r2 (some r2))
set_option maxHeartbeats 4000000 in
set_option maxRecDepth 100000 in
theorem c_X9_isClient {l : Launch} {G : va_G} {cA : Nat → ClassId} {lo : Nat} {ad : Nat → Nat} {P : MdlS → Heap → Prop} (hC : cx G lo 9 ad (ceModel cA ad) P) {μ : MdlS} {p0 : Int32} {res : Int32} (hf : f_X9_isClient μ p0 = some res) : Met l yX9_isClient (cW yX9_isClient cX9_isClient 2 (some .boolean)) rm_X9_isClient (cP [.ref (ad 0), .int p0] (P μ) G cA) (cQ (some (.int res)) (P μ)) 0 0 (fun q => lo ≤ q) := by
  refine cx_met (by decide) (Nat.le_of_ble_eq_true rfl) (fun p e s m args below meth c ls C0 hP hl => ?_)
  have hl : lv_has ls 2 [(0, .ref (ad 0)), (1, .int p0)] := hl
  obtain ⟨⟨hx, hb, hml, hown, hts⟩, hr, hlocks, hK⟩ := id C0
  have hL : ∀ q ∈ ([] : List Loc), lo ≤ q.base := fun q h => nomatch h
  unfold f_X9_isClient at hf
  refine lv_iload_n hx hb dX9_isClient_0 rfl (lv_at hl 1 rfl) ?_
  refine lv_iconst (v := 0) hx hb dX9_isClient_1 (by decide) ?_
  refine lv_aload_n hx hb dX9_isClient_2 rfl (lv_at hl 0 rfl) ?_
  refine g_Model_0 hC hP hx hb hts hown hK mw_114 dX9_isClient_3 ?_
  refine lv_bipush (v := 6) hx hb dX9_isClient_6 (by decide) ?_
  obtain ⟨hi1, hf⟩ := gdE hf
  refine ga_Model_0 hC hP hx hb hK hi1 dX9_isClient_8 ?_
  refine lv_iconst (v := 1) hx hb dX9_isClient_9 (by decide) ?_
  refine lv_isub hx hb dX9_isClient_10 ?_
  obtain ⟨r2, q3, hf⟩ := cx_b hf
  refine cx_callS (As := [.int p0, .int 0, .int ((μ.1.1 0 (Int32.toNatClampNeg 6)) - 1)]) (rest := []) ⟨hx, hb, hml, hown, hts⟩ (c_X9_isBetween (PH := P μ) q3) (cwS 3 hts (gS mw_176 mw_177 mw_5 mw_178) rfl rfl rfl hd_X9_isBetween ⟨Nat.le_of_ble_eq_true rfl, Nat.le_of_ble_eq_true rfl⟩) hK hP rfl hl.1 rfl (Nat.le_of_ble_eq_true rfl) dX9_isClient_11 ⟨Nat.zero_le _, Nat.zero_le _⟩ hL (fun H locs hP hL => ?_)
  obtain ⟨hz4, hf⟩ := zbE hf
  cases hf
  exact cx_zret hx hb hr hlocks hz4 hP hL dX9_isClient_14
abbrev rm_X9_isBlock : Room := { frames := 1, cells := 0, slots := 0, locals := 22 }
theorem hd_X9_isBlock : yX9_isBlock.cls = RX9 ∧ yX9_isBlock.cls ≠ "java/lang/invoke/MethodHandle" ∧ yX9_isBlock.cls ≠ "java/lang/invoke/VarHandle" ∧ (parseMethodDescriptor yX9_isBlock.desc).map (fun d => d.parameters.length) = some 1 := by decide +kernel
def f_X9_isBlock (p0 : Int32) : Option (Int32) := (f_X9_isBetween p0 0 199).bind fun r1 => zb r1 (some r1)
set_option maxHeartbeats 4000000 in
set_option maxRecDepth 100000 in
theorem c_X9_isBlock {l : Launch} {G : va_G} {cA : Nat → ClassId} {lo : Nat} {PH : Heap → Prop} {p0 : Int32} {res : Int32} (hf : f_X9_isBlock p0 = some res) : Met l yX9_isBlock (cW yX9_isBlock cX9_isBlock 1 (some .boolean)) rm_X9_isBlock (cP [.int p0] (PH) G cA) (cQ (some (.int res)) (PH)) 0 0 (fun q => lo ≤ q) := by
  refine cx_met (by decide) (Nat.le_of_ble_eq_true rfl) (fun p e s m args below meth c ls C0 hP hl => ?_)
  have hl : lv_has ls 1 [(0, .int p0)] := hl
  obtain ⟨⟨hx, hb, hml, hown, hts⟩, hr, hlocks, hK⟩ := id C0
  have hL : ∀ q ∈ ([] : List Loc), lo ≤ q.base := fun q h => nomatch h
  unfold f_X9_isBlock at hf
  refine lv_iload_n hx hb dX9_isBlock_0 rfl (lv_at hl 0 rfl) ?_
  refine lv_iconst (v := 0) hx hb dX9_isBlock_1 (by decide) ?_
  refine lv_sipush (v := 199) hx hb dX9_isBlock_2 (by decide) ?_
  obtain ⟨r1, q2, hf⟩ := cx_b hf
  refine cx_callS (As := [.int p0, .int 0, .int 199]) (rest := []) ⟨hx, hb, hml, hown, hts⟩ (c_X9_isBetween (PH := PH) q2) (cwS 3 hts (gS mw_176 mw_177 mw_5 mw_178) rfl rfl rfl hd_X9_isBetween ⟨Nat.le_of_ble_eq_true rfl, Nat.le_of_ble_eq_true rfl⟩) hK hP rfl hl.1 rfl (Nat.le_of_ble_eq_true rfl) dX9_isBlock_5 ⟨Nat.zero_le _, Nat.zero_le _⟩ hL (fun H locs hP hL => ?_)
  obtain ⟨hz3, hf⟩ := zbE hf
  cases hf
  exact cx_zret hx hb hr hlocks hz3 hP hL dX9_isBlock_8
abbrev rm_X9_appendText : Room := { frames := 1, cells := 0, slots := 0, locals := 21 }
theorem hd_X9_appendText : yX9_appendText.cls = RX9 ∧ yX9_appendText.cls ≠ "java/lang/invoke/MethodHandle" ∧ yX9_appendText.cls ≠ "java/lang/invoke/VarHandle" ∧ (parseMethodDescriptor yX9_appendText.desc).map (fun d => d.parameters.length) = some 1 := by decide +kernel
def f_X9_appendText_b26 (N : Nat) : Nat → MdlS → Int32 → Int32 → Option (Int32 × MdlS)
  | 0, _, _, _ => none
  | n + 1, μ, x1, x2 => if x2 < 0 then some (μ.1.2 10, μ) else gd (μ.1.2 10) 600 (cx_let ((oA μ.1 7 (Int32.toNatClampNeg (μ.1.2 10)) ((x1 >>> (x2 &&& 31)) &&& 255), μ.2)) fun z3 => cx_let ((oI z3.1 10 (z3.1.2 10 + 1), z3.2)) fun z4 => f_X9_appendText_b26 N n z4 x1 (x2 + (-8)))
set_option maxHeartbeats 4000000 in
set_option maxRecDepth 100000 in
theorem w_X9_appendText_b26 {p : Program} {l : Launch} {e : Env} {s : State} {m : MethodId} {args : Array Value} {below : List Frame} {meth : Method} {c : Code} {G : va_G} {cA : Nat → ClassId} (C0 : cB p s m args meth c RX9 cX9_appendText 3 (some .int) G cA) {lo : Nat} {ad : Nat → Nat} {P : MdlS → Heap → Prop} (hC : cx G lo 9 ad (ceModel cA ad) P) {N : Nat} {res : Int32 × MdlS} : ∀ (n : Nat) (μ : MdlS) (x1 : Int32) (x2 : Int32) (H : Heap) (locs : List Loc) (ls : Array Slot), f_X9_appendText_b26 N n μ x1 x2 = some res → P μ H → (∀ q ∈ locs, lo ≤ q.base) → lv_has ls 3 [(0, .ref (ad 0)), (1, .int x1), (2, .int x2)] → W p l e rm_X9_appendText s m args below meth c H locs 0 0 (MQ below (cQ (some (.int res.1)) (P res.2)) args s 0 0 (fun q => lo ≤ q)) (F0 m 26 ls []) := by
  obtain ⟨⟨hx, hb, hml, hown, hts⟩, hr, hlocks, hK⟩ := id C0
  intro n
  induction n with
  | zero => intro μ x1 x2 H locs ls
            exact fun hf => nomatch hf
  | succ n ih =>
    intro μ x1 x2 H locs ls hf hP hL hl
    rw [f_X9_appendText_b26] at hf
    refine lv_iload_n hx hb dX9_appendText_26 rfl (lv_at hl 2 rfl) ?_
    refine lv_if_lt (tgt := 62) hx hb dX9_appendText_27 (by decide) (fun c1 => ?_) (fun c1 => ?_)
    · have hf := cx_t hf c1
      refine lv_aload_n hx hb dX9_appendText_62 rfl (lv_at hl 0 rfl) ?_
      refine g_Model_10 hC hP hx hb hts hown hK mw_150 dX9_appendText_63 ?_
      cases hf
      exact cx_iret hx hb hr hlocks hP hL dX9_appendText_66
    · have hf := cx_f hf c1
      refine lv_aload_n hx hb dX9_appendText_30 rfl (lv_at hl 0 rfl) ?_
      refine g_Model_7 hC hP hx hb hts hown hK mw_120 dX9_appendText_31 ?_
      refine lv_aload_n hx hb dX9_appendText_34 rfl (lv_at hl 0 rfl) ?_
      refine g_Model_10 hC hP hx hb hts hown hK mw_150 dX9_appendText_35 ?_
      refine lv_iload_n hx hb dX9_appendText_38 rfl (lv_at hl 1 rfl) ?_
      refine lv_iload_n hx hb dX9_appendText_39 rfl (lv_at hl 2 rfl) ?_
      refine lv_ishr hx hb dX9_appendText_40 ?_
      refine lv_sipush (v := 255) hx hb dX9_appendText_41 (by decide) ?_
      refine lv_iand hx hb dX9_appendText_44 ?_
      obtain ⟨hi2, hf⟩ := gdE hf
      obtain ⟨z3, ez3, hf⟩ := cx_letE hf
      refine pa_Model_7 hC hP hx hb hK hi2 dX9_appendText_45 hL (fun H locs hP hL => ?_)
      replace hP : P z3 H := by rw [← ez3]; exact hP
      refine lv_aload_n hx hb dX9_appendText_46 rfl (lv_at hl 0 rfl) ?_
      refine lv_dup hx hb dX9_appendText_47 rfl ?_
      refine g_Model_10 hC hP hx hb hts hown hK mw_150 dX9_appendText_48 ?_
      refine lv_iconst (v := 1) hx hb dX9_appendText_51 (by decide) ?_
      refine lv_iadd hx hb dX9_appendText_52 ?_
      obtain ⟨z4, ez4, hf⟩ := cx_letE hf
      refine p_Model_10 hC hP hx hb hts hown hK mw_150 dX9_appendText_53 hL (fun H locs hP hL => ?_)
      replace hP : P z4 H := by rw [← ez4]; exact hP
      refine lv_iinc (v := (x2 + (-8))) (lv' := [(2, .int (x2 + (-8))), (0, .ref (ad 0)), (1, .int x1)]) hx hb dX9_appendText_56 hl (k := 2) rfl rfl (by decide) rfl (fun ls hl => ?_)
      refine lv_goto (tgt := 26) hx hb dX9_appendText_59 (by decide) ?_
      exact ih z4 x1 (x2 + (-8)) _ _ _ hf hP hL (lv_sub hl [1, 2, 0] rfl)
def f_X9_appendText (N : Nat) (μ : MdlS) (p0 : Int32) : Option (Int32 × MdlS) := cx_let ((oI μ.1 6 0, μ.2)) fun z1 => if (z1.1.2 10 + 4) ≤ 600 then f_X9_appendText_b26 N N z1 p0 24 else (f_X9_fail z1 1).bind fun r3 => some (r3.1, r3.2)
set_option maxHeartbeats 4000000 in
set_option maxRecDepth 100000 in
theorem c_X9_appendText {l : Launch} {G : va_G} {cA : Nat → ClassId} {lo : Nat} {ad : Nat → Nat} {P : MdlS → Heap → Prop} (hC : cx G lo 9 ad (ceModel cA ad) P) {N : Nat} {μ : MdlS} {p0 : Int32} {res : Int32 × MdlS} (hf : f_X9_appendText N μ p0 = some res) : Met l yX9_appendText (cW yX9_appendText cX9_appendText 3 (some .int)) rm_X9_appendText (cP [.ref (ad 0), .int p0] (P μ) G cA) (cQ (some (.int res.1)) (P res.2)) 0 0 (fun q => lo ≤ q) := by
  refine cx_met (by decide) (Nat.le_of_ble_eq_true rfl) (fun p e s m args below meth c ls C0 hP hl => ?_)
  have hl : lv_has ls 3 [(0, .ref (ad 0)), (1, .int p0)] := hl
  obtain ⟨⟨hx, hb, hml, hown, hts⟩, hr, hlocks, hK⟩ := id C0
  have hL : ∀ q ∈ ([] : List Loc), lo ≤ q.base := fun q h => nomatch h
  unfold f_X9_appendText at hf
  refine lv_aload_n hx hb dX9_appendText_0 rfl (lv_at hl 0 rfl) ?_
  refine lv_iconst (v := 0) hx hb dX9_appendText_1 (by decide) ?_
  obtain ⟨z1, ez1, hf⟩ := cx_letE hf
  refine p_Model_6 hC hP hx hb hts hown hK mw_149 dX9_appendText_2 hL (fun H locs hP hL => ?_)
  replace hP : P z1 H := by rw [← ez1]; exact hP
  refine lv_aload_n hx hb dX9_appendText_5 rfl (lv_at hl 0 rfl) ?_
  refine g_Model_10 hC hP hx hb hts hown hK mw_150 dX9_appendText_6 ?_
  refine lv_iconst (v := 4) hx hb dX9_appendText_9 (by decide) ?_
  refine lv_iadd hx hb dX9_appendText_10 ?_
  refine lv_sipush (v := 600) hx hb dX9_appendText_11 (by decide) ?_
  refine lv_icmp_le (tgt := 23) hx hb dX9_appendText_14 (by decide) (fun c2 => ?_) (fun c2 => ?_)
  · have hf := cx_t hf c2
    refine lv_bipush (v := 24) hx hb dX9_appendText_23 (by decide) ?_
    refine lv_istore_n (lv' := [(2, .int 24), (0, .ref (ad 0)), (1, .int p0)]) hx hb dX9_appendText_25 rfl hl (by decide) rfl (fun ls hl => ?_)
    exact w_X9_appendText_b26 C0 hC N z1 p0 24 _ _ _ hf hP hL (lv_sub hl [1, 2, 0] rfl)
  · have hf := cx_f hf c2
    refine lv_aload_n hx hb dX9_appendText_17 rfl (lv_at hl 0 rfl) ?_
    refine lv_iconst (v := 1) hx hb dX9_appendText_18 (by decide) ?_
    obtain ⟨r3, q4, hf⟩ := cx_b hf
    refine cx_callV (As := [.int 1]) (rest := []) ⟨hx, hb, hml, hown, hts⟩ (c_X9_fail hC q4) (cwV 1 hts (gV mw_151 mw_152 mw_153 mw_5 mw_154) rfl rfl rfl hd_X9_fail ⟨Nat.le_of_ble_eq_true rfl, Nat.le_of_ble_eq_true rfl⟩) hK hP rfl (at_Model hC hP) rfl hl.1 rfl (Nat.le_of_ble_eq_true rfl) dX9_appendText_19 ⟨Nat.zero_le _, Nat.zero_le _⟩ hL (fun H locs hP hL => ?_)
    replace hP : P r3.2 H := by first | exact hP | (simpa only [va_up_id] using hP)
    cases hf
    exact cx_iret hx hb hr hlocks hP hL dX9_appendText_22
abbrev rm_X9_truncateText : Room := { frames := 1, cells := 0, slots := 0, locals := 22 }
theorem hd_X9_truncateText : yX9_truncateText.cls = RX9 ∧ yX9_truncateText.cls ≠ "java/lang/invoke/MethodHandle" ∧ yX9_truncateText.cls ≠ "java/lang/invoke/VarHandle" ∧ (parseMethodDescriptor yX9_truncateText.desc).map (fun d => d.parameters.length) = some 1 := by decide +kernel
def f_X9_truncateText (μ : MdlS) (p0 : Int32) : Option (Int32 × MdlS) := cx_let ((oI μ.1 6 0, μ.2)) fun z1 => (f_X9_isBetween p0 0 (z1.1.2 10)).bind fun r2 => if r2 = 0 then (f_X9_fail z1 1).bind fun r6 => some (r6.1, r6.2) else cx_let ((oI z1.1 10 p0, z1.2)) fun z5 => some (z5.1.2 10, z5)
set_option maxHeartbeats 4000000 in
set_option maxRecDepth 100000 in
theorem c_X9_truncateText {l : Launch} {G : va_G} {cA : Nat → ClassId} {lo : Nat} {ad : Nat → Nat} {P : MdlS → Heap → Prop} (hC : cx G lo 9 ad (ceModel cA ad) P) {μ : MdlS} {p0 : Int32} {res : Int32 × MdlS} (hf : f_X9_truncateText μ p0 = some res) : Met l yX9_truncateText (cW yX9_truncateText cX9_truncateText 2 (some .int)) rm_X9_truncateText (cP [.ref (ad 0), .int p0] (P μ) G cA) (cQ (some (.int res.1)) (P res.2)) 0 0 (fun q => lo ≤ q) := by
  refine cx_met (by decide) (Nat.le_of_ble_eq_true rfl) (fun p e s m args below meth c ls C0 hP hl => ?_)
  have hl : lv_has ls 2 [(0, .ref (ad 0)), (1, .int p0)] := hl
  obtain ⟨⟨hx, hb, hml, hown, hts⟩, hr, hlocks, hK⟩ := id C0
  have hL : ∀ q ∈ ([] : List Loc), lo ≤ q.base := fun q h => nomatch h
  unfold f_X9_truncateText at hf
  refine lv_aload_n hx hb dX9_truncateText_0 rfl (lv_at hl 0 rfl) ?_
  refine lv_iconst (v := 0) hx hb dX9_truncateText_1 (by decide) ?_
  obtain ⟨z1, ez1, hf⟩ := cx_letE hf
  refine p_Model_6 hC hP hx hb hts hown hK mw_149 dX9_truncateText_2 hL (fun H locs hP hL => ?_)
  replace hP : P z1 H := by rw [← ez1]; exact hP
  refine lv_iload_n hx hb dX9_truncateText_5 rfl (lv_at hl 1 rfl) ?_
  refine lv_iconst (v := 0) hx hb dX9_truncateText_6 (by decide) ?_
  refine lv_aload_n hx hb dX9_truncateText_7 rfl (lv_at hl 0 rfl) ?_
  refine g_Model_10 hC hP hx hb hts hown hK mw_150 dX9_truncateText_8 ?_
  obtain ⟨r2, q3, hf⟩ := cx_b hf
  refine cx_callS (As := [.int p0, .int 0, .int (z1.1.2 10)]) (rest := []) ⟨hx, hb, hml, hown, hts⟩ (c_X9_isBetween (PH := P z1) q3) (cwS 3 hts (gS mw_176 mw_177 mw_5 mw_178) rfl rfl rfl hd_X9_isBetween ⟨Nat.le_of_ble_eq_true rfl, Nat.le_of_ble_eq_true rfl⟩) hK hP rfl hl.1 rfl (Nat.le_of_ble_eq_true rfl) dX9_truncateText_11 ⟨Nat.zero_le _, Nat.zero_le _⟩ hL (fun H locs hP hL => ?_)
  refine lv_if_ne (tgt := 23) hx hb dX9_truncateText_14 (by decide) (fun c4 => ?_) (fun c4 => ?_)
  · have hf := cx_f hf c4
    refine lv_aload_n hx hb dX9_truncateText_23 rfl (lv_at hl 0 rfl) ?_
    refine lv_iload_n hx hb dX9_truncateText_24 rfl (lv_at hl 1 rfl) ?_
    obtain ⟨z5, ez5, hf⟩ := cx_letE hf
    refine p_Model_10 hC hP hx hb hts hown hK mw_150 dX9_truncateText_25 hL (fun H locs hP hL => ?_)
    replace hP : P z5 H := by rw [← ez5]; exact hP
    refine lv_aload_n hx hb dX9_truncateText_28 rfl (lv_at hl 0 rfl) ?_
    refine g_Model_10 hC hP hx hb hts hown hK mw_150 dX9_truncateText_29 ?_
    cases hf
    exact cx_iret hx hb hr hlocks hP hL dX9_truncateText_32
  · have hf := cx_t hf c4
    refine lv_aload_n hx hb dX9_truncateText_17 rfl (lv_at hl 0 rfl) ?_
    refine lv_iconst (v := 1) hx hb dX9_truncateText_18 (by decide) ?_
    obtain ⟨r6, q7, hf⟩ := cx_b hf
    refine cx_callV (As := [.int 1]) (rest := []) ⟨hx, hb, hml, hown, hts⟩ (c_X9_fail hC q7) (cwV 1 hts (gV mw_151 mw_152 mw_153 mw_5 mw_154) rfl rfl rfl hd_X9_fail ⟨Nat.le_of_ble_eq_true rfl, Nat.le_of_ble_eq_true rfl⟩) hK hP rfl (at_Model hC hP) rfl hl.1 rfl (Nat.le_of_ble_eq_true rfl) dX9_truncateText_19 ⟨Nat.zero_le _, Nat.zero_le _⟩ hL (fun H locs hP hL => ?_)
    replace hP : P r6.2 H := by first | exact hP | (simpa only [va_up_id] using hP)
    cases hf
    exact cx_iret hx hb hr hlocks hP hL dX9_truncateText_22
abbrev rm_X9_byteAt : Room := { frames := 0, cells := 0, slots := 0, locals := 0 }
theorem hd_X9_byteAt : yX9_byteAt.cls = RX9 ∧ yX9_byteAt.cls ≠ "java/lang/invoke/MethodHandle" ∧ yX9_byteAt.cls ≠ "java/lang/invoke/VarHandle" ∧ (parseMethodDescriptor yX9_byteAt.desc).map (fun d => d.parameters.length) = some 1 := by decide +kernel
def f_X9_byteAt (μ : MdlS) (p0 : Int32) : Option (Int32) := if μ.1.2 10 ≤ p0 then some (-1) else gd p0 600 (some (μ.1.1 7 (Int32.toNatClampNeg p0)))
set_option maxHeartbeats 4000000 in
set_option maxRecDepth 100000 in
theorem c_X9_byteAt {l : Launch} {G : va_G} {cA : Nat → ClassId} {lo : Nat} {ad : Nat → Nat} {P : MdlS → Heap → Prop} (hC : cx G lo 9 ad (ceModel cA ad) P) {μ : MdlS} {p0 : Int32} {res : Int32} (hf : f_X9_byteAt μ p0 = some res) : Met l yX9_byteAt (cW yX9_byteAt cX9_byteAt 2 (some .int)) rm_X9_byteAt (cP [.ref (ad 0), .int p0] (P μ) G cA) (cQ (some (.int res)) (P μ)) 0 0 (fun q => lo ≤ q) := by
  refine cx_met (by decide) (Nat.le_of_ble_eq_true rfl) (fun p e s m args below meth c ls C0 hP hl => ?_)
  have hl : lv_has ls 2 [(0, .ref (ad 0)), (1, .int p0)] := hl
  obtain ⟨⟨hx, hb, hml, hown, hts⟩, hr, hlocks, hK⟩ := id C0
  have hL : ∀ q ∈ ([] : List Loc), lo ≤ q.base := fun q h => nomatch h
  unfold f_X9_byteAt at hf
  refine lv_iload_n hx hb dX9_byteAt_0 rfl (lv_at hl 1 rfl) ?_
  refine lv_aload_n hx hb dX9_byteAt_1 rfl (lv_at hl 0 rfl) ?_
  refine g_Model_10 hC hP hx hb hts hown hK mw_150 dX9_byteAt_2 ?_
  refine lv_icmp_ge (tgt := 17) hx hb dX9_byteAt_5 (by decide) (fun c1 => ?_) (fun c1 => ?_)
  · have hf := cx_t hf c1
    refine lv_iconst (v := (-1)) hx hb dX9_byteAt_17 (by decide) ?_
    cases hf
    exact cx_iret hx hb hr hlocks hP hL dX9_byteAt_18
  · have hf := cx_f hf c1
    refine lv_aload_n hx hb dX9_byteAt_8 rfl (lv_at hl 0 rfl) ?_
    refine g_Model_7 hC hP hx hb hts hown hK mw_120 dX9_byteAt_9 ?_
    refine lv_iload_n hx hb dX9_byteAt_12 rfl (lv_at hl 1 rfl) ?_
    obtain ⟨hi2, hf⟩ := gdE hf
    refine ga_Model_7 hC hP hx hb hK hi2 dX9_byteAt_13 ?_
    refine lv_goto (tgt := 18) hx hb dX9_byteAt_14 (by decide) ?_
    cases hf
    exact cx_iret hx hb hr hlocks hP hL dX9_byteAt_18
abbrev rm_X9_isLetter : Room := { frames := 1, cells := 0, slots := 0, locals := 22 }
theorem hd_X9_isLetter : yX9_isLetter.cls = RX9 ∧ yX9_isLetter.cls ≠ "java/lang/invoke/MethodHandle" ∧ yX9_isLetter.cls ≠ "java/lang/invoke/VarHandle" ∧ (parseMethodDescriptor yX9_isLetter.desc).map (fun d => d.parameters.length) = some 1 := by decide +kernel
def f_X9_isLetter (p0 : Int32) : Option (Int32) := (f_X9_isBetween p0 97 122).bind fun r1 => zb r1 (some r1)
set_option maxHeartbeats 4000000 in
set_option maxRecDepth 100000 in
theorem c_X9_isLetter {l : Launch} {G : va_G} {cA : Nat → ClassId} {lo : Nat} {PH : Heap → Prop} {p0 : Int32} {res : Int32} (hf : f_X9_isLetter p0 = some res) : Met l yX9_isLetter (cW yX9_isLetter cX9_isLetter 1 (some .boolean)) rm_X9_isLetter (cP [.int p0] (PH) G cA) (cQ (some (.int res)) (PH)) 0 0 (fun q => lo ≤ q) := by
  refine cx_met (by decide) (Nat.le_of_ble_eq_true rfl) (fun p e s m args below meth c ls C0 hP hl => ?_)
  have hl : lv_has ls 1 [(0, .int p0)] := hl
  obtain ⟨⟨hx, hb, hml, hown, hts⟩, hr, hlocks, hK⟩ := id C0
  have hL : ∀ q ∈ ([] : List Loc), lo ≤ q.base := fun q h => nomatch h
  unfold f_X9_isLetter at hf
  refine lv_iload_n hx hb dX9_isLetter_0 rfl (lv_at hl 0 rfl) ?_
  refine lv_bipush (v := 97) hx hb dX9_isLetter_1 (by decide) ?_
  refine lv_bipush (v := 122) hx hb dX9_isLetter_3 (by decide) ?_
  obtain ⟨r1, q2, hf⟩ := cx_b hf
  refine cx_callS (As := [.int p0, .int 97, .int 122]) (rest := []) ⟨hx, hb, hml, hown, hts⟩ (c_X9_isBetween (PH := PH) q2) (cwS 3 hts (gS mw_176 mw_177 mw_5 mw_178) rfl rfl rfl hd_X9_isBetween ⟨Nat.le_of_ble_eq_true rfl, Nat.le_of_ble_eq_true rfl⟩) hK hP rfl hl.1 rfl (Nat.le_of_ble_eq_true rfl) dX9_isLetter_5 ⟨Nat.zero_le _, Nat.zero_le _⟩ hL (fun H locs hP hL => ?_)
  obtain ⟨hz3, hf⟩ := zbE hf
  cases hf
  exact cx_zret hx hb hr hlocks hz3 hP hL dX9_isLetter_8
abbrev rm_X9_isDigit : Room := { frames := 1, cells := 0, slots := 0, locals := 22 }
theorem hd_X9_isDigit : yX9_isDigit.cls = RX9 ∧ yX9_isDigit.cls ≠ "java/lang/invoke/MethodHandle" ∧ yX9_isDigit.cls ≠ "java/lang/invoke/VarHandle" ∧ (parseMethodDescriptor yX9_isDigit.desc).map (fun d => d.parameters.length) = some 1 := by decide +kernel
def f_X9_isDigit (p0 : Int32) : Option (Int32) := (f_X9_isBetween p0 48 57).bind fun r1 => zb r1 (some r1)
set_option maxHeartbeats 4000000 in
set_option maxRecDepth 100000 in
theorem c_X9_isDigit {l : Launch} {G : va_G} {cA : Nat → ClassId} {lo : Nat} {PH : Heap → Prop} {p0 : Int32} {res : Int32} (hf : f_X9_isDigit p0 = some res) : Met l yX9_isDigit (cW yX9_isDigit cX9_isDigit 1 (some .boolean)) rm_X9_isDigit (cP [.int p0] (PH) G cA) (cQ (some (.int res)) (PH)) 0 0 (fun q => lo ≤ q) := by
  refine cx_met (by decide) (Nat.le_of_ble_eq_true rfl) (fun p e s m args below meth c ls C0 hP hl => ?_)
  have hl : lv_has ls 1 [(0, .int p0)] := hl
  obtain ⟨⟨hx, hb, hml, hown, hts⟩, hr, hlocks, hK⟩ := id C0
  have hL : ∀ q ∈ ([] : List Loc), lo ≤ q.base := fun q h => nomatch h
  unfold f_X9_isDigit at hf
  refine lv_iload_n hx hb dX9_isDigit_0 rfl (lv_at hl 0 rfl) ?_
  refine lv_bipush (v := 48) hx hb dX9_isDigit_1 (by decide) ?_
  refine lv_bipush (v := 57) hx hb dX9_isDigit_3 (by decide) ?_
  obtain ⟨r1, q2, hf⟩ := cx_b hf
  refine cx_callS (As := [.int p0, .int 48, .int 57]) (rest := []) ⟨hx, hb, hml, hown, hts⟩ (c_X9_isBetween (PH := PH) q2) (cwS 3 hts (gS mw_176 mw_177 mw_5 mw_178) rfl rfl rfl hd_X9_isBetween ⟨Nat.le_of_ble_eq_true rfl, Nat.le_of_ble_eq_true rfl⟩) hK hP rfl hl.1 rfl (Nat.le_of_ble_eq_true rfl) dX9_isDigit_5 ⟨Nat.zero_le _, Nat.zero_le _⟩ hL (fun H locs hP hL => ?_)
  obtain ⟨hz3, hf⟩ := zbE hf
  cases hf
  exact cx_zret hx hb hr hlocks hz3 hP hL dX9_isDigit_8
abbrev rm_X9_nextToken : Room := { frames := 2, cells := 0, slots := 0, locals := 42 }
theorem hd_X9_nextToken : yX9_nextToken.cls = RX9 ∧ yX9_nextToken.cls ≠ "java/lang/invoke/MethodHandle" ∧ yX9_nextToken.cls ≠ "java/lang/invoke/VarHandle" ∧ (parseMethodDescriptor yX9_nextToken.desc).map (fun d => d.parameters.length) = some 0 := by decide +kernel
def f_X9_nextToken_b149 (N : Nat) (k96 : MdlS → Option (MdlS)) (μ : MdlS) (y0 : Int64) : Option (MdlS) := cx_let ((μ.1, y0)) fun z1 => cx_let ((oI z1.1 14 (z1.1.2 14 + 1), z1.2)) fun z2 => cx_let ((oI z2.1 11 (z2.1.2 11 + 1), z2.2)) fun z3 => k96 z3
set_option maxHeartbeats 4000000 in
set_option maxRecDepth 100000 in
theorem w_X9_nextToken_b149 {p : Program} {l : Launch} {e : Env} {s : State} {m : MethodId} {args : Array Value} {below : List Frame} {meth : Method} {c : Code} {G : va_G} {cA : Nat → ClassId} (C0 : cB p s m args meth c RX9 cX9_nextToken 2 none G cA) {lo : Nat} {ad : Nat → Nat} {P : MdlS → Heap → Prop} (hC : cx G lo 9 ad (ceModel cA ad) P) {N : Nat} {res : MdlS} {k96 : MdlS → Option (MdlS)} (hk96 : ∀ (μ : MdlS) (H : Heap) (locs : List Loc) (ls : Array Slot), k96 μ = some res → P μ H → (∀ q ∈ locs, lo ≤ q.base) → lv_has ls 2 [(0, .ref (ad 0))] → W p l e rm_X9_nextToken s m args below meth c H locs 0 0 (MQ below (cQ none (P res)) args s 0 0 (fun q => lo ≤ q)) (F0 m 96 ls [])) : ∀ (μ : MdlS) (y0 : Int64) (H : Heap) (locs : List Loc) (ls : Array Slot), f_X9_nextToken_b149 N k96 μ y0 = some res → P μ H → (∀ q ∈ locs, lo ≤ q.base) → lv_has ls 2 [(0, .ref (ad 0))] → W p l e rm_X9_nextToken s m args below meth c H locs 0 0 (MQ below (cQ none (P res)) args s 0 0 (fun q => lo ≤ q)) (F0 m 149 ls [.long y0, .ref (ad 0)]) := by
  obtain ⟨⟨hx, hb, hml, hown, hts⟩, hr, hlocks, hK⟩ := id C0
  intro μ y0 H locs ls hf hP hL hl
  unfold f_X9_nextToken_b149 at hf
  obtain ⟨z1, ez1, hf⟩ := cx_letE hf
  refine p_Model_18 hC hP hx hb hts hown hK mw_545 dX9_nextToken_149 hL (fun H locs hP hL => ?_)
  replace hP : P z1 H := by rw [← ez1]; exact hP
  refine lv_aload_n hx hb dX9_nextToken_152 rfl (lv_at hl 0 rfl) ?_
  refine lv_dup hx hb dX9_nextToken_153 rfl ?_
  refine g_Model_14 hC hP hx hb hts hown hK mw_544 dX9_nextToken_154 ?_
  refine lv_iconst (v := 1) hx hb dX9_nextToken_157 (by decide) ?_
  refine lv_iadd hx hb dX9_nextToken_158 ?_
  obtain ⟨z2, ez2, hf⟩ := cx_letE hf
  refine p_Model_14 hC hP hx hb hts hown hK mw_544 dX9_nextToken_159 hL (fun H locs hP hL => ?_)
  replace hP : P z2 H := by rw [← ez2]; exact hP
  refine lv_aload_n hx hb dX9_nextToken_162 rfl (lv_at hl 0 rfl) ?_
  refine lv_dup hx hb dX9_nextToken_163 rfl ?_
  refine g_Model_11 hC hP hx hb hts hown hK mw_536 dX9_nextToken_164 ?_
  refine lv_iconst (v := 1) hx hb dX9_nextToken_167 (by decide) ?_
  refine lv_iadd hx hb dX9_nextToken_168 ?_
  obtain ⟨z3, ez3, hf⟩ := cx_letE hf
  refine p_Model_11 hC hP hx hb hts hown hK mw_536 dX9_nextToken_169 hL (fun H locs hP hL => ?_)
  replace hP : P z3 H := by rw [← ez3]; exact hP
  refine lv_goto (tgt := 96) hx hb dX9_nextToken_172 (by decide) ?_
  exact hk96 z3 _ _ _ hf hP hL (lv_sub hl [0] rfl)
def f_X9_nextToken_b96 (N : Nat) : Nat → MdlS → Option (MdlS)
  | 0, _ => none
  | n + 1, μ => (f_X9_byteAt μ (μ.1.2 11)).bind fun r1 => (f_X9_isLetter r1).bind fun r3 => if r3 = 0 then some μ else if 11 ≤ μ.1.2 14 then f_X9_nextToken_b149 N (f_X9_nextToken_b96 N n) μ μ.2 else (f_X9_byteAt μ (μ.1.2 11)).bind fun r7 => f_X9_nextToken_b149 N (f_X9_nextToken_b96 N n) μ (((27 * μ.2) + (Int32.toInt64 r7)) - 96)
set_option maxHeartbeats 4000000 in
set_option maxRecDepth 100000 in
theorem w_X9_nextToken_b96 {p : Program} {l : Launch} {e : Env} {s : State} {m : MethodId} {args : Array Value} {below : List Frame} {meth : Method} {c : Code} {G : va_G} {cA : Nat → ClassId} (C0 : cB p s m args meth c RX9 cX9_nextToken 2 none G cA) {lo : Nat} {ad : Nat → Nat} {P : MdlS → Heap → Prop} (hC : cx G lo 9 ad (ceModel cA ad) P) {N : Nat} {res : MdlS} : ∀ (n : Nat) (μ : MdlS) (H : Heap) (locs : List Loc) (ls : Array Slot), f_X9_nextToken_b96 N n μ = some res → P μ H → (∀ q ∈ locs, lo ≤ q.base) → lv_has ls 2 [(0, .ref (ad 0))] → W p l e rm_X9_nextToken s m args below meth c H locs 0 0 (MQ below (cQ none (P res)) args s 0 0 (fun q => lo ≤ q)) (F0 m 96 ls []) := by
  obtain ⟨⟨hx, hb, hml, hown, hts⟩, hr, hlocks, hK⟩ := id C0
  intro n
  induction n with
  | zero => intro μ H locs ls
            exact fun hf => nomatch hf
  | succ n ih =>
    intro μ H locs ls hf hP hL hl
    rw [f_X9_nextToken_b96] at hf
    refine lv_aload_n hx hb dX9_nextToken_96 rfl (lv_at hl 0 rfl) ?_
    refine lv_aload_n hx hb dX9_nextToken_97 rfl (lv_at hl 0 rfl) ?_
    refine g_Model_11 hC hP hx hb hts hown hK mw_536 dX9_nextToken_98 ?_
    obtain ⟨r1, q2, hf⟩ := cx_b hf
    refine cx_callV (As := [.int (μ.1.2 11)]) (rest := []) ⟨hx, hb, hml, hown, hts⟩ (c_X9_byteAt hC q2) (cwV 1 hts (gV mw_550 mw_551 mw_552 mw_5 mw_553) rfl rfl rfl hd_X9_byteAt ⟨Nat.le_of_ble_eq_true rfl, Nat.le_of_ble_eq_true rfl⟩) hK hP rfl (at_Model hC hP) rfl hl.1 rfl (Nat.le_of_ble_eq_true rfl) dX9_nextToken_101 ⟨Nat.zero_le _, Nat.zero_le _⟩ hL (fun H locs hP hL => ?_)
    replace hP : P μ H := by first | exact hP | (simpa only [va_up_id] using hP)
    obtain ⟨r3, q4, hf⟩ := cx_b hf
    refine cx_callS (As := [.int r1]) (rest := []) ⟨hx, hb, hml, hown, hts⟩ (c_X9_isLetter (PH := P μ) q4) (cwS 1 hts (gS mw_554 mw_555 mw_5 mw_556) rfl rfl rfl hd_X9_isLetter ⟨Nat.le_of_ble_eq_true rfl, Nat.le_of_ble_eq_true rfl⟩) hK hP rfl hl.1 rfl (Nat.le_of_ble_eq_true rfl) dX9_nextToken_104 ⟨Nat.zero_le _, Nat.zero_le _⟩ hL (fun H locs hP hL => ?_)
    refine lv_if_eq (tgt := 278) hx hb dX9_nextToken_107 (by decide) (fun c5 => ?_) (fun c5 => ?_)
    · have hf := cx_t hf c5
      cases hf
      exact cx_vret hx hb hr hlocks hP hL dX9_nextToken_278
    · have hf := cx_f hf c5
      refine lv_aload_n hx hb dX9_nextToken_110 rfl (lv_at hl 0 rfl) ?_
      refine lv_aload_n hx hb dX9_nextToken_111 rfl (lv_at hl 0 rfl) ?_
      refine g_Model_14 hC hP hx hb hts hown hK mw_544 dX9_nextToken_112 ?_
      refine lv_bipush (v := 11) hx hb dX9_nextToken_115 (by decide) ?_
      refine lv_icmp_ge (tgt := 145) hx hb dX9_nextToken_117 (by decide) (fun c6 => ?_) (fun c6 => ?_)
      · have hf := cx_t hf c6
        refine lv_aload_n hx hb dX9_nextToken_145 rfl (lv_at hl 0 rfl) ?_
        refine g_Model_18 hC hP hx hb hts hown hK mw_545 dX9_nextToken_146 ?_
        exact w_X9_nextToken_b149 C0 hC ih μ μ.2 _ _ _ hf hP hL (lv_sub hl [0] rfl)
      · have hf := cx_f hf c6
        refine lv_ldc2 (v := 27) hx hb hown (hts _ mw_547) dX9_nextToken_120 ?_
        refine lv_aload_n hx hb dX9_nextToken_123 rfl (lv_at hl 0 rfl) ?_
        refine g_Model_18 hC hP hx hb hts hown hK mw_545 dX9_nextToken_124 ?_
        refine lv_lmul hx hb dX9_nextToken_127 ?_
        refine lv_aload_n hx hb dX9_nextToken_128 rfl (lv_at hl 0 rfl) ?_
        refine lv_aload_n hx hb dX9_nextToken_129 rfl (lv_at hl 0 rfl) ?_
        refine g_Model_11 hC hP hx hb hts hown hK mw_536 dX9_nextToken_130 ?_
        obtain ⟨r7, q8, hf⟩ := cx_b hf
        refine cx_callV (As := [.int (μ.1.2 11)]) (rest := [.long (27 * μ.2), .ref (ad 0)]) ⟨hx, hb, hml, hown, hts⟩ (c_X9_byteAt hC q8) (cwV 1 hts (gV mw_550 mw_551 mw_552 mw_5 mw_553) rfl rfl rfl hd_X9_byteAt ⟨Nat.le_of_ble_eq_true rfl, Nat.le_of_ble_eq_true rfl⟩) hK hP rfl (at_Model hC hP) rfl hl.1 rfl (Nat.le_of_ble_eq_true rfl) dX9_nextToken_133 ⟨Nat.zero_le _, Nat.zero_le _⟩ hL (fun H locs hP hL => ?_)
        replace hP : P μ H := by first | exact hP | (simpa only [va_up_id] using hP)
        refine lv_i2l (v := (Int32.toInt64 r7)) hx hb dX9_nextToken_136 rfl ?_
        refine lv_ladd hx hb dX9_nextToken_137 ?_
        refine lv_ldc2 (v := 96) hx hb hown (hts _ mw_548) dX9_nextToken_138 ?_
        refine lv_lsub hx hb dX9_nextToken_141 ?_
        refine lv_goto (tgt := 149) hx hb dX9_nextToken_142 (by decide) ?_
        exact w_X9_nextToken_b149 C0 hC ih μ (((27 * μ.2) + (Int32.toInt64 r7)) - 96) _ _ _ hf hP hL (lv_sub hl [0] rfl)
def f_X9_nextToken_b187 (N : Nat) : Nat → MdlS → Option (MdlS)
  | 0, _ => none
  | n + 1, μ => (f_X9_byteAt μ (μ.1.2 11)).bind fun r1 => (f_X9_isDigit r1).bind fun r3 => if r3 = 0 then some μ else if μ.1.2 15 ≤ 10000000 then (f_X9_byteAt μ (μ.1.2 11)).bind fun r7 => cx_let ((oI μ.1 15 (((10 * μ.1.2 15) + r7) - 48), μ.2)) fun z9 => cx_let ((oI z9.1 11 (z9.1.2 11 + 1), z9.2)) fun z10 => f_X9_nextToken_b187 N n z10 else cx_let ((oI μ.1 15 (μ.1.2 15), μ.2)) fun z11 => cx_let ((oI z11.1 11 (z11.1.2 11 + 1), z11.2)) fun z12 => f_X9_nextToken_b187 N n z12
set_option maxHeartbeats 4000000 in
set_option maxRecDepth 100000 in
theorem w_X9_nextToken_b187 {p : Program} {l : Launch} {e : Env} {s : State} {m : MethodId} {args : Array Value} {below : List Frame} {meth : Method} {c : Code} {G : va_G} {cA : Nat → ClassId} (C0 : cB p s m args meth c RX9 cX9_nextToken 2 none G cA) {lo : Nat} {ad : Nat → Nat} {P : MdlS → Heap → Prop} (hC : cx G lo 9 ad (ceModel cA ad) P) {N : Nat} {res : MdlS} : ∀ (n : Nat) (μ : MdlS) (H : Heap) (locs : List Loc) (ls : Array Slot), f_X9_nextToken_b187 N n μ = some res → P μ H → (∀ q ∈ locs, lo ≤ q.base) → lv_has ls 2 [(0, .ref (ad 0))] → W p l e rm_X9_nextToken s m args below meth c H locs 0 0 (MQ below (cQ none (P res)) args s 0 0 (fun q => lo ≤ q)) (F0 m 187 ls []) := by
  obtain ⟨⟨hx, hb, hml, hown, hts⟩, hr, hlocks, hK⟩ := id C0
  intro n
  induction n with
  | zero => intro μ H locs ls
            exact fun hf => nomatch hf
  | succ n ih =>
    intro μ H locs ls hf hP hL hl
    rw [f_X9_nextToken_b187] at hf
    refine lv_aload_n hx hb dX9_nextToken_187 rfl (lv_at hl 0 rfl) ?_
    refine lv_aload_n hx hb dX9_nextToken_188 rfl (lv_at hl 0 rfl) ?_
    refine g_Model_11 hC hP hx hb hts hown hK mw_536 dX9_nextToken_189 ?_
    obtain ⟨r1, q2, hf⟩ := cx_b hf
    refine cx_callV (As := [.int (μ.1.2 11)]) (rest := []) ⟨hx, hb, hml, hown, hts⟩ (c_X9_byteAt hC q2) (cwV 1 hts (gV mw_550 mw_551 mw_552 mw_5 mw_553) rfl rfl rfl hd_X9_byteAt ⟨Nat.le_of_ble_eq_true rfl, Nat.le_of_ble_eq_true rfl⟩) hK hP rfl (at_Model hC hP) rfl hl.1 rfl (Nat.le_of_ble_eq_true rfl) dX9_nextToken_192 ⟨Nat.zero_le _, Nat.zero_le _⟩ hL (fun H locs hP hL => ?_)
    replace hP : P μ H := by first | exact hP | (simpa only [va_up_id] using hP)
    obtain ⟨r3, q4, hf⟩ := cx_b hf
    refine cx_callS (As := [.int r1]) (rest := []) ⟨hx, hb, hml, hown, hts⟩ (c_X9_isDigit (PH := P μ) q4) (cwS 1 hts (gS mw_557 mw_558 mw_5 mw_559) rfl rfl rfl hd_X9_isDigit ⟨Nat.le_of_ble_eq_true rfl, Nat.le_of_ble_eq_true rfl⟩) hK hP rfl hl.1 rfl (Nat.le_of_ble_eq_true rfl) dX9_nextToken_195 ⟨Nat.zero_le _, Nat.zero_le _⟩ hL (fun H locs hP hL => ?_)
    refine lv_if_eq (tgt := 278) hx hb dX9_nextToken_198 (by decide) (fun c5 => ?_) (fun c5 => ?_)
    · have hf := cx_t hf c5
      cases hf
      exact cx_vret hx hb hr hlocks hP hL dX9_nextToken_278
    · have hf := cx_f hf c5
      refine lv_aload_n hx hb dX9_nextToken_201 rfl (lv_at hl 0 rfl) ?_
      refine lv_aload_n hx hb dX9_nextToken_202 rfl (lv_at hl 0 rfl) ?_
      refine g_Model_15 hC hP hx hb hts hown hK mw_546 dX9_nextToken_203 ?_
      refine lv_ldc (v := 10000000) hx hb hown (hts _ mw_549) dX9_nextToken_206 ?_
      refine lv_icmp_le (tgt := 218) hx hb dX9_nextToken_208 (by decide) (fun c6 => ?_) (fun c6 => ?_)
      · have hf := cx_t hf c6
        refine lv_bipush (v := 10) hx hb dX9_nextToken_218 (by decide) ?_
        refine lv_aload_n hx hb dX9_nextToken_220 rfl (lv_at hl 0 rfl) ?_
        refine g_Model_15 hC hP hx hb hts hown hK mw_546 dX9_nextToken_221 ?_
        refine lv_imul hx hb dX9_nextToken_224 ?_
        refine lv_aload_n hx hb dX9_nextToken_225 rfl (lv_at hl 0 rfl) ?_
        refine lv_aload_n hx hb dX9_nextToken_226 rfl (lv_at hl 0 rfl) ?_
        refine g_Model_11 hC hP hx hb hts hown hK mw_536 dX9_nextToken_227 ?_
        obtain ⟨r7, q8, hf⟩ := cx_b hf
        refine cx_callV (As := [.int (μ.1.2 11)]) (rest := [.int (10 * μ.1.2 15), .ref (ad 0)]) ⟨hx, hb, hml, hown, hts⟩ (c_X9_byteAt hC q8) (cwV 1 hts (gV mw_550 mw_551 mw_552 mw_5 mw_553) rfl rfl rfl hd_X9_byteAt ⟨Nat.le_of_ble_eq_true rfl, Nat.le_of_ble_eq_true rfl⟩) hK hP rfl (at_Model hC hP) rfl hl.1 rfl (Nat.le_of_ble_eq_true rfl) dX9_nextToken_230 ⟨Nat.zero_le _, Nat.zero_le _⟩ hL (fun H locs hP hL => ?_)
        replace hP : P μ H := by first | exact hP | (simpa only [va_up_id] using hP)
        refine lv_iadd hx hb dX9_nextToken_233 ?_
        refine lv_bipush (v := 48) hx hb dX9_nextToken_234 (by decide) ?_
        refine lv_isub hx hb dX9_nextToken_236 ?_
        obtain ⟨z9, ez9, hf⟩ := cx_letE hf
        refine p_Model_15 hC hP hx hb hts hown hK mw_546 dX9_nextToken_237 hL (fun H locs hP hL => ?_)
        replace hP : P z9 H := by rw [← ez9]; exact hP
        refine lv_aload_n hx hb dX9_nextToken_240 rfl (lv_at hl 0 rfl) ?_
        refine lv_dup hx hb dX9_nextToken_241 rfl ?_
        refine g_Model_11 hC hP hx hb hts hown hK mw_536 dX9_nextToken_242 ?_
        refine lv_iconst (v := 1) hx hb dX9_nextToken_245 (by decide) ?_
        refine lv_iadd hx hb dX9_nextToken_246 ?_
        obtain ⟨z10, ez10, hf⟩ := cx_letE hf
        refine p_Model_11 hC hP hx hb hts hown hK mw_536 dX9_nextToken_247 hL (fun H locs hP hL => ?_)
        replace hP : P z10 H := by rw [← ez10]; exact hP
        refine lv_goto (tgt := 187) hx hb dX9_nextToken_250 (by decide) ?_
        exact ih z10 _ _ _ hf hP hL (lv_sub hl [0] rfl)
      · have hf := cx_f hf c6
        refine lv_aload_n hx hb dX9_nextToken_211 rfl (lv_at hl 0 rfl) ?_
        refine g_Model_15 hC hP hx hb hts hown hK mw_546 dX9_nextToken_212 ?_
        refine lv_goto (tgt := 237) hx hb dX9_nextToken_215 (by decide) ?_
        obtain ⟨z11, ez11, hf⟩ := cx_letE hf
        refine p_Model_15 hC hP hx hb hts hown hK mw_546 dX9_nextToken_237 hL (fun H locs hP hL => ?_)
        replace hP : P z11 H := by rw [← ez11]; exact hP
        refine lv_aload_n hx hb dX9_nextToken_240 rfl (lv_at hl 0 rfl) ?_
        refine lv_dup hx hb dX9_nextToken_241 rfl ?_
        refine g_Model_11 hC hP hx hb hts hown hK mw_536 dX9_nextToken_242 ?_
        refine lv_iconst (v := 1) hx hb dX9_nextToken_245 (by decide) ?_
        refine lv_iadd hx hb dX9_nextToken_246 ?_
        obtain ⟨z12, ez12, hf⟩ := cx_letE hf
        refine p_Model_11 hC hP hx hb hts hown hK mw_536 dX9_nextToken_247 hL (fun H locs hP hL => ?_)
        replace hP : P z12 H := by rw [← ez12]; exact hP
        refine lv_goto (tgt := 187) hx hb dX9_nextToken_250 (by decide) ?_
        exact ih z12 _ _ _ hf hP hL (lv_sub hl [0] rfl)
def f_X9_nextToken_b0 (N : Nat) : Nat → MdlS → Option (MdlS)
  | 0, _ => none
  | n + 1, μ => (f_X9_byteAt μ (μ.1.2 11)).bind fun r1 => if r1 = 32 then cx_let ((oI μ.1 11 (μ.1.2 11 + 1), μ.2)) fun z4 => f_X9_nextToken_b0 N n z4 else (f_X9_byteAt μ (μ.1.2 11)).bind fun r5 => if r5 = 10 then cx_let ((oI μ.1 11 (μ.1.2 11 + 1), μ.2)) fun z29 => f_X9_nextToken_b0 N n z29 else cx_let ((oI μ.1 12 (μ.1.2 11), μ.2)) fun z8 => cx_let ((oI z8.1 14 0, z8.2)) fun z9 => cx_let ((z9.1, 0)) fun z10 => cx_let ((oI z10.1 15 0, z10.2)) fun z11 => (f_X9_byteAt z11 (z11.1.2 11)).bind fun r12 => if r12 = (-1) then cx_let ((oI z11.1 13 0, z11.2)) fun z28 => some z28 else (f_X9_isLetter r12).bind fun r15 => if r15 = 0 then (f_X9_isDigit r12).bind fun r18 => if r18 = 0 then if r12 = 59 then cx_let ((oI z11.1 13 4, z11.2)) fun z24 => cx_let ((oI z24.1 11 (z24.1.2 11 + 1), z24.2)) fun z25 => some z25 else cx_let ((oI z11.1 13 1, z11.2)) fun z22 => cx_let ((oI z22.1 11 (z22.1.2 11 + 1), z22.2)) fun z23 => some z23 else cx_let ((oI z11.1 13 3, z11.2)) fun z26 => f_X9_nextToken_b187 N N z26 else cx_let ((oI z11.1 13 2, z11.2)) fun z27 => f_X9_nextToken_b96 N N z27
set_option maxHeartbeats 4000000 in
set_option maxRecDepth 100000 in
theorem w_X9_nextToken_b0 {p : Program} {l : Launch} {e : Env} {s : State} {m : MethodId} {args : Array Value} {below : List Frame} {meth : Method} {c : Code} {G : va_G} {cA : Nat → ClassId} (C0 : cB p s m args meth c RX9 cX9_nextToken 2 none G cA) {lo : Nat} {ad : Nat → Nat} {P : MdlS → Heap → Prop} (hC : cx G lo 9 ad (ceModel cA ad) P) {N : Nat} {res : MdlS} : ∀ (n : Nat) (μ : MdlS) (H : Heap) (locs : List Loc) (ls : Array Slot), f_X9_nextToken_b0 N n μ = some res → P μ H → (∀ q ∈ locs, lo ≤ q.base) → lv_has ls 2 [(0, .ref (ad 0))] → W p l e rm_X9_nextToken s m args below meth c H locs 0 0 (MQ below (cQ none (P res)) args s 0 0 (fun q => lo ≤ q)) (F0 m 0 ls []) := by
  obtain ⟨⟨hx, hb, hml, hown, hts⟩, hr, hlocks, hK⟩ := id C0
  intro n
  induction n with
  | zero => intro μ H locs ls
            exact fun hf => nomatch hf
  | succ n ih =>
    intro μ H locs ls hf hP hL hl
    rw [f_X9_nextToken_b0] at hf
    refine lv_aload_n hx hb dX9_nextToken_0 rfl (lv_at hl 0 rfl) ?_
    refine lv_aload_n hx hb dX9_nextToken_1 rfl (lv_at hl 0 rfl) ?_
    refine g_Model_11 hC hP hx hb hts hown hK mw_536 dX9_nextToken_2 ?_
    obtain ⟨r1, q2, hf⟩ := cx_b hf
    refine cx_callV (As := [.int (μ.1.2 11)]) (rest := []) ⟨hx, hb, hml, hown, hts⟩ (c_X9_byteAt hC q2) (cwV 1 hts (gV mw_550 mw_551 mw_552 mw_5 mw_553) rfl rfl rfl hd_X9_byteAt ⟨Nat.le_of_ble_eq_true rfl, Nat.le_of_ble_eq_true rfl⟩) hK hP rfl (at_Model hC hP) rfl hl.1 rfl (Nat.le_of_ble_eq_true rfl) dX9_nextToken_5 ⟨Nat.zero_le _, Nat.zero_le _⟩ hL (fun H locs hP hL => ?_)
    replace hP : P μ H := by first | exact hP | (simpa only [va_up_id] using hP)
    refine lv_bipush (v := 32) hx hb dX9_nextToken_8 (by decide) ?_
    refine lv_icmp_eq (tgt := 26) hx hb dX9_nextToken_10 (by decide) (fun c3 => ?_) (fun c3 => ?_)
    · have hf := cx_t hf c3
      refine lv_aload_n hx hb dX9_nextToken_26 rfl (lv_at hl 0 rfl) ?_
      refine lv_dup hx hb dX9_nextToken_27 rfl ?_
      refine g_Model_11 hC hP hx hb hts hown hK mw_536 dX9_nextToken_28 ?_
      refine lv_iconst (v := 1) hx hb dX9_nextToken_31 (by decide) ?_
      refine lv_iadd hx hb dX9_nextToken_32 ?_
      obtain ⟨z4, ez4, hf⟩ := cx_letE hf
      refine p_Model_11 hC hP hx hb hts hown hK mw_536 dX9_nextToken_33 hL (fun H locs hP hL => ?_)
      replace hP : P z4 H := by rw [← ez4]; exact hP
      refine lv_goto (tgt := 0) hx hb dX9_nextToken_36 (by decide) ?_
      exact ih z4 _ _ _ hf hP hL (lv_sub hl [0] rfl)
    · have hf := cx_f hf c3
      refine lv_aload_n hx hb dX9_nextToken_13 rfl (lv_at hl 0 rfl) ?_
      refine lv_aload_n hx hb dX9_nextToken_14 rfl (lv_at hl 0 rfl) ?_
      refine g_Model_11 hC hP hx hb hts hown hK mw_536 dX9_nextToken_15 ?_
      obtain ⟨r5, q6, hf⟩ := cx_b hf
      refine cx_callV (As := [.int (μ.1.2 11)]) (rest := []) ⟨hx, hb, hml, hown, hts⟩ (c_X9_byteAt hC q6) (cwV 1 hts (gV mw_550 mw_551 mw_552 mw_5 mw_553) rfl rfl rfl hd_X9_byteAt ⟨Nat.le_of_ble_eq_true rfl, Nat.le_of_ble_eq_true rfl⟩) hK hP rfl (at_Model hC hP) rfl hl.1 rfl (Nat.le_of_ble_eq_true rfl) dX9_nextToken_18 ⟨Nat.zero_le _, Nat.zero_le _⟩ hL (fun H locs hP hL => ?_)
      replace hP : P μ H := by first | exact hP | (simpa only [va_up_id] using hP)
      refine lv_bipush (v := 10) hx hb dX9_nextToken_21 (by decide) ?_
      refine lv_icmp_ne (tgt := 39) hx hb dX9_nextToken_23 (by decide) (fun c7 => ?_) (fun c7 => ?_)
      · have hf := cx_f hf c7
        refine lv_aload_n hx hb dX9_nextToken_39 rfl (lv_at hl 0 rfl) ?_
        refine lv_aload_n hx hb dX9_nextToken_40 rfl (lv_at hl 0 rfl) ?_
        refine g_Model_11 hC hP hx hb hts hown hK mw_536 dX9_nextToken_41 ?_
        obtain ⟨z8, ez8, hf⟩ := cx_letE hf
        refine p_Model_12 hC hP hx hb hts hown hK mw_543 dX9_nextToken_44 hL (fun H locs hP hL => ?_)
        replace hP : P z8 H := by rw [← ez8]; exact hP
        refine lv_aload_n hx hb dX9_nextToken_47 rfl (lv_at hl 0 rfl) ?_
        refine lv_iconst (v := 0) hx hb dX9_nextToken_48 (by decide) ?_
        obtain ⟨z9, ez9, hf⟩ := cx_letE hf
        refine p_Model_14 hC hP hx hb hts hown hK mw_544 dX9_nextToken_49 hL (fun H locs hP hL => ?_)
        replace hP : P z9 H := by rw [← ez9]; exact hP
        refine lv_aload_n hx hb dX9_nextToken_52 rfl (lv_at hl 0 rfl) ?_
        refine lv_lconst (v := 0) hx hb dX9_nextToken_53 (by decide) ?_
        obtain ⟨z10, ez10, hf⟩ := cx_letE hf
        refine p_Model_18 hC hP hx hb hts hown hK mw_545 dX9_nextToken_54 hL (fun H locs hP hL => ?_)
        replace hP : P z10 H := by rw [← ez10]; exact hP
        refine lv_aload_n hx hb dX9_nextToken_57 rfl (lv_at hl 0 rfl) ?_
        refine lv_iconst (v := 0) hx hb dX9_nextToken_58 (by decide) ?_
        obtain ⟨z11, ez11, hf⟩ := cx_letE hf
        refine p_Model_15 hC hP hx hb hts hown hK mw_546 dX9_nextToken_59 hL (fun H locs hP hL => ?_)
        replace hP : P z11 H := by rw [← ez11]; exact hP
        refine lv_aload_n hx hb dX9_nextToken_62 rfl (lv_at hl 0 rfl) ?_
        refine lv_aload_n hx hb dX9_nextToken_63 rfl (lv_at hl 0 rfl) ?_
        refine g_Model_11 hC hP hx hb hts hown hK mw_536 dX9_nextToken_64 ?_
        obtain ⟨r12, q13, hf⟩ := cx_b hf
        refine cx_callV (As := [.int (z11.1.2 11)]) (rest := []) ⟨hx, hb, hml, hown, hts⟩ (c_X9_byteAt hC q13) (cwV 1 hts (gV mw_550 mw_551 mw_552 mw_5 mw_553) rfl rfl rfl hd_X9_byteAt ⟨Nat.le_of_ble_eq_true rfl, Nat.le_of_ble_eq_true rfl⟩) hK hP rfl (at_Model hC hP) rfl hl.1 rfl (Nat.le_of_ble_eq_true rfl) dX9_nextToken_67 ⟨Nat.zero_le _, Nat.zero_le _⟩ hL (fun H locs hP hL => ?_)
        replace hP : P z11 H := by first | exact hP | (simpa only [va_up_id] using hP)
        refine lv_istore_n (lv' := [(1, .int r12), (0, .ref (ad 0))]) hx hb dX9_nextToken_70 rfl hl (by decide) rfl (fun ls hl => ?_)
        refine lv_iload_n hx hb dX9_nextToken_71 rfl (lv_at hl 0 rfl) ?_
        refine lv_iconst (v := (-1)) hx hb dX9_nextToken_72 (by decide) ?_
        refine lv_icmp_ne (tgt := 84) hx hb dX9_nextToken_73 (by decide) (fun c14 => ?_) (fun c14 => ?_)
        · have hf := cx_f hf c14
          refine lv_iload_n hx hb dX9_nextToken_84 rfl (lv_at hl 0 rfl) ?_
          obtain ⟨r15, q16, hf⟩ := cx_b hf
          refine cx_callS (As := [.int r12]) (rest := []) ⟨hx, hb, hml, hown, hts⟩ (c_X9_isLetter (PH := P z11) q16) (cwS 1 hts (gS mw_554 mw_555 mw_5 mw_556) rfl rfl rfl hd_X9_isLetter ⟨Nat.le_of_ble_eq_true rfl, Nat.le_of_ble_eq_true rfl⟩) hK hP rfl hl.1 rfl (Nat.le_of_ble_eq_true rfl) dX9_nextToken_85 ⟨Nat.zero_le _, Nat.zero_le _⟩ hL (fun H locs hP hL => ?_)
          refine lv_if_eq (tgt := 175) hx hb dX9_nextToken_88 (by decide) (fun c17 => ?_) (fun c17 => ?_)
          · have hf := cx_t hf c17
            refine lv_iload_n hx hb dX9_nextToken_175 rfl (lv_at hl 0 rfl) ?_
            obtain ⟨r18, q19, hf⟩ := cx_b hf
            refine cx_callS (As := [.int r12]) (rest := []) ⟨hx, hb, hml, hown, hts⟩ (c_X9_isDigit (PH := P z11) q19) (cwS 1 hts (gS mw_557 mw_558 mw_5 mw_559) rfl rfl rfl hd_X9_isDigit ⟨Nat.le_of_ble_eq_true rfl, Nat.le_of_ble_eq_true rfl⟩) hK hP rfl hl.1 rfl (Nat.le_of_ble_eq_true rfl) dX9_nextToken_176 ⟨Nat.zero_le _, Nat.zero_le _⟩ hL (fun H locs hP hL => ?_)
            refine lv_if_eq (tgt := 253) hx hb dX9_nextToken_179 (by decide) (fun c20 => ?_) (fun c20 => ?_)
            · have hf := cx_t hf c20
              refine lv_aload_n hx hb dX9_nextToken_253 rfl (lv_at hl 1 rfl) ?_
              refine lv_iload_n hx hb dX9_nextToken_254 rfl (lv_at hl 0 rfl) ?_
              refine lv_bipush (v := 59) hx hb dX9_nextToken_255 (by decide) ?_
              refine lv_icmp_ne (tgt := 264) hx hb dX9_nextToken_257 (by decide) (fun c21 => ?_) (fun c21 => ?_)
              · have hf := cx_f hf c21
                refine lv_iconst (v := 1) hx hb dX9_nextToken_264 (by decide) ?_
                obtain ⟨z22, ez22, hf⟩ := cx_letE hf
                refine p_Model_13 hC hP hx hb hts hown hK mw_538 dX9_nextToken_265 hL (fun H locs hP hL => ?_)
                replace hP : P z22 H := by rw [← ez22]; exact hP
                refine lv_aload_n hx hb dX9_nextToken_268 rfl (lv_at hl 1 rfl) ?_
                refine lv_dup hx hb dX9_nextToken_269 rfl ?_
                refine g_Model_11 hC hP hx hb hts hown hK mw_536 dX9_nextToken_270 ?_
                refine lv_iconst (v := 1) hx hb dX9_nextToken_273 (by decide) ?_
                refine lv_iadd hx hb dX9_nextToken_274 ?_
                obtain ⟨z23, ez23, hf⟩ := cx_letE hf
                refine p_Model_11 hC hP hx hb hts hown hK mw_536 dX9_nextToken_275 hL (fun H locs hP hL => ?_)
                replace hP : P z23 H := by rw [← ez23]; exact hP
                cases hf
                exact cx_vret hx hb hr hlocks hP hL dX9_nextToken_278
              · have hf := cx_t hf c21
                refine lv_iconst (v := 4) hx hb dX9_nextToken_260 (by decide) ?_
                refine lv_goto (tgt := 265) hx hb dX9_nextToken_261 (by decide) ?_
                obtain ⟨z24, ez24, hf⟩ := cx_letE hf
                refine p_Model_13 hC hP hx hb hts hown hK mw_538 dX9_nextToken_265 hL (fun H locs hP hL => ?_)
                replace hP : P z24 H := by rw [← ez24]; exact hP
                refine lv_aload_n hx hb dX9_nextToken_268 rfl (lv_at hl 1 rfl) ?_
                refine lv_dup hx hb dX9_nextToken_269 rfl ?_
                refine g_Model_11 hC hP hx hb hts hown hK mw_536 dX9_nextToken_270 ?_
                refine lv_iconst (v := 1) hx hb dX9_nextToken_273 (by decide) ?_
                refine lv_iadd hx hb dX9_nextToken_274 ?_
                obtain ⟨z25, ez25, hf⟩ := cx_letE hf
                refine p_Model_11 hC hP hx hb hts hown hK mw_536 dX9_nextToken_275 hL (fun H locs hP hL => ?_)
                replace hP : P z25 H := by rw [← ez25]; exact hP
                cases hf
                exact cx_vret hx hb hr hlocks hP hL dX9_nextToken_278
            · have hf := cx_f hf c20
              refine lv_aload_n hx hb dX9_nextToken_182 rfl (lv_at hl 1 rfl) ?_
              refine lv_iconst (v := 3) hx hb dX9_nextToken_183 (by decide) ?_
              obtain ⟨z26, ez26, hf⟩ := cx_letE hf
              refine p_Model_13 hC hP hx hb hts hown hK mw_538 dX9_nextToken_184 hL (fun H locs hP hL => ?_)
              replace hP : P z26 H := by rw [← ez26]; exact hP
              exact w_X9_nextToken_b187 C0 hC N z26 _ _ _ hf hP hL (lv_sub hl [1] rfl)
          · have hf := cx_f hf c17
            refine lv_aload_n hx hb dX9_nextToken_91 rfl (lv_at hl 1 rfl) ?_
            refine lv_iconst (v := 2) hx hb dX9_nextToken_92 (by decide) ?_
            obtain ⟨z27, ez27, hf⟩ := cx_letE hf
            refine p_Model_13 hC hP hx hb hts hown hK mw_538 dX9_nextToken_93 hL (fun H locs hP hL => ?_)
            replace hP : P z27 H := by rw [← ez27]; exact hP
            exact w_X9_nextToken_b96 C0 hC N z27 _ _ _ hf hP hL (lv_sub hl [1] rfl)
        · have hf := cx_t hf c14
          refine lv_aload_n hx hb dX9_nextToken_76 rfl (lv_at hl 1 rfl) ?_
          refine lv_iconst (v := 0) hx hb dX9_nextToken_77 (by decide) ?_
          obtain ⟨z28, ez28, hf⟩ := cx_letE hf
          refine p_Model_13 hC hP hx hb hts hown hK mw_538 dX9_nextToken_78 hL (fun H locs hP hL => ?_)
          replace hP : P z28 H := by rw [← ez28]; exact hP
          refine lv_goto (tgt := 278) hx hb dX9_nextToken_81 (by decide) ?_
          cases hf
          exact cx_vret hx hb hr hlocks hP hL dX9_nextToken_278
      · have hf := cx_t hf c7
        refine lv_aload_n hx hb dX9_nextToken_26 rfl (lv_at hl 0 rfl) ?_
        refine lv_dup hx hb dX9_nextToken_27 rfl ?_
        refine g_Model_11 hC hP hx hb hts hown hK mw_536 dX9_nextToken_28 ?_
        refine lv_iconst (v := 1) hx hb dX9_nextToken_31 (by decide) ?_
        refine lv_iadd hx hb dX9_nextToken_32 ?_
        obtain ⟨z29, ez29, hf⟩ := cx_letE hf
        refine p_Model_11 hC hP hx hb hts hown hK mw_536 dX9_nextToken_33 hL (fun H locs hP hL => ?_)
        replace hP : P z29 H := by rw [← ez29]; exact hP
        refine lv_goto (tgt := 0) hx hb dX9_nextToken_36 (by decide) ?_
        exact ih z29 _ _ _ hf hP hL (lv_sub hl [0] rfl)
def f_X9_nextToken (N : Nat) (μ : MdlS) : Option (MdlS) := f_X9_nextToken_b0 N N μ
set_option maxHeartbeats 4000000 in
set_option maxRecDepth 100000 in
theorem c_X9_nextToken {l : Launch} {G : va_G} {cA : Nat → ClassId} {lo : Nat} {ad : Nat → Nat} {P : MdlS → Heap → Prop} (hC : cx G lo 9 ad (ceModel cA ad) P) {N : Nat} {μ : MdlS} {res : MdlS} (hf : f_X9_nextToken N μ = some res) : Met l yX9_nextToken (cW yX9_nextToken cX9_nextToken 2 none) rm_X9_nextToken (cP [.ref (ad 0)] (P μ) G cA) (cQ none (P res)) 0 0 (fun q => lo ≤ q) := by
  refine cx_met (by decide) (Nat.le_of_ble_eq_true rfl) (fun p e s m args below meth c ls C0 hP hl => ?_)
  have hl : lv_has ls 2 [(0, .ref (ad 0))] := hl
  obtain ⟨⟨hx, hb, hml, hown, hts⟩, hr, hlocks, hK⟩ := id C0
  have hL : ∀ q ∈ ([] : List Loc), lo ≤ q.base := fun q h => nomatch h
  unfold f_X9_nextToken at hf
  exact w_X9_nextToken_b0 C0 hC N μ _ _ _ hf hP hL (lv_sub hl [0] rfl)
abbrev rm_X9_isWord : Room := { frames := 4, cells := 0, slots := 0, locals := 85 }
theorem hd_X9_isWord : yX9_isWord.cls = RX9 ∧ yX9_isWord.cls ≠ "java/lang/invoke/MethodHandle" ∧ yX9_isWord.cls ≠ "java/lang/invoke/VarHandle" ∧ (parseMethodDescriptor yX9_isWord.desc).map (fun d => d.parameters.length) = some 1 := by decide +kernel
def f_X9_isWord_b26 (N : Nat) : Nat → MdlS → Nat → Int64 → Int32 → Option (Int32)
  | 0, _, _, _, _ => none
  | n + 1, μ, x1, x2, x4 => (f_J0_length_8abf5 x1).bind fun r1 => if r1 ≤ x4 then if μ.2 = x2 then some 1 else some 0 else (f_J0_charAt_5068e x1 x4).bind fun r5 => f_X9_isWord_b26 N n μ x1 (((27 * x2) + (Int32.toInt64 r5)) - 96) (x4 + 1)
set_option maxHeartbeats 4000000 in
set_option maxRecDepth 100000 in
theorem w_X9_isWord_b26 {p : Program} {l : Launch} {e : Env} {s : State} {m : MethodId} {args : Array Value} {below : List Frame} {meth : Method} {c : Code} {G : va_G} {cA : Nat → ClassId} (C0 : cB p s m args meth c RX9 cX9_isWord 5 (some .boolean) G cA) {lo : Nat} {z : ZS} (hZ : Zt lo z s) {ad : Nat → Nat} {P : MdlS → Heap → Prop} (hC : cx G lo 9 ad (ceModel cA ad) P) {N : Nat} {res : Int32} : ∀ (n : Nat) (μ : MdlS) (x1 : Nat) (x2 : Int64) (x4 : Int32) (hx1 : x1 < 8) (H : Heap) (locs : List Loc) (ls : Array Slot), f_X9_isWord_b26 N n μ x1 x2 x4 = some res → P μ H → (∀ q ∈ locs, lo ≤ q.base) → lv_has ls 5 [(0, .ref (ad 0)), (1, .ref (z.1 x1)), (2, .long x2), (4, .int x4)] → W p l e rm_X9_isWord s m args below meth c H locs 0 0 (MQ below (cQ (some (.int res)) (P μ)) args s 0 0 (fun q => lo ≤ q)) (F0 m 26 ls []) := by
  obtain ⟨⟨hx, hb, hml, hown, hts⟩, hr, hlocks, hK⟩ := id C0
  intro n
  induction n with
  | zero => intro μ x1 x2 x4 hx1 H locs ls
            exact fun hf => nomatch hf
  | succ n ih =>
    intro μ x1 x2 x4 hx1 H locs ls hf hP hL hl
    rw [f_X9_isWord_b26] at hf
    refine lv_iload hx hb dX9_isWord_26 (lv_at hl 3 rfl) ?_
    refine lv_aload_n hx hb dX9_isWord_28 rfl (lv_at hl 1 rfl) ?_
    obtain ⟨r1, q2, hf⟩ := cx_b hf
    refine cx_callStr (As := []) (rest := [.int x4]) ⟨hx, hb, hml, hown, hts⟩ (c_J0_length_8abf5 (PH := P μ) hx1 q2) (cwV 0 hts (gV mw_572 mw_218 mw_219 mw_220 mw_221) rfl rfl rfl hd_J0_length_8abf5 ⟨Nat.le_of_ble_eq_true rfl, Nat.le_of_ble_eq_true rfl⟩) hK hZ hx1 hP rfl hl.1 rfl (Nat.le_of_ble_eq_true rfl) dX9_isWord_29 ⟨Nat.zero_le _, Nat.zero_le _⟩ hL (fun H locs hP hL => ?_)
    refine lv_icmp_ge (tgt := 59) hx hb dX9_isWord_32 (by decide) (fun c3 => ?_) (fun c3 => ?_)
    · have hf := cx_t hf c3
      refine lv_aload_n hx hb dX9_isWord_59 rfl (lv_at hl 0 rfl) ?_
      refine g_Model_18 hC hP hx hb hts hown hK mw_545 dX9_isWord_60 ?_
      refine lv_lload_n hx hb dX9_isWord_63 rfl (lv_at hl 2 rfl) ?_
      refine cx_lcne (tgt := 72) hx hb dX9_isWord_64 dX9_isWord_65 (by decide) (fun c4 => ?_) (fun c4 => ?_)
      · have hf := cx_f hf c4
        refine lv_iconst (v := 0) hx hb dX9_isWord_72 (by decide) ?_
        cases hf
        exact cx_zret hx hb hr hlocks (Or.inl rfl) hP hL dX9_isWord_73
      · have hf := cx_t hf c4
        refine lv_iconst (v := 1) hx hb dX9_isWord_68 (by decide) ?_
        refine lv_goto (tgt := 73) hx hb dX9_isWord_69 (by decide) ?_
        cases hf
        exact cx_zret hx hb hr hlocks (Or.inr rfl) hP hL dX9_isWord_73
    · have hf := cx_f hf c3
      refine lv_ldc2 (v := 27) hx hb hown (hts _ mw_547) dX9_isWord_35 ?_
      refine lv_lload_n hx hb dX9_isWord_38 rfl (lv_at hl 2 rfl) ?_
      refine lv_lmul hx hb dX9_isWord_39 ?_
      refine lv_aload_n hx hb dX9_isWord_40 rfl (lv_at hl 1 rfl) ?_
      refine lv_iload hx hb dX9_isWord_41 (lv_at hl 3 rfl) ?_
      obtain ⟨r5, q6, hf⟩ := cx_b hf
      refine cx_callStr (As := [.int x4]) (rest := [.long (27 * x2)]) ⟨hx, hb, hml, hown, hts⟩ (c_J0_charAt_5068e (PH := P μ) hx1 q6) (cwV 1 hts (gV mw_573 mw_230 mw_231 mw_220 mw_232) rfl rfl rfl hd_J0_charAt_5068e ⟨Nat.le_of_ble_eq_true rfl, Nat.le_of_ble_eq_true rfl⟩) hK hZ hx1 hP rfl hl.1 rfl (Nat.le_of_ble_eq_true rfl) dX9_isWord_43 ⟨Nat.zero_le _, Nat.zero_le _⟩ hL (fun H locs hP hL => ?_)
      refine lv_i2l (v := (Int32.toInt64 r5)) hx hb dX9_isWord_46 rfl ?_
      refine lv_ladd hx hb dX9_isWord_47 ?_
      refine lv_ldc2 (v := 96) hx hb hown (hts _ mw_548) dX9_isWord_48 ?_
      refine lv_lsub hx hb dX9_isWord_51 ?_
      refine lv_lstore_n (lv' := [(2, .long (((27 * x2) + (Int32.toInt64 r5)) - 96)), (0, .ref (ad 0)), (1, .ref (z.1 x1)), (4, .int x4)]) hx hb dX9_isWord_52 rfl hl (by decide) rfl (fun ls hl => ?_)
      refine lv_iinc (v := (x4 + 1)) (lv' := [(4, .int (x4 + 1)), (2, .long (((27 * x2) + (Int32.toInt64 r5)) - 96)), (0, .ref (ad 0)), (1, .ref (z.1 x1))]) hx hb dX9_isWord_53 hl (k := 3) rfl rfl (by decide) rfl (fun ls hl => ?_)
      refine lv_goto (tgt := 26) hx hb dX9_isWord_56 (by decide) ?_
      exact ih μ x1 (((27 * x2) + (Int32.toInt64 r5)) - 96) (x4 + 1) hx1 _ _ _ hf hP hL (lv_sub hl [2, 3, 1, 0] rfl)
def f_X9_isWord (N : Nat) (μ : MdlS) (p0 : Nat) : Option (Int32) := if μ.1.2 13 = 2 then (f_J0_length_8abf5 p0).bind fun r2 => if μ.1.2 14 = r2 then f_X9_isWord_b26 N N μ p0 0 0 else some 0 else some 0
set_option maxHeartbeats 4000000 in
set_option maxRecDepth 100000 in
theorem c_X9_isWord {l : Launch} {G : va_G} {cA : Nat → ClassId} {lo : Nat} {z : ZS} {ad : Nat → Nat} {P : MdlS → Heap → Prop} (hC : cx G lo 9 ad (ceModel cA ad) P) {N : Nat} {μ : MdlS} {p0 : Nat} (hp0 : p0 < 8) {res : Int32} (hf : f_X9_isWord N μ p0 = some res) : Met l yX9_isWord (cW yX9_isWord cX9_isWord 5 (some .boolean)) rm_X9_isWord (cPZ lo z [.ref (ad 0), .ref (z.1 p0)] (P μ) G cA) (cQ (some (.int res)) (P μ)) 0 0 (fun q => lo ≤ q) := by
  refine cx_metZ (by decide) (Nat.le_of_ble_eq_true rfl) (fun p e s m args below meth c ls C0 hZ hP hl => ?_)
  have hl : lv_has ls 5 [(0, .ref (ad 0)), (1, .ref (z.1 p0))] := hl
  obtain ⟨⟨hx, hb, hml, hown, hts⟩, hr, hlocks, hK⟩ := id C0
  have hL : ∀ q ∈ ([] : List Loc), lo ≤ q.base := fun q h => nomatch h
  unfold f_X9_isWord at hf
  refine lv_aload_n hx hb dX9_isWord_0 rfl (lv_at hl 0 rfl) ?_
  refine g_Model_13 hC hP hx hb hts hown hK mw_538 dX9_isWord_1 ?_
  refine lv_iconst (v := 2) hx hb dX9_isWord_4 (by decide) ?_
  refine lv_icmp_ne (tgt := 19) hx hb dX9_isWord_5 (by decide) (fun c1 => ?_) (fun c1 => ?_)
  · have hf := cx_f hf c1
    refine lv_iconst (v := 0) hx hb dX9_isWord_19 (by decide) ?_
    cases hf
    exact cx_zret hx hb hr hlocks (Or.inl rfl) hP hL dX9_isWord_20
  · have hf := cx_t hf c1
    refine lv_aload_n hx hb dX9_isWord_8 rfl (lv_at hl 0 rfl) ?_
    refine g_Model_14 hC hP hx hb hts hown hK mw_544 dX9_isWord_9 ?_
    refine lv_aload_n hx hb dX9_isWord_12 rfl (lv_at hl 1 rfl) ?_
    obtain ⟨r2, q3, hf⟩ := cx_b hf
    refine cx_callStr (As := []) (rest := [.int (μ.1.2 14)]) ⟨hx, hb, hml, hown, hts⟩ (c_J0_length_8abf5 (PH := P μ) hp0 q3) (cwV 0 hts (gV mw_572 mw_218 mw_219 mw_220 mw_221) rfl rfl rfl hd_J0_length_8abf5 ⟨Nat.le_of_ble_eq_true rfl, Nat.le_of_ble_eq_true rfl⟩) hK hZ hp0 hP rfl hl.1 rfl (Nat.le_of_ble_eq_true rfl) dX9_isWord_13 ⟨Nat.zero_le _, Nat.zero_le _⟩ hL (fun H locs hP hL => ?_)
    refine lv_icmp_eq (tgt := 21) hx hb dX9_isWord_16 (by decide) (fun c4 => ?_) (fun c4 => ?_)
    · have hf := cx_t hf c4
      refine lv_lconst (v := 0) hx hb dX9_isWord_21 (by decide) ?_
      refine lv_lstore_n (lv' := [(2, .long 0), (0, .ref (ad 0)), (1, .ref (z.1 p0))]) hx hb dX9_isWord_22 rfl hl (by decide) rfl (fun ls hl => ?_)
      refine lv_iconst (v := 0) hx hb dX9_isWord_23 (by decide) ?_
      refine lv_istore (lv' := [(4, .int 0), (2, .long 0), (0, .ref (ad 0)), (1, .ref (z.1 p0))]) hx hb dX9_isWord_24 hl (by decide) rfl (fun ls hl => ?_)
      exact w_X9_isWord_b26 C0 hZ hC N μ p0 0 0 hp0 _ _ _ hf hP hL (lv_sub hl [2, 3, 1, 0] rfl)
    · have hf := cx_f hf c4
      refine lv_iconst (v := 0) hx hb dX9_isWord_19 (by decide) ?_
      cases hf
      exact cx_zret hx hb hr hlocks (Or.inl rfl) hP hL dX9_isWord_20
abbrev rm_X9_require : Room := { frames := 0, cells := 0, slots := 0, locals := 0 }
theorem hd_X9_require : yX9_require.cls = RX9 ∧ yX9_require.cls ≠ "java/lang/invoke/MethodHandle" ∧ yX9_require.cls ≠ "java/lang/invoke/VarHandle" ∧ (parseMethodDescriptor yX9_require.desc).map (fun d => d.parameters.length) = some 2 := by decide +kernel
def f_X9_require (μ : MdlS) (p0 : Int32) (p1 : Int32) : Option (MdlS) := if p0 = 0 then if μ.1.2 16 = 0 then cx_let ((oI μ.1 16 p1, μ.2)) fun z3 => cx_let ((oI z3.1 17 (z3.1.2 12), z3.2)) fun z4 => some z4 else some μ else some μ
set_option maxHeartbeats 4000000 in
set_option maxRecDepth 100000 in
theorem c_X9_require {l : Launch} {G : va_G} {cA : Nat → ClassId} {lo : Nat} {ad : Nat → Nat} {P : MdlS → Heap → Prop} (hC : cx G lo 9 ad (ceModel cA ad) P) {μ : MdlS} {p0 : Int32} {p1 : Int32} {res : MdlS} (hf : f_X9_require μ p0 p1 = some res) : Met l yX9_require (cW yX9_require cX9_require 3 none) rm_X9_require (cP [.ref (ad 0), .int p0, .int p1] (P μ) G cA) (cQ none (P res)) 0 0 (fun q => lo ≤ q) := by
  refine cx_met (by decide) (Nat.le_of_ble_eq_true rfl) (fun p e s m args below meth c ls C0 hP hl => ?_)
  have hl : lv_has ls 3 [(0, .ref (ad 0)), (1, .int p0), (2, .int p1)] := hl
  obtain ⟨⟨hx, hb, hml, hown, hts⟩, hr, hlocks, hK⟩ := id C0
  have hL : ∀ q ∈ ([] : List Loc), lo ≤ q.base := fun q h => nomatch h
  unfold f_X9_require at hf
  refine lv_iload_n hx hb dX9_require_0 rfl (lv_at hl 1 rfl) ?_
  refine lv_if_ne (tgt := 24) hx hb dX9_require_1 (by decide) (fun c1 => ?_) (fun c1 => ?_)
  · have hf := cx_f hf c1
    cases hf
    exact cx_vret hx hb hr hlocks hP hL dX9_require_24
  · have hf := cx_t hf c1
    refine lv_aload_n hx hb dX9_require_4 rfl (lv_at hl 0 rfl) ?_
    refine g_Model_16 hC hP hx hb hts hown hK mw_535 dX9_require_5 ?_
    refine lv_if_ne (tgt := 24) hx hb dX9_require_8 (by decide) (fun c2 => ?_) (fun c2 => ?_)
    · have hf := cx_f hf c2
      cases hf
      exact cx_vret hx hb hr hlocks hP hL dX9_require_24
    · have hf := cx_t hf c2
      refine lv_aload_n hx hb dX9_require_11 rfl (lv_at hl 0 rfl) ?_
      refine lv_iload_n hx hb dX9_require_12 rfl (lv_at hl 2 rfl) ?_
      obtain ⟨z3, ez3, hf⟩ := cx_letE hf
      refine p_Model_16 hC hP hx hb hts hown hK mw_535 dX9_require_13 hL (fun H locs hP hL => ?_)
      replace hP : P z3 H := by rw [← ez3]; exact hP
      refine lv_aload_n hx hb dX9_require_16 rfl (lv_at hl 0 rfl) ?_
      refine lv_aload_n hx hb dX9_require_17 rfl (lv_at hl 0 rfl) ?_
      refine g_Model_12 hC hP hx hb hts hown hK mw_543 dX9_require_18 ?_
      obtain ⟨z4, ez4, hf⟩ := cx_letE hf
      refine p_Model_17 hC hP hx hb hts hown hK mw_122 dX9_require_21 hL (fun H locs hP hL => ?_)
      replace hP : P z4 H := by rw [← ez4]; exact hP
      cases hf
      exact cx_vret hx hb hr hlocks hP hL dX9_require_24
abbrev rm_X9_isFine : Room := { frames := 0, cells := 0, slots := 0, locals := 0 }
theorem hd_X9_isFine : yX9_isFine.cls = RX9 ∧ yX9_isFine.cls ≠ "java/lang/invoke/MethodHandle" ∧ yX9_isFine.cls ≠ "java/lang/invoke/VarHandle" ∧ (parseMethodDescriptor yX9_isFine.desc).map (fun d => d.parameters.length) = some 0 := by decide +kernel
def f_X9_isFine (μ : MdlS) : Option (Int32) := if μ.1.2 16 = 0 then some 1 else some 0
set_option maxHeartbeats 4000000 in
set_option maxRecDepth 100000 in
theorem c_X9_isFine {l : Launch} {G : va_G} {cA : Nat → ClassId} {lo : Nat} {ad : Nat → Nat} {P : MdlS → Heap → Prop} (hC : cx G lo 9 ad (ceModel cA ad) P) {μ : MdlS} {res : Int32} (hf : f_X9_isFine μ = some res) : Met l yX9_isFine (cW yX9_isFine cX9_isFine 1 (some .boolean)) rm_X9_isFine (cP [.ref (ad 0)] (P μ) G cA) (cQ (some (.int res)) (P μ)) 0 0 (fun q => lo ≤ q) := by
  refine cx_met (by decide) (Nat.le_of_ble_eq_true rfl) (fun p e s m args below meth c ls C0 hP hl => ?_)
  have hl : lv_has ls 1 [(0, .ref (ad 0))] := hl
  obtain ⟨⟨hx, hb, hml, hown, hts⟩, hr, hlocks, hK⟩ := id C0
  have hL : ∀ q ∈ ([] : List Loc), lo ≤ q.base := fun q h => nomatch h
  unfold f_X9_isFine at hf
  refine lv_aload_n hx hb dX9_isFine_0 rfl (lv_at hl 0 rfl) ?_
  refine g_Model_16 hC hP hx hb hts hown hK mw_535 dX9_isFine_1 ?_
  refine lv_if_ne (tgt := 11) hx hb dX9_isFine_4 (by decide) (fun c1 => ?_) (fun c1 => ?_)
  · have hf := cx_f hf c1
    refine lv_iconst (v := 0) hx hb dX9_isFine_11 (by decide) ?_
    cases hf
    exact cx_zret hx hb hr hlocks (Or.inl rfl) hP hL dX9_isFine_12
  · have hf := cx_t hf c1
    refine lv_iconst (v := 1) hx hb dX9_isFine_7 (by decide) ?_
    refine lv_goto (tgt := 12) hx hb dX9_isFine_8 (by decide) ?_
    cases hf
    exact cx_zret hx hb hr hlocks (Or.inr rfl) hP hL dX9_isFine_12
abbrev rm_X9_advance : Room := { frames := 3, cells := 0, slots := 0, locals := 63 }
theorem hd_X9_advance : yX9_advance.cls = RX9 ∧ yX9_advance.cls ≠ "java/lang/invoke/MethodHandle" ∧ yX9_advance.cls ≠ "java/lang/invoke/VarHandle" ∧ (parseMethodDescriptor yX9_advance.desc).map (fun d => d.parameters.length) = some 0 := by decide +kernel
def f_X9_advance (N : Nat) (μ : MdlS) : Option (MdlS) := (f_X9_isFine μ).bind fun r1 => if r1 = 0 then some μ else (f_X9_nextToken N μ).bind fun r4 => some r4
set_option maxHeartbeats 4000000 in
set_option maxRecDepth 100000 in
theorem c_X9_advance {l : Launch} {G : va_G} {cA : Nat → ClassId} {lo : Nat} {ad : Nat → Nat} {P : MdlS → Heap → Prop} (hC : cx G lo 9 ad (ceModel cA ad) P) {N : Nat} {μ : MdlS} {res : MdlS} (hf : f_X9_advance N μ = some res) : Met l yX9_advance (cW yX9_advance cX9_advance 1 none) rm_X9_advance (cP [.ref (ad 0)] (P μ) G cA) (cQ none (P res)) 0 0 (fun q => lo ≤ q) := by
  refine cx_met (by decide) (Nat.le_of_ble_eq_true rfl) (fun p e s m args below meth c ls C0 hP hl => ?_)
  have hl : lv_has ls 1 [(0, .ref (ad 0))] := hl
  obtain ⟨⟨hx, hb, hml, hown, hts⟩, hr, hlocks, hK⟩ := id C0
  have hL : ∀ q ∈ ([] : List Loc), lo ≤ q.base := fun q h => nomatch h
  unfold f_X9_advance at hf
  refine lv_aload_n hx hb dX9_advance_0 rfl (lv_at hl 0 rfl) ?_
  obtain ⟨r1, q2, hf⟩ := cx_b hf
  refine cx_callV (As := []) (rest := []) ⟨hx, hb, hml, hown, hts⟩ (c_X9_isFine hC q2) (cwV 0 hts (gV mw_560 mw_561 mw_562 mw_5 mw_563) rfl rfl rfl hd_X9_isFine ⟨Nat.le_of_ble_eq_true rfl, Nat.le_of_ble_eq_true rfl⟩) hK hP rfl (at_Model hC hP) rfl hl.1 rfl (Nat.le_of_ble_eq_true rfl) dX9_advance_1 ⟨Nat.zero_le _, Nat.zero_le _⟩ hL (fun H locs hP hL => ?_)
  replace hP : P μ H := by first | exact hP | (simpa only [va_up_id] using hP)
  refine lv_if_eq (tgt := 11) hx hb dX9_advance_4 (by decide) (fun c3 => ?_) (fun c3 => ?_)
  · have hf := cx_t hf c3
    cases hf
    exact cx_vret hx hb hr hlocks hP hL dX9_advance_11
  · have hf := cx_f hf c3
    refine lv_aload_n hx hb dX9_advance_7 rfl (lv_at hl 0 rfl) ?_
    obtain ⟨r4, q5, hf⟩ := cx_b hf
    refine cx_callV (As := []) (rest := []) ⟨hx, hb, hml, hown, hts⟩ (c_X9_nextToken hC q5) (cwV 0 hts (gV mw_539 mw_540 mw_541 mw_5 mw_542) rfl rfl rfl hd_X9_nextToken ⟨Nat.le_of_ble_eq_true rfl, Nat.le_of_ble_eq_true rfl⟩) hK hP rfl (at_Model hC hP) rfl hl.1 rfl (Nat.le_of_ble_eq_true rfl) dX9_advance_8 ⟨Nat.zero_le _, Nat.zero_le _⟩ hL (fun H locs hP hL => ?_)
    replace hP : P r4 H := by first | exact hP | (simpa only [va_up_id] using hP)
    cases hf
    exact cx_vret hx hb hr hlocks hP hL dX9_advance_11
abbrev rm_X9_parseNumber : Room := { frames := 4, cells := 0, slots := 0, locals := 83 }
theorem hd_X9_parseNumber : yX9_parseNumber.cls = RX9 ∧ yX9_parseNumber.cls ≠ "java/lang/invoke/MethodHandle" ∧ yX9_parseNumber.cls ≠ "java/lang/invoke/VarHandle" ∧ (parseMethodDescriptor yX9_parseNumber.desc).map (fun d => d.parameters.length) = some 2 := by decide +kernel
def f_X9_parseNumber_b14 (N : Nat) (μ : MdlS) (x1 : Int32) (x2 : Int32) (y0 : Int32) : Option (Int32 × MdlS) := (f_X9_require μ y0 1).bind fun r1 => (f_X9_isBetween (r1.1.2 15) x1 x2).bind fun r3 => (f_X9_require r1 r3 2).bind fun r5 => (f_X9_advance N r5).bind fun r7 => some (r5.1.2 15, r7)
set_option maxHeartbeats 4000000 in
set_option maxRecDepth 100000 in
theorem w_X9_parseNumber_b14 {p : Program} {l : Launch} {e : Env} {s : State} {m : MethodId} {args : Array Value} {below : List Frame} {meth : Method} {c : Code} {G : va_G} {cA : Nat → ClassId} (C0 : cB p s m args meth c RX9 cX9_parseNumber 4 (some .int) G cA) {lo : Nat} {ad : Nat → Nat} {P : MdlS → Heap → Prop} (hC : cx G lo 9 ad (ceModel cA ad) P) {N : Nat} {res : Int32 × MdlS} : ∀ (μ : MdlS) (x1 : Int32) (x2 : Int32) (y0 : Int32) (H : Heap) (locs : List Loc) (ls : Array Slot), f_X9_parseNumber_b14 N μ x1 x2 y0 = some res → P μ H → (∀ q ∈ locs, lo ≤ q.base) → lv_has ls 4 [(0, .ref (ad 0)), (1, .int x1), (2, .int x2)] → W p l e rm_X9_parseNumber s m args below meth c H locs 0 0 (MQ below (cQ (some (.int res.1)) (P res.2)) args s 0 0 (fun q => lo ≤ q)) (F0 m 14 ls [.int y0, .ref (ad 0)]) := by
  obtain ⟨⟨hx, hb, hml, hown, hts⟩, hr, hlocks, hK⟩ := id C0
  intro μ x1 x2 y0 H locs ls hf hP hL hl
  unfold f_X9_parseNumber_b14 at hf
  refine lv_iconst (v := 1) hx hb dX9_parseNumber_14 (by decide) ?_
  obtain ⟨r1, q2, hf⟩ := cx_b hf
  refine cx_callV (As := [.int y0, .int 1]) (rest := []) ⟨hx, hb, hml, hown, hts⟩ (c_X9_require hC q2) (cwV 2 hts (gV mw_574 mw_575 mw_576 mw_5 mw_577) rfl rfl rfl hd_X9_require ⟨Nat.le_of_ble_eq_true rfl, Nat.le_of_ble_eq_true rfl⟩) hK hP rfl (at_Model hC hP) rfl hl.1 rfl (Nat.le_of_ble_eq_true rfl) dX9_parseNumber_15 ⟨Nat.zero_le _, Nat.zero_le _⟩ hL (fun H locs hP hL => ?_)
  replace hP : P r1 H := by first | exact hP | (simpa only [va_up_id] using hP)
  refine lv_aload_n hx hb dX9_parseNumber_18 rfl (lv_at hl 0 rfl) ?_
  refine lv_aload_n hx hb dX9_parseNumber_19 rfl (lv_at hl 0 rfl) ?_
  refine g_Model_15 hC hP hx hb hts hown hK mw_546 dX9_parseNumber_20 ?_
  refine lv_iload_n hx hb dX9_parseNumber_23 rfl (lv_at hl 1 rfl) ?_
  refine lv_iload_n hx hb dX9_parseNumber_24 rfl (lv_at hl 2 rfl) ?_
  obtain ⟨r3, q4, hf⟩ := cx_b hf
  refine cx_callS (As := [.int (r1.1.2 15), .int x1, .int x2]) (rest := [.ref (ad 0)]) ⟨hx, hb, hml, hown, hts⟩ (c_X9_isBetween (PH := P r1) q4) (cwS 3 hts (gS mw_176 mw_177 mw_5 mw_178) rfl rfl rfl hd_X9_isBetween ⟨Nat.le_of_ble_eq_true rfl, Nat.le_of_ble_eq_true rfl⟩) hK hP rfl hl.1 rfl (Nat.le_of_ble_eq_true rfl) dX9_parseNumber_25 ⟨Nat.zero_le _, Nat.zero_le _⟩ hL (fun H locs hP hL => ?_)
  refine lv_iconst (v := 2) hx hb dX9_parseNumber_28 (by decide) ?_
  obtain ⟨r5, q6, hf⟩ := cx_b hf
  refine cx_callV (As := [.int r3, .int 2]) (rest := []) ⟨hx, hb, hml, hown, hts⟩ (c_X9_require hC q6) (cwV 2 hts (gV mw_574 mw_575 mw_576 mw_5 mw_577) rfl rfl rfl hd_X9_require ⟨Nat.le_of_ble_eq_true rfl, Nat.le_of_ble_eq_true rfl⟩) hK hP rfl (at_Model hC hP) rfl hl.1 rfl (Nat.le_of_ble_eq_true rfl) dX9_parseNumber_29 ⟨Nat.zero_le _, Nat.zero_le _⟩ hL (fun H locs hP hL => ?_)
  replace hP : P r5 H := by first | exact hP | (simpa only [va_up_id] using hP)
  refine lv_aload_n hx hb dX9_parseNumber_32 rfl (lv_at hl 0 rfl) ?_
  refine g_Model_15 hC hP hx hb hts hown hK mw_546 dX9_parseNumber_33 ?_
  refine lv_istore_n (lv' := [(3, .int (r5.1.2 15)), (0, .ref (ad 0)), (1, .int x1), (2, .int x2)]) hx hb dX9_parseNumber_36 rfl hl (by decide) rfl (fun ls hl => ?_)
  refine lv_aload_n hx hb dX9_parseNumber_37 rfl (lv_at hl 1 rfl) ?_
  obtain ⟨r7, q8, hf⟩ := cx_b hf
  refine cx_callV (As := []) (rest := []) ⟨hx, hb, hml, hown, hts⟩ (c_X9_advance hC q8) (cwV 0 hts (gV mw_578 mw_579 mw_580 mw_5 mw_581) rfl rfl rfl hd_X9_advance ⟨Nat.le_of_ble_eq_true rfl, Nat.le_of_ble_eq_true rfl⟩) hK hP rfl (at_Model hC hP) rfl hl.1 rfl (Nat.le_of_ble_eq_true rfl) dX9_parseNumber_38 ⟨Nat.zero_le _, Nat.zero_le _⟩ hL (fun H locs hP hL => ?_)
  replace hP : P r7 H := by first | exact hP | (simpa only [va_up_id] using hP)
  refine lv_iload_n hx hb dX9_parseNumber_41 rfl (lv_at hl 0 rfl) ?_
  cases hf
  exact cx_iret hx hb hr hlocks hP hL dX9_parseNumber_42
def f_X9_parseNumber (N : Nat) (μ : MdlS) (p0 : Int32) (p1 : Int32) : Option (Int32 × MdlS) := if μ.1.2 13 = 3 then f_X9_parseNumber_b14 N μ p0 p1 1 else f_X9_parseNumber_b14 N μ p0 p1 0
set_option maxHeartbeats 4000000 in
set_option maxRecDepth 100000 in
theorem c_X9_parseNumber {l : Launch} {G : va_G} {cA : Nat → ClassId} {lo : Nat} {ad : Nat → Nat} {P : MdlS → Heap → Prop} (hC : cx G lo 9 ad (ceModel cA ad) P) {N : Nat} {μ : MdlS} {p0 : Int32} {p1 : Int32} {res : Int32 × MdlS} (hf : f_X9_parseNumber N μ p0 p1 = some res) : Met l yX9_parseNumber (cW yX9_parseNumber cX9_parseNumber 4 (some .int)) rm_X9_parseNumber (cP [.ref (ad 0), .int p0, .int p1] (P μ) G cA) (cQ (some (.int res.1)) (P res.2)) 0 0 (fun q => lo ≤ q) := by
  refine cx_met (by decide) (Nat.le_of_ble_eq_true rfl) (fun p e s m args below meth c ls C0 hP hl => ?_)
  have hl : lv_has ls 4 [(0, .ref (ad 0)), (1, .int p0), (2, .int p1)] := hl
  obtain ⟨⟨hx, hb, hml, hown, hts⟩, hr, hlocks, hK⟩ := id C0
  have hL : ∀ q ∈ ([] : List Loc), lo ≤ q.base := fun q h => nomatch h
  unfold f_X9_parseNumber at hf
  refine lv_aload_n hx hb dX9_parseNumber_0 rfl (lv_at hl 0 rfl) ?_
  refine lv_aload_n hx hb dX9_parseNumber_1 rfl (lv_at hl 0 rfl) ?_
  refine g_Model_13 hC hP hx hb hts hown hK mw_538 dX9_parseNumber_2 ?_
  refine lv_iconst (v := 3) hx hb dX9_parseNumber_5 (by decide) ?_
  refine lv_icmp_ne (tgt := 13) hx hb dX9_parseNumber_6 (by decide) (fun c1 => ?_) (fun c1 => ?_)
  · have hf := cx_f hf c1
    refine lv_iconst (v := 0) hx hb dX9_parseNumber_13 (by decide) ?_
    exact w_X9_parseNumber_b14 C0 hC μ p0 p1 0 _ _ _ hf hP hL (lv_sub hl [0, 1, 2] rfl)
  · have hf := cx_t hf c1
    refine lv_iconst (v := 1) hx hb dX9_parseNumber_9 (by decide) ?_
    refine lv_goto (tgt := 14) hx hb dX9_parseNumber_10 (by decide) ?_
    exact w_X9_parseNumber_b14 C0 hC μ p0 p1 1 _ _ _ hf hP hL (lv_sub hl [0, 1, 2] rfl)
abbrev rm_X9_parseEnd : Room := { frames := 5, cells := 0, slots := 0, locals := 109 }
theorem hd_X9_parseEnd : yX9_parseEnd.cls = RX9 ∧ yX9_parseEnd.cls ≠ "java/lang/invoke/MethodHandle" ∧ yX9_parseEnd.cls ≠ "java/lang/invoke/VarHandle" ∧ (parseMethodDescriptor yX9_parseEnd.desc).map (fun d => d.parameters.length) = some 1 := by decide +kernel
def f_X9_parseEnd (N : Nat) (μ : MdlS) (p0 : Int32) : Option (Int32 × MdlS) := (f_X9_isFine μ).bind fun r1 => if r1 = 0 then some (p0, μ) else (f_X9_isWord N μ 7).bind fun r4 => if r4 = 0 then some (p0, μ) else (f_X9_advance N μ).bind fun r7 => (f_X9_parseNumber N r7 p0 199).bind fun r9 => some (r9.1, r9.2)
set_option maxHeartbeats 4000000 in
set_option maxRecDepth 100000 in
theorem c_X9_parseEnd {l : Launch} {G : va_G} {cA : Nat → ClassId} {lo : Nat} {z : ZS} {ad : Nat → Nat} {P : MdlS → Heap → Prop} (hC : cx G lo 9 ad (ceModel cA ad) P) {N : Nat} {μ : MdlS} {p0 : Int32} {res : Int32 × MdlS} (hf : f_X9_parseEnd N μ p0 = some res) : Met l yX9_parseEnd (cW yX9_parseEnd cX9_parseEnd 2 (some .int)) rm_X9_parseEnd (cPZ lo z [.ref (ad 0), .int p0] (P μ) G cA) (cQ (some (.int res.1)) (P res.2)) 0 0 (fun q => lo ≤ q) := by
  refine cx_metZ (by decide) (Nat.le_of_ble_eq_true rfl) (fun p e s m args below meth c ls C0 hZ hP hl => ?_)
  have hl : lv_has ls 2 [(0, .ref (ad 0)), (1, .int p0)] := hl
  obtain ⟨⟨hx, hb, hml, hown, hts⟩, hr, hlocks, hK⟩ := id C0
  have hL : ∀ q ∈ ([] : List Loc), lo ≤ q.base := fun q h => nomatch h
  unfold f_X9_parseEnd at hf
  refine lv_aload_n hx hb dX9_parseEnd_0 rfl (lv_at hl 0 rfl) ?_
  obtain ⟨r1, q2, hf⟩ := cx_b hf
  refine cx_callV (As := []) (rest := []) ⟨hx, hb, hml, hown, hts⟩ (c_X9_isFine hC q2) (cwV 0 hts (gV mw_560 mw_561 mw_562 mw_5 mw_563) rfl rfl rfl hd_X9_isFine ⟨Nat.le_of_ble_eq_true rfl, Nat.le_of_ble_eq_true rfl⟩) hK hP rfl (at_Model hC hP) rfl hl.1 rfl (Nat.le_of_ble_eq_true rfl) dX9_parseEnd_1 ⟨Nat.zero_le _, Nat.zero_le _⟩ hL (fun H locs hP hL => ?_)
  replace hP : P μ H := by first | exact hP | (simpa only [va_up_id] using hP)
  refine lv_if_eq (tgt := 16) hx hb dX9_parseEnd_4 (by decide) (fun c3 => ?_) (fun c3 => ?_)
  · have hf := cx_t hf c3
    refine lv_iload_n hx hb dX9_parseEnd_16 rfl (lv_at hl 1 rfl) ?_
    cases hf
    exact cx_iret hx hb hr hlocks hP hL dX9_parseEnd_17
  · have hf := cx_f hf c3
    refine lv_aload_n hx hb dX9_parseEnd_7 rfl (lv_at hl 0 rfl) ?_
    refine va_ldcS hx hb hown (hZ.1 7 (by decide)).1 dX9_parseEnd_8 ?_
    obtain ⟨r4, q5, hf⟩ := cx_b hf
    refine cx_callVZ (As := [.ref (z.1 7)]) (rest := []) ⟨hx, hb, hml, hown, hts⟩ (c_X9_isWord hC (by decide) q5) (cwV 1 hts (gV mw_568 mw_569 mw_570 mw_5 mw_571) rfl rfl rfl hd_X9_isWord ⟨Nat.le_of_ble_eq_true rfl, Nat.le_of_ble_eq_true rfl⟩) hK hZ hP rfl (at_Model hC hP) rfl hl.1 rfl (Nat.le_of_ble_eq_true rfl) dX9_parseEnd_10 ⟨Nat.zero_le _, Nat.zero_le _⟩ hL (fun H locs hP hL => ?_)
    replace hP : P μ H := by first | exact hP | (simpa only [va_up_id] using hP)
    refine lv_if_ne (tgt := 18) hx hb dX9_parseEnd_13 (by decide) (fun c6 => ?_) (fun c6 => ?_)
    · have hf := cx_f hf c6
      refine lv_aload_n hx hb dX9_parseEnd_18 rfl (lv_at hl 0 rfl) ?_
      obtain ⟨r7, q8, hf⟩ := cx_b hf
      refine cx_callV (As := []) (rest := []) ⟨hx, hb, hml, hown, hts⟩ (c_X9_advance hC q8) (cwV 0 hts (gV mw_578 mw_579 mw_580 mw_5 mw_581) rfl rfl rfl hd_X9_advance ⟨Nat.le_of_ble_eq_true rfl, Nat.le_of_ble_eq_true rfl⟩) hK hP rfl (at_Model hC hP) rfl hl.1 rfl (Nat.le_of_ble_eq_true rfl) dX9_parseEnd_19 ⟨Nat.zero_le _, Nat.zero_le _⟩ hL (fun H locs hP hL => ?_)
      replace hP : P r7 H := by first | exact hP | (simpa only [va_up_id] using hP)
      refine lv_aload_n hx hb dX9_parseEnd_22 rfl (lv_at hl 0 rfl) ?_
      refine lv_iload_n hx hb dX9_parseEnd_23 rfl (lv_at hl 1 rfl) ?_
      refine lv_sipush (v := 199) hx hb dX9_parseEnd_24 (by decide) ?_
      obtain ⟨r9, q10, hf⟩ := cx_b hf
      refine cx_callV (As := [.int p0, .int 199]) (rest := []) ⟨hx, hb, hml, hown, hts⟩ (c_X9_parseNumber hC q10) (cwV 2 hts (gV mw_582 mw_583 mw_584 mw_5 mw_585) rfl rfl rfl hd_X9_parseNumber ⟨Nat.le_of_ble_eq_true rfl, Nat.le_of_ble_eq_true rfl⟩) hK hP rfl (at_Model hC hP) rfl hl.1 rfl (Nat.le_of_ble_eq_true rfl) dX9_parseEnd_27 ⟨Nat.zero_le _, Nat.zero_le _⟩ hL (fun H locs hP hL => ?_)
      replace hP : P r9.2 H := by first | exact hP | (simpa only [va_up_id] using hP)
      cases hf
      exact cx_iret hx hb hr hlocks hP hL dX9_parseEnd_30
    · have hf := cx_t hf c6
      refine lv_iload_n hx hb dX9_parseEnd_16 rfl (lv_at hl 1 rfl) ?_
      cases hf
      exact cx_iret hx hb hr hlocks hP hL dX9_parseEnd_17
abbrev rm_X9_parseCommand : Room := { frames := 6, cells := 0, slots := 0, locals := 130 }
theorem hd_X9_parseCommand : yX9_parseCommand.cls = RX9 ∧ yX9_parseCommand.cls ≠ "java/lang/invoke/MethodHandle" ∧ yX9_parseCommand.cls ≠ "java/lang/invoke/VarHandle" ∧ (parseMethodDescriptor yX9_parseCommand.desc).map (fun d => d.parameters.length) = some 0 := by decide +kernel
def f_X9_parseCommand_b164 (N : Nat) (μ : MdlS) (x1 : Int32) (x2 : Int32) (x3 : Int32) (x4 : Int32) (y0 : Int32) : Option (MdlS) := (f_X9_require μ y0 1).bind fun r1 => (f_X9_advance N r1).bind fun r3 => (f_X9_isFine r3).bind fun r5 => if r5 = 0 then some r3 else gd (4 * r3.1.2 9) 160 (cx_let ((oA r3.1 8 (Int32.toNatClampNeg (4 * r3.1.2 9)) x1, r3.2)) fun z9 => gd ((4 * r3.1.2 9) + 1) 160 (cx_let ((oA z9.1 8 (Int32.toNatClampNeg ((4 * r3.1.2 9) + 1)) x2, z9.2)) fun z11 => gd ((4 * r3.1.2 9) + 2) 160 (cx_let ((oA z11.1 8 (Int32.toNatClampNeg ((4 * r3.1.2 9) + 2)) x3, z11.2)) fun z13 => gd ((4 * r3.1.2 9) + 3) 160 (cx_let ((oA z13.1 8 (Int32.toNatClampNeg ((4 * r3.1.2 9) + 3)) x4, z13.2)) fun z15 => cx_let ((oI z15.1 9 (z15.1.2 9 + 1), z15.2)) fun z16 => some z16))))
set_option maxHeartbeats 4000000 in
set_option maxRecDepth 100000 in
theorem w_X9_parseCommand_b164 {p : Program} {l : Launch} {e : Env} {s : State} {m : MethodId} {args : Array Value} {below : List Frame} {meth : Method} {c : Code} {G : va_G} {cA : Nat → ClassId} (C0 : cB p s m args meth c RX9 cX9_parseCommand 6 none G cA) {lo : Nat} {z : ZS} (hZ : Zt lo z s) {ad : Nat → Nat} {P : MdlS → Heap → Prop} (hC : cx G lo 9 ad (ceModel cA ad) P) {N : Nat} {res : MdlS} : ∀ (μ : MdlS) (x1 : Int32) (x2 : Int32) (x3 : Int32) (x4 : Int32) (y0 : Int32) (H : Heap) (locs : List Loc) (ls : Array Slot), f_X9_parseCommand_b164 N μ x1 x2 x3 x4 y0 = some res → P μ H → (∀ q ∈ locs, lo ≤ q.base) → lv_has ls 6 [(0, .ref (ad 0)), (1, .int x1), (2, .int x2), (3, .int x3), (4, .int x4)] → W p l e rm_X9_parseCommand s m args below meth c H locs 0 0 (MQ below (cQ none (P res)) args s 0 0 (fun q => lo ≤ q)) (F0 m 164 ls [.int y0, .ref (ad 0)]) := by
  obtain ⟨⟨hx, hb, hml, hown, hts⟩, hr, hlocks, hK⟩ := id C0
  intro μ x1 x2 x3 x4 y0 H locs ls hf hP hL hl
  unfold f_X9_parseCommand_b164 at hf
  refine lv_iconst (v := 1) hx hb dX9_parseCommand_164 (by decide) ?_
  obtain ⟨r1, q2, hf⟩ := cx_b hf
  refine cx_callV (As := [.int y0, .int 1]) (rest := []) ⟨hx, hb, hml, hown, hts⟩ (c_X9_require hC q2) (cwV 2 hts (gV mw_574 mw_575 mw_576 mw_5 mw_577) rfl rfl rfl hd_X9_require ⟨Nat.le_of_ble_eq_true rfl, Nat.le_of_ble_eq_true rfl⟩) hK hP rfl (at_Model hC hP) rfl hl.1 rfl (Nat.le_of_ble_eq_true rfl) dX9_parseCommand_165 ⟨Nat.zero_le _, Nat.zero_le _⟩ hL (fun H locs hP hL => ?_)
  replace hP : P r1 H := by first | exact hP | (simpa only [va_up_id] using hP)
  refine lv_aload_n hx hb dX9_parseCommand_168 rfl (lv_at hl 0 rfl) ?_
  obtain ⟨r3, q4, hf⟩ := cx_b hf
  refine cx_callV (As := []) (rest := []) ⟨hx, hb, hml, hown, hts⟩ (c_X9_advance hC q4) (cwV 0 hts (gV mw_578 mw_579 mw_580 mw_5 mw_581) rfl rfl rfl hd_X9_advance ⟨Nat.le_of_ble_eq_true rfl, Nat.le_of_ble_eq_true rfl⟩) hK hP rfl (at_Model hC hP) rfl hl.1 rfl (Nat.le_of_ble_eq_true rfl) dX9_parseCommand_169 ⟨Nat.zero_le _, Nat.zero_le _⟩ hL (fun H locs hP hL => ?_)
  replace hP : P r3 H := by first | exact hP | (simpa only [va_up_id] using hP)
  refine lv_aload_n hx hb dX9_parseCommand_172 rfl (lv_at hl 0 rfl) ?_
  obtain ⟨r5, q6, hf⟩ := cx_b hf
  refine cx_callV (As := []) (rest := []) ⟨hx, hb, hml, hown, hts⟩ (c_X9_isFine hC q6) (cwV 0 hts (gV mw_560 mw_561 mw_562 mw_5 mw_563) rfl rfl rfl hd_X9_isFine ⟨Nat.le_of_ble_eq_true rfl, Nat.le_of_ble_eq_true rfl⟩) hK hP rfl (at_Model hC hP) rfl hl.1 rfl (Nat.le_of_ble_eq_true rfl) dX9_parseCommand_173 ⟨Nat.zero_le _, Nat.zero_le _⟩ hL (fun H locs hP hL => ?_)
  replace hP : P r3 H := by first | exact hP | (simpa only [va_up_id] using hP)
  refine lv_if_eq (tgt := 236) hx hb dX9_parseCommand_176 (by decide) (fun c7 => ?_) (fun c7 => ?_)
  · have hf := cx_t hf c7
    cases hf
    exact cx_vret hx hb hr hlocks hP hL dX9_parseCommand_236
  · have hf := cx_f hf c7
    refine lv_iconst (v := 4) hx hb dX9_parseCommand_179 (by decide) ?_
    refine lv_aload_n hx hb dX9_parseCommand_180 rfl (lv_at hl 0 rfl) ?_
    refine g_Model_9 hC hP hx hb hts hown hK mw_537 dX9_parseCommand_181 ?_
    refine lv_imul hx hb dX9_parseCommand_184 ?_
    refine lv_istore (lv' := [(5, .int (4 * r3.1.2 9)), (0, .ref (ad 0)), (1, .int x1), (2, .int x2), (3, .int x3), (4, .int x4)]) hx hb dX9_parseCommand_185 hl (by decide) rfl (fun ls hl => ?_)
    refine lv_aload_n hx hb dX9_parseCommand_187 rfl (lv_at hl 1 rfl) ?_
    refine g_Model_8 hC hP hx hb hts hown hK mw_121 dX9_parseCommand_188 ?_
    refine lv_iload hx hb dX9_parseCommand_191 (lv_at hl 0 rfl) ?_
    refine lv_iload_n hx hb dX9_parseCommand_193 rfl (lv_at hl 2 rfl) ?_
    obtain ⟨hi8, hf⟩ := gdE hf
    obtain ⟨z9, ez9, hf⟩ := cx_letE hf
    refine pa_Model_8 hC hP hx hb hK hi8 dX9_parseCommand_194 hL (fun H locs hP hL => ?_)
    replace hP : P z9 H := by rw [← ez9]; exact hP
    refine lv_aload_n hx hb dX9_parseCommand_195 rfl (lv_at hl 1 rfl) ?_
    refine g_Model_8 hC hP hx hb hts hown hK mw_121 dX9_parseCommand_196 ?_
    refine lv_iload hx hb dX9_parseCommand_199 (lv_at hl 0 rfl) ?_
    refine lv_iconst (v := 1) hx hb dX9_parseCommand_201 (by decide) ?_
    refine lv_iadd hx hb dX9_parseCommand_202 ?_
    refine lv_iload_n hx hb dX9_parseCommand_203 rfl (lv_at hl 3 rfl) ?_
    obtain ⟨hi10, hf⟩ := gdE hf
    obtain ⟨z11, ez11, hf⟩ := cx_letE hf
    refine pa_Model_8 hC hP hx hb hK hi10 dX9_parseCommand_204 hL (fun H locs hP hL => ?_)
    replace hP : P z11 H := by rw [← ez11]; exact hP
    refine lv_aload_n hx hb dX9_parseCommand_205 rfl (lv_at hl 1 rfl) ?_
    refine g_Model_8 hC hP hx hb hts hown hK mw_121 dX9_parseCommand_206 ?_
    refine lv_iload hx hb dX9_parseCommand_209 (lv_at hl 0 rfl) ?_
    refine lv_iconst (v := 2) hx hb dX9_parseCommand_211 (by decide) ?_
    refine lv_iadd hx hb dX9_parseCommand_212 ?_
    refine lv_iload_n hx hb dX9_parseCommand_213 rfl (lv_at hl 4 rfl) ?_
    obtain ⟨hi12, hf⟩ := gdE hf
    obtain ⟨z13, ez13, hf⟩ := cx_letE hf
    refine pa_Model_8 hC hP hx hb hK hi12 dX9_parseCommand_214 hL (fun H locs hP hL => ?_)
    replace hP : P z13 H := by rw [← ez13]; exact hP
    refine lv_aload_n hx hb dX9_parseCommand_215 rfl (lv_at hl 1 rfl) ?_
    refine g_Model_8 hC hP hx hb hts hown hK mw_121 dX9_parseCommand_216 ?_
    refine lv_iload hx hb dX9_parseCommand_219 (lv_at hl 0 rfl) ?_
    refine lv_iconst (v := 3) hx hb dX9_parseCommand_221 (by decide) ?_
    refine lv_iadd hx hb dX9_parseCommand_222 ?_
    refine lv_iload hx hb dX9_parseCommand_223 (lv_at hl 5 rfl) ?_
    obtain ⟨hi14, hf⟩ := gdE hf
    obtain ⟨z15, ez15, hf⟩ := cx_letE hf
    refine pa_Model_8 hC hP hx hb hK hi14 dX9_parseCommand_225 hL (fun H locs hP hL => ?_)
    replace hP : P z15 H := by rw [← ez15]; exact hP
    refine lv_aload_n hx hb dX9_parseCommand_226 rfl (lv_at hl 1 rfl) ?_
    refine lv_dup hx hb dX9_parseCommand_227 rfl ?_
    refine g_Model_9 hC hP hx hb hts hown hK mw_537 dX9_parseCommand_228 ?_
    refine lv_iconst (v := 1) hx hb dX9_parseCommand_231 (by decide) ?_
    refine lv_iadd hx hb dX9_parseCommand_232 ?_
    obtain ⟨z16, ez16, hf⟩ := cx_letE hf
    refine p_Model_9 hC hP hx hb hts hown hK mw_537 dX9_parseCommand_233 hL (fun H locs hP hL => ?_)
    replace hP : P z16 H := by rw [← ez16]; exact hP
    cases hf
    exact cx_vret hx hb hr hlocks hP hL dX9_parseCommand_236
def f_X9_parseCommand_b100 (N : Nat) (μ : MdlS) (x1 : Int32) (y0 : Int32) : Option (MdlS) := (f_X9_isFine μ).bind fun r1 => if r1 = 0 then if μ.1.2 13 = 4 then f_X9_parseCommand_b164 N μ x1 y0 0 0 1 else f_X9_parseCommand_b164 N μ x1 y0 0 0 0 else if x1 = 2 then if μ.1.2 13 = 4 then f_X9_parseCommand_b164 N μ x1 y0 0 0 1 else f_X9_parseCommand_b164 N μ x1 y0 0 0 0 else (f_X9_parseNumber N μ 0 199).bind fun r7 => if x1 = 1 then (f_X9_parseNumber N r7.2 0 999).bind fun r13 => if r13.2.1.2 13 = 4 then f_X9_parseCommand_b164 N r13.2 x1 y0 r7.1 r13.1 1 else f_X9_parseCommand_b164 N r13.2 x1 y0 r7.1 r13.1 0 else (f_X9_parseEnd N r7.2 r7.1).bind fun r10 => if r10.2.1.2 13 = 4 then f_X9_parseCommand_b164 N r10.2 x1 y0 r7.1 r10.1 1 else f_X9_parseCommand_b164 N r10.2 x1 y0 r7.1 r10.1 0
set_option maxHeartbeats 4000000 in
set_option maxRecDepth 100000 in
theorem w_X9_parseCommand_b100 {p : Program} {l : Launch} {e : Env} {s : State} {m : MethodId} {args : Array Value} {below : List Frame} {meth : Method} {c : Code} {G : va_G} {cA : Nat → ClassId} (C0 : cB p s m args meth c RX9 cX9_parseCommand 6 none G cA) {lo : Nat} {z : ZS} (hZ : Zt lo z s) {ad : Nat → Nat} {P : MdlS → Heap → Prop} (hC : cx G lo 9 ad (ceModel cA ad) P) {N : Nat} {res : MdlS} : ∀ (μ : MdlS) (x1 : Int32) (y0 : Int32) (H : Heap) (locs : List Loc) (ls : Array Slot), f_X9_parseCommand_b100 N μ x1 y0 = some res → P μ H → (∀ q ∈ locs, lo ≤ q.base) → lv_has ls 6 [(0, .ref (ad 0)), (1, .int x1)] → W p l e rm_X9_parseCommand s m args below meth c H locs 0 0 (MQ below (cQ none (P res)) args s 0 0 (fun q => lo ≤ q)) (F0 m 100 ls [.int y0]) := by
  obtain ⟨⟨hx, hb, hml, hown, hts⟩, hr, hlocks, hK⟩ := id C0
  intro μ x1 y0 H locs ls hf hP hL hl
  unfold f_X9_parseCommand_b100 at hf
  refine lv_istore_n (lv' := [(2, .int y0), (0, .ref (ad 0)), (1, .int x1)]) hx hb dX9_parseCommand_100 rfl hl (by decide) rfl (fun ls hl => ?_)
  refine lv_iconst (v := 0) hx hb dX9_parseCommand_101 (by decide) ?_
  refine lv_istore_n (lv' := [(3, .int 0), (2, .int y0), (0, .ref (ad 0)), (1, .int x1)]) hx hb dX9_parseCommand_102 rfl hl (by decide) rfl (fun ls hl => ?_)
  refine lv_iconst (v := 0) hx hb dX9_parseCommand_103 (by decide) ?_
  refine lv_istore (lv' := [(4, .int 0), (3, .int 0), (2, .int y0), (0, .ref (ad 0)), (1, .int x1)]) hx hb dX9_parseCommand_104 hl (by decide) rfl (fun ls hl => ?_)
  refine lv_aload_n hx hb dX9_parseCommand_106 rfl (lv_at hl 3 rfl) ?_
  obtain ⟨r1, q2, hf⟩ := cx_b hf
  refine cx_callV (As := []) (rest := []) ⟨hx, hb, hml, hown, hts⟩ (c_X9_isFine hC q2) (cwV 0 hts (gV mw_560 mw_561 mw_562 mw_5 mw_563) rfl rfl rfl hd_X9_isFine ⟨Nat.le_of_ble_eq_true rfl, Nat.le_of_ble_eq_true rfl⟩) hK hP rfl (at_Model hC hP) rfl hl.1 rfl (Nat.le_of_ble_eq_true rfl) dX9_parseCommand_107 ⟨Nat.zero_le _, Nat.zero_le _⟩ hL (fun H locs hP hL => ?_)
  replace hP : P μ H := by first | exact hP | (simpa only [va_up_id] using hP)
  refine lv_if_eq (tgt := 150) hx hb dX9_parseCommand_110 (by decide) (fun c3 => ?_) (fun c3 => ?_)
  · have hf := cx_t hf c3
    refine lv_aload_n hx hb dX9_parseCommand_150 rfl (lv_at hl 3 rfl) ?_
    refine lv_aload_n hx hb dX9_parseCommand_151 rfl (lv_at hl 3 rfl) ?_
    refine g_Model_13 hC hP hx hb hts hown hK mw_538 dX9_parseCommand_152 ?_
    refine lv_iconst (v := 4) hx hb dX9_parseCommand_155 (by decide) ?_
    refine lv_icmp_ne (tgt := 163) hx hb dX9_parseCommand_156 (by decide) (fun c4 => ?_) (fun c4 => ?_)
    · have hf := cx_f hf c4
      refine lv_iconst (v := 0) hx hb dX9_parseCommand_163 (by decide) ?_
      exact w_X9_parseCommand_b164 C0 hZ hC μ x1 y0 0 0 0 _ _ _ hf hP hL (lv_sub hl [3, 4, 2, 1, 0] rfl)
    · have hf := cx_t hf c4
      refine lv_iconst (v := 1) hx hb dX9_parseCommand_159 (by decide) ?_
      refine lv_goto (tgt := 164) hx hb dX9_parseCommand_160 (by decide) ?_
      exact w_X9_parseCommand_b164 C0 hZ hC μ x1 y0 0 0 1 _ _ _ hf hP hL (lv_sub hl [3, 4, 2, 1, 0] rfl)
  · have hf := cx_f hf c3
    refine lv_iload_n hx hb dX9_parseCommand_113 rfl (lv_at hl 4 rfl) ?_
    refine lv_iconst (v := 2) hx hb dX9_parseCommand_114 (by decide) ?_
    refine lv_icmp_eq (tgt := 150) hx hb dX9_parseCommand_115 (by decide) (fun c5 => ?_) (fun c5 => ?_)
    · have hf := cx_t hf c5
      refine lv_aload_n hx hb dX9_parseCommand_150 rfl (lv_at hl 3 rfl) ?_
      refine lv_aload_n hx hb dX9_parseCommand_151 rfl (lv_at hl 3 rfl) ?_
      refine g_Model_13 hC hP hx hb hts hown hK mw_538 dX9_parseCommand_152 ?_
      refine lv_iconst (v := 4) hx hb dX9_parseCommand_155 (by decide) ?_
      refine lv_icmp_ne (tgt := 163) hx hb dX9_parseCommand_156 (by decide) (fun c6 => ?_) (fun c6 => ?_)
      · have hf := cx_f hf c6
        refine lv_iconst (v := 0) hx hb dX9_parseCommand_163 (by decide) ?_
        exact w_X9_parseCommand_b164 C0 hZ hC μ x1 y0 0 0 0 _ _ _ hf hP hL (lv_sub hl [3, 4, 2, 1, 0] rfl)
      · have hf := cx_t hf c6
        refine lv_iconst (v := 1) hx hb dX9_parseCommand_159 (by decide) ?_
        refine lv_goto (tgt := 164) hx hb dX9_parseCommand_160 (by decide) ?_
        exact w_X9_parseCommand_b164 C0 hZ hC μ x1 y0 0 0 1 _ _ _ hf hP hL (lv_sub hl [3, 4, 2, 1, 0] rfl)
    · have hf := cx_f hf c5
      refine lv_aload_n hx hb dX9_parseCommand_118 rfl (lv_at hl 3 rfl) ?_
      refine lv_iconst (v := 0) hx hb dX9_parseCommand_119 (by decide) ?_
      refine lv_sipush (v := 199) hx hb dX9_parseCommand_120 (by decide) ?_
      obtain ⟨r7, q8, hf⟩ := cx_b hf
      refine cx_callV (As := [.int 0, .int 199]) (rest := []) ⟨hx, hb, hml, hown, hts⟩ (c_X9_parseNumber hC q8) (cwV 2 hts (gV mw_582 mw_583 mw_584 mw_5 mw_585) rfl rfl rfl hd_X9_parseNumber ⟨Nat.le_of_ble_eq_true rfl, Nat.le_of_ble_eq_true rfl⟩) hK hP rfl (at_Model hC hP) rfl hl.1 rfl (Nat.le_of_ble_eq_true rfl) dX9_parseCommand_123 ⟨Nat.zero_le _, Nat.zero_le _⟩ hL (fun H locs hP hL => ?_)
      replace hP : P r7.2 H := by first | exact hP | (simpa only [va_up_id] using hP)
      refine lv_istore_n (lv' := [(3, .int r7.1), (4, .int 0), (2, .int y0), (0, .ref (ad 0)), (1, .int x1)]) hx hb dX9_parseCommand_126 rfl hl (by decide) rfl (fun ls hl => ?_)
      refine lv_iload_n hx hb dX9_parseCommand_127 rfl (lv_at hl 4 rfl) ?_
      refine lv_iconst (v := 1) hx hb dX9_parseCommand_128 (by decide) ?_
      refine lv_icmp_ne (tgt := 143) hx hb dX9_parseCommand_129 (by decide) (fun c9 => ?_) (fun c9 => ?_)
      · have hf := cx_f hf c9
        refine lv_aload_n hx hb dX9_parseCommand_143 rfl (lv_at hl 3 rfl) ?_
        refine lv_iload_n hx hb dX9_parseCommand_144 rfl (lv_at hl 0 rfl) ?_
        obtain ⟨r10, q11, hf⟩ := cx_b hf
        refine cx_callVZ (As := [.int r7.1]) (rest := []) ⟨hx, hb, hml, hown, hts⟩ (c_X9_parseEnd hC q11) (cwV 1 hts (gV mw_586 mw_587 mw_588 mw_5 mw_589) rfl rfl rfl hd_X9_parseEnd ⟨Nat.le_of_ble_eq_true rfl, Nat.le_of_ble_eq_true rfl⟩) hK hZ hP rfl (at_Model hC hP) rfl hl.1 rfl (Nat.le_of_ble_eq_true rfl) dX9_parseCommand_145 ⟨Nat.zero_le _, Nat.zero_le _⟩ hL (fun H locs hP hL => ?_)
        replace hP : P r10.2 H := by first | exact hP | (simpa only [va_up_id] using hP)
        refine lv_istore (lv' := [(4, .int r10.1), (3, .int r7.1), (2, .int y0), (0, .ref (ad 0)), (1, .int x1)]) hx hb dX9_parseCommand_148 hl (by decide) rfl (fun ls hl => ?_)
        refine lv_aload_n hx hb dX9_parseCommand_150 rfl (lv_at hl 3 rfl) ?_
        refine lv_aload_n hx hb dX9_parseCommand_151 rfl (lv_at hl 3 rfl) ?_
        refine g_Model_13 hC hP hx hb hts hown hK mw_538 dX9_parseCommand_152 ?_
        refine lv_iconst (v := 4) hx hb dX9_parseCommand_155 (by decide) ?_
        refine lv_icmp_ne (tgt := 163) hx hb dX9_parseCommand_156 (by decide) (fun c12 => ?_) (fun c12 => ?_)
        · have hf := cx_f hf c12
          refine lv_iconst (v := 0) hx hb dX9_parseCommand_163 (by decide) ?_
          exact w_X9_parseCommand_b164 C0 hZ hC r10.2 x1 y0 r7.1 r10.1 0 _ _ _ hf hP hL (lv_sub hl [3, 4, 2, 1, 0] rfl)
        · have hf := cx_t hf c12
          refine lv_iconst (v := 1) hx hb dX9_parseCommand_159 (by decide) ?_
          refine lv_goto (tgt := 164) hx hb dX9_parseCommand_160 (by decide) ?_
          exact w_X9_parseCommand_b164 C0 hZ hC r10.2 x1 y0 r7.1 r10.1 1 _ _ _ hf hP hL (lv_sub hl [3, 4, 2, 1, 0] rfl)
      · have hf := cx_t hf c9
        refine lv_aload_n hx hb dX9_parseCommand_132 rfl (lv_at hl 3 rfl) ?_
        refine lv_iconst (v := 0) hx hb dX9_parseCommand_133 (by decide) ?_
        refine lv_sipush (v := 999) hx hb dX9_parseCommand_134 (by decide) ?_
        obtain ⟨r13, q14, hf⟩ := cx_b hf
        refine cx_callV (As := [.int 0, .int 999]) (rest := []) ⟨hx, hb, hml, hown, hts⟩ (c_X9_parseNumber hC q14) (cwV 2 hts (gV mw_582 mw_583 mw_584 mw_5 mw_585) rfl rfl rfl hd_X9_parseNumber ⟨Nat.le_of_ble_eq_true rfl, Nat.le_of_ble_eq_true rfl⟩) hK hP rfl (at_Model hC hP) rfl hl.1 rfl (Nat.le_of_ble_eq_true rfl) dX9_parseCommand_137 ⟨Nat.zero_le _, Nat.zero_le _⟩ hL (fun H locs hP hL => ?_)
        replace hP : P r13.2 H := by first | exact hP | (simpa only [va_up_id] using hP)
        refine lv_goto (tgt := 148) hx hb dX9_parseCommand_140 (by decide) ?_
        refine lv_istore (lv' := [(4, .int r13.1), (3, .int r7.1), (2, .int y0), (0, .ref (ad 0)), (1, .int x1)]) hx hb dX9_parseCommand_148 hl (by decide) rfl (fun ls hl => ?_)
        refine lv_aload_n hx hb dX9_parseCommand_150 rfl (lv_at hl 3 rfl) ?_
        refine lv_aload_n hx hb dX9_parseCommand_151 rfl (lv_at hl 3 rfl) ?_
        refine g_Model_13 hC hP hx hb hts hown hK mw_538 dX9_parseCommand_152 ?_
        refine lv_iconst (v := 4) hx hb dX9_parseCommand_155 (by decide) ?_
        refine lv_icmp_ne (tgt := 163) hx hb dX9_parseCommand_156 (by decide) (fun c15 => ?_) (fun c15 => ?_)
        · have hf := cx_f hf c15
          refine lv_iconst (v := 0) hx hb dX9_parseCommand_163 (by decide) ?_
          exact w_X9_parseCommand_b164 C0 hZ hC r13.2 x1 y0 r7.1 r13.1 0 _ _ _ hf hP hL (lv_sub hl [3, 4, 2, 1, 0] rfl)
        · have hf := cx_t hf c15
          refine lv_iconst (v := 1) hx hb dX9_parseCommand_159 (by decide) ?_
          refine lv_goto (tgt := 164) hx hb dX9_parseCommand_160 (by decide) ?_
          exact w_X9_parseCommand_b164 C0 hZ hC r13.2 x1 y0 r7.1 r13.1 1 _ _ _ hf hP hL (lv_sub hl [3, 4, 2, 1, 0] rfl)
def f_X9_parseCommand_b71 (N : Nat) (μ : MdlS) (x1 : Int32) (y0 : Int32) : Option (MdlS) := (f_X9_require μ y0 3).bind fun r1 => (f_X9_advance N r1).bind fun r3 => if x1 = 2 then (f_X9_parseNumber N r3 1 40).bind fun r8 => f_X9_parseCommand_b100 N r8.2 x1 r8.1 else (f_X9_parseNumber N r3 0 3).bind fun r6 => f_X9_parseCommand_b100 N r6.2 x1 r6.1
set_option maxHeartbeats 4000000 in
set_option maxRecDepth 100000 in
theorem w_X9_parseCommand_b71 {p : Program} {l : Launch} {e : Env} {s : State} {m : MethodId} {args : Array Value} {below : List Frame} {meth : Method} {c : Code} {G : va_G} {cA : Nat → ClassId} (C0 : cB p s m args meth c RX9 cX9_parseCommand 6 none G cA) {lo : Nat} {z : ZS} (hZ : Zt lo z s) {ad : Nat → Nat} {P : MdlS → Heap → Prop} (hC : cx G lo 9 ad (ceModel cA ad) P) {N : Nat} {res : MdlS} : ∀ (μ : MdlS) (x1 : Int32) (y0 : Int32) (H : Heap) (locs : List Loc) (ls : Array Slot), f_X9_parseCommand_b71 N μ x1 y0 = some res → P μ H → (∀ q ∈ locs, lo ≤ q.base) → lv_has ls 6 [(0, .ref (ad 0)), (1, .int x1)] → W p l e rm_X9_parseCommand s m args below meth c H locs 0 0 (MQ below (cQ none (P res)) args s 0 0 (fun q => lo ≤ q)) (F0 m 71 ls [.int y0, .ref (ad 0)]) := by
  obtain ⟨⟨hx, hb, hml, hown, hts⟩, hr, hlocks, hK⟩ := id C0
  intro μ x1 y0 H locs ls hf hP hL hl
  unfold f_X9_parseCommand_b71 at hf
  refine lv_iconst (v := 3) hx hb dX9_parseCommand_71 (by decide) ?_
  obtain ⟨r1, q2, hf⟩ := cx_b hf
  refine cx_callV (As := [.int y0, .int 3]) (rest := []) ⟨hx, hb, hml, hown, hts⟩ (c_X9_require hC q2) (cwV 2 hts (gV mw_574 mw_575 mw_576 mw_5 mw_577) rfl rfl rfl hd_X9_require ⟨Nat.le_of_ble_eq_true rfl, Nat.le_of_ble_eq_true rfl⟩) hK hP rfl (at_Model hC hP) rfl hl.1 rfl (Nat.le_of_ble_eq_true rfl) dX9_parseCommand_72 ⟨Nat.zero_le _, Nat.zero_le _⟩ hL (fun H locs hP hL => ?_)
  replace hP : P r1 H := by first | exact hP | (simpa only [va_up_id] using hP)
  refine lv_aload_n hx hb dX9_parseCommand_75 rfl (lv_at hl 0 rfl) ?_
  obtain ⟨r3, q4, hf⟩ := cx_b hf
  refine cx_callV (As := []) (rest := []) ⟨hx, hb, hml, hown, hts⟩ (c_X9_advance hC q4) (cwV 0 hts (gV mw_578 mw_579 mw_580 mw_5 mw_581) rfl rfl rfl hd_X9_advance ⟨Nat.le_of_ble_eq_true rfl, Nat.le_of_ble_eq_true rfl⟩) hK hP rfl (at_Model hC hP) rfl hl.1 rfl (Nat.le_of_ble_eq_true rfl) dX9_parseCommand_76 ⟨Nat.zero_le _, Nat.zero_le _⟩ hL (fun H locs hP hL => ?_)
  replace hP : P r3 H := by first | exact hP | (simpa only [va_up_id] using hP)
  refine lv_iload_n hx hb dX9_parseCommand_79 rfl (lv_at hl 1 rfl) ?_
  refine lv_iconst (v := 2) hx hb dX9_parseCommand_80 (by decide) ?_
  refine lv_icmp_ne (tgt := 94) hx hb dX9_parseCommand_81 (by decide) (fun c5 => ?_) (fun c5 => ?_)
  · have hf := cx_f hf c5
    refine lv_aload_n hx hb dX9_parseCommand_94 rfl (lv_at hl 0 rfl) ?_
    refine lv_iconst (v := 0) hx hb dX9_parseCommand_95 (by decide) ?_
    refine lv_iconst (v := 3) hx hb dX9_parseCommand_96 (by decide) ?_
    obtain ⟨r6, q7, hf⟩ := cx_b hf
    refine cx_callV (As := [.int 0, .int 3]) (rest := []) ⟨hx, hb, hml, hown, hts⟩ (c_X9_parseNumber hC q7) (cwV 2 hts (gV mw_582 mw_583 mw_584 mw_5 mw_585) rfl rfl rfl hd_X9_parseNumber ⟨Nat.le_of_ble_eq_true rfl, Nat.le_of_ble_eq_true rfl⟩) hK hP rfl (at_Model hC hP) rfl hl.1 rfl (Nat.le_of_ble_eq_true rfl) dX9_parseCommand_97 ⟨Nat.zero_le _, Nat.zero_le _⟩ hL (fun H locs hP hL => ?_)
    replace hP : P r6.2 H := by first | exact hP | (simpa only [va_up_id] using hP)
    exact w_X9_parseCommand_b100 C0 hZ hC r6.2 x1 r6.1 _ _ _ hf hP hL (lv_sub hl [0, 1] rfl)
  · have hf := cx_t hf c5
    refine lv_aload_n hx hb dX9_parseCommand_84 rfl (lv_at hl 0 rfl) ?_
    refine lv_iconst (v := 1) hx hb dX9_parseCommand_85 (by decide) ?_
    refine lv_bipush (v := 40) hx hb dX9_parseCommand_86 (by decide) ?_
    obtain ⟨r8, q9, hf⟩ := cx_b hf
    refine cx_callV (As := [.int 1, .int 40]) (rest := []) ⟨hx, hb, hml, hown, hts⟩ (c_X9_parseNumber hC q9) (cwV 2 hts (gV mw_582 mw_583 mw_584 mw_5 mw_585) rfl rfl rfl hd_X9_parseNumber ⟨Nat.le_of_ble_eq_true rfl, Nat.le_of_ble_eq_true rfl⟩) hK hP rfl (at_Model hC hP) rfl hl.1 rfl (Nat.le_of_ble_eq_true rfl) dX9_parseCommand_88 ⟨Nat.zero_le _, Nat.zero_le _⟩ hL (fun H locs hP hL => ?_)
    replace hP : P r8.2 H := by first | exact hP | (simpa only [va_up_id] using hP)
    refine lv_goto (tgt := 100) hx hb dX9_parseCommand_91 (by decide) ?_
    exact w_X9_parseCommand_b100 C0 hZ hC r8.2 x1 r8.1 _ _ _ hf hP hL (lv_sub hl [0, 1] rfl)
def f_X9_parseCommand_b52 (N : Nat) (μ : MdlS) (x1 : Int32) (y0 : Int32) : Option (MdlS) := (f_X9_require μ y0 1).bind fun r1 => if 40 ≤ r1.1.2 9 then f_X9_parseCommand_b71 N r1 x1 0 else f_X9_parseCommand_b71 N r1 x1 1
set_option maxHeartbeats 4000000 in
set_option maxRecDepth 100000 in
theorem w_X9_parseCommand_b52 {p : Program} {l : Launch} {e : Env} {s : State} {m : MethodId} {args : Array Value} {below : List Frame} {meth : Method} {c : Code} {G : va_G} {cA : Nat → ClassId} (C0 : cB p s m args meth c RX9 cX9_parseCommand 6 none G cA) {lo : Nat} {z : ZS} (hZ : Zt lo z s) {ad : Nat → Nat} {P : MdlS → Heap → Prop} (hC : cx G lo 9 ad (ceModel cA ad) P) {N : Nat} {res : MdlS} : ∀ (μ : MdlS) (x1 : Int32) (y0 : Int32) (H : Heap) (locs : List Loc) (ls : Array Slot), f_X9_parseCommand_b52 N μ x1 y0 = some res → P μ H → (∀ q ∈ locs, lo ≤ q.base) → lv_has ls 6 [(0, .ref (ad 0)), (1, .int x1)] → W p l e rm_X9_parseCommand s m args below meth c H locs 0 0 (MQ below (cQ none (P res)) args s 0 0 (fun q => lo ≤ q)) (F0 m 52 ls [.int y0, .ref (ad 0)]) := by
  obtain ⟨⟨hx, hb, hml, hown, hts⟩, hr, hlocks, hK⟩ := id C0
  intro μ x1 y0 H locs ls hf hP hL hl
  unfold f_X9_parseCommand_b52 at hf
  refine lv_iconst (v := 1) hx hb dX9_parseCommand_52 (by decide) ?_
  obtain ⟨r1, q2, hf⟩ := cx_b hf
  refine cx_callV (As := [.int y0, .int 1]) (rest := []) ⟨hx, hb, hml, hown, hts⟩ (c_X9_require hC q2) (cwV 2 hts (gV mw_574 mw_575 mw_576 mw_5 mw_577) rfl rfl rfl hd_X9_require ⟨Nat.le_of_ble_eq_true rfl, Nat.le_of_ble_eq_true rfl⟩) hK hP rfl (at_Model hC hP) rfl hl.1 rfl (Nat.le_of_ble_eq_true rfl) dX9_parseCommand_53 ⟨Nat.zero_le _, Nat.zero_le _⟩ hL (fun H locs hP hL => ?_)
  replace hP : P r1 H := by first | exact hP | (simpa only [va_up_id] using hP)
  refine lv_aload_n hx hb dX9_parseCommand_56 rfl (lv_at hl 0 rfl) ?_
  refine lv_aload_n hx hb dX9_parseCommand_57 rfl (lv_at hl 0 rfl) ?_
  refine g_Model_9 hC hP hx hb hts hown hK mw_537 dX9_parseCommand_58 ?_
  refine lv_bipush (v := 40) hx hb dX9_parseCommand_61 (by decide) ?_
  refine lv_icmp_ge (tgt := 70) hx hb dX9_parseCommand_63 (by decide) (fun c3 => ?_) (fun c3 => ?_)
  · have hf := cx_t hf c3
    refine lv_iconst (v := 0) hx hb dX9_parseCommand_70 (by decide) ?_
    exact w_X9_parseCommand_b71 C0 hZ hC r1 x1 0 _ _ _ hf hP hL (lv_sub hl [0, 1] rfl)
  · have hf := cx_f hf c3
    refine lv_iconst (v := 1) hx hb dX9_parseCommand_66 (by decide) ?_
    refine lv_goto (tgt := 71) hx hb dX9_parseCommand_67 (by decide) ?_
    exact w_X9_parseCommand_b71 C0 hZ hC r1 x1 1 _ _ _ hf hP hL (lv_sub hl [0, 1] rfl)
def f_X9_parseCommand (N : Nat) (μ : MdlS) : Option (MdlS) := (f_X9_isWord N μ 4).bind fun r1 => if r1 = 0 then (f_X9_isWord N μ 5).bind fun r4 => if r4 = 0 then (f_X9_isWord N μ 6).bind fun r7 => if r7 = 0 then f_X9_parseCommand_b52 N μ (-1) 0 else f_X9_parseCommand_b52 N μ 2 1 else f_X9_parseCommand_b52 N μ 1 1 else f_X9_parseCommand_b52 N μ 0 1
set_option maxHeartbeats 4000000 in
set_option maxRecDepth 100000 in
theorem c_X9_parseCommand {l : Launch} {G : va_G} {cA : Nat → ClassId} {lo : Nat} {z : ZS} {ad : Nat → Nat} {P : MdlS → Heap → Prop} (hC : cx G lo 9 ad (ceModel cA ad) P) {N : Nat} {μ : MdlS} {res : MdlS} (hf : f_X9_parseCommand N μ = some res) : Met l yX9_parseCommand (cW yX9_parseCommand cX9_parseCommand 6 none) rm_X9_parseCommand (cPZ lo z [.ref (ad 0)] (P μ) G cA) (cQ none (P res)) 0 0 (fun q => lo ≤ q) := by
  refine cx_metZ (by decide) (Nat.le_of_ble_eq_true rfl) (fun p e s m args below meth c ls C0 hZ hP hl => ?_)
  have hl : lv_has ls 6 [(0, .ref (ad 0))] := hl
  obtain ⟨⟨hx, hb, hml, hown, hts⟩, hr, hlocks, hK⟩ := id C0
  have hL : ∀ q ∈ ([] : List Loc), lo ≤ q.base := fun q h => nomatch h
  unfold f_X9_parseCommand at hf
  refine lv_aload_n hx hb dX9_parseCommand_0 rfl (lv_at hl 0 rfl) ?_
  refine va_ldcS hx hb hown (hZ.1 4 (by decide)).1 dX9_parseCommand_1 ?_
  obtain ⟨r1, q2, hf⟩ := cx_b hf
  refine cx_callVZ (As := [.ref (z.1 4)]) (rest := []) ⟨hx, hb, hml, hown, hts⟩ (c_X9_isWord hC (by decide) q2) (cwV 1 hts (gV mw_568 mw_569 mw_570 mw_5 mw_571) rfl rfl rfl hd_X9_isWord ⟨Nat.le_of_ble_eq_true rfl, Nat.le_of_ble_eq_true rfl⟩) hK hZ hP rfl (at_Model hC hP) rfl hl.1 rfl (Nat.le_of_ble_eq_true rfl) dX9_parseCommand_3 ⟨Nat.zero_le _, Nat.zero_le _⟩ hL (fun H locs hP hL => ?_)
  replace hP : P μ H := by first | exact hP | (simpa only [va_up_id] using hP)
  refine lv_if_eq (tgt := 13) hx hb dX9_parseCommand_6 (by decide) (fun c3 => ?_) (fun c3 => ?_)
  · have hf := cx_t hf c3
    refine lv_aload_n hx hb dX9_parseCommand_13 rfl (lv_at hl 0 rfl) ?_
    refine va_ldcS hx hb hown (hZ.1 5 (by decide)).1 dX9_parseCommand_14 ?_
    obtain ⟨r4, q5, hf⟩ := cx_b hf
    refine cx_callVZ (As := [.ref (z.1 5)]) (rest := []) ⟨hx, hb, hml, hown, hts⟩ (c_X9_isWord hC (by decide) q5) (cwV 1 hts (gV mw_568 mw_569 mw_570 mw_5 mw_571) rfl rfl rfl hd_X9_isWord ⟨Nat.le_of_ble_eq_true rfl, Nat.le_of_ble_eq_true rfl⟩) hK hZ hP rfl (at_Model hC hP) rfl hl.1 rfl (Nat.le_of_ble_eq_true rfl) dX9_parseCommand_16 ⟨Nat.zero_le _, Nat.zero_le _⟩ hL (fun H locs hP hL => ?_)
    replace hP : P μ H := by first | exact hP | (simpa only [va_up_id] using hP)
    refine lv_if_eq (tgt := 26) hx hb dX9_parseCommand_19 (by decide) (fun c6 => ?_) (fun c6 => ?_)
    · have hf := cx_t hf c6
      refine lv_aload_n hx hb dX9_parseCommand_26 rfl (lv_at hl 0 rfl) ?_
      refine va_ldcS hx hb hown (hZ.1 6 (by decide)).1 dX9_parseCommand_27 ?_
      obtain ⟨r7, q8, hf⟩ := cx_b hf
      refine cx_callVZ (As := [.ref (z.1 6)]) (rest := []) ⟨hx, hb, hml, hown, hts⟩ (c_X9_isWord hC (by decide) q8) (cwV 1 hts (gV mw_568 mw_569 mw_570 mw_5 mw_571) rfl rfl rfl hd_X9_isWord ⟨Nat.le_of_ble_eq_true rfl, Nat.le_of_ble_eq_true rfl⟩) hK hZ hP rfl (at_Model hC hP) rfl hl.1 rfl (Nat.le_of_ble_eq_true rfl) dX9_parseCommand_29 ⟨Nat.zero_le _, Nat.zero_le _⟩ hL (fun H locs hP hL => ?_)
      replace hP : P μ H := by first | exact hP | (simpa only [va_up_id] using hP)
      refine lv_if_eq (tgt := 39) hx hb dX9_parseCommand_32 (by decide) (fun c9 => ?_) (fun c9 => ?_)
      · have hf := cx_t hf c9
        refine lv_iconst (v := (-1)) hx hb dX9_parseCommand_39 (by decide) ?_
        refine lv_istore_n (lv' := [(1, .int (-1)), (0, .ref (ad 0))]) hx hb dX9_parseCommand_40 rfl hl (by decide) rfl (fun ls hl => ?_)
        refine lv_aload_n hx hb dX9_parseCommand_41 rfl (lv_at hl 1 rfl) ?_
        refine lv_iload_n hx hb dX9_parseCommand_42 rfl (lv_at hl 0 rfl) ?_
        refine lv_iconst (v := (-1)) hx hb dX9_parseCommand_43 (by decide) ?_
        refine lv_icmp_eq (tgt := 51) hx hb dX9_parseCommand_44 (by decide) (fun _ => ?_) (fun q => absurd (by decide) q)
        refine lv_iconst (v := 0) hx hb dX9_parseCommand_51 (by decide) ?_
        exact w_X9_parseCommand_b52 C0 hZ hC μ (-1) 0 _ _ _ hf hP hL (lv_sub hl [1, 0] rfl)
      · have hf := cx_f hf c9
        refine lv_iconst (v := 2) hx hb dX9_parseCommand_35 (by decide) ?_
        refine lv_goto (tgt := 40) hx hb dX9_parseCommand_36 (by decide) ?_
        refine lv_istore_n (lv' := [(1, .int 2), (0, .ref (ad 0))]) hx hb dX9_parseCommand_40 rfl hl (by decide) rfl (fun ls hl => ?_)
        refine lv_aload_n hx hb dX9_parseCommand_41 rfl (lv_at hl 1 rfl) ?_
        refine lv_iload_n hx hb dX9_parseCommand_42 rfl (lv_at hl 0 rfl) ?_
        refine lv_iconst (v := (-1)) hx hb dX9_parseCommand_43 (by decide) ?_
        refine lv_icmp_eq (tgt := 51) hx hb dX9_parseCommand_44 (by decide) (fun q => absurd q (by decide)) (fun _ => ?_)
        refine lv_iconst (v := 1) hx hb dX9_parseCommand_47 (by decide) ?_
        refine lv_goto (tgt := 52) hx hb dX9_parseCommand_48 (by decide) ?_
        exact w_X9_parseCommand_b52 C0 hZ hC μ 2 1 _ _ _ hf hP hL (lv_sub hl [1, 0] rfl)
    · have hf := cx_f hf c6
      refine lv_iconst (v := 1) hx hb dX9_parseCommand_22 (by decide) ?_
      refine lv_goto (tgt := 40) hx hb dX9_parseCommand_23 (by decide) ?_
      refine lv_istore_n (lv' := [(1, .int 1), (0, .ref (ad 0))]) hx hb dX9_parseCommand_40 rfl hl (by decide) rfl (fun ls hl => ?_)
      refine lv_aload_n hx hb dX9_parseCommand_41 rfl (lv_at hl 1 rfl) ?_
      refine lv_iload_n hx hb dX9_parseCommand_42 rfl (lv_at hl 0 rfl) ?_
      refine lv_iconst (v := (-1)) hx hb dX9_parseCommand_43 (by decide) ?_
      refine lv_icmp_eq (tgt := 51) hx hb dX9_parseCommand_44 (by decide) (fun q => absurd q (by decide)) (fun _ => ?_)
      refine lv_iconst (v := 1) hx hb dX9_parseCommand_47 (by decide) ?_
      refine lv_goto (tgt := 52) hx hb dX9_parseCommand_48 (by decide) ?_
      exact w_X9_parseCommand_b52 C0 hZ hC μ 1 1 _ _ _ hf hP hL (lv_sub hl [1, 0] rfl)
  · have hf := cx_f hf c3
    refine lv_iconst (v := 0) hx hb dX9_parseCommand_9 (by decide) ?_
    refine lv_goto (tgt := 40) hx hb dX9_parseCommand_10 (by decide) ?_
    refine lv_istore_n (lv' := [(1, .int 0), (0, .ref (ad 0))]) hx hb dX9_parseCommand_40 rfl hl (by decide) rfl (fun ls hl => ?_)
    refine lv_aload_n hx hb dX9_parseCommand_41 rfl (lv_at hl 1 rfl) ?_
    refine lv_iload_n hx hb dX9_parseCommand_42 rfl (lv_at hl 0 rfl) ?_
    refine lv_iconst (v := (-1)) hx hb dX9_parseCommand_43 (by decide) ?_
    refine lv_icmp_eq (tgt := 51) hx hb dX9_parseCommand_44 (by decide) (fun q => absurd q (by decide)) (fun _ => ?_)
    refine lv_iconst (v := 1) hx hb dX9_parseCommand_47 (by decide) ?_
    refine lv_goto (tgt := 52) hx hb dX9_parseCommand_48 (by decide) ?_
    exact w_X9_parseCommand_b52 C0 hZ hC μ 0 1 _ _ _ hf hP hL (lv_sub hl [1, 0] rfl)
abbrev rm_X9_isDirty : Room := { frames := 1, cells := 0, slots := 0, locals := 22 }
theorem hd_X9_isDirty : yX9_isDirty.cls = RX9 ∧ yX9_isDirty.cls ≠ "java/lang/invoke/MethodHandle" ∧ yX9_isDirty.cls ≠ "java/lang/invoke/VarHandle" ∧ (parseMethodDescriptor yX9_isDirty.desc).map (fun d => d.parameters.length) = some 1 := by decide +kernel
def f_X9_isDirty (μ : MdlS) (p0 : Int32) : Option (Int32) := (f_X9_of μ p0 0).bind fun r1 => if r1 = (-1) then some 0 else (f_X9_of μ p0 3).bind fun r4 => if r4 = (-1) then some 0 else some 1
set_option maxHeartbeats 4000000 in
set_option maxRecDepth 100000 in
theorem c_X9_isDirty {l : Launch} {G : va_G} {cA : Nat → ClassId} {lo : Nat} {ad : Nat → Nat} {P : MdlS → Heap → Prop} (hC : cx G lo 9 ad (ceModel cA ad) P) {μ : MdlS} {p0 : Int32} {res : Int32} (hf : f_X9_isDirty μ p0 = some res) : Met l yX9_isDirty (cW yX9_isDirty cX9_isDirty 2 (some .boolean)) rm_X9_isDirty (cP [.ref (ad 0), .int p0] (P μ) G cA) (cQ (some (.int res)) (P μ)) 0 0 (fun q => lo ≤ q) := by
  refine cx_met (by decide) (Nat.le_of_ble_eq_true rfl) (fun p e s m args below meth c ls C0 hP hl => ?_)
  have hl : lv_has ls 2 [(0, .ref (ad 0)), (1, .int p0)] := hl
  obtain ⟨⟨hx, hb, hml, hown, hts⟩, hr, hlocks, hK⟩ := id C0
  have hL : ∀ q ∈ ([] : List Loc), lo ≤ q.base := fun q h => nomatch h
  unfold f_X9_isDirty at hf
  refine lv_aload_n hx hb dX9_isDirty_0 rfl (lv_at hl 0 rfl) ?_
  refine lv_iload_n hx hb dX9_isDirty_1 rfl (lv_at hl 1 rfl) ?_
  refine lv_iconst (v := 0) hx hb dX9_isDirty_2 (by decide) ?_
  obtain ⟨r1, q2, hf⟩ := cx_b hf
  refine cx_callV (As := [.int p0, .int 0]) (rest := []) ⟨hx, hb, hml, hown, hts⟩ (c_X9_of hC q2) (cwV 2 hts (gV mw_618 mw_619 mw_620 mw_5 mw_621) rfl rfl rfl hd_X9_of ⟨Nat.le_of_ble_eq_true rfl, Nat.le_of_ble_eq_true rfl⟩) hK hP rfl (at_Model hC hP) rfl hl.1 rfl (Nat.le_of_ble_eq_true rfl) dX9_isDirty_3 ⟨Nat.zero_le _, Nat.zero_le _⟩ hL (fun H locs hP hL => ?_)
  replace hP : P μ H := by first | exact hP | (simpa only [va_up_id] using hP)
  refine lv_iconst (v := (-1)) hx hb dX9_isDirty_6 (by decide) ?_
  refine lv_icmp_eq (tgt := 24) hx hb dX9_isDirty_7 (by decide) (fun c3 => ?_) (fun c3 => ?_)
  · have hf := cx_t hf c3
    refine lv_iconst (v := 0) hx hb dX9_isDirty_24 (by decide) ?_
    cases hf
    exact cx_zret hx hb hr hlocks (Or.inl rfl) hP hL dX9_isDirty_25
  · have hf := cx_f hf c3
    refine lv_aload_n hx hb dX9_isDirty_10 rfl (lv_at hl 0 rfl) ?_
    refine lv_iload_n hx hb dX9_isDirty_11 rfl (lv_at hl 1 rfl) ?_
    refine lv_iconst (v := 3) hx hb dX9_isDirty_12 (by decide) ?_
    obtain ⟨r4, q5, hf⟩ := cx_b hf
    refine cx_callV (As := [.int p0, .int 3]) (rest := []) ⟨hx, hb, hml, hown, hts⟩ (c_X9_of hC q5) (cwV 2 hts (gV mw_618 mw_619 mw_620 mw_5 mw_621) rfl rfl rfl hd_X9_of ⟨Nat.le_of_ble_eq_true rfl, Nat.le_of_ble_eq_true rfl⟩) hK hP rfl (at_Model hC hP) rfl hl.1 rfl (Nat.le_of_ble_eq_true rfl) dX9_isDirty_13 ⟨Nat.zero_le _, Nat.zero_le _⟩ hL (fun H locs hP hL => ?_)
    replace hP : P μ H := by first | exact hP | (simpa only [va_up_id] using hP)
    refine lv_iconst (v := (-1)) hx hb dX9_isDirty_16 (by decide) ?_
    refine lv_icmp_eq (tgt := 24) hx hb dX9_isDirty_17 (by decide) (fun c6 => ?_) (fun c6 => ?_)
    · have hf := cx_t hf c6
      refine lv_iconst (v := 0) hx hb dX9_isDirty_24 (by decide) ?_
      cases hf
      exact cx_zret hx hb hr hlocks (Or.inl rfl) hP hL dX9_isDirty_25
    · have hf := cx_f hf c6
      refine lv_iconst (v := 1) hx hb dX9_isDirty_20 (by decide) ?_
      refine lv_goto (tgt := 25) hx hb dX9_isDirty_21 (by decide) ?_
      cases hf
      exact cx_zret hx hb hr hlocks (Or.inr rfl) hP hL dX9_isDirty_25
abbrev rm_X9_inOrder : Room := { frames := 2, cells := 0, slots := 0, locals := 43 }
theorem hd_X9_inOrder : yX9_inOrder.cls = RX9 ∧ yX9_inOrder.cls ≠ "java/lang/invoke/MethodHandle" ∧ yX9_inOrder.cls ≠ "java/lang/invoke/VarHandle" ∧ (parseMethodDescriptor yX9_inOrder.desc).map (fun d => d.parameters.length) = some 1 := by decide +kernel
def f_X9_inOrder_b4 (N : Nat) : Nat → MdlS → Int32 → Int32 → Option (Int32)
  | 0, _, _, _ => none
  | n + 1, μ, x2, x3 => if 200 ≤ x3 then some (-1) else gd 13 1384 ((f_X9_isDirty μ (((μ.1.1 0 (Int32.toNatClampNeg 13)) + x3) - ((μ.1.1 0 (Int32.toNatClampNeg 13)) + x3) / 200 * 200)).bind fun r3 => if r3 = 0 then f_X9_inOrder_b4 N n μ x2 (x3 + 1) else if x2 = 0 then some (((μ.1.1 0 (Int32.toNatClampNeg 13)) + x3) - ((μ.1.1 0 (Int32.toNatClampNeg 13)) + x3) / 200 * 200) else f_X9_inOrder_b4 N n μ (x2 + (-1)) (x3 + 1))
set_option maxHeartbeats 4000000 in
set_option maxRecDepth 100000 in
theorem w_X9_inOrder_b4 {p : Program} {l : Launch} {e : Env} {s : State} {m : MethodId} {args : Array Value} {below : List Frame} {meth : Method} {c : Code} {G : va_G} {cA : Nat → ClassId} (C0 : cB p s m args meth c RX9 cX9_inOrder 5 (some .int) G cA) {lo : Nat} {ad : Nat → Nat} {P : MdlS → Heap → Prop} (hC : cx G lo 9 ad (ceModel cA ad) P) {N : Nat} {res : Int32} : ∀ (n : Nat) (μ : MdlS) (x2 : Int32) (x3 : Int32) (H : Heap) (locs : List Loc) (ls : Array Slot), f_X9_inOrder_b4 N n μ x2 x3 = some res → P μ H → (∀ q ∈ locs, lo ≤ q.base) → lv_has ls 5 [(0, .ref (ad 0)), (2, .int x2), (3, .int x3)] → W p l e rm_X9_inOrder s m args below meth c H locs 0 0 (MQ below (cQ (some (.int res)) (P μ)) args s 0 0 (fun q => lo ≤ q)) (F0 m 4 ls []) := by
  obtain ⟨⟨hx, hb, hml, hown, hts⟩, hr, hlocks, hK⟩ := id C0
  intro n
  induction n with
  | zero => intro μ x2 x3 H locs ls
            exact fun hf => nomatch hf
  | succ n ih =>
    intro μ x2 x3 H locs ls hf hP hL hl
    rw [f_X9_inOrder_b4] at hf
    refine lv_iload_n hx hb dX9_inOrder_4 rfl (lv_at hl 2 rfl) ?_
    refine lv_sipush (v := 200) hx hb dX9_inOrder_5 (by decide) ?_
    refine lv_icmp_ge (tgt := 51) hx hb dX9_inOrder_8 (by decide) (fun c1 => ?_) (fun c1 => ?_)
    · have hf := cx_t hf c1
      refine lv_iconst (v := (-1)) hx hb dX9_inOrder_51 (by decide) ?_
      cases hf
      exact cx_iret hx hb hr hlocks hP hL dX9_inOrder_52
    · have hf := cx_f hf c1
      refine lv_aload_n hx hb dX9_inOrder_11 rfl (lv_at hl 0 rfl) ?_
      refine g_Model_0 hC hP hx hb hts hown hK mw_114 dX9_inOrder_12 ?_
      refine lv_bipush (v := 13) hx hb dX9_inOrder_15 (by decide) ?_
      obtain ⟨hi2, hf⟩ := gdE hf
      refine ga_Model_0 hC hP hx hb hK hi2 dX9_inOrder_17 ?_
      refine lv_iload_n hx hb dX9_inOrder_18 rfl (lv_at hl 2 rfl) ?_
      refine lv_iadd hx hb dX9_inOrder_19 ?_
      refine lv_sipush (v := 200) hx hb dX9_inOrder_20 (by decide) ?_
      refine lv_irem hx hb dX9_inOrder_23 (by decide) ?_
      refine lv_istore (lv' := [(4, .int (((μ.1.1 0 (Int32.toNatClampNeg 13)) + x3) - ((μ.1.1 0 (Int32.toNatClampNeg 13)) + x3) / 200 * 200)), (0, .ref (ad 0)), (2, .int x2), (3, .int x3)]) hx hb dX9_inOrder_24 hl (by decide) rfl (fun ls hl => ?_)
      refine lv_aload_n hx hb dX9_inOrder_26 rfl (lv_at hl 1 rfl) ?_
      refine lv_iload hx hb dX9_inOrder_27 (lv_at hl 0 rfl) ?_
      obtain ⟨r3, q4, hf⟩ := cx_b hf
      refine cx_callV (As := [.int (((μ.1.1 0 (Int32.toNatClampNeg 13)) + x3) - ((μ.1.1 0 (Int32.toNatClampNeg 13)) + x3) / 200 * 200)]) (rest := []) ⟨hx, hb, hml, hown, hts⟩ (c_X9_isDirty hC q4) (cwV 1 hts (gV mw_614 mw_615 mw_616 mw_5 mw_617) rfl rfl rfl hd_X9_isDirty ⟨Nat.le_of_ble_eq_true rfl, Nat.le_of_ble_eq_true rfl⟩) hK hP rfl (at_Model hC hP) rfl hl.1 rfl (Nat.le_of_ble_eq_true rfl) dX9_inOrder_29 ⟨Nat.zero_le _, Nat.zero_le _⟩ hL (fun H locs hP hL => ?_)
      replace hP : P μ H := by first | exact hP | (simpa only [va_up_id] using hP)
      refine lv_if_eq (tgt := 45) hx hb dX9_inOrder_32 (by decide) (fun c5 => ?_) (fun c5 => ?_)
      · have hf := cx_t hf c5
        refine lv_iinc (v := (x3 + 1)) (lv' := [(3, .int (x3 + 1)), (4, .int (((μ.1.1 0 (Int32.toNatClampNeg 13)) + x3) - ((μ.1.1 0 (Int32.toNatClampNeg 13)) + x3) / 200 * 200)), (0, .ref (ad 0)), (2, .int x2)]) hx hb dX9_inOrder_45 hl (k := 3) rfl rfl (by decide) rfl (fun ls hl => ?_)
        refine lv_goto (tgt := 4) hx hb dX9_inOrder_48 (by decide) ?_
        exact ih μ x2 (x3 + 1) _ _ _ hf hP hL (lv_sub hl [2, 3, 0] rfl)
      · have hf := cx_f hf c5
        refine lv_iload_n hx hb dX9_inOrder_35 rfl (lv_at hl 2 rfl) ?_
        refine lv_if_ne (tgt := 42) hx hb dX9_inOrder_36 (by decide) (fun c6 => ?_) (fun c6 => ?_)
        · have hf := cx_f hf c6
          refine lv_iinc (v := (x2 + (-1))) (lv' := [(2, .int (x2 + (-1))), (4, .int (((μ.1.1 0 (Int32.toNatClampNeg 13)) + x3) - ((μ.1.1 0 (Int32.toNatClampNeg 13)) + x3) / 200 * 200)), (0, .ref (ad 0)), (3, .int x3)]) hx hb dX9_inOrder_42 hl (k := 2) rfl rfl (by decide) rfl (fun ls hl => ?_)
          refine lv_iinc (v := (x3 + 1)) (lv' := [(3, .int (x3 + 1)), (2, .int (x2 + (-1))), (4, .int (((μ.1.1 0 (Int32.toNatClampNeg 13)) + x3) - ((μ.1.1 0 (Int32.toNatClampNeg 13)) + x3) / 200 * 200)), (0, .ref (ad 0))]) hx hb dX9_inOrder_45 hl (k := 3) rfl rfl (by decide) rfl (fun ls hl => ?_)
          refine lv_goto (tgt := 4) hx hb dX9_inOrder_48 (by decide) ?_
          exact ih μ (x2 + (-1)) (x3 + 1) _ _ _ hf hP hL (lv_sub hl [3, 1, 0] rfl)
        · have hf := cx_t hf c6
          refine lv_iload hx hb dX9_inOrder_39 (lv_at hl 0 rfl) ?_
          cases hf
          exact cx_iret hx hb hr hlocks hP hL dX9_inOrder_41
def f_X9_inOrder (N : Nat) (μ : MdlS) (p0 : Int32) : Option (Int32) := f_X9_inOrder_b4 N N μ p0 0
set_option maxHeartbeats 4000000 in
set_option maxRecDepth 100000 in
theorem c_X9_inOrder {l : Launch} {G : va_G} {cA : Nat → ClassId} {lo : Nat} {ad : Nat → Nat} {P : MdlS → Heap → Prop} (hC : cx G lo 9 ad (ceModel cA ad) P) {N : Nat} {μ : MdlS} {p0 : Int32} {res : Int32} (hf : f_X9_inOrder N μ p0 = some res) : Met l yX9_inOrder (cW yX9_inOrder cX9_inOrder 5 (some .int)) rm_X9_inOrder (cP [.ref (ad 0), .int p0] (P μ) G cA) (cQ (some (.int res)) (P μ)) 0 0 (fun q => lo ≤ q) := by
  refine cx_met (by decide) (Nat.le_of_ble_eq_true rfl) (fun p e s m args below meth c ls C0 hP hl => ?_)
  have hl : lv_has ls 5 [(0, .ref (ad 0)), (1, .int p0)] := hl
  obtain ⟨⟨hx, hb, hml, hown, hts⟩, hr, hlocks, hK⟩ := id C0
  have hL : ∀ q ∈ ([] : List Loc), lo ≤ q.base := fun q h => nomatch h
  unfold f_X9_inOrder at hf
  refine lv_iload_n hx hb dX9_inOrder_0 rfl (lv_at hl 1 rfl) ?_
  refine lv_istore_n (lv' := [(2, .int p0), (0, .ref (ad 0)), (1, .int p0)]) hx hb dX9_inOrder_1 rfl hl (by decide) rfl (fun ls hl => ?_)
  refine lv_iconst (v := 0) hx hb dX9_inOrder_2 (by decide) ?_
  refine lv_istore_n (lv' := [(3, .int 0), (2, .int p0), (0, .ref (ad 0)), (1, .int p0)]) hx hb dX9_inOrder_3 rfl hl (by decide) rfl (fun ls hl => ?_)
  exact w_X9_inOrder_b4 C0 hC N μ p0 0 _ _ _ hf hP hL (lv_sub hl [2, 1, 0] rfl)
abbrev rm_X9_writeUnit : Room := { frames := 1, cells := 0, slots := 0, locals := 23 }
theorem hd_X9_writeUnit : yX9_writeUnit.cls = RX9 ∧ yX9_writeUnit.cls ≠ "java/lang/invoke/MethodHandle" ∧ yX9_writeUnit.cls ≠ "java/lang/invoke/VarHandle" ∧ (parseMethodDescriptor yX9_writeUnit.desc).map (fun d => d.parameters.length) = some 1 := by decide +kernel
def f_X9_writeUnit (μ : MdlS) (p0 : Int32) : Option (MdlS) := (f_X9_of μ p0 1).bind fun r1 => gd (1184 + p0) 1384 (cx_let ((oA μ.1 0 (Int32.toNatClampNeg (1184 + p0)) r1, μ.2)) fun z4 => (f_X9_put z4 p0 3 (-1)).bind fun r5 => gd 13 1384 (cx_let ((oA r5.1 0 (Int32.toNatClampNeg 13) ((p0 + 1) - (p0 + 1) / 200 * 200), r5.2)) fun z8 => gd 21 1384 (gd 21 1384 (cx_let ((oA z8.1 0 (Int32.toNatClampNeg 21) ((z8.1.1 0 (Int32.toNatClampNeg 21)) + 1), z8.2)) fun z11 => some z11))))
set_option maxHeartbeats 4000000 in
set_option maxRecDepth 100000 in
theorem c_X9_writeUnit {l : Launch} {G : va_G} {cA : Nat → ClassId} {lo : Nat} {ad : Nat → Nat} {P : MdlS → Heap → Prop} (hC : cx G lo 9 ad (ceModel cA ad) P) {μ : MdlS} {p0 : Int32} {res : MdlS} (hf : f_X9_writeUnit μ p0 = some res) : Met l yX9_writeUnit (cW yX9_writeUnit cX9_writeUnit 2 none) rm_X9_writeUnit (cP [.ref (ad 0), .int p0] (P μ) G cA) (cQ none (P res)) 0 0 (fun q => lo ≤ q) := by
  refine cx_met (by decide) (Nat.le_of_ble_eq_true rfl) (fun p e s m args below meth c ls C0 hP hl => ?_)
  have hl : lv_has ls 2 [(0, .ref (ad 0)), (1, .int p0)] := hl
  obtain ⟨⟨hx, hb, hml, hown, hts⟩, hr, hlocks, hK⟩ := id C0
  have hL : ∀ q ∈ ([] : List Loc), lo ≤ q.base := fun q h => nomatch h
  unfold f_X9_writeUnit at hf
  refine lv_aload_n hx hb dX9_writeUnit_0 rfl (lv_at hl 0 rfl) ?_
  refine g_Model_0 hC hP hx hb hts hown hK mw_114 dX9_writeUnit_1 ?_
  refine lv_sipush (v := 1184) hx hb dX9_writeUnit_4 (by decide) ?_
  refine lv_iload_n hx hb dX9_writeUnit_7 rfl (lv_at hl 1 rfl) ?_
  refine lv_iadd hx hb dX9_writeUnit_8 ?_
  refine lv_aload_n hx hb dX9_writeUnit_9 rfl (lv_at hl 0 rfl) ?_
  refine lv_iload_n hx hb dX9_writeUnit_10 rfl (lv_at hl 1 rfl) ?_
  refine lv_iconst (v := 1) hx hb dX9_writeUnit_11 (by decide) ?_
  obtain ⟨r1, q2, hf⟩ := cx_b hf
  refine cx_callV (As := [.int p0, .int 1]) (rest := [.int (1184 + p0), .ref (ad 1)]) ⟨hx, hb, hml, hown, hts⟩ (c_X9_of hC q2) (cwV 2 hts (gV mw_618 mw_619 mw_620 mw_5 mw_621) rfl rfl rfl hd_X9_of ⟨Nat.le_of_ble_eq_true rfl, Nat.le_of_ble_eq_true rfl⟩) hK hP rfl (at_Model hC hP) rfl hl.1 rfl (Nat.le_of_ble_eq_true rfl) dX9_writeUnit_12 ⟨Nat.zero_le _, Nat.zero_le _⟩ hL (fun H locs hP hL => ?_)
  replace hP : P μ H := by first | exact hP | (simpa only [va_up_id] using hP)
  obtain ⟨hi3, hf⟩ := gdE hf
  obtain ⟨z4, ez4, hf⟩ := cx_letE hf
  refine pa_Model_0 hC hP hx hb hK hi3 dX9_writeUnit_15 hL (fun H locs hP hL => ?_)
  replace hP : P z4 H := by rw [← ez4]; exact hP
  refine lv_aload_n hx hb dX9_writeUnit_16 rfl (lv_at hl 0 rfl) ?_
  refine lv_iload_n hx hb dX9_writeUnit_17 rfl (lv_at hl 1 rfl) ?_
  refine lv_iconst (v := 3) hx hb dX9_writeUnit_18 (by decide) ?_
  refine lv_iconst (v := (-1)) hx hb dX9_writeUnit_19 (by decide) ?_
  obtain ⟨r5, q6, hf⟩ := cx_b hf
  refine cx_callV (As := [.int p0, .int 3, .int (-1)]) (rest := []) ⟨hx, hb, hml, hown, hts⟩ (c_X9_put hC q6) (cwV 3 hts (gV mw_124 mw_125 mw_126 mw_5 mw_127) rfl rfl rfl hd_X9_put ⟨Nat.le_of_ble_eq_true rfl, Nat.le_of_ble_eq_true rfl⟩) hK hP rfl (at_Model hC hP) rfl hl.1 rfl (Nat.le_of_ble_eq_true rfl) dX9_writeUnit_20 ⟨Nat.zero_le _, Nat.zero_le _⟩ hL (fun H locs hP hL => ?_)
  replace hP : P r5 H := by first | exact hP | (simpa only [va_up_id] using hP)
  refine lv_aload_n hx hb dX9_writeUnit_23 rfl (lv_at hl 0 rfl) ?_
  refine g_Model_0 hC hP hx hb hts hown hK mw_114 dX9_writeUnit_24 ?_
  refine lv_bipush (v := 13) hx hb dX9_writeUnit_27 (by decide) ?_
  refine lv_iload_n hx hb dX9_writeUnit_29 rfl (lv_at hl 1 rfl) ?_
  refine lv_iconst (v := 1) hx hb dX9_writeUnit_30 (by decide) ?_
  refine lv_iadd hx hb dX9_writeUnit_31 ?_
  refine lv_sipush (v := 200) hx hb dX9_writeUnit_32 (by decide) ?_
  refine lv_irem hx hb dX9_writeUnit_35 (by decide) ?_
  obtain ⟨hi7, hf⟩ := gdE hf
  obtain ⟨z8, ez8, hf⟩ := cx_letE hf
  refine pa_Model_0 hC hP hx hb hK hi7 dX9_writeUnit_36 hL (fun H locs hP hL => ?_)
  replace hP : P z8 H := by rw [← ez8]; exact hP
  refine lv_aload_n hx hb dX9_writeUnit_37 rfl (lv_at hl 0 rfl) ?_
  refine g_Model_0 hC hP hx hb hts hown hK mw_114 dX9_writeUnit_38 ?_
  refine lv_bipush (v := 21) hx hb dX9_writeUnit_41 (by decide) ?_
  refine lv_dup2_11 hx hb dX9_writeUnit_43 rfl rfl ?_
  obtain ⟨hi9, hf⟩ := gdE hf
  refine ga_Model_0 hC hP hx hb hK hi9 dX9_writeUnit_44 ?_
  refine lv_iconst (v := 1) hx hb dX9_writeUnit_45 (by decide) ?_
  refine lv_iadd hx hb dX9_writeUnit_46 ?_
  obtain ⟨hi10, hf⟩ := gdE hf
  obtain ⟨z11, ez11, hf⟩ := cx_letE hf
  refine pa_Model_0 hC hP hx hb hK hi10 dX9_writeUnit_47 hL (fun H locs hP hL => ?_)
  replace hP : P z11 H := by rw [← ez11]; exact hP
  cases hf
  exact cx_vret hx hb hr hlocks hP hL dX9_writeUnit_48
abbrev rm_X9_writeBack : Room := { frames := 3, cells := 0, slots := 0, locals := 67 }
theorem hd_X9_writeBack : yX9_writeBack.cls = RX9 ∧ yX9_writeBack.cls ≠ "java/lang/invoke/MethodHandle" ∧ yX9_writeBack.cls ≠ "java/lang/invoke/VarHandle" ∧ (parseMethodDescriptor yX9_writeBack.desc).map (fun d => d.parameters.length) = some 1 := by decide +kernel
def f_X9_writeBack_b8 (N : Nat) : Nat → MdlS → Int32 → Int32 → Int32 → Option (Int32 × MdlS)
  | 0, _, _, _, _ => none
  | n + 1, μ, x1, x2, x3 => if x1 ≤ x2 then some (x2, μ) else if x3 = (-1) then some (x2, μ) else (f_X9_writeUnit μ x3).bind fun r3 => (f_X9_inOrder N r3 0).bind fun r5 => f_X9_writeBack_b8 N n r3 x1 (x2 + 1) r5
set_option maxHeartbeats 4000000 in
set_option maxRecDepth 100000 in
theorem w_X9_writeBack_b8 {p : Program} {l : Launch} {e : Env} {s : State} {m : MethodId} {args : Array Value} {below : List Frame} {meth : Method} {c : Code} {G : va_G} {cA : Nat → ClassId} (C0 : cB p s m args meth c RX9 cX9_writeBack 4 (some .int) G cA) {lo : Nat} {ad : Nat → Nat} {P : MdlS → Heap → Prop} (hC : cx G lo 9 ad (ceModel cA ad) P) {N : Nat} {res : Int32 × MdlS} : ∀ (n : Nat) (μ : MdlS) (x1 : Int32) (x2 : Int32) (x3 : Int32) (H : Heap) (locs : List Loc) (ls : Array Slot), f_X9_writeBack_b8 N n μ x1 x2 x3 = some res → P μ H → (∀ q ∈ locs, lo ≤ q.base) → lv_has ls 4 [(0, .ref (ad 0)), (1, .int x1), (2, .int x2), (3, .int x3)] → W p l e rm_X9_writeBack s m args below meth c H locs 0 0 (MQ below (cQ (some (.int res.1)) (P res.2)) args s 0 0 (fun q => lo ≤ q)) (F0 m 8 ls []) := by
  obtain ⟨⟨hx, hb, hml, hown, hts⟩, hr, hlocks, hK⟩ := id C0
  intro n
  induction n with
  | zero => intro μ x1 x2 x3 H locs ls
            exact fun hf => nomatch hf
  | succ n ih =>
    intro μ x1 x2 x3 H locs ls hf hP hL hl
    rw [f_X9_writeBack_b8] at hf
    refine lv_iload_n hx hb dX9_writeBack_8 rfl (lv_at hl 2 rfl) ?_
    refine lv_iload_n hx hb dX9_writeBack_9 rfl (lv_at hl 1 rfl) ?_
    refine lv_icmp_ge (tgt := 35) hx hb dX9_writeBack_10 (by decide) (fun c1 => ?_) (fun c1 => ?_)
    · have hf := cx_t hf c1
      refine lv_iload_n hx hb dX9_writeBack_35 rfl (lv_at hl 2 rfl) ?_
      cases hf
      exact cx_iret hx hb hr hlocks hP hL dX9_writeBack_36
    · have hf := cx_f hf c1
      refine lv_iload_n hx hb dX9_writeBack_13 rfl (lv_at hl 3 rfl) ?_
      refine lv_iconst (v := (-1)) hx hb dX9_writeBack_14 (by decide) ?_
      refine lv_icmp_eq (tgt := 35) hx hb dX9_writeBack_15 (by decide) (fun c2 => ?_) (fun c2 => ?_)
      · have hf := cx_t hf c2
        refine lv_iload_n hx hb dX9_writeBack_35 rfl (lv_at hl 2 rfl) ?_
        cases hf
        exact cx_iret hx hb hr hlocks hP hL dX9_writeBack_36
      · have hf := cx_f hf c2
        refine lv_aload_n hx hb dX9_writeBack_18 rfl (lv_at hl 0 rfl) ?_
        refine lv_iload_n hx hb dX9_writeBack_19 rfl (lv_at hl 3 rfl) ?_
        obtain ⟨r3, q4, hf⟩ := cx_b hf
        refine cx_callV (As := [.int x3]) (rest := []) ⟨hx, hb, hml, hown, hts⟩ (c_X9_writeUnit hC q4) (cwV 1 hts (gV mw_622 mw_623 mw_624 mw_5 mw_625) rfl rfl rfl hd_X9_writeUnit ⟨Nat.le_of_ble_eq_true rfl, Nat.le_of_ble_eq_true rfl⟩) hK hP rfl (at_Model hC hP) rfl hl.1 rfl (Nat.le_of_ble_eq_true rfl) dX9_writeBack_20 ⟨Nat.zero_le _, Nat.zero_le _⟩ hL (fun H locs hP hL => ?_)
        replace hP : P r3 H := by first | exact hP | (simpa only [va_up_id] using hP)
        refine lv_iinc (v := (x2 + 1)) (lv' := [(2, .int (x2 + 1)), (0, .ref (ad 0)), (1, .int x1), (3, .int x3)]) hx hb dX9_writeBack_23 hl (k := 2) rfl rfl (by decide) rfl (fun ls hl => ?_)
        refine lv_aload_n hx hb dX9_writeBack_26 rfl (lv_at hl 1 rfl) ?_
        refine lv_iconst (v := 0) hx hb dX9_writeBack_27 (by decide) ?_
        obtain ⟨r5, q6, hf⟩ := cx_b hf
        refine cx_callV (As := [.int 0]) (rest := []) ⟨hx, hb, hml, hown, hts⟩ (c_X9_inOrder hC q6) (cwV 1 hts (gV mw_610 mw_611 mw_612 mw_5 mw_613) rfl rfl rfl hd_X9_inOrder ⟨Nat.le_of_ble_eq_true rfl, Nat.le_of_ble_eq_true rfl⟩) hK hP rfl (at_Model hC hP) rfl hl.1 rfl (Nat.le_of_ble_eq_true rfl) dX9_writeBack_28 ⟨Nat.zero_le _, Nat.zero_le _⟩ hL (fun H locs hP hL => ?_)
        replace hP : P r3 H := by first | exact hP | (simpa only [va_up_id] using hP)
        refine lv_istore_n (lv' := [(3, .int r5), (2, .int (x2 + 1)), (0, .ref (ad 0)), (1, .int x1)]) hx hb dX9_writeBack_31 rfl hl (by decide) rfl (fun ls hl => ?_)
        refine lv_goto (tgt := 8) hx hb dX9_writeBack_32 (by decide) ?_
        exact ih r3 x1 (x2 + 1) r5 _ _ _ hf hP hL (lv_sub hl [2, 3, 1, 0] rfl)
def f_X9_writeBack (N : Nat) (μ : MdlS) (p0 : Int32) : Option (Int32 × MdlS) := (f_X9_inOrder N μ 0).bind fun r1 => f_X9_writeBack_b8 N N μ p0 0 r1
set_option maxHeartbeats 4000000 in
set_option maxRecDepth 100000 in
theorem c_X9_writeBack {l : Launch} {G : va_G} {cA : Nat → ClassId} {lo : Nat} {ad : Nat → Nat} {P : MdlS → Heap → Prop} (hC : cx G lo 9 ad (ceModel cA ad) P) {N : Nat} {μ : MdlS} {p0 : Int32} {res : Int32 × MdlS} (hf : f_X9_writeBack N μ p0 = some res) : Met l yX9_writeBack (cW yX9_writeBack cX9_writeBack 4 (some .int)) rm_X9_writeBack (cP [.ref (ad 0), .int p0] (P μ) G cA) (cQ (some (.int res.1)) (P res.2)) 0 0 (fun q => lo ≤ q) := by
  refine cx_met (by decide) (Nat.le_of_ble_eq_true rfl) (fun p e s m args below meth c ls C0 hP hl => ?_)
  have hl : lv_has ls 4 [(0, .ref (ad 0)), (1, .int p0)] := hl
  obtain ⟨⟨hx, hb, hml, hown, hts⟩, hr, hlocks, hK⟩ := id C0
  have hL : ∀ q ∈ ([] : List Loc), lo ≤ q.base := fun q h => nomatch h
  unfold f_X9_writeBack at hf
  refine lv_iconst (v := 0) hx hb dX9_writeBack_0 (by decide) ?_
  refine lv_istore_n (lv' := [(2, .int 0), (0, .ref (ad 0)), (1, .int p0)]) hx hb dX9_writeBack_1 rfl hl (by decide) rfl (fun ls hl => ?_)
  refine lv_aload_n hx hb dX9_writeBack_2 rfl (lv_at hl 1 rfl) ?_
  refine lv_iconst (v := 0) hx hb dX9_writeBack_3 (by decide) ?_
  obtain ⟨r1, q2, hf⟩ := cx_b hf
  refine cx_callV (As := [.int 0]) (rest := []) ⟨hx, hb, hml, hown, hts⟩ (c_X9_inOrder hC q2) (cwV 1 hts (gV mw_610 mw_611 mw_612 mw_5 mw_613) rfl rfl rfl hd_X9_inOrder ⟨Nat.le_of_ble_eq_true rfl, Nat.le_of_ble_eq_true rfl⟩) hK hP rfl (at_Model hC hP) rfl hl.1 rfl (Nat.le_of_ble_eq_true rfl) dX9_writeBack_4 ⟨Nat.zero_le _, Nat.zero_le _⟩ hL (fun H locs hP hL => ?_)
  replace hP : P μ H := by first | exact hP | (simpa only [va_up_id] using hP)
  refine lv_istore_n (lv' := [(3, .int r1), (2, .int 0), (0, .ref (ad 0)), (1, .int p0)]) hx hb dX9_writeBack_7 rfl hl (by decide) rfl (fun ls hl => ?_)
  exact w_X9_writeBack_b8 C0 hC N μ p0 0 r1 _ _ _ hf hP hL (lv_sub hl [2, 3, 1, 0] rfl)
abbrev rm_X9_isScan : Room := { frames := 1, cells := 0, slots := 0, locals := 23 }
theorem hd_X9_isScan : yX9_isScan.cls = RX9 ∧ yX9_isScan.cls ≠ "java/lang/invoke/MethodHandle" ∧ yX9_isScan.cls ≠ "java/lang/invoke/VarHandle" ∧ (parseMethodDescriptor yX9_isScan.desc).map (fun d => d.parameters.length) = some 2 := by decide +kernel
def f_X9_isScan_b77 (μ : MdlS) (y0 : Int32) : Option (Int32 × MdlS) := gd 22 1384 (if y0 = 0 then gd 22 1384 (cx_let ((oA μ.1 0 (Int32.toNatClampNeg 22) ((μ.1.1 0 (Int32.toNatClampNeg 22)) + 0), μ.2)) fun z4 => zb y0 (some (y0, z4))) else gd 22 1384 (cx_let ((oA μ.1 0 (Int32.toNatClampNeg 22) ((μ.1.1 0 (Int32.toNatClampNeg 22)) + 1), μ.2)) fun z7 => zb y0 (some (y0, z7))))
set_option maxHeartbeats 4000000 in
set_option maxRecDepth 100000 in
theorem w_X9_isScan_b77 {p : Program} {l : Launch} {e : Env} {s : State} {m : MethodId} {args : Array Value} {below : List Frame} {meth : Method} {c : Code} {G : va_G} {cA : Nat → ClassId} (C0 : cB p s m args meth c RX9 cX9_isScan 5 (some .boolean) G cA) {lo : Nat} {ad : Nat → Nat} {P : MdlS → Heap → Prop} (hC : cx G lo 9 ad (ceModel cA ad) P) {res : Int32 × MdlS} : ∀ (μ : MdlS) (y0 : Int32) (H : Heap) (locs : List Loc) (ls : Array Slot), f_X9_isScan_b77 μ y0 = some res → P μ H → (∀ q ∈ locs, lo ≤ q.base) → lv_has ls 5 [(0, .ref (ad 0))] → W p l e rm_X9_isScan s m args below meth c H locs 0 0 (MQ below (cQ (some (.int res.1)) (P res.2)) args s 0 0 (fun q => lo ≤ q)) (F0 m 77 ls [.int y0]) := by
  obtain ⟨⟨hx, hb, hml, hown, hts⟩, hr, hlocks, hK⟩ := id C0
  intro μ y0 H locs ls hf hP hL hl
  unfold f_X9_isScan_b77 at hf
  refine lv_istore (lv' := [(4, .int y0), (0, .ref (ad 0))]) hx hb dX9_isScan_77 hl (by decide) rfl (fun ls hl => ?_)
  refine lv_aload_n hx hb dX9_isScan_79 rfl (lv_at hl 1 rfl) ?_
  refine g_Model_0 hC hP hx hb hts hown hK mw_114 dX9_isScan_80 ?_
  refine lv_bipush (v := 22) hx hb dX9_isScan_83 (by decide) ?_
  refine lv_dup2_11 hx hb dX9_isScan_85 rfl rfl ?_
  obtain ⟨hi1, hf⟩ := gdE hf
  refine ga_Model_0 hC hP hx hb hK hi1 dX9_isScan_86 ?_
  refine lv_iload hx hb dX9_isScan_87 (lv_at hl 0 rfl) ?_
  refine lv_if_eq (tgt := 96) hx hb dX9_isScan_89 (by decide) (fun c2 => ?_) (fun c2 => ?_)
  · have hf := cx_t hf c2
    refine lv_iconst (v := 0) hx hb dX9_isScan_96 (by decide) ?_
    refine lv_iadd hx hb dX9_isScan_97 ?_
    obtain ⟨hi3, hf⟩ := gdE hf
    obtain ⟨z4, ez4, hf⟩ := cx_letE hf
    refine pa_Model_0 hC hP hx hb hK hi3 dX9_isScan_98 hL (fun H locs hP hL => ?_)
    replace hP : P z4 H := by rw [← ez4]; exact hP
    refine lv_iload hx hb dX9_isScan_99 (lv_at hl 0 rfl) ?_
    obtain ⟨hz5, hf⟩ := zbE hf
    cases hf
    exact cx_zret hx hb hr hlocks hz5 hP hL dX9_isScan_101
  · have hf := cx_f hf c2
    refine lv_iconst (v := 1) hx hb dX9_isScan_92 (by decide) ?_
    refine lv_goto (tgt := 97) hx hb dX9_isScan_93 (by decide) ?_
    refine lv_iadd hx hb dX9_isScan_97 ?_
    obtain ⟨hi6, hf⟩ := gdE hf
    obtain ⟨z7, ez7, hf⟩ := cx_letE hf
    refine pa_Model_0 hC hP hx hb hK hi6 dX9_isScan_98 hL (fun H locs hP hL => ?_)
    replace hP : P z7 H := by rw [← ez7]; exact hP
    refine lv_iload hx hb dX9_isScan_99 (lv_at hl 0 rfl) ?_
    obtain ⟨hz8, hf⟩ := zbE hf
    cases hf
    exact cx_zret hx hb hr hlocks hz8 hP hL dX9_isScan_101
def f_X9_isScan_b47 (μ : MdlS) (x1 : Int32) (x2 : Int32) (y0 : Int32) (y1 : Int32) (y2 : Int32) : Option (Int32 × MdlS) := (f_X9_putClient μ y2 y1 y0).bind fun r1 => (f_X9_putClient r1 x1 2 x2).bind fun r3 => (f_X9_ofClient r3 x1 1).bind fun r5 => gd 0 1384 (if r5 < (r3.1.1 0 (Int32.toNatClampNeg 0)) then f_X9_isScan_b77 r3 0 else f_X9_isScan_b77 r3 1)
set_option maxHeartbeats 4000000 in
set_option maxRecDepth 100000 in
theorem w_X9_isScan_b47 {p : Program} {l : Launch} {e : Env} {s : State} {m : MethodId} {args : Array Value} {below : List Frame} {meth : Method} {c : Code} {G : va_G} {cA : Nat → ClassId} (C0 : cB p s m args meth c RX9 cX9_isScan 5 (some .boolean) G cA) {lo : Nat} {ad : Nat → Nat} {P : MdlS → Heap → Prop} (hC : cx G lo 9 ad (ceModel cA ad) P) {res : Int32 × MdlS} : ∀ (μ : MdlS) (x1 : Int32) (x2 : Int32) (y0 : Int32) (y1 : Int32) (y2 : Int32) (H : Heap) (locs : List Loc) (ls : Array Slot), f_X9_isScan_b47 μ x1 x2 y0 y1 y2 = some res → P μ H → (∀ q ∈ locs, lo ≤ q.base) → lv_has ls 5 [(0, .ref (ad 0)), (1, .int x1), (2, .int x2)] → W p l e rm_X9_isScan s m args below meth c H locs 0 0 (MQ below (cQ (some (.int res.1)) (P res.2)) args s 0 0 (fun q => lo ≤ q)) (F0 m 47 ls [.int y0, .int y1, .int y2, .ref (ad 0)]) := by
  obtain ⟨⟨hx, hb, hml, hown, hts⟩, hr, hlocks, hK⟩ := id C0
  intro μ x1 x2 y0 y1 y2 H locs ls hf hP hL hl
  unfold f_X9_isScan_b47 at hf
  obtain ⟨r1, q2, hf⟩ := cx_b hf
  refine cx_callV (As := [.int y2, .int y1, .int y0]) (rest := []) ⟨hx, hb, hml, hown, hts⟩ (c_X9_putClient hC q2) (cwV 3 hts (gV mw_639 mw_640 mw_641 mw_5 mw_642) rfl rfl rfl hd_X9_putClient ⟨Nat.le_of_ble_eq_true rfl, Nat.le_of_ble_eq_true rfl⟩) hK hP rfl (at_Model hC hP) rfl hl.1 rfl (Nat.le_of_ble_eq_true rfl) dX9_isScan_47 ⟨Nat.zero_le _, Nat.zero_le _⟩ hL (fun H locs hP hL => ?_)
  replace hP : P r1 H := by first | exact hP | (simpa only [va_up_id] using hP)
  refine lv_aload_n hx hb dX9_isScan_50 rfl (lv_at hl 0 rfl) ?_
  refine lv_iload_n hx hb dX9_isScan_51 rfl (lv_at hl 1 rfl) ?_
  refine lv_iconst (v := 2) hx hb dX9_isScan_52 (by decide) ?_
  refine lv_iload_n hx hb dX9_isScan_53 rfl (lv_at hl 2 rfl) ?_
  obtain ⟨r3, q4, hf⟩ := cx_b hf
  refine cx_callV (As := [.int x1, .int 2, .int x2]) (rest := []) ⟨hx, hb, hml, hown, hts⟩ (c_X9_putClient hC q4) (cwV 3 hts (gV mw_639 mw_640 mw_641 mw_5 mw_642) rfl rfl rfl hd_X9_putClient ⟨Nat.le_of_ble_eq_true rfl, Nat.le_of_ble_eq_true rfl⟩) hK hP rfl (at_Model hC hP) rfl hl.1 rfl (Nat.le_of_ble_eq_true rfl) dX9_isScan_54 ⟨Nat.zero_le _, Nat.zero_le _⟩ hL (fun H locs hP hL => ?_)
  replace hP : P r3 H := by first | exact hP | (simpa only [va_up_id] using hP)
  refine lv_aload_n hx hb dX9_isScan_57 rfl (lv_at hl 0 rfl) ?_
  refine lv_iload_n hx hb dX9_isScan_58 rfl (lv_at hl 1 rfl) ?_
  refine lv_iconst (v := 1) hx hb dX9_isScan_59 (by decide) ?_
  obtain ⟨r5, q6, hf⟩ := cx_b hf
  refine cx_callV (As := [.int x1, .int 1]) (rest := []) ⟨hx, hb, hml, hown, hts⟩ (c_X9_ofClient hC q6) (cwV 2 hts (gV mw_635 mw_636 mw_637 mw_5 mw_638) rfl rfl rfl hd_X9_ofClient ⟨Nat.le_of_ble_eq_true rfl, Nat.le_of_ble_eq_true rfl⟩) hK hP rfl (at_Model hC hP) rfl hl.1 rfl (Nat.le_of_ble_eq_true rfl) dX9_isScan_60 ⟨Nat.zero_le _, Nat.zero_le _⟩ hL (fun H locs hP hL => ?_)
  replace hP : P r3 H := by first | exact hP | (simpa only [va_up_id] using hP)
  refine lv_aload_n hx hb dX9_isScan_63 rfl (lv_at hl 0 rfl) ?_
  refine g_Model_0 hC hP hx hb hts hown hK mw_114 dX9_isScan_64 ?_
  refine lv_iconst (v := 0) hx hb dX9_isScan_67 (by decide) ?_
  obtain ⟨hi7, hf⟩ := gdE hf
  refine ga_Model_0 hC hP hx hb hK hi7 dX9_isScan_68 ?_
  refine lv_icmp_lt (tgt := 76) hx hb dX9_isScan_69 (by decide) (fun c8 => ?_) (fun c8 => ?_)
  · have hf := cx_t hf c8
    refine lv_iconst (v := 0) hx hb dX9_isScan_76 (by decide) ?_
    exact w_X9_isScan_b77 C0 hC r3 0 _ _ _ hf hP hL (lv_sub hl [0] rfl)
  · have hf := cx_f hf c8
    refine lv_iconst (v := 1) hx hb dX9_isScan_72 (by decide) ?_
    refine lv_goto (tgt := 77) hx hb dX9_isScan_73 (by decide) ?_
    exact w_X9_isScan_b77 C0 hC r3 1 _ _ _ hf hP hL (lv_sub hl [0] rfl)
def f_X9_isScan_b27 (μ : MdlS) (x1 : Int32) (x2 : Int32) (y0 : Int32) : Option (Int32 × MdlS) := if y0 = 0 then f_X9_isScan_b47 μ x1 x2 1 1 x1 else (f_X9_ofClient μ x1 1).bind fun r2 => f_X9_isScan_b47 μ x1 x2 (r2 + 1) 1 x1
set_option maxHeartbeats 4000000 in
set_option maxRecDepth 100000 in
theorem w_X9_isScan_b27 {p : Program} {l : Launch} {e : Env} {s : State} {m : MethodId} {args : Array Value} {below : List Frame} {meth : Method} {c : Code} {G : va_G} {cA : Nat → ClassId} (C0 : cB p s m args meth c RX9 cX9_isScan 5 (some .boolean) G cA) {lo : Nat} {ad : Nat → Nat} {P : MdlS → Heap → Prop} (hC : cx G lo 9 ad (ceModel cA ad) P) {res : Int32 × MdlS} : ∀ (μ : MdlS) (x1 : Int32) (x2 : Int32) (y0 : Int32) (H : Heap) (locs : List Loc) (ls : Array Slot), f_X9_isScan_b27 μ x1 x2 y0 = some res → P μ H → (∀ q ∈ locs, lo ≤ q.base) → lv_has ls 5 [(0, .ref (ad 0)), (1, .int x1), (2, .int x2)] → W p l e rm_X9_isScan s m args below meth c H locs 0 0 (MQ below (cQ (some (.int res.1)) (P res.2)) args s 0 0 (fun q => lo ≤ q)) (F0 m 27 ls [.int y0]) := by
  obtain ⟨⟨hx, hb, hml, hown, hts⟩, hr, hlocks, hK⟩ := id C0
  intro μ x1 x2 y0 H locs ls hf hP hL hl
  unfold f_X9_isScan_b27 at hf
  refine lv_istore_n (lv' := [(3, .int y0), (0, .ref (ad 0)), (1, .int x1), (2, .int x2)]) hx hb dX9_isScan_27 rfl hl (by decide) rfl (fun ls hl => ?_)
  refine lv_aload_n hx hb dX9_isScan_28 rfl (lv_at hl 1 rfl) ?_
  refine lv_iload_n hx hb dX9_isScan_29 rfl (lv_at hl 2 rfl) ?_
  refine lv_iconst (v := 1) hx hb dX9_isScan_30 (by decide) ?_
  refine lv_iload_n hx hb dX9_isScan_31 rfl (lv_at hl 0 rfl) ?_
  refine lv_if_eq (tgt := 46) hx hb dX9_isScan_32 (by decide) (fun c1 => ?_) (fun c1 => ?_)
  · have hf := cx_t hf c1
    refine lv_iconst (v := 1) hx hb dX9_isScan_46 (by decide) ?_
    exact w_X9_isScan_b47 C0 hC μ x1 x2 1 1 x1 _ _ _ hf hP hL (lv_sub hl [1, 2, 3] rfl)
  · have hf := cx_f hf c1
    refine lv_aload_n hx hb dX9_isScan_35 rfl (lv_at hl 1 rfl) ?_
    refine lv_iload_n hx hb dX9_isScan_36 rfl (lv_at hl 2 rfl) ?_
    refine lv_iconst (v := 1) hx hb dX9_isScan_37 (by decide) ?_
    obtain ⟨r2, q3, hf⟩ := cx_b hf
    refine cx_callV (As := [.int x1, .int 1]) (rest := [.int 1, .int x1, .ref (ad 0)]) ⟨hx, hb, hml, hown, hts⟩ (c_X9_ofClient hC q3) (cwV 2 hts (gV mw_635 mw_636 mw_637 mw_5 mw_638) rfl rfl rfl hd_X9_ofClient ⟨Nat.le_of_ble_eq_true rfl, Nat.le_of_ble_eq_true rfl⟩) hK hP rfl (at_Model hC hP) rfl hl.1 rfl (Nat.le_of_ble_eq_true rfl) dX9_isScan_38 ⟨Nat.zero_le _, Nat.zero_le _⟩ hL (fun H locs hP hL => ?_)
    replace hP : P μ H := by first | exact hP | (simpa only [va_up_id] using hP)
    refine lv_iconst (v := 1) hx hb dX9_isScan_41 (by decide) ?_
    refine lv_iadd hx hb dX9_isScan_42 ?_
    refine lv_goto (tgt := 47) hx hb dX9_isScan_43 (by decide) ?_
    exact w_X9_isScan_b47 C0 hC μ x1 x2 (r2 + 1) 1 x1 _ _ _ hf hP hL (lv_sub hl [1, 2, 3] rfl)
def f_X9_isScan (μ : MdlS) (p0 : Int32) (p1 : Int32) : Option (Int32 × MdlS) := (f_X9_ofClient μ p0 2).bind fun r1 => if r1 = (-1) then f_X9_isScan_b27 μ p0 p1 0 else (f_X9_ofClient μ p0 2).bind fun r4 => if (r4 + 1) = p1 then f_X9_isScan_b27 μ p0 p1 1 else f_X9_isScan_b27 μ p0 p1 0
set_option maxHeartbeats 4000000 in
set_option maxRecDepth 100000 in
theorem c_X9_isScan {l : Launch} {G : va_G} {cA : Nat → ClassId} {lo : Nat} {ad : Nat → Nat} {P : MdlS → Heap → Prop} (hC : cx G lo 9 ad (ceModel cA ad) P) {μ : MdlS} {p0 : Int32} {p1 : Int32} {res : Int32 × MdlS} (hf : f_X9_isScan μ p0 p1 = some res) : Met l yX9_isScan (cW yX9_isScan cX9_isScan 5 (some .boolean)) rm_X9_isScan (cP [.ref (ad 0), .int p0, .int p1] (P μ) G cA) (cQ (some (.int res.1)) (P res.2)) 0 0 (fun q => lo ≤ q) := by
  refine cx_met (by decide) (Nat.le_of_ble_eq_true rfl) (fun p e s m args below meth c ls C0 hP hl => ?_)
  have hl : lv_has ls 5 [(0, .ref (ad 0)), (1, .int p0), (2, .int p1)] := hl
  obtain ⟨⟨hx, hb, hml, hown, hts⟩, hr, hlocks, hK⟩ := id C0
  have hL : ∀ q ∈ ([] : List Loc), lo ≤ q.base := fun q h => nomatch h
  unfold f_X9_isScan at hf
  refine lv_aload_n hx hb dX9_isScan_0 rfl (lv_at hl 0 rfl) ?_
  refine lv_iload_n hx hb dX9_isScan_1 rfl (lv_at hl 1 rfl) ?_
  refine lv_iconst (v := 2) hx hb dX9_isScan_2 (by decide) ?_
  obtain ⟨r1, q2, hf⟩ := cx_b hf
  refine cx_callV (As := [.int p0, .int 2]) (rest := []) ⟨hx, hb, hml, hown, hts⟩ (c_X9_ofClient hC q2) (cwV 2 hts (gV mw_635 mw_636 mw_637 mw_5 mw_638) rfl rfl rfl hd_X9_ofClient ⟨Nat.le_of_ble_eq_true rfl, Nat.le_of_ble_eq_true rfl⟩) hK hP rfl (at_Model hC hP) rfl hl.1 rfl (Nat.le_of_ble_eq_true rfl) dX9_isScan_3 ⟨Nat.zero_le _, Nat.zero_le _⟩ hL (fun H locs hP hL => ?_)
  replace hP : P μ H := by first | exact hP | (simpa only [va_up_id] using hP)
  refine lv_iconst (v := (-1)) hx hb dX9_isScan_6 (by decide) ?_
  refine lv_icmp_eq (tgt := 26) hx hb dX9_isScan_7 (by decide) (fun c3 => ?_) (fun c3 => ?_)
  · have hf := cx_t hf c3
    refine lv_iconst (v := 0) hx hb dX9_isScan_26 (by decide) ?_
    exact w_X9_isScan_b27 C0 hC μ p0 p1 0 _ _ _ hf hP hL (lv_sub hl [0, 1, 2] rfl)
  · have hf := cx_f hf c3
    refine lv_aload_n hx hb dX9_isScan_10 rfl (lv_at hl 0 rfl) ?_
    refine lv_iload_n hx hb dX9_isScan_11 rfl (lv_at hl 1 rfl) ?_
    refine lv_iconst (v := 2) hx hb dX9_isScan_12 (by decide) ?_
    obtain ⟨r4, q5, hf⟩ := cx_b hf
    refine cx_callV (As := [.int p0, .int 2]) (rest := []) ⟨hx, hb, hml, hown, hts⟩ (c_X9_ofClient hC q5) (cwV 2 hts (gV mw_635 mw_636 mw_637 mw_5 mw_638) rfl rfl rfl hd_X9_ofClient ⟨Nat.le_of_ble_eq_true rfl, Nat.le_of_ble_eq_true rfl⟩) hK hP rfl (at_Model hC hP) rfl hl.1 rfl (Nat.le_of_ble_eq_true rfl) dX9_isScan_13 ⟨Nat.zero_le _, Nat.zero_le _⟩ hL (fun H locs hP hL => ?_)
    replace hP : P μ H := by first | exact hP | (simpa only [va_up_id] using hP)
    refine lv_iconst (v := 1) hx hb dX9_isScan_16 (by decide) ?_
    refine lv_iadd hx hb dX9_isScan_17 ?_
    refine lv_iload_n hx hb dX9_isScan_18 rfl (lv_at hl 2 rfl) ?_
    refine lv_icmp_ne (tgt := 26) hx hb dX9_isScan_19 (by decide) (fun c6 => ?_) (fun c6 => ?_)
    · have hf := cx_f hf c6
      refine lv_iconst (v := 0) hx hb dX9_isScan_26 (by decide) ?_
      exact w_X9_isScan_b27 C0 hC μ p0 p1 0 _ _ _ hf hP hL (lv_sub hl [0, 1, 2] rfl)
    · have hf := cx_t hf c6
      refine lv_iconst (v := 1) hx hb dX9_isScan_22 (by decide) ?_
      refine lv_goto (tgt := 27) hx hb dX9_isScan_23 (by decide) ?_
      exact w_X9_isScan_b27 C0 hC μ p0 p1 1 _ _ _ hf hP hL (lv_sub hl [0, 1, 2] rfl)
abbrev rm_X9_countHit : Room := { frames := 1, cells := 0, slots := 0, locals := 23 }
theorem hd_X9_countHit : yX9_countHit.cls = RX9 ∧ yX9_countHit.cls ≠ "java/lang/invoke/MethodHandle" ∧ yX9_countHit.cls ≠ "java/lang/invoke/VarHandle" ∧ (parseMethodDescriptor yX9_countHit.desc).map (fun d => d.parameters.length) = some 2 := by decide +kernel
def f_X9_countHit (μ : MdlS) (p0 : Int32) (p1 : Int32) : Option (MdlS) := gd (14 + p1) 1384 (gd (14 + p1) 1384 (cx_let ((oA μ.1 0 (Int32.toNatClampNeg (14 + p1)) ((μ.1.1 0 (Int32.toNatClampNeg (14 + p1))) + 1), μ.2)) fun z3 => (f_X9_ofClient z3 p0 (5 + p1)).bind fun r4 => (f_X9_putClient z3 p0 (5 + p1) (r4 + 1)).bind fun r6 => some r6))
set_option maxHeartbeats 4000000 in
set_option maxRecDepth 100000 in
theorem c_X9_countHit {l : Launch} {G : va_G} {cA : Nat → ClassId} {lo : Nat} {ad : Nat → Nat} {P : MdlS → Heap → Prop} (hC : cx G lo 9 ad (ceModel cA ad) P) {μ : MdlS} {p0 : Int32} {p1 : Int32} {res : MdlS} (hf : f_X9_countHit μ p0 p1 = some res) : Met l yX9_countHit (cW yX9_countHit cX9_countHit 3 none) rm_X9_countHit (cP [.ref (ad 0), .int p0, .int p1] (P μ) G cA) (cQ none (P res)) 0 0 (fun q => lo ≤ q) := by
  refine cx_met (by decide) (Nat.le_of_ble_eq_true rfl) (fun p e s m args below meth c ls C0 hP hl => ?_)
  have hl : lv_has ls 3 [(0, .ref (ad 0)), (1, .int p0), (2, .int p1)] := hl
  obtain ⟨⟨hx, hb, hml, hown, hts⟩, hr, hlocks, hK⟩ := id C0
  have hL : ∀ q ∈ ([] : List Loc), lo ≤ q.base := fun q h => nomatch h
  unfold f_X9_countHit at hf
  refine lv_aload_n hx hb dX9_countHit_0 rfl (lv_at hl 0 rfl) ?_
  refine g_Model_0 hC hP hx hb hts hown hK mw_114 dX9_countHit_1 ?_
  refine lv_bipush (v := 14) hx hb dX9_countHit_4 (by decide) ?_
  refine lv_iload_n hx hb dX9_countHit_6 rfl (lv_at hl 2 rfl) ?_
  refine lv_iadd hx hb dX9_countHit_7 ?_
  refine lv_dup2_11 hx hb dX9_countHit_8 rfl rfl ?_
  obtain ⟨hi1, hf⟩ := gdE hf
  refine ga_Model_0 hC hP hx hb hK hi1 dX9_countHit_9 ?_
  refine lv_iconst (v := 1) hx hb dX9_countHit_10 (by decide) ?_
  refine lv_iadd hx hb dX9_countHit_11 ?_
  obtain ⟨hi2, hf⟩ := gdE hf
  obtain ⟨z3, ez3, hf⟩ := cx_letE hf
  refine pa_Model_0 hC hP hx hb hK hi2 dX9_countHit_12 hL (fun H locs hP hL => ?_)
  replace hP : P z3 H := by rw [← ez3]; exact hP
  refine lv_aload_n hx hb dX9_countHit_13 rfl (lv_at hl 0 rfl) ?_
  refine lv_iload_n hx hb dX9_countHit_14 rfl (lv_at hl 1 rfl) ?_
  refine lv_iconst (v := 5) hx hb dX9_countHit_15 (by decide) ?_
  refine lv_iload_n hx hb dX9_countHit_16 rfl (lv_at hl 2 rfl) ?_
  refine lv_iadd hx hb dX9_countHit_17 ?_
  refine lv_aload_n hx hb dX9_countHit_18 rfl (lv_at hl 0 rfl) ?_
  refine lv_iload_n hx hb dX9_countHit_19 rfl (lv_at hl 1 rfl) ?_
  refine lv_iconst (v := 5) hx hb dX9_countHit_20 (by decide) ?_
  refine lv_iload_n hx hb dX9_countHit_21 rfl (lv_at hl 2 rfl) ?_
  refine lv_iadd hx hb dX9_countHit_22 ?_
  obtain ⟨r4, q5, hf⟩ := cx_b hf
  refine cx_callV (As := [.int p0, .int (5 + p1)]) (rest := [.int (5 + p1), .int p0, .ref (ad 0)]) ⟨hx, hb, hml, hown, hts⟩ (c_X9_ofClient hC q5) (cwV 2 hts (gV mw_635 mw_636 mw_637 mw_5 mw_638) rfl rfl rfl hd_X9_ofClient ⟨Nat.le_of_ble_eq_true rfl, Nat.le_of_ble_eq_true rfl⟩) hK hP rfl (at_Model hC hP) rfl hl.1 rfl (Nat.le_of_ble_eq_true rfl) dX9_countHit_23 ⟨Nat.zero_le _, Nat.zero_le _⟩ hL (fun H locs hP hL => ?_)
  replace hP : P z3 H := by first | exact hP | (simpa only [va_up_id] using hP)
  refine lv_iconst (v := 1) hx hb dX9_countHit_26 (by decide) ?_
  refine lv_iadd hx hb dX9_countHit_27 ?_
  obtain ⟨r6, q7, hf⟩ := cx_b hf
  refine cx_callV (As := [.int p0, .int (5 + p1), .int (r4 + 1)]) (rest := []) ⟨hx, hb, hml, hown, hts⟩ (c_X9_putClient hC q7) (cwV 3 hts (gV mw_639 mw_640 mw_641 mw_5 mw_642) rfl rfl rfl hd_X9_putClient ⟨Nat.le_of_ble_eq_true rfl, Nat.le_of_ble_eq_true rfl⟩) hK hP rfl (at_Model hC hP) rfl hl.1 rfl (Nat.le_of_ble_eq_true rfl) dX9_countHit_28 ⟨Nat.zero_le _, Nat.zero_le _⟩ hL (fun H locs hP hL => ?_)
  replace hP : P r6 H := by first | exact hP | (simpa only [va_up_id] using hP)
  cases hf
  exact cx_vret hx hb hr hlocks hP hL dX9_countHit_31
abbrev rm_X9_blockAt : Room := { frames := 0, cells := 0, slots := 0, locals := 0 }
theorem hd_X9_blockAt : yX9_blockAt.cls = RX9 ∧ yX9_blockAt.cls ≠ "java/lang/invoke/MethodHandle" ∧ yX9_blockAt.cls ≠ "java/lang/invoke/VarHandle" ∧ (parseMethodDescriptor yX9_blockAt.desc).map (fun d => d.parameters.length) = some 2 := by decide +kernel
def f_X9_blockAt (μ : MdlS) (p0 : Int32) (p1 : Int32) : Option (Int32) := gd ((24 + (24 * p0)) + p1) 1384 (some (μ.1.1 0 (Int32.toNatClampNeg ((24 + (24 * p0)) + p1))))
set_option maxHeartbeats 4000000 in
set_option maxRecDepth 100000 in
theorem c_X9_blockAt {l : Launch} {G : va_G} {cA : Nat → ClassId} {lo : Nat} {ad : Nat → Nat} {P : MdlS → Heap → Prop} (hC : cx G lo 9 ad (ceModel cA ad) P) {μ : MdlS} {p0 : Int32} {p1 : Int32} {res : Int32} (hf : f_X9_blockAt μ p0 p1 = some res) : Met l yX9_blockAt (cW yX9_blockAt cX9_blockAt 3 (some .int)) rm_X9_blockAt (cP [.ref (ad 0), .int p0, .int p1] (P μ) G cA) (cQ (some (.int res)) (P μ)) 0 0 (fun q => lo ≤ q) := by
  refine cx_met (by decide) (Nat.le_of_ble_eq_true rfl) (fun p e s m args below meth c ls C0 hP hl => ?_)
  have hl : lv_has ls 3 [(0, .ref (ad 0)), (1, .int p0), (2, .int p1)] := hl
  obtain ⟨⟨hx, hb, hml, hown, hts⟩, hr, hlocks, hK⟩ := id C0
  have hL : ∀ q ∈ ([] : List Loc), lo ≤ q.base := fun q h => nomatch h
  unfold f_X9_blockAt at hf
  refine lv_aload_n hx hb dX9_blockAt_0 rfl (lv_at hl 0 rfl) ?_
  refine g_Model_0 hC hP hx hb hts hown hK mw_114 dX9_blockAt_1 ?_
  refine lv_bipush (v := 24) hx hb dX9_blockAt_4 (by decide) ?_
  refine lv_bipush (v := 24) hx hb dX9_blockAt_6 (by decide) ?_
  refine lv_iload_n hx hb dX9_blockAt_8 rfl (lv_at hl 1 rfl) ?_
  refine lv_imul hx hb dX9_blockAt_9 ?_
  refine lv_iadd hx hb dX9_blockAt_10 ?_
  refine lv_iload_n hx hb dX9_blockAt_11 rfl (lv_at hl 2 rfl) ?_
  refine lv_iadd hx hb dX9_blockAt_12 ?_
  obtain ⟨hi1, hf⟩ := gdE hf
  refine ga_Model_0 hC hP hx hb hK hi1 dX9_blockAt_13 ?_
  cases hf
  exact cx_iret hx hb hr hlocks hP hL dX9_blockAt_14
abbrev rm_X9_placeOf : Room := { frames := 1, cells := 0, slots := 0, locals := 22 }
theorem hd_X9_placeOf : yX9_placeOf.cls = RX9 ∧ yX9_placeOf.cls ≠ "java/lang/invoke/MethodHandle" ∧ yX9_placeOf.cls ≠ "java/lang/invoke/VarHandle" ∧ (parseMethodDescriptor yX9_placeOf.desc).map (fun d => d.parameters.length) = some 2 := by decide +kernel
def f_X9_placeOf_b2 (N : Nat) : Nat → MdlS → Int32 → Int32 → Int32 → Option (Int32)
  | 0, _, _, _, _ => none
  | n + 1, μ, x1, x2, x3 => (f_X9_blockAt μ x1 x3).bind fun r1 => if r1 = x2 then some x3 else f_X9_placeOf_b2 N n μ x1 x2 (x3 + 1)
set_option maxHeartbeats 4000000 in
set_option maxRecDepth 100000 in
theorem w_X9_placeOf_b2 {p : Program} {l : Launch} {e : Env} {s : State} {m : MethodId} {args : Array Value} {below : List Frame} {meth : Method} {c : Code} {G : va_G} {cA : Nat → ClassId} (C0 : cB p s m args meth c RX9 cX9_placeOf 4 (some .int) G cA) {lo : Nat} {ad : Nat → Nat} {P : MdlS → Heap → Prop} (hC : cx G lo 9 ad (ceModel cA ad) P) {N : Nat} {res : Int32} : ∀ (n : Nat) (μ : MdlS) (x1 : Int32) (x2 : Int32) (x3 : Int32) (H : Heap) (locs : List Loc) (ls : Array Slot), f_X9_placeOf_b2 N n μ x1 x2 x3 = some res → P μ H → (∀ q ∈ locs, lo ≤ q.base) → lv_has ls 4 [(0, .ref (ad 0)), (1, .int x1), (2, .int x2), (3, .int x3)] → W p l e rm_X9_placeOf s m args below meth c H locs 0 0 (MQ below (cQ (some (.int res)) (P μ)) args s 0 0 (fun q => lo ≤ q)) (F0 m 2 ls []) := by
  obtain ⟨⟨hx, hb, hml, hown, hts⟩, hr, hlocks, hK⟩ := id C0
  intro n
  induction n with
  | zero => intro μ x1 x2 x3 H locs ls
            exact fun hf => nomatch hf
  | succ n ih =>
    intro μ x1 x2 x3 H locs ls hf hP hL hl
    rw [f_X9_placeOf_b2] at hf
    refine lv_aload_n hx hb dX9_placeOf_2 rfl (lv_at hl 0 rfl) ?_
    refine lv_iload_n hx hb dX9_placeOf_3 rfl (lv_at hl 1 rfl) ?_
    refine lv_iload_n hx hb dX9_placeOf_4 rfl (lv_at hl 3 rfl) ?_
    obtain ⟨r1, q2, hf⟩ := cx_b hf
    refine cx_callV (As := [.int x1, .int x3]) (rest := []) ⟨hx, hb, hml, hown, hts⟩ (c_X9_blockAt hC q2) (cwV 2 hts (gV mw_659 mw_660 mw_661 mw_5 mw_662) rfl rfl rfl hd_X9_blockAt ⟨Nat.le_of_ble_eq_true rfl, Nat.le_of_ble_eq_true rfl⟩) hK hP rfl (at_Model hC hP) rfl hl.1 rfl (Nat.le_of_ble_eq_true rfl) dX9_placeOf_5 ⟨Nat.zero_le _, Nat.zero_le _⟩ hL (fun H locs hP hL => ?_)
    replace hP : P μ H := by first | exact hP | (simpa only [va_up_id] using hP)
    refine lv_iload_n hx hb dX9_placeOf_8 rfl (lv_at hl 2 rfl) ?_
    refine lv_icmp_eq (tgt := 18) hx hb dX9_placeOf_9 (by decide) (fun c3 => ?_) (fun c3 => ?_)
    · have hf := cx_t hf c3
      refine lv_iload_n hx hb dX9_placeOf_18 rfl (lv_at hl 3 rfl) ?_
      cases hf
      exact cx_iret hx hb hr hlocks hP hL dX9_placeOf_19
    · have hf := cx_f hf c3
      refine lv_iinc (v := (x3 + 1)) (lv' := [(3, .int (x3 + 1)), (0, .ref (ad 0)), (1, .int x1), (2, .int x2)]) hx hb dX9_placeOf_12 hl (k := 3) rfl rfl (by decide) rfl (fun ls hl => ?_)
      refine lv_goto (tgt := 2) hx hb dX9_placeOf_15 (by decide) ?_
      exact ih μ x1 x2 (x3 + 1) _ _ _ hf hP hL (lv_sub hl [1, 2, 3, 0] rfl)
def f_X9_placeOf (N : Nat) (μ : MdlS) (p0 : Int32) (p1 : Int32) : Option (Int32) := f_X9_placeOf_b2 N N μ p0 p1 0
set_option maxHeartbeats 4000000 in
set_option maxRecDepth 100000 in
theorem c_X9_placeOf {l : Launch} {G : va_G} {cA : Nat → ClassId} {lo : Nat} {ad : Nat → Nat} {P : MdlS → Heap → Prop} (hC : cx G lo 9 ad (ceModel cA ad) P) {N : Nat} {μ : MdlS} {p0 : Int32} {p1 : Int32} {res : Int32} (hf : f_X9_placeOf N μ p0 p1 = some res) : Met l yX9_placeOf (cW yX9_placeOf cX9_placeOf 4 (some .int)) rm_X9_placeOf (cP [.ref (ad 0), .int p0, .int p1] (P μ) G cA) (cQ (some (.int res)) (P μ)) 0 0 (fun q => lo ≤ q) := by
  refine cx_met (by decide) (Nat.le_of_ble_eq_true rfl) (fun p e s m args below meth c ls C0 hP hl => ?_)
  have hl : lv_has ls 4 [(0, .ref (ad 0)), (1, .int p0), (2, .int p1)] := hl
  obtain ⟨⟨hx, hb, hml, hown, hts⟩, hr, hlocks, hK⟩ := id C0
  have hL : ∀ q ∈ ([] : List Loc), lo ≤ q.base := fun q h => nomatch h
  unfold f_X9_placeOf at hf
  refine lv_iconst (v := 0) hx hb dX9_placeOf_0 (by decide) ?_
  refine lv_istore_n (lv' := [(3, .int 0), (0, .ref (ad 0)), (1, .int p0), (2, .int p1)]) hx hb dX9_placeOf_1 rfl hl (by decide) rfl (fun ls hl => ?_)
  exact w_X9_placeOf_b2 C0 hC N μ p0 p1 0 _ _ _ hf hP hL (lv_sub hl [1, 2, 3, 0] rfl)
abbrev rm_X9_length : Room := { frames := 0, cells := 0, slots := 0, locals := 0 }
theorem hd_X9_length : yX9_length.cls = RX9 ∧ yX9_length.cls ≠ "java/lang/invoke/MethodHandle" ∧ yX9_length.cls ≠ "java/lang/invoke/VarHandle" ∧ (parseMethodDescriptor yX9_length.desc).map (fun d => d.parameters.length) = some 1 := by decide +kernel
def f_X9_length (μ : MdlS) (p0 : Int32) : Option (Int32) := gd (7 + p0) 1384 (some (μ.1.1 0 (Int32.toNatClampNeg (7 + p0))))
set_option maxHeartbeats 4000000 in
set_option maxRecDepth 100000 in
theorem c_X9_length {l : Launch} {G : va_G} {cA : Nat → ClassId} {lo : Nat} {ad : Nat → Nat} {P : MdlS → Heap → Prop} (hC : cx G lo 9 ad (ceModel cA ad) P) {μ : MdlS} {p0 : Int32} {res : Int32} (hf : f_X9_length μ p0 = some res) : Met l yX9_length (cW yX9_length cX9_length 2 (some .int)) rm_X9_length (cP [.ref (ad 0), .int p0] (P μ) G cA) (cQ (some (.int res)) (P μ)) 0 0 (fun q => lo ≤ q) := by
  refine cx_met (by decide) (Nat.le_of_ble_eq_true rfl) (fun p e s m args below meth c ls C0 hP hl => ?_)
  have hl : lv_has ls 2 [(0, .ref (ad 0)), (1, .int p0)] := hl
  obtain ⟨⟨hx, hb, hml, hown, hts⟩, hr, hlocks, hK⟩ := id C0
  have hL : ∀ q ∈ ([] : List Loc), lo ≤ q.base := fun q h => nomatch h
  unfold f_X9_length at hf
  refine lv_aload_n hx hb dX9_length_0 rfl (lv_at hl 0 rfl) ?_
  refine g_Model_0 hC hP hx hb hts hown hK mw_114 dX9_length_1 ?_
  refine lv_bipush (v := 7) hx hb dX9_length_4 (by decide) ?_
  refine lv_iload_n hx hb dX9_length_6 rfl (lv_at hl 1 rfl) ?_
  refine lv_iadd hx hb dX9_length_7 ?_
  obtain ⟨hi1, hf⟩ := gdE hf
  refine ga_Model_0 hC hP hx hb hK hi1 dX9_length_8 ?_
  cases hf
  exact cx_iret hx hb hr hlocks hP hL dX9_length_9
abbrev rm_X9_take : Room := { frames := 2, cells := 0, slots := 0, locals := 45 }
theorem hd_X9_take : yX9_take.cls = RX9 ∧ yX9_take.cls ≠ "java/lang/invoke/MethodHandle" ∧ yX9_take.cls ≠ "java/lang/invoke/VarHandle" ∧ (parseMethodDescriptor yX9_take.desc).map (fun d => d.parameters.length) = some 2 := by decide +kernel
def f_X9_take_b29 (N : Nat) : Nat → MdlS → Int32 → Int32 → Int32 → Option (MdlS)
  | 0, _, _, _, _ => none
  | n + 1, μ, x1, x3, x4 => (f_X9_length μ x1).bind fun r1 => if r1 ≤ x4 then some μ else gd ((x3 + x4) + 1) 1384 (gd (x3 + x4) 1384 (cx_let ((oA μ.1 0 (Int32.toNatClampNeg (x3 + x4)) (μ.1.1 0 (Int32.toNatClampNeg ((x3 + x4) + 1))), μ.2)) fun z6 => f_X9_take_b29 N n z6 x1 x3 (x4 + 1)))
set_option maxHeartbeats 4000000 in
set_option maxRecDepth 100000 in
theorem w_X9_take_b29 {p : Program} {l : Launch} {e : Env} {s : State} {m : MethodId} {args : Array Value} {below : List Frame} {meth : Method} {c : Code} {G : va_G} {cA : Nat → ClassId} (C0 : cB p s m args meth c RX9 cX9_take 5 none G cA) {lo : Nat} {ad : Nat → Nat} {P : MdlS → Heap → Prop} (hC : cx G lo 9 ad (ceModel cA ad) P) {N : Nat} {res : MdlS} : ∀ (n : Nat) (μ : MdlS) (x1 : Int32) (x3 : Int32) (x4 : Int32) (H : Heap) (locs : List Loc) (ls : Array Slot), f_X9_take_b29 N n μ x1 x3 x4 = some res → P μ H → (∀ q ∈ locs, lo ≤ q.base) → lv_has ls 5 [(0, .ref (ad 0)), (1, .int x1), (3, .int x3), (4, .int x4)] → W p l e rm_X9_take s m args below meth c H locs 0 0 (MQ below (cQ none (P res)) args s 0 0 (fun q => lo ≤ q)) (F0 m 29 ls []) := by
  obtain ⟨⟨hx, hb, hml, hown, hts⟩, hr, hlocks, hK⟩ := id C0
  intro n
  induction n with
  | zero => intro μ x1 x3 x4 H locs ls
            exact fun hf => nomatch hf
  | succ n ih =>
    intro μ x1 x3 x4 H locs ls hf hP hL hl
    rw [f_X9_take_b29] at hf
    refine lv_iload hx hb dX9_take_29 (lv_at hl 3 rfl) ?_
    refine lv_aload_n hx hb dX9_take_31 rfl (lv_at hl 0 rfl) ?_
    refine lv_iload_n hx hb dX9_take_32 rfl (lv_at hl 1 rfl) ?_
    obtain ⟨r1, q2, hf⟩ := cx_b hf
    refine cx_callV (As := [.int x1]) (rest := [.int x4]) ⟨hx, hb, hml, hown, hts⟩ (c_X9_length hC q2) (cwV 1 hts (gV mw_663 mw_664 mw_665 mw_5 mw_666) rfl rfl rfl hd_X9_length ⟨Nat.le_of_ble_eq_true rfl, Nat.le_of_ble_eq_true rfl⟩) hK hP rfl (at_Model hC hP) rfl hl.1 rfl (Nat.le_of_ble_eq_true rfl) dX9_take_33 ⟨Nat.zero_le _, Nat.zero_le _⟩ hL (fun H locs hP hL => ?_)
    replace hP : P μ H := by first | exact hP | (simpa only [va_up_id] using hP)
    refine lv_icmp_ge (tgt := 65) hx hb dX9_take_36 (by decide) (fun c3 => ?_) (fun c3 => ?_)
    · have hf := cx_t hf c3
      cases hf
      exact cx_vret hx hb hr hlocks hP hL dX9_take_65
    · have hf := cx_f hf c3
      refine lv_aload_n hx hb dX9_take_39 rfl (lv_at hl 0 rfl) ?_
      refine g_Model_0 hC hP hx hb hts hown hK mw_114 dX9_take_40 ?_
      refine lv_iload_n hx hb dX9_take_43 rfl (lv_at hl 2 rfl) ?_
      refine lv_iload hx hb dX9_take_44 (lv_at hl 3 rfl) ?_
      refine lv_iadd hx hb dX9_take_46 ?_
      refine lv_aload_n hx hb dX9_take_47 rfl (lv_at hl 0 rfl) ?_
      refine g_Model_0 hC hP hx hb hts hown hK mw_114 dX9_take_48 ?_
      refine lv_iload_n hx hb dX9_take_51 rfl (lv_at hl 2 rfl) ?_
      refine lv_iload hx hb dX9_take_52 (lv_at hl 3 rfl) ?_
      refine lv_iadd hx hb dX9_take_54 ?_
      refine lv_iconst (v := 1) hx hb dX9_take_55 (by decide) ?_
      refine lv_iadd hx hb dX9_take_56 ?_
      obtain ⟨hi4, hf⟩ := gdE hf
      refine ga_Model_0 hC hP hx hb hK hi4 dX9_take_57 ?_
      obtain ⟨hi5, hf⟩ := gdE hf
      obtain ⟨z6, ez6, hf⟩ := cx_letE hf
      refine pa_Model_0 hC hP hx hb hK hi5 dX9_take_58 hL (fun H locs hP hL => ?_)
      replace hP : P z6 H := by rw [← ez6]; exact hP
      refine lv_iinc (v := (x4 + 1)) (lv' := [(4, .int (x4 + 1)), (0, .ref (ad 0)), (1, .int x1), (3, .int x3)]) hx hb dX9_take_59 hl (k := 3) rfl rfl (by decide) rfl (fun ls hl => ?_)
      refine lv_goto (tgt := 29) hx hb dX9_take_62 (by decide) ?_
      exact ih z6 x1 x3 (x4 + 1) _ _ _ hf hP hL (lv_sub hl [1, 2, 3, 0] rfl)
def f_X9_take (N : Nat) (μ : MdlS) (p0 : Int32) (p1 : Int32) : Option (MdlS) := gd (7 + p0) 1384 (gd (7 + p0) 1384 (cx_let ((oA μ.1 0 (Int32.toNatClampNeg (7 + p0)) ((μ.1.1 0 (Int32.toNatClampNeg (7 + p0))) - 1), μ.2)) fun z3 => (f_X9_placeOf N z3 p0 p1).bind fun r4 => f_X9_take_b29 N N z3 p0 (24 + (24 * p0)) r4))
set_option maxHeartbeats 4000000 in
set_option maxRecDepth 100000 in
theorem c_X9_take {l : Launch} {G : va_G} {cA : Nat → ClassId} {lo : Nat} {ad : Nat → Nat} {P : MdlS → Heap → Prop} (hC : cx G lo 9 ad (ceModel cA ad) P) {N : Nat} {μ : MdlS} {p0 : Int32} {p1 : Int32} {res : MdlS} (hf : f_X9_take N μ p0 p1 = some res) : Met l yX9_take (cW yX9_take cX9_take 5 none) rm_X9_take (cP [.ref (ad 0), .int p0, .int p1] (P μ) G cA) (cQ none (P res)) 0 0 (fun q => lo ≤ q) := by
  refine cx_met (by decide) (Nat.le_of_ble_eq_true rfl) (fun p e s m args below meth c ls C0 hP hl => ?_)
  have hl : lv_has ls 5 [(0, .ref (ad 0)), (1, .int p0), (2, .int p1)] := hl
  obtain ⟨⟨hx, hb, hml, hown, hts⟩, hr, hlocks, hK⟩ := id C0
  have hL : ∀ q ∈ ([] : List Loc), lo ≤ q.base := fun q h => nomatch h
  unfold f_X9_take at hf
  refine lv_bipush (v := 24) hx hb dX9_take_0 (by decide) ?_
  refine lv_bipush (v := 24) hx hb dX9_take_2 (by decide) ?_
  refine lv_iload_n hx hb dX9_take_4 rfl (lv_at hl 1 rfl) ?_
  refine lv_imul hx hb dX9_take_5 ?_
  refine lv_iadd hx hb dX9_take_6 ?_
  refine lv_istore_n (lv' := [(3, .int (24 + (24 * p0))), (0, .ref (ad 0)), (1, .int p0), (2, .int p1)]) hx hb dX9_take_7 rfl hl (by decide) rfl (fun ls hl => ?_)
  refine lv_aload_n hx hb dX9_take_8 rfl (lv_at hl 1 rfl) ?_
  refine g_Model_0 hC hP hx hb hts hown hK mw_114 dX9_take_9 ?_
  refine lv_bipush (v := 7) hx hb dX9_take_12 (by decide) ?_
  refine lv_iload_n hx hb dX9_take_14 rfl (lv_at hl 2 rfl) ?_
  refine lv_iadd hx hb dX9_take_15 ?_
  refine lv_dup2_11 hx hb dX9_take_16 rfl rfl ?_
  obtain ⟨hi1, hf⟩ := gdE hf
  refine ga_Model_0 hC hP hx hb hK hi1 dX9_take_17 ?_
  refine lv_iconst (v := 1) hx hb dX9_take_18 (by decide) ?_
  refine lv_isub hx hb dX9_take_19 ?_
  obtain ⟨hi2, hf⟩ := gdE hf
  obtain ⟨z3, ez3, hf⟩ := cx_letE hf
  refine pa_Model_0 hC hP hx hb hK hi2 dX9_take_20 hL (fun H locs hP hL => ?_)
  replace hP : P z3 H := by rw [← ez3]; exact hP
  refine lv_aload_n hx hb dX9_take_21 rfl (lv_at hl 1 rfl) ?_
  refine lv_iload_n hx hb dX9_take_22 rfl (lv_at hl 2 rfl) ?_
  refine lv_iload_n hx hb dX9_take_23 rfl (lv_at hl 3 rfl) ?_
  obtain ⟨r4, q5, hf⟩ := cx_b hf
  refine cx_callV (As := [.int p0, .int p1]) (rest := []) ⟨hx, hb, hml, hown, hts⟩ (c_X9_placeOf hC q5) (cwV 2 hts (gV mw_655 mw_656 mw_657 mw_5 mw_658) rfl rfl rfl hd_X9_placeOf ⟨Nat.le_of_ble_eq_true rfl, Nat.le_of_ble_eq_true rfl⟩) hK hP rfl (at_Model hC hP) rfl hl.1 rfl (Nat.le_of_ble_eq_true rfl) dX9_take_24 ⟨Nat.zero_le _, Nat.zero_le _⟩ hL (fun H locs hP hL => ?_)
  replace hP : P z3 H := by first | exact hP | (simpa only [va_up_id] using hP)
  refine lv_istore (lv' := [(4, .int r4), (3, .int (24 + (24 * p0))), (0, .ref (ad 0)), (1, .int p0), (2, .int p1)]) hx hb dX9_take_27 hl (by decide) rfl (fun ls hl => ?_)
  exact w_X9_take_b29 C0 hC N z3 p0 (24 + (24 * p0)) r4 _ _ _ hf hP hL (lv_sub hl [2, 3, 1, 0] rfl)
abbrev rm_X9_bring : Room := { frames := 1, cells := 0, slots := 0, locals := 21 }
theorem hd_X9_bring : yX9_bring.cls = RX9 ∧ yX9_bring.cls ≠ "java/lang/invoke/MethodHandle" ∧ yX9_bring.cls ≠ "java/lang/invoke/VarHandle" ∧ (parseMethodDescriptor yX9_bring.desc).map (fun d => d.parameters.length) = some 2 := by decide +kernel
def f_X9_bring_b15 (N : Nat) : Nat → MdlS → Int32 → Int32 → Int32 → Int32 → Option (MdlS)
  | 0, _, _, _, _, _ => none
  | n + 1, μ, x1, x2, x3, x4 => if x4 ≤ 0 then gd x3 1384 (cx_let ((oA μ.1 0 (Int32.toNatClampNeg x3) x2, μ.2)) fun z3 => gd (7 + x1) 1384 (gd (7 + x1) 1384 (cx_let ((oA z3.1 0 (Int32.toNatClampNeg (7 + x1)) ((z3.1.1 0 (Int32.toNatClampNeg (7 + x1))) + 1), z3.2)) fun z6 => some z6))) else gd ((x3 + x4) - 1) 1384 (gd (x3 + x4) 1384 (cx_let ((oA μ.1 0 (Int32.toNatClampNeg (x3 + x4)) (μ.1.1 0 (Int32.toNatClampNeg ((x3 + x4) - 1))), μ.2)) fun z9 => f_X9_bring_b15 N n z9 x1 x2 x3 (x4 + (-1))))
set_option maxHeartbeats 4000000 in
set_option maxRecDepth 100000 in
theorem w_X9_bring_b15 {p : Program} {l : Launch} {e : Env} {s : State} {m : MethodId} {args : Array Value} {below : List Frame} {meth : Method} {c : Code} {G : va_G} {cA : Nat → ClassId} (C0 : cB p s m args meth c RX9 cX9_bring 5 none G cA) {lo : Nat} {ad : Nat → Nat} {P : MdlS → Heap → Prop} (hC : cx G lo 9 ad (ceModel cA ad) P) {N : Nat} {res : MdlS} : ∀ (n : Nat) (μ : MdlS) (x1 : Int32) (x2 : Int32) (x3 : Int32) (x4 : Int32) (H : Heap) (locs : List Loc) (ls : Array Slot), f_X9_bring_b15 N n μ x1 x2 x3 x4 = some res → P μ H → (∀ q ∈ locs, lo ≤ q.base) → lv_has ls 5 [(0, .ref (ad 0)), (1, .int x1), (2, .int x2), (3, .int x3), (4, .int x4)] → W p l e rm_X9_bring s m args below meth c H locs 0 0 (MQ below (cQ none (P res)) args s 0 0 (fun q => lo ≤ q)) (F0 m 15 ls []) := by
  obtain ⟨⟨hx, hb, hml, hown, hts⟩, hr, hlocks, hK⟩ := id C0
  intro n
  induction n with
  | zero => intro μ x1 x2 x3 x4 H locs ls
            exact fun hf => nomatch hf
  | succ n ih =>
    intro μ x1 x2 x3 x4 H locs ls hf hP hL hl
    rw [f_X9_bring_b15] at hf
    refine lv_iload hx hb dX9_bring_15 (lv_at hl 4 rfl) ?_
    refine lv_if_le (tgt := 46) hx hb dX9_bring_17 (by decide) (fun c1 => ?_) (fun c1 => ?_)
    · have hf := cx_t hf c1
      refine lv_aload_n hx hb dX9_bring_46 rfl (lv_at hl 0 rfl) ?_
      refine g_Model_0 hC hP hx hb hts hown hK mw_114 dX9_bring_47 ?_
      refine lv_iload_n hx hb dX9_bring_50 rfl (lv_at hl 3 rfl) ?_
      refine lv_iload_n hx hb dX9_bring_51 rfl (lv_at hl 2 rfl) ?_
      obtain ⟨hi2, hf⟩ := gdE hf
      obtain ⟨z3, ez3, hf⟩ := cx_letE hf
      refine pa_Model_0 hC hP hx hb hK hi2 dX9_bring_52 hL (fun H locs hP hL => ?_)
      replace hP : P z3 H := by rw [← ez3]; exact hP
      refine lv_aload_n hx hb dX9_bring_53 rfl (lv_at hl 0 rfl) ?_
      refine g_Model_0 hC hP hx hb hts hown hK mw_114 dX9_bring_54 ?_
      refine lv_bipush (v := 7) hx hb dX9_bring_57 (by decide) ?_
      refine lv_iload_n hx hb dX9_bring_59 rfl (lv_at hl 1 rfl) ?_
      refine lv_iadd hx hb dX9_bring_60 ?_
      refine lv_dup2_11 hx hb dX9_bring_61 rfl rfl ?_
      obtain ⟨hi4, hf⟩ := gdE hf
      refine ga_Model_0 hC hP hx hb hK hi4 dX9_bring_62 ?_
      refine lv_iconst (v := 1) hx hb dX9_bring_63 (by decide) ?_
      refine lv_iadd hx hb dX9_bring_64 ?_
      obtain ⟨hi5, hf⟩ := gdE hf
      obtain ⟨z6, ez6, hf⟩ := cx_letE hf
      refine pa_Model_0 hC hP hx hb hK hi5 dX9_bring_65 hL (fun H locs hP hL => ?_)
      replace hP : P z6 H := by rw [← ez6]; exact hP
      cases hf
      exact cx_vret hx hb hr hlocks hP hL dX9_bring_66
    · have hf := cx_f hf c1
      refine lv_aload_n hx hb dX9_bring_20 rfl (lv_at hl 0 rfl) ?_
      refine g_Model_0 hC hP hx hb hts hown hK mw_114 dX9_bring_21 ?_
      refine lv_iload_n hx hb dX9_bring_24 rfl (lv_at hl 3 rfl) ?_
      refine lv_iload hx hb dX9_bring_25 (lv_at hl 4 rfl) ?_
      refine lv_iadd hx hb dX9_bring_27 ?_
      refine lv_aload_n hx hb dX9_bring_28 rfl (lv_at hl 0 rfl) ?_
      refine g_Model_0 hC hP hx hb hts hown hK mw_114 dX9_bring_29 ?_
      refine lv_iload_n hx hb dX9_bring_32 rfl (lv_at hl 3 rfl) ?_
      refine lv_iload hx hb dX9_bring_33 (lv_at hl 4 rfl) ?_
      refine lv_iadd hx hb dX9_bring_35 ?_
      refine lv_iconst (v := 1) hx hb dX9_bring_36 (by decide) ?_
      refine lv_isub hx hb dX9_bring_37 ?_
      obtain ⟨hi7, hf⟩ := gdE hf
      refine ga_Model_0 hC hP hx hb hK hi7 dX9_bring_38 ?_
      obtain ⟨hi8, hf⟩ := gdE hf
      obtain ⟨z9, ez9, hf⟩ := cx_letE hf
      refine pa_Model_0 hC hP hx hb hK hi8 dX9_bring_39 hL (fun H locs hP hL => ?_)
      replace hP : P z9 H := by rw [← ez9]; exact hP
      refine lv_iinc (v := (x4 + (-1))) (lv' := [(4, .int (x4 + (-1))), (0, .ref (ad 0)), (1, .int x1), (2, .int x2), (3, .int x3)]) hx hb dX9_bring_40 hl (k := 4) rfl rfl (by decide) rfl (fun ls hl => ?_)
      refine lv_goto (tgt := 15) hx hb dX9_bring_43 (by decide) ?_
      exact ih z9 x1 x2 x3 (x4 + (-1)) _ _ _ hf hP hL (lv_sub hl [1, 2, 3, 4, 0] rfl)
def f_X9_bring (N : Nat) (μ : MdlS) (p0 : Int32) (p1 : Int32) : Option (MdlS) := (f_X9_length μ p0).bind fun r1 => f_X9_bring_b15 N N μ p0 p1 (24 + (24 * p0)) r1
set_option maxHeartbeats 4000000 in
set_option maxRecDepth 100000 in
theorem c_X9_bring {l : Launch} {G : va_G} {cA : Nat → ClassId} {lo : Nat} {ad : Nat → Nat} {P : MdlS → Heap → Prop} (hC : cx G lo 9 ad (ceModel cA ad) P) {N : Nat} {μ : MdlS} {p0 : Int32} {p1 : Int32} {res : MdlS} (hf : f_X9_bring N μ p0 p1 = some res) : Met l yX9_bring (cW yX9_bring cX9_bring 5 none) rm_X9_bring (cP [.ref (ad 0), .int p0, .int p1] (P μ) G cA) (cQ none (P res)) 0 0 (fun q => lo ≤ q) := by
  refine cx_met (by decide) (Nat.le_of_ble_eq_true rfl) (fun p e s m args below meth c ls C0 hP hl => ?_)
  have hl : lv_has ls 5 [(0, .ref (ad 0)), (1, .int p0), (2, .int p1)] := hl
  obtain ⟨⟨hx, hb, hml, hown, hts⟩, hr, hlocks, hK⟩ := id C0
  have hL : ∀ q ∈ ([] : List Loc), lo ≤ q.base := fun q h => nomatch h
  unfold f_X9_bring at hf
  refine lv_bipush (v := 24) hx hb dX9_bring_0 (by decide) ?_
  refine lv_bipush (v := 24) hx hb dX9_bring_2 (by decide) ?_
  refine lv_iload_n hx hb dX9_bring_4 rfl (lv_at hl 1 rfl) ?_
  refine lv_imul hx hb dX9_bring_5 ?_
  refine lv_iadd hx hb dX9_bring_6 ?_
  refine lv_istore_n (lv' := [(3, .int (24 + (24 * p0))), (0, .ref (ad 0)), (1, .int p0), (2, .int p1)]) hx hb dX9_bring_7 rfl hl (by decide) rfl (fun ls hl => ?_)
  refine lv_aload_n hx hb dX9_bring_8 rfl (lv_at hl 1 rfl) ?_
  refine lv_iload_n hx hb dX9_bring_9 rfl (lv_at hl 2 rfl) ?_
  obtain ⟨r1, q2, hf⟩ := cx_b hf
  refine cx_callV (As := [.int p0]) (rest := []) ⟨hx, hb, hml, hown, hts⟩ (c_X9_length hC q2) (cwV 1 hts (gV mw_663 mw_664 mw_665 mw_5 mw_666) rfl rfl rfl hd_X9_length ⟨Nat.le_of_ble_eq_true rfl, Nat.le_of_ble_eq_true rfl⟩) hK hP rfl (at_Model hC hP) rfl hl.1 rfl (Nat.le_of_ble_eq_true rfl) dX9_bring_10 ⟨Nat.zero_le _, Nat.zero_le _⟩ hL (fun H locs hP hL => ?_)
  replace hP : P μ H := by first | exact hP | (simpa only [va_up_id] using hP)
  refine lv_istore (lv' := [(4, .int r1), (3, .int (24 + (24 * p0))), (0, .ref (ad 0)), (1, .int p0), (2, .int p1)]) hx hb dX9_bring_13 hl (by decide) rfl (fun ls hl => ?_)
  exact w_X9_bring_b15 C0 hC N μ p0 p1 (24 + (24 * p0)) r1 _ _ _ hf hP hL (lv_sub hl [2, 3, 4, 1, 0] rfl)
abbrev rm_X9_move : Room := { frames := 3, cells := 0, slots := 0, locals := 69 }
theorem hd_X9_move : yX9_move.cls = RX9 ∧ yX9_move.cls ≠ "java/lang/invoke/MethodHandle" ∧ yX9_move.cls ≠ "java/lang/invoke/VarHandle" ∧ (parseMethodDescriptor yX9_move.desc).map (fun d => d.parameters.length) = some 2 := by decide +kernel
def f_X9_move_b21 (N : Nat) (μ : MdlS) (x1 : Int32) (x2 : Int32) : Option (MdlS) := (f_X9_put μ x1 0 x2).bind fun r1 => if x2 = (-1) then some r1 else (f_X9_bring N r1 x2 x1).bind fun r4 => some r4
set_option maxHeartbeats 4000000 in
set_option maxRecDepth 100000 in
theorem w_X9_move_b21 {p : Program} {l : Launch} {e : Env} {s : State} {m : MethodId} {args : Array Value} {below : List Frame} {meth : Method} {c : Code} {G : va_G} {cA : Nat → ClassId} (C0 : cB p s m args meth c RX9 cX9_move 3 none G cA) {lo : Nat} {ad : Nat → Nat} {P : MdlS → Heap → Prop} (hC : cx G lo 9 ad (ceModel cA ad) P) {N : Nat} {res : MdlS} : ∀ (μ : MdlS) (x1 : Int32) (x2 : Int32) (H : Heap) (locs : List Loc) (ls : Array Slot), f_X9_move_b21 N μ x1 x2 = some res → P μ H → (∀ q ∈ locs, lo ≤ q.base) → lv_has ls 3 [(0, .ref (ad 0)), (1, .int x1), (2, .int x2)] → W p l e rm_X9_move s m args below meth c H locs 0 0 (MQ below (cQ none (P res)) args s 0 0 (fun q => lo ≤ q)) (F0 m 21 ls []) := by
  obtain ⟨⟨hx, hb, hml, hown, hts⟩, hr, hlocks, hK⟩ := id C0
  intro μ x1 x2 H locs ls hf hP hL hl
  unfold f_X9_move_b21 at hf
  refine lv_aload_n hx hb dX9_move_21 rfl (lv_at hl 0 rfl) ?_
  refine lv_iload_n hx hb dX9_move_22 rfl (lv_at hl 1 rfl) ?_
  refine lv_iconst (v := 0) hx hb dX9_move_23 (by decide) ?_
  refine lv_iload_n hx hb dX9_move_24 rfl (lv_at hl 2 rfl) ?_
  obtain ⟨r1, q2, hf⟩ := cx_b hf
  refine cx_callV (As := [.int x1, .int 0, .int x2]) (rest := []) ⟨hx, hb, hml, hown, hts⟩ (c_X9_put hC q2) (cwV 3 hts (gV mw_124 mw_125 mw_126 mw_5 mw_127) rfl rfl rfl hd_X9_put ⟨Nat.le_of_ble_eq_true rfl, Nat.le_of_ble_eq_true rfl⟩) hK hP rfl (at_Model hC hP) rfl hl.1 rfl (Nat.le_of_ble_eq_true rfl) dX9_move_25 ⟨Nat.zero_le _, Nat.zero_le _⟩ hL (fun H locs hP hL => ?_)
  replace hP : P r1 H := by first | exact hP | (simpa only [va_up_id] using hP)
  refine lv_iload_n hx hb dX9_move_28 rfl (lv_at hl 2 rfl) ?_
  refine lv_iconst (v := (-1)) hx hb dX9_move_29 (by decide) ?_
  refine lv_icmp_eq (tgt := 39) hx hb dX9_move_30 (by decide) (fun c3 => ?_) (fun c3 => ?_)
  · have hf := cx_t hf c3
    cases hf
    exact cx_vret hx hb hr hlocks hP hL dX9_move_39
  · have hf := cx_f hf c3
    refine lv_aload_n hx hb dX9_move_33 rfl (lv_at hl 0 rfl) ?_
    refine lv_iload_n hx hb dX9_move_34 rfl (lv_at hl 2 rfl) ?_
    refine lv_iload_n hx hb dX9_move_35 rfl (lv_at hl 1 rfl) ?_
    obtain ⟨r4, q5, hf⟩ := cx_b hf
    refine cx_callV (As := [.int x2, .int x1]) (rest := []) ⟨hx, hb, hml, hown, hts⟩ (c_X9_bring hC q5) (cwV 2 hts (gV mw_667 mw_668 mw_669 mw_5 mw_670) rfl rfl rfl hd_X9_bring ⟨Nat.le_of_ble_eq_true rfl, Nat.le_of_ble_eq_true rfl⟩) hK hP rfl (at_Model hC hP) rfl hl.1 rfl (Nat.le_of_ble_eq_true rfl) dX9_move_36 ⟨Nat.zero_le _, Nat.zero_le _⟩ hL (fun H locs hP hL => ?_)
    replace hP : P r4 H := by first | exact hP | (simpa only [va_up_id] using hP)
    cases hf
    exact cx_vret hx hb hr hlocks hP hL dX9_move_39
def f_X9_move (N : Nat) (μ : MdlS) (p0 : Int32) (p1 : Int32) : Option (MdlS) := (f_X9_of μ p0 0).bind fun r1 => if r1 = (-1) then f_X9_move_b21 N μ p0 p1 else (f_X9_of μ p0 0).bind fun r4 => (f_X9_take N μ r4 p0).bind fun r6 => f_X9_move_b21 N r6 p0 p1
set_option maxHeartbeats 4000000 in
set_option maxRecDepth 100000 in
theorem c_X9_move {l : Launch} {G : va_G} {cA : Nat → ClassId} {lo : Nat} {ad : Nat → Nat} {P : MdlS → Heap → Prop} (hC : cx G lo 9 ad (ceModel cA ad) P) {N : Nat} {μ : MdlS} {p0 : Int32} {p1 : Int32} {res : MdlS} (hf : f_X9_move N μ p0 p1 = some res) : Met l yX9_move (cW yX9_move cX9_move 3 none) rm_X9_move (cP [.ref (ad 0), .int p0, .int p1] (P μ) G cA) (cQ none (P res)) 0 0 (fun q => lo ≤ q) := by
  refine cx_met (by decide) (Nat.le_of_ble_eq_true rfl) (fun p e s m args below meth c ls C0 hP hl => ?_)
  have hl : lv_has ls 3 [(0, .ref (ad 0)), (1, .int p0), (2, .int p1)] := hl
  obtain ⟨⟨hx, hb, hml, hown, hts⟩, hr, hlocks, hK⟩ := id C0
  have hL : ∀ q ∈ ([] : List Loc), lo ≤ q.base := fun q h => nomatch h
  unfold f_X9_move at hf
  refine lv_aload_n hx hb dX9_move_0 rfl (lv_at hl 0 rfl) ?_
  refine lv_iload_n hx hb dX9_move_1 rfl (lv_at hl 1 rfl) ?_
  refine lv_iconst (v := 0) hx hb dX9_move_2 (by decide) ?_
  obtain ⟨r1, q2, hf⟩ := cx_b hf
  refine cx_callV (As := [.int p0, .int 0]) (rest := []) ⟨hx, hb, hml, hown, hts⟩ (c_X9_of hC q2) (cwV 2 hts (gV mw_618 mw_619 mw_620 mw_5 mw_621) rfl rfl rfl hd_X9_of ⟨Nat.le_of_ble_eq_true rfl, Nat.le_of_ble_eq_true rfl⟩) hK hP rfl (at_Model hC hP) rfl hl.1 rfl (Nat.le_of_ble_eq_true rfl) dX9_move_3 ⟨Nat.zero_le _, Nat.zero_le _⟩ hL (fun H locs hP hL => ?_)
  replace hP : P μ H := by first | exact hP | (simpa only [va_up_id] using hP)
  refine lv_iconst (v := (-1)) hx hb dX9_move_6 (by decide) ?_
  refine lv_icmp_eq (tgt := 21) hx hb dX9_move_7 (by decide) (fun c3 => ?_) (fun c3 => ?_)
  · have hf := cx_t hf c3
    exact w_X9_move_b21 C0 hC μ p0 p1 _ _ _ hf hP hL (lv_sub hl [0, 1, 2] rfl)
  · have hf := cx_f hf c3
    refine lv_aload_n hx hb dX9_move_10 rfl (lv_at hl 0 rfl) ?_
    refine lv_aload_n hx hb dX9_move_11 rfl (lv_at hl 0 rfl) ?_
    refine lv_iload_n hx hb dX9_move_12 rfl (lv_at hl 1 rfl) ?_
    refine lv_iconst (v := 0) hx hb dX9_move_13 (by decide) ?_
    obtain ⟨r4, q5, hf⟩ := cx_b hf
    refine cx_callV (As := [.int p0, .int 0]) (rest := [.ref (ad 0)]) ⟨hx, hb, hml, hown, hts⟩ (c_X9_of hC q5) (cwV 2 hts (gV mw_618 mw_619 mw_620 mw_5 mw_621) rfl rfl rfl hd_X9_of ⟨Nat.le_of_ble_eq_true rfl, Nat.le_of_ble_eq_true rfl⟩) hK hP rfl (at_Model hC hP) rfl hl.1 rfl (Nat.le_of_ble_eq_true rfl) dX9_move_14 ⟨Nat.zero_le _, Nat.zero_le _⟩ hL (fun H locs hP hL => ?_)
    replace hP : P μ H := by first | exact hP | (simpa only [va_up_id] using hP)
    refine lv_iload_n hx hb dX9_move_17 rfl (lv_at hl 1 rfl) ?_
    obtain ⟨r6, q7, hf⟩ := cx_b hf
    refine cx_callV (As := [.int r4, .int p0]) (rest := []) ⟨hx, hb, hml, hown, hts⟩ (c_X9_take hC q7) (cwV 2 hts (gV mw_651 mw_652 mw_653 mw_5 mw_654) rfl rfl rfl hd_X9_take ⟨Nat.le_of_ble_eq_true rfl, Nat.le_of_ble_eq_true rfl⟩) hK hP rfl (at_Model hC hP) rfl hl.1 rfl (Nat.le_of_ble_eq_true rfl) dX9_move_18 ⟨Nat.zero_le _, Nat.zero_le _⟩ hL (fun H locs hP hL => ?_)
    replace hP : P r6 H := by first | exact hP | (simpa only [va_up_id] using hP)
    exact w_X9_move_b21 C0 hC r6 p0 p1 _ _ _ hf hP hL (lv_sub hl [0, 1, 2] rfl)
abbrev rm_X9_leavingUnit : Room := { frames := 1, cells := 0, slots := 0, locals := 22 }
theorem hd_X9_leavingUnit : yX9_leavingUnit.cls = RX9 ∧ yX9_leavingUnit.cls ≠ "java/lang/invoke/MethodHandle" ∧ yX9_leavingUnit.cls ≠ "java/lang/invoke/VarHandle" ∧ (parseMethodDescriptor yX9_leavingUnit.desc).map (fun d => d.parameters.length) = some 0 := by decide +kernel
def f_X9_leavingUnit_b8 (N : Nat) : Nat → MdlS → Int32 → Option (Int32)
  | 0, _, _ => none
  | n + 1, μ, x1 => if x1 < 0 then (f_X9_length μ 2).bind fun r2 => (f_X9_blockAt μ 2 (r2 - 1)).bind fun r4 => some r4 else (f_X9_blockAt μ 2 x1).bind fun r6 => (f_X9_of μ r6 3).bind fun r8 => if r8 = (-1) then (f_X9_blockAt μ 2 x1).bind fun r11 => some r11 else f_X9_leavingUnit_b8 N n μ (x1 + (-1))
set_option maxHeartbeats 4000000 in
set_option maxRecDepth 100000 in
theorem w_X9_leavingUnit_b8 {p : Program} {l : Launch} {e : Env} {s : State} {m : MethodId} {args : Array Value} {below : List Frame} {meth : Method} {c : Code} {G : va_G} {cA : Nat → ClassId} (C0 : cB p s m args meth c RX9 cX9_leavingUnit 2 (some .int) G cA) {lo : Nat} {ad : Nat → Nat} {P : MdlS → Heap → Prop} (hC : cx G lo 9 ad (ceModel cA ad) P) {N : Nat} {res : Int32} : ∀ (n : Nat) (μ : MdlS) (x1 : Int32) (H : Heap) (locs : List Loc) (ls : Array Slot), f_X9_leavingUnit_b8 N n μ x1 = some res → P μ H → (∀ q ∈ locs, lo ≤ q.base) → lv_has ls 2 [(0, .ref (ad 0)), (1, .int x1)] → W p l e rm_X9_leavingUnit s m args below meth c H locs 0 0 (MQ below (cQ (some (.int res)) (P μ)) args s 0 0 (fun q => lo ≤ q)) (F0 m 8 ls []) := by
  obtain ⟨⟨hx, hb, hml, hown, hts⟩, hr, hlocks, hK⟩ := id C0
  intro n
  induction n with
  | zero => intro μ x1 H locs ls
            exact fun hf => nomatch hf
  | succ n ih =>
    intro μ x1 H locs ls hf hP hL hl
    rw [f_X9_leavingUnit_b8] at hf
    refine lv_iload_n hx hb dX9_leavingUnit_8 rfl (lv_at hl 1 rfl) ?_
    refine lv_if_lt (tgt := 40) hx hb dX9_leavingUnit_9 (by decide) (fun c1 => ?_) (fun c1 => ?_)
    · have hf := cx_t hf c1
      refine lv_aload_n hx hb dX9_leavingUnit_40 rfl (lv_at hl 0 rfl) ?_
      refine lv_iconst (v := 2) hx hb dX9_leavingUnit_41 (by decide) ?_
      refine lv_aload_n hx hb dX9_leavingUnit_42 rfl (lv_at hl 0 rfl) ?_
      refine lv_iconst (v := 2) hx hb dX9_leavingUnit_43 (by decide) ?_
      obtain ⟨r2, q3, hf⟩ := cx_b hf
      refine cx_callV (As := [.int 2]) (rest := [.int 2, .ref (ad 0)]) ⟨hx, hb, hml, hown, hts⟩ (c_X9_length hC q3) (cwV 1 hts (gV mw_663 mw_664 mw_665 mw_5 mw_666) rfl rfl rfl hd_X9_length ⟨Nat.le_of_ble_eq_true rfl, Nat.le_of_ble_eq_true rfl⟩) hK hP rfl (at_Model hC hP) rfl hl.1 rfl (Nat.le_of_ble_eq_true rfl) dX9_leavingUnit_44 ⟨Nat.zero_le _, Nat.zero_le _⟩ hL (fun H locs hP hL => ?_)
      replace hP : P μ H := by first | exact hP | (simpa only [va_up_id] using hP)
      refine lv_iconst (v := 1) hx hb dX9_leavingUnit_47 (by decide) ?_
      refine lv_isub hx hb dX9_leavingUnit_48 ?_
      obtain ⟨r4, q5, hf⟩ := cx_b hf
      refine cx_callV (As := [.int 2, .int (r2 - 1)]) (rest := []) ⟨hx, hb, hml, hown, hts⟩ (c_X9_blockAt hC q5) (cwV 2 hts (gV mw_659 mw_660 mw_661 mw_5 mw_662) rfl rfl rfl hd_X9_blockAt ⟨Nat.le_of_ble_eq_true rfl, Nat.le_of_ble_eq_true rfl⟩) hK hP rfl (at_Model hC hP) rfl hl.1 rfl (Nat.le_of_ble_eq_true rfl) dX9_leavingUnit_49 ⟨Nat.zero_le _, Nat.zero_le _⟩ hL (fun H locs hP hL => ?_)
      replace hP : P μ H := by first | exact hP | (simpa only [va_up_id] using hP)
      cases hf
      exact cx_iret hx hb hr hlocks hP hL dX9_leavingUnit_52
    · have hf := cx_f hf c1
      refine lv_aload_n hx hb dX9_leavingUnit_12 rfl (lv_at hl 0 rfl) ?_
      refine lv_aload_n hx hb dX9_leavingUnit_13 rfl (lv_at hl 0 rfl) ?_
      refine lv_iconst (v := 2) hx hb dX9_leavingUnit_14 (by decide) ?_
      refine lv_iload_n hx hb dX9_leavingUnit_15 rfl (lv_at hl 1 rfl) ?_
      obtain ⟨r6, q7, hf⟩ := cx_b hf
      refine cx_callV (As := [.int 2, .int x1]) (rest := [.ref (ad 0)]) ⟨hx, hb, hml, hown, hts⟩ (c_X9_blockAt hC q7) (cwV 2 hts (gV mw_659 mw_660 mw_661 mw_5 mw_662) rfl rfl rfl hd_X9_blockAt ⟨Nat.le_of_ble_eq_true rfl, Nat.le_of_ble_eq_true rfl⟩) hK hP rfl (at_Model hC hP) rfl hl.1 rfl (Nat.le_of_ble_eq_true rfl) dX9_leavingUnit_16 ⟨Nat.zero_le _, Nat.zero_le _⟩ hL (fun H locs hP hL => ?_)
      replace hP : P μ H := by first | exact hP | (simpa only [va_up_id] using hP)
      refine lv_iconst (v := 3) hx hb dX9_leavingUnit_19 (by decide) ?_
      obtain ⟨r8, q9, hf⟩ := cx_b hf
      refine cx_callV (As := [.int r6, .int 3]) (rest := []) ⟨hx, hb, hml, hown, hts⟩ (c_X9_of hC q9) (cwV 2 hts (gV mw_618 mw_619 mw_620 mw_5 mw_621) rfl rfl rfl hd_X9_of ⟨Nat.le_of_ble_eq_true rfl, Nat.le_of_ble_eq_true rfl⟩) hK hP rfl (at_Model hC hP) rfl hl.1 rfl (Nat.le_of_ble_eq_true rfl) dX9_leavingUnit_20 ⟨Nat.zero_le _, Nat.zero_le _⟩ hL (fun H locs hP hL => ?_)
      replace hP : P μ H := by first | exact hP | (simpa only [va_up_id] using hP)
      refine lv_iconst (v := (-1)) hx hb dX9_leavingUnit_23 (by decide) ?_
      refine lv_icmp_ne (tgt := 34) hx hb dX9_leavingUnit_24 (by decide) (fun c10 => ?_) (fun c10 => ?_)
      · have hf := cx_f hf c10
        refine lv_iinc (v := (x1 + (-1))) (lv' := [(1, .int (x1 + (-1))), (0, .ref (ad 0))]) hx hb dX9_leavingUnit_34 hl (k := 1) rfl rfl (by decide) rfl (fun ls hl => ?_)
        refine lv_goto (tgt := 8) hx hb dX9_leavingUnit_37 (by decide) ?_
        exact ih μ (x1 + (-1)) _ _ _ hf hP hL (lv_sub hl [1, 0] rfl)
      · have hf := cx_t hf c10
        refine lv_aload_n hx hb dX9_leavingUnit_27 rfl (lv_at hl 0 rfl) ?_
        refine lv_iconst (v := 2) hx hb dX9_leavingUnit_28 (by decide) ?_
        refine lv_iload_n hx hb dX9_leavingUnit_29 rfl (lv_at hl 1 rfl) ?_
        obtain ⟨r11, q12, hf⟩ := cx_b hf
        refine cx_callV (As := [.int 2, .int x1]) (rest := []) ⟨hx, hb, hml, hown, hts⟩ (c_X9_blockAt hC q12) (cwV 2 hts (gV mw_659 mw_660 mw_661 mw_5 mw_662) rfl rfl rfl hd_X9_blockAt ⟨Nat.le_of_ble_eq_true rfl, Nat.le_of_ble_eq_true rfl⟩) hK hP rfl (at_Model hC hP) rfl hl.1 rfl (Nat.le_of_ble_eq_true rfl) dX9_leavingUnit_30 ⟨Nat.zero_le _, Nat.zero_le _⟩ hL (fun H locs hP hL => ?_)
        replace hP : P μ H := by first | exact hP | (simpa only [va_up_id] using hP)
        cases hf
        exact cx_iret hx hb hr hlocks hP hL dX9_leavingUnit_33
def f_X9_leavingUnit (N : Nat) (μ : MdlS) : Option (Int32) := (f_X9_length μ 2).bind fun r1 => f_X9_leavingUnit_b8 N N μ (r1 - 1)
set_option maxHeartbeats 4000000 in
set_option maxRecDepth 100000 in
theorem c_X9_leavingUnit {l : Launch} {G : va_G} {cA : Nat → ClassId} {lo : Nat} {ad : Nat → Nat} {P : MdlS → Heap → Prop} (hC : cx G lo 9 ad (ceModel cA ad) P) {N : Nat} {μ : MdlS} {res : Int32} (hf : f_X9_leavingUnit N μ = some res) : Met l yX9_leavingUnit (cW yX9_leavingUnit cX9_leavingUnit 2 (some .int)) rm_X9_leavingUnit (cP [.ref (ad 0)] (P μ) G cA) (cQ (some (.int res)) (P μ)) 0 0 (fun q => lo ≤ q) := by
  refine cx_met (by decide) (Nat.le_of_ble_eq_true rfl) (fun p e s m args below meth c ls C0 hP hl => ?_)
  have hl : lv_has ls 2 [(0, .ref (ad 0))] := hl
  obtain ⟨⟨hx, hb, hml, hown, hts⟩, hr, hlocks, hK⟩ := id C0
  have hL : ∀ q ∈ ([] : List Loc), lo ≤ q.base := fun q h => nomatch h
  unfold f_X9_leavingUnit at hf
  refine lv_aload_n hx hb dX9_leavingUnit_0 rfl (lv_at hl 0 rfl) ?_
  refine lv_iconst (v := 2) hx hb dX9_leavingUnit_1 (by decide) ?_
  obtain ⟨r1, q2, hf⟩ := cx_b hf
  refine cx_callV (As := [.int 2]) (rest := []) ⟨hx, hb, hml, hown, hts⟩ (c_X9_length hC q2) (cwV 1 hts (gV mw_663 mw_664 mw_665 mw_5 mw_666) rfl rfl rfl hd_X9_length ⟨Nat.le_of_ble_eq_true rfl, Nat.le_of_ble_eq_true rfl⟩) hK hP rfl (at_Model hC hP) rfl hl.1 rfl (Nat.le_of_ble_eq_true rfl) dX9_leavingUnit_2 ⟨Nat.zero_le _, Nat.zero_le _⟩ hL (fun H locs hP hL => ?_)
  replace hP : P μ H := by first | exact hP | (simpa only [va_up_id] using hP)
  refine lv_iconst (v := 1) hx hb dX9_leavingUnit_5 (by decide) ?_
  refine lv_isub hx hb dX9_leavingUnit_6 ?_
  refine lv_istore_n (lv' := [(1, .int (r1 - 1)), (0, .ref (ad 0))]) hx hb dX9_leavingUnit_7 rfl hl (by decide) rfl (fun ls hl => ?_)
  exact w_X9_leavingUnit_b8 C0 hC N μ (r1 - 1) _ _ _ hf hP hL (lv_sub hl [1, 0] rfl)
abbrev rm_X9_makeRoomBelow : Room := { frames := 4, cells := 0, slots := 0, locals := 91 }
theorem hd_X9_makeRoomBelow : yX9_makeRoomBelow.cls = RX9 ∧ yX9_makeRoomBelow.cls ≠ "java/lang/invoke/MethodHandle" ∧ yX9_makeRoomBelow.cls ≠ "java/lang/invoke/VarHandle" ∧ (parseMethodDescriptor yX9_makeRoomBelow.desc).map (fun d => d.parameters.length) = some 0 := by decide +kernel
def f_X9_makeRoomBelow_b37 (N : Nat) (μ : MdlS) (x1 : Int32) : Option (MdlS) := (f_X9_move N μ x1 (-1)).bind fun r1 => gd 20 1384 (gd 20 1384 (cx_let ((oA r1.1 0 (Int32.toNatClampNeg 20) ((r1.1.1 0 (Int32.toNatClampNeg 20)) + 1), r1.2)) fun z5 => some z5))
set_option maxHeartbeats 4000000 in
set_option maxRecDepth 100000 in
theorem w_X9_makeRoomBelow_b37 {p : Program} {l : Launch} {e : Env} {s : State} {m : MethodId} {args : Array Value} {below : List Frame} {meth : Method} {c : Code} {G : va_G} {cA : Nat → ClassId} (C0 : cB p s m args meth c RX9 cX9_makeRoomBelow 2 none G cA) {lo : Nat} {ad : Nat → Nat} {P : MdlS → Heap → Prop} (hC : cx G lo 9 ad (ceModel cA ad) P) {N : Nat} {res : MdlS} : ∀ (μ : MdlS) (x1 : Int32) (H : Heap) (locs : List Loc) (ls : Array Slot), f_X9_makeRoomBelow_b37 N μ x1 = some res → P μ H → (∀ q ∈ locs, lo ≤ q.base) → lv_has ls 2 [(0, .ref (ad 0)), (1, .int x1)] → W p l e rm_X9_makeRoomBelow s m args below meth c H locs 0 0 (MQ below (cQ none (P res)) args s 0 0 (fun q => lo ≤ q)) (F0 m 37 ls []) := by
  obtain ⟨⟨hx, hb, hml, hown, hts⟩, hr, hlocks, hK⟩ := id C0
  intro μ x1 H locs ls hf hP hL hl
  unfold f_X9_makeRoomBelow_b37 at hf
  refine lv_aload_n hx hb dX9_makeRoomBelow_37 rfl (lv_at hl 0 rfl) ?_
  refine lv_iload_n hx hb dX9_makeRoomBelow_38 rfl (lv_at hl 1 rfl) ?_
  refine lv_iconst (v := (-1)) hx hb dX9_makeRoomBelow_39 (by decide) ?_
  obtain ⟨r1, q2, hf⟩ := cx_b hf
  refine cx_callV (As := [.int x1, .int (-1)]) (rest := []) ⟨hx, hb, hml, hown, hts⟩ (c_X9_move hC q2) (cwV 2 hts (gV mw_647 mw_648 mw_649 mw_5 mw_650) rfl rfl rfl hd_X9_move ⟨Nat.le_of_ble_eq_true rfl, Nat.le_of_ble_eq_true rfl⟩) hK hP rfl (at_Model hC hP) rfl hl.1 rfl (Nat.le_of_ble_eq_true rfl) dX9_makeRoomBelow_40 ⟨Nat.zero_le _, Nat.zero_le _⟩ hL (fun H locs hP hL => ?_)
  replace hP : P r1 H := by first | exact hP | (simpa only [va_up_id] using hP)
  refine lv_aload_n hx hb dX9_makeRoomBelow_43 rfl (lv_at hl 0 rfl) ?_
  refine g_Model_0 hC hP hx hb hts hown hK mw_114 dX9_makeRoomBelow_44 ?_
  refine lv_bipush (v := 20) hx hb dX9_makeRoomBelow_47 (by decide) ?_
  refine lv_dup2_11 hx hb dX9_makeRoomBelow_49 rfl rfl ?_
  obtain ⟨hi3, hf⟩ := gdE hf
  refine ga_Model_0 hC hP hx hb hK hi3 dX9_makeRoomBelow_50 ?_
  refine lv_iconst (v := 1) hx hb dX9_makeRoomBelow_51 (by decide) ?_
  refine lv_iadd hx hb dX9_makeRoomBelow_52 ?_
  obtain ⟨hi4, hf⟩ := gdE hf
  obtain ⟨z5, ez5, hf⟩ := cx_letE hf
  refine pa_Model_0 hC hP hx hb hK hi4 dX9_makeRoomBelow_53 hL (fun H locs hP hL => ?_)
  replace hP : P z5 H := by rw [← ez5]; exact hP
  cases hf
  exact cx_vret hx hb hr hlocks hP hL dX9_makeRoomBelow_54
def f_X9_makeRoomBelow (N : Nat) (μ : MdlS) : Option (MdlS) := (f_X9_length μ 2).bind fun r1 => gd 3 1384 (if r1 = (μ.1.1 0 (Int32.toNatClampNeg 3)) then (f_X9_leavingUnit N μ).bind fun r5 => cx_let ((oI μ.1 20 r5, μ.2)) fun z7 => (f_X9_isDirty z7 r5).bind fun r8 => if r8 = 0 then f_X9_makeRoomBelow_b37 N z7 r5 else (f_X9_writeUnit z7 r5).bind fun r11 => f_X9_makeRoomBelow_b37 N r11 r5 else some μ)
set_option maxHeartbeats 4000000 in
set_option maxRecDepth 100000 in
theorem c_X9_makeRoomBelow {l : Launch} {G : va_G} {cA : Nat → ClassId} {lo : Nat} {ad : Nat → Nat} {P : MdlS → Heap → Prop} (hC : cx G lo 9 ad (ceModel cA ad) P) {N : Nat} {μ : MdlS} {res : MdlS} (hf : f_X9_makeRoomBelow N μ = some res) : Met l yX9_makeRoomBelow (cW yX9_makeRoomBelow cX9_makeRoomBelow 2 none) rm_X9_makeRoomBelow (cP [.ref (ad 0)] (P μ) G cA) (cQ none (P res)) 0 0 (fun q => lo ≤ q) := by
  refine cx_met (by decide) (Nat.le_of_ble_eq_true rfl) (fun p e s m args below meth c ls C0 hP hl => ?_)
  have hl : lv_has ls 2 [(0, .ref (ad 0))] := hl
  obtain ⟨⟨hx, hb, hml, hown, hts⟩, hr, hlocks, hK⟩ := id C0
  have hL : ∀ q ∈ ([] : List Loc), lo ≤ q.base := fun q h => nomatch h
  unfold f_X9_makeRoomBelow at hf
  refine lv_aload_n hx hb dX9_makeRoomBelow_0 rfl (lv_at hl 0 rfl) ?_
  refine lv_iconst (v := 2) hx hb dX9_makeRoomBelow_1 (by decide) ?_
  obtain ⟨r1, q2, hf⟩ := cx_b hf
  refine cx_callV (As := [.int 2]) (rest := []) ⟨hx, hb, hml, hown, hts⟩ (c_X9_length hC q2) (cwV 1 hts (gV mw_663 mw_664 mw_665 mw_5 mw_666) rfl rfl rfl hd_X9_length ⟨Nat.le_of_ble_eq_true rfl, Nat.le_of_ble_eq_true rfl⟩) hK hP rfl (at_Model hC hP) rfl hl.1 rfl (Nat.le_of_ble_eq_true rfl) dX9_makeRoomBelow_2 ⟨Nat.zero_le _, Nat.zero_le _⟩ hL (fun H locs hP hL => ?_)
  replace hP : P μ H := by first | exact hP | (simpa only [va_up_id] using hP)
  refine lv_aload_n hx hb dX9_makeRoomBelow_5 rfl (lv_at hl 0 rfl) ?_
  refine g_Model_0 hC hP hx hb hts hown hK mw_114 dX9_makeRoomBelow_6 ?_
  refine lv_iconst (v := 3) hx hb dX9_makeRoomBelow_9 (by decide) ?_
  obtain ⟨hi3, hf⟩ := gdE hf
  refine ga_Model_0 hC hP hx hb hK hi3 dX9_makeRoomBelow_10 ?_
  refine lv_icmp_ne (tgt := 54) hx hb dX9_makeRoomBelow_11 (by decide) (fun c4 => ?_) (fun c4 => ?_)
  · have hf := cx_f hf c4
    cases hf
    exact cx_vret hx hb hr hlocks hP hL dX9_makeRoomBelow_54
  · have hf := cx_t hf c4
    refine lv_aload_n hx hb dX9_makeRoomBelow_14 rfl (lv_at hl 0 rfl) ?_
    obtain ⟨r5, q6, hf⟩ := cx_b hf
    refine cx_callV (As := []) (rest := []) ⟨hx, hb, hml, hown, hts⟩ (c_X9_leavingUnit hC q6) (cwV 0 hts (gV mw_680 mw_681 mw_682 mw_5 mw_683) rfl rfl rfl hd_X9_leavingUnit ⟨Nat.le_of_ble_eq_true rfl, Nat.le_of_ble_eq_true rfl⟩) hK hP rfl (at_Model hC hP) rfl hl.1 rfl (Nat.le_of_ble_eq_true rfl) dX9_makeRoomBelow_15 ⟨Nat.zero_le _, Nat.zero_le _⟩ hL (fun H locs hP hL => ?_)
    replace hP : P μ H := by first | exact hP | (simpa only [va_up_id] using hP)
    refine lv_istore_n (lv' := [(1, .int r5), (0, .ref (ad 0))]) hx hb dX9_makeRoomBelow_18 rfl hl (by decide) rfl (fun ls hl => ?_)
    refine lv_aload_n hx hb dX9_makeRoomBelow_19 rfl (lv_at hl 1 rfl) ?_
    refine lv_iload_n hx hb dX9_makeRoomBelow_20 rfl (lv_at hl 0 rfl) ?_
    obtain ⟨z7, ez7, hf⟩ := cx_letE hf
    refine p_Model_20 hC hP hx hb hts hown hK mw_679 dX9_makeRoomBelow_21 hL (fun H locs hP hL => ?_)
    replace hP : P z7 H := by rw [← ez7]; exact hP
    refine lv_aload_n hx hb dX9_makeRoomBelow_24 rfl (lv_at hl 1 rfl) ?_
    refine lv_iload_n hx hb dX9_makeRoomBelow_25 rfl (lv_at hl 0 rfl) ?_
    obtain ⟨r8, q9, hf⟩ := cx_b hf
    refine cx_callV (As := [.int r5]) (rest := []) ⟨hx, hb, hml, hown, hts⟩ (c_X9_isDirty hC q9) (cwV 1 hts (gV mw_614 mw_615 mw_616 mw_5 mw_617) rfl rfl rfl hd_X9_isDirty ⟨Nat.le_of_ble_eq_true rfl, Nat.le_of_ble_eq_true rfl⟩) hK hP rfl (at_Model hC hP) rfl hl.1 rfl (Nat.le_of_ble_eq_true rfl) dX9_makeRoomBelow_26 ⟨Nat.zero_le _, Nat.zero_le _⟩ hL (fun H locs hP hL => ?_)
    replace hP : P z7 H := by first | exact hP | (simpa only [va_up_id] using hP)
    refine lv_if_eq (tgt := 37) hx hb dX9_makeRoomBelow_29 (by decide) (fun c10 => ?_) (fun c10 => ?_)
    · have hf := cx_t hf c10
      exact w_X9_makeRoomBelow_b37 C0 hC z7 r5 _ _ _ hf hP hL (lv_sub hl [1, 0] rfl)
    · have hf := cx_f hf c10
      refine lv_aload_n hx hb dX9_makeRoomBelow_32 rfl (lv_at hl 1 rfl) ?_
      refine lv_iload_n hx hb dX9_makeRoomBelow_33 rfl (lv_at hl 0 rfl) ?_
      obtain ⟨r11, q12, hf⟩ := cx_b hf
      refine cx_callV (As := [.int r5]) (rest := []) ⟨hx, hb, hml, hown, hts⟩ (c_X9_writeUnit hC q12) (cwV 1 hts (gV mw_622 mw_623 mw_624 mw_5 mw_625) rfl rfl rfl hd_X9_writeUnit ⟨Nat.le_of_ble_eq_true rfl, Nat.le_of_ble_eq_true rfl⟩) hK hP rfl (at_Model hC hP) rfl hl.1 rfl (Nat.le_of_ble_eq_true rfl) dX9_makeRoomBelow_34 ⟨Nat.zero_le _, Nat.zero_le _⟩ hL (fun H locs hP hL => ?_)
      replace hP : P r11 H := by first | exact hP | (simpa only [va_up_id] using hP)
      exact w_X9_makeRoomBelow_b37 C0 hC r11 r5 _ _ _ hf hP hL (lv_sub hl [1, 0] rfl)
abbrev rm_X9_clean : Room := { frames := 1, cells := 0, slots := 0, locals := 23 }
theorem hd_X9_clean : yX9_clean.cls = RX9 ∧ yX9_clean.cls ≠ "java/lang/invoke/MethodHandle" ∧ yX9_clean.cls ≠ "java/lang/invoke/VarHandle" ∧ (parseMethodDescriptor yX9_clean.desc).map (fun d => d.parameters.length) = some 1 := by decide +kernel
def f_X9_clean (μ : MdlS) (p0 : Int32) : Option (MdlS) := gd (1184 + p0) 1384 ((f_X9_put μ p0 1 (μ.1.1 0 (Int32.toNatClampNeg (1184 + p0)))).bind fun r2 => (f_X9_put r2 p0 3 (-1)).bind fun r4 => some r4)
set_option maxHeartbeats 4000000 in
set_option maxRecDepth 100000 in
theorem c_X9_clean {l : Launch} {G : va_G} {cA : Nat → ClassId} {lo : Nat} {ad : Nat → Nat} {P : MdlS → Heap → Prop} (hC : cx G lo 9 ad (ceModel cA ad) P) {μ : MdlS} {p0 : Int32} {res : MdlS} (hf : f_X9_clean μ p0 = some res) : Met l yX9_clean (cW yX9_clean cX9_clean 2 none) rm_X9_clean (cP [.ref (ad 0), .int p0] (P μ) G cA) (cQ none (P res)) 0 0 (fun q => lo ≤ q) := by
  refine cx_met (by decide) (Nat.le_of_ble_eq_true rfl) (fun p e s m args below meth c ls C0 hP hl => ?_)
  have hl : lv_has ls 2 [(0, .ref (ad 0)), (1, .int p0)] := hl
  obtain ⟨⟨hx, hb, hml, hown, hts⟩, hr, hlocks, hK⟩ := id C0
  have hL : ∀ q ∈ ([] : List Loc), lo ≤ q.base := fun q h => nomatch h
  unfold f_X9_clean at hf
  refine lv_aload_n hx hb dX9_clean_0 rfl (lv_at hl 0 rfl) ?_
  refine lv_iload_n hx hb dX9_clean_1 rfl (lv_at hl 1 rfl) ?_
  refine lv_iconst (v := 1) hx hb dX9_clean_2 (by decide) ?_
  refine lv_aload_n hx hb dX9_clean_3 rfl (lv_at hl 0 rfl) ?_
  refine g_Model_0 hC hP hx hb hts hown hK mw_114 dX9_clean_4 ?_
  refine lv_sipush (v := 1184) hx hb dX9_clean_7 (by decide) ?_
  refine lv_iload_n hx hb dX9_clean_10 rfl (lv_at hl 1 rfl) ?_
  refine lv_iadd hx hb dX9_clean_11 ?_
  obtain ⟨hi1, hf⟩ := gdE hf
  refine ga_Model_0 hC hP hx hb hK hi1 dX9_clean_12 ?_
  obtain ⟨r2, q3, hf⟩ := cx_b hf
  refine cx_callV (As := [.int p0, .int 1, .int (μ.1.1 0 (Int32.toNatClampNeg (1184 + p0)))]) (rest := []) ⟨hx, hb, hml, hown, hts⟩ (c_X9_put hC q3) (cwV 3 hts (gV mw_124 mw_125 mw_126 mw_5 mw_127) rfl rfl rfl hd_X9_put ⟨Nat.le_of_ble_eq_true rfl, Nat.le_of_ble_eq_true rfl⟩) hK hP rfl (at_Model hC hP) rfl hl.1 rfl (Nat.le_of_ble_eq_true rfl) dX9_clean_13 ⟨Nat.zero_le _, Nat.zero_le _⟩ hL (fun H locs hP hL => ?_)
  replace hP : P r2 H := by first | exact hP | (simpa only [va_up_id] using hP)
  refine lv_aload_n hx hb dX9_clean_16 rfl (lv_at hl 0 rfl) ?_
  refine lv_iload_n hx hb dX9_clean_17 rfl (lv_at hl 1 rfl) ?_
  refine lv_iconst (v := 3) hx hb dX9_clean_18 (by decide) ?_
  refine lv_iconst (v := (-1)) hx hb dX9_clean_19 (by decide) ?_
  obtain ⟨r4, q5, hf⟩ := cx_b hf
  refine cx_callV (As := [.int p0, .int 3, .int (-1)]) (rest := []) ⟨hx, hb, hml, hown, hts⟩ (c_X9_put hC q5) (cwV 3 hts (gV mw_124 mw_125 mw_126 mw_5 mw_127) rfl rfl rfl hd_X9_put ⟨Nat.le_of_ble_eq_true rfl, Nat.le_of_ble_eq_true rfl⟩) hK hP rfl (at_Model hC hP) rfl hl.1 rfl (Nat.le_of_ble_eq_true rfl) dX9_clean_20 ⟨Nat.zero_le _, Nat.zero_le _⟩ hL (fun H locs hP hL => ?_)
  replace hP : P r4 H := by first | exact hP | (simpa only [va_up_id] using hP)
  cases hf
  exact cx_vret hx hb hr hlocks hP hL dX9_clean_23
abbrev rm_X9_scan : Room := { frames := 5, cells := 0, slots := 0, locals := 112 }
theorem hd_X9_scan : yX9_scan.cls = RX9 ∧ yX9_scan.cls ≠ "java/lang/invoke/MethodHandle" ∧ yX9_scan.cls ≠ "java/lang/invoke/VarHandle" ∧ (parseMethodDescriptor yX9_scan.desc).map (fun d => d.parameters.length) = some 2 := by decide +kernel
def f_X9_scan (N : Nat) (μ : MdlS) (p0 : Int32) (p1 : Int32) : Option (MdlS) := (f_X9_of μ p1 0).bind fun r1 => if r1 = 2 then (f_X9_countHit μ p0 1).bind fun r12 => (f_X9_move N r12 p1 2).bind fun r14 => some r14 else (f_X9_countHit μ p0 2).bind fun r4 => (f_X9_makeRoomBelow N r4).bind fun r6 => (f_X9_clean r6 p1).bind fun r8 => (f_X9_move N r8 p1 2).bind fun r10 => some r10
set_option maxHeartbeats 4000000 in
set_option maxRecDepth 100000 in
theorem c_X9_scan {l : Launch} {G : va_G} {cA : Nat → ClassId} {lo : Nat} {ad : Nat → Nat} {P : MdlS → Heap → Prop} (hC : cx G lo 9 ad (ceModel cA ad) P) {N : Nat} {μ : MdlS} {p0 : Int32} {p1 : Int32} {res : MdlS} (hf : f_X9_scan N μ p0 p1 = some res) : Met l yX9_scan (cW yX9_scan cX9_scan 3 none) rm_X9_scan (cP [.ref (ad 0), .int p0, .int p1] (P μ) G cA) (cQ none (P res)) 0 0 (fun q => lo ≤ q) := by
  refine cx_met (by decide) (Nat.le_of_ble_eq_true rfl) (fun p e s m args below meth c ls C0 hP hl => ?_)
  have hl : lv_has ls 3 [(0, .ref (ad 0)), (1, .int p0), (2, .int p1)] := hl
  obtain ⟨⟨hx, hb, hml, hown, hts⟩, hr, hlocks, hK⟩ := id C0
  have hL : ∀ q ∈ ([] : List Loc), lo ≤ q.base := fun q h => nomatch h
  unfold f_X9_scan at hf
  refine lv_aload_n hx hb dX9_scan_0 rfl (lv_at hl 0 rfl) ?_
  refine lv_iload_n hx hb dX9_scan_1 rfl (lv_at hl 2 rfl) ?_
  refine lv_iconst (v := 0) hx hb dX9_scan_2 (by decide) ?_
  obtain ⟨r1, q2, hf⟩ := cx_b hf
  refine cx_callV (As := [.int p1, .int 0]) (rest := []) ⟨hx, hb, hml, hown, hts⟩ (c_X9_of hC q2) (cwV 2 hts (gV mw_618 mw_619 mw_620 mw_5 mw_621) rfl rfl rfl hd_X9_of ⟨Nat.le_of_ble_eq_true rfl, Nat.le_of_ble_eq_true rfl⟩) hK hP rfl (at_Model hC hP) rfl hl.1 rfl (Nat.le_of_ble_eq_true rfl) dX9_scan_3 ⟨Nat.zero_le _, Nat.zero_le _⟩ hL (fun H locs hP hL => ?_)
  replace hP : P μ H := by first | exact hP | (simpa only [va_up_id] using hP)
  refine lv_iconst (v := 2) hx hb dX9_scan_6 (by decide) ?_
  refine lv_icmp_ne (tgt := 19) hx hb dX9_scan_7 (by decide) (fun c3 => ?_) (fun c3 => ?_)
  · have hf := cx_f hf c3
    refine lv_aload_n hx hb dX9_scan_19 rfl (lv_at hl 0 rfl) ?_
    refine lv_iload_n hx hb dX9_scan_20 rfl (lv_at hl 1 rfl) ?_
    refine lv_iconst (v := 2) hx hb dX9_scan_21 (by decide) ?_
    obtain ⟨r4, q5, hf⟩ := cx_b hf
    refine cx_callV (As := [.int p0, .int 2]) (rest := []) ⟨hx, hb, hml, hown, hts⟩ (c_X9_countHit hC q5) (cwV 2 hts (gV mw_643 mw_644 mw_645 mw_5 mw_646) rfl rfl rfl hd_X9_countHit ⟨Nat.le_of_ble_eq_true rfl, Nat.le_of_ble_eq_true rfl⟩) hK hP rfl (at_Model hC hP) rfl hl.1 rfl (Nat.le_of_ble_eq_true rfl) dX9_scan_22 ⟨Nat.zero_le _, Nat.zero_le _⟩ hL (fun H locs hP hL => ?_)
    replace hP : P r4 H := by first | exact hP | (simpa only [va_up_id] using hP)
    refine lv_aload_n hx hb dX9_scan_25 rfl (lv_at hl 0 rfl) ?_
    obtain ⟨r6, q7, hf⟩ := cx_b hf
    refine cx_callV (As := []) (rest := []) ⟨hx, hb, hml, hown, hts⟩ (c_X9_makeRoomBelow hC q7) (cwV 0 hts (gV mw_675 mw_676 mw_677 mw_5 mw_678) rfl rfl rfl hd_X9_makeRoomBelow ⟨Nat.le_of_ble_eq_true rfl, Nat.le_of_ble_eq_true rfl⟩) hK hP rfl (at_Model hC hP) rfl hl.1 rfl (Nat.le_of_ble_eq_true rfl) dX9_scan_26 ⟨Nat.zero_le _, Nat.zero_le _⟩ hL (fun H locs hP hL => ?_)
    replace hP : P r6 H := by first | exact hP | (simpa only [va_up_id] using hP)
    refine lv_aload_n hx hb dX9_scan_29 rfl (lv_at hl 0 rfl) ?_
    refine lv_iload_n hx hb dX9_scan_30 rfl (lv_at hl 2 rfl) ?_
    obtain ⟨r8, q9, hf⟩ := cx_b hf
    refine cx_callV (As := [.int p1]) (rest := []) ⟨hx, hb, hml, hown, hts⟩ (c_X9_clean hC q9) (cwV 1 hts (gV mw_684 mw_685 mw_686 mw_5 mw_687) rfl rfl rfl hd_X9_clean ⟨Nat.le_of_ble_eq_true rfl, Nat.le_of_ble_eq_true rfl⟩) hK hP rfl (at_Model hC hP) rfl hl.1 rfl (Nat.le_of_ble_eq_true rfl) dX9_scan_31 ⟨Nat.zero_le _, Nat.zero_le _⟩ hL (fun H locs hP hL => ?_)
    replace hP : P r8 H := by first | exact hP | (simpa only [va_up_id] using hP)
    refine lv_aload_n hx hb dX9_scan_34 rfl (lv_at hl 0 rfl) ?_
    refine lv_iload_n hx hb dX9_scan_35 rfl (lv_at hl 2 rfl) ?_
    refine lv_iconst (v := 2) hx hb dX9_scan_36 (by decide) ?_
    obtain ⟨r10, q11, hf⟩ := cx_b hf
    refine cx_callV (As := [.int p1, .int 2]) (rest := []) ⟨hx, hb, hml, hown, hts⟩ (c_X9_move hC q11) (cwV 2 hts (gV mw_647 mw_648 mw_649 mw_5 mw_650) rfl rfl rfl hd_X9_move ⟨Nat.le_of_ble_eq_true rfl, Nat.le_of_ble_eq_true rfl⟩) hK hP rfl (at_Model hC hP) rfl hl.1 rfl (Nat.le_of_ble_eq_true rfl) dX9_scan_37 ⟨Nat.zero_le _, Nat.zero_le _⟩ hL (fun H locs hP hL => ?_)
    replace hP : P r10 H := by first | exact hP | (simpa only [va_up_id] using hP)
    cases hf
    exact cx_vret hx hb hr hlocks hP hL dX9_scan_40
  · have hf := cx_t hf c3
    refine lv_aload_n hx hb dX9_scan_10 rfl (lv_at hl 0 rfl) ?_
    refine lv_iload_n hx hb dX9_scan_11 rfl (lv_at hl 1 rfl) ?_
    refine lv_iconst (v := 1) hx hb dX9_scan_12 (by decide) ?_
    obtain ⟨r12, q13, hf⟩ := cx_b hf
    refine cx_callV (As := [.int p0, .int 1]) (rest := []) ⟨hx, hb, hml, hown, hts⟩ (c_X9_countHit hC q13) (cwV 2 hts (gV mw_643 mw_644 mw_645 mw_5 mw_646) rfl rfl rfl hd_X9_countHit ⟨Nat.le_of_ble_eq_true rfl, Nat.le_of_ble_eq_true rfl⟩) hK hP rfl (at_Model hC hP) rfl hl.1 rfl (Nat.le_of_ble_eq_true rfl) dX9_scan_13 ⟨Nat.zero_le _, Nat.zero_le _⟩ hL (fun H locs hP hL => ?_)
    replace hP : P r12 H := by first | exact hP | (simpa only [va_up_id] using hP)
    refine lv_goto (tgt := 34) hx hb dX9_scan_16 (by decide) ?_
    refine lv_aload_n hx hb dX9_scan_34 rfl (lv_at hl 0 rfl) ?_
    refine lv_iload_n hx hb dX9_scan_35 rfl (lv_at hl 2 rfl) ?_
    refine lv_iconst (v := 2) hx hb dX9_scan_36 (by decide) ?_
    obtain ⟨r14, q15, hf⟩ := cx_b hf
    refine cx_callV (As := [.int p1, .int 2]) (rest := []) ⟨hx, hb, hml, hown, hts⟩ (c_X9_move hC q15) (cwV 2 hts (gV mw_647 mw_648 mw_649 mw_5 mw_650) rfl rfl rfl hd_X9_move ⟨Nat.le_of_ble_eq_true rfl, Nat.le_of_ble_eq_true rfl⟩) hK hP rfl (at_Model hC hP) rfl hl.1 rfl (Nat.le_of_ble_eq_true rfl) dX9_scan_37 ⟨Nat.zero_le _, Nat.zero_le _⟩ hL (fun H locs hP hL => ?_)
    replace hP : P r14 H := by first | exact hP | (simpa only [va_up_id] using hP)
    cases hf
    exact cx_vret hx hb hr hlocks hP hL dX9_scan_40
abbrev rm_X9_learn : Room := { frames := 1, cells := 0, slots := 0, locals := 21 }
theorem hd_X9_learn : yX9_learn.cls = RX9 ∧ yX9_learn.cls ≠ "java/lang/invoke/MethodHandle" ∧ yX9_learn.cls ≠ "java/lang/invoke/VarHandle" ∧ (parseMethodDescriptor yX9_learn.desc).map (fun d => d.parameters.length) = some 1 := by decide +kernel
def f_X9_learn (μ : MdlS) (p0 : Int32) : Option (MdlS) := (f_X9_length μ 3).bind fun r1 => (f_X9_length μ 4).bind fun r3 => if p0 = 3 then gd 2 1384 (gd 4 1384 (dz r1 (gd 4 1384 (cx_let ((oA μ.1 0 (Int32.toNatClampNeg 4) (if ((μ.1.1 0 (Int32.toNatClampNeg 4)) + (if 1 < (r3 / r1) then (r3 / r1) else 1)) < (μ.1.1 0 (Int32.toNatClampNeg 2)) then ((μ.1.1 0 (Int32.toNatClampNeg 4)) + (if 1 < (r3 / r1) then (r3 / r1) else 1)) else (μ.1.1 0 (Int32.toNatClampNeg 2))), μ.2)) fun z17 => gd ((17 + p0) - 3) 1384 (gd ((17 + p0) - 3) 1384 (cx_let ((oA z17.1 0 (Int32.toNatClampNeg ((17 + p0) - 3)) ((z17.1.1 0 (Int32.toNatClampNeg ((17 + p0) - 3))) + 1), z17.2)) fun z20 => some z20)))))) else gd 4 1384 (dz r3 (gd 4 1384 (cx_let ((oA μ.1 0 (Int32.toNatClampNeg 4) (if 0 < ((μ.1.1 0 (Int32.toNatClampNeg 4)) - (if 1 < (r1 / r3) then (r1 / r3) else 1)) then ((μ.1.1 0 (Int32.toNatClampNeg 4)) - (if 1 < (r1 / r3) then (r1 / r3) else 1)) else 0), μ.2)) fun z9 => gd ((17 + p0) - 3) 1384 (gd ((17 + p0) - 3) 1384 (cx_let ((oA z9.1 0 (Int32.toNatClampNeg ((17 + p0) - 3)) ((z9.1.1 0 (Int32.toNatClampNeg ((17 + p0) - 3))) + 1), z9.2)) fun z12 => some z12)))))
set_option maxHeartbeats 4000000 in
set_option maxRecDepth 100000 in
theorem c_X9_learn {l : Launch} {G : va_G} {cA : Nat → ClassId} {lo : Nat} {ad : Nat → Nat} {P : MdlS → Heap → Prop} (hC : cx G lo 9 ad (ceModel cA ad) P) {μ : MdlS} {p0 : Int32} {res : MdlS} (hf : f_X9_learn μ p0 = some res) : Met l yX9_learn (cW yX9_learn cX9_learn 4 none) rm_X9_learn (cP [.ref (ad 0), .int p0] (P μ) G cA) (cQ none (P res)) 0 0 (fun q => lo ≤ q) := by
  refine cx_met (by decide) (Nat.le_of_ble_eq_true rfl) (fun p e s m args below meth c ls C0 hP hl => ?_)
  have hl : lv_has ls 4 [(0, .ref (ad 0)), (1, .int p0)] := hl
  obtain ⟨⟨hx, hb, hml, hown, hts⟩, hr, hlocks, hK⟩ := id C0
  have hL : ∀ q ∈ ([] : List Loc), lo ≤ q.base := fun q h => nomatch h
  unfold f_X9_learn at hf
  refine lv_aload_n hx hb dX9_learn_0 rfl (lv_at hl 0 rfl) ?_
  refine lv_iconst (v := 3) hx hb dX9_learn_1 (by decide) ?_
  obtain ⟨r1, q2, hf⟩ := cx_b hf
  refine cx_callV (As := [.int 3]) (rest := []) ⟨hx, hb, hml, hown, hts⟩ (c_X9_length hC q2) (cwV 1 hts (gV mw_663 mw_664 mw_665 mw_5 mw_666) rfl rfl rfl hd_X9_length ⟨Nat.le_of_ble_eq_true rfl, Nat.le_of_ble_eq_true rfl⟩) hK hP rfl (at_Model hC hP) rfl hl.1 rfl (Nat.le_of_ble_eq_true rfl) dX9_learn_2 ⟨Nat.zero_le _, Nat.zero_le _⟩ hL (fun H locs hP hL => ?_)
  replace hP : P μ H := by first | exact hP | (simpa only [va_up_id] using hP)
  refine lv_istore_n (lv' := [(2, .int r1), (0, .ref (ad 0)), (1, .int p0)]) hx hb dX9_learn_5 rfl hl (by decide) rfl (fun ls hl => ?_)
  refine lv_aload_n hx hb dX9_learn_6 rfl (lv_at hl 1 rfl) ?_
  refine lv_iconst (v := 4) hx hb dX9_learn_7 (by decide) ?_
  obtain ⟨r3, q4, hf⟩ := cx_b hf
  refine cx_callV (As := [.int 4]) (rest := []) ⟨hx, hb, hml, hown, hts⟩ (c_X9_length hC q4) (cwV 1 hts (gV mw_663 mw_664 mw_665 mw_5 mw_666) rfl rfl rfl hd_X9_length ⟨Nat.le_of_ble_eq_true rfl, Nat.le_of_ble_eq_true rfl⟩) hK hP rfl (at_Model hC hP) rfl hl.1 rfl (Nat.le_of_ble_eq_true rfl) dX9_learn_8 ⟨Nat.zero_le _, Nat.zero_le _⟩ hL (fun H locs hP hL => ?_)
  replace hP : P μ H := by first | exact hP | (simpa only [va_up_id] using hP)
  refine lv_istore_n (lv' := [(3, .int r3), (2, .int r1), (0, .ref (ad 0)), (1, .int p0)]) hx hb dX9_learn_11 rfl hl (by decide) rfl (fun ls hl => ?_)
  refine lv_iload_n hx hb dX9_learn_12 rfl (lv_at hl 3 rfl) ?_
  refine lv_iconst (v := 3) hx hb dX9_learn_13 (by decide) ?_
  refine lv_icmp_ne (tgt := 49) hx hb dX9_learn_14 (by decide) (fun c5 => ?_) (fun c5 => ?_)
  · have hf := cx_f hf c5
    refine lv_aload_n hx hb dX9_learn_49 rfl (lv_at hl 2 rfl) ?_
    refine g_Model_0 hC hP hx hb hts hown hK mw_114 dX9_learn_50 ?_
    refine lv_iconst (v := 4) hx hb dX9_learn_53 (by decide) ?_
    refine lv_iconst (v := 0) hx hb dX9_learn_54 (by decide) ?_
    refine lv_aload_n hx hb dX9_learn_55 rfl (lv_at hl 2 rfl) ?_
    refine g_Model_0 hC hP hx hb hts hown hK mw_114 dX9_learn_56 ?_
    refine lv_iconst (v := 4) hx hb dX9_learn_59 (by decide) ?_
    obtain ⟨hi6, hf⟩ := gdE hf
    refine ga_Model_0 hC hP hx hb hK hi6 dX9_learn_60 ?_
    refine lv_iconst (v := 1) hx hb dX9_learn_61 (by decide) ?_
    refine lv_iload_n hx hb dX9_learn_62 rfl (lv_at hl 1 rfl) ?_
    refine lv_iload_n hx hb dX9_learn_63 rfl (lv_at hl 0 rfl) ?_
    obtain ⟨hd7, hf⟩ := dzE hf
    refine lv_idiv hx hb dX9_learn_64 hd7 ?_
    refine va_mmax hx hb (hml.trans hl.1.symm) hown (hts _ mw_630) (hts _ mw_470) (hts _ mw_276) (hts _ mw_471) (Nat.le_of_ble_eq_true rfl) (Nat.le_of_ble_eq_true rfl) (Nat.zero_le _) (Nat.zero_le _) dX9_learn_65 ?_
    refine lv_isub hx hb dX9_learn_68 ?_
    refine va_mmax hx hb (hml.trans hl.1.symm) hown (hts _ mw_630) (hts _ mw_470) (hts _ mw_276) (hts _ mw_471) (Nat.le_of_ble_eq_true rfl) (Nat.le_of_ble_eq_true rfl) (Nat.zero_le _) (Nat.zero_le _) dX9_learn_69 ?_
    obtain ⟨hi8, hf⟩ := gdE hf
    obtain ⟨z9, ez9, hf⟩ := cx_letE hf
    refine pa_Model_0 hC hP hx hb hK hi8 dX9_learn_72 hL (fun H locs hP hL => ?_)
    replace hP : P z9 H := by rw [← ez9]; exact hP
    refine lv_aload_n hx hb dX9_learn_73 rfl (lv_at hl 2 rfl) ?_
    refine g_Model_0 hC hP hx hb hts hown hK mw_114 dX9_learn_74 ?_
    refine lv_bipush (v := 17) hx hb dX9_learn_77 (by decide) ?_
    refine lv_iload_n hx hb dX9_learn_79 rfl (lv_at hl 3 rfl) ?_
    refine lv_iadd hx hb dX9_learn_80 ?_
    refine lv_iconst (v := 3) hx hb dX9_learn_81 (by decide) ?_
    refine lv_isub hx hb dX9_learn_82 ?_
    refine lv_dup2_11 hx hb dX9_learn_83 rfl rfl ?_
    obtain ⟨hi10, hf⟩ := gdE hf
    refine ga_Model_0 hC hP hx hb hK hi10 dX9_learn_84 ?_
    refine lv_iconst (v := 1) hx hb dX9_learn_85 (by decide) ?_
    refine lv_iadd hx hb dX9_learn_86 ?_
    obtain ⟨hi11, hf⟩ := gdE hf
    obtain ⟨z12, ez12, hf⟩ := cx_letE hf
    refine pa_Model_0 hC hP hx hb hK hi11 dX9_learn_87 hL (fun H locs hP hL => ?_)
    replace hP : P z12 H := by rw [← ez12]; exact hP
    cases hf
    exact cx_vret hx hb hr hlocks hP hL dX9_learn_88
  · have hf := cx_t hf c5
    refine lv_aload_n hx hb dX9_learn_17 rfl (lv_at hl 2 rfl) ?_
    refine g_Model_0 hC hP hx hb hts hown hK mw_114 dX9_learn_18 ?_
    refine lv_iconst (v := 4) hx hb dX9_learn_21 (by decide) ?_
    refine lv_aload_n hx hb dX9_learn_22 rfl (lv_at hl 2 rfl) ?_
    refine g_Model_0 hC hP hx hb hts hown hK mw_114 dX9_learn_23 ?_
    refine lv_iconst (v := 2) hx hb dX9_learn_26 (by decide) ?_
    obtain ⟨hi13, hf⟩ := gdE hf
    refine ga_Model_0 hC hP hx hb hK hi13 dX9_learn_27 ?_
    refine lv_aload_n hx hb dX9_learn_28 rfl (lv_at hl 2 rfl) ?_
    refine g_Model_0 hC hP hx hb hts hown hK mw_114 dX9_learn_29 ?_
    refine lv_iconst (v := 4) hx hb dX9_learn_32 (by decide) ?_
    obtain ⟨hi14, hf⟩ := gdE hf
    refine ga_Model_0 hC hP hx hb hK hi14 dX9_learn_33 ?_
    refine lv_iconst (v := 1) hx hb dX9_learn_34 (by decide) ?_
    refine lv_iload_n hx hb dX9_learn_35 rfl (lv_at hl 0 rfl) ?_
    refine lv_iload_n hx hb dX9_learn_36 rfl (lv_at hl 1 rfl) ?_
    obtain ⟨hd15, hf⟩ := dzE hf
    refine lv_idiv hx hb dX9_learn_37 hd15 ?_
    refine va_mmax hx hb (hml.trans hl.1.symm) hown (hts _ mw_630) (hts _ mw_470) (hts _ mw_276) (hts _ mw_471) (Nat.le_of_ble_eq_true rfl) (Nat.le_of_ble_eq_true rfl) (Nat.zero_le _) (Nat.zero_le _) dX9_learn_38 ?_
    refine lv_iadd hx hb dX9_learn_41 ?_
    refine va_mmin hx hb (hml.trans hl.1.symm) hown (hts _ mw_696) (hts _ mw_275) (hts _ mw_276) (hts _ mw_277) (Nat.le_of_ble_eq_true rfl) (Nat.le_of_ble_eq_true rfl) (Nat.zero_le _) (Nat.zero_le _) dX9_learn_42 ?_
    obtain ⟨hi16, hf⟩ := gdE hf
    obtain ⟨z17, ez17, hf⟩ := cx_letE hf
    refine pa_Model_0 hC hP hx hb hK hi16 dX9_learn_45 hL (fun H locs hP hL => ?_)
    replace hP : P z17 H := by rw [← ez17]; exact hP
    refine lv_goto (tgt := 73) hx hb dX9_learn_46 (by decide) ?_
    refine lv_aload_n hx hb dX9_learn_73 rfl (lv_at hl 2 rfl) ?_
    refine g_Model_0 hC hP hx hb hts hown hK mw_114 dX9_learn_74 ?_
    refine lv_bipush (v := 17) hx hb dX9_learn_77 (by decide) ?_
    refine lv_iload_n hx hb dX9_learn_79 rfl (lv_at hl 3 rfl) ?_
    refine lv_iadd hx hb dX9_learn_80 ?_
    refine lv_iconst (v := 3) hx hb dX9_learn_81 (by decide) ?_
    refine lv_isub hx hb dX9_learn_82 ?_
    refine lv_dup2_11 hx hb dX9_learn_83 rfl rfl ?_
    obtain ⟨hi18, hf⟩ := gdE hf
    refine ga_Model_0 hC hP hx hb hK hi18 dX9_learn_84 ?_
    refine lv_iconst (v := 1) hx hb dX9_learn_85 (by decide) ?_
    refine lv_iadd hx hb dX9_learn_86 ?_
    obtain ⟨hi19, hf⟩ := gdE hf
    obtain ⟨z20, ez20, hf⟩ := cx_letE hf
    refine pa_Model_0 hC hP hx hb hK hi19 dX9_learn_87 hL (fun H locs hP hL => ?_)
    replace hP : P z20 H := by rw [← ez20]; exact hP
    cases hf
    exact cx_vret hx hb hr hlocks hP hL dX9_learn_88
abbrev rm_X9_dropGhost : Room := { frames := 3, cells := 0, slots := 0, locals := 69 }
theorem hd_X9_dropGhost : yX9_dropGhost.cls = RX9 ∧ yX9_dropGhost.cls ≠ "java/lang/invoke/MethodHandle" ∧ yX9_dropGhost.cls ≠ "java/lang/invoke/VarHandle" ∧ (parseMethodDescriptor yX9_dropGhost.desc).map (fun d => d.parameters.length) = some 1 := by decide +kernel
def f_X9_dropGhost (N : Nat) (μ : MdlS) (p0 : Int32) : Option (MdlS) := (f_X9_of μ p0 4).bind fun r1 => if r1 = (-1) then some μ else (f_X9_of μ p0 4).bind fun r4 => (f_X9_take N μ r4 p0).bind fun r6 => (f_X9_put r6 p0 4 (-1)).bind fun r8 => some r8
set_option maxHeartbeats 4000000 in
set_option maxRecDepth 100000 in
theorem c_X9_dropGhost {l : Launch} {G : va_G} {cA : Nat → ClassId} {lo : Nat} {ad : Nat → Nat} {P : MdlS → Heap → Prop} (hC : cx G lo 9 ad (ceModel cA ad) P) {N : Nat} {μ : MdlS} {p0 : Int32} {res : MdlS} (hf : f_X9_dropGhost N μ p0 = some res) : Met l yX9_dropGhost (cW yX9_dropGhost cX9_dropGhost 2 none) rm_X9_dropGhost (cP [.ref (ad 0), .int p0] (P μ) G cA) (cQ none (P res)) 0 0 (fun q => lo ≤ q) := by
  refine cx_met (by decide) (Nat.le_of_ble_eq_true rfl) (fun p e s m args below meth c ls C0 hP hl => ?_)
  have hl : lv_has ls 2 [(0, .ref (ad 0)), (1, .int p0)] := hl
  obtain ⟨⟨hx, hb, hml, hown, hts⟩, hr, hlocks, hK⟩ := id C0
  have hL : ∀ q ∈ ([] : List Loc), lo ≤ q.base := fun q h => nomatch h
  unfold f_X9_dropGhost at hf
  refine lv_aload_n hx hb dX9_dropGhost_0 rfl (lv_at hl 0 rfl) ?_
  refine lv_iload_n hx hb dX9_dropGhost_1 rfl (lv_at hl 1 rfl) ?_
  refine lv_iconst (v := 4) hx hb dX9_dropGhost_2 (by decide) ?_
  obtain ⟨r1, q2, hf⟩ := cx_b hf
  refine cx_callV (As := [.int p0, .int 4]) (rest := []) ⟨hx, hb, hml, hown, hts⟩ (c_X9_of hC q2) (cwV 2 hts (gV mw_618 mw_619 mw_620 mw_5 mw_621) rfl rfl rfl hd_X9_of ⟨Nat.le_of_ble_eq_true rfl, Nat.le_of_ble_eq_true rfl⟩) hK hP rfl (at_Model hC hP) rfl hl.1 rfl (Nat.le_of_ble_eq_true rfl) dX9_dropGhost_3 ⟨Nat.zero_le _, Nat.zero_le _⟩ hL (fun H locs hP hL => ?_)
  replace hP : P μ H := by first | exact hP | (simpa only [va_up_id] using hP)
  refine lv_iconst (v := (-1)) hx hb dX9_dropGhost_6 (by decide) ?_
  refine lv_icmp_eq (tgt := 28) hx hb dX9_dropGhost_7 (by decide) (fun c3 => ?_) (fun c3 => ?_)
  · have hf := cx_t hf c3
    cases hf
    exact cx_vret hx hb hr hlocks hP hL dX9_dropGhost_28
  · have hf := cx_f hf c3
    refine lv_aload_n hx hb dX9_dropGhost_10 rfl (lv_at hl 0 rfl) ?_
    refine lv_aload_n hx hb dX9_dropGhost_11 rfl (lv_at hl 0 rfl) ?_
    refine lv_iload_n hx hb dX9_dropGhost_12 rfl (lv_at hl 1 rfl) ?_
    refine lv_iconst (v := 4) hx hb dX9_dropGhost_13 (by decide) ?_
    obtain ⟨r4, q5, hf⟩ := cx_b hf
    refine cx_callV (As := [.int p0, .int 4]) (rest := [.ref (ad 0)]) ⟨hx, hb, hml, hown, hts⟩ (c_X9_of hC q5) (cwV 2 hts (gV mw_618 mw_619 mw_620 mw_5 mw_621) rfl rfl rfl hd_X9_of ⟨Nat.le_of_ble_eq_true rfl, Nat.le_of_ble_eq_true rfl⟩) hK hP rfl (at_Model hC hP) rfl hl.1 rfl (Nat.le_of_ble_eq_true rfl) dX9_dropGhost_14 ⟨Nat.zero_le _, Nat.zero_le _⟩ hL (fun H locs hP hL => ?_)
    replace hP : P μ H := by first | exact hP | (simpa only [va_up_id] using hP)
    refine lv_iload_n hx hb dX9_dropGhost_17 rfl (lv_at hl 1 rfl) ?_
    obtain ⟨r6, q7, hf⟩ := cx_b hf
    refine cx_callV (As := [.int r4, .int p0]) (rest := []) ⟨hx, hb, hml, hown, hts⟩ (c_X9_take hC q7) (cwV 2 hts (gV mw_651 mw_652 mw_653 mw_5 mw_654) rfl rfl rfl hd_X9_take ⟨Nat.le_of_ble_eq_true rfl, Nat.le_of_ble_eq_true rfl⟩) hK hP rfl (at_Model hC hP) rfl hl.1 rfl (Nat.le_of_ble_eq_true rfl) dX9_dropGhost_18 ⟨Nat.zero_le _, Nat.zero_le _⟩ hL (fun H locs hP hL => ?_)
    replace hP : P r6 H := by first | exact hP | (simpa only [va_up_id] using hP)
    refine lv_aload_n hx hb dX9_dropGhost_21 rfl (lv_at hl 0 rfl) ?_
    refine lv_iload_n hx hb dX9_dropGhost_22 rfl (lv_at hl 1 rfl) ?_
    refine lv_iconst (v := 4) hx hb dX9_dropGhost_23 (by decide) ?_
    refine lv_iconst (v := (-1)) hx hb dX9_dropGhost_24 (by decide) ?_
    obtain ⟨r8, q9, hf⟩ := cx_b hf
    refine cx_callV (As := [.int p0, .int 4, .int (-1)]) (rest := []) ⟨hx, hb, hml, hown, hts⟩ (c_X9_put hC q9) (cwV 3 hts (gV mw_124 mw_125 mw_126 mw_5 mw_127) rfl rfl rfl hd_X9_put ⟨Nat.le_of_ble_eq_true rfl, Nat.le_of_ble_eq_true rfl⟩) hK hP rfl (at_Model hC hP) rfl hl.1 rfl (Nat.le_of_ble_eq_true rfl) dX9_dropGhost_25 ⟨Nat.zero_le _, Nat.zero_le _⟩ hL (fun H locs hP hL => ?_)
    replace hP : P r8 H := by first | exact hP | (simpa only [va_up_id] using hP)
    cases hf
    exact cx_vret hx hb hr hlocks hP hL dX9_dropGhost_28
abbrev rm_X9_isFull : Room := { frames := 1, cells := 0, slots := 0, locals := 21 }
theorem hd_X9_isFull : yX9_isFull.cls = RX9 ∧ yX9_isFull.cls ≠ "java/lang/invoke/MethodHandle" ∧ yX9_isFull.cls ≠ "java/lang/invoke/VarHandle" ∧ (parseMethodDescriptor yX9_isFull.desc).map (fun d => d.parameters.length) = some 0 := by decide +kernel
def f_X9_isFull (μ : MdlS) : Option (Int32) := (f_X9_length μ 0).bind fun r1 => (f_X9_length μ 1).bind fun r3 => gd 2 1384 (if (r1 + r3) = (μ.1.1 0 (Int32.toNatClampNeg 2)) then some 1 else some 0)
set_option maxHeartbeats 4000000 in
set_option maxRecDepth 100000 in
theorem c_X9_isFull {l : Launch} {G : va_G} {cA : Nat → ClassId} {lo : Nat} {ad : Nat → Nat} {P : MdlS → Heap → Prop} (hC : cx G lo 9 ad (ceModel cA ad) P) {μ : MdlS} {res : Int32} (hf : f_X9_isFull μ = some res) : Met l yX9_isFull (cW yX9_isFull cX9_isFull 1 (some .boolean)) rm_X9_isFull (cP [.ref (ad 0)] (P μ) G cA) (cQ (some (.int res)) (P μ)) 0 0 (fun q => lo ≤ q) := by
  refine cx_met (by decide) (Nat.le_of_ble_eq_true rfl) (fun p e s m args below meth c ls C0 hP hl => ?_)
  have hl : lv_has ls 1 [(0, .ref (ad 0))] := hl
  obtain ⟨⟨hx, hb, hml, hown, hts⟩, hr, hlocks, hK⟩ := id C0
  have hL : ∀ q ∈ ([] : List Loc), lo ≤ q.base := fun q h => nomatch h
  unfold f_X9_isFull at hf
  refine lv_aload_n hx hb dX9_isFull_0 rfl (lv_at hl 0 rfl) ?_
  refine lv_iconst (v := 0) hx hb dX9_isFull_1 (by decide) ?_
  obtain ⟨r1, q2, hf⟩ := cx_b hf
  refine cx_callV (As := [.int 0]) (rest := []) ⟨hx, hb, hml, hown, hts⟩ (c_X9_length hC q2) (cwV 1 hts (gV mw_663 mw_664 mw_665 mw_5 mw_666) rfl rfl rfl hd_X9_length ⟨Nat.le_of_ble_eq_true rfl, Nat.le_of_ble_eq_true rfl⟩) hK hP rfl (at_Model hC hP) rfl hl.1 rfl (Nat.le_of_ble_eq_true rfl) dX9_isFull_2 ⟨Nat.zero_le _, Nat.zero_le _⟩ hL (fun H locs hP hL => ?_)
  replace hP : P μ H := by first | exact hP | (simpa only [va_up_id] using hP)
  refine lv_aload_n hx hb dX9_isFull_5 rfl (lv_at hl 0 rfl) ?_
  refine lv_iconst (v := 1) hx hb dX9_isFull_6 (by decide) ?_
  obtain ⟨r3, q4, hf⟩ := cx_b hf
  refine cx_callV (As := [.int 1]) (rest := [.int r1]) ⟨hx, hb, hml, hown, hts⟩ (c_X9_length hC q4) (cwV 1 hts (gV mw_663 mw_664 mw_665 mw_5 mw_666) rfl rfl rfl hd_X9_length ⟨Nat.le_of_ble_eq_true rfl, Nat.le_of_ble_eq_true rfl⟩) hK hP rfl (at_Model hC hP) rfl hl.1 rfl (Nat.le_of_ble_eq_true rfl) dX9_isFull_7 ⟨Nat.zero_le _, Nat.zero_le _⟩ hL (fun H locs hP hL => ?_)
  replace hP : P μ H := by first | exact hP | (simpa only [va_up_id] using hP)
  refine lv_iadd hx hb dX9_isFull_10 ?_
  refine lv_aload_n hx hb dX9_isFull_11 rfl (lv_at hl 0 rfl) ?_
  refine g_Model_0 hC hP hx hb hts hown hK mw_114 dX9_isFull_12 ?_
  refine lv_iconst (v := 2) hx hb dX9_isFull_15 (by decide) ?_
  obtain ⟨hi5, hf⟩ := gdE hf
  refine ga_Model_0 hC hP hx hb hK hi5 dX9_isFull_16 ?_
  refine lv_icmp_ne (tgt := 24) hx hb dX9_isFull_17 (by decide) (fun c6 => ?_) (fun c6 => ?_)
  · have hf := cx_f hf c6
    refine lv_iconst (v := 0) hx hb dX9_isFull_24 (by decide) ?_
    cases hf
    exact cx_zret hx hb hr hlocks (Or.inl rfl) hP hL dX9_isFull_25
  · have hf := cx_t hf c6
    refine lv_iconst (v := 1) hx hb dX9_isFull_20 (by decide) ?_
    refine lv_goto (tgt := 25) hx hb dX9_isFull_21 (by decide) ?_
    cases hf
    exact cx_zret hx hb hr hlocks (Or.inr rfl) hP hL dX9_isFull_25
abbrev rm_X9_victimList : Room := { frames := 1, cells := 0, slots := 0, locals := 21 }
theorem hd_X9_victimList : yX9_victimList.cls = RX9 ∧ yX9_victimList.cls ≠ "java/lang/invoke/MethodHandle" ∧ yX9_victimList.cls ≠ "java/lang/invoke/VarHandle" ∧ (parseMethodDescriptor yX9_victimList.desc).map (fun d => d.parameters.length) = some 1 := by decide +kernel
def f_X9_victimList_b30 (μ : MdlS) (x2 : Int32) : Option (Int32) := (f_X9_length μ 1).bind fun r1 => if r1 = 0 then if x2 ≤ 0 then some 1 else some 0 else if x2 ≤ 0 then some 1 else some 1
set_option maxHeartbeats 4000000 in
set_option maxRecDepth 100000 in
theorem w_X9_victimList_b30 {p : Program} {l : Launch} {e : Env} {s : State} {m : MethodId} {args : Array Value} {below : List Frame} {meth : Method} {c : Code} {G : va_G} {cA : Nat → ClassId} (C0 : cB p s m args meth c RX9 cX9_victimList 4 (some .int) G cA) {lo : Nat} {ad : Nat → Nat} {P : MdlS → Heap → Prop} (hC : cx G lo 9 ad (ceModel cA ad) P) {res : Int32} : ∀ (μ : MdlS) (x2 : Int32) (H : Heap) (locs : List Loc) (ls : Array Slot), f_X9_victimList_b30 μ x2 = some res → P μ H → (∀ q ∈ locs, lo ≤ q.base) → lv_has ls 4 [(0, .ref (ad 0)), (2, .int x2)] → W p l e rm_X9_victimList s m args below meth c H locs 0 0 (MQ below (cQ (some (.int res)) (P μ)) args s 0 0 (fun q => lo ≤ q)) (F0 m 30 ls []) := by
  obtain ⟨⟨hx, hb, hml, hown, hts⟩, hr, hlocks, hK⟩ := id C0
  intro μ x2 H locs ls hf hP hL hl
  unfold f_X9_victimList_b30 at hf
  refine lv_aload_n hx hb dX9_victimList_30 rfl (lv_at hl 0 rfl) ?_
  refine lv_iconst (v := 1) hx hb dX9_victimList_31 (by decide) ?_
  obtain ⟨r1, q2, hf⟩ := cx_b hf
  refine cx_callV (As := [.int 1]) (rest := []) ⟨hx, hb, hml, hown, hts⟩ (c_X9_length hC q2) (cwV 1 hts (gV mw_663 mw_664 mw_665 mw_5 mw_666) rfl rfl rfl hd_X9_length ⟨Nat.le_of_ble_eq_true rfl, Nat.le_of_ble_eq_true rfl⟩) hK hP rfl (at_Model hC hP) rfl hl.1 rfl (Nat.le_of_ble_eq_true rfl) dX9_victimList_32 ⟨Nat.zero_le _, Nat.zero_le _⟩ hL (fun H locs hP hL => ?_)
  replace hP : P μ H := by first | exact hP | (simpa only [va_up_id] using hP)
  refine lv_if_ne (tgt := 42) hx hb dX9_victimList_35 (by decide) (fun c3 => ?_) (fun c3 => ?_)
  · have hf := cx_f hf c3
    refine lv_iconst (v := 0) hx hb dX9_victimList_42 (by decide) ?_
    refine lv_istore_n (lv' := [(3, .int 0), (0, .ref (ad 0)), (2, .int x2)]) hx hb dX9_victimList_43 rfl hl (by decide) rfl (fun ls hl => ?_)
    refine lv_iload_n hx hb dX9_victimList_44 rfl (lv_at hl 2 rfl) ?_
    refine lv_if_le (tgt := 56) hx hb dX9_victimList_45 (by decide) (fun c4 => ?_) (fun c4 => ?_)
    · have hf := cx_t hf c4
      refine lv_iconst (v := 1) hx hb dX9_victimList_56 (by decide) ?_
      cases hf
      exact cx_iret hx hb hr hlocks hP hL dX9_victimList_57
    · have hf := cx_f hf c4
      refine lv_iload_n hx hb dX9_victimList_48 rfl (lv_at hl 0 rfl) ?_
      refine lv_if_eq (tgt := 56) hx hb dX9_victimList_49 (by decide) (fun _ => ?_) (fun q => absurd (by decide) q)
      refine lv_iconst (v := 1) hx hb dX9_victimList_56 (by decide) ?_
      cases hf
      exact cx_iret hx hb hr hlocks hP hL dX9_victimList_57
  · have hf := cx_t hf c3
    refine lv_iconst (v := 1) hx hb dX9_victimList_38 (by decide) ?_
    refine lv_goto (tgt := 43) hx hb dX9_victimList_39 (by decide) ?_
    refine lv_istore_n (lv' := [(3, .int 1), (0, .ref (ad 0)), (2, .int x2)]) hx hb dX9_victimList_43 rfl hl (by decide) rfl (fun ls hl => ?_)
    refine lv_iload_n hx hb dX9_victimList_44 rfl (lv_at hl 2 rfl) ?_
    refine lv_if_le (tgt := 56) hx hb dX9_victimList_45 (by decide) (fun c5 => ?_) (fun c5 => ?_)
    · have hf := cx_t hf c5
      refine lv_iconst (v := 1) hx hb dX9_victimList_56 (by decide) ?_
      cases hf
      exact cx_iret hx hb hr hlocks hP hL dX9_victimList_57
    · have hf := cx_f hf c5
      refine lv_iload_n hx hb dX9_victimList_48 rfl (lv_at hl 0 rfl) ?_
      refine lv_if_eq (tgt := 56) hx hb dX9_victimList_49 (by decide) (fun q => absurd q (by decide)) (fun _ => ?_)
      refine lv_iconst (v := 0) hx hb dX9_victimList_52 (by decide) ?_
      refine lv_goto (tgt := 57) hx hb dX9_victimList_53 (by decide) ?_
      cases hf
      exact cx_iret hx hb hr hlocks hP hL dX9_victimList_57
def f_X9_victimList (μ : MdlS) (p0 : Int32) : Option (Int32) := (f_X9_length μ 0).bind fun r1 => gd 4 1384 (if (μ.1.1 0 (Int32.toNatClampNeg 4)) < r1 then if r1 ≤ 0 then some 1 else some 0 else gd 4 1384 (if r1 = (μ.1.1 0 (Int32.toNatClampNeg 4)) then if p0 = 0 then f_X9_victimList_b30 μ r1 else if r1 ≤ 0 then some 1 else some 0 else f_X9_victimList_b30 μ r1))
set_option maxHeartbeats 4000000 in
set_option maxRecDepth 100000 in
theorem c_X9_victimList {l : Launch} {G : va_G} {cA : Nat → ClassId} {lo : Nat} {ad : Nat → Nat} {P : MdlS → Heap → Prop} (hC : cx G lo 9 ad (ceModel cA ad) P) {μ : MdlS} {p0 : Int32} {res : Int32} (hf : f_X9_victimList μ p0 = some res) : Met l yX9_victimList (cW yX9_victimList cX9_victimList 4 (some .int)) rm_X9_victimList (cP [.ref (ad 0), .int p0] (P μ) G cA) (cQ (some (.int res)) (P μ)) 0 0 (fun q => lo ≤ q) := by
  refine cx_met (by decide) (Nat.le_of_ble_eq_true rfl) (fun p e s m args below meth c ls C0 hP hl => ?_)
  have hl : lv_has ls 4 [(0, .ref (ad 0)), (1, .int p0)] := hl
  obtain ⟨⟨hx, hb, hml, hown, hts⟩, hr, hlocks, hK⟩ := id C0
  have hL : ∀ q ∈ ([] : List Loc), lo ≤ q.base := fun q h => nomatch h
  unfold f_X9_victimList at hf
  refine lv_aload_n hx hb dX9_victimList_0 rfl (lv_at hl 0 rfl) ?_
  refine lv_iconst (v := 0) hx hb dX9_victimList_1 (by decide) ?_
  obtain ⟨r1, q2, hf⟩ := cx_b hf
  refine cx_callV (As := [.int 0]) (rest := []) ⟨hx, hb, hml, hown, hts⟩ (c_X9_length hC q2) (cwV 1 hts (gV mw_663 mw_664 mw_665 mw_5 mw_666) rfl rfl rfl hd_X9_length ⟨Nat.le_of_ble_eq_true rfl, Nat.le_of_ble_eq_true rfl⟩) hK hP rfl (at_Model hC hP) rfl hl.1 rfl (Nat.le_of_ble_eq_true rfl) dX9_victimList_2 ⟨Nat.zero_le _, Nat.zero_le _⟩ hL (fun H locs hP hL => ?_)
  replace hP : P μ H := by first | exact hP | (simpa only [va_up_id] using hP)
  refine lv_istore_n (lv' := [(2, .int r1), (0, .ref (ad 0)), (1, .int p0)]) hx hb dX9_victimList_5 rfl hl (by decide) rfl (fun ls hl => ?_)
  refine lv_iload_n hx hb dX9_victimList_6 rfl (lv_at hl 0 rfl) ?_
  refine lv_aload_n hx hb dX9_victimList_7 rfl (lv_at hl 1 rfl) ?_
  refine g_Model_0 hC hP hx hb hts hown hK mw_114 dX9_victimList_8 ?_
  refine lv_iconst (v := 4) hx hb dX9_victimList_11 (by decide) ?_
  obtain ⟨hi3, hf⟩ := gdE hf
  refine ga_Model_0 hC hP hx hb hK hi3 dX9_victimList_12 ?_
  refine lv_icmp_gt (tgt := 38) hx hb dX9_victimList_13 (by decide) (fun c4 => ?_) (fun c4 => ?_)
  · have hf := cx_t hf c4
    refine lv_iconst (v := 1) hx hb dX9_victimList_38 (by decide) ?_
    refine lv_goto (tgt := 43) hx hb dX9_victimList_39 (by decide) ?_
    refine lv_istore_n (lv' := [(3, .int 1), (2, .int r1), (0, .ref (ad 0)), (1, .int p0)]) hx hb dX9_victimList_43 rfl hl (by decide) rfl (fun ls hl => ?_)
    refine lv_iload_n hx hb dX9_victimList_44 rfl (lv_at hl 1 rfl) ?_
    refine lv_if_le (tgt := 56) hx hb dX9_victimList_45 (by decide) (fun c5 => ?_) (fun c5 => ?_)
    · have hf := cx_t hf c5
      refine lv_iconst (v := 1) hx hb dX9_victimList_56 (by decide) ?_
      cases hf
      exact cx_iret hx hb hr hlocks hP hL dX9_victimList_57
    · have hf := cx_f hf c5
      refine lv_iload_n hx hb dX9_victimList_48 rfl (lv_at hl 0 rfl) ?_
      refine lv_if_eq (tgt := 56) hx hb dX9_victimList_49 (by decide) (fun q => absurd q (by decide)) (fun _ => ?_)
      refine lv_iconst (v := 0) hx hb dX9_victimList_52 (by decide) ?_
      refine lv_goto (tgt := 57) hx hb dX9_victimList_53 (by decide) ?_
      cases hf
      exact cx_iret hx hb hr hlocks hP hL dX9_victimList_57
  · have hf := cx_f hf c4
    refine lv_iload_n hx hb dX9_victimList_16 rfl (lv_at hl 0 rfl) ?_
    refine lv_aload_n hx hb dX9_victimList_17 rfl (lv_at hl 1 rfl) ?_
    refine g_Model_0 hC hP hx hb hts hown hK mw_114 dX9_victimList_18 ?_
    refine lv_iconst (v := 4) hx hb dX9_victimList_21 (by decide) ?_
    obtain ⟨hi6, hf⟩ := gdE hf
    refine ga_Model_0 hC hP hx hb hK hi6 dX9_victimList_22 ?_
    refine lv_icmp_ne (tgt := 30) hx hb dX9_victimList_23 (by decide) (fun c7 => ?_) (fun c7 => ?_)
    · have hf := cx_f hf c7
      exact w_X9_victimList_b30 C0 hC μ r1 _ _ _ hf hP hL (lv_sub hl [1, 0] rfl)
    · have hf := cx_t hf c7
      refine lv_iload_n hx hb dX9_victimList_26 rfl (lv_at hl 2 rfl) ?_
      refine lv_if_ne (tgt := 38) hx hb dX9_victimList_27 (by decide) (fun c8 => ?_) (fun c8 => ?_)
      · have hf := cx_f hf c8
        refine lv_iconst (v := 1) hx hb dX9_victimList_38 (by decide) ?_
        refine lv_goto (tgt := 43) hx hb dX9_victimList_39 (by decide) ?_
        refine lv_istore_n (lv' := [(3, .int 1), (2, .int r1), (0, .ref (ad 0)), (1, .int p0)]) hx hb dX9_victimList_43 rfl hl (by decide) rfl (fun ls hl => ?_)
        refine lv_iload_n hx hb dX9_victimList_44 rfl (lv_at hl 1 rfl) ?_
        refine lv_if_le (tgt := 56) hx hb dX9_victimList_45 (by decide) (fun c9 => ?_) (fun c9 => ?_)
        · have hf := cx_t hf c9
          refine lv_iconst (v := 1) hx hb dX9_victimList_56 (by decide) ?_
          cases hf
          exact cx_iret hx hb hr hlocks hP hL dX9_victimList_57
        · have hf := cx_f hf c9
          refine lv_iload_n hx hb dX9_victimList_48 rfl (lv_at hl 0 rfl) ?_
          refine lv_if_eq (tgt := 56) hx hb dX9_victimList_49 (by decide) (fun q => absurd q (by decide)) (fun _ => ?_)
          refine lv_iconst (v := 0) hx hb dX9_victimList_52 (by decide) ?_
          refine lv_goto (tgt := 57) hx hb dX9_victimList_53 (by decide) ?_
          cases hf
          exact cx_iret hx hb hr hlocks hP hL dX9_victimList_57
      · have hf := cx_t hf c8
        exact w_X9_victimList_b30 C0 hC μ r1 _ _ _ hf hP hL (lv_sub hl [1, 0] rfl)
abbrev rm_X9_unitsOf : Room := { frames := 1, cells := 0, slots := 0, locals := 22 }
theorem hd_X9_unitsOf : yX9_unitsOf.cls = RX9 ∧ yX9_unitsOf.cls ≠ "java/lang/invoke/MethodHandle" ∧ yX9_unitsOf.cls ≠ "java/lang/invoke/VarHandle" ∧ (parseMethodDescriptor yX9_unitsOf.desc).map (fun d => d.parameters.length) = some 2 := by decide +kernel
def f_X9_unitsOf_b30 (N : Nat) (k13 : MdlS → Int32 → Int32 → Int32 → Int32 → Option (Int32)) : Nat → MdlS → Int32 → Int32 → Int32 → Int32 → Int32 → Option (Int32)
  | 0, _, _, _, _, _, _ => none
  | n + 1, μ, x1, x2, x3, x4, x5 => (f_X9_length μ x4).bind fun r1 => if r1 ≤ x5 then k13 μ x1 x2 x3 (x4 + 1) else (f_X9_blockAt μ x4 x5).bind fun r4 => (f_X9_of μ r4 2).bind fun r6 => if r6 = x1 then f_X9_unitsOf_b30 N k13 n μ x1 x2 (x3 + 1) x4 (x5 + 1) else f_X9_unitsOf_b30 N k13 n μ x1 x2 (x3 + 0) x4 (x5 + 1)
set_option maxHeartbeats 4000000 in
set_option maxRecDepth 100000 in
theorem w_X9_unitsOf_b30 {p : Program} {l : Launch} {e : Env} {s : State} {m : MethodId} {args : Array Value} {below : List Frame} {meth : Method} {c : Code} {G : va_G} {cA : Nat → ClassId} (C0 : cB p s m args meth c RX9 cX9_unitsOf 6 (some .int) G cA) {lo : Nat} {ad : Nat → Nat} {P : MdlS → Heap → Prop} (hC : cx G lo 9 ad (ceModel cA ad) P) {N : Nat} {res : Int32} {k13 : MdlS → Int32 → Int32 → Int32 → Int32 → Option (Int32)} (hk13 : ∀ (μ : MdlS) (x1 : Int32) (x2 : Int32) (x3 : Int32) (x4 : Int32) (H : Heap) (locs : List Loc) (ls : Array Slot), k13 μ x1 x2 x3 x4 = some res → P μ H → (∀ q ∈ locs, lo ≤ q.base) → lv_has ls 6 [(0, .ref (ad 0)), (1, .int x1), (2, .int x2), (3, .int x3), (4, .int x4)] → W p l e rm_X9_unitsOf s m args below meth c H locs 0 0 (MQ below (cQ (some (.int res)) (P μ)) args s 0 0 (fun q => lo ≤ q)) (F0 m 13 ls [])) : ∀ (n : Nat) (μ : MdlS) (x1 : Int32) (x2 : Int32) (x3 : Int32) (x4 : Int32) (x5 : Int32) (H : Heap) (locs : List Loc) (ls : Array Slot), f_X9_unitsOf_b30 N k13 n μ x1 x2 x3 x4 x5 = some res → P μ H → (∀ q ∈ locs, lo ≤ q.base) → lv_has ls 6 [(0, .ref (ad 0)), (1, .int x1), (2, .int x2), (3, .int x3), (4, .int x4), (5, .int x5)] → W p l e rm_X9_unitsOf s m args below meth c H locs 0 0 (MQ below (cQ (some (.int res)) (P μ)) args s 0 0 (fun q => lo ≤ q)) (F0 m 30 ls []) := by
  obtain ⟨⟨hx, hb, hml, hown, hts⟩, hr, hlocks, hK⟩ := id C0
  intro n
  induction n with
  | zero => intro μ x1 x2 x3 x4 x5 H locs ls
            exact fun hf => nomatch hf
  | succ n ih =>
    intro μ x1 x2 x3 x4 x5 H locs ls hf hP hL hl
    rw [f_X9_unitsOf_b30] at hf
    refine lv_iload hx hb dX9_unitsOf_30 (lv_at hl 5 rfl) ?_
    refine lv_aload_n hx hb dX9_unitsOf_32 rfl (lv_at hl 0 rfl) ?_
    refine lv_iload hx hb dX9_unitsOf_33 (lv_at hl 4 rfl) ?_
    obtain ⟨r1, q2, hf⟩ := cx_b hf
    refine cx_callV (As := [.int x4]) (rest := [.int x5]) ⟨hx, hb, hml, hown, hts⟩ (c_X9_length hC q2) (cwV 1 hts (gV mw_663 mw_664 mw_665 mw_5 mw_666) rfl rfl rfl hd_X9_length ⟨Nat.le_of_ble_eq_true rfl, Nat.le_of_ble_eq_true rfl⟩) hK hP rfl (at_Model hC hP) rfl hl.1 rfl (Nat.le_of_ble_eq_true rfl) dX9_unitsOf_35 ⟨Nat.zero_le _, Nat.zero_le _⟩ hL (fun H locs hP hL => ?_)
    replace hP : P μ H := by first | exact hP | (simpa only [va_up_id] using hP)
    refine lv_icmp_ge (tgt := 72) hx hb dX9_unitsOf_38 (by decide) (fun c3 => ?_) (fun c3 => ?_)
    · have hf := cx_t hf c3
      refine lv_iinc (v := (x4 + 1)) (lv' := [(4, .int (x4 + 1)), (0, .ref (ad 0)), (1, .int x1), (2, .int x2), (3, .int x3), (5, .int x5)]) hx hb dX9_unitsOf_72 hl (k := 4) rfl rfl (by decide) rfl (fun ls hl => ?_)
      refine lv_goto (tgt := 13) hx hb dX9_unitsOf_75 (by decide) ?_
      exact hk13 μ x1 x2 x3 (x4 + 1) _ _ _ hf hP hL (lv_sub hl [1, 2, 3, 4, 0] rfl)
    · have hf := cx_f hf c3
      refine lv_iload_n hx hb dX9_unitsOf_41 rfl (lv_at hl 3 rfl) ?_
      refine lv_aload_n hx hb dX9_unitsOf_42 rfl (lv_at hl 0 rfl) ?_
      refine lv_aload_n hx hb dX9_unitsOf_43 rfl (lv_at hl 0 rfl) ?_
      refine lv_iload hx hb dX9_unitsOf_44 (lv_at hl 4 rfl) ?_
      refine lv_iload hx hb dX9_unitsOf_46 (lv_at hl 5 rfl) ?_
      obtain ⟨r4, q5, hf⟩ := cx_b hf
      refine cx_callV (As := [.int x4, .int x5]) (rest := [.ref (ad 0), .int x3]) ⟨hx, hb, hml, hown, hts⟩ (c_X9_blockAt hC q5) (cwV 2 hts (gV mw_659 mw_660 mw_661 mw_5 mw_662) rfl rfl rfl hd_X9_blockAt ⟨Nat.le_of_ble_eq_true rfl, Nat.le_of_ble_eq_true rfl⟩) hK hP rfl (at_Model hC hP) rfl hl.1 rfl (Nat.le_of_ble_eq_true rfl) dX9_unitsOf_48 ⟨Nat.zero_le _, Nat.zero_le _⟩ hL (fun H locs hP hL => ?_)
      replace hP : P μ H := by first | exact hP | (simpa only [va_up_id] using hP)
      refine lv_iconst (v := 2) hx hb dX9_unitsOf_51 (by decide) ?_
      obtain ⟨r6, q7, hf⟩ := cx_b hf
      refine cx_callV (As := [.int r4, .int 2]) (rest := [.int x3]) ⟨hx, hb, hml, hown, hts⟩ (c_X9_of hC q7) (cwV 2 hts (gV mw_618 mw_619 mw_620 mw_5 mw_621) rfl rfl rfl hd_X9_of ⟨Nat.le_of_ble_eq_true rfl, Nat.le_of_ble_eq_true rfl⟩) hK hP rfl (at_Model hC hP) rfl hl.1 rfl (Nat.le_of_ble_eq_true rfl) dX9_unitsOf_52 ⟨Nat.zero_le _, Nat.zero_le _⟩ hL (fun H locs hP hL => ?_)
      replace hP : P μ H := by first | exact hP | (simpa only [va_up_id] using hP)
      refine lv_iload_n hx hb dX9_unitsOf_55 rfl (lv_at hl 1 rfl) ?_
      refine lv_icmp_ne (tgt := 63) hx hb dX9_unitsOf_56 (by decide) (fun c8 => ?_) (fun c8 => ?_)
      · have hf := cx_f hf c8
        refine lv_iconst (v := 0) hx hb dX9_unitsOf_63 (by decide) ?_
        refine lv_iadd hx hb dX9_unitsOf_64 ?_
        refine lv_istore_n (lv' := [(3, .int (x3 + 0)), (0, .ref (ad 0)), (1, .int x1), (2, .int x2), (4, .int x4), (5, .int x5)]) hx hb dX9_unitsOf_65 rfl hl (by decide) rfl (fun ls hl => ?_)
        refine lv_iinc (v := (x5 + 1)) (lv' := [(5, .int (x5 + 1)), (3, .int (x3 + 0)), (0, .ref (ad 0)), (1, .int x1), (2, .int x2), (4, .int x4)]) hx hb dX9_unitsOf_66 hl (k := 5) rfl rfl (by decide) rfl (fun ls hl => ?_)
        refine lv_goto (tgt := 30) hx hb dX9_unitsOf_69 (by decide) ?_
        exact ih μ x1 x2 (x3 + 0) x4 (x5 + 1) _ _ _ hf hP hL (lv_sub hl [2, 3, 4, 1, 5, 0] rfl)
      · have hf := cx_t hf c8
        refine lv_iconst (v := 1) hx hb dX9_unitsOf_59 (by decide) ?_
        refine lv_goto (tgt := 64) hx hb dX9_unitsOf_60 (by decide) ?_
        refine lv_iadd hx hb dX9_unitsOf_64 ?_
        refine lv_istore_n (lv' := [(3, .int (x3 + 1)), (0, .ref (ad 0)), (1, .int x1), (2, .int x2), (4, .int x4), (5, .int x5)]) hx hb dX9_unitsOf_65 rfl hl (by decide) rfl (fun ls hl => ?_)
        refine lv_iinc (v := (x5 + 1)) (lv' := [(5, .int (x5 + 1)), (3, .int (x3 + 1)), (0, .ref (ad 0)), (1, .int x1), (2, .int x2), (4, .int x4)]) hx hb dX9_unitsOf_66 hl (k := 5) rfl rfl (by decide) rfl (fun ls hl => ?_)
        refine lv_goto (tgt := 30) hx hb dX9_unitsOf_69 (by decide) ?_
        exact ih μ x1 x2 (x3 + 1) x4 (x5 + 1) _ _ _ hf hP hL (lv_sub hl [2, 3, 4, 1, 5, 0] rfl)
def f_X9_unitsOf_b13 (N : Nat) : Nat → MdlS → Int32 → Int32 → Int32 → Int32 → Option (Int32)
  | 0, _, _, _, _, _ => none
  | n + 1, μ, x1, x2, x3, x4 => if x2 = 0 then if 2 < x4 then some x3 else f_X9_unitsOf_b30 N (f_X9_unitsOf_b13 N n) N μ x1 x2 x3 x4 0 else if 1 < x4 then some x3 else f_X9_unitsOf_b30 N (f_X9_unitsOf_b13 N n) N μ x1 x2 x3 x4 0
set_option maxHeartbeats 4000000 in
set_option maxRecDepth 100000 in
theorem w_X9_unitsOf_b13 {p : Program} {l : Launch} {e : Env} {s : State} {m : MethodId} {args : Array Value} {below : List Frame} {meth : Method} {c : Code} {G : va_G} {cA : Nat → ClassId} (C0 : cB p s m args meth c RX9 cX9_unitsOf 6 (some .int) G cA) {lo : Nat} {ad : Nat → Nat} {P : MdlS → Heap → Prop} (hC : cx G lo 9 ad (ceModel cA ad) P) {N : Nat} {res : Int32} : ∀ (n : Nat) (μ : MdlS) (x1 : Int32) (x2 : Int32) (x3 : Int32) (x4 : Int32) (H : Heap) (locs : List Loc) (ls : Array Slot), f_X9_unitsOf_b13 N n μ x1 x2 x3 x4 = some res → P μ H → (∀ q ∈ locs, lo ≤ q.base) → lv_has ls 6 [(0, .ref (ad 0)), (1, .int x1), (2, .int x2), (3, .int x3), (4, .int x4)] → W p l e rm_X9_unitsOf s m args below meth c H locs 0 0 (MQ below (cQ (some (.int res)) (P μ)) args s 0 0 (fun q => lo ≤ q)) (F0 m 13 ls []) := by
  obtain ⟨⟨hx, hb, hml, hown, hts⟩, hr, hlocks, hK⟩ := id C0
  intro n
  induction n with
  | zero => intro μ x1 x2 x3 x4 H locs ls
            exact fun hf => nomatch hf
  | succ n ih =>
    intro μ x1 x2 x3 x4 H locs ls hf hP hL hl
    rw [f_X9_unitsOf_b13] at hf
    refine lv_iload hx hb dX9_unitsOf_13 (lv_at hl 4 rfl) ?_
    refine lv_iload_n hx hb dX9_unitsOf_15 rfl (lv_at hl 2 rfl) ?_
    refine lv_if_eq (tgt := 23) hx hb dX9_unitsOf_16 (by decide) (fun c1 => ?_) (fun c1 => ?_)
    · have hf := cx_t hf c1
      refine lv_iconst (v := 2) hx hb dX9_unitsOf_23 (by decide) ?_
      refine lv_icmp_gt (tgt := 78) hx hb dX9_unitsOf_24 (by decide) (fun c2 => ?_) (fun c2 => ?_)
      · have hf := cx_t hf c2
        refine lv_iload_n hx hb dX9_unitsOf_78 rfl (lv_at hl 3 rfl) ?_
        cases hf
        exact cx_iret hx hb hr hlocks hP hL dX9_unitsOf_79
      · have hf := cx_f hf c2
        refine lv_iconst (v := 0) hx hb dX9_unitsOf_27 (by decide) ?_
        refine lv_istore (lv' := [(5, .int 0), (0, .ref (ad 0)), (1, .int x1), (2, .int x2), (3, .int x3), (4, .int x4)]) hx hb dX9_unitsOf_28 hl (by decide) rfl (fun ls hl => ?_)
        exact w_X9_unitsOf_b30 C0 hC ih N μ x1 x2 x3 x4 0 _ _ _ hf hP hL (lv_sub hl [1, 2, 3, 4, 5, 0] rfl)
    · have hf := cx_f hf c1
      refine lv_iconst (v := 1) hx hb dX9_unitsOf_19 (by decide) ?_
      refine lv_goto (tgt := 24) hx hb dX9_unitsOf_20 (by decide) ?_
      refine lv_icmp_gt (tgt := 78) hx hb dX9_unitsOf_24 (by decide) (fun c3 => ?_) (fun c3 => ?_)
      · have hf := cx_t hf c3
        refine lv_iload_n hx hb dX9_unitsOf_78 rfl (lv_at hl 3 rfl) ?_
        cases hf
        exact cx_iret hx hb hr hlocks hP hL dX9_unitsOf_79
      · have hf := cx_f hf c3
        refine lv_iconst (v := 0) hx hb dX9_unitsOf_27 (by decide) ?_
        refine lv_istore (lv' := [(5, .int 0), (0, .ref (ad 0)), (1, .int x1), (2, .int x2), (3, .int x3), (4, .int x4)]) hx hb dX9_unitsOf_28 hl (by decide) rfl (fun ls hl => ?_)
        exact w_X9_unitsOf_b30 C0 hC ih N μ x1 x2 x3 x4 0 _ _ _ hf hP hL (lv_sub hl [1, 2, 3, 4, 5, 0] rfl)
def f_X9_unitsOf (N : Nat) (μ : MdlS) (p0 : Int32) (p1 : Int32) : Option (Int32) := if p1 = 0 then f_X9_unitsOf_b13 N N μ p0 p1 0 2 else f_X9_unitsOf_b13 N N μ p0 p1 0 0
set_option maxHeartbeats 4000000 in
set_option maxRecDepth 100000 in
theorem c_X9_unitsOf {l : Launch} {G : va_G} {cA : Nat → ClassId} {lo : Nat} {ad : Nat → Nat} {P : MdlS → Heap → Prop} (hC : cx G lo 9 ad (ceModel cA ad) P) {N : Nat} {μ : MdlS} {p0 : Int32} {p1 : Int32} {res : Int32} (hf : f_X9_unitsOf N μ p0 p1 = some res) : Met l yX9_unitsOf (cW yX9_unitsOf cX9_unitsOf 6 (some .int)) rm_X9_unitsOf (cP [.ref (ad 0), .int p0, .int p1] (P μ) G cA) (cQ (some (.int res)) (P μ)) 0 0 (fun q => lo ≤ q) := by
  refine cx_met (by decide) (Nat.le_of_ble_eq_true rfl) (fun p e s m args below meth c ls C0 hP hl => ?_)
  have hl : lv_has ls 6 [(0, .ref (ad 0)), (1, .int p0), (2, .int p1)] := hl
  obtain ⟨⟨hx, hb, hml, hown, hts⟩, hr, hlocks, hK⟩ := id C0
  have hL : ∀ q ∈ ([] : List Loc), lo ≤ q.base := fun q h => nomatch h
  unfold f_X9_unitsOf at hf
  refine lv_iconst (v := 0) hx hb dX9_unitsOf_0 (by decide) ?_
  refine lv_istore_n (lv' := [(3, .int 0), (0, .ref (ad 0)), (1, .int p0), (2, .int p1)]) hx hb dX9_unitsOf_1 rfl hl (by decide) rfl (fun ls hl => ?_)
  refine lv_iload_n hx hb dX9_unitsOf_2 rfl (lv_at hl 3 rfl) ?_
  refine lv_if_eq (tgt := 10) hx hb dX9_unitsOf_3 (by decide) (fun c1 => ?_) (fun c1 => ?_)
  · have hf := cx_t hf c1
    refine lv_iconst (v := 2) hx hb dX9_unitsOf_10 (by decide) ?_
    refine lv_istore (lv' := [(4, .int 2), (3, .int 0), (0, .ref (ad 0)), (1, .int p0), (2, .int p1)]) hx hb dX9_unitsOf_11 hl (by decide) rfl (fun ls hl => ?_)
    exact w_X9_unitsOf_b13 C0 hC N μ p0 p1 0 2 _ _ _ hf hP hL (lv_sub hl [2, 3, 4, 1, 0] rfl)
  · have hf := cx_f hf c1
    refine lv_iconst (v := 0) hx hb dX9_unitsOf_6 (by decide) ?_
    refine lv_goto (tgt := 11) hx hb dX9_unitsOf_7 (by decide) ?_
    refine lv_istore (lv' := [(4, .int 0), (3, .int 0), (0, .ref (ad 0)), (1, .int p0), (2, .int p1)]) hx hb dX9_unitsOf_11 hl (by decide) rfl (fun ls hl => ?_)
    exact w_X9_unitsOf_b13 C0 hC N μ p0 p1 0 0 _ _ _ hf hP hL (lv_sub hl [2, 3, 4, 1, 0] rfl)
abbrev rm_X9_allWeights : Room := { frames := 1, cells := 0, slots := 0, locals := 22 }
theorem hd_X9_allWeights : yX9_allWeights.cls = RX9 ∧ yX9_allWeights.cls ≠ "java/lang/invoke/MethodHandle" ∧ yX9_allWeights.cls ≠ "java/lang/invoke/VarHandle" ∧ (parseMethodDescriptor yX9_allWeights.desc).map (fun d => d.parameters.length) = some 0 := by decide +kernel
def f_X9_allWeights_b4 (N : Nat) : Nat → MdlS → Int32 → Int32 → Option (Int32)
  | 0, _, _, _ => none
  | n + 1, μ, x1, x2 => gd 6 1384 (if (μ.1.1 0 (Int32.toNatClampNeg 6)) ≤ x2 then some x1 else (f_X9_ofClient μ x2 0).bind fun r3 => f_X9_allWeights_b4 N n μ (x1 + r3) (x2 + 1))
set_option maxHeartbeats 4000000 in
set_option maxRecDepth 100000 in
theorem w_X9_allWeights_b4 {p : Program} {l : Launch} {e : Env} {s : State} {m : MethodId} {args : Array Value} {below : List Frame} {meth : Method} {c : Code} {G : va_G} {cA : Nat → ClassId} (C0 : cB p s m args meth c RX9 cX9_allWeights 3 (some .int) G cA) {lo : Nat} {ad : Nat → Nat} {P : MdlS → Heap → Prop} (hC : cx G lo 9 ad (ceModel cA ad) P) {N : Nat} {res : Int32} : ∀ (n : Nat) (μ : MdlS) (x1 : Int32) (x2 : Int32) (H : Heap) (locs : List Loc) (ls : Array Slot), f_X9_allWeights_b4 N n μ x1 x2 = some res → P μ H → (∀ q ∈ locs, lo ≤ q.base) → lv_has ls 3 [(0, .ref (ad 0)), (1, .int x1), (2, .int x2)] → W p l e rm_X9_allWeights s m args below meth c H locs 0 0 (MQ below (cQ (some (.int res)) (P μ)) args s 0 0 (fun q => lo ≤ q)) (F0 m 4 ls []) := by
  obtain ⟨⟨hx, hb, hml, hown, hts⟩, hr, hlocks, hK⟩ := id C0
  intro n
  induction n with
  | zero => intro μ x1 x2 H locs ls
            exact fun hf => nomatch hf
  | succ n ih =>
    intro μ x1 x2 H locs ls hf hP hL hl
    rw [f_X9_allWeights_b4] at hf
    refine lv_iload_n hx hb dX9_allWeights_4 rfl (lv_at hl 2 rfl) ?_
    refine lv_aload_n hx hb dX9_allWeights_5 rfl (lv_at hl 0 rfl) ?_
    refine g_Model_0 hC hP hx hb hts hown hK mw_114 dX9_allWeights_6 ?_
    refine lv_bipush (v := 6) hx hb dX9_allWeights_9 (by decide) ?_
    obtain ⟨hi1, hf⟩ := gdE hf
    refine ga_Model_0 hC hP hx hb hK hi1 dX9_allWeights_11 ?_
    refine lv_icmp_ge (tgt := 30) hx hb dX9_allWeights_12 (by decide) (fun c2 => ?_) (fun c2 => ?_)
    · have hf := cx_t hf c2
      refine lv_iload_n hx hb dX9_allWeights_30 rfl (lv_at hl 1 rfl) ?_
      cases hf
      exact cx_iret hx hb hr hlocks hP hL dX9_allWeights_31
    · have hf := cx_f hf c2
      refine lv_iload_n hx hb dX9_allWeights_15 rfl (lv_at hl 1 rfl) ?_
      refine lv_aload_n hx hb dX9_allWeights_16 rfl (lv_at hl 0 rfl) ?_
      refine lv_iload_n hx hb dX9_allWeights_17 rfl (lv_at hl 2 rfl) ?_
      refine lv_iconst (v := 0) hx hb dX9_allWeights_18 (by decide) ?_
      obtain ⟨r3, q4, hf⟩ := cx_b hf
      refine cx_callV (As := [.int x2, .int 0]) (rest := [.int x1]) ⟨hx, hb, hml, hown, hts⟩ (c_X9_ofClient hC q4) (cwV 2 hts (gV mw_635 mw_636 mw_637 mw_5 mw_638) rfl rfl rfl hd_X9_ofClient ⟨Nat.le_of_ble_eq_true rfl, Nat.le_of_ble_eq_true rfl⟩) hK hP rfl (at_Model hC hP) rfl hl.1 rfl (Nat.le_of_ble_eq_true rfl) dX9_allWeights_19 ⟨Nat.zero_le _, Nat.zero_le _⟩ hL (fun H locs hP hL => ?_)
      replace hP : P μ H := by first | exact hP | (simpa only [va_up_id] using hP)
      refine lv_iadd hx hb dX9_allWeights_22 ?_
      refine lv_istore_n (lv' := [(1, .int (x1 + r3)), (0, .ref (ad 0)), (2, .int x2)]) hx hb dX9_allWeights_23 rfl hl (by decide) rfl (fun ls hl => ?_)
      refine lv_iinc (v := (x2 + 1)) (lv' := [(2, .int (x2 + 1)), (1, .int (x1 + r3)), (0, .ref (ad 0))]) hx hb dX9_allWeights_24 hl (k := 2) rfl rfl (by decide) rfl (fun ls hl => ?_)
      refine lv_goto (tgt := 4) hx hb dX9_allWeights_27 (by decide) ?_
      exact ih μ (x1 + r3) (x2 + 1) _ _ _ hf hP hL (lv_sub hl [2, 1, 0] rfl)
def f_X9_allWeights (N : Nat) (μ : MdlS) : Option (Int32) := f_X9_allWeights_b4 N N μ 0 0
set_option maxHeartbeats 4000000 in
set_option maxRecDepth 100000 in
theorem c_X9_allWeights {l : Launch} {G : va_G} {cA : Nat → ClassId} {lo : Nat} {ad : Nat → Nat} {P : MdlS → Heap → Prop} (hC : cx G lo 9 ad (ceModel cA ad) P) {N : Nat} {μ : MdlS} {res : Int32} (hf : f_X9_allWeights N μ = some res) : Met l yX9_allWeights (cW yX9_allWeights cX9_allWeights 3 (some .int)) rm_X9_allWeights (cP [.ref (ad 0)] (P μ) G cA) (cQ (some (.int res)) (P μ)) 0 0 (fun q => lo ≤ q) := by
  refine cx_met (by decide) (Nat.le_of_ble_eq_true rfl) (fun p e s m args below meth c ls C0 hP hl => ?_)
  have hl : lv_has ls 3 [(0, .ref (ad 0))] := hl
  obtain ⟨⟨hx, hb, hml, hown, hts⟩, hr, hlocks, hK⟩ := id C0
  have hL : ∀ q ∈ ([] : List Loc), lo ≤ q.base := fun q h => nomatch h
  unfold f_X9_allWeights at hf
  refine lv_iconst (v := 0) hx hb dX9_allWeights_0 (by decide) ?_
  refine lv_istore_n (lv' := [(1, .int 0), (0, .ref (ad 0))]) hx hb dX9_allWeights_1 rfl hl (by decide) rfl (fun ls hl => ?_)
  refine lv_iconst (v := 0) hx hb dX9_allWeights_2 (by decide) ?_
  refine lv_istore_n (lv' := [(2, .int 0), (1, .int 0), (0, .ref (ad 0))]) hx hb dX9_allWeights_3 rfl hl (by decide) rfl (fun ls hl => ?_)
  exact w_X9_allWeights_b4 C0 hC N μ 0 0 _ _ _ hf hP hL (lv_sub hl [2, 1, 0] rfl)
abbrev rm_X9_hasTooMuch : Room := { frames := 2, cells := 0, slots := 0, locals := 47 }
theorem hd_X9_hasTooMuch : yX9_hasTooMuch.cls = RX9 ∧ yX9_hasTooMuch.cls ≠ "java/lang/invoke/MethodHandle" ∧ yX9_hasTooMuch.cls ≠ "java/lang/invoke/VarHandle" ∧ (parseMethodDescriptor yX9_hasTooMuch.desc).map (fun d => d.parameters.length) = some 1 := by decide +kernel
def f_X9_hasTooMuch (N : Nat) (μ : MdlS) (p0 : Int32) : Option (Int32) := (f_X9_unitsOf N μ p0 1).bind fun r1 => (f_X9_allWeights N μ).bind fun r3 => gd 2 1384 ((f_X9_ofClient μ p0 0).bind fun r6 => if (r1 * r3) ≤ ((μ.1.1 0 (Int32.toNatClampNeg 2)) * r6) then some 0 else some 1)
set_option maxHeartbeats 4000000 in
set_option maxRecDepth 100000 in
theorem c_X9_hasTooMuch {l : Launch} {G : va_G} {cA : Nat → ClassId} {lo : Nat} {ad : Nat → Nat} {P : MdlS → Heap → Prop} (hC : cx G lo 9 ad (ceModel cA ad) P) {N : Nat} {μ : MdlS} {p0 : Int32} {res : Int32} (hf : f_X9_hasTooMuch N μ p0 = some res) : Met l yX9_hasTooMuch (cW yX9_hasTooMuch cX9_hasTooMuch 2 (some .boolean)) rm_X9_hasTooMuch (cP [.ref (ad 0), .int p0] (P μ) G cA) (cQ (some (.int res)) (P μ)) 0 0 (fun q => lo ≤ q) := by
  refine cx_met (by decide) (Nat.le_of_ble_eq_true rfl) (fun p e s m args below meth c ls C0 hP hl => ?_)
  have hl : lv_has ls 2 [(0, .ref (ad 0)), (1, .int p0)] := hl
  obtain ⟨⟨hx, hb, hml, hown, hts⟩, hr, hlocks, hK⟩ := id C0
  have hL : ∀ q ∈ ([] : List Loc), lo ≤ q.base := fun q h => nomatch h
  unfold f_X9_hasTooMuch at hf
  refine lv_aload_n hx hb dX9_hasTooMuch_0 rfl (lv_at hl 0 rfl) ?_
  refine lv_iload_n hx hb dX9_hasTooMuch_1 rfl (lv_at hl 1 rfl) ?_
  refine lv_iconst (v := 1) hx hb dX9_hasTooMuch_2 (by decide) ?_
  obtain ⟨r1, q2, hf⟩ := cx_b hf
  refine cx_callV (As := [.int p0, .int 1]) (rest := []) ⟨hx, hb, hml, hown, hts⟩ (c_X9_unitsOf hC q2) (cwV 2 hts (gV mw_722 mw_723 mw_724 mw_5 mw_725) rfl rfl rfl hd_X9_unitsOf ⟨Nat.le_of_ble_eq_true rfl, Nat.le_of_ble_eq_true rfl⟩) hK hP rfl (at_Model hC hP) rfl hl.1 rfl (Nat.le_of_ble_eq_true rfl) dX9_hasTooMuch_3 ⟨Nat.zero_le _, Nat.zero_le _⟩ hL (fun H locs hP hL => ?_)
  replace hP : P μ H := by first | exact hP | (simpa only [va_up_id] using hP)
  refine lv_aload_n hx hb dX9_hasTooMuch_6 rfl (lv_at hl 0 rfl) ?_
  obtain ⟨r3, q4, hf⟩ := cx_b hf
  refine cx_callV (As := []) (rest := [.int r1]) ⟨hx, hb, hml, hown, hts⟩ (c_X9_allWeights hC q4) (cwV 0 hts (gV mw_726 mw_727 mw_728 mw_5 mw_729) rfl rfl rfl hd_X9_allWeights ⟨Nat.le_of_ble_eq_true rfl, Nat.le_of_ble_eq_true rfl⟩) hK hP rfl (at_Model hC hP) rfl hl.1 rfl (Nat.le_of_ble_eq_true rfl) dX9_hasTooMuch_7 ⟨Nat.zero_le _, Nat.zero_le _⟩ hL (fun H locs hP hL => ?_)
  replace hP : P μ H := by first | exact hP | (simpa only [va_up_id] using hP)
  refine lv_imul hx hb dX9_hasTooMuch_10 ?_
  refine lv_aload_n hx hb dX9_hasTooMuch_11 rfl (lv_at hl 0 rfl) ?_
  refine g_Model_0 hC hP hx hb hts hown hK mw_114 dX9_hasTooMuch_12 ?_
  refine lv_iconst (v := 2) hx hb dX9_hasTooMuch_15 (by decide) ?_
  obtain ⟨hi5, hf⟩ := gdE hf
  refine ga_Model_0 hC hP hx hb hK hi5 dX9_hasTooMuch_16 ?_
  refine lv_aload_n hx hb dX9_hasTooMuch_17 rfl (lv_at hl 0 rfl) ?_
  refine lv_iload_n hx hb dX9_hasTooMuch_18 rfl (lv_at hl 1 rfl) ?_
  refine lv_iconst (v := 0) hx hb dX9_hasTooMuch_19 (by decide) ?_
  obtain ⟨r6, q7, hf⟩ := cx_b hf
  refine cx_callV (As := [.int p0, .int 0]) (rest := [.int (μ.1.1 0 (Int32.toNatClampNeg 2)), .int (r1 * r3)]) ⟨hx, hb, hml, hown, hts⟩ (c_X9_ofClient hC q7) (cwV 2 hts (gV mw_635 mw_636 mw_637 mw_5 mw_638) rfl rfl rfl hd_X9_ofClient ⟨Nat.le_of_ble_eq_true rfl, Nat.le_of_ble_eq_true rfl⟩) hK hP rfl (at_Model hC hP) rfl hl.1 rfl (Nat.le_of_ble_eq_true rfl) dX9_hasTooMuch_20 ⟨Nat.zero_le _, Nat.zero_le _⟩ hL (fun H locs hP hL => ?_)
  replace hP : P μ H := by first | exact hP | (simpa only [va_up_id] using hP)
  refine lv_imul hx hb dX9_hasTooMuch_23 ?_
  refine lv_icmp_le (tgt := 31) hx hb dX9_hasTooMuch_24 (by decide) (fun c8 => ?_) (fun c8 => ?_)
  · have hf := cx_t hf c8
    refine lv_iconst (v := 0) hx hb dX9_hasTooMuch_31 (by decide) ?_
    cases hf
    exact cx_zret hx hb hr hlocks (Or.inl rfl) hP hL dX9_hasTooMuch_32
  · have hf := cx_f hf c8
    refine lv_iconst (v := 1) hx hb dX9_hasTooMuch_27 (by decide) ?_
    refine lv_goto (tgt := 32) hx hb dX9_hasTooMuch_28 (by decide) ?_
    cases hf
    exact cx_zret hx hb hr hlocks (Or.inr rfl) hP hL dX9_hasTooMuch_32
abbrev rm_X9_victimOf : Room := { frames := 3, cells := 0, slots := 0, locals := 68 }
theorem hd_X9_victimOf : yX9_victimOf.cls = RX9 ∧ yX9_victimOf.cls ≠ "java/lang/invoke/MethodHandle" ∧ yX9_victimOf.cls ≠ "java/lang/invoke/VarHandle" ∧ (parseMethodDescriptor yX9_victimOf.desc).map (fun d => d.parameters.length) = some 1 := by decide +kernel
def f_X9_victimOf_b8 (N : Nat) : Nat → MdlS → Int32 → Int32 → Option (Int32)
  | 0, _, _, _ => none
  | n + 1, μ, x1, x2 => if x2 < 0 then (f_X9_length μ x1).bind fun r2 => (f_X9_blockAt μ x1 (r2 - 1)).bind fun r4 => some r4 else (f_X9_blockAt μ x1 x2).bind fun r6 => (f_X9_of μ r6 2).bind fun r8 => (f_X9_hasTooMuch N μ r8).bind fun r10 => if r10 = 0 then f_X9_victimOf_b8 N n μ x1 (x2 + (-1)) else (f_X9_blockAt μ x1 x2).bind fun r13 => some r13
set_option maxHeartbeats 4000000 in
set_option maxRecDepth 100000 in
theorem w_X9_victimOf_b8 {p : Program} {l : Launch} {e : Env} {s : State} {m : MethodId} {args : Array Value} {below : List Frame} {meth : Method} {c : Code} {G : va_G} {cA : Nat → ClassId} (C0 : cB p s m args meth c RX9 cX9_victimOf 3 (some .int) G cA) {lo : Nat} {ad : Nat → Nat} {P : MdlS → Heap → Prop} (hC : cx G lo 9 ad (ceModel cA ad) P) {N : Nat} {res : Int32} : ∀ (n : Nat) (μ : MdlS) (x1 : Int32) (x2 : Int32) (H : Heap) (locs : List Loc) (ls : Array Slot), f_X9_victimOf_b8 N n μ x1 x2 = some res → P μ H → (∀ q ∈ locs, lo ≤ q.base) → lv_has ls 3 [(0, .ref (ad 0)), (1, .int x1), (2, .int x2)] → W p l e rm_X9_victimOf s m args below meth c H locs 0 0 (MQ below (cQ (some (.int res)) (P μ)) args s 0 0 (fun q => lo ≤ q)) (F0 m 8 ls []) := by
  obtain ⟨⟨hx, hb, hml, hown, hts⟩, hr, hlocks, hK⟩ := id C0
  intro n
  induction n with
  | zero => intro μ x1 x2 H locs ls
            exact fun hf => nomatch hf
  | succ n ih =>
    intro μ x1 x2 H locs ls hf hP hL hl
    rw [f_X9_victimOf_b8] at hf
    refine lv_iload_n hx hb dX9_victimOf_8 rfl (lv_at hl 2 rfl) ?_
    refine lv_if_lt (tgt := 43) hx hb dX9_victimOf_9 (by decide) (fun c1 => ?_) (fun c1 => ?_)
    · have hf := cx_t hf c1
      refine lv_aload_n hx hb dX9_victimOf_43 rfl (lv_at hl 0 rfl) ?_
      refine lv_iload_n hx hb dX9_victimOf_44 rfl (lv_at hl 1 rfl) ?_
      refine lv_aload_n hx hb dX9_victimOf_45 rfl (lv_at hl 0 rfl) ?_
      refine lv_iload_n hx hb dX9_victimOf_46 rfl (lv_at hl 1 rfl) ?_
      obtain ⟨r2, q3, hf⟩ := cx_b hf
      refine cx_callV (As := [.int x1]) (rest := [.int x1, .ref (ad 0)]) ⟨hx, hb, hml, hown, hts⟩ (c_X9_length hC q3) (cwV 1 hts (gV mw_663 mw_664 mw_665 mw_5 mw_666) rfl rfl rfl hd_X9_length ⟨Nat.le_of_ble_eq_true rfl, Nat.le_of_ble_eq_true rfl⟩) hK hP rfl (at_Model hC hP) rfl hl.1 rfl (Nat.le_of_ble_eq_true rfl) dX9_victimOf_47 ⟨Nat.zero_le _, Nat.zero_le _⟩ hL (fun H locs hP hL => ?_)
      replace hP : P μ H := by first | exact hP | (simpa only [va_up_id] using hP)
      refine lv_iconst (v := 1) hx hb dX9_victimOf_50 (by decide) ?_
      refine lv_isub hx hb dX9_victimOf_51 ?_
      obtain ⟨r4, q5, hf⟩ := cx_b hf
      refine cx_callV (As := [.int x1, .int (r2 - 1)]) (rest := []) ⟨hx, hb, hml, hown, hts⟩ (c_X9_blockAt hC q5) (cwV 2 hts (gV mw_659 mw_660 mw_661 mw_5 mw_662) rfl rfl rfl hd_X9_blockAt ⟨Nat.le_of_ble_eq_true rfl, Nat.le_of_ble_eq_true rfl⟩) hK hP rfl (at_Model hC hP) rfl hl.1 rfl (Nat.le_of_ble_eq_true rfl) dX9_victimOf_52 ⟨Nat.zero_le _, Nat.zero_le _⟩ hL (fun H locs hP hL => ?_)
      replace hP : P μ H := by first | exact hP | (simpa only [va_up_id] using hP)
      cases hf
      exact cx_iret hx hb hr hlocks hP hL dX9_victimOf_55
    · have hf := cx_f hf c1
      refine lv_aload_n hx hb dX9_victimOf_12 rfl (lv_at hl 0 rfl) ?_
      refine lv_aload_n hx hb dX9_victimOf_13 rfl (lv_at hl 0 rfl) ?_
      refine lv_aload_n hx hb dX9_victimOf_14 rfl (lv_at hl 0 rfl) ?_
      refine lv_iload_n hx hb dX9_victimOf_15 rfl (lv_at hl 1 rfl) ?_
      refine lv_iload_n hx hb dX9_victimOf_16 rfl (lv_at hl 2 rfl) ?_
      obtain ⟨r6, q7, hf⟩ := cx_b hf
      refine cx_callV (As := [.int x1, .int x2]) (rest := [.ref (ad 0), .ref (ad 0)]) ⟨hx, hb, hml, hown, hts⟩ (c_X9_blockAt hC q7) (cwV 2 hts (gV mw_659 mw_660 mw_661 mw_5 mw_662) rfl rfl rfl hd_X9_blockAt ⟨Nat.le_of_ble_eq_true rfl, Nat.le_of_ble_eq_true rfl⟩) hK hP rfl (at_Model hC hP) rfl hl.1 rfl (Nat.le_of_ble_eq_true rfl) dX9_victimOf_17 ⟨Nat.zero_le _, Nat.zero_le _⟩ hL (fun H locs hP hL => ?_)
      replace hP : P μ H := by first | exact hP | (simpa only [va_up_id] using hP)
      refine lv_iconst (v := 2) hx hb dX9_victimOf_20 (by decide) ?_
      obtain ⟨r8, q9, hf⟩ := cx_b hf
      refine cx_callV (As := [.int r6, .int 2]) (rest := [.ref (ad 0)]) ⟨hx, hb, hml, hown, hts⟩ (c_X9_of hC q9) (cwV 2 hts (gV mw_618 mw_619 mw_620 mw_5 mw_621) rfl rfl rfl hd_X9_of ⟨Nat.le_of_ble_eq_true rfl, Nat.le_of_ble_eq_true rfl⟩) hK hP rfl (at_Model hC hP) rfl hl.1 rfl (Nat.le_of_ble_eq_true rfl) dX9_victimOf_21 ⟨Nat.zero_le _, Nat.zero_le _⟩ hL (fun H locs hP hL => ?_)
      replace hP : P μ H := by first | exact hP | (simpa only [va_up_id] using hP)
      obtain ⟨r10, q11, hf⟩ := cx_b hf
      refine cx_callV (As := [.int r8]) (rest := []) ⟨hx, hb, hml, hown, hts⟩ (c_X9_hasTooMuch hC q11) (cwV 1 hts (gV mw_718 mw_719 mw_720 mw_5 mw_721) rfl rfl rfl hd_X9_hasTooMuch ⟨Nat.le_of_ble_eq_true rfl, Nat.le_of_ble_eq_true rfl⟩) hK hP rfl (at_Model hC hP) rfl hl.1 rfl (Nat.le_of_ble_eq_true rfl) dX9_victimOf_24 ⟨Nat.zero_le _, Nat.zero_le _⟩ hL (fun H locs hP hL => ?_)
      replace hP : P μ H := by first | exact hP | (simpa only [va_up_id] using hP)
      refine lv_if_eq (tgt := 37) hx hb dX9_victimOf_27 (by decide) (fun c12 => ?_) (fun c12 => ?_)
      · have hf := cx_t hf c12
        refine lv_iinc (v := (x2 + (-1))) (lv' := [(2, .int (x2 + (-1))), (0, .ref (ad 0)), (1, .int x1)]) hx hb dX9_victimOf_37 hl (k := 2) rfl rfl (by decide) rfl (fun ls hl => ?_)
        refine lv_goto (tgt := 8) hx hb dX9_victimOf_40 (by decide) ?_
        exact ih μ x1 (x2 + (-1)) _ _ _ hf hP hL (lv_sub hl [1, 2, 0] rfl)
      · have hf := cx_f hf c12
        refine lv_aload_n hx hb dX9_victimOf_30 rfl (lv_at hl 0 rfl) ?_
        refine lv_iload_n hx hb dX9_victimOf_31 rfl (lv_at hl 1 rfl) ?_
        refine lv_iload_n hx hb dX9_victimOf_32 rfl (lv_at hl 2 rfl) ?_
        obtain ⟨r13, q14, hf⟩ := cx_b hf
        refine cx_callV (As := [.int x1, .int x2]) (rest := []) ⟨hx, hb, hml, hown, hts⟩ (c_X9_blockAt hC q14) (cwV 2 hts (gV mw_659 mw_660 mw_661 mw_5 mw_662) rfl rfl rfl hd_X9_blockAt ⟨Nat.le_of_ble_eq_true rfl, Nat.le_of_ble_eq_true rfl⟩) hK hP rfl (at_Model hC hP) rfl hl.1 rfl (Nat.le_of_ble_eq_true rfl) dX9_victimOf_33 ⟨Nat.zero_le _, Nat.zero_le _⟩ hL (fun H locs hP hL => ?_)
        replace hP : P μ H := by first | exact hP | (simpa only [va_up_id] using hP)
        cases hf
        exact cx_iret hx hb hr hlocks hP hL dX9_victimOf_36
def f_X9_victimOf (N : Nat) (μ : MdlS) (p0 : Int32) : Option (Int32) := (f_X9_length μ p0).bind fun r1 => f_X9_victimOf_b8 N N μ p0 (r1 - 1)
set_option maxHeartbeats 4000000 in
set_option maxRecDepth 100000 in
theorem c_X9_victimOf {l : Launch} {G : va_G} {cA : Nat → ClassId} {lo : Nat} {ad : Nat → Nat} {P : MdlS → Heap → Prop} (hC : cx G lo 9 ad (ceModel cA ad) P) {N : Nat} {μ : MdlS} {p0 : Int32} {res : Int32} (hf : f_X9_victimOf N μ p0 = some res) : Met l yX9_victimOf (cW yX9_victimOf cX9_victimOf 3 (some .int)) rm_X9_victimOf (cP [.ref (ad 0), .int p0] (P μ) G cA) (cQ (some (.int res)) (P μ)) 0 0 (fun q => lo ≤ q) := by
  refine cx_met (by decide) (Nat.le_of_ble_eq_true rfl) (fun p e s m args below meth c ls C0 hP hl => ?_)
  have hl : lv_has ls 3 [(0, .ref (ad 0)), (1, .int p0)] := hl
  obtain ⟨⟨hx, hb, hml, hown, hts⟩, hr, hlocks, hK⟩ := id C0
  have hL : ∀ q ∈ ([] : List Loc), lo ≤ q.base := fun q h => nomatch h
  unfold f_X9_victimOf at hf
  refine lv_aload_n hx hb dX9_victimOf_0 rfl (lv_at hl 0 rfl) ?_
  refine lv_iload_n hx hb dX9_victimOf_1 rfl (lv_at hl 1 rfl) ?_
  obtain ⟨r1, q2, hf⟩ := cx_b hf
  refine cx_callV (As := [.int p0]) (rest := []) ⟨hx, hb, hml, hown, hts⟩ (c_X9_length hC q2) (cwV 1 hts (gV mw_663 mw_664 mw_665 mw_5 mw_666) rfl rfl rfl hd_X9_length ⟨Nat.le_of_ble_eq_true rfl, Nat.le_of_ble_eq_true rfl⟩) hK hP rfl (at_Model hC hP) rfl hl.1 rfl (Nat.le_of_ble_eq_true rfl) dX9_victimOf_2 ⟨Nat.zero_le _, Nat.zero_le _⟩ hL (fun H locs hP hL => ?_)
  replace hP : P μ H := by first | exact hP | (simpa only [va_up_id] using hP)
  refine lv_iconst (v := 1) hx hb dX9_victimOf_5 (by decide) ?_
  refine lv_isub hx hb dX9_victimOf_6 ?_
  refine lv_istore_n (lv' := [(2, .int (r1 - 1)), (0, .ref (ad 0)), (1, .int p0)]) hx hb dX9_victimOf_7 rfl hl (by decide) rfl (fun ls hl => ?_)
  exact w_X9_victimOf_b8 C0 hC N μ p0 (r1 - 1) _ _ _ hf hP hL (lv_sub hl [1, 2, 0] rfl)
abbrev rm_X9_becomeGhost : Room := { frames := 4, cells := 0, slots := 0, locals := 90 }
theorem hd_X9_becomeGhost : yX9_becomeGhost.cls = RX9 ∧ yX9_becomeGhost.cls ≠ "java/lang/invoke/MethodHandle" ∧ yX9_becomeGhost.cls ≠ "java/lang/invoke/VarHandle" ∧ (parseMethodDescriptor yX9_becomeGhost.desc).map (fun d => d.parameters.length) = some 2 := by decide +kernel
def f_X9_becomeGhost_b30 (N : Nat) (μ : MdlS) (x1 : Int32) (x2 : Int32) : Option (MdlS) := (f_X9_put μ x1 4 x2).bind fun r1 => (f_X9_bring N r1 x2 x1).bind fun r3 => some r3
set_option maxHeartbeats 4000000 in
set_option maxRecDepth 100000 in
theorem w_X9_becomeGhost_b30 {p : Program} {l : Launch} {e : Env} {s : State} {m : MethodId} {args : Array Value} {below : List Frame} {meth : Method} {c : Code} {G : va_G} {cA : Nat → ClassId} (C0 : cB p s m args meth c RX9 cX9_becomeGhost 3 none G cA) {lo : Nat} {ad : Nat → Nat} {P : MdlS → Heap → Prop} (hC : cx G lo 9 ad (ceModel cA ad) P) {N : Nat} {res : MdlS} : ∀ (μ : MdlS) (x1 : Int32) (x2 : Int32) (H : Heap) (locs : List Loc) (ls : Array Slot), f_X9_becomeGhost_b30 N μ x1 x2 = some res → P μ H → (∀ q ∈ locs, lo ≤ q.base) → lv_has ls 3 [(0, .ref (ad 0)), (1, .int x1), (2, .int x2)] → W p l e rm_X9_becomeGhost s m args below meth c H locs 0 0 (MQ below (cQ none (P res)) args s 0 0 (fun q => lo ≤ q)) (F0 m 30 ls []) := by
  obtain ⟨⟨hx, hb, hml, hown, hts⟩, hr, hlocks, hK⟩ := id C0
  intro μ x1 x2 H locs ls hf hP hL hl
  unfold f_X9_becomeGhost_b30 at hf
  refine lv_aload_n hx hb dX9_becomeGhost_30 rfl (lv_at hl 0 rfl) ?_
  refine lv_iload_n hx hb dX9_becomeGhost_31 rfl (lv_at hl 1 rfl) ?_
  refine lv_iconst (v := 4) hx hb dX9_becomeGhost_32 (by decide) ?_
  refine lv_iload_n hx hb dX9_becomeGhost_33 rfl (lv_at hl 2 rfl) ?_
  obtain ⟨r1, q2, hf⟩ := cx_b hf
  refine cx_callV (As := [.int x1, .int 4, .int x2]) (rest := []) ⟨hx, hb, hml, hown, hts⟩ (c_X9_put hC q2) (cwV 3 hts (gV mw_124 mw_125 mw_126 mw_5 mw_127) rfl rfl rfl hd_X9_put ⟨Nat.le_of_ble_eq_true rfl, Nat.le_of_ble_eq_true rfl⟩) hK hP rfl (at_Model hC hP) rfl hl.1 rfl (Nat.le_of_ble_eq_true rfl) dX9_becomeGhost_34 ⟨Nat.zero_le _, Nat.zero_le _⟩ hL (fun H locs hP hL => ?_)
  replace hP : P r1 H := by first | exact hP | (simpa only [va_up_id] using hP)
  refine lv_aload_n hx hb dX9_becomeGhost_37 rfl (lv_at hl 0 rfl) ?_
  refine lv_iload_n hx hb dX9_becomeGhost_38 rfl (lv_at hl 2 rfl) ?_
  refine lv_iload_n hx hb dX9_becomeGhost_39 rfl (lv_at hl 1 rfl) ?_
  obtain ⟨r3, q4, hf⟩ := cx_b hf
  refine cx_callV (As := [.int x2, .int x1]) (rest := []) ⟨hx, hb, hml, hown, hts⟩ (c_X9_bring hC q4) (cwV 2 hts (gV mw_667 mw_668 mw_669 mw_5 mw_670) rfl rfl rfl hd_X9_bring ⟨Nat.le_of_ble_eq_true rfl, Nat.le_of_ble_eq_true rfl⟩) hK hP rfl (at_Model hC hP) rfl hl.1 rfl (Nat.le_of_ble_eq_true rfl) dX9_becomeGhost_40 ⟨Nat.zero_le _, Nat.zero_le _⟩ hL (fun H locs hP hL => ?_)
  replace hP : P r3 H := by first | exact hP | (simpa only [va_up_id] using hP)
  cases hf
  exact cx_vret hx hb hr hlocks hP hL dX9_becomeGhost_43
def f_X9_becomeGhost (N : Nat) (μ : MdlS) (p0 : Int32) (p1 : Int32) : Option (MdlS) := (f_X9_length μ p1).bind fun r1 => gd 2 1384 (if r1 = (μ.1.1 0 (Int32.toNatClampNeg 2)) then (f_X9_length μ p1).bind fun r5 => (f_X9_blockAt μ p1 (r5 - 1)).bind fun r7 => (f_X9_dropGhost N μ r7).bind fun r9 => f_X9_becomeGhost_b30 N r9 p0 p1 else f_X9_becomeGhost_b30 N μ p0 p1)
set_option maxHeartbeats 4000000 in
set_option maxRecDepth 100000 in
theorem c_X9_becomeGhost {l : Launch} {G : va_G} {cA : Nat → ClassId} {lo : Nat} {ad : Nat → Nat} {P : MdlS → Heap → Prop} (hC : cx G lo 9 ad (ceModel cA ad) P) {N : Nat} {μ : MdlS} {p0 : Int32} {p1 : Int32} {res : MdlS} (hf : f_X9_becomeGhost N μ p0 p1 = some res) : Met l yX9_becomeGhost (cW yX9_becomeGhost cX9_becomeGhost 3 none) rm_X9_becomeGhost (cP [.ref (ad 0), .int p0, .int p1] (P μ) G cA) (cQ none (P res)) 0 0 (fun q => lo ≤ q) := by
  refine cx_met (by decide) (Nat.le_of_ble_eq_true rfl) (fun p e s m args below meth c ls C0 hP hl => ?_)
  have hl : lv_has ls 3 [(0, .ref (ad 0)), (1, .int p0), (2, .int p1)] := hl
  obtain ⟨⟨hx, hb, hml, hown, hts⟩, hr, hlocks, hK⟩ := id C0
  have hL : ∀ q ∈ ([] : List Loc), lo ≤ q.base := fun q h => nomatch h
  unfold f_X9_becomeGhost at hf
  refine lv_aload_n hx hb dX9_becomeGhost_0 rfl (lv_at hl 0 rfl) ?_
  refine lv_iload_n hx hb dX9_becomeGhost_1 rfl (lv_at hl 2 rfl) ?_
  obtain ⟨r1, q2, hf⟩ := cx_b hf
  refine cx_callV (As := [.int p1]) (rest := []) ⟨hx, hb, hml, hown, hts⟩ (c_X9_length hC q2) (cwV 1 hts (gV mw_663 mw_664 mw_665 mw_5 mw_666) rfl rfl rfl hd_X9_length ⟨Nat.le_of_ble_eq_true rfl, Nat.le_of_ble_eq_true rfl⟩) hK hP rfl (at_Model hC hP) rfl hl.1 rfl (Nat.le_of_ble_eq_true rfl) dX9_becomeGhost_2 ⟨Nat.zero_le _, Nat.zero_le _⟩ hL (fun H locs hP hL => ?_)
  replace hP : P μ H := by first | exact hP | (simpa only [va_up_id] using hP)
  refine lv_aload_n hx hb dX9_becomeGhost_5 rfl (lv_at hl 0 rfl) ?_
  refine g_Model_0 hC hP hx hb hts hown hK mw_114 dX9_becomeGhost_6 ?_
  refine lv_iconst (v := 2) hx hb dX9_becomeGhost_9 (by decide) ?_
  obtain ⟨hi3, hf⟩ := gdE hf
  refine ga_Model_0 hC hP hx hb hK hi3 dX9_becomeGhost_10 ?_
  refine lv_icmp_ne (tgt := 30) hx hb dX9_becomeGhost_11 (by decide) (fun c4 => ?_) (fun c4 => ?_)
  · have hf := cx_f hf c4
    exact w_X9_becomeGhost_b30 C0 hC μ p0 p1 _ _ _ hf hP hL (lv_sub hl [0, 1, 2] rfl)
  · have hf := cx_t hf c4
    refine lv_aload_n hx hb dX9_becomeGhost_14 rfl (lv_at hl 0 rfl) ?_
    refine lv_aload_n hx hb dX9_becomeGhost_15 rfl (lv_at hl 0 rfl) ?_
    refine lv_iload_n hx hb dX9_becomeGhost_16 rfl (lv_at hl 2 rfl) ?_
    refine lv_aload_n hx hb dX9_becomeGhost_17 rfl (lv_at hl 0 rfl) ?_
    refine lv_iload_n hx hb dX9_becomeGhost_18 rfl (lv_at hl 2 rfl) ?_
    obtain ⟨r5, q6, hf⟩ := cx_b hf
    refine cx_callV (As := [.int p1]) (rest := [.int p1, .ref (ad 0), .ref (ad 0)]) ⟨hx, hb, hml, hown, hts⟩ (c_X9_length hC q6) (cwV 1 hts (gV mw_663 mw_664 mw_665 mw_5 mw_666) rfl rfl rfl hd_X9_length ⟨Nat.le_of_ble_eq_true rfl, Nat.le_of_ble_eq_true rfl⟩) hK hP rfl (at_Model hC hP) rfl hl.1 rfl (Nat.le_of_ble_eq_true rfl) dX9_becomeGhost_19 ⟨Nat.zero_le _, Nat.zero_le _⟩ hL (fun H locs hP hL => ?_)
    replace hP : P μ H := by first | exact hP | (simpa only [va_up_id] using hP)
    refine lv_iconst (v := 1) hx hb dX9_becomeGhost_22 (by decide) ?_
    refine lv_isub hx hb dX9_becomeGhost_23 ?_
    obtain ⟨r7, q8, hf⟩ := cx_b hf
    refine cx_callV (As := [.int p1, .int (r5 - 1)]) (rest := [.ref (ad 0)]) ⟨hx, hb, hml, hown, hts⟩ (c_X9_blockAt hC q8) (cwV 2 hts (gV mw_659 mw_660 mw_661 mw_5 mw_662) rfl rfl rfl hd_X9_blockAt ⟨Nat.le_of_ble_eq_true rfl, Nat.le_of_ble_eq_true rfl⟩) hK hP rfl (at_Model hC hP) rfl hl.1 rfl (Nat.le_of_ble_eq_true rfl) dX9_becomeGhost_24 ⟨Nat.zero_le _, Nat.zero_le _⟩ hL (fun H locs hP hL => ?_)
    replace hP : P μ H := by first | exact hP | (simpa only [va_up_id] using hP)
    obtain ⟨r9, q10, hf⟩ := cx_b hf
    refine cx_callV (As := [.int r7]) (rest := []) ⟨hx, hb, hml, hown, hts⟩ (c_X9_dropGhost hC q10) (cwV 1 hts (gV mw_697 mw_698 mw_699 mw_5 mw_700) rfl rfl rfl hd_X9_dropGhost ⟨Nat.le_of_ble_eq_true rfl, Nat.le_of_ble_eq_true rfl⟩) hK hP rfl (at_Model hC hP) rfl hl.1 rfl (Nat.le_of_ble_eq_true rfl) dX9_becomeGhost_27 ⟨Nat.zero_le _, Nat.zero_le _⟩ hL (fun H locs hP hL => ?_)
    replace hP : P r9 H := by first | exact hP | (simpa only [va_up_id] using hP)
    exact w_X9_becomeGhost_b30 C0 hC r9 p0 p1 _ _ _ hf hP hL (lv_sub hl [0, 1, 2] rfl)
abbrev rm_X9_makeRoom : Room := { frames := 5, cells := 0, slots := 0, locals := 112 }
theorem hd_X9_makeRoom : yX9_makeRoom.cls = RX9 ∧ yX9_makeRoom.cls ≠ "java/lang/invoke/MethodHandle" ∧ yX9_makeRoom.cls ≠ "java/lang/invoke/VarHandle" ∧ (parseMethodDescriptor yX9_makeRoom.desc).map (fun d => d.parameters.length) = some 1 := by decide +kernel
def f_X9_makeRoom (N : Nat) (μ : MdlS) (p0 : Int32) : Option (MdlS) := (f_X9_isFull μ).bind fun r1 => if r1 = 0 then some μ else (f_X9_victimList μ p0).bind fun r4 => (f_X9_victimOf N μ r4).bind fun r6 => cx_let ((oI μ.1 19 r6, μ.2)) fun z8 => (f_X9_becomeGhost N z8 r6 (3 + r4)).bind fun r9 => (f_X9_makeRoomBelow N r9).bind fun r11 => (f_X9_move N r11 r6 2).bind fun r13 => gd 19 1384 (gd 19 1384 (cx_let ((oA r13.1 0 (Int32.toNatClampNeg 19) ((r13.1.1 0 (Int32.toNatClampNeg 19)) + 1), r13.2)) fun z17 => some z17))
set_option maxHeartbeats 4000000 in
set_option maxRecDepth 100000 in
theorem c_X9_makeRoom {l : Launch} {G : va_G} {cA : Nat → ClassId} {lo : Nat} {ad : Nat → Nat} {P : MdlS → Heap → Prop} (hC : cx G lo 9 ad (ceModel cA ad) P) {N : Nat} {μ : MdlS} {p0 : Int32} {res : MdlS} (hf : f_X9_makeRoom N μ p0 = some res) : Met l yX9_makeRoom (cW yX9_makeRoom cX9_makeRoom 4 none) rm_X9_makeRoom (cP [.ref (ad 0), .int p0] (P μ) G cA) (cQ none (P res)) 0 0 (fun q => lo ≤ q) := by
  refine cx_met (by decide) (Nat.le_of_ble_eq_true rfl) (fun p e s m args below meth c ls C0 hP hl => ?_)
  have hl : lv_has ls 4 [(0, .ref (ad 0)), (1, .int p0)] := hl
  obtain ⟨⟨hx, hb, hml, hown, hts⟩, hr, hlocks, hK⟩ := id C0
  have hL : ∀ q ∈ ([] : List Loc), lo ≤ q.base := fun q h => nomatch h
  unfold f_X9_makeRoom at hf
  refine lv_aload_n hx hb dX9_makeRoom_0 rfl (lv_at hl 0 rfl) ?_
  obtain ⟨r1, q2, hf⟩ := cx_b hf
  refine cx_callV (As := []) (rest := []) ⟨hx, hb, hml, hown, hts⟩ (c_X9_isFull hC q2) (cwV 0 hts (gV mw_706 mw_707 mw_708 mw_5 mw_709) rfl rfl rfl hd_X9_isFull ⟨Nat.le_of_ble_eq_true rfl, Nat.le_of_ble_eq_true rfl⟩) hK hP rfl (at_Model hC hP) rfl hl.1 rfl (Nat.le_of_ble_eq_true rfl) dX9_makeRoom_1 ⟨Nat.zero_le _, Nat.zero_le _⟩ hL (fun H locs hP hL => ?_)
  replace hP : P μ H := by first | exact hP | (simpa only [va_up_id] using hP)
  refine lv_if_eq (tgt := 53) hx hb dX9_makeRoom_4 (by decide) (fun c3 => ?_) (fun c3 => ?_)
  · have hf := cx_t hf c3
    cases hf
    exact cx_vret hx hb hr hlocks hP hL dX9_makeRoom_53
  · have hf := cx_f hf c3
    refine lv_aload_n hx hb dX9_makeRoom_7 rfl (lv_at hl 0 rfl) ?_
    refine lv_iload_n hx hb dX9_makeRoom_8 rfl (lv_at hl 1 rfl) ?_
    obtain ⟨r4, q5, hf⟩ := cx_b hf
    refine cx_callV (As := [.int p0]) (rest := []) ⟨hx, hb, hml, hown, hts⟩ (c_X9_victimList hC q5) (cwV 1 hts (gV mw_710 mw_711 mw_712 mw_5 mw_713) rfl rfl rfl hd_X9_victimList ⟨Nat.le_of_ble_eq_true rfl, Nat.le_of_ble_eq_true rfl⟩) hK hP rfl (at_Model hC hP) rfl hl.1 rfl (Nat.le_of_ble_eq_true rfl) dX9_makeRoom_9 ⟨Nat.zero_le _, Nat.zero_le _⟩ hL (fun H locs hP hL => ?_)
    replace hP : P μ H := by first | exact hP | (simpa only [va_up_id] using hP)
    refine lv_istore_n (lv' := [(2, .int r4), (0, .ref (ad 0)), (1, .int p0)]) hx hb dX9_makeRoom_12 rfl hl (by decide) rfl (fun ls hl => ?_)
    refine lv_aload_n hx hb dX9_makeRoom_13 rfl (lv_at hl 1 rfl) ?_
    refine lv_iload_n hx hb dX9_makeRoom_14 rfl (lv_at hl 0 rfl) ?_
    obtain ⟨r6, q7, hf⟩ := cx_b hf
    refine cx_callV (As := [.int r4]) (rest := []) ⟨hx, hb, hml, hown, hts⟩ (c_X9_victimOf hC q7) (cwV 1 hts (gV mw_714 mw_715 mw_716 mw_5 mw_717) rfl rfl rfl hd_X9_victimOf ⟨Nat.le_of_ble_eq_true rfl, Nat.le_of_ble_eq_true rfl⟩) hK hP rfl (at_Model hC hP) rfl hl.1 rfl (Nat.le_of_ble_eq_true rfl) dX9_makeRoom_15 ⟨Nat.zero_le _, Nat.zero_le _⟩ hL (fun H locs hP hL => ?_)
    replace hP : P μ H := by first | exact hP | (simpa only [va_up_id] using hP)
    refine lv_istore_n (lv' := [(3, .int r6), (2, .int r4), (0, .ref (ad 0)), (1, .int p0)]) hx hb dX9_makeRoom_18 rfl hl (by decide) rfl (fun ls hl => ?_)
    refine lv_aload_n hx hb dX9_makeRoom_19 rfl (lv_at hl 2 rfl) ?_
    refine lv_iload_n hx hb dX9_makeRoom_20 rfl (lv_at hl 0 rfl) ?_
    obtain ⟨z8, ez8, hf⟩ := cx_letE hf
    refine p_Model_19 hC hP hx hb hts hown hK mw_705 dX9_makeRoom_21 hL (fun H locs hP hL => ?_)
    replace hP : P z8 H := by rw [← ez8]; exact hP
    refine lv_aload_n hx hb dX9_makeRoom_24 rfl (lv_at hl 2 rfl) ?_
    refine lv_iload_n hx hb dX9_makeRoom_25 rfl (lv_at hl 0 rfl) ?_
    refine lv_iconst (v := 3) hx hb dX9_makeRoom_26 (by decide) ?_
    refine lv_iload_n hx hb dX9_makeRoom_27 rfl (lv_at hl 1 rfl) ?_
    refine lv_iadd hx hb dX9_makeRoom_28 ?_
    obtain ⟨r9, q10, hf⟩ := cx_b hf
    refine cx_callV (As := [.int r6, .int (3 + r4)]) (rest := []) ⟨hx, hb, hml, hown, hts⟩ (c_X9_becomeGhost hC q10) (cwV 2 hts (gV mw_730 mw_731 mw_732 mw_5 mw_733) rfl rfl rfl hd_X9_becomeGhost ⟨Nat.le_of_ble_eq_true rfl, Nat.le_of_ble_eq_true rfl⟩) hK hP rfl (at_Model hC hP) rfl hl.1 rfl (Nat.le_of_ble_eq_true rfl) dX9_makeRoom_29 ⟨Nat.zero_le _, Nat.zero_le _⟩ hL (fun H locs hP hL => ?_)
    replace hP : P r9 H := by first | exact hP | (simpa only [va_up_id] using hP)
    refine lv_aload_n hx hb dX9_makeRoom_32 rfl (lv_at hl 2 rfl) ?_
    obtain ⟨r11, q12, hf⟩ := cx_b hf
    refine cx_callV (As := []) (rest := []) ⟨hx, hb, hml, hown, hts⟩ (c_X9_makeRoomBelow hC q12) (cwV 0 hts (gV mw_675 mw_676 mw_677 mw_5 mw_678) rfl rfl rfl hd_X9_makeRoomBelow ⟨Nat.le_of_ble_eq_true rfl, Nat.le_of_ble_eq_true rfl⟩) hK hP rfl (at_Model hC hP) rfl hl.1 rfl (Nat.le_of_ble_eq_true rfl) dX9_makeRoom_33 ⟨Nat.zero_le _, Nat.zero_le _⟩ hL (fun H locs hP hL => ?_)
    replace hP : P r11 H := by first | exact hP | (simpa only [va_up_id] using hP)
    refine lv_aload_n hx hb dX9_makeRoom_36 rfl (lv_at hl 2 rfl) ?_
    refine lv_iload_n hx hb dX9_makeRoom_37 rfl (lv_at hl 0 rfl) ?_
    refine lv_iconst (v := 2) hx hb dX9_makeRoom_38 (by decide) ?_
    obtain ⟨r13, q14, hf⟩ := cx_b hf
    refine cx_callV (As := [.int r6, .int 2]) (rest := []) ⟨hx, hb, hml, hown, hts⟩ (c_X9_move hC q14) (cwV 2 hts (gV mw_647 mw_648 mw_649 mw_5 mw_650) rfl rfl rfl hd_X9_move ⟨Nat.le_of_ble_eq_true rfl, Nat.le_of_ble_eq_true rfl⟩) hK hP rfl (at_Model hC hP) rfl hl.1 rfl (Nat.le_of_ble_eq_true rfl) dX9_makeRoom_39 ⟨Nat.zero_le _, Nat.zero_le _⟩ hL (fun H locs hP hL => ?_)
    replace hP : P r13 H := by first | exact hP | (simpa only [va_up_id] using hP)
    refine lv_aload_n hx hb dX9_makeRoom_42 rfl (lv_at hl 2 rfl) ?_
    refine g_Model_0 hC hP hx hb hts hown hK mw_114 dX9_makeRoom_43 ?_
    refine lv_bipush (v := 19) hx hb dX9_makeRoom_46 (by decide) ?_
    refine lv_dup2_11 hx hb dX9_makeRoom_48 rfl rfl ?_
    obtain ⟨hi15, hf⟩ := gdE hf
    refine ga_Model_0 hC hP hx hb hK hi15 dX9_makeRoom_49 ?_
    refine lv_iconst (v := 1) hx hb dX9_makeRoom_50 (by decide) ?_
    refine lv_iadd hx hb dX9_makeRoom_51 ?_
    obtain ⟨hi16, hf⟩ := gdE hf
    obtain ⟨z17, ez17, hf⟩ := cx_letE hf
    refine pa_Model_0 hC hP hx hb hK hi16 dX9_makeRoom_52 hL (fun H locs hP hL => ?_)
    replace hP : P z17 H := by rw [← ez17]; exact hP
    cases hf
    exact cx_vret hx hb hr hlocks hP hL dX9_makeRoom_53
abbrev rm_X9_come : Room := { frames := 6, cells := 0, slots := 0, locals := 135 }
theorem hd_X9_come : yX9_come.cls = RX9 ∧ yX9_come.cls ≠ "java/lang/invoke/MethodHandle" ∧ yX9_come.cls ≠ "java/lang/invoke/VarHandle" ∧ (parseMethodDescriptor yX9_come.desc).map (fun d => d.parameters.length) = some 2 := by decide +kernel
def f_X9_come_b69 (N : Nat) (μ : MdlS) (x2 : Int32) (x3 : Int32) (y0 : Int32) : Option (MdlS) := (f_X9_makeRoom N μ y0).bind fun r1 => if x3 = (-1) then (f_X9_move N r1 x2 0).bind fun r6 => some r6 else (f_X9_move N r1 x2 1).bind fun r4 => some r4
set_option maxHeartbeats 4000000 in
set_option maxRecDepth 100000 in
theorem w_X9_come_b69 {p : Program} {l : Launch} {e : Env} {s : State} {m : MethodId} {args : Array Value} {below : List Frame} {meth : Method} {c : Code} {G : va_G} {cA : Nat → ClassId} (C0 : cB p s m args meth c RX9 cX9_come 4 none G cA) {lo : Nat} {ad : Nat → Nat} {P : MdlS → Heap → Prop} (hC : cx G lo 9 ad (ceModel cA ad) P) {N : Nat} {res : MdlS} : ∀ (μ : MdlS) (x2 : Int32) (x3 : Int32) (y0 : Int32) (H : Heap) (locs : List Loc) (ls : Array Slot), f_X9_come_b69 N μ x2 x3 y0 = some res → P μ H → (∀ q ∈ locs, lo ≤ q.base) → lv_has ls 4 [(0, .ref (ad 0)), (2, .int x2), (3, .int x3)] → W p l e rm_X9_come s m args below meth c H locs 0 0 (MQ below (cQ none (P res)) args s 0 0 (fun q => lo ≤ q)) (F0 m 69 ls [.int y0, .ref (ad 0)]) := by
  obtain ⟨⟨hx, hb, hml, hown, hts⟩, hr, hlocks, hK⟩ := id C0
  intro μ x2 x3 y0 H locs ls hf hP hL hl
  unfold f_X9_come_b69 at hf
  obtain ⟨r1, q2, hf⟩ := cx_b hf
  refine cx_callV (As := [.int y0]) (rest := []) ⟨hx, hb, hml, hown, hts⟩ (c_X9_makeRoom hC q2) (cwV 1 hts (gV mw_701 mw_702 mw_703 mw_5 mw_704) rfl rfl rfl hd_X9_makeRoom ⟨Nat.le_of_ble_eq_true rfl, Nat.le_of_ble_eq_true rfl⟩) hK hP rfl (at_Model hC hP) rfl hl.1 rfl (Nat.le_of_ble_eq_true rfl) dX9_come_69 ⟨Nat.zero_le _, Nat.zero_le _⟩ hL (fun H locs hP hL => ?_)
  replace hP : P r1 H := by first | exact hP | (simpa only [va_up_id] using hP)
  refine lv_aload_n hx hb dX9_come_72 rfl (lv_at hl 0 rfl) ?_
  refine lv_iload_n hx hb dX9_come_73 rfl (lv_at hl 1 rfl) ?_
  refine lv_iload_n hx hb dX9_come_74 rfl (lv_at hl 2 rfl) ?_
  refine lv_iconst (v := (-1)) hx hb dX9_come_75 (by decide) ?_
  refine lv_icmp_ne (tgt := 83) hx hb dX9_come_76 (by decide) (fun c3 => ?_) (fun c3 => ?_)
  · have hf := cx_f hf c3
    refine lv_iconst (v := 1) hx hb dX9_come_83 (by decide) ?_
    obtain ⟨r4, q5, hf⟩ := cx_b hf
    refine cx_callV (As := [.int x2, .int 1]) (rest := []) ⟨hx, hb, hml, hown, hts⟩ (c_X9_move hC q5) (cwV 2 hts (gV mw_647 mw_648 mw_649 mw_5 mw_650) rfl rfl rfl hd_X9_move ⟨Nat.le_of_ble_eq_true rfl, Nat.le_of_ble_eq_true rfl⟩) hK hP rfl (at_Model hC hP) rfl hl.1 rfl (Nat.le_of_ble_eq_true rfl) dX9_come_84 ⟨Nat.zero_le _, Nat.zero_le _⟩ hL (fun H locs hP hL => ?_)
    replace hP : P r4 H := by first | exact hP | (simpa only [va_up_id] using hP)
    cases hf
    exact cx_vret hx hb hr hlocks hP hL dX9_come_87
  · have hf := cx_t hf c3
    refine lv_iconst (v := 0) hx hb dX9_come_79 (by decide) ?_
    refine lv_goto (tgt := 84) hx hb dX9_come_80 (by decide) ?_
    obtain ⟨r6, q7, hf⟩ := cx_b hf
    refine cx_callV (As := [.int x2, .int 0]) (rest := []) ⟨hx, hb, hml, hown, hts⟩ (c_X9_move hC q7) (cwV 2 hts (gV mw_647 mw_648 mw_649 mw_5 mw_650) rfl rfl rfl hd_X9_move ⟨Nat.le_of_ble_eq_true rfl, Nat.le_of_ble_eq_true rfl⟩) hK hP rfl (at_Model hC hP) rfl hl.1 rfl (Nat.le_of_ble_eq_true rfl) dX9_come_84 ⟨Nat.zero_le _, Nat.zero_le _⟩ hL (fun H locs hP hL => ?_)
    replace hP : P r6 H := by first | exact hP | (simpa only [va_up_id] using hP)
    cases hf
    exact cx_vret hx hb hr hlocks hP hL dX9_come_87
def f_X9_come_b36 (N : Nat) (μ : MdlS) (x2 : Int32) : Option (MdlS) := (f_X9_of μ x2 4).bind fun r1 => if r1 = (-1) then if r1 = 4 then f_X9_come_b69 N μ x2 r1 1 else f_X9_come_b69 N μ x2 r1 0 else (f_X9_learn μ r1).bind fun r5 => (f_X9_dropGhost N r5 x2).bind fun r7 => if r1 = 4 then f_X9_come_b69 N r7 x2 r1 1 else f_X9_come_b69 N r7 x2 r1 0
set_option maxHeartbeats 4000000 in
set_option maxRecDepth 100000 in
theorem w_X9_come_b36 {p : Program} {l : Launch} {e : Env} {s : State} {m : MethodId} {args : Array Value} {below : List Frame} {meth : Method} {c : Code} {G : va_G} {cA : Nat → ClassId} (C0 : cB p s m args meth c RX9 cX9_come 4 none G cA) {lo : Nat} {ad : Nat → Nat} {P : MdlS → Heap → Prop} (hC : cx G lo 9 ad (ceModel cA ad) P) {N : Nat} {res : MdlS} : ∀ (μ : MdlS) (x2 : Int32) (H : Heap) (locs : List Loc) (ls : Array Slot), f_X9_come_b36 N μ x2 = some res → P μ H → (∀ q ∈ locs, lo ≤ q.base) → lv_has ls 4 [(0, .ref (ad 0)), (2, .int x2)] → W p l e rm_X9_come s m args below meth c H locs 0 0 (MQ below (cQ none (P res)) args s 0 0 (fun q => lo ≤ q)) (F0 m 36 ls []) := by
  obtain ⟨⟨hx, hb, hml, hown, hts⟩, hr, hlocks, hK⟩ := id C0
  intro μ x2 H locs ls hf hP hL hl
  unfold f_X9_come_b36 at hf
  refine lv_aload_n hx hb dX9_come_36 rfl (lv_at hl 0 rfl) ?_
  refine lv_iload_n hx hb dX9_come_37 rfl (lv_at hl 1 rfl) ?_
  refine lv_iconst (v := 4) hx hb dX9_come_38 (by decide) ?_
  obtain ⟨r1, q2, hf⟩ := cx_b hf
  refine cx_callV (As := [.int x2, .int 4]) (rest := []) ⟨hx, hb, hml, hown, hts⟩ (c_X9_of hC q2) (cwV 2 hts (gV mw_618 mw_619 mw_620 mw_5 mw_621) rfl rfl rfl hd_X9_of ⟨Nat.le_of_ble_eq_true rfl, Nat.le_of_ble_eq_true rfl⟩) hK hP rfl (at_Model hC hP) rfl hl.1 rfl (Nat.le_of_ble_eq_true rfl) dX9_come_39 ⟨Nat.zero_le _, Nat.zero_le _⟩ hL (fun H locs hP hL => ?_)
  replace hP : P μ H := by first | exact hP | (simpa only [va_up_id] using hP)
  refine lv_istore_n (lv' := [(3, .int r1), (0, .ref (ad 0)), (2, .int x2)]) hx hb dX9_come_42 rfl hl (by decide) rfl (fun ls hl => ?_)
  refine lv_iload_n hx hb dX9_come_43 rfl (lv_at hl 0 rfl) ?_
  refine lv_iconst (v := (-1)) hx hb dX9_come_44 (by decide) ?_
  refine lv_icmp_eq (tgt := 58) hx hb dX9_come_45 (by decide) (fun c3 => ?_) (fun c3 => ?_)
  · have hf := cx_t hf c3
    refine lv_aload_n hx hb dX9_come_58 rfl (lv_at hl 1 rfl) ?_
    refine lv_iload_n hx hb dX9_come_59 rfl (lv_at hl 0 rfl) ?_
    refine lv_iconst (v := 4) hx hb dX9_come_60 (by decide) ?_
    refine lv_icmp_ne (tgt := 68) hx hb dX9_come_61 (by decide) (fun c4 => ?_) (fun c4 => ?_)
    · have hf := cx_f hf c4
      refine lv_iconst (v := 0) hx hb dX9_come_68 (by decide) ?_
      exact w_X9_come_b69 C0 hC μ x2 r1 0 _ _ _ hf hP hL (lv_sub hl [1, 2, 0] rfl)
    · have hf := cx_t hf c4
      refine lv_iconst (v := 1) hx hb dX9_come_64 (by decide) ?_
      refine lv_goto (tgt := 69) hx hb dX9_come_65 (by decide) ?_
      exact w_X9_come_b69 C0 hC μ x2 r1 1 _ _ _ hf hP hL (lv_sub hl [1, 2, 0] rfl)
  · have hf := cx_f hf c3
    refine lv_aload_n hx hb dX9_come_48 rfl (lv_at hl 1 rfl) ?_
    refine lv_iload_n hx hb dX9_come_49 rfl (lv_at hl 0 rfl) ?_
    obtain ⟨r5, q6, hf⟩ := cx_b hf
    refine cx_callV (As := [.int r1]) (rest := []) ⟨hx, hb, hml, hown, hts⟩ (c_X9_learn hC q6) (cwV 1 hts (gV mw_692 mw_693 mw_694 mw_5 mw_695) rfl rfl rfl hd_X9_learn ⟨Nat.le_of_ble_eq_true rfl, Nat.le_of_ble_eq_true rfl⟩) hK hP rfl (at_Model hC hP) rfl hl.1 rfl (Nat.le_of_ble_eq_true rfl) dX9_come_50 ⟨Nat.zero_le _, Nat.zero_le _⟩ hL (fun H locs hP hL => ?_)
    replace hP : P r5 H := by first | exact hP | (simpa only [va_up_id] using hP)
    refine lv_aload_n hx hb dX9_come_53 rfl (lv_at hl 1 rfl) ?_
    refine lv_iload_n hx hb dX9_come_54 rfl (lv_at hl 2 rfl) ?_
    obtain ⟨r7, q8, hf⟩ := cx_b hf
    refine cx_callV (As := [.int x2]) (rest := []) ⟨hx, hb, hml, hown, hts⟩ (c_X9_dropGhost hC q8) (cwV 1 hts (gV mw_697 mw_698 mw_699 mw_5 mw_700) rfl rfl rfl hd_X9_dropGhost ⟨Nat.le_of_ble_eq_true rfl, Nat.le_of_ble_eq_true rfl⟩) hK hP rfl (at_Model hC hP) rfl hl.1 rfl (Nat.le_of_ble_eq_true rfl) dX9_come_55 ⟨Nat.zero_le _, Nat.zero_le _⟩ hL (fun H locs hP hL => ?_)
    replace hP : P r7 H := by first | exact hP | (simpa only [va_up_id] using hP)
    refine lv_aload_n hx hb dX9_come_58 rfl (lv_at hl 1 rfl) ?_
    refine lv_iload_n hx hb dX9_come_59 rfl (lv_at hl 0 rfl) ?_
    refine lv_iconst (v := 4) hx hb dX9_come_60 (by decide) ?_
    refine lv_icmp_ne (tgt := 68) hx hb dX9_come_61 (by decide) (fun c9 => ?_) (fun c9 => ?_)
    · have hf := cx_f hf c9
      refine lv_iconst (v := 0) hx hb dX9_come_68 (by decide) ?_
      exact w_X9_come_b69 C0 hC r7 x2 r1 0 _ _ _ hf hP hL (lv_sub hl [1, 2, 0] rfl)
    · have hf := cx_t hf c9
      refine lv_iconst (v := 1) hx hb dX9_come_64 (by decide) ?_
      refine lv_goto (tgt := 69) hx hb dX9_come_65 (by decide) ?_
      exact w_X9_come_b69 C0 hC r7 x2 r1 1 _ _ _ hf hP hL (lv_sub hl [1, 2, 0] rfl)
def f_X9_come (N : Nat) (μ : MdlS) (p0 : Int32) (p1 : Int32) : Option (MdlS) := (f_X9_of μ p1 0).bind fun r1 => if r1 = 2 then (f_X9_countHit μ p0 1).bind fun r8 => (f_X9_move N r8 p1 (-1)).bind fun r10 => f_X9_come_b36 N r10 p1 else (f_X9_countHit μ p0 2).bind fun r4 => (f_X9_clean r4 p1).bind fun r6 => f_X9_come_b36 N r6 p1
set_option maxHeartbeats 4000000 in
set_option maxRecDepth 100000 in
theorem c_X9_come {l : Launch} {G : va_G} {cA : Nat → ClassId} {lo : Nat} {ad : Nat → Nat} {P : MdlS → Heap → Prop} (hC : cx G lo 9 ad (ceModel cA ad) P) {N : Nat} {μ : MdlS} {p0 : Int32} {p1 : Int32} {res : MdlS} (hf : f_X9_come N μ p0 p1 = some res) : Met l yX9_come (cW yX9_come cX9_come 4 none) rm_X9_come (cP [.ref (ad 0), .int p0, .int p1] (P μ) G cA) (cQ none (P res)) 0 0 (fun q => lo ≤ q) := by
  refine cx_met (by decide) (Nat.le_of_ble_eq_true rfl) (fun p e s m args below meth c ls C0 hP hl => ?_)
  have hl : lv_has ls 4 [(0, .ref (ad 0)), (1, .int p0), (2, .int p1)] := hl
  obtain ⟨⟨hx, hb, hml, hown, hts⟩, hr, hlocks, hK⟩ := id C0
  have hL : ∀ q ∈ ([] : List Loc), lo ≤ q.base := fun q h => nomatch h
  unfold f_X9_come at hf
  refine lv_aload_n hx hb dX9_come_0 rfl (lv_at hl 0 rfl) ?_
  refine lv_iload_n hx hb dX9_come_1 rfl (lv_at hl 2 rfl) ?_
  refine lv_iconst (v := 0) hx hb dX9_come_2 (by decide) ?_
  obtain ⟨r1, q2, hf⟩ := cx_b hf
  refine cx_callV (As := [.int p1, .int 0]) (rest := []) ⟨hx, hb, hml, hown, hts⟩ (c_X9_of hC q2) (cwV 2 hts (gV mw_618 mw_619 mw_620 mw_5 mw_621) rfl rfl rfl hd_X9_of ⟨Nat.le_of_ble_eq_true rfl, Nat.le_of_ble_eq_true rfl⟩) hK hP rfl (at_Model hC hP) rfl hl.1 rfl (Nat.le_of_ble_eq_true rfl) dX9_come_3 ⟨Nat.zero_le _, Nat.zero_le _⟩ hL (fun H locs hP hL => ?_)
  replace hP : P μ H := by first | exact hP | (simpa only [va_up_id] using hP)
  refine lv_iconst (v := 2) hx hb dX9_come_6 (by decide) ?_
  refine lv_icmp_ne (tgt := 25) hx hb dX9_come_7 (by decide) (fun c3 => ?_) (fun c3 => ?_)
  · have hf := cx_f hf c3
    refine lv_aload_n hx hb dX9_come_25 rfl (lv_at hl 0 rfl) ?_
    refine lv_iload_n hx hb dX9_come_26 rfl (lv_at hl 1 rfl) ?_
    refine lv_iconst (v := 2) hx hb dX9_come_27 (by decide) ?_
    obtain ⟨r4, q5, hf⟩ := cx_b hf
    refine cx_callV (As := [.int p0, .int 2]) (rest := []) ⟨hx, hb, hml, hown, hts⟩ (c_X9_countHit hC q5) (cwV 2 hts (gV mw_643 mw_644 mw_645 mw_5 mw_646) rfl rfl rfl hd_X9_countHit ⟨Nat.le_of_ble_eq_true rfl, Nat.le_of_ble_eq_true rfl⟩) hK hP rfl (at_Model hC hP) rfl hl.1 rfl (Nat.le_of_ble_eq_true rfl) dX9_come_28 ⟨Nat.zero_le _, Nat.zero_le _⟩ hL (fun H locs hP hL => ?_)
    replace hP : P r4 H := by first | exact hP | (simpa only [va_up_id] using hP)
    refine lv_aload_n hx hb dX9_come_31 rfl (lv_at hl 0 rfl) ?_
    refine lv_iload_n hx hb dX9_come_32 rfl (lv_at hl 2 rfl) ?_
    obtain ⟨r6, q7, hf⟩ := cx_b hf
    refine cx_callV (As := [.int p1]) (rest := []) ⟨hx, hb, hml, hown, hts⟩ (c_X9_clean hC q7) (cwV 1 hts (gV mw_684 mw_685 mw_686 mw_5 mw_687) rfl rfl rfl hd_X9_clean ⟨Nat.le_of_ble_eq_true rfl, Nat.le_of_ble_eq_true rfl⟩) hK hP rfl (at_Model hC hP) rfl hl.1 rfl (Nat.le_of_ble_eq_true rfl) dX9_come_33 ⟨Nat.zero_le _, Nat.zero_le _⟩ hL (fun H locs hP hL => ?_)
    replace hP : P r6 H := by first | exact hP | (simpa only [va_up_id] using hP)
    exact w_X9_come_b36 C0 hC r6 p1 _ _ _ hf hP hL (lv_sub hl [0, 2] rfl)
  · have hf := cx_t hf c3
    refine lv_aload_n hx hb dX9_come_10 rfl (lv_at hl 0 rfl) ?_
    refine lv_iload_n hx hb dX9_come_11 rfl (lv_at hl 1 rfl) ?_
    refine lv_iconst (v := 1) hx hb dX9_come_12 (by decide) ?_
    obtain ⟨r8, q9, hf⟩ := cx_b hf
    refine cx_callV (As := [.int p0, .int 1]) (rest := []) ⟨hx, hb, hml, hown, hts⟩ (c_X9_countHit hC q9) (cwV 2 hts (gV mw_643 mw_644 mw_645 mw_5 mw_646) rfl rfl rfl hd_X9_countHit ⟨Nat.le_of_ble_eq_true rfl, Nat.le_of_ble_eq_true rfl⟩) hK hP rfl (at_Model hC hP) rfl hl.1 rfl (Nat.le_of_ble_eq_true rfl) dX9_come_13 ⟨Nat.zero_le _, Nat.zero_le _⟩ hL (fun H locs hP hL => ?_)
    replace hP : P r8 H := by first | exact hP | (simpa only [va_up_id] using hP)
    refine lv_aload_n hx hb dX9_come_16 rfl (lv_at hl 0 rfl) ?_
    refine lv_iload_n hx hb dX9_come_17 rfl (lv_at hl 2 rfl) ?_
    refine lv_iconst (v := (-1)) hx hb dX9_come_18 (by decide) ?_
    obtain ⟨r10, q11, hf⟩ := cx_b hf
    refine cx_callV (As := [.int p1, .int (-1)]) (rest := []) ⟨hx, hb, hml, hown, hts⟩ (c_X9_move hC q11) (cwV 2 hts (gV mw_647 mw_648 mw_649 mw_5 mw_650) rfl rfl rfl hd_X9_move ⟨Nat.le_of_ble_eq_true rfl, Nat.le_of_ble_eq_true rfl⟩) hK hP rfl (at_Model hC hP) rfl hl.1 rfl (Nat.le_of_ble_eq_true rfl) dX9_come_19 ⟨Nat.zero_le _, Nat.zero_le _⟩ hL (fun H locs hP hL => ?_)
    replace hP : P r10 H := by first | exact hP | (simpa only [va_up_id] using hP)
    refine lv_goto (tgt := 36) hx hb dX9_come_22 (by decide) ?_
    exact w_X9_come_b36 C0 hC r10 p1 _ _ _ hf hP hL (lv_sub hl [0, 2] rfl)
abbrev rm_X9_dirtyUnits : Room := { frames := 2, cells := 0, slots := 0, locals := 43 }
theorem hd_X9_dirtyUnits : yX9_dirtyUnits.cls = RX9 ∧ yX9_dirtyUnits.cls ≠ "java/lang/invoke/MethodHandle" ∧ yX9_dirtyUnits.cls ≠ "java/lang/invoke/VarHandle" ∧ (parseMethodDescriptor yX9_dirtyUnits.desc).map (fun d => d.parameters.length) = some 0 := by decide +kernel
def f_X9_dirtyUnits_b4 (N : Nat) : Nat → MdlS → Int32 → Int32 → Option (Int32)
  | 0, _, _, _ => none
  | n + 1, μ, x1, x2 => if 200 ≤ x2 then some x1 else (f_X9_isDirty μ x2).bind fun r2 => if r2 = 0 then f_X9_dirtyUnits_b4 N n μ (x1 + 0) (x2 + 1) else f_X9_dirtyUnits_b4 N n μ (x1 + 1) (x2 + 1)
set_option maxHeartbeats 4000000 in
set_option maxRecDepth 100000 in
theorem w_X9_dirtyUnits_b4 {p : Program} {l : Launch} {e : Env} {s : State} {m : MethodId} {args : Array Value} {below : List Frame} {meth : Method} {c : Code} {G : va_G} {cA : Nat → ClassId} (C0 : cB p s m args meth c RX9 cX9_dirtyUnits 3 (some .int) G cA) {lo : Nat} {ad : Nat → Nat} {P : MdlS → Heap → Prop} (hC : cx G lo 9 ad (ceModel cA ad) P) {N : Nat} {res : Int32} : ∀ (n : Nat) (μ : MdlS) (x1 : Int32) (x2 : Int32) (H : Heap) (locs : List Loc) (ls : Array Slot), f_X9_dirtyUnits_b4 N n μ x1 x2 = some res → P μ H → (∀ q ∈ locs, lo ≤ q.base) → lv_has ls 3 [(0, .ref (ad 0)), (1, .int x1), (2, .int x2)] → W p l e rm_X9_dirtyUnits s m args below meth c H locs 0 0 (MQ below (cQ (some (.int res)) (P μ)) args s 0 0 (fun q => lo ≤ q)) (F0 m 4 ls []) := by
  obtain ⟨⟨hx, hb, hml, hown, hts⟩, hr, hlocks, hK⟩ := id C0
  intro n
  induction n with
  | zero => intro μ x1 x2 H locs ls
            exact fun hf => nomatch hf
  | succ n ih =>
    intro μ x1 x2 H locs ls hf hP hL hl
    rw [f_X9_dirtyUnits_b4] at hf
    refine lv_iload_n hx hb dX9_dirtyUnits_4 rfl (lv_at hl 2 rfl) ?_
    refine lv_sipush (v := 200) hx hb dX9_dirtyUnits_5 (by decide) ?_
    refine lv_icmp_ge (tgt := 33) hx hb dX9_dirtyUnits_8 (by decide) (fun c1 => ?_) (fun c1 => ?_)
    · have hf := cx_t hf c1
      refine lv_iload_n hx hb dX9_dirtyUnits_33 rfl (lv_at hl 1 rfl) ?_
      cases hf
      exact cx_iret hx hb hr hlocks hP hL dX9_dirtyUnits_34
    · have hf := cx_f hf c1
      refine lv_iload_n hx hb dX9_dirtyUnits_11 rfl (lv_at hl 1 rfl) ?_
      refine lv_aload_n hx hb dX9_dirtyUnits_12 rfl (lv_at hl 0 rfl) ?_
      refine lv_iload_n hx hb dX9_dirtyUnits_13 rfl (lv_at hl 2 rfl) ?_
      obtain ⟨r2, q3, hf⟩ := cx_b hf
      refine cx_callV (As := [.int x2]) (rest := [.int x1]) ⟨hx, hb, hml, hown, hts⟩ (c_X9_isDirty hC q3) (cwV 1 hts (gV mw_614 mw_615 mw_616 mw_5 mw_617) rfl rfl rfl hd_X9_isDirty ⟨Nat.le_of_ble_eq_true rfl, Nat.le_of_ble_eq_true rfl⟩) hK hP rfl (at_Model hC hP) rfl hl.1 rfl (Nat.le_of_ble_eq_true rfl) dX9_dirtyUnits_14 ⟨Nat.zero_le _, Nat.zero_le _⟩ hL (fun H locs hP hL => ?_)
      replace hP : P μ H := by first | exact hP | (simpa only [va_up_id] using hP)
      refine lv_if_eq (tgt := 24) hx hb dX9_dirtyUnits_17 (by decide) (fun c4 => ?_) (fun c4 => ?_)
      · have hf := cx_t hf c4
        refine lv_iconst (v := 0) hx hb dX9_dirtyUnits_24 (by decide) ?_
        refine lv_iadd hx hb dX9_dirtyUnits_25 ?_
        refine lv_istore_n (lv' := [(1, .int (x1 + 0)), (0, .ref (ad 0)), (2, .int x2)]) hx hb dX9_dirtyUnits_26 rfl hl (by decide) rfl (fun ls hl => ?_)
        refine lv_iinc (v := (x2 + 1)) (lv' := [(2, .int (x2 + 1)), (1, .int (x1 + 0)), (0, .ref (ad 0))]) hx hb dX9_dirtyUnits_27 hl (k := 2) rfl rfl (by decide) rfl (fun ls hl => ?_)
        refine lv_goto (tgt := 4) hx hb dX9_dirtyUnits_30 (by decide) ?_
        exact ih μ (x1 + 0) (x2 + 1) _ _ _ hf hP hL (lv_sub hl [2, 1, 0] rfl)
      · have hf := cx_f hf c4
        refine lv_iconst (v := 1) hx hb dX9_dirtyUnits_20 (by decide) ?_
        refine lv_goto (tgt := 25) hx hb dX9_dirtyUnits_21 (by decide) ?_
        refine lv_iadd hx hb dX9_dirtyUnits_25 ?_
        refine lv_istore_n (lv' := [(1, .int (x1 + 1)), (0, .ref (ad 0)), (2, .int x2)]) hx hb dX9_dirtyUnits_26 rfl hl (by decide) rfl (fun ls hl => ?_)
        refine lv_iinc (v := (x2 + 1)) (lv' := [(2, .int (x2 + 1)), (1, .int (x1 + 1)), (0, .ref (ad 0))]) hx hb dX9_dirtyUnits_27 hl (k := 2) rfl rfl (by decide) rfl (fun ls hl => ?_)
        refine lv_goto (tgt := 4) hx hb dX9_dirtyUnits_30 (by decide) ?_
        exact ih μ (x1 + 1) (x2 + 1) _ _ _ hf hP hL (lv_sub hl [2, 1, 0] rfl)
def f_X9_dirtyUnits (N : Nat) (μ : MdlS) : Option (Int32) := f_X9_dirtyUnits_b4 N N μ 0 0
set_option maxHeartbeats 4000000 in
set_option maxRecDepth 100000 in
theorem c_X9_dirtyUnits {l : Launch} {G : va_G} {cA : Nat → ClassId} {lo : Nat} {ad : Nat → Nat} {P : MdlS → Heap → Prop} (hC : cx G lo 9 ad (ceModel cA ad) P) {N : Nat} {μ : MdlS} {res : Int32} (hf : f_X9_dirtyUnits N μ = some res) : Met l yX9_dirtyUnits (cW yX9_dirtyUnits cX9_dirtyUnits 3 (some .int)) rm_X9_dirtyUnits (cP [.ref (ad 0)] (P μ) G cA) (cQ (some (.int res)) (P μ)) 0 0 (fun q => lo ≤ q) := by
  refine cx_met (by decide) (Nat.le_of_ble_eq_true rfl) (fun p e s m args below meth c ls C0 hP hl => ?_)
  have hl : lv_has ls 3 [(0, .ref (ad 0))] := hl
  obtain ⟨⟨hx, hb, hml, hown, hts⟩, hr, hlocks, hK⟩ := id C0
  have hL : ∀ q ∈ ([] : List Loc), lo ≤ q.base := fun q h => nomatch h
  unfold f_X9_dirtyUnits at hf
  refine lv_iconst (v := 0) hx hb dX9_dirtyUnits_0 (by decide) ?_
  refine lv_istore_n (lv' := [(1, .int 0), (0, .ref (ad 0))]) hx hb dX9_dirtyUnits_1 rfl hl (by decide) rfl (fun ls hl => ?_)
  refine lv_iconst (v := 0) hx hb dX9_dirtyUnits_2 (by decide) ?_
  refine lv_istore_n (lv' := [(2, .int 0), (1, .int 0), (0, .ref (ad 0))]) hx hb dX9_dirtyUnits_3 rfl hl (by decide) rfl (fun ls hl => ?_)
  exact w_X9_dirtyUnits_b4 C0 hC N μ 0 0 _ _ _ hf hP hL (lv_sub hl [2, 1, 0] rfl)
abbrev rm_X9_access : Room := { frames := 7, cells := 0, slots := 0, locals := 158 }
theorem hd_X9_access : yX9_access.cls = RX9 ∧ yX9_access.cls ≠ "java/lang/invoke/MethodHandle" ∧ yX9_access.cls ≠ "java/lang/invoke/VarHandle" ∧ (parseMethodDescriptor yX9_access.desc).map (fun d => d.parameters.length) = some 3 := by decide +kernel
def f_X9_access_b152 (N : Nat) (μ : MdlS) (y0 : Int32) (y1 : Int32) (y2 : Int32) : Option (MdlS) := (f_X9_put μ y2 y1 y0).bind fun r1 => (f_X9_dirtyUnits N r1).bind fun r3 => gd 1 1384 ((f_X9_writeBack N r1 (if 0 < (r3 - (r1.1.1 0 (Int32.toNatClampNeg 1))) then (r3 - (r1.1.1 0 (Int32.toNatClampNeg 1))) else 0)).bind fun r6 => some r6.2)
set_option maxHeartbeats 4000000 in
set_option maxRecDepth 100000 in
theorem w_X9_access_b152 {p : Program} {l : Launch} {e : Env} {s : State} {m : MethodId} {args : Array Value} {below : List Frame} {meth : Method} {c : Code} {G : va_G} {cA : Nat → ClassId} (C0 : cB p s m args meth c RX9 cX9_access 8 none G cA) {lo : Nat} {ad : Nat → Nat} {P : MdlS → Heap → Prop} (hC : cx G lo 9 ad (ceModel cA ad) P) {N : Nat} {res : MdlS} : ∀ (μ : MdlS) (y0 : Int32) (y1 : Int32) (y2 : Int32) (H : Heap) (locs : List Loc) (ls : Array Slot), f_X9_access_b152 N μ y0 y1 y2 = some res → P μ H → (∀ q ∈ locs, lo ≤ q.base) → lv_has ls 8 [(0, .ref (ad 0))] → W p l e rm_X9_access s m args below meth c H locs 0 0 (MQ below (cQ none (P res)) args s 0 0 (fun q => lo ≤ q)) (F0 m 152 ls [.int y0, .int y1, .int y2, .ref (ad 0)]) := by
  obtain ⟨⟨hx, hb, hml, hown, hts⟩, hr, hlocks, hK⟩ := id C0
  intro μ y0 y1 y2 H locs ls hf hP hL hl
  unfold f_X9_access_b152 at hf
  obtain ⟨r1, q2, hf⟩ := cx_b hf
  refine cx_callV (As := [.int y2, .int y1, .int y0]) (rest := []) ⟨hx, hb, hml, hown, hts⟩ (c_X9_put hC q2) (cwV 3 hts (gV mw_124 mw_125 mw_126 mw_5 mw_127) rfl rfl rfl hd_X9_put ⟨Nat.le_of_ble_eq_true rfl, Nat.le_of_ble_eq_true rfl⟩) hK hP rfl (at_Model hC hP) rfl hl.1 rfl (Nat.le_of_ble_eq_true rfl) dX9_access_152 ⟨Nat.zero_le _, Nat.zero_le _⟩ hL (fun H locs hP hL => ?_)
  replace hP : P r1 H := by first | exact hP | (simpa only [va_up_id] using hP)
  refine lv_aload_n hx hb dX9_access_155 rfl (lv_at hl 0 rfl) ?_
  refine lv_iconst (v := 0) hx hb dX9_access_156 (by decide) ?_
  refine lv_aload_n hx hb dX9_access_157 rfl (lv_at hl 0 rfl) ?_
  obtain ⟨r3, q4, hf⟩ := cx_b hf
  refine cx_callV (As := []) (rest := [.int 0, .ref (ad 0)]) ⟨hx, hb, hml, hown, hts⟩ (c_X9_dirtyUnits hC q4) (cwV 0 hts (gV mw_734 mw_735 mw_736 mw_5 mw_737) rfl rfl rfl hd_X9_dirtyUnits ⟨Nat.le_of_ble_eq_true rfl, Nat.le_of_ble_eq_true rfl⟩) hK hP rfl (at_Model hC hP) rfl hl.1 rfl (Nat.le_of_ble_eq_true rfl) dX9_access_158 ⟨Nat.zero_le _, Nat.zero_le _⟩ hL (fun H locs hP hL => ?_)
  replace hP : P r1 H := by first | exact hP | (simpa only [va_up_id] using hP)
  refine lv_aload_n hx hb dX9_access_161 rfl (lv_at hl 0 rfl) ?_
  refine g_Model_0 hC hP hx hb hts hown hK mw_114 dX9_access_162 ?_
  refine lv_iconst (v := 1) hx hb dX9_access_165 (by decide) ?_
  obtain ⟨hi5, hf⟩ := gdE hf
  refine ga_Model_0 hC hP hx hb hK hi5 dX9_access_166 ?_
  refine lv_isub hx hb dX9_access_167 ?_
  refine va_mmax hx hb (hml.trans hl.1.symm) hown (hts _ mw_630) (hts _ mw_470) (hts _ mw_276) (hts _ mw_471) (Nat.le_of_ble_eq_true rfl) (Nat.le_of_ble_eq_true rfl) (Nat.zero_le _) (Nat.zero_le _) dX9_access_168 ?_
  obtain ⟨r6, q7, hf⟩ := cx_b hf
  refine cx_callV (As := [.int (if 0 < (r3 - (r1.1.1 0 (Int32.toNatClampNeg 1))) then (r3 - (r1.1.1 0 (Int32.toNatClampNeg 1))) else 0)]) (rest := []) ⟨hx, hb, hml, hown, hts⟩ (c_X9_writeBack hC q7) (cwV 1 hts (gV mw_606 mw_607 mw_608 mw_5 mw_609) rfl rfl rfl hd_X9_writeBack ⟨Nat.le_of_ble_eq_true rfl, Nat.le_of_ble_eq_true rfl⟩) hK hP rfl (at_Model hC hP) rfl hl.1 rfl (Nat.le_of_ble_eq_true rfl) dX9_access_171 ⟨Nat.zero_le _, Nat.zero_le _⟩ hL (fun H locs hP hL => ?_)
  replace hP : P r6.2 H := by first | exact hP | (simpa only [va_up_id] using hP)
  refine lv_istore (lv' := [(7, .int r6.1), (0, .ref (ad 0))]) hx hb dX9_access_174 hl (by decide) rfl (fun ls hl => ?_)
  cases hf
  exact cx_vret hx hb hr hlocks hP hL dX9_access_176
def f_X9_access_b94 (N : Nat) (μ : MdlS) (x1 : Int32) (x2 : Int32) (x3 : Int32) (y0 : Int32) : Option (MdlS) := (f_X9_ofClient μ x1 y0).bind fun r1 => (f_X9_putClient μ x1 y0 (r1 + 1)).bind fun r3 => if x3 = (-1) then some r3 else (f_X9_put r3 x2 1 x3).bind fun r6 => (f_X9_of r6 x2 3).bind fun r8 => if r8 = (-1) then gd 5 1384 (f_X9_access_b152 N r6 (r6.1.1 0 (Int32.toNatClampNeg 5)) 3 x2) else (f_X9_of r6 x2 3).bind fun r11 => f_X9_access_b152 N r6 r11 3 x2
set_option maxHeartbeats 4000000 in
set_option maxRecDepth 100000 in
theorem w_X9_access_b94 {p : Program} {l : Launch} {e : Env} {s : State} {m : MethodId} {args : Array Value} {below : List Frame} {meth : Method} {c : Code} {G : va_G} {cA : Nat → ClassId} (C0 : cB p s m args meth c RX9 cX9_access 8 none G cA) {lo : Nat} {ad : Nat → Nat} {P : MdlS → Heap → Prop} (hC : cx G lo 9 ad (ceModel cA ad) P) {N : Nat} {res : MdlS} : ∀ (μ : MdlS) (x1 : Int32) (x2 : Int32) (x3 : Int32) (y0 : Int32) (H : Heap) (locs : List Loc) (ls : Array Slot), f_X9_access_b94 N μ x1 x2 x3 y0 = some res → P μ H → (∀ q ∈ locs, lo ≤ q.base) → lv_has ls 8 [(0, .ref (ad 0)), (1, .int x1), (2, .int x2), (3, .int x3)] → W p l e rm_X9_access s m args below meth c H locs 0 0 (MQ below (cQ none (P res)) args s 0 0 (fun q => lo ≤ q)) (F0 m 94 ls [.int y0]) := by
  obtain ⟨⟨hx, hb, hml, hown, hts⟩, hr, hlocks, hK⟩ := id C0
  intro μ x1 x2 x3 y0 H locs ls hf hP hL hl
  unfold f_X9_access_b94 at hf
  refine lv_istore (lv' := [(6, .int y0), (0, .ref (ad 0)), (1, .int x1), (2, .int x2), (3, .int x3)]) hx hb dX9_access_94 hl (by decide) rfl (fun ls hl => ?_)
  refine lv_aload_n hx hb dX9_access_96 rfl (lv_at hl 1 rfl) ?_
  refine lv_iload_n hx hb dX9_access_97 rfl (lv_at hl 2 rfl) ?_
  refine lv_iload hx hb dX9_access_98 (lv_at hl 0 rfl) ?_
  refine lv_aload_n hx hb dX9_access_100 rfl (lv_at hl 1 rfl) ?_
  refine lv_iload_n hx hb dX9_access_101 rfl (lv_at hl 2 rfl) ?_
  refine lv_iload hx hb dX9_access_102 (lv_at hl 0 rfl) ?_
  obtain ⟨r1, q2, hf⟩ := cx_b hf
  refine cx_callV (As := [.int x1, .int y0]) (rest := [.int y0, .int x1, .ref (ad 0)]) ⟨hx, hb, hml, hown, hts⟩ (c_X9_ofClient hC q2) (cwV 2 hts (gV mw_635 mw_636 mw_637 mw_5 mw_638) rfl rfl rfl hd_X9_ofClient ⟨Nat.le_of_ble_eq_true rfl, Nat.le_of_ble_eq_true rfl⟩) hK hP rfl (at_Model hC hP) rfl hl.1 rfl (Nat.le_of_ble_eq_true rfl) dX9_access_104 ⟨Nat.zero_le _, Nat.zero_le _⟩ hL (fun H locs hP hL => ?_)
  replace hP : P μ H := by first | exact hP | (simpa only [va_up_id] using hP)
  refine lv_iconst (v := 1) hx hb dX9_access_107 (by decide) ?_
  refine lv_iadd hx hb dX9_access_108 ?_
  obtain ⟨r3, q4, hf⟩ := cx_b hf
  refine cx_callV (As := [.int x1, .int y0, .int (r1 + 1)]) (rest := []) ⟨hx, hb, hml, hown, hts⟩ (c_X9_putClient hC q4) (cwV 3 hts (gV mw_639 mw_640 mw_641 mw_5 mw_642) rfl rfl rfl hd_X9_putClient ⟨Nat.le_of_ble_eq_true rfl, Nat.le_of_ble_eq_true rfl⟩) hK hP rfl (at_Model hC hP) rfl hl.1 rfl (Nat.le_of_ble_eq_true rfl) dX9_access_109 ⟨Nat.zero_le _, Nat.zero_le _⟩ hL (fun H locs hP hL => ?_)
  replace hP : P r3 H := by first | exact hP | (simpa only [va_up_id] using hP)
  refine lv_iload_n hx hb dX9_access_112 rfl (lv_at hl 4 rfl) ?_
  refine lv_iconst (v := (-1)) hx hb dX9_access_113 (by decide) ?_
  refine lv_icmp_eq (tgt := 176) hx hb dX9_access_114 (by decide) (fun c5 => ?_) (fun c5 => ?_)
  · have hf := cx_t hf c5
    cases hf
    exact cx_vret hx hb hr hlocks hP hL dX9_access_176
  · have hf := cx_f hf c5
    refine lv_aload_n hx hb dX9_access_117 rfl (lv_at hl 1 rfl) ?_
    refine lv_iload_n hx hb dX9_access_118 rfl (lv_at hl 3 rfl) ?_
    refine lv_iconst (v := 1) hx hb dX9_access_119 (by decide) ?_
    refine lv_iload_n hx hb dX9_access_120 rfl (lv_at hl 4 rfl) ?_
    obtain ⟨r6, q7, hf⟩ := cx_b hf
    refine cx_callV (As := [.int x2, .int 1, .int x3]) (rest := []) ⟨hx, hb, hml, hown, hts⟩ (c_X9_put hC q7) (cwV 3 hts (gV mw_124 mw_125 mw_126 mw_5 mw_127) rfl rfl rfl hd_X9_put ⟨Nat.le_of_ble_eq_true rfl, Nat.le_of_ble_eq_true rfl⟩) hK hP rfl (at_Model hC hP) rfl hl.1 rfl (Nat.le_of_ble_eq_true rfl) dX9_access_121 ⟨Nat.zero_le _, Nat.zero_le _⟩ hL (fun H locs hP hL => ?_)
    replace hP : P r6 H := by first | exact hP | (simpa only [va_up_id] using hP)
    refine lv_aload_n hx hb dX9_access_124 rfl (lv_at hl 1 rfl) ?_
    refine lv_iload_n hx hb dX9_access_125 rfl (lv_at hl 3 rfl) ?_
    refine lv_iconst (v := 3) hx hb dX9_access_126 (by decide) ?_
    refine lv_aload_n hx hb dX9_access_127 rfl (lv_at hl 1 rfl) ?_
    refine lv_iload_n hx hb dX9_access_128 rfl (lv_at hl 3 rfl) ?_
    refine lv_iconst (v := 3) hx hb dX9_access_129 (by decide) ?_
    obtain ⟨r8, q9, hf⟩ := cx_b hf
    refine cx_callV (As := [.int x2, .int 3]) (rest := [.int 3, .int x2, .ref (ad 0)]) ⟨hx, hb, hml, hown, hts⟩ (c_X9_of hC q9) (cwV 2 hts (gV mw_618 mw_619 mw_620 mw_5 mw_621) rfl rfl rfl hd_X9_of ⟨Nat.le_of_ble_eq_true rfl, Nat.le_of_ble_eq_true rfl⟩) hK hP rfl (at_Model hC hP) rfl hl.1 rfl (Nat.le_of_ble_eq_true rfl) dX9_access_130 ⟨Nat.zero_le _, Nat.zero_le _⟩ hL (fun H locs hP hL => ?_)
    replace hP : P r6 H := by first | exact hP | (simpa only [va_up_id] using hP)
    refine lv_iconst (v := (-1)) hx hb dX9_access_133 (by decide) ?_
    refine lv_icmp_ne (tgt := 146) hx hb dX9_access_134 (by decide) (fun c10 => ?_) (fun c10 => ?_)
    · have hf := cx_f hf c10
      refine lv_aload_n hx hb dX9_access_146 rfl (lv_at hl 1 rfl) ?_
      refine lv_iload_n hx hb dX9_access_147 rfl (lv_at hl 3 rfl) ?_
      refine lv_iconst (v := 3) hx hb dX9_access_148 (by decide) ?_
      obtain ⟨r11, q12, hf⟩ := cx_b hf
      refine cx_callV (As := [.int x2, .int 3]) (rest := [.int 3, .int x2, .ref (ad 0)]) ⟨hx, hb, hml, hown, hts⟩ (c_X9_of hC q12) (cwV 2 hts (gV mw_618 mw_619 mw_620 mw_5 mw_621) rfl rfl rfl hd_X9_of ⟨Nat.le_of_ble_eq_true rfl, Nat.le_of_ble_eq_true rfl⟩) hK hP rfl (at_Model hC hP) rfl hl.1 rfl (Nat.le_of_ble_eq_true rfl) dX9_access_149 ⟨Nat.zero_le _, Nat.zero_le _⟩ hL (fun H locs hP hL => ?_)
      replace hP : P r6 H := by first | exact hP | (simpa only [va_up_id] using hP)
      exact w_X9_access_b152 C0 hC r6 r11 3 x2 _ _ _ hf hP hL (lv_sub hl [1] rfl)
    · have hf := cx_t hf c10
      refine lv_aload_n hx hb dX9_access_137 rfl (lv_at hl 1 rfl) ?_
      refine g_Model_0 hC hP hx hb hts hown hK mw_114 dX9_access_138 ?_
      refine lv_iconst (v := 5) hx hb dX9_access_141 (by decide) ?_
      obtain ⟨hi13, hf⟩ := gdE hf
      refine ga_Model_0 hC hP hx hb hK hi13 dX9_access_142 ?_
      refine lv_goto (tgt := 152) hx hb dX9_access_143 (by decide) ?_
      exact w_X9_access_b152 C0 hC r6 (r6.1.1 0 (Int32.toNatClampNeg 5)) 3 x2 _ _ _ hf hP hL (lv_sub hl [1] rfl)
def f_X9_access_b77 (N : Nat) (μ : MdlS) (x1 : Int32) (x2 : Int32) (x3 : Int32) : Option (MdlS) := (f_X9_put μ x2 2 x1).bind fun r1 => if x3 = (-1) then f_X9_access_b94 N r1 x1 x2 x3 3 else f_X9_access_b94 N r1 x1 x2 x3 4
set_option maxHeartbeats 4000000 in
set_option maxRecDepth 100000 in
theorem w_X9_access_b77 {p : Program} {l : Launch} {e : Env} {s : State} {m : MethodId} {args : Array Value} {below : List Frame} {meth : Method} {c : Code} {G : va_G} {cA : Nat → ClassId} (C0 : cB p s m args meth c RX9 cX9_access 8 none G cA) {lo : Nat} {ad : Nat → Nat} {P : MdlS → Heap → Prop} (hC : cx G lo 9 ad (ceModel cA ad) P) {N : Nat} {res : MdlS} : ∀ (μ : MdlS) (x1 : Int32) (x2 : Int32) (x3 : Int32) (H : Heap) (locs : List Loc) (ls : Array Slot), f_X9_access_b77 N μ x1 x2 x3 = some res → P μ H → (∀ q ∈ locs, lo ≤ q.base) → lv_has ls 8 [(0, .ref (ad 0)), (1, .int x1), (2, .int x2), (3, .int x3)] → W p l e rm_X9_access s m args below meth c H locs 0 0 (MQ below (cQ none (P res)) args s 0 0 (fun q => lo ≤ q)) (F0 m 77 ls []) := by
  obtain ⟨⟨hx, hb, hml, hown, hts⟩, hr, hlocks, hK⟩ := id C0
  intro μ x1 x2 x3 H locs ls hf hP hL hl
  unfold f_X9_access_b77 at hf
  refine lv_aload_n hx hb dX9_access_77 rfl (lv_at hl 0 rfl) ?_
  refine lv_iload_n hx hb dX9_access_78 rfl (lv_at hl 2 rfl) ?_
  refine lv_iconst (v := 2) hx hb dX9_access_79 (by decide) ?_
  refine lv_iload_n hx hb dX9_access_80 rfl (lv_at hl 1 rfl) ?_
  obtain ⟨r1, q2, hf⟩ := cx_b hf
  refine cx_callV (As := [.int x2, .int 2, .int x1]) (rest := []) ⟨hx, hb, hml, hown, hts⟩ (c_X9_put hC q2) (cwV 3 hts (gV mw_124 mw_125 mw_126 mw_5 mw_127) rfl rfl rfl hd_X9_put ⟨Nat.le_of_ble_eq_true rfl, Nat.le_of_ble_eq_true rfl⟩) hK hP rfl (at_Model hC hP) rfl hl.1 rfl (Nat.le_of_ble_eq_true rfl) dX9_access_81 ⟨Nat.zero_le _, Nat.zero_le _⟩ hL (fun H locs hP hL => ?_)
  replace hP : P r1 H := by first | exact hP | (simpa only [va_up_id] using hP)
  refine lv_iload_n hx hb dX9_access_84 rfl (lv_at hl 3 rfl) ?_
  refine lv_iconst (v := (-1)) hx hb dX9_access_85 (by decide) ?_
  refine lv_icmp_ne (tgt := 93) hx hb dX9_access_86 (by decide) (fun c3 => ?_) (fun c3 => ?_)
  · have hf := cx_f hf c3
    refine lv_iconst (v := 4) hx hb dX9_access_93 (by decide) ?_
    exact w_X9_access_b94 C0 hC r1 x1 x2 x3 4 _ _ _ hf hP hL (lv_sub hl [0, 1, 2, 3] rfl)
  · have hf := cx_t hf c3
    refine lv_iconst (v := 3) hx hb dX9_access_89 (by decide) ?_
    refine lv_goto (tgt := 94) hx hb dX9_access_90 (by decide) ?_
    exact w_X9_access_b94 C0 hC r1 x1 x2 x3 3 _ _ _ hf hP hL (lv_sub hl [0, 1, 2, 3] rfl)
def f_X9_access_b37 (N : Nat) (μ : MdlS) (x1 : Int32) (x2 : Int32) (x3 : Int32) (x4 : Int32) : Option (MdlS) := (f_X9_countHit μ x1 0).bind fun r1 => if x4 = 0 then (f_X9_move N r1 x2 1).bind fun r4 => f_X9_access_b77 N r4 x1 x2 x3 else f_X9_access_b77 N r1 x1 x2 x3
set_option maxHeartbeats 4000000 in
set_option maxRecDepth 100000 in
theorem w_X9_access_b37 {p : Program} {l : Launch} {e : Env} {s : State} {m : MethodId} {args : Array Value} {below : List Frame} {meth : Method} {c : Code} {G : va_G} {cA : Nat → ClassId} (C0 : cB p s m args meth c RX9 cX9_access 8 none G cA) {lo : Nat} {ad : Nat → Nat} {P : MdlS → Heap → Prop} (hC : cx G lo 9 ad (ceModel cA ad) P) {N : Nat} {res : MdlS} : ∀ (μ : MdlS) (x1 : Int32) (x2 : Int32) (x3 : Int32) (x4 : Int32) (H : Heap) (locs : List Loc) (ls : Array Slot), f_X9_access_b37 N μ x1 x2 x3 x4 = some res → P μ H → (∀ q ∈ locs, lo ≤ q.base) → lv_has ls 8 [(0, .ref (ad 0)), (1, .int x1), (2, .int x2), (3, .int x3), (4, .int x4)] → W p l e rm_X9_access s m args below meth c H locs 0 0 (MQ below (cQ none (P res)) args s 0 0 (fun q => lo ≤ q)) (F0 m 37 ls []) := by
  obtain ⟨⟨hx, hb, hml, hown, hts⟩, hr, hlocks, hK⟩ := id C0
  intro μ x1 x2 x3 x4 H locs ls hf hP hL hl
  unfold f_X9_access_b37 at hf
  refine lv_aload_n hx hb dX9_access_37 rfl (lv_at hl 0 rfl) ?_
  refine lv_iload_n hx hb dX9_access_38 rfl (lv_at hl 1 rfl) ?_
  refine lv_iconst (v := 0) hx hb dX9_access_39 (by decide) ?_
  obtain ⟨r1, q2, hf⟩ := cx_b hf
  refine cx_callV (As := [.int x1, .int 0]) (rest := []) ⟨hx, hb, hml, hown, hts⟩ (c_X9_countHit hC q2) (cwV 2 hts (gV mw_643 mw_644 mw_645 mw_5 mw_646) rfl rfl rfl hd_X9_countHit ⟨Nat.le_of_ble_eq_true rfl, Nat.le_of_ble_eq_true rfl⟩) hK hP rfl (at_Model hC hP) rfl hl.1 rfl (Nat.le_of_ble_eq_true rfl) dX9_access_40 ⟨Nat.zero_le _, Nat.zero_le _⟩ hL (fun H locs hP hL => ?_)
  replace hP : P r1 H := by first | exact hP | (simpa only [va_up_id] using hP)
  refine lv_iload hx hb dX9_access_43 (lv_at hl 4 rfl) ?_
  refine lv_if_ne (tgt := 77) hx hb dX9_access_45 (by decide) (fun c3 => ?_) (fun c3 => ?_)
  · have hf := cx_f hf c3
    exact w_X9_access_b77 C0 hC r1 x1 x2 x3 _ _ _ hf hP hL (lv_sub hl [0, 1, 2, 3] rfl)
  · have hf := cx_t hf c3
    refine lv_aload_n hx hb dX9_access_48 rfl (lv_at hl 0 rfl) ?_
    refine lv_iload_n hx hb dX9_access_49 rfl (lv_at hl 2 rfl) ?_
    refine lv_iconst (v := 1) hx hb dX9_access_50 (by decide) ?_
    obtain ⟨r4, q5, hf⟩ := cx_b hf
    refine cx_callV (As := [.int x2, .int 1]) (rest := []) ⟨hx, hb, hml, hown, hts⟩ (c_X9_move hC q5) (cwV 2 hts (gV mw_647 mw_648 mw_649 mw_5 mw_650) rfl rfl rfl hd_X9_move ⟨Nat.le_of_ble_eq_true rfl, Nat.le_of_ble_eq_true rfl⟩) hK hP rfl (at_Model hC hP) rfl hl.1 rfl (Nat.le_of_ble_eq_true rfl) dX9_access_51 ⟨Nat.zero_le _, Nat.zero_le _⟩ hL (fun H locs hP hL => ?_)
    replace hP : P r4 H := by first | exact hP | (simpa only [va_up_id] using hP)
    refine lv_goto (tgt := 77) hx hb dX9_access_54 (by decide) ?_
    exact w_X9_access_b77 C0 hC r4 x1 x2 x3 _ _ _ hf hP hL (lv_sub hl [0, 1, 2, 3] rfl)
def f_X9_access (N : Nat) (μ : MdlS) (p0 : Int32) (p1 : Int32) (p2 : Int32) : Option (MdlS) := gd 5 1384 (gd 5 1384 (cx_let ((oA μ.1 0 (Int32.toNatClampNeg 5) ((μ.1.1 0 (Int32.toNatClampNeg 5)) + 1), μ.2)) fun z3 => (f_X9_isScan z3 p0 p1).bind fun r4 => (f_X9_of r4.2 p1 0).bind fun r6 => if r6 = 0 then f_X9_access_b37 N r4.2 p0 p1 p2 r4.1 else if r6 = 1 then f_X9_access_b37 N r4.2 p0 p1 p2 r4.1 else if r4.1 = 0 then (f_X9_come N r4.2 p0 p1).bind fun r11 => f_X9_access_b77 N r11 p0 p1 p2 else (f_X9_scan N r4.2 p0 p1).bind fun r13 => f_X9_access_b77 N r13 p0 p1 p2))
set_option maxHeartbeats 4000000 in
set_option maxRecDepth 100000 in
theorem c_X9_access {l : Launch} {G : va_G} {cA : Nat → ClassId} {lo : Nat} {ad : Nat → Nat} {P : MdlS → Heap → Prop} (hC : cx G lo 9 ad (ceModel cA ad) P) {N : Nat} {μ : MdlS} {p0 : Int32} {p1 : Int32} {p2 : Int32} {res : MdlS} (hf : f_X9_access N μ p0 p1 p2 = some res) : Met l yX9_access (cW yX9_access cX9_access 8 none) rm_X9_access (cP [.ref (ad 0), .int p0, .int p1, .int p2] (P μ) G cA) (cQ none (P res)) 0 0 (fun q => lo ≤ q) := by
  refine cx_met (by decide) (Nat.le_of_ble_eq_true rfl) (fun p e s m args below meth c ls C0 hP hl => ?_)
  have hl : lv_has ls 8 [(0, .ref (ad 0)), (1, .int p0), (2, .int p1), (3, .int p2)] := hl
  obtain ⟨⟨hx, hb, hml, hown, hts⟩, hr, hlocks, hK⟩ := id C0
  have hL : ∀ q ∈ ([] : List Loc), lo ≤ q.base := fun q h => nomatch h
  unfold f_X9_access at hf
  refine lv_aload_n hx hb dX9_access_0 rfl (lv_at hl 0 rfl) ?_
  refine g_Model_0 hC hP hx hb hts hown hK mw_114 dX9_access_1 ?_
  refine lv_iconst (v := 5) hx hb dX9_access_4 (by decide) ?_
  refine lv_dup2_11 hx hb dX9_access_5 rfl rfl ?_
  obtain ⟨hi1, hf⟩ := gdE hf
  refine ga_Model_0 hC hP hx hb hK hi1 dX9_access_6 ?_
  refine lv_iconst (v := 1) hx hb dX9_access_7 (by decide) ?_
  refine lv_iadd hx hb dX9_access_8 ?_
  obtain ⟨hi2, hf⟩ := gdE hf
  obtain ⟨z3, ez3, hf⟩ := cx_letE hf
  refine pa_Model_0 hC hP hx hb hK hi2 dX9_access_9 hL (fun H locs hP hL => ?_)
  replace hP : P z3 H := by rw [← ez3]; exact hP
  refine lv_aload_n hx hb dX9_access_10 rfl (lv_at hl 0 rfl) ?_
  refine lv_iload_n hx hb dX9_access_11 rfl (lv_at hl 1 rfl) ?_
  refine lv_iload_n hx hb dX9_access_12 rfl (lv_at hl 2 rfl) ?_
  obtain ⟨r4, q5, hf⟩ := cx_b hf
  refine cx_callV (As := [.int p0, .int p1]) (rest := []) ⟨hx, hb, hml, hown, hts⟩ (c_X9_isScan hC q5) (cwV 2 hts (gV mw_631 mw_632 mw_633 mw_5 mw_634) rfl rfl rfl hd_X9_isScan ⟨Nat.le_of_ble_eq_true rfl, Nat.le_of_ble_eq_true rfl⟩) hK hP rfl (at_Model hC hP) rfl hl.1 rfl (Nat.le_of_ble_eq_true rfl) dX9_access_13 ⟨Nat.zero_le _, Nat.zero_le _⟩ hL (fun H locs hP hL => ?_)
  replace hP : P r4.2 H := by first | exact hP | (simpa only [va_up_id] using hP)
  refine lv_istore (lv' := [(4, .int r4.1), (0, .ref (ad 0)), (1, .int p0), (2, .int p1), (3, .int p2)]) hx hb dX9_access_16 hl (by decide) rfl (fun ls hl => ?_)
  refine lv_aload_n hx hb dX9_access_18 rfl (lv_at hl 1 rfl) ?_
  refine lv_iload_n hx hb dX9_access_19 rfl (lv_at hl 3 rfl) ?_
  refine lv_iconst (v := 0) hx hb dX9_access_20 (by decide) ?_
  obtain ⟨r6, q7, hf⟩ := cx_b hf
  refine cx_callV (As := [.int p1, .int 0]) (rest := []) ⟨hx, hb, hml, hown, hts⟩ (c_X9_of hC q7) (cwV 2 hts (gV mw_618 mw_619 mw_620 mw_5 mw_621) rfl rfl rfl hd_X9_of ⟨Nat.le_of_ble_eq_true rfl, Nat.le_of_ble_eq_true rfl⟩) hK hP rfl (at_Model hC hP) rfl hl.1 rfl (Nat.le_of_ble_eq_true rfl) dX9_access_21 ⟨Nat.zero_le _, Nat.zero_le _⟩ hL (fun H locs hP hL => ?_)
  replace hP : P r4.2 H := by first | exact hP | (simpa only [va_up_id] using hP)
  refine lv_istore (lv' := [(5, .int r6), (4, .int r4.1), (0, .ref (ad 0)), (1, .int p0), (2, .int p1), (3, .int p2)]) hx hb dX9_access_24 hl (by decide) rfl (fun ls hl => ?_)
  refine lv_iload hx hb dX9_access_26 (lv_at hl 0 rfl) ?_
  refine lv_if_eq (tgt := 37) hx hb dX9_access_28 (by decide) (fun c8 => ?_) (fun c8 => ?_)
  · have hf := cx_t hf c8
    exact w_X9_access_b37 C0 hC r4.2 p0 p1 p2 r4.1 _ _ _ hf hP hL (lv_sub hl [2, 3, 4, 5, 1] rfl)
  · have hf := cx_f hf c8
    refine lv_iload hx hb dX9_access_31 (lv_at hl 0 rfl) ?_
    refine lv_iconst (v := 1) hx hb dX9_access_33 (by decide) ?_
    refine lv_icmp_ne (tgt := 57) hx hb dX9_access_34 (by decide) (fun c9 => ?_) (fun c9 => ?_)
    · have hf := cx_f hf c9
      refine lv_iload hx hb dX9_access_57 (lv_at hl 1 rfl) ?_
      refine lv_if_eq (tgt := 71) hx hb dX9_access_59 (by decide) (fun c10 => ?_) (fun c10 => ?_)
      · have hf := cx_t hf c10
        refine lv_aload_n hx hb dX9_access_71 rfl (lv_at hl 2 rfl) ?_
        refine lv_iload_n hx hb dX9_access_72 rfl (lv_at hl 3 rfl) ?_
        refine lv_iload_n hx hb dX9_access_73 rfl (lv_at hl 4 rfl) ?_
        obtain ⟨r11, q12, hf⟩ := cx_b hf
        refine cx_callV (As := [.int p0, .int p1]) (rest := []) ⟨hx, hb, hml, hown, hts⟩ (c_X9_come hC q12) (cwV 2 hts (gV mw_688 mw_689 mw_690 mw_5 mw_691) rfl rfl rfl hd_X9_come ⟨Nat.le_of_ble_eq_true rfl, Nat.le_of_ble_eq_true rfl⟩) hK hP rfl (at_Model hC hP) rfl hl.1 rfl (Nat.le_of_ble_eq_true rfl) dX9_access_74 ⟨Nat.zero_le _, Nat.zero_le _⟩ hL (fun H locs hP hL => ?_)
        replace hP : P r11 H := by first | exact hP | (simpa only [va_up_id] using hP)
        exact w_X9_access_b77 C0 hC r11 p0 p1 p2 _ _ _ hf hP hL (lv_sub hl [2, 3, 4, 5] rfl)
      · have hf := cx_f hf c10
        refine lv_aload_n hx hb dX9_access_62 rfl (lv_at hl 2 rfl) ?_
        refine lv_iload_n hx hb dX9_access_63 rfl (lv_at hl 3 rfl) ?_
        refine lv_iload_n hx hb dX9_access_64 rfl (lv_at hl 4 rfl) ?_
        obtain ⟨r13, q14, hf⟩ := cx_b hf
        refine cx_callV (As := [.int p0, .int p1]) (rest := []) ⟨hx, hb, hml, hown, hts⟩ (c_X9_scan hC q14) (cwV 2 hts (gV mw_671 mw_672 mw_673 mw_5 mw_674) rfl rfl rfl hd_X9_scan ⟨Nat.le_of_ble_eq_true rfl, Nat.le_of_ble_eq_true rfl⟩) hK hP rfl (at_Model hC hP) rfl hl.1 rfl (Nat.le_of_ble_eq_true rfl) dX9_access_65 ⟨Nat.zero_le _, Nat.zero_le _⟩ hL (fun H locs hP hL => ?_)
        replace hP : P r13 H := by first | exact hP | (simpa only [va_up_id] using hP)
        refine lv_goto (tgt := 77) hx hb dX9_access_68 (by decide) ?_
        exact w_X9_access_b77 C0 hC r13 p0 p1 p2 _ _ _ hf hP hL (lv_sub hl [2, 3, 4, 5] rfl)
    · have hf := cx_t hf c9
      exact w_X9_access_b37 C0 hC r4.2 p0 p1 p2 r4.1 _ _ _ hf hP hL (lv_sub hl [2, 3, 4, 5, 1] rfl)
abbrev rm_X9_runCommand : Room := { frames := 8, cells := 0, slots := 0, locals := 185 }
theorem hd_X9_runCommand : yX9_runCommand.cls = RX9 ∧ yX9_runCommand.cls ≠ "java/lang/invoke/MethodHandle" ∧ yX9_runCommand.cls ≠ "java/lang/invoke/VarHandle" ∧ (parseMethodDescriptor yX9_runCommand.desc).map (fun d => d.parameters.length) = some 1 := by decide +kernel
def f_X9_runCommand_b74 (N : Nat) : Nat → MdlS → Int32 → Int32 → Option (Int32 × MdlS)
  | 0, _, _, _ => none
  | n + 1, μ, x1, x2 => gd (x1 + 3) 160 (if (μ.1.1 8 (Int32.toNatClampNeg (x1 + 3))) < x2 then gd (x1 + 3) 160 (gd (x1 + 2) 160 (some ((((μ.1.1 8 (Int32.toNatClampNeg (x1 + 3))) - (μ.1.1 8 (Int32.toNatClampNeg (x1 + 2)))) + 1), μ))) else gd (x1 + 1) 160 ((f_X9_access N μ (μ.1.1 8 (Int32.toNatClampNeg (x1 + 1))) x2 (-1)).bind fun r6 => f_X9_runCommand_b74 N n r6 x1 (x2 + 1)))
set_option maxHeartbeats 4000000 in
set_option maxRecDepth 100000 in
theorem w_X9_runCommand_b74 {p : Program} {l : Launch} {e : Env} {s : State} {m : MethodId} {args : Array Value} {below : List Frame} {meth : Method} {c : Code} {G : va_G} {cA : Nat → ClassId} (C0 : cB p s m args meth c RX9 cX9_runCommand 3 (some .int) G cA) {lo : Nat} {ad : Nat → Nat} {P : MdlS → Heap → Prop} (hC : cx G lo 9 ad (ceModel cA ad) P) {N : Nat} {res : Int32 × MdlS} : ∀ (n : Nat) (μ : MdlS) (x1 : Int32) (x2 : Int32) (H : Heap) (locs : List Loc) (ls : Array Slot), f_X9_runCommand_b74 N n μ x1 x2 = some res → P μ H → (∀ q ∈ locs, lo ≤ q.base) → lv_has ls 3 [(0, .ref (ad 0)), (1, .int x1), (2, .int x2)] → W p l e rm_X9_runCommand s m args below meth c H locs 0 0 (MQ below (cQ (some (.int res.1)) (P res.2)) args s 0 0 (fun q => lo ≤ q)) (F0 m 74 ls []) := by
  obtain ⟨⟨hx, hb, hml, hown, hts⟩, hr, hlocks, hK⟩ := id C0
  intro n
  induction n with
  | zero => intro μ x1 x2 H locs ls
            exact fun hf => nomatch hf
  | succ n ih =>
    intro μ x1 x2 H locs ls hf hP hL hl
    rw [f_X9_runCommand_b74] at hf
    refine lv_iload_n hx hb dX9_runCommand_74 rfl (lv_at hl 2 rfl) ?_
    refine lv_aload_n hx hb dX9_runCommand_75 rfl (lv_at hl 0 rfl) ?_
    refine g_Model_8 hC hP hx hb hts hown hK mw_121 dX9_runCommand_76 ?_
    refine lv_iload_n hx hb dX9_runCommand_79 rfl (lv_at hl 1 rfl) ?_
    refine lv_iconst (v := 3) hx hb dX9_runCommand_80 (by decide) ?_
    refine lv_iadd hx hb dX9_runCommand_81 ?_
    obtain ⟨hi1, hf⟩ := gdE hf
    refine ga_Model_8 hC hP hx hb hK hi1 dX9_runCommand_82 ?_
    refine lv_icmp_gt (tgt := 106) hx hb dX9_runCommand_83 (by decide) (fun c2 => ?_) (fun c2 => ?_)
    · have hf := cx_t hf c2
      refine lv_aload_n hx hb dX9_runCommand_106 rfl (lv_at hl 0 rfl) ?_
      refine g_Model_8 hC hP hx hb hts hown hK mw_121 dX9_runCommand_107 ?_
      refine lv_iload_n hx hb dX9_runCommand_110 rfl (lv_at hl 1 rfl) ?_
      refine lv_iconst (v := 3) hx hb dX9_runCommand_111 (by decide) ?_
      refine lv_iadd hx hb dX9_runCommand_112 ?_
      obtain ⟨hi3, hf⟩ := gdE hf
      refine ga_Model_8 hC hP hx hb hK hi3 dX9_runCommand_113 ?_
      refine lv_aload_n hx hb dX9_runCommand_114 rfl (lv_at hl 0 rfl) ?_
      refine g_Model_8 hC hP hx hb hts hown hK mw_121 dX9_runCommand_115 ?_
      refine lv_iload_n hx hb dX9_runCommand_118 rfl (lv_at hl 1 rfl) ?_
      refine lv_iconst (v := 2) hx hb dX9_runCommand_119 (by decide) ?_
      refine lv_iadd hx hb dX9_runCommand_120 ?_
      obtain ⟨hi4, hf⟩ := gdE hf
      refine ga_Model_8 hC hP hx hb hK hi4 dX9_runCommand_121 ?_
      refine lv_isub hx hb dX9_runCommand_122 ?_
      refine lv_iconst (v := 1) hx hb dX9_runCommand_123 (by decide) ?_
      refine lv_iadd hx hb dX9_runCommand_124 ?_
      cases hf
      exact cx_iret hx hb hr hlocks hP hL dX9_runCommand_125
    · have hf := cx_f hf c2
      refine lv_aload_n hx hb dX9_runCommand_86 rfl (lv_at hl 0 rfl) ?_
      refine lv_aload_n hx hb dX9_runCommand_87 rfl (lv_at hl 0 rfl) ?_
      refine g_Model_8 hC hP hx hb hts hown hK mw_121 dX9_runCommand_88 ?_
      refine lv_iload_n hx hb dX9_runCommand_91 rfl (lv_at hl 1 rfl) ?_
      refine lv_iconst (v := 1) hx hb dX9_runCommand_92 (by decide) ?_
      refine lv_iadd hx hb dX9_runCommand_93 ?_
      obtain ⟨hi5, hf⟩ := gdE hf
      refine ga_Model_8 hC hP hx hb hK hi5 dX9_runCommand_94 ?_
      refine lv_iload_n hx hb dX9_runCommand_95 rfl (lv_at hl 2 rfl) ?_
      refine lv_iconst (v := (-1)) hx hb dX9_runCommand_96 (by decide) ?_
      obtain ⟨r6, q7, hf⟩ := cx_b hf
      refine cx_callV (As := [.int (μ.1.1 8 (Int32.toNatClampNeg (x1 + 1))), .int x2, .int (-1)]) (rest := []) ⟨hx, hb, hml, hown, hts⟩ (c_X9_access hC q7) (cwV 3 hts (gV mw_626 mw_627 mw_628 mw_5 mw_629) rfl rfl rfl hd_X9_access ⟨Nat.le_of_ble_eq_true rfl, Nat.le_of_ble_eq_true rfl⟩) hK hP rfl (at_Model hC hP) rfl hl.1 rfl (Nat.le_of_ble_eq_true rfl) dX9_runCommand_97 ⟨Nat.zero_le _, Nat.zero_le _⟩ hL (fun H locs hP hL => ?_)
      replace hP : P r6 H := by first | exact hP | (simpa only [va_up_id] using hP)
      refine lv_iinc (v := (x2 + 1)) (lv' := [(2, .int (x2 + 1)), (0, .ref (ad 0)), (1, .int x1)]) hx hb dX9_runCommand_100 hl (k := 2) rfl rfl (by decide) rfl (fun ls hl => ?_)
      refine lv_goto (tgt := 74) hx hb dX9_runCommand_103 (by decide) ?_
      exact ih r6 x1 (x2 + 1) _ _ _ hf hP hL (lv_sub hl [1, 2, 0] rfl)
def f_X9_runCommand (N : Nat) (μ : MdlS) (p0 : Int32) : Option (Int32 × MdlS) := gd p0 160 (if (μ.1.1 8 (Int32.toNatClampNeg p0)) = 2 then gd (p0 + 1) 160 ((f_X9_writeBack N μ (μ.1.1 8 (Int32.toNatClampNeg (p0 + 1)))).bind fun r12 => some (0, r12.2)) else gd p0 160 (if (μ.1.1 8 (Int32.toNatClampNeg p0)) = 1 then gd (p0 + 1) 160 (gd (p0 + 2) 160 (gd (p0 + 3) 160 ((f_X9_access N μ (μ.1.1 8 (Int32.toNatClampNeg (p0 + 1))) (μ.1.1 8 (Int32.toNatClampNeg (p0 + 2))) (μ.1.1 8 (Int32.toNatClampNeg (p0 + 3)))).bind fun r9 => some (1, r9)))) else gd (p0 + 2) 160 (f_X9_runCommand_b74 N N μ p0 (μ.1.1 8 (Int32.toNatClampNeg (p0 + 2))))))
set_option maxHeartbeats 4000000 in
set_option maxRecDepth 100000 in
theorem c_X9_runCommand {l : Launch} {G : va_G} {cA : Nat → ClassId} {lo : Nat} {ad : Nat → Nat} {P : MdlS → Heap → Prop} (hC : cx G lo 9 ad (ceModel cA ad) P) {N : Nat} {μ : MdlS} {p0 : Int32} {res : Int32 × MdlS} (hf : f_X9_runCommand N μ p0 = some res) : Met l yX9_runCommand (cW yX9_runCommand cX9_runCommand 3 (some .int)) rm_X9_runCommand (cP [.ref (ad 0), .int p0] (P μ) G cA) (cQ (some (.int res.1)) (P res.2)) 0 0 (fun q => lo ≤ q) := by
  refine cx_met (by decide) (Nat.le_of_ble_eq_true rfl) (fun p e s m args below meth c ls C0 hP hl => ?_)
  have hl : lv_has ls 3 [(0, .ref (ad 0)), (1, .int p0)] := hl
  obtain ⟨⟨hx, hb, hml, hown, hts⟩, hr, hlocks, hK⟩ := id C0
  have hL : ∀ q ∈ ([] : List Loc), lo ≤ q.base := fun q h => nomatch h
  unfold f_X9_runCommand at hf
  refine lv_aload_n hx hb dX9_runCommand_0 rfl (lv_at hl 0 rfl) ?_
  refine g_Model_8 hC hP hx hb hts hown hK mw_121 dX9_runCommand_1 ?_
  refine lv_iload_n hx hb dX9_runCommand_4 rfl (lv_at hl 1 rfl) ?_
  obtain ⟨hi1, hf⟩ := gdE hf
  refine ga_Model_8 hC hP hx hb hK hi1 dX9_runCommand_5 ?_
  refine lv_iconst (v := 2) hx hb dX9_runCommand_6 (by decide) ?_
  refine lv_icmp_ne (tgt := 25) hx hb dX9_runCommand_7 (by decide) (fun c2 => ?_) (fun c2 => ?_)
  · have hf := cx_f hf c2
    refine lv_aload_n hx hb dX9_runCommand_25 rfl (lv_at hl 0 rfl) ?_
    refine g_Model_8 hC hP hx hb hts hown hK mw_121 dX9_runCommand_26 ?_
    refine lv_iload_n hx hb dX9_runCommand_29 rfl (lv_at hl 1 rfl) ?_
    obtain ⟨hi3, hf⟩ := gdE hf
    refine ga_Model_8 hC hP hx hb hK hi3 dX9_runCommand_30 ?_
    refine lv_iconst (v := 1) hx hb dX9_runCommand_31 (by decide) ?_
    refine lv_icmp_ne (tgt := 65) hx hb dX9_runCommand_32 (by decide) (fun c4 => ?_) (fun c4 => ?_)
    · have hf := cx_f hf c4
      refine lv_aload_n hx hb dX9_runCommand_65 rfl (lv_at hl 0 rfl) ?_
      refine g_Model_8 hC hP hx hb hts hown hK mw_121 dX9_runCommand_66 ?_
      refine lv_iload_n hx hb dX9_runCommand_69 rfl (lv_at hl 1 rfl) ?_
      refine lv_iconst (v := 2) hx hb dX9_runCommand_70 (by decide) ?_
      refine lv_iadd hx hb dX9_runCommand_71 ?_
      obtain ⟨hi5, hf⟩ := gdE hf
      refine ga_Model_8 hC hP hx hb hK hi5 dX9_runCommand_72 ?_
      refine lv_istore_n (lv' := [(2, .int (μ.1.1 8 (Int32.toNatClampNeg (p0 + 2)))), (0, .ref (ad 0)), (1, .int p0)]) hx hb dX9_runCommand_73 rfl hl (by decide) rfl (fun ls hl => ?_)
      exact w_X9_runCommand_b74 C0 hC N μ p0 (μ.1.1 8 (Int32.toNatClampNeg (p0 + 2))) _ _ _ hf hP hL (lv_sub hl [1, 2, 0] rfl)
    · have hf := cx_t hf c4
      refine lv_aload_n hx hb dX9_runCommand_35 rfl (lv_at hl 0 rfl) ?_
      refine lv_aload_n hx hb dX9_runCommand_36 rfl (lv_at hl 0 rfl) ?_
      refine g_Model_8 hC hP hx hb hts hown hK mw_121 dX9_runCommand_37 ?_
      refine lv_iload_n hx hb dX9_runCommand_40 rfl (lv_at hl 1 rfl) ?_
      refine lv_iconst (v := 1) hx hb dX9_runCommand_41 (by decide) ?_
      refine lv_iadd hx hb dX9_runCommand_42 ?_
      obtain ⟨hi6, hf⟩ := gdE hf
      refine ga_Model_8 hC hP hx hb hK hi6 dX9_runCommand_43 ?_
      refine lv_aload_n hx hb dX9_runCommand_44 rfl (lv_at hl 0 rfl) ?_
      refine g_Model_8 hC hP hx hb hts hown hK mw_121 dX9_runCommand_45 ?_
      refine lv_iload_n hx hb dX9_runCommand_48 rfl (lv_at hl 1 rfl) ?_
      refine lv_iconst (v := 2) hx hb dX9_runCommand_49 (by decide) ?_
      refine lv_iadd hx hb dX9_runCommand_50 ?_
      obtain ⟨hi7, hf⟩ := gdE hf
      refine ga_Model_8 hC hP hx hb hK hi7 dX9_runCommand_51 ?_
      refine lv_aload_n hx hb dX9_runCommand_52 rfl (lv_at hl 0 rfl) ?_
      refine g_Model_8 hC hP hx hb hts hown hK mw_121 dX9_runCommand_53 ?_
      refine lv_iload_n hx hb dX9_runCommand_56 rfl (lv_at hl 1 rfl) ?_
      refine lv_iconst (v := 3) hx hb dX9_runCommand_57 (by decide) ?_
      refine lv_iadd hx hb dX9_runCommand_58 ?_
      obtain ⟨hi8, hf⟩ := gdE hf
      refine ga_Model_8 hC hP hx hb hK hi8 dX9_runCommand_59 ?_
      obtain ⟨r9, q10, hf⟩ := cx_b hf
      refine cx_callV (As := [.int (μ.1.1 8 (Int32.toNatClampNeg (p0 + 1))), .int (μ.1.1 8 (Int32.toNatClampNeg (p0 + 2))), .int (μ.1.1 8 (Int32.toNatClampNeg (p0 + 3)))]) (rest := []) ⟨hx, hb, hml, hown, hts⟩ (c_X9_access hC q10) (cwV 3 hts (gV mw_626 mw_627 mw_628 mw_5 mw_629) rfl rfl rfl hd_X9_access ⟨Nat.le_of_ble_eq_true rfl, Nat.le_of_ble_eq_true rfl⟩) hK hP rfl (at_Model hC hP) rfl hl.1 rfl (Nat.le_of_ble_eq_true rfl) dX9_runCommand_60 ⟨Nat.zero_le _, Nat.zero_le _⟩ hL (fun H locs hP hL => ?_)
      replace hP : P r9 H := by first | exact hP | (simpa only [va_up_id] using hP)
      refine lv_iconst (v := 1) hx hb dX9_runCommand_63 (by decide) ?_
      cases hf
      exact cx_iret hx hb hr hlocks hP hL dX9_runCommand_64
  · have hf := cx_t hf c2
    refine lv_aload_n hx hb dX9_runCommand_10 rfl (lv_at hl 0 rfl) ?_
    refine lv_aload_n hx hb dX9_runCommand_11 rfl (lv_at hl 0 rfl) ?_
    refine g_Model_8 hC hP hx hb hts hown hK mw_121 dX9_runCommand_12 ?_
    refine lv_iload_n hx hb dX9_runCommand_15 rfl (lv_at hl 1 rfl) ?_
    refine lv_iconst (v := 1) hx hb dX9_runCommand_16 (by decide) ?_
    refine lv_iadd hx hb dX9_runCommand_17 ?_
    obtain ⟨hi11, hf⟩ := gdE hf
    refine ga_Model_8 hC hP hx hb hK hi11 dX9_runCommand_18 ?_
    obtain ⟨r12, q13, hf⟩ := cx_b hf
    refine cx_callV (As := [.int (μ.1.1 8 (Int32.toNatClampNeg (p0 + 1)))]) (rest := []) ⟨hx, hb, hml, hown, hts⟩ (c_X9_writeBack hC q13) (cwV 1 hts (gV mw_606 mw_607 mw_608 mw_5 mw_609) rfl rfl rfl hd_X9_writeBack ⟨Nat.le_of_ble_eq_true rfl, Nat.le_of_ble_eq_true rfl⟩) hK hP rfl (at_Model hC hP) rfl hl.1 rfl (Nat.le_of_ble_eq_true rfl) dX9_runCommand_19 ⟨Nat.zero_le _, Nat.zero_le _⟩ hL (fun H locs hP hL => ?_)
    replace hP : P r12.2 H := by first | exact hP | (simpa only [va_up_id] using hP)
    refine lv_istore_n (lv' := [(2, .int r12.1), (0, .ref (ad 0)), (1, .int p0)]) hx hb dX9_runCommand_22 rfl hl (by decide) rfl (fun ls hl => ?_)
    refine lv_iconst (v := 0) hx hb dX9_runCommand_23 (by decide) ?_
    cases hf
    exact cx_iret hx hb hr hlocks hP hL dX9_runCommand_24
abbrev rm_X9_runTrace : Room := { frames := 9, cells := 0, slots := 0, locals := 207 }
theorem hd_X9_runTrace : yX9_runTrace.cls = RX9 ∧ yX9_runTrace.cls ≠ "java/lang/invoke/MethodHandle" ∧ yX9_runTrace.cls ≠ "java/lang/invoke/VarHandle" ∧ (parseMethodDescriptor yX9_runTrace.desc).map (fun d => d.parameters.length) = some 0 := by decide +kernel
def f_X9_runTrace_b111 (N : Nat) (k72 : MdlS → Int32 → Int32 → Option (Int32 × MdlS)) (μ : MdlS) (x1 : Int32) (x2 : Int32) (x3 : Int32) : Option (Int32 × MdlS) := (f_X9_runCommand N μ x3).bind fun r1 => k72 r1.2 (x1 + r1.1) (x2 + 1)
set_option maxHeartbeats 4000000 in
set_option maxRecDepth 100000 in
theorem w_X9_runTrace_b111 {p : Program} {l : Launch} {e : Env} {s : State} {m : MethodId} {args : Array Value} {below : List Frame} {meth : Method} {c : Code} {G : va_G} {cA : Nat → ClassId} (C0 : cB p s m args meth c RX9 cX9_runTrace 4 (some .int) G cA) {lo : Nat} {z : ZS} (hZ : Zt lo z s) {ad : Nat → Nat} {P : MdlS → Heap → Prop} (hC : cx G lo 9 ad (ceModel cA ad) P) {N : Nat} {res : Int32 × MdlS} {k72 : MdlS → Int32 → Int32 → Option (Int32 × MdlS)} (hk72 : ∀ (μ : MdlS) (x1 : Int32) (x2 : Int32) (H : Heap) (locs : List Loc) (ls : Array Slot), k72 μ x1 x2 = some res → P μ H → (∀ q ∈ locs, lo ≤ q.base) → lv_has ls 4 [(0, .ref (ad 0)), (1, .int x1), (2, .int x2)] → W p l e rm_X9_runTrace s m args below meth c H locs 0 0 (MQ below (cQ (some (.int res.1)) (P res.2)) args s 0 0 (fun q => lo ≤ q)) (F0 m 72 ls [])) : ∀ (μ : MdlS) (x1 : Int32) (x2 : Int32) (x3 : Int32) (H : Heap) (locs : List Loc) (ls : Array Slot), f_X9_runTrace_b111 N k72 μ x1 x2 x3 = some res → P μ H → (∀ q ∈ locs, lo ≤ q.base) → lv_has ls 4 [(0, .ref (ad 0)), (1, .int x1), (2, .int x2), (3, .int x3)] → W p l e rm_X9_runTrace s m args below meth c H locs 0 0 (MQ below (cQ (some (.int res.1)) (P res.2)) args s 0 0 (fun q => lo ≤ q)) (F0 m 111 ls []) := by
  obtain ⟨⟨hx, hb, hml, hown, hts⟩, hr, hlocks, hK⟩ := id C0
  intro μ x1 x2 x3 H locs ls hf hP hL hl
  unfold f_X9_runTrace_b111 at hf
  refine lv_iload_n hx hb dX9_runTrace_111 rfl (lv_at hl 1 rfl) ?_
  refine lv_aload_n hx hb dX9_runTrace_112 rfl (lv_at hl 0 rfl) ?_
  refine lv_iload_n hx hb dX9_runTrace_113 rfl (lv_at hl 3 rfl) ?_
  obtain ⟨r1, q2, hf⟩ := cx_b hf
  refine cx_callV (As := [.int x3]) (rest := [.int x1]) ⟨hx, hb, hml, hown, hts⟩ (c_X9_runCommand hC q2) (cwV 1 hts (gV mw_602 mw_603 mw_604 mw_5 mw_605) rfl rfl rfl hd_X9_runCommand ⟨Nat.le_of_ble_eq_true rfl, Nat.le_of_ble_eq_true rfl⟩) hK hP rfl (at_Model hC hP) rfl hl.1 rfl (Nat.le_of_ble_eq_true rfl) dX9_runTrace_114 ⟨Nat.zero_le _, Nat.zero_le _⟩ hL (fun H locs hP hL => ?_)
  replace hP : P r1.2 H := by first | exact hP | (simpa only [va_up_id] using hP)
  refine lv_iadd hx hb dX9_runTrace_117 ?_
  refine lv_istore_n (lv' := [(1, .int (x1 + r1.1)), (0, .ref (ad 0)), (2, .int x2), (3, .int x3)]) hx hb dX9_runTrace_118 rfl hl (by decide) rfl (fun ls hl => ?_)
  refine lv_iinc (v := (x2 + 1)) (lv' := [(2, .int (x2 + 1)), (1, .int (x1 + r1.1)), (0, .ref (ad 0)), (3, .int x3)]) hx hb dX9_runTrace_119 hl (k := 2) rfl rfl (by decide) rfl (fun ls hl => ?_)
  refine lv_goto (tgt := 72) hx hb dX9_runTrace_122 (by decide) ?_
  exact hk72 r1.2 (x1 + r1.1) (x2 + 1) _ _ _ hf hP hL (lv_sub hl [2, 1, 0] rfl)
def f_X9_runTrace_b72 (N : Nat) : Nat → MdlS → Int32 → Int32 → Option (Int32 × MdlS)
  | 0, _, _, _ => none
  | n + 1, μ, x1, x2 => if μ.1.2 9 ≤ x2 then some (x1, μ) else gd (4 * x2) 160 (if (μ.1.1 8 (Int32.toNatClampNeg (4 * x2))) = 2 then f_X9_runTrace_b111 N (f_X9_runTrace_b72 N n) μ x1 x2 (4 * x2) else gd ((4 * x2) + 1) 160 ((f_X9_isClient μ (μ.1.1 8 (Int32.toNatClampNeg ((4 * x2) + 1)))).bind fun r5 => if r5 = 0 then some (x1, μ) else f_X9_runTrace_b111 N (f_X9_runTrace_b72 N n) μ x1 x2 (4 * x2)))
set_option maxHeartbeats 4000000 in
set_option maxRecDepth 100000 in
theorem w_X9_runTrace_b72 {p : Program} {l : Launch} {e : Env} {s : State} {m : MethodId} {args : Array Value} {below : List Frame} {meth : Method} {c : Code} {G : va_G} {cA : Nat → ClassId} (C0 : cB p s m args meth c RX9 cX9_runTrace 4 (some .int) G cA) {lo : Nat} {z : ZS} (hZ : Zt lo z s) {ad : Nat → Nat} {P : MdlS → Heap → Prop} (hC : cx G lo 9 ad (ceModel cA ad) P) {N : Nat} {res : Int32 × MdlS} : ∀ (n : Nat) (μ : MdlS) (x1 : Int32) (x2 : Int32) (H : Heap) (locs : List Loc) (ls : Array Slot), f_X9_runTrace_b72 N n μ x1 x2 = some res → P μ H → (∀ q ∈ locs, lo ≤ q.base) → lv_has ls 4 [(0, .ref (ad 0)), (1, .int x1), (2, .int x2)] → W p l e rm_X9_runTrace s m args below meth c H locs 0 0 (MQ below (cQ (some (.int res.1)) (P res.2)) args s 0 0 (fun q => lo ≤ q)) (F0 m 72 ls []) := by
  obtain ⟨⟨hx, hb, hml, hown, hts⟩, hr, hlocks, hK⟩ := id C0
  intro n
  induction n with
  | zero => intro μ x1 x2 H locs ls
            exact fun hf => nomatch hf
  | succ n ih =>
    intro μ x1 x2 H locs ls hf hP hL hl
    rw [f_X9_runTrace_b72] at hf
    refine lv_iload_n hx hb dX9_runTrace_72 rfl (lv_at hl 2 rfl) ?_
    refine lv_aload_n hx hb dX9_runTrace_73 rfl (lv_at hl 0 rfl) ?_
    refine g_Model_9 hC hP hx hb hts hown hK mw_537 dX9_runTrace_74 ?_
    refine lv_icmp_ge (tgt := 125) hx hb dX9_runTrace_77 (by decide) (fun c1 => ?_) (fun c1 => ?_)
    · have hf := cx_t hf c1
      refine lv_iload_n hx hb dX9_runTrace_125 rfl (lv_at hl 1 rfl) ?_
      cases hf
      exact cx_iret hx hb hr hlocks hP hL dX9_runTrace_126
    · have hf := cx_f hf c1
      refine lv_iconst (v := 4) hx hb dX9_runTrace_80 (by decide) ?_
      refine lv_iload_n hx hb dX9_runTrace_81 rfl (lv_at hl 2 rfl) ?_
      refine lv_imul hx hb dX9_runTrace_82 ?_
      refine lv_istore_n (lv' := [(3, .int (4 * x2)), (0, .ref (ad 0)), (1, .int x1), (2, .int x2)]) hx hb dX9_runTrace_83 rfl hl (by decide) rfl (fun ls hl => ?_)
      refine lv_aload_n hx hb dX9_runTrace_84 rfl (lv_at hl 1 rfl) ?_
      refine g_Model_8 hC hP hx hb hts hown hK mw_121 dX9_runTrace_85 ?_
      refine lv_iload_n hx hb dX9_runTrace_88 rfl (lv_at hl 0 rfl) ?_
      obtain ⟨hi2, hf⟩ := gdE hf
      refine ga_Model_8 hC hP hx hb hK hi2 dX9_runTrace_89 ?_
      refine lv_iconst (v := 2) hx hb dX9_runTrace_90 (by decide) ?_
      refine lv_icmp_eq (tgt := 111) hx hb dX9_runTrace_91 (by decide) (fun c3 => ?_) (fun c3 => ?_)
      · have hf := cx_t hf c3
        exact w_X9_runTrace_b111 C0 hZ hC ih μ x1 x2 (4 * x2) _ _ _ hf hP hL (lv_sub hl [1, 2, 3, 0] rfl)
      · have hf := cx_f hf c3
        refine lv_aload_n hx hb dX9_runTrace_94 rfl (lv_at hl 1 rfl) ?_
        refine lv_aload_n hx hb dX9_runTrace_95 rfl (lv_at hl 1 rfl) ?_
        refine g_Model_8 hC hP hx hb hts hown hK mw_121 dX9_runTrace_96 ?_
        refine lv_iload_n hx hb dX9_runTrace_99 rfl (lv_at hl 0 rfl) ?_
        refine lv_iconst (v := 1) hx hb dX9_runTrace_100 (by decide) ?_
        refine lv_iadd hx hb dX9_runTrace_101 ?_
        obtain ⟨hi4, hf⟩ := gdE hf
        refine ga_Model_8 hC hP hx hb hK hi4 dX9_runTrace_102 ?_
        obtain ⟨r5, q6, hf⟩ := cx_b hf
        refine cx_callV (As := [.int (μ.1.1 8 (Int32.toNatClampNeg ((4 * x2) + 1)))]) (rest := []) ⟨hx, hb, hml, hown, hts⟩ (c_X9_isClient hC q6) (cwV 1 hts (gV mw_598 mw_599 mw_600 mw_5 mw_601) rfl rfl rfl hd_X9_isClient ⟨Nat.le_of_ble_eq_true rfl, Nat.le_of_ble_eq_true rfl⟩) hK hP rfl (at_Model hC hP) rfl hl.1 rfl (Nat.le_of_ble_eq_true rfl) dX9_runTrace_103 ⟨Nat.zero_le _, Nat.zero_le _⟩ hL (fun H locs hP hL => ?_)
        replace hP : P μ H := by first | exact hP | (simpa only [va_up_id] using hP)
        refine lv_if_ne (tgt := 111) hx hb dX9_runTrace_106 (by decide) (fun c7 => ?_) (fun c7 => ?_)
        · have hf := cx_f hf c7
          exact w_X9_runTrace_b111 C0 hZ hC ih μ x1 x2 (4 * x2) _ _ _ hf hP hL (lv_sub hl [1, 2, 3, 0] rfl)
        · have hf := cx_t hf c7
          refine lv_iload_n hx hb dX9_runTrace_109 rfl (lv_at hl 2 rfl) ?_
          cases hf
          exact cx_iret hx hb hr hlocks hP hL dX9_runTrace_110
def f_X9_runTrace_b50 (N : Nat) (μ : MdlS) : Option (Int32 × MdlS) := cx_let ((oI μ.1 10 0, μ.2)) fun z1 => (f_X9_isFine z1).bind fun r2 => if r2 = 0 then some ((-1), z1) else (f_X9_beginAct N z1).bind fun r5 => f_X9_runTrace_b72 N N r5 0 0
set_option maxHeartbeats 4000000 in
set_option maxRecDepth 100000 in
theorem w_X9_runTrace_b50 {p : Program} {l : Launch} {e : Env} {s : State} {m : MethodId} {args : Array Value} {below : List Frame} {meth : Method} {c : Code} {G : va_G} {cA : Nat → ClassId} (C0 : cB p s m args meth c RX9 cX9_runTrace 4 (some .int) G cA) {lo : Nat} {z : ZS} (hZ : Zt lo z s) {ad : Nat → Nat} {P : MdlS → Heap → Prop} (hC : cx G lo 9 ad (ceModel cA ad) P) {N : Nat} {res : Int32 × MdlS} : ∀ (μ : MdlS) (H : Heap) (locs : List Loc) (ls : Array Slot), f_X9_runTrace_b50 N μ = some res → P μ H → (∀ q ∈ locs, lo ≤ q.base) → lv_has ls 4 [(0, .ref (ad 0))] → W p l e rm_X9_runTrace s m args below meth c H locs 0 0 (MQ below (cQ (some (.int res.1)) (P res.2)) args s 0 0 (fun q => lo ≤ q)) (F0 m 50 ls []) := by
  obtain ⟨⟨hx, hb, hml, hown, hts⟩, hr, hlocks, hK⟩ := id C0
  intro μ H locs ls hf hP hL hl
  unfold f_X9_runTrace_b50 at hf
  refine lv_aload_n hx hb dX9_runTrace_50 rfl (lv_at hl 0 rfl) ?_
  refine lv_iconst (v := 0) hx hb dX9_runTrace_51 (by decide) ?_
  obtain ⟨z1, ez1, hf⟩ := cx_letE hf
  refine p_Model_10 hC hP hx hb hts hown hK mw_150 dX9_runTrace_52 hL (fun H locs hP hL => ?_)
  replace hP : P z1 H := by rw [← ez1]; exact hP
  refine lv_aload_n hx hb dX9_runTrace_55 rfl (lv_at hl 0 rfl) ?_
  obtain ⟨r2, q3, hf⟩ := cx_b hf
  refine cx_callV (As := []) (rest := []) ⟨hx, hb, hml, hown, hts⟩ (c_X9_isFine hC q3) (cwV 0 hts (gV mw_560 mw_561 mw_562 mw_5 mw_563) rfl rfl rfl hd_X9_isFine ⟨Nat.le_of_ble_eq_true rfl, Nat.le_of_ble_eq_true rfl⟩) hK hP rfl (at_Model hC hP) rfl hl.1 rfl (Nat.le_of_ble_eq_true rfl) dX9_runTrace_56 ⟨Nat.zero_le _, Nat.zero_le _⟩ hL (fun H locs hP hL => ?_)
  replace hP : P z1 H := by first | exact hP | (simpa only [va_up_id] using hP)
  refine lv_if_ne (tgt := 64) hx hb dX9_runTrace_59 (by decide) (fun c4 => ?_) (fun c4 => ?_)
  · have hf := cx_f hf c4
    refine lv_aload_n hx hb dX9_runTrace_64 rfl (lv_at hl 0 rfl) ?_
    obtain ⟨r5, q6, hf⟩ := cx_b hf
    refine cx_callV (As := []) (rest := []) ⟨hx, hb, hml, hown, hts⟩ (c_X9_beginAct hC q6) (cwV 0 hts (gV mw_590 mw_591 mw_592 mw_5 mw_593) rfl rfl rfl hd_X9_beginAct ⟨Nat.le_of_ble_eq_true rfl, Nat.le_of_ble_eq_true rfl⟩) hK hP rfl (at_Model hC hP) rfl hl.1 rfl (Nat.le_of_ble_eq_true rfl) dX9_runTrace_65 ⟨Nat.zero_le _, Nat.zero_le _⟩ hL (fun H locs hP hL => ?_)
    replace hP : P r5 H := by first | exact hP | (simpa only [va_up_id] using hP)
    refine lv_iconst (v := 0) hx hb dX9_runTrace_68 (by decide) ?_
    refine lv_istore_n (lv' := [(1, .int 0), (0, .ref (ad 0))]) hx hb dX9_runTrace_69 rfl hl (by decide) rfl (fun ls hl => ?_)
    refine lv_iconst (v := 0) hx hb dX9_runTrace_70 (by decide) ?_
    refine lv_istore_n (lv' := [(2, .int 0), (1, .int 0), (0, .ref (ad 0))]) hx hb dX9_runTrace_71 rfl hl (by decide) rfl (fun ls hl => ?_)
    exact w_X9_runTrace_b72 C0 hZ hC N r5 0 0 _ _ _ hf hP hL (lv_sub hl [2, 1, 0] rfl)
  · have hf := cx_t hf c4
    refine lv_iconst (v := (-1)) hx hb dX9_runTrace_62 (by decide) ?_
    cases hf
    exact cx_iret hx hb hr hlocks hP hL dX9_runTrace_63
def f_X9_runTrace_b29 (N : Nat) : Nat → MdlS → Option (Int32 × MdlS)
  | 0, _ => none
  | n + 1, μ => (f_X9_isFine μ).bind fun r1 => if r1 = 0 then f_X9_runTrace_b50 N μ else if μ.1.2 13 = 0 then f_X9_runTrace_b50 N μ else (f_X9_parseCommand N μ).bind fun r5 => f_X9_runTrace_b29 N n r5
set_option maxHeartbeats 4000000 in
set_option maxRecDepth 100000 in
theorem w_X9_runTrace_b29 {p : Program} {l : Launch} {e : Env} {s : State} {m : MethodId} {args : Array Value} {below : List Frame} {meth : Method} {c : Code} {G : va_G} {cA : Nat → ClassId} (C0 : cB p s m args meth c RX9 cX9_runTrace 4 (some .int) G cA) {lo : Nat} {z : ZS} (hZ : Zt lo z s) {ad : Nat → Nat} {P : MdlS → Heap → Prop} (hC : cx G lo 9 ad (ceModel cA ad) P) {N : Nat} {res : Int32 × MdlS} : ∀ (n : Nat) (μ : MdlS) (H : Heap) (locs : List Loc) (ls : Array Slot), f_X9_runTrace_b29 N n μ = some res → P μ H → (∀ q ∈ locs, lo ≤ q.base) → lv_has ls 4 [(0, .ref (ad 0))] → W p l e rm_X9_runTrace s m args below meth c H locs 0 0 (MQ below (cQ (some (.int res.1)) (P res.2)) args s 0 0 (fun q => lo ≤ q)) (F0 m 29 ls []) := by
  obtain ⟨⟨hx, hb, hml, hown, hts⟩, hr, hlocks, hK⟩ := id C0
  intro n
  induction n with
  | zero => intro μ H locs ls
            exact fun hf => nomatch hf
  | succ n ih =>
    intro μ H locs ls hf hP hL hl
    rw [f_X9_runTrace_b29] at hf
    refine lv_aload_n hx hb dX9_runTrace_29 rfl (lv_at hl 0 rfl) ?_
    obtain ⟨r1, q2, hf⟩ := cx_b hf
    refine cx_callV (As := []) (rest := []) ⟨hx, hb, hml, hown, hts⟩ (c_X9_isFine hC q2) (cwV 0 hts (gV mw_560 mw_561 mw_562 mw_5 mw_563) rfl rfl rfl hd_X9_isFine ⟨Nat.le_of_ble_eq_true rfl, Nat.le_of_ble_eq_true rfl⟩) hK hP rfl (at_Model hC hP) rfl hl.1 rfl (Nat.le_of_ble_eq_true rfl) dX9_runTrace_30 ⟨Nat.zero_le _, Nat.zero_le _⟩ hL (fun H locs hP hL => ?_)
    replace hP : P μ H := by first | exact hP | (simpa only [va_up_id] using hP)
    refine lv_if_eq (tgt := 50) hx hb dX9_runTrace_33 (by decide) (fun c3 => ?_) (fun c3 => ?_)
    · have hf := cx_t hf c3
      exact w_X9_runTrace_b50 C0 hZ hC μ _ _ _ hf hP hL (lv_sub hl [0] rfl)
    · have hf := cx_f hf c3
      refine lv_aload_n hx hb dX9_runTrace_36 rfl (lv_at hl 0 rfl) ?_
      refine g_Model_13 hC hP hx hb hts hown hK mw_538 dX9_runTrace_37 ?_
      refine lv_if_eq (tgt := 50) hx hb dX9_runTrace_40 (by decide) (fun c4 => ?_) (fun c4 => ?_)
      · have hf := cx_t hf c4
        exact w_X9_runTrace_b50 C0 hZ hC μ _ _ _ hf hP hL (lv_sub hl [0] rfl)
      · have hf := cx_f hf c4
        refine lv_aload_n hx hb dX9_runTrace_43 rfl (lv_at hl 0 rfl) ?_
        obtain ⟨r5, q6, hf⟩ := cx_b hf
        refine cx_callVZ (As := []) (rest := []) ⟨hx, hb, hml, hown, hts⟩ (c_X9_parseCommand hC q6) (cwV 0 hts (gV mw_564 mw_565 mw_566 mw_5 mw_567) rfl rfl rfl hd_X9_parseCommand ⟨Nat.le_of_ble_eq_true rfl, Nat.le_of_ble_eq_true rfl⟩) hK hZ hP rfl (at_Model hC hP) rfl hl.1 rfl (Nat.le_of_ble_eq_true rfl) dX9_runTrace_44 ⟨Nat.zero_le _, Nat.zero_le _⟩ hL (fun H locs hP hL => ?_)
        replace hP : P r5 H := by first | exact hP | (simpa only [va_up_id] using hP)
        refine lv_goto (tgt := 29) hx hb dX9_runTrace_47 (by decide) ?_
        exact ih r5 _ _ _ hf hP hL (lv_sub hl [0] rfl)
def f_X9_runTrace (N : Nat) (μ : MdlS) : Option (Int32 × MdlS) := cx_let ((oI μ.1 6 0, μ.2)) fun z1 => cx_let ((oI z1.1 16 0, z1.2)) fun z2 => cx_let ((oI z2.1 17 (-1), z2.2)) fun z3 => cx_let ((oI z3.1 11 0, z3.2)) fun z4 => cx_let ((oI z4.1 9 0, z4.2)) fun z5 => (f_X9_nextToken N z5).bind fun r6 => f_X9_runTrace_b29 N N r6
set_option maxHeartbeats 4000000 in
set_option maxRecDepth 100000 in
theorem c_X9_runTrace {l : Launch} {G : va_G} {cA : Nat → ClassId} {lo : Nat} {z : ZS} {ad : Nat → Nat} {P : MdlS → Heap → Prop} (hC : cx G lo 9 ad (ceModel cA ad) P) {N : Nat} {μ : MdlS} {res : Int32 × MdlS} (hf : f_X9_runTrace N μ = some res) : Met l yX9_runTrace (cW yX9_runTrace cX9_runTrace 4 (some .int)) rm_X9_runTrace (cPZ lo z [.ref (ad 0)] (P μ) G cA) (cQ (some (.int res.1)) (P res.2)) 0 0 (fun q => lo ≤ q) := by
  refine cx_metZ (by decide) (Nat.le_of_ble_eq_true rfl) (fun p e s m args below meth c ls C0 hZ hP hl => ?_)
  have hl : lv_has ls 4 [(0, .ref (ad 0))] := hl
  obtain ⟨⟨hx, hb, hml, hown, hts⟩, hr, hlocks, hK⟩ := id C0
  have hL : ∀ q ∈ ([] : List Loc), lo ≤ q.base := fun q h => nomatch h
  unfold f_X9_runTrace at hf
  refine lv_aload_n hx hb dX9_runTrace_0 rfl (lv_at hl 0 rfl) ?_
  refine lv_iconst (v := 0) hx hb dX9_runTrace_1 (by decide) ?_
  obtain ⟨z1, ez1, hf⟩ := cx_letE hf
  refine p_Model_6 hC hP hx hb hts hown hK mw_149 dX9_runTrace_2 hL (fun H locs hP hL => ?_)
  replace hP : P z1 H := by rw [← ez1]; exact hP
  refine lv_aload_n hx hb dX9_runTrace_5 rfl (lv_at hl 0 rfl) ?_
  refine lv_iconst (v := 0) hx hb dX9_runTrace_6 (by decide) ?_
  obtain ⟨z2, ez2, hf⟩ := cx_letE hf
  refine p_Model_16 hC hP hx hb hts hown hK mw_535 dX9_runTrace_7 hL (fun H locs hP hL => ?_)
  replace hP : P z2 H := by rw [← ez2]; exact hP
  refine lv_aload_n hx hb dX9_runTrace_10 rfl (lv_at hl 0 rfl) ?_
  refine lv_iconst (v := (-1)) hx hb dX9_runTrace_11 (by decide) ?_
  obtain ⟨z3, ez3, hf⟩ := cx_letE hf
  refine p_Model_17 hC hP hx hb hts hown hK mw_122 dX9_runTrace_12 hL (fun H locs hP hL => ?_)
  replace hP : P z3 H := by rw [← ez3]; exact hP
  refine lv_aload_n hx hb dX9_runTrace_15 rfl (lv_at hl 0 rfl) ?_
  refine lv_iconst (v := 0) hx hb dX9_runTrace_16 (by decide) ?_
  obtain ⟨z4, ez4, hf⟩ := cx_letE hf
  refine p_Model_11 hC hP hx hb hts hown hK mw_536 dX9_runTrace_17 hL (fun H locs hP hL => ?_)
  replace hP : P z4 H := by rw [← ez4]; exact hP
  refine lv_aload_n hx hb dX9_runTrace_20 rfl (lv_at hl 0 rfl) ?_
  refine lv_iconst (v := 0) hx hb dX9_runTrace_21 (by decide) ?_
  obtain ⟨z5, ez5, hf⟩ := cx_letE hf
  refine p_Model_9 hC hP hx hb hts hown hK mw_537 dX9_runTrace_22 hL (fun H locs hP hL => ?_)
  replace hP : P z5 H := by rw [← ez5]; exact hP
  refine lv_aload_n hx hb dX9_runTrace_25 rfl (lv_at hl 0 rfl) ?_
  obtain ⟨r6, q7, hf⟩ := cx_b hf
  refine cx_callV (As := []) (rest := []) ⟨hx, hb, hml, hown, hts⟩ (c_X9_nextToken hC q7) (cwV 0 hts (gV mw_539 mw_540 mw_541 mw_5 mw_542) rfl rfl rfl hd_X9_nextToken ⟨Nat.le_of_ble_eq_true rfl, Nat.le_of_ble_eq_true rfl⟩) hK hP rfl (at_Model hC hP) rfl hl.1 rfl (Nat.le_of_ble_eq_true rfl) dX9_runTrace_26 ⟨Nat.zero_le _, Nat.zero_le _⟩ hL (fun H locs hP hL => ?_)
  replace hP : P r6 H := by first | exact hP | (simpa only [va_up_id] using hP)
  exact w_X9_runTrace_b29 C0 hZ hC N r6 _ _ _ hf hP hL (lv_sub hl [0] rfl)
abbrev rm_X9_errorCode : Room := { frames := 0, cells := 0, slots := 0, locals := 0 }
theorem hd_X9_errorCode : yX9_errorCode.cls = RX9 ∧ yX9_errorCode.cls ≠ "java/lang/invoke/MethodHandle" ∧ yX9_errorCode.cls ≠ "java/lang/invoke/VarHandle" ∧ (parseMethodDescriptor yX9_errorCode.desc).map (fun d => d.parameters.length) = some 0 := by decide +kernel
def f_X9_errorCode (μ : MdlS) : Option (Int32 × MdlS) := cx_let ((oI μ.1 6 0, μ.2)) fun z1 => some (z1.1.2 16, z1)
set_option maxHeartbeats 4000000 in
set_option maxRecDepth 100000 in
theorem c_X9_errorCode {l : Launch} {G : va_G} {cA : Nat → ClassId} {lo : Nat} {ad : Nat → Nat} {P : MdlS → Heap → Prop} (hC : cx G lo 9 ad (ceModel cA ad) P) {μ : MdlS} {res : Int32 × MdlS} (hf : f_X9_errorCode μ = some res) : Met l yX9_errorCode (cW yX9_errorCode cX9_errorCode 1 (some .int)) rm_X9_errorCode (cP [.ref (ad 0)] (P μ) G cA) (cQ (some (.int res.1)) (P res.2)) 0 0 (fun q => lo ≤ q) := by
  refine cx_met (by decide) (Nat.le_of_ble_eq_true rfl) (fun p e s m args below meth c ls C0 hP hl => ?_)
  have hl : lv_has ls 1 [(0, .ref (ad 0))] := hl
  obtain ⟨⟨hx, hb, hml, hown, hts⟩, hr, hlocks, hK⟩ := id C0
  have hL : ∀ q ∈ ([] : List Loc), lo ≤ q.base := fun q h => nomatch h
  unfold f_X9_errorCode at hf
  refine lv_aload_n hx hb dX9_errorCode_0 rfl (lv_at hl 0 rfl) ?_
  refine lv_iconst (v := 0) hx hb dX9_errorCode_1 (by decide) ?_
  obtain ⟨z1, ez1, hf⟩ := cx_letE hf
  refine p_Model_6 hC hP hx hb hts hown hK mw_149 dX9_errorCode_2 hL (fun H locs hP hL => ?_)
  replace hP : P z1 H := by rw [← ez1]; exact hP
  refine lv_aload_n hx hb dX9_errorCode_5 rfl (lv_at hl 0 rfl) ?_
  refine g_Model_16 hC hP hx hb hts hown hK mw_535 dX9_errorCode_6 ?_
  cases hf
  exact cx_iret hx hb hr hlocks hP hL dX9_errorCode_9
abbrev rm_X9_errorPosition : Room := { frames := 0, cells := 0, slots := 0, locals := 0 }
theorem hd_X9_errorPosition : yX9_errorPosition.cls = RX9 ∧ yX9_errorPosition.cls ≠ "java/lang/invoke/MethodHandle" ∧ yX9_errorPosition.cls ≠ "java/lang/invoke/VarHandle" ∧ (parseMethodDescriptor yX9_errorPosition.desc).map (fun d => d.parameters.length) = some 0 := by decide +kernel
def f_X9_errorPosition (μ : MdlS) : Option (Int32 × MdlS) := cx_let ((oI μ.1 6 0, μ.2)) fun z1 => some (z1.1.2 17, z1)
set_option maxHeartbeats 4000000 in
set_option maxRecDepth 100000 in
theorem c_X9_errorPosition {l : Launch} {G : va_G} {cA : Nat → ClassId} {lo : Nat} {ad : Nat → Nat} {P : MdlS → Heap → Prop} (hC : cx G lo 9 ad (ceModel cA ad) P) {μ : MdlS} {res : Int32 × MdlS} (hf : f_X9_errorPosition μ = some res) : Met l yX9_errorPosition (cW yX9_errorPosition cX9_errorPosition 1 (some .int)) rm_X9_errorPosition (cP [.ref (ad 0)] (P μ) G cA) (cQ (some (.int res.1)) (P res.2)) 0 0 (fun q => lo ≤ q) := by
  refine cx_met (by decide) (Nat.le_of_ble_eq_true rfl) (fun p e s m args below meth c ls C0 hP hl => ?_)
  have hl : lv_has ls 1 [(0, .ref (ad 0))] := hl
  obtain ⟨⟨hx, hb, hml, hown, hts⟩, hr, hlocks, hK⟩ := id C0
  have hL : ∀ q ∈ ([] : List Loc), lo ≤ q.base := fun q h => nomatch h
  unfold f_X9_errorPosition at hf
  refine lv_aload_n hx hb dX9_errorPosition_0 rfl (lv_at hl 0 rfl) ?_
  refine lv_iconst (v := 0) hx hb dX9_errorPosition_1 (by decide) ?_
  obtain ⟨z1, ez1, hf⟩ := cx_letE hf
  refine p_Model_6 hC hP hx hb hts hown hK mw_149 dX9_errorPosition_2 hL (fun H locs hP hL => ?_)
  replace hP : P z1 H := by rw [← ez1]; exact hP
  refine lv_aload_n hx hb dX9_errorPosition_5 rfl (lv_at hl 0 rfl) ?_
  refine g_Model_17 hC hP hx hb hts hown hK mw_122 dX9_errorPosition_6 ?_
  cases hf
  exact cx_iret hx hb hr hlocks hP hL dX9_errorPosition_9
abbrev rm_X9_addClient : Room := { frames := 2, cells := 0, slots := 0, locals := 45 }
theorem hd_X9_addClient : yX9_addClient.cls = RX9 ∧ yX9_addClient.cls ≠ "java/lang/invoke/MethodHandle" ∧ yX9_addClient.cls ≠ "java/lang/invoke/VarHandle" ∧ (parseMethodDescriptor yX9_addClient.desc).map (fun d => d.parameters.length) = some 1 := by decide +kernel
def f_X9_addClient_b52 (N : Nat) : Nat → MdlS → Int32 → Int32 → Int32 → Option (Int32 × MdlS)
  | 0, _, _, _, _ => none
  | n + 1, μ, x1, x2, x3 => if 10 ≤ x3 then (f_X9_putClient μ x2 0 x1).bind fun r2 => (f_X9_putClient r2 x2 2 (-1)).bind fun r4 => gd 6 1384 (gd 6 1384 (cx_let ((oA r4.1 0 (Int32.toNatClampNeg 6) ((r4.1.1 0 (Int32.toNatClampNeg 6)) + 1), r4.2)) fun z8 => some (x2, z8))) else (f_X9_putClient μ x2 x3 0).bind fun r9 => f_X9_addClient_b52 N n r9 x1 x2 (x3 + 1)
set_option maxHeartbeats 4000000 in
set_option maxRecDepth 100000 in
theorem w_X9_addClient_b52 {p : Program} {l : Launch} {e : Env} {s : State} {m : MethodId} {args : Array Value} {below : List Frame} {meth : Method} {c : Code} {G : va_G} {cA : Nat → ClassId} (C0 : cB p s m args meth c RX9 cX9_addClient 4 (some .int) G cA) {lo : Nat} {ad : Nat → Nat} {P : MdlS → Heap → Prop} (hC : cx G lo 9 ad (ceModel cA ad) P) {N : Nat} {res : Int32 × MdlS} : ∀ (n : Nat) (μ : MdlS) (x1 : Int32) (x2 : Int32) (x3 : Int32) (H : Heap) (locs : List Loc) (ls : Array Slot), f_X9_addClient_b52 N n μ x1 x2 x3 = some res → P μ H → (∀ q ∈ locs, lo ≤ q.base) → lv_has ls 4 [(0, .ref (ad 0)), (1, .int x1), (2, .int x2), (3, .int x3)] → W p l e rm_X9_addClient s m args below meth c H locs 0 0 (MQ below (cQ (some (.int res.1)) (P res.2)) args s 0 0 (fun q => lo ≤ q)) (F0 m 52 ls []) := by
  obtain ⟨⟨hx, hb, hml, hown, hts⟩, hr, hlocks, hK⟩ := id C0
  intro n
  induction n with
  | zero => intro μ x1 x2 x3 H locs ls
            exact fun hf => nomatch hf
  | succ n ih =>
    intro μ x1 x2 x3 H locs ls hf hP hL hl
    rw [f_X9_addClient_b52] at hf
    refine lv_iload_n hx hb dX9_addClient_52 rfl (lv_at hl 3 rfl) ?_
    refine lv_bipush (v := 10) hx hb dX9_addClient_53 (by decide) ?_
    refine lv_icmp_ge (tgt := 71) hx hb dX9_addClient_55 (by decide) (fun c1 => ?_) (fun c1 => ?_)
    · have hf := cx_t hf c1
      refine lv_aload_n hx hb dX9_addClient_71 rfl (lv_at hl 0 rfl) ?_
      refine lv_iload_n hx hb dX9_addClient_72 rfl (lv_at hl 2 rfl) ?_
      refine lv_iconst (v := 0) hx hb dX9_addClient_73 (by decide) ?_
      refine lv_iload_n hx hb dX9_addClient_74 rfl (lv_at hl 1 rfl) ?_
      obtain ⟨r2, q3, hf⟩ := cx_b hf
      refine cx_callV (As := [.int x2, .int 0, .int x1]) (rest := []) ⟨hx, hb, hml, hown, hts⟩ (c_X9_putClient hC q3) (cwV 3 hts (gV mw_639 mw_640 mw_641 mw_5 mw_642) rfl rfl rfl hd_X9_putClient ⟨Nat.le_of_ble_eq_true rfl, Nat.le_of_ble_eq_true rfl⟩) hK hP rfl (at_Model hC hP) rfl hl.1 rfl (Nat.le_of_ble_eq_true rfl) dX9_addClient_75 ⟨Nat.zero_le _, Nat.zero_le _⟩ hL (fun H locs hP hL => ?_)
      replace hP : P r2 H := by first | exact hP | (simpa only [va_up_id] using hP)
      refine lv_aload_n hx hb dX9_addClient_78 rfl (lv_at hl 0 rfl) ?_
      refine lv_iload_n hx hb dX9_addClient_79 rfl (lv_at hl 2 rfl) ?_
      refine lv_iconst (v := 2) hx hb dX9_addClient_80 (by decide) ?_
      refine lv_iconst (v := (-1)) hx hb dX9_addClient_81 (by decide) ?_
      obtain ⟨r4, q5, hf⟩ := cx_b hf
      refine cx_callV (As := [.int x2, .int 2, .int (-1)]) (rest := []) ⟨hx, hb, hml, hown, hts⟩ (c_X9_putClient hC q5) (cwV 3 hts (gV mw_639 mw_640 mw_641 mw_5 mw_642) rfl rfl rfl hd_X9_putClient ⟨Nat.le_of_ble_eq_true rfl, Nat.le_of_ble_eq_true rfl⟩) hK hP rfl (at_Model hC hP) rfl hl.1 rfl (Nat.le_of_ble_eq_true rfl) dX9_addClient_82 ⟨Nat.zero_le _, Nat.zero_le _⟩ hL (fun H locs hP hL => ?_)
      replace hP : P r4 H := by first | exact hP | (simpa only [va_up_id] using hP)
      refine lv_aload_n hx hb dX9_addClient_85 rfl (lv_at hl 0 rfl) ?_
      refine g_Model_0 hC hP hx hb hts hown hK mw_114 dX9_addClient_86 ?_
      refine lv_bipush (v := 6) hx hb dX9_addClient_89 (by decide) ?_
      refine lv_dup2_11 hx hb dX9_addClient_91 rfl rfl ?_
      obtain ⟨hi6, hf⟩ := gdE hf
      refine ga_Model_0 hC hP hx hb hK hi6 dX9_addClient_92 ?_
      refine lv_iconst (v := 1) hx hb dX9_addClient_93 (by decide) ?_
      refine lv_iadd hx hb dX9_addClient_94 ?_
      obtain ⟨hi7, hf⟩ := gdE hf
      obtain ⟨z8, ez8, hf⟩ := cx_letE hf
      refine pa_Model_0 hC hP hx hb hK hi7 dX9_addClient_95 hL (fun H locs hP hL => ?_)
      replace hP : P z8 H := by rw [← ez8]; exact hP
      refine lv_iload_n hx hb dX9_addClient_96 rfl (lv_at hl 2 rfl) ?_
      cases hf
      exact cx_iret hx hb hr hlocks hP hL dX9_addClient_97
    · have hf := cx_f hf c1
      refine lv_aload_n hx hb dX9_addClient_58 rfl (lv_at hl 0 rfl) ?_
      refine lv_iload_n hx hb dX9_addClient_59 rfl (lv_at hl 2 rfl) ?_
      refine lv_iload_n hx hb dX9_addClient_60 rfl (lv_at hl 3 rfl) ?_
      refine lv_iconst (v := 0) hx hb dX9_addClient_61 (by decide) ?_
      obtain ⟨r9, q10, hf⟩ := cx_b hf
      refine cx_callV (As := [.int x2, .int x3, .int 0]) (rest := []) ⟨hx, hb, hml, hown, hts⟩ (c_X9_putClient hC q10) (cwV 3 hts (gV mw_639 mw_640 mw_641 mw_5 mw_642) rfl rfl rfl hd_X9_putClient ⟨Nat.le_of_ble_eq_true rfl, Nat.le_of_ble_eq_true rfl⟩) hK hP rfl (at_Model hC hP) rfl hl.1 rfl (Nat.le_of_ble_eq_true rfl) dX9_addClient_62 ⟨Nat.zero_le _, Nat.zero_le _⟩ hL (fun H locs hP hL => ?_)
      replace hP : P r9 H := by first | exact hP | (simpa only [va_up_id] using hP)
      refine lv_iinc (v := (x3 + 1)) (lv' := [(3, .int (x3 + 1)), (0, .ref (ad 0)), (1, .int x1), (2, .int x2)]) hx hb dX9_addClient_65 hl (k := 3) rfl rfl (by decide) rfl (fun ls hl => ?_)
      refine lv_goto (tgt := 52) hx hb dX9_addClient_68 (by decide) ?_
      exact ih r9 x1 x2 (x3 + 1) _ _ _ hf hP hL (lv_sub hl [1, 2, 3, 0] rfl)
def f_X9_addClient (N : Nat) (μ : MdlS) (p0 : Int32) : Option (Int32 × MdlS) := cx_let ((oI μ.1 6 0, μ.2)) fun z1 => (f_X9_isBetween p0 1 9).bind fun r2 => if r2 = 0 then (f_X9_fail z1 1).bind fun r12 => some (r12.1, r12.2) else gd 6 1384 (if (z1.1.1 0 (Int32.toNatClampNeg 6)) = 4 then (f_X9_fail z1 2).bind fun r10 => some (r10.1, r10.2) else (f_X9_beginAct N z1).bind fun r7 => gd 6 1384 (f_X9_addClient_b52 N N r7 p0 (r7.1.1 0 (Int32.toNatClampNeg 6)) 0))
set_option maxHeartbeats 4000000 in
set_option maxRecDepth 100000 in
theorem c_X9_addClient {l : Launch} {G : va_G} {cA : Nat → ClassId} {lo : Nat} {ad : Nat → Nat} {P : MdlS → Heap → Prop} (hC : cx G lo 9 ad (ceModel cA ad) P) {N : Nat} {μ : MdlS} {p0 : Int32} {res : Int32 × MdlS} (hf : f_X9_addClient N μ p0 = some res) : Met l yX9_addClient (cW yX9_addClient cX9_addClient 4 (some .int)) rm_X9_addClient (cP [.ref (ad 0), .int p0] (P μ) G cA) (cQ (some (.int res.1)) (P res.2)) 0 0 (fun q => lo ≤ q) := by
  refine cx_met (by decide) (Nat.le_of_ble_eq_true rfl) (fun p e s m args below meth c ls C0 hP hl => ?_)
  have hl : lv_has ls 4 [(0, .ref (ad 0)), (1, .int p0)] := hl
  obtain ⟨⟨hx, hb, hml, hown, hts⟩, hr, hlocks, hK⟩ := id C0
  have hL : ∀ q ∈ ([] : List Loc), lo ≤ q.base := fun q h => nomatch h
  unfold f_X9_addClient at hf
  refine lv_aload_n hx hb dX9_addClient_0 rfl (lv_at hl 0 rfl) ?_
  refine lv_iconst (v := 0) hx hb dX9_addClient_1 (by decide) ?_
  obtain ⟨z1, ez1, hf⟩ := cx_letE hf
  refine p_Model_6 hC hP hx hb hts hown hK mw_149 dX9_addClient_2 hL (fun H locs hP hL => ?_)
  replace hP : P z1 H := by rw [← ez1]; exact hP
  refine lv_iload_n hx hb dX9_addClient_5 rfl (lv_at hl 1 rfl) ?_
  refine lv_iconst (v := 1) hx hb dX9_addClient_6 (by decide) ?_
  refine lv_bipush (v := 9) hx hb dX9_addClient_7 (by decide) ?_
  obtain ⟨r2, q3, hf⟩ := cx_b hf
  refine cx_callS (As := [.int p0, .int 1, .int 9]) (rest := []) ⟨hx, hb, hml, hown, hts⟩ (c_X9_isBetween (PH := P z1) q3) (cwS 3 hts (gS mw_176 mw_177 mw_5 mw_178) rfl rfl rfl hd_X9_isBetween ⟨Nat.le_of_ble_eq_true rfl, Nat.le_of_ble_eq_true rfl⟩) hK hP rfl hl.1 rfl (Nat.le_of_ble_eq_true rfl) dX9_addClient_9 ⟨Nat.zero_le _, Nat.zero_le _⟩ hL (fun H locs hP hL => ?_)
  refine lv_if_ne (tgt := 21) hx hb dX9_addClient_12 (by decide) (fun c4 => ?_) (fun c4 => ?_)
  · have hf := cx_f hf c4
    refine lv_aload_n hx hb dX9_addClient_21 rfl (lv_at hl 0 rfl) ?_
    refine g_Model_0 hC hP hx hb hts hown hK mw_114 dX9_addClient_22 ?_
    refine lv_bipush (v := 6) hx hb dX9_addClient_25 (by decide) ?_
    obtain ⟨hi5, hf⟩ := gdE hf
    refine ga_Model_0 hC hP hx hb hK hi5 dX9_addClient_27 ?_
    refine lv_iconst (v := 4) hx hb dX9_addClient_28 (by decide) ?_
    refine lv_icmp_ne (tgt := 38) hx hb dX9_addClient_29 (by decide) (fun c6 => ?_) (fun c6 => ?_)
    · have hf := cx_f hf c6
      refine lv_aload_n hx hb dX9_addClient_38 rfl (lv_at hl 0 rfl) ?_
      obtain ⟨r7, q8, hf⟩ := cx_b hf
      refine cx_callV (As := []) (rest := []) ⟨hx, hb, hml, hown, hts⟩ (c_X9_beginAct hC q8) (cwV 0 hts (gV mw_590 mw_591 mw_592 mw_5 mw_593) rfl rfl rfl hd_X9_beginAct ⟨Nat.le_of_ble_eq_true rfl, Nat.le_of_ble_eq_true rfl⟩) hK hP rfl (at_Model hC hP) rfl hl.1 rfl (Nat.le_of_ble_eq_true rfl) dX9_addClient_39 ⟨Nat.zero_le _, Nat.zero_le _⟩ hL (fun H locs hP hL => ?_)
      replace hP : P r7 H := by first | exact hP | (simpa only [va_up_id] using hP)
      refine lv_aload_n hx hb dX9_addClient_42 rfl (lv_at hl 0 rfl) ?_
      refine g_Model_0 hC hP hx hb hts hown hK mw_114 dX9_addClient_43 ?_
      refine lv_bipush (v := 6) hx hb dX9_addClient_46 (by decide) ?_
      obtain ⟨hi9, hf⟩ := gdE hf
      refine ga_Model_0 hC hP hx hb hK hi9 dX9_addClient_48 ?_
      refine lv_istore_n (lv' := [(2, .int (r7.1.1 0 (Int32.toNatClampNeg 6))), (0, .ref (ad 0)), (1, .int p0)]) hx hb dX9_addClient_49 rfl hl (by decide) rfl (fun ls hl => ?_)
      refine lv_iconst (v := 0) hx hb dX9_addClient_50 (by decide) ?_
      refine lv_istore_n (lv' := [(3, .int 0), (2, .int (r7.1.1 0 (Int32.toNatClampNeg 6))), (0, .ref (ad 0)), (1, .int p0)]) hx hb dX9_addClient_51 rfl hl (by decide) rfl (fun ls hl => ?_)
      exact w_X9_addClient_b52 C0 hC N r7 p0 (r7.1.1 0 (Int32.toNatClampNeg 6)) 0 _ _ _ hf hP hL (lv_sub hl [2, 3, 1, 0] rfl)
    · have hf := cx_t hf c6
      refine lv_aload_n hx hb dX9_addClient_32 rfl (lv_at hl 0 rfl) ?_
      refine lv_iconst (v := 2) hx hb dX9_addClient_33 (by decide) ?_
      obtain ⟨r10, q11, hf⟩ := cx_b hf
      refine cx_callV (As := [.int 2]) (rest := []) ⟨hx, hb, hml, hown, hts⟩ (c_X9_fail hC q11) (cwV 1 hts (gV mw_151 mw_152 mw_153 mw_5 mw_154) rfl rfl rfl hd_X9_fail ⟨Nat.le_of_ble_eq_true rfl, Nat.le_of_ble_eq_true rfl⟩) hK hP rfl (at_Model hC hP) rfl hl.1 rfl (Nat.le_of_ble_eq_true rfl) dX9_addClient_34 ⟨Nat.zero_le _, Nat.zero_le _⟩ hL (fun H locs hP hL => ?_)
      replace hP : P r10.2 H := by first | exact hP | (simpa only [va_up_id] using hP)
      cases hf
      exact cx_iret hx hb hr hlocks hP hL dX9_addClient_37
  · have hf := cx_t hf c4
    refine lv_aload_n hx hb dX9_addClient_15 rfl (lv_at hl 0 rfl) ?_
    refine lv_iconst (v := 1) hx hb dX9_addClient_16 (by decide) ?_
    obtain ⟨r12, q13, hf⟩ := cx_b hf
    refine cx_callV (As := [.int 1]) (rest := []) ⟨hx, hb, hml, hown, hts⟩ (c_X9_fail hC q13) (cwV 1 hts (gV mw_151 mw_152 mw_153 mw_5 mw_154) rfl rfl rfl hd_X9_fail ⟨Nat.le_of_ble_eq_true rfl, Nat.le_of_ble_eq_true rfl⟩) hK hP rfl (at_Model hC hP) rfl hl.1 rfl (Nat.le_of_ble_eq_true rfl) dX9_addClient_17 ⟨Nat.zero_le _, Nat.zero_le _⟩ hL (fun H locs hP hL => ?_)
    replace hP : P r12.2 H := by first | exact hP | (simpa only [va_up_id] using hP)
    cases hf
    exact cx_iret hx hb hr hlocks hP hL dX9_addClient_20
abbrev rm_X9_setWeight : Room := { frames := 2, cells := 0, slots := 0, locals := 45 }
theorem hd_X9_setWeight : yX9_setWeight.cls = RX9 ∧ yX9_setWeight.cls ≠ "java/lang/invoke/MethodHandle" ∧ yX9_setWeight.cls ≠ "java/lang/invoke/VarHandle" ∧ (parseMethodDescriptor yX9_setWeight.desc).map (fun d => d.parameters.length) = some 2 := by decide +kernel
def f_X9_setWeight (N : Nat) (μ : MdlS) (p0 : Int32) (p1 : Int32) : Option (Int32 × MdlS) := cx_let ((oI μ.1 6 0, μ.2)) fun z1 => (f_X9_isClient z1 p0).bind fun r2 => if r2 = 0 then (f_X9_fail z1 1).bind fun r16 => some (r16.1, r16.2) else (f_X9_isBetween p1 1 9).bind fun r5 => if r5 = 0 then (f_X9_fail z1 2).bind fun r14 => some (r14.1, r14.2) else (f_X9_beginAct N z1).bind fun r8 => (f_X9_ofClient r8 p0 0).bind fun r10 => (f_X9_putClient r8 p0 0 p1).bind fun r12 => some (r10, r12)
set_option maxHeartbeats 4000000 in
set_option maxRecDepth 100000 in
theorem c_X9_setWeight {l : Launch} {G : va_G} {cA : Nat → ClassId} {lo : Nat} {ad : Nat → Nat} {P : MdlS → Heap → Prop} (hC : cx G lo 9 ad (ceModel cA ad) P) {N : Nat} {μ : MdlS} {p0 : Int32} {p1 : Int32} {res : Int32 × MdlS} (hf : f_X9_setWeight N μ p0 p1 = some res) : Met l yX9_setWeight (cW yX9_setWeight cX9_setWeight 4 (some .int)) rm_X9_setWeight (cP [.ref (ad 0), .int p0, .int p1] (P μ) G cA) (cQ (some (.int res.1)) (P res.2)) 0 0 (fun q => lo ≤ q) := by
  refine cx_met (by decide) (Nat.le_of_ble_eq_true rfl) (fun p e s m args below meth c ls C0 hP hl => ?_)
  have hl : lv_has ls 4 [(0, .ref (ad 0)), (1, .int p0), (2, .int p1)] := hl
  obtain ⟨⟨hx, hb, hml, hown, hts⟩, hr, hlocks, hK⟩ := id C0
  have hL : ∀ q ∈ ([] : List Loc), lo ≤ q.base := fun q h => nomatch h
  unfold f_X9_setWeight at hf
  refine lv_aload_n hx hb dX9_setWeight_0 rfl (lv_at hl 0 rfl) ?_
  refine lv_iconst (v := 0) hx hb dX9_setWeight_1 (by decide) ?_
  obtain ⟨z1, ez1, hf⟩ := cx_letE hf
  refine p_Model_6 hC hP hx hb hts hown hK mw_149 dX9_setWeight_2 hL (fun H locs hP hL => ?_)
  replace hP : P z1 H := by rw [← ez1]; exact hP
  refine lv_aload_n hx hb dX9_setWeight_5 rfl (lv_at hl 0 rfl) ?_
  refine lv_iload_n hx hb dX9_setWeight_6 rfl (lv_at hl 1 rfl) ?_
  obtain ⟨r2, q3, hf⟩ := cx_b hf
  refine cx_callV (As := [.int p0]) (rest := []) ⟨hx, hb, hml, hown, hts⟩ (c_X9_isClient hC q3) (cwV 1 hts (gV mw_598 mw_599 mw_600 mw_5 mw_601) rfl rfl rfl hd_X9_isClient ⟨Nat.le_of_ble_eq_true rfl, Nat.le_of_ble_eq_true rfl⟩) hK hP rfl (at_Model hC hP) rfl hl.1 rfl (Nat.le_of_ble_eq_true rfl) dX9_setWeight_7 ⟨Nat.zero_le _, Nat.zero_le _⟩ hL (fun H locs hP hL => ?_)
  replace hP : P z1 H := by first | exact hP | (simpa only [va_up_id] using hP)
  refine lv_if_ne (tgt := 19) hx hb dX9_setWeight_10 (by decide) (fun c4 => ?_) (fun c4 => ?_)
  · have hf := cx_f hf c4
    refine lv_iload_n hx hb dX9_setWeight_19 rfl (lv_at hl 2 rfl) ?_
    refine lv_iconst (v := 1) hx hb dX9_setWeight_20 (by decide) ?_
    refine lv_bipush (v := 9) hx hb dX9_setWeight_21 (by decide) ?_
    obtain ⟨r5, q6, hf⟩ := cx_b hf
    refine cx_callS (As := [.int p1, .int 1, .int 9]) (rest := []) ⟨hx, hb, hml, hown, hts⟩ (c_X9_isBetween (PH := P z1) q6) (cwS 3 hts (gS mw_176 mw_177 mw_5 mw_178) rfl rfl rfl hd_X9_isBetween ⟨Nat.le_of_ble_eq_true rfl, Nat.le_of_ble_eq_true rfl⟩) hK hP rfl hl.1 rfl (Nat.le_of_ble_eq_true rfl) dX9_setWeight_23 ⟨Nat.zero_le _, Nat.zero_le _⟩ hL (fun H locs hP hL => ?_)
    refine lv_if_ne (tgt := 35) hx hb dX9_setWeight_26 (by decide) (fun c7 => ?_) (fun c7 => ?_)
    · have hf := cx_f hf c7
      refine lv_aload_n hx hb dX9_setWeight_35 rfl (lv_at hl 0 rfl) ?_
      obtain ⟨r8, q9, hf⟩ := cx_b hf
      refine cx_callV (As := []) (rest := []) ⟨hx, hb, hml, hown, hts⟩ (c_X9_beginAct hC q9) (cwV 0 hts (gV mw_590 mw_591 mw_592 mw_5 mw_593) rfl rfl rfl hd_X9_beginAct ⟨Nat.le_of_ble_eq_true rfl, Nat.le_of_ble_eq_true rfl⟩) hK hP rfl (at_Model hC hP) rfl hl.1 rfl (Nat.le_of_ble_eq_true rfl) dX9_setWeight_36 ⟨Nat.zero_le _, Nat.zero_le _⟩ hL (fun H locs hP hL => ?_)
      replace hP : P r8 H := by first | exact hP | (simpa only [va_up_id] using hP)
      refine lv_aload_n hx hb dX9_setWeight_39 rfl (lv_at hl 0 rfl) ?_
      refine lv_iload_n hx hb dX9_setWeight_40 rfl (lv_at hl 1 rfl) ?_
      refine lv_iconst (v := 0) hx hb dX9_setWeight_41 (by decide) ?_
      obtain ⟨r10, q11, hf⟩ := cx_b hf
      refine cx_callV (As := [.int p0, .int 0]) (rest := []) ⟨hx, hb, hml, hown, hts⟩ (c_X9_ofClient hC q11) (cwV 2 hts (gV mw_635 mw_636 mw_637 mw_5 mw_638) rfl rfl rfl hd_X9_ofClient ⟨Nat.le_of_ble_eq_true rfl, Nat.le_of_ble_eq_true rfl⟩) hK hP rfl (at_Model hC hP) rfl hl.1 rfl (Nat.le_of_ble_eq_true rfl) dX9_setWeight_42 ⟨Nat.zero_le _, Nat.zero_le _⟩ hL (fun H locs hP hL => ?_)
      replace hP : P r8 H := by first | exact hP | (simpa only [va_up_id] using hP)
      refine lv_istore_n (lv' := [(3, .int r10), (0, .ref (ad 0)), (1, .int p0), (2, .int p1)]) hx hb dX9_setWeight_45 rfl hl (by decide) rfl (fun ls hl => ?_)
      refine lv_aload_n hx hb dX9_setWeight_46 rfl (lv_at hl 1 rfl) ?_
      refine lv_iload_n hx hb dX9_setWeight_47 rfl (lv_at hl 2 rfl) ?_
      refine lv_iconst (v := 0) hx hb dX9_setWeight_48 (by decide) ?_
      refine lv_iload_n hx hb dX9_setWeight_49 rfl (lv_at hl 3 rfl) ?_
      obtain ⟨r12, q13, hf⟩ := cx_b hf
      refine cx_callV (As := [.int p0, .int 0, .int p1]) (rest := []) ⟨hx, hb, hml, hown, hts⟩ (c_X9_putClient hC q13) (cwV 3 hts (gV mw_639 mw_640 mw_641 mw_5 mw_642) rfl rfl rfl hd_X9_putClient ⟨Nat.le_of_ble_eq_true rfl, Nat.le_of_ble_eq_true rfl⟩) hK hP rfl (at_Model hC hP) rfl hl.1 rfl (Nat.le_of_ble_eq_true rfl) dX9_setWeight_50 ⟨Nat.zero_le _, Nat.zero_le _⟩ hL (fun H locs hP hL => ?_)
      replace hP : P r12 H := by first | exact hP | (simpa only [va_up_id] using hP)
      refine lv_iload_n hx hb dX9_setWeight_53 rfl (lv_at hl 0 rfl) ?_
      cases hf
      exact cx_iret hx hb hr hlocks hP hL dX9_setWeight_54
    · have hf := cx_t hf c7
      refine lv_aload_n hx hb dX9_setWeight_29 rfl (lv_at hl 0 rfl) ?_
      refine lv_iconst (v := 2) hx hb dX9_setWeight_30 (by decide) ?_
      obtain ⟨r14, q15, hf⟩ := cx_b hf
      refine cx_callV (As := [.int 2]) (rest := []) ⟨hx, hb, hml, hown, hts⟩ (c_X9_fail hC q15) (cwV 1 hts (gV mw_151 mw_152 mw_153 mw_5 mw_154) rfl rfl rfl hd_X9_fail ⟨Nat.le_of_ble_eq_true rfl, Nat.le_of_ble_eq_true rfl⟩) hK hP rfl (at_Model hC hP) rfl hl.1 rfl (Nat.le_of_ble_eq_true rfl) dX9_setWeight_31 ⟨Nat.zero_le _, Nat.zero_le _⟩ hL (fun H locs hP hL => ?_)
      replace hP : P r14.2 H := by first | exact hP | (simpa only [va_up_id] using hP)
      cases hf
      exact cx_iret hx hb hr hlocks hP hL dX9_setWeight_34
  · have hf := cx_t hf c4
    refine lv_aload_n hx hb dX9_setWeight_13 rfl (lv_at hl 0 rfl) ?_
    refine lv_iconst (v := 1) hx hb dX9_setWeight_14 (by decide) ?_
    obtain ⟨r16, q17, hf⟩ := cx_b hf
    refine cx_callV (As := [.int 1]) (rest := []) ⟨hx, hb, hml, hown, hts⟩ (c_X9_fail hC q17) (cwV 1 hts (gV mw_151 mw_152 mw_153 mw_5 mw_154) rfl rfl rfl hd_X9_fail ⟨Nat.le_of_ble_eq_true rfl, Nat.le_of_ble_eq_true rfl⟩) hK hP rfl (at_Model hC hP) rfl hl.1 rfl (Nat.le_of_ble_eq_true rfl) dX9_setWeight_15 ⟨Nat.zero_le _, Nat.zero_le _⟩ hL (fun H locs hP hL => ?_)
    replace hP : P r16.2 H := by first | exact hP | (simpa only [va_up_id] using hP)
    cases hf
    exact cx_iret hx hb hr hlocks hP hL dX9_setWeight_18
abbrev rm_X9_set : Room := { frames := 2, cells := 0, slots := 0, locals := 45 }
theorem hd_X9_set : yX9_set.cls = RX9 ∧ yX9_set.cls ≠ "java/lang/invoke/MethodHandle" ∧ yX9_set.cls ≠ "java/lang/invoke/VarHandle" ∧ (parseMethodDescriptor yX9_set.desc).map (fun d => d.parameters.length) = some 2 := by decide +kernel
def f_X9_set_b39 (N : Nat) (μ : MdlS) (x1 : Int32) (x2 : Int32) (y0 : Int32) : Option (Int32 × MdlS) := if y0 = 0 then (f_X9_fail μ 1).bind fun r7 => some (r7.1, r7.2) else (f_X9_beginAct N μ).bind fun r2 => gd x1 1384 (gd x1 1384 (cx_let ((oA r2.1 0 (Int32.toNatClampNeg x1) x2, r2.2)) fun z6 => some ((r2.1.1 0 (Int32.toNatClampNeg x1)), z6)))
set_option maxHeartbeats 4000000 in
set_option maxRecDepth 100000 in
theorem w_X9_set_b39 {p : Program} {l : Launch} {e : Env} {s : State} {m : MethodId} {args : Array Value} {below : List Frame} {meth : Method} {c : Code} {G : va_G} {cA : Nat → ClassId} (C0 : cB p s m args meth c RX9 cX9_set 5 (some .int) G cA) {lo : Nat} {ad : Nat → Nat} {P : MdlS → Heap → Prop} (hC : cx G lo 9 ad (ceModel cA ad) P) {N : Nat} {res : Int32 × MdlS} : ∀ (μ : MdlS) (x1 : Int32) (x2 : Int32) (y0 : Int32) (H : Heap) (locs : List Loc) (ls : Array Slot), f_X9_set_b39 N μ x1 x2 y0 = some res → P μ H → (∀ q ∈ locs, lo ≤ q.base) → lv_has ls 5 [(0, .ref (ad 0)), (1, .int x1), (2, .int x2)] → W p l e rm_X9_set s m args below meth c H locs 0 0 (MQ below (cQ (some (.int res.1)) (P res.2)) args s 0 0 (fun q => lo ≤ q)) (F0 m 39 ls [.int y0]) := by
  obtain ⟨⟨hx, hb, hml, hown, hts⟩, hr, hlocks, hK⟩ := id C0
  intro μ x1 x2 y0 H locs ls hf hP hL hl
  unfold f_X9_set_b39 at hf
  refine lv_istore_n (lv' := [(3, .int y0), (0, .ref (ad 0)), (1, .int x1), (2, .int x2)]) hx hb dX9_set_39 rfl hl (by decide) rfl (fun ls hl => ?_)
  refine lv_iload_n hx hb dX9_set_40 rfl (lv_at hl 0 rfl) ?_
  refine lv_if_ne (tgt := 50) hx hb dX9_set_41 (by decide) (fun c1 => ?_) (fun c1 => ?_)
  · have hf := cx_f hf c1
    refine lv_aload_n hx hb dX9_set_50 rfl (lv_at hl 1 rfl) ?_
    obtain ⟨r2, q3, hf⟩ := cx_b hf
    refine cx_callV (As := []) (rest := []) ⟨hx, hb, hml, hown, hts⟩ (c_X9_beginAct hC q3) (cwV 0 hts (gV mw_590 mw_591 mw_592 mw_5 mw_593) rfl rfl rfl hd_X9_beginAct ⟨Nat.le_of_ble_eq_true rfl, Nat.le_of_ble_eq_true rfl⟩) hK hP rfl (at_Model hC hP) rfl hl.1 rfl (Nat.le_of_ble_eq_true rfl) dX9_set_51 ⟨Nat.zero_le _, Nat.zero_le _⟩ hL (fun H locs hP hL => ?_)
    replace hP : P r2 H := by first | exact hP | (simpa only [va_up_id] using hP)
    refine lv_aload_n hx hb dX9_set_54 rfl (lv_at hl 1 rfl) ?_
    refine g_Model_0 hC hP hx hb hts hown hK mw_114 dX9_set_55 ?_
    refine lv_iload_n hx hb dX9_set_58 rfl (lv_at hl 2 rfl) ?_
    obtain ⟨hi4, hf⟩ := gdE hf
    refine ga_Model_0 hC hP hx hb hK hi4 dX9_set_59 ?_
    refine lv_istore (lv' := [(4, .int (r2.1.1 0 (Int32.toNatClampNeg x1))), (3, .int y0), (0, .ref (ad 0)), (1, .int x1), (2, .int x2)]) hx hb dX9_set_60 hl (by decide) rfl (fun ls hl => ?_)
    refine lv_aload_n hx hb dX9_set_62 rfl (lv_at hl 2 rfl) ?_
    refine g_Model_0 hC hP hx hb hts hown hK mw_114 dX9_set_63 ?_
    refine lv_iload_n hx hb dX9_set_66 rfl (lv_at hl 3 rfl) ?_
    refine lv_iload_n hx hb dX9_set_67 rfl (lv_at hl 4 rfl) ?_
    obtain ⟨hi5, hf⟩ := gdE hf
    obtain ⟨z6, ez6, hf⟩ := cx_letE hf
    refine pa_Model_0 hC hP hx hb hK hi5 dX9_set_68 hL (fun H locs hP hL => ?_)
    replace hP : P z6 H := by rw [← ez6]; exact hP
    refine lv_iload hx hb dX9_set_69 (lv_at hl 0 rfl) ?_
    cases hf
    exact cx_iret hx hb hr hlocks hP hL dX9_set_71
  · have hf := cx_t hf c1
    refine lv_aload_n hx hb dX9_set_44 rfl (lv_at hl 1 rfl) ?_
    refine lv_iconst (v := 1) hx hb dX9_set_45 (by decide) ?_
    obtain ⟨r7, q8, hf⟩ := cx_b hf
    refine cx_callV (As := [.int 1]) (rest := []) ⟨hx, hb, hml, hown, hts⟩ (c_X9_fail hC q8) (cwV 1 hts (gV mw_151 mw_152 mw_153 mw_5 mw_154) rfl rfl rfl hd_X9_fail ⟨Nat.le_of_ble_eq_true rfl, Nat.le_of_ble_eq_true rfl⟩) hK hP rfl (at_Model hC hP) rfl hl.1 rfl (Nat.le_of_ble_eq_true rfl) dX9_set_46 ⟨Nat.zero_le _, Nat.zero_le _⟩ hL (fun H locs hP hL => ?_)
    replace hP : P r7.2 H := by first | exact hP | (simpa only [va_up_id] using hP)
    cases hf
    exact cx_iret hx hb hr hlocks hP hL dX9_set_49
def f_X9_set_b19 (N : Nat) (μ : MdlS) (x1 : Int32) (x2 : Int32) : Option (Int32 × MdlS) := if x1 = 1 then (f_X9_isBetween x2 0 40).bind fun r2 => if r2 = 0 then f_X9_set_b39 N μ x1 x2 0 else f_X9_set_b39 N μ x1 x2 1 else f_X9_set_b39 N μ x1 x2 0
set_option maxHeartbeats 4000000 in
set_option maxRecDepth 100000 in
theorem w_X9_set_b19 {p : Program} {l : Launch} {e : Env} {s : State} {m : MethodId} {args : Array Value} {below : List Frame} {meth : Method} {c : Code} {G : va_G} {cA : Nat → ClassId} (C0 : cB p s m args meth c RX9 cX9_set 5 (some .int) G cA) {lo : Nat} {ad : Nat → Nat} {P : MdlS → Heap → Prop} (hC : cx G lo 9 ad (ceModel cA ad) P) {N : Nat} {res : Int32 × MdlS} : ∀ (μ : MdlS) (x1 : Int32) (x2 : Int32) (H : Heap) (locs : List Loc) (ls : Array Slot), f_X9_set_b19 N μ x1 x2 = some res → P μ H → (∀ q ∈ locs, lo ≤ q.base) → lv_has ls 5 [(0, .ref (ad 0)), (1, .int x1), (2, .int x2)] → W p l e rm_X9_set s m args below meth c H locs 0 0 (MQ below (cQ (some (.int res.1)) (P res.2)) args s 0 0 (fun q => lo ≤ q)) (F0 m 19 ls []) := by
  obtain ⟨⟨hx, hb, hml, hown, hts⟩, hr, hlocks, hK⟩ := id C0
  intro μ x1 x2 H locs ls hf hP hL hl
  unfold f_X9_set_b19 at hf
  refine lv_iload_n hx hb dX9_set_19 rfl (lv_at hl 1 rfl) ?_
  refine lv_iconst (v := 1) hx hb dX9_set_20 (by decide) ?_
  refine lv_icmp_ne (tgt := 38) hx hb dX9_set_21 (by decide) (fun c1 => ?_) (fun c1 => ?_)
  · have hf := cx_f hf c1
    refine lv_iconst (v := 0) hx hb dX9_set_38 (by decide) ?_
    exact w_X9_set_b39 C0 hC μ x1 x2 0 _ _ _ hf hP hL (lv_sub hl [0, 1, 2] rfl)
  · have hf := cx_t hf c1
    refine lv_iload_n hx hb dX9_set_24 rfl (lv_at hl 2 rfl) ?_
    refine lv_iconst (v := 0) hx hb dX9_set_25 (by decide) ?_
    refine lv_bipush (v := 40) hx hb dX9_set_26 (by decide) ?_
    obtain ⟨r2, q3, hf⟩ := cx_b hf
    refine cx_callS (As := [.int x2, .int 0, .int 40]) (rest := []) ⟨hx, hb, hml, hown, hts⟩ (c_X9_isBetween (PH := P μ) q3) (cwS 3 hts (gS mw_176 mw_177 mw_5 mw_178) rfl rfl rfl hd_X9_isBetween ⟨Nat.le_of_ble_eq_true rfl, Nat.le_of_ble_eq_true rfl⟩) hK hP rfl hl.1 rfl (Nat.le_of_ble_eq_true rfl) dX9_set_28 ⟨Nat.zero_le _, Nat.zero_le _⟩ hL (fun H locs hP hL => ?_)
    refine lv_if_eq (tgt := 38) hx hb dX9_set_31 (by decide) (fun c4 => ?_) (fun c4 => ?_)
    · have hf := cx_t hf c4
      refine lv_iconst (v := 0) hx hb dX9_set_38 (by decide) ?_
      exact w_X9_set_b39 C0 hC μ x1 x2 0 _ _ _ hf hP hL (lv_sub hl [0, 1, 2] rfl)
    · have hf := cx_f hf c4
      refine lv_iconst (v := 1) hx hb dX9_set_34 (by decide) ?_
      refine lv_goto (tgt := 39) hx hb dX9_set_35 (by decide) ?_
      exact w_X9_set_b39 C0 hC μ x1 x2 1 _ _ _ hf hP hL (lv_sub hl [0, 1, 2] rfl)
def f_X9_set (N : Nat) (μ : MdlS) (p0 : Int32) (p1 : Int32) : Option (Int32 × MdlS) := cx_let ((oI μ.1 6 0, μ.2)) fun z1 => if p0 = 0 then (f_X9_isBetween p1 2 20).bind fun r3 => if r3 = 0 then f_X9_set_b19 N z1 p0 p1 else f_X9_set_b39 N z1 p0 p1 1 else f_X9_set_b19 N z1 p0 p1
set_option maxHeartbeats 4000000 in
set_option maxRecDepth 100000 in
theorem c_X9_set {l : Launch} {G : va_G} {cA : Nat → ClassId} {lo : Nat} {ad : Nat → Nat} {P : MdlS → Heap → Prop} (hC : cx G lo 9 ad (ceModel cA ad) P) {N : Nat} {μ : MdlS} {p0 : Int32} {p1 : Int32} {res : Int32 × MdlS} (hf : f_X9_set N μ p0 p1 = some res) : Met l yX9_set (cW yX9_set cX9_set 5 (some .int)) rm_X9_set (cP [.ref (ad 0), .int p0, .int p1] (P μ) G cA) (cQ (some (.int res.1)) (P res.2)) 0 0 (fun q => lo ≤ q) := by
  refine cx_met (by decide) (Nat.le_of_ble_eq_true rfl) (fun p e s m args below meth c ls C0 hP hl => ?_)
  have hl : lv_has ls 5 [(0, .ref (ad 0)), (1, .int p0), (2, .int p1)] := hl
  obtain ⟨⟨hx, hb, hml, hown, hts⟩, hr, hlocks, hK⟩ := id C0
  have hL : ∀ q ∈ ([] : List Loc), lo ≤ q.base := fun q h => nomatch h
  unfold f_X9_set at hf
  refine lv_aload_n hx hb dX9_set_0 rfl (lv_at hl 0 rfl) ?_
  refine lv_iconst (v := 0) hx hb dX9_set_1 (by decide) ?_
  obtain ⟨z1, ez1, hf⟩ := cx_letE hf
  refine p_Model_6 hC hP hx hb hts hown hK mw_149 dX9_set_2 hL (fun H locs hP hL => ?_)
  replace hP : P z1 H := by rw [← ez1]; exact hP
  refine lv_iload_n hx hb dX9_set_5 rfl (lv_at hl 1 rfl) ?_
  refine lv_if_ne (tgt := 19) hx hb dX9_set_6 (by decide) (fun c2 => ?_) (fun c2 => ?_)
  · have hf := cx_f hf c2
    exact w_X9_set_b19 C0 hC z1 p0 p1 _ _ _ hf hP hL (lv_sub hl [0, 1, 2] rfl)
  · have hf := cx_t hf c2
    refine lv_iload_n hx hb dX9_set_9 rfl (lv_at hl 2 rfl) ?_
    refine lv_iconst (v := 2) hx hb dX9_set_10 (by decide) ?_
    refine lv_bipush (v := 20) hx hb dX9_set_11 (by decide) ?_
    obtain ⟨r3, q4, hf⟩ := cx_b hf
    refine cx_callS (As := [.int p1, .int 2, .int 20]) (rest := []) ⟨hx, hb, hml, hown, hts⟩ (c_X9_isBetween (PH := P z1) q4) (cwS 3 hts (gS mw_176 mw_177 mw_5 mw_178) rfl rfl rfl hd_X9_isBetween ⟨Nat.le_of_ble_eq_true rfl, Nat.le_of_ble_eq_true rfl⟩) hK hP rfl hl.1 rfl (Nat.le_of_ble_eq_true rfl) dX9_set_13 ⟨Nat.zero_le _, Nat.zero_le _⟩ hL (fun H locs hP hL => ?_)
    refine lv_if_ne (tgt := 34) hx hb dX9_set_16 (by decide) (fun c5 => ?_) (fun c5 => ?_)
    · have hf := cx_f hf c5
      refine lv_iconst (v := 1) hx hb dX9_set_34 (by decide) ?_
      refine lv_goto (tgt := 39) hx hb dX9_set_35 (by decide) ?_
      exact w_X9_set_b39 C0 hC z1 p0 p1 1 _ _ _ hf hP hL (lv_sub hl [0, 1, 2] rfl)
    · have hf := cx_t hf c5
      exact w_X9_set_b19 C0 hC z1 p0 p1 _ _ _ hf hP hL (lv_sub hl [0, 1, 2] rfl)
abbrev rm_X9_shape : Room := { frames := 4, cells := 0, slots := 0, locals := 90 }
theorem hd_X9_shape : yX9_shape.cls = RX9 ∧ yX9_shape.cls ≠ "java/lang/invoke/MethodHandle" ∧ yX9_shape.cls ≠ "java/lang/invoke/VarHandle" ∧ (parseMethodDescriptor yX9_shape.desc).map (fun d => d.parameters.length) = some 2 := by decide +kernel
def f_X9_shape_b75 (N : Nat) (k49 : MdlS → Int32 → Int32 → Int32 → Int32 → Option (Int32 × MdlS)) (μ : MdlS) (x1 : Int32) (x2 : Int32) (x5 : Int32) (y0 : Int32) (y1 : Int32) : Option (Int32 × MdlS) := (f_X9_put μ x5 0 (-1)).bind fun r1 => (f_X9_put r1 x5 4 (-1)).bind fun r3 => k49 r3 x1 x2 (y1 + y0) (x5 + 1)
set_option maxHeartbeats 4000000 in
set_option maxRecDepth 100000 in
theorem w_X9_shape_b75 {p : Program} {l : Launch} {e : Env} {s : State} {m : MethodId} {args : Array Value} {below : List Frame} {meth : Method} {c : Code} {G : va_G} {cA : Nat → ClassId} (C0 : cB p s m args meth c RX9 cX9_shape 6 (some .int) G cA) {lo : Nat} {ad : Nat → Nat} {P : MdlS → Heap → Prop} (hC : cx G lo 9 ad (ceModel cA ad) P) {N : Nat} {res : Int32 × MdlS} {k49 : MdlS → Int32 → Int32 → Int32 → Int32 → Option (Int32 × MdlS)} (hk49 : ∀ (μ : MdlS) (x1 : Int32) (x2 : Int32) (x4 : Int32) (x5 : Int32) (H : Heap) (locs : List Loc) (ls : Array Slot), k49 μ x1 x2 x4 x5 = some res → P μ H → (∀ q ∈ locs, lo ≤ q.base) → lv_has ls 6 [(0, .ref (ad 0)), (1, .int x1), (2, .int x2), (4, .int x4), (5, .int x5)] → W p l e rm_X9_shape s m args below meth c H locs 0 0 (MQ below (cQ (some (.int res.1)) (P res.2)) args s 0 0 (fun q => lo ≤ q)) (F0 m 49 ls [])) : ∀ (μ : MdlS) (x1 : Int32) (x2 : Int32) (x5 : Int32) (y0 : Int32) (y1 : Int32) (H : Heap) (locs : List Loc) (ls : Array Slot), f_X9_shape_b75 N k49 μ x1 x2 x5 y0 y1 = some res → P μ H → (∀ q ∈ locs, lo ≤ q.base) → lv_has ls 6 [(0, .ref (ad 0)), (1, .int x1), (2, .int x2), (5, .int x5)] → W p l e rm_X9_shape s m args below meth c H locs 0 0 (MQ below (cQ (some (.int res.1)) (P res.2)) args s 0 0 (fun q => lo ≤ q)) (F0 m 75 ls [.int y0, .int y1]) := by
  obtain ⟨⟨hx, hb, hml, hown, hts⟩, hr, hlocks, hK⟩ := id C0
  intro μ x1 x2 x5 y0 y1 H locs ls hf hP hL hl
  unfold f_X9_shape_b75 at hf
  refine lv_iadd hx hb dX9_shape_75 ?_
  refine lv_istore (lv' := [(4, .int (y1 + y0)), (0, .ref (ad 0)), (1, .int x1), (2, .int x2), (5, .int x5)]) hx hb dX9_shape_76 hl (by decide) rfl (fun ls hl => ?_)
  refine lv_aload_n hx hb dX9_shape_78 rfl (lv_at hl 1 rfl) ?_
  refine lv_iload hx hb dX9_shape_79 (lv_at hl 4 rfl) ?_
  refine lv_iconst (v := 0) hx hb dX9_shape_81 (by decide) ?_
  refine lv_iconst (v := (-1)) hx hb dX9_shape_82 (by decide) ?_
  obtain ⟨r1, q2, hf⟩ := cx_b hf
  refine cx_callV (As := [.int x5, .int 0, .int (-1)]) (rest := []) ⟨hx, hb, hml, hown, hts⟩ (c_X9_put hC q2) (cwV 3 hts (gV mw_124 mw_125 mw_126 mw_5 mw_127) rfl rfl rfl hd_X9_put ⟨Nat.le_of_ble_eq_true rfl, Nat.le_of_ble_eq_true rfl⟩) hK hP rfl (at_Model hC hP) rfl hl.1 rfl (Nat.le_of_ble_eq_true rfl) dX9_shape_83 ⟨Nat.zero_le _, Nat.zero_le _⟩ hL (fun H locs hP hL => ?_)
  replace hP : P r1 H := by first | exact hP | (simpa only [va_up_id] using hP)
  refine lv_aload_n hx hb dX9_shape_86 rfl (lv_at hl 1 rfl) ?_
  refine lv_iload hx hb dX9_shape_87 (lv_at hl 4 rfl) ?_
  refine lv_iconst (v := 4) hx hb dX9_shape_89 (by decide) ?_
  refine lv_iconst (v := (-1)) hx hb dX9_shape_90 (by decide) ?_
  obtain ⟨r3, q4, hf⟩ := cx_b hf
  refine cx_callV (As := [.int x5, .int 4, .int (-1)]) (rest := []) ⟨hx, hb, hml, hown, hts⟩ (c_X9_put hC q4) (cwV 3 hts (gV mw_124 mw_125 mw_126 mw_5 mw_127) rfl rfl rfl hd_X9_put ⟨Nat.le_of_ble_eq_true rfl, Nat.le_of_ble_eq_true rfl⟩) hK hP rfl (at_Model hC hP) rfl hl.1 rfl (Nat.le_of_ble_eq_true rfl) dX9_shape_91 ⟨Nat.zero_le _, Nat.zero_le _⟩ hL (fun H locs hP hL => ?_)
  replace hP : P r3 H := by first | exact hP | (simpa only [va_up_id] using hP)
  refine lv_iinc (v := (x5 + 1)) (lv' := [(5, .int (x5 + 1)), (4, .int (y1 + y0)), (0, .ref (ad 0)), (1, .int x1), (2, .int x2)]) hx hb dX9_shape_94 hl (k := 4) rfl rfl (by decide) rfl (fun ls hl => ?_)
  refine lv_goto (tgt := 49) hx hb dX9_shape_97 (by decide) ?_
  exact hk49 r3 x1 x2 (y1 + y0) (x5 + 1) _ _ _ hf hP hL (lv_sub hl [2, 3, 4, 1, 0] rfl)
def f_X9_shape_b103 (N : Nat) : Nat → MdlS → Int32 → Int32 → Int32 → Int32 → Option (Int32 × MdlS)
  | 0, _, _, _, _, _ => none
  | n + 1, μ, x1, x2, x4, x5 => if 5 ≤ x5 then gd 2 1384 (cx_let ((oA μ.1 0 (Int32.toNatClampNeg 2) x1, μ.2)) fun z3 => gd 3 1384 (cx_let ((oA z3.1 0 (Int32.toNatClampNeg 3) x2, z3.2)) fun z5 => gd 4 1384 (cx_let ((oA z5.1 0 (Int32.toNatClampNeg 4) 0, z5.2)) fun z7 => some (x4, z7)))) else gd (7 + x5) 1384 (cx_let ((oA μ.1 0 (Int32.toNatClampNeg (7 + x5)) 0, μ.2)) fun z9 => f_X9_shape_b103 N n z9 x1 x2 x4 (x5 + 1))
set_option maxHeartbeats 4000000 in
set_option maxRecDepth 100000 in
theorem w_X9_shape_b103 {p : Program} {l : Launch} {e : Env} {s : State} {m : MethodId} {args : Array Value} {below : List Frame} {meth : Method} {c : Code} {G : va_G} {cA : Nat → ClassId} (C0 : cB p s m args meth c RX9 cX9_shape 6 (some .int) G cA) {lo : Nat} {ad : Nat → Nat} {P : MdlS → Heap → Prop} (hC : cx G lo 9 ad (ceModel cA ad) P) {N : Nat} {res : Int32 × MdlS} : ∀ (n : Nat) (μ : MdlS) (x1 : Int32) (x2 : Int32) (x4 : Int32) (x5 : Int32) (H : Heap) (locs : List Loc) (ls : Array Slot), f_X9_shape_b103 N n μ x1 x2 x4 x5 = some res → P μ H → (∀ q ∈ locs, lo ≤ q.base) → lv_has ls 6 [(0, .ref (ad 0)), (1, .int x1), (2, .int x2), (4, .int x4), (5, .int x5)] → W p l e rm_X9_shape s m args below meth c H locs 0 0 (MQ below (cQ (some (.int res.1)) (P res.2)) args s 0 0 (fun q => lo ≤ q)) (F0 m 103 ls []) := by
  obtain ⟨⟨hx, hb, hml, hown, hts⟩, hr, hlocks, hK⟩ := id C0
  intro n
  induction n with
  | zero => intro μ x1 x2 x4 x5 H locs ls
            exact fun hf => nomatch hf
  | succ n ih =>
    intro μ x1 x2 x4 x5 H locs ls hf hP hL hl
    rw [f_X9_shape_b103] at hf
    refine lv_iload hx hb dX9_shape_103 (lv_at hl 4 rfl) ?_
    refine lv_iconst (v := 5) hx hb dX9_shape_105 (by decide) ?_
    refine lv_icmp_ge (tgt := 126) hx hb dX9_shape_106 (by decide) (fun c1 => ?_) (fun c1 => ?_)
    · have hf := cx_t hf c1
      refine lv_aload_n hx hb dX9_shape_126 rfl (lv_at hl 0 rfl) ?_
      refine g_Model_0 hC hP hx hb hts hown hK mw_114 dX9_shape_127 ?_
      refine lv_iconst (v := 2) hx hb dX9_shape_130 (by decide) ?_
      refine lv_iload_n hx hb dX9_shape_131 rfl (lv_at hl 1 rfl) ?_
      obtain ⟨hi2, hf⟩ := gdE hf
      obtain ⟨z3, ez3, hf⟩ := cx_letE hf
      refine pa_Model_0 hC hP hx hb hK hi2 dX9_shape_132 hL (fun H locs hP hL => ?_)
      replace hP : P z3 H := by rw [← ez3]; exact hP
      refine lv_aload_n hx hb dX9_shape_133 rfl (lv_at hl 0 rfl) ?_
      refine g_Model_0 hC hP hx hb hts hown hK mw_114 dX9_shape_134 ?_
      refine lv_iconst (v := 3) hx hb dX9_shape_137 (by decide) ?_
      refine lv_iload_n hx hb dX9_shape_138 rfl (lv_at hl 2 rfl) ?_
      obtain ⟨hi4, hf⟩ := gdE hf
      obtain ⟨z5, ez5, hf⟩ := cx_letE hf
      refine pa_Model_0 hC hP hx hb hK hi4 dX9_shape_139 hL (fun H locs hP hL => ?_)
      replace hP : P z5 H := by rw [← ez5]; exact hP
      refine lv_aload_n hx hb dX9_shape_140 rfl (lv_at hl 0 rfl) ?_
      refine g_Model_0 hC hP hx hb hts hown hK mw_114 dX9_shape_141 ?_
      refine lv_iconst (v := 4) hx hb dX9_shape_144 (by decide) ?_
      refine lv_iconst (v := 0) hx hb dX9_shape_145 (by decide) ?_
      obtain ⟨hi6, hf⟩ := gdE hf
      obtain ⟨z7, ez7, hf⟩ := cx_letE hf
      refine pa_Model_0 hC hP hx hb hK hi6 dX9_shape_146 hL (fun H locs hP hL => ?_)
      replace hP : P z7 H := by rw [← ez7]; exact hP
      refine lv_iload hx hb dX9_shape_147 (lv_at hl 3 rfl) ?_
      cases hf
      exact cx_iret hx hb hr hlocks hP hL dX9_shape_149
    · have hf := cx_f hf c1
      refine lv_aload_n hx hb dX9_shape_109 rfl (lv_at hl 0 rfl) ?_
      refine g_Model_0 hC hP hx hb hts hown hK mw_114 dX9_shape_110 ?_
      refine lv_bipush (v := 7) hx hb dX9_shape_113 (by decide) ?_
      refine lv_iload hx hb dX9_shape_115 (lv_at hl 4 rfl) ?_
      refine lv_iadd hx hb dX9_shape_117 ?_
      refine lv_iconst (v := 0) hx hb dX9_shape_118 (by decide) ?_
      obtain ⟨hi8, hf⟩ := gdE hf
      obtain ⟨z9, ez9, hf⟩ := cx_letE hf
      refine pa_Model_0 hC hP hx hb hK hi8 dX9_shape_119 hL (fun H locs hP hL => ?_)
      replace hP : P z9 H := by rw [← ez9]; exact hP
      refine lv_iinc (v := (x5 + 1)) (lv' := [(5, .int (x5 + 1)), (0, .ref (ad 0)), (1, .int x1), (2, .int x2), (4, .int x4)]) hx hb dX9_shape_120 hl (k := 4) rfl rfl (by decide) rfl (fun ls hl => ?_)
      refine lv_goto (tgt := 103) hx hb dX9_shape_123 (by decide) ?_
      exact ih z9 x1 x2 x4 (x5 + 1) _ _ _ hf hP hL (lv_sub hl [1, 2, 3, 4, 0] rfl)
def f_X9_shape_b49 (N : Nat) : Nat → MdlS → Int32 → Int32 → Int32 → Int32 → Option (Int32 × MdlS)
  | 0, _, _, _, _, _ => none
  | n + 1, μ, x1, x2, x4, x5 => if 200 ≤ x5 then f_X9_shape_b103 N N μ x1 x2 x4 0 else (f_X9_of μ x5 0).bind fun r2 => if r2 = (-1) then f_X9_shape_b75 N (f_X9_shape_b49 N n) μ x1 x2 x5 0 x4 else f_X9_shape_b75 N (f_X9_shape_b49 N n) μ x1 x2 x5 1 x4
set_option maxHeartbeats 4000000 in
set_option maxRecDepth 100000 in
theorem w_X9_shape_b49 {p : Program} {l : Launch} {e : Env} {s : State} {m : MethodId} {args : Array Value} {below : List Frame} {meth : Method} {c : Code} {G : va_G} {cA : Nat → ClassId} (C0 : cB p s m args meth c RX9 cX9_shape 6 (some .int) G cA) {lo : Nat} {ad : Nat → Nat} {P : MdlS → Heap → Prop} (hC : cx G lo 9 ad (ceModel cA ad) P) {N : Nat} {res : Int32 × MdlS} : ∀ (n : Nat) (μ : MdlS) (x1 : Int32) (x2 : Int32) (x4 : Int32) (x5 : Int32) (H : Heap) (locs : List Loc) (ls : Array Slot), f_X9_shape_b49 N n μ x1 x2 x4 x5 = some res → P μ H → (∀ q ∈ locs, lo ≤ q.base) → lv_has ls 6 [(0, .ref (ad 0)), (1, .int x1), (2, .int x2), (4, .int x4), (5, .int x5)] → W p l e rm_X9_shape s m args below meth c H locs 0 0 (MQ below (cQ (some (.int res.1)) (P res.2)) args s 0 0 (fun q => lo ≤ q)) (F0 m 49 ls []) := by
  obtain ⟨⟨hx, hb, hml, hown, hts⟩, hr, hlocks, hK⟩ := id C0
  intro n
  induction n with
  | zero => intro μ x1 x2 x4 x5 H locs ls
            exact fun hf => nomatch hf
  | succ n ih =>
    intro μ x1 x2 x4 x5 H locs ls hf hP hL hl
    rw [f_X9_shape_b49] at hf
    refine lv_iload hx hb dX9_shape_49 (lv_at hl 4 rfl) ?_
    refine lv_sipush (v := 200) hx hb dX9_shape_51 (by decide) ?_
    refine lv_icmp_ge (tgt := 100) hx hb dX9_shape_54 (by decide) (fun c1 => ?_) (fun c1 => ?_)
    · have hf := cx_t hf c1
      refine lv_iconst (v := 0) hx hb dX9_shape_100 (by decide) ?_
      refine lv_istore (lv' := [(5, .int 0), (0, .ref (ad 0)), (1, .int x1), (2, .int x2), (4, .int x4)]) hx hb dX9_shape_101 hl (by decide) rfl (fun ls hl => ?_)
      exact w_X9_shape_b103 C0 hC N μ x1 x2 x4 0 _ _ _ hf hP hL (lv_sub hl [1, 2, 3, 4, 0] rfl)
    · have hf := cx_f hf c1
      refine lv_iload hx hb dX9_shape_57 (lv_at hl 3 rfl) ?_
      refine lv_aload_n hx hb dX9_shape_59 rfl (lv_at hl 0 rfl) ?_
      refine lv_iload hx hb dX9_shape_60 (lv_at hl 4 rfl) ?_
      refine lv_iconst (v := 0) hx hb dX9_shape_62 (by decide) ?_
      obtain ⟨r2, q3, hf⟩ := cx_b hf
      refine cx_callV (As := [.int x5, .int 0]) (rest := [.int x4]) ⟨hx, hb, hml, hown, hts⟩ (c_X9_of hC q3) (cwV 2 hts (gV mw_618 mw_619 mw_620 mw_5 mw_621) rfl rfl rfl hd_X9_of ⟨Nat.le_of_ble_eq_true rfl, Nat.le_of_ble_eq_true rfl⟩) hK hP rfl (at_Model hC hP) rfl hl.1 rfl (Nat.le_of_ble_eq_true rfl) dX9_shape_63 ⟨Nat.zero_le _, Nat.zero_le _⟩ hL (fun H locs hP hL => ?_)
      replace hP : P μ H := by first | exact hP | (simpa only [va_up_id] using hP)
      refine lv_iconst (v := (-1)) hx hb dX9_shape_66 (by decide) ?_
      refine lv_icmp_ne (tgt := 74) hx hb dX9_shape_67 (by decide) (fun c4 => ?_) (fun c4 => ?_)
      · have hf := cx_f hf c4
        refine lv_iconst (v := 1) hx hb dX9_shape_74 (by decide) ?_
        exact w_X9_shape_b75 C0 hC ih μ x1 x2 x5 1 x4 _ _ _ hf hP hL (lv_sub hl [0, 1, 2, 4] rfl)
      · have hf := cx_t hf c4
        refine lv_iconst (v := 0) hx hb dX9_shape_70 (by decide) ?_
        refine lv_goto (tgt := 75) hx hb dX9_shape_71 (by decide) ?_
        exact w_X9_shape_b75 C0 hC ih μ x1 x2 x5 0 x4 _ _ _ hf hP hL (lv_sub hl [0, 1, 2, 4] rfl)
def f_X9_shape (N : Nat) (μ : MdlS) (p0 : Int32) (p1 : Int32) : Option (Int32 × MdlS) := cx_let ((oI μ.1 6 0, μ.2)) fun z1 => (f_X9_isBetween p0 2 16).bind fun r2 => if r2 = 0 then (f_X9_fail z1 1).bind fun r5 => some (r5.1, r5.2) else (f_X9_isBetween p1 2 24).bind fun r7 => if r7 = 0 then (f_X9_fail z1 1).bind fun r14 => some (r14.1, r14.2) else (f_X9_beginAct N z1).bind fun r10 => (f_X9_writeBack N r10 200).bind fun r12 => f_X9_shape_b49 N N r12.2 p0 p1 0 0
set_option maxHeartbeats 4000000 in
set_option maxRecDepth 100000 in
theorem c_X9_shape {l : Launch} {G : va_G} {cA : Nat → ClassId} {lo : Nat} {ad : Nat → Nat} {P : MdlS → Heap → Prop} (hC : cx G lo 9 ad (ceModel cA ad) P) {N : Nat} {μ : MdlS} {p0 : Int32} {p1 : Int32} {res : Int32 × MdlS} (hf : f_X9_shape N μ p0 p1 = some res) : Met l yX9_shape (cW yX9_shape cX9_shape 6 (some .int)) rm_X9_shape (cP [.ref (ad 0), .int p0, .int p1] (P μ) G cA) (cQ (some (.int res.1)) (P res.2)) 0 0 (fun q => lo ≤ q) := by
  refine cx_met (by decide) (Nat.le_of_ble_eq_true rfl) (fun p e s m args below meth c ls C0 hP hl => ?_)
  have hl : lv_has ls 6 [(0, .ref (ad 0)), (1, .int p0), (2, .int p1)] := hl
  obtain ⟨⟨hx, hb, hml, hown, hts⟩, hr, hlocks, hK⟩ := id C0
  have hL : ∀ q ∈ ([] : List Loc), lo ≤ q.base := fun q h => nomatch h
  unfold f_X9_shape at hf
  refine lv_aload_n hx hb dX9_shape_0 rfl (lv_at hl 0 rfl) ?_
  refine lv_iconst (v := 0) hx hb dX9_shape_1 (by decide) ?_
  obtain ⟨z1, ez1, hf⟩ := cx_letE hf
  refine p_Model_6 hC hP hx hb hts hown hK mw_149 dX9_shape_2 hL (fun H locs hP hL => ?_)
  replace hP : P z1 H := by rw [← ez1]; exact hP
  refine lv_iload_n hx hb dX9_shape_5 rfl (lv_at hl 1 rfl) ?_
  refine lv_iconst (v := 2) hx hb dX9_shape_6 (by decide) ?_
  refine lv_bipush (v := 16) hx hb dX9_shape_7 (by decide) ?_
  obtain ⟨r2, q3, hf⟩ := cx_b hf
  refine cx_callS (As := [.int p0, .int 2, .int 16]) (rest := []) ⟨hx, hb, hml, hown, hts⟩ (c_X9_isBetween (PH := P z1) q3) (cwS 3 hts (gS mw_176 mw_177 mw_5 mw_178) rfl rfl rfl hd_X9_isBetween ⟨Nat.le_of_ble_eq_true rfl, Nat.le_of_ble_eq_true rfl⟩) hK hP rfl hl.1 rfl (Nat.le_of_ble_eq_true rfl) dX9_shape_9 ⟨Nat.zero_le _, Nat.zero_le _⟩ hL (fun H locs hP hL => ?_)
  refine lv_if_eq (tgt := 25) hx hb dX9_shape_12 (by decide) (fun c4 => ?_) (fun c4 => ?_)
  · have hf := cx_t hf c4
    refine lv_aload_n hx hb dX9_shape_25 rfl (lv_at hl 0 rfl) ?_
    refine lv_iconst (v := 1) hx hb dX9_shape_26 (by decide) ?_
    obtain ⟨r5, q6, hf⟩ := cx_b hf
    refine cx_callV (As := [.int 1]) (rest := []) ⟨hx, hb, hml, hown, hts⟩ (c_X9_fail hC q6) (cwV 1 hts (gV mw_151 mw_152 mw_153 mw_5 mw_154) rfl rfl rfl hd_X9_fail ⟨Nat.le_of_ble_eq_true rfl, Nat.le_of_ble_eq_true rfl⟩) hK hP rfl (at_Model hC hP) rfl hl.1 rfl (Nat.le_of_ble_eq_true rfl) dX9_shape_27 ⟨Nat.zero_le _, Nat.zero_le _⟩ hL (fun H locs hP hL => ?_)
    replace hP : P r5.2 H := by first | exact hP | (simpa only [va_up_id] using hP)
    cases hf
    exact cx_iret hx hb hr hlocks hP hL dX9_shape_30
  · have hf := cx_f hf c4
    refine lv_iload_n hx hb dX9_shape_15 rfl (lv_at hl 2 rfl) ?_
    refine lv_iconst (v := 2) hx hb dX9_shape_16 (by decide) ?_
    refine lv_bipush (v := 24) hx hb dX9_shape_17 (by decide) ?_
    obtain ⟨r7, q8, hf⟩ := cx_b hf
    refine cx_callS (As := [.int p1, .int 2, .int 24]) (rest := []) ⟨hx, hb, hml, hown, hts⟩ (c_X9_isBetween (PH := P z1) q8) (cwS 3 hts (gS mw_176 mw_177 mw_5 mw_178) rfl rfl rfl hd_X9_isBetween ⟨Nat.le_of_ble_eq_true rfl, Nat.le_of_ble_eq_true rfl⟩) hK hP rfl hl.1 rfl (Nat.le_of_ble_eq_true rfl) dX9_shape_19 ⟨Nat.zero_le _, Nat.zero_le _⟩ hL (fun H locs hP hL => ?_)
    refine lv_if_ne (tgt := 31) hx hb dX9_shape_22 (by decide) (fun c9 => ?_) (fun c9 => ?_)
    · have hf := cx_f hf c9
      refine lv_aload_n hx hb dX9_shape_31 rfl (lv_at hl 0 rfl) ?_
      obtain ⟨r10, q11, hf⟩ := cx_b hf
      refine cx_callV (As := []) (rest := []) ⟨hx, hb, hml, hown, hts⟩ (c_X9_beginAct hC q11) (cwV 0 hts (gV mw_590 mw_591 mw_592 mw_5 mw_593) rfl rfl rfl hd_X9_beginAct ⟨Nat.le_of_ble_eq_true rfl, Nat.le_of_ble_eq_true rfl⟩) hK hP rfl (at_Model hC hP) rfl hl.1 rfl (Nat.le_of_ble_eq_true rfl) dX9_shape_32 ⟨Nat.zero_le _, Nat.zero_le _⟩ hL (fun H locs hP hL => ?_)
      replace hP : P r10 H := by first | exact hP | (simpa only [va_up_id] using hP)
      refine lv_aload_n hx hb dX9_shape_35 rfl (lv_at hl 0 rfl) ?_
      refine lv_sipush (v := 200) hx hb dX9_shape_36 (by decide) ?_
      obtain ⟨r12, q13, hf⟩ := cx_b hf
      refine cx_callV (As := [.int 200]) (rest := []) ⟨hx, hb, hml, hown, hts⟩ (c_X9_writeBack hC q13) (cwV 1 hts (gV mw_606 mw_607 mw_608 mw_5 mw_609) rfl rfl rfl hd_X9_writeBack ⟨Nat.le_of_ble_eq_true rfl, Nat.le_of_ble_eq_true rfl⟩) hK hP rfl (at_Model hC hP) rfl hl.1 rfl (Nat.le_of_ble_eq_true rfl) dX9_shape_39 ⟨Nat.zero_le _, Nat.zero_le _⟩ hL (fun H locs hP hL => ?_)
      replace hP : P r12.2 H := by first | exact hP | (simpa only [va_up_id] using hP)
      refine lv_istore_n (lv' := [(3, .int r12.1), (0, .ref (ad 0)), (1, .int p0), (2, .int p1)]) hx hb dX9_shape_42 rfl hl (by decide) rfl (fun ls hl => ?_)
      refine lv_iconst (v := 0) hx hb dX9_shape_43 (by decide) ?_
      refine lv_istore (lv' := [(4, .int 0), (3, .int r12.1), (0, .ref (ad 0)), (1, .int p0), (2, .int p1)]) hx hb dX9_shape_44 hl (by decide) rfl (fun ls hl => ?_)
      refine lv_iconst (v := 0) hx hb dX9_shape_46 (by decide) ?_
      refine lv_istore (lv' := [(5, .int 0), (4, .int 0), (3, .int r12.1), (0, .ref (ad 0)), (1, .int p0), (2, .int p1)]) hx hb dX9_shape_47 hl (by decide) rfl (fun ls hl => ?_)
      exact w_X9_shape_b49 C0 hC N r12.2 p0 p1 0 0 _ _ _ hf hP hL (lv_sub hl [3, 4, 5, 1, 0] rfl)
    · have hf := cx_t hf c9
      refine lv_aload_n hx hb dX9_shape_25 rfl (lv_at hl 0 rfl) ?_
      refine lv_iconst (v := 1) hx hb dX9_shape_26 (by decide) ?_
      obtain ⟨r14, q15, hf⟩ := cx_b hf
      refine cx_callV (As := [.int 1]) (rest := []) ⟨hx, hb, hml, hown, hts⟩ (c_X9_fail hC q15) (cwV 1 hts (gV mw_151 mw_152 mw_153 mw_5 mw_154) rfl rfl rfl hd_X9_fail ⟨Nat.le_of_ble_eq_true rfl, Nat.le_of_ble_eq_true rfl⟩) hK hP rfl (at_Model hC hP) rfl hl.1 rfl (Nat.le_of_ble_eq_true rfl) dX9_shape_27 ⟨Nat.zero_le _, Nat.zero_le _⟩ hL (fun H locs hP hL => ?_)
      replace hP : P r14.2 H := by first | exact hP | (simpa only [va_up_id] using hP)
      cases hf
      exact cx_iret hx hb hr hlocks hP hL dX9_shape_30
abbrev rm_X9_read : Room := { frames := 8, cells := 0, slots := 0, locals := 185 }
theorem hd_X9_read : yX9_read.cls = RX9 ∧ yX9_read.cls ≠ "java/lang/invoke/MethodHandle" ∧ yX9_read.cls ≠ "java/lang/invoke/VarHandle" ∧ (parseMethodDescriptor yX9_read.desc).map (fun d => d.parameters.length) = some 2 := by decide +kernel
def f_X9_read (N : Nat) (μ : MdlS) (p0 : Int32) (p1 : Int32) : Option (Int32 × MdlS) := cx_let ((oI μ.1 6 0, μ.2)) fun z1 => (f_X9_isClient z1 p0).bind fun r2 => if r2 = 0 then (f_X9_fail z1 1).bind fun r16 => some (r16.1, r16.2) else (f_X9_isBlock p1).bind fun r5 => if r5 = 0 then (f_X9_fail z1 2).bind fun r14 => some (r14.1, r14.2) else (f_X9_beginAct N z1).bind fun r8 => (f_X9_access N r8 p0 p1 (-1)).bind fun r10 => (f_X9_of r10 p1 1).bind fun r12 => some (r12, r10)
set_option maxHeartbeats 4000000 in
set_option maxRecDepth 100000 in
theorem c_X9_read {l : Launch} {G : va_G} {cA : Nat → ClassId} {lo : Nat} {ad : Nat → Nat} {P : MdlS → Heap → Prop} (hC : cx G lo 9 ad (ceModel cA ad) P) {N : Nat} {μ : MdlS} {p0 : Int32} {p1 : Int32} {res : Int32 × MdlS} (hf : f_X9_read N μ p0 p1 = some res) : Met l yX9_read (cW yX9_read cX9_read 3 (some .int)) rm_X9_read (cP [.ref (ad 0), .int p0, .int p1] (P μ) G cA) (cQ (some (.int res.1)) (P res.2)) 0 0 (fun q => lo ≤ q) := by
  refine cx_met (by decide) (Nat.le_of_ble_eq_true rfl) (fun p e s m args below meth c ls C0 hP hl => ?_)
  have hl : lv_has ls 3 [(0, .ref (ad 0)), (1, .int p0), (2, .int p1)] := hl
  obtain ⟨⟨hx, hb, hml, hown, hts⟩, hr, hlocks, hK⟩ := id C0
  have hL : ∀ q ∈ ([] : List Loc), lo ≤ q.base := fun q h => nomatch h
  unfold f_X9_read at hf
  refine lv_aload_n hx hb dX9_read_0 rfl (lv_at hl 0 rfl) ?_
  refine lv_iconst (v := 0) hx hb dX9_read_1 (by decide) ?_
  obtain ⟨z1, ez1, hf⟩ := cx_letE hf
  refine p_Model_6 hC hP hx hb hts hown hK mw_149 dX9_read_2 hL (fun H locs hP hL => ?_)
  replace hP : P z1 H := by rw [← ez1]; exact hP
  refine lv_aload_n hx hb dX9_read_5 rfl (lv_at hl 0 rfl) ?_
  refine lv_iload_n hx hb dX9_read_6 rfl (lv_at hl 1 rfl) ?_
  obtain ⟨r2, q3, hf⟩ := cx_b hf
  refine cx_callV (As := [.int p0]) (rest := []) ⟨hx, hb, hml, hown, hts⟩ (c_X9_isClient hC q3) (cwV 1 hts (gV mw_598 mw_599 mw_600 mw_5 mw_601) rfl rfl rfl hd_X9_isClient ⟨Nat.le_of_ble_eq_true rfl, Nat.le_of_ble_eq_true rfl⟩) hK hP rfl (at_Model hC hP) rfl hl.1 rfl (Nat.le_of_ble_eq_true rfl) dX9_read_7 ⟨Nat.zero_le _, Nat.zero_le _⟩ hL (fun H locs hP hL => ?_)
  replace hP : P z1 H := by first | exact hP | (simpa only [va_up_id] using hP)
  refine lv_if_ne (tgt := 19) hx hb dX9_read_10 (by decide) (fun c4 => ?_) (fun c4 => ?_)
  · have hf := cx_f hf c4
    refine lv_iload_n hx hb dX9_read_19 rfl (lv_at hl 2 rfl) ?_
    obtain ⟨r5, q6, hf⟩ := cx_b hf
    refine cx_callS (As := [.int p1]) (rest := []) ⟨hx, hb, hml, hown, hts⟩ (c_X9_isBlock (PH := P z1) q6) (cwS 1 hts (gS mw_918 mw_919 mw_5 mw_920) rfl rfl rfl hd_X9_isBlock ⟨Nat.le_of_ble_eq_true rfl, Nat.le_of_ble_eq_true rfl⟩) hK hP rfl hl.1 rfl (Nat.le_of_ble_eq_true rfl) dX9_read_20 ⟨Nat.zero_le _, Nat.zero_le _⟩ hL (fun H locs hP hL => ?_)
    refine lv_if_ne (tgt := 32) hx hb dX9_read_23 (by decide) (fun c7 => ?_) (fun c7 => ?_)
    · have hf := cx_f hf c7
      refine lv_aload_n hx hb dX9_read_32 rfl (lv_at hl 0 rfl) ?_
      obtain ⟨r8, q9, hf⟩ := cx_b hf
      refine cx_callV (As := []) (rest := []) ⟨hx, hb, hml, hown, hts⟩ (c_X9_beginAct hC q9) (cwV 0 hts (gV mw_590 mw_591 mw_592 mw_5 mw_593) rfl rfl rfl hd_X9_beginAct ⟨Nat.le_of_ble_eq_true rfl, Nat.le_of_ble_eq_true rfl⟩) hK hP rfl (at_Model hC hP) rfl hl.1 rfl (Nat.le_of_ble_eq_true rfl) dX9_read_33 ⟨Nat.zero_le _, Nat.zero_le _⟩ hL (fun H locs hP hL => ?_)
      replace hP : P r8 H := by first | exact hP | (simpa only [va_up_id] using hP)
      refine lv_aload_n hx hb dX9_read_36 rfl (lv_at hl 0 rfl) ?_
      refine lv_iload_n hx hb dX9_read_37 rfl (lv_at hl 1 rfl) ?_
      refine lv_iload_n hx hb dX9_read_38 rfl (lv_at hl 2 rfl) ?_
      refine lv_iconst (v := (-1)) hx hb dX9_read_39 (by decide) ?_
      obtain ⟨r10, q11, hf⟩ := cx_b hf
      refine cx_callV (As := [.int p0, .int p1, .int (-1)]) (rest := []) ⟨hx, hb, hml, hown, hts⟩ (c_X9_access hC q11) (cwV 3 hts (gV mw_626 mw_627 mw_628 mw_5 mw_629) rfl rfl rfl hd_X9_access ⟨Nat.le_of_ble_eq_true rfl, Nat.le_of_ble_eq_true rfl⟩) hK hP rfl (at_Model hC hP) rfl hl.1 rfl (Nat.le_of_ble_eq_true rfl) dX9_read_40 ⟨Nat.zero_le _, Nat.zero_le _⟩ hL (fun H locs hP hL => ?_)
      replace hP : P r10 H := by first | exact hP | (simpa only [va_up_id] using hP)
      refine lv_aload_n hx hb dX9_read_43 rfl (lv_at hl 0 rfl) ?_
      refine lv_iload_n hx hb dX9_read_44 rfl (lv_at hl 2 rfl) ?_
      refine lv_iconst (v := 1) hx hb dX9_read_45 (by decide) ?_
      obtain ⟨r12, q13, hf⟩ := cx_b hf
      refine cx_callV (As := [.int p1, .int 1]) (rest := []) ⟨hx, hb, hml, hown, hts⟩ (c_X9_of hC q13) (cwV 2 hts (gV mw_618 mw_619 mw_620 mw_5 mw_621) rfl rfl rfl hd_X9_of ⟨Nat.le_of_ble_eq_true rfl, Nat.le_of_ble_eq_true rfl⟩) hK hP rfl (at_Model hC hP) rfl hl.1 rfl (Nat.le_of_ble_eq_true rfl) dX9_read_46 ⟨Nat.zero_le _, Nat.zero_le _⟩ hL (fun H locs hP hL => ?_)
      replace hP : P r10 H := by first | exact hP | (simpa only [va_up_id] using hP)
      cases hf
      exact cx_iret hx hb hr hlocks hP hL dX9_read_49
    · have hf := cx_t hf c7
      refine lv_aload_n hx hb dX9_read_26 rfl (lv_at hl 0 rfl) ?_
      refine lv_iconst (v := 2) hx hb dX9_read_27 (by decide) ?_
      obtain ⟨r14, q15, hf⟩ := cx_b hf
      refine cx_callV (As := [.int 2]) (rest := []) ⟨hx, hb, hml, hown, hts⟩ (c_X9_fail hC q15) (cwV 1 hts (gV mw_151 mw_152 mw_153 mw_5 mw_154) rfl rfl rfl hd_X9_fail ⟨Nat.le_of_ble_eq_true rfl, Nat.le_of_ble_eq_true rfl⟩) hK hP rfl (at_Model hC hP) rfl hl.1 rfl (Nat.le_of_ble_eq_true rfl) dX9_read_28 ⟨Nat.zero_le _, Nat.zero_le _⟩ hL (fun H locs hP hL => ?_)
      replace hP : P r14.2 H := by first | exact hP | (simpa only [va_up_id] using hP)
      cases hf
      exact cx_iret hx hb hr hlocks hP hL dX9_read_31
  · have hf := cx_t hf c4
    refine lv_aload_n hx hb dX9_read_13 rfl (lv_at hl 0 rfl) ?_
    refine lv_iconst (v := 1) hx hb dX9_read_14 (by decide) ?_
    obtain ⟨r16, q17, hf⟩ := cx_b hf
    refine cx_callV (As := [.int 1]) (rest := []) ⟨hx, hb, hml, hown, hts⟩ (c_X9_fail hC q17) (cwV 1 hts (gV mw_151 mw_152 mw_153 mw_5 mw_154) rfl rfl rfl hd_X9_fail ⟨Nat.le_of_ble_eq_true rfl, Nat.le_of_ble_eq_true rfl⟩) hK hP rfl (at_Model hC hP) rfl hl.1 rfl (Nat.le_of_ble_eq_true rfl) dX9_read_15 ⟨Nat.zero_le _, Nat.zero_le _⟩ hL (fun H locs hP hL => ?_)
    replace hP : P r16.2 H := by first | exact hP | (simpa only [va_up_id] using hP)
    cases hf
    exact cx_iret hx hb hr hlocks hP hL dX9_read_18
abbrev rm_X9_write : Room := { frames := 8, cells := 0, slots := 0, locals := 185 }
theorem hd_X9_write : yX9_write.cls = RX9 ∧ yX9_write.cls ≠ "java/lang/invoke/MethodHandle" ∧ yX9_write.cls ≠ "java/lang/invoke/VarHandle" ∧ (parseMethodDescriptor yX9_write.desc).map (fun d => d.parameters.length) = some 3 := by decide +kernel
def f_X9_write (N : Nat) (μ : MdlS) (p0 : Int32) (p1 : Int32) (p2 : Int32) : Option (Int32 × MdlS) := cx_let ((oI μ.1 6 0, μ.2)) fun z1 => (f_X9_isClient z1 p0).bind fun r2 => if r2 = 0 then (f_X9_fail z1 1).bind fun r21 => some (r21.1, r21.2) else (f_X9_isBlock p1).bind fun r5 => if r5 = 0 then (f_X9_fail z1 2).bind fun r8 => some (r8.1, r8.2) else (f_X9_isBetween p2 0 999).bind fun r10 => if r10 = 0 then (f_X9_fail z1 2).bind fun r19 => some (r19.1, r19.2) else (f_X9_beginAct N z1).bind fun r13 => gd 21 1384 ((f_X9_access N r13 p0 p1 p2).bind fun r16 => gd 21 1384 (some (((r16.1.1 0 (Int32.toNatClampNeg 21)) - (r13.1.1 0 (Int32.toNatClampNeg 21))), r16)))
set_option maxHeartbeats 4000000 in
set_option maxRecDepth 100000 in
theorem c_X9_write {l : Launch} {G : va_G} {cA : Nat → ClassId} {lo : Nat} {ad : Nat → Nat} {P : MdlS → Heap → Prop} (hC : cx G lo 9 ad (ceModel cA ad) P) {N : Nat} {μ : MdlS} {p0 : Int32} {p1 : Int32} {p2 : Int32} {res : Int32 × MdlS} (hf : f_X9_write N μ p0 p1 p2 = some res) : Met l yX9_write (cW yX9_write cX9_write 5 (some .int)) rm_X9_write (cP [.ref (ad 0), .int p0, .int p1, .int p2] (P μ) G cA) (cQ (some (.int res.1)) (P res.2)) 0 0 (fun q => lo ≤ q) := by
  refine cx_met (by decide) (Nat.le_of_ble_eq_true rfl) (fun p e s m args below meth c ls C0 hP hl => ?_)
  have hl : lv_has ls 5 [(0, .ref (ad 0)), (1, .int p0), (2, .int p1), (3, .int p2)] := hl
  obtain ⟨⟨hx, hb, hml, hown, hts⟩, hr, hlocks, hK⟩ := id C0
  have hL : ∀ q ∈ ([] : List Loc), lo ≤ q.base := fun q h => nomatch h
  unfold f_X9_write at hf
  refine lv_aload_n hx hb dX9_write_0 rfl (lv_at hl 0 rfl) ?_
  refine lv_iconst (v := 0) hx hb dX9_write_1 (by decide) ?_
  obtain ⟨z1, ez1, hf⟩ := cx_letE hf
  refine p_Model_6 hC hP hx hb hts hown hK mw_149 dX9_write_2 hL (fun H locs hP hL => ?_)
  replace hP : P z1 H := by rw [← ez1]; exact hP
  refine lv_aload_n hx hb dX9_write_5 rfl (lv_at hl 0 rfl) ?_
  refine lv_iload_n hx hb dX9_write_6 rfl (lv_at hl 1 rfl) ?_
  obtain ⟨r2, q3, hf⟩ := cx_b hf
  refine cx_callV (As := [.int p0]) (rest := []) ⟨hx, hb, hml, hown, hts⟩ (c_X9_isClient hC q3) (cwV 1 hts (gV mw_598 mw_599 mw_600 mw_5 mw_601) rfl rfl rfl hd_X9_isClient ⟨Nat.le_of_ble_eq_true rfl, Nat.le_of_ble_eq_true rfl⟩) hK hP rfl (at_Model hC hP) rfl hl.1 rfl (Nat.le_of_ble_eq_true rfl) dX9_write_7 ⟨Nat.zero_le _, Nat.zero_le _⟩ hL (fun H locs hP hL => ?_)
  replace hP : P z1 H := by first | exact hP | (simpa only [va_up_id] using hP)
  refine lv_if_ne (tgt := 19) hx hb dX9_write_10 (by decide) (fun c4 => ?_) (fun c4 => ?_)
  · have hf := cx_f hf c4
    refine lv_iload_n hx hb dX9_write_19 rfl (lv_at hl 2 rfl) ?_
    obtain ⟨r5, q6, hf⟩ := cx_b hf
    refine cx_callS (As := [.int p1]) (rest := []) ⟨hx, hb, hml, hown, hts⟩ (c_X9_isBlock (PH := P z1) q6) (cwS 1 hts (gS mw_918 mw_919 mw_5 mw_920) rfl rfl rfl hd_X9_isBlock ⟨Nat.le_of_ble_eq_true rfl, Nat.le_of_ble_eq_true rfl⟩) hK hP rfl hl.1 rfl (Nat.le_of_ble_eq_true rfl) dX9_write_20 ⟨Nat.zero_le _, Nat.zero_le _⟩ hL (fun H locs hP hL => ?_)
    refine lv_if_eq (tgt := 37) hx hb dX9_write_23 (by decide) (fun c7 => ?_) (fun c7 => ?_)
    · have hf := cx_t hf c7
      refine lv_aload_n hx hb dX9_write_37 rfl (lv_at hl 0 rfl) ?_
      refine lv_iconst (v := 2) hx hb dX9_write_38 (by decide) ?_
      obtain ⟨r8, q9, hf⟩ := cx_b hf
      refine cx_callV (As := [.int 2]) (rest := []) ⟨hx, hb, hml, hown, hts⟩ (c_X9_fail hC q9) (cwV 1 hts (gV mw_151 mw_152 mw_153 mw_5 mw_154) rfl rfl rfl hd_X9_fail ⟨Nat.le_of_ble_eq_true rfl, Nat.le_of_ble_eq_true rfl⟩) hK hP rfl (at_Model hC hP) rfl hl.1 rfl (Nat.le_of_ble_eq_true rfl) dX9_write_39 ⟨Nat.zero_le _, Nat.zero_le _⟩ hL (fun H locs hP hL => ?_)
      replace hP : P r8.2 H := by first | exact hP | (simpa only [va_up_id] using hP)
      cases hf
      exact cx_iret hx hb hr hlocks hP hL dX9_write_42
    · have hf := cx_f hf c7
      refine lv_iload_n hx hb dX9_write_26 rfl (lv_at hl 3 rfl) ?_
      refine lv_iconst (v := 0) hx hb dX9_write_27 (by decide) ?_
      refine lv_sipush (v := 999) hx hb dX9_write_28 (by decide) ?_
      obtain ⟨r10, q11, hf⟩ := cx_b hf
      refine cx_callS (As := [.int p2, .int 0, .int 999]) (rest := []) ⟨hx, hb, hml, hown, hts⟩ (c_X9_isBetween (PH := P z1) q11) (cwS 3 hts (gS mw_176 mw_177 mw_5 mw_178) rfl rfl rfl hd_X9_isBetween ⟨Nat.le_of_ble_eq_true rfl, Nat.le_of_ble_eq_true rfl⟩) hK hP rfl hl.1 rfl (Nat.le_of_ble_eq_true rfl) dX9_write_31 ⟨Nat.zero_le _, Nat.zero_le _⟩ hL (fun H locs hP hL => ?_)
      refine lv_if_ne (tgt := 43) hx hb dX9_write_34 (by decide) (fun c12 => ?_) (fun c12 => ?_)
      · have hf := cx_f hf c12
        refine lv_aload_n hx hb dX9_write_43 rfl (lv_at hl 0 rfl) ?_
        obtain ⟨r13, q14, hf⟩ := cx_b hf
        refine cx_callV (As := []) (rest := []) ⟨hx, hb, hml, hown, hts⟩ (c_X9_beginAct hC q14) (cwV 0 hts (gV mw_590 mw_591 mw_592 mw_5 mw_593) rfl rfl rfl hd_X9_beginAct ⟨Nat.le_of_ble_eq_true rfl, Nat.le_of_ble_eq_true rfl⟩) hK hP rfl (at_Model hC hP) rfl hl.1 rfl (Nat.le_of_ble_eq_true rfl) dX9_write_44 ⟨Nat.zero_le _, Nat.zero_le _⟩ hL (fun H locs hP hL => ?_)
        replace hP : P r13 H := by first | exact hP | (simpa only [va_up_id] using hP)
        refine lv_aload_n hx hb dX9_write_47 rfl (lv_at hl 0 rfl) ?_
        refine g_Model_0 hC hP hx hb hts hown hK mw_114 dX9_write_48 ?_
        refine lv_bipush (v := 21) hx hb dX9_write_51 (by decide) ?_
        obtain ⟨hi15, hf⟩ := gdE hf
        refine ga_Model_0 hC hP hx hb hK hi15 dX9_write_53 ?_
        refine lv_istore (lv' := [(4, .int (r13.1.1 0 (Int32.toNatClampNeg 21))), (0, .ref (ad 0)), (1, .int p0), (2, .int p1), (3, .int p2)]) hx hb dX9_write_54 hl (by decide) rfl (fun ls hl => ?_)
        refine lv_aload_n hx hb dX9_write_56 rfl (lv_at hl 1 rfl) ?_
        refine lv_iload_n hx hb dX9_write_57 rfl (lv_at hl 2 rfl) ?_
        refine lv_iload_n hx hb dX9_write_58 rfl (lv_at hl 3 rfl) ?_
        refine lv_iload_n hx hb dX9_write_59 rfl (lv_at hl 4 rfl) ?_
        obtain ⟨r16, q17, hf⟩ := cx_b hf
        refine cx_callV (As := [.int p0, .int p1, .int p2]) (rest := []) ⟨hx, hb, hml, hown, hts⟩ (c_X9_access hC q17) (cwV 3 hts (gV mw_626 mw_627 mw_628 mw_5 mw_629) rfl rfl rfl hd_X9_access ⟨Nat.le_of_ble_eq_true rfl, Nat.le_of_ble_eq_true rfl⟩) hK hP rfl (at_Model hC hP) rfl hl.1 rfl (Nat.le_of_ble_eq_true rfl) dX9_write_60 ⟨Nat.zero_le _, Nat.zero_le _⟩ hL (fun H locs hP hL => ?_)
        replace hP : P r16 H := by first | exact hP | (simpa only [va_up_id] using hP)
        refine lv_aload_n hx hb dX9_write_63 rfl (lv_at hl 1 rfl) ?_
        refine g_Model_0 hC hP hx hb hts hown hK mw_114 dX9_write_64 ?_
        refine lv_bipush (v := 21) hx hb dX9_write_67 (by decide) ?_
        obtain ⟨hi18, hf⟩ := gdE hf
        refine ga_Model_0 hC hP hx hb hK hi18 dX9_write_69 ?_
        refine lv_iload hx hb dX9_write_70 (lv_at hl 0 rfl) ?_
        refine lv_isub hx hb dX9_write_72 ?_
        cases hf
        exact cx_iret hx hb hr hlocks hP hL dX9_write_73
      · have hf := cx_t hf c12
        refine lv_aload_n hx hb dX9_write_37 rfl (lv_at hl 0 rfl) ?_
        refine lv_iconst (v := 2) hx hb dX9_write_38 (by decide) ?_
        obtain ⟨r19, q20, hf⟩ := cx_b hf
        refine cx_callV (As := [.int 2]) (rest := []) ⟨hx, hb, hml, hown, hts⟩ (c_X9_fail hC q20) (cwV 1 hts (gV mw_151 mw_152 mw_153 mw_5 mw_154) rfl rfl rfl hd_X9_fail ⟨Nat.le_of_ble_eq_true rfl, Nat.le_of_ble_eq_true rfl⟩) hK hP rfl (at_Model hC hP) rfl hl.1 rfl (Nat.le_of_ble_eq_true rfl) dX9_write_39 ⟨Nat.zero_le _, Nat.zero_le _⟩ hL (fun H locs hP hL => ?_)
        replace hP : P r19.2 H := by first | exact hP | (simpa only [va_up_id] using hP)
        cases hf
        exact cx_iret hx hb hr hlocks hP hL dX9_write_42
  · have hf := cx_t hf c4
    refine lv_aload_n hx hb dX9_write_13 rfl (lv_at hl 0 rfl) ?_
    refine lv_iconst (v := 1) hx hb dX9_write_14 (by decide) ?_
    obtain ⟨r21, q22, hf⟩ := cx_b hf
    refine cx_callV (As := [.int 1]) (rest := []) ⟨hx, hb, hml, hown, hts⟩ (c_X9_fail hC q22) (cwV 1 hts (gV mw_151 mw_152 mw_153 mw_5 mw_154) rfl rfl rfl hd_X9_fail ⟨Nat.le_of_ble_eq_true rfl, Nat.le_of_ble_eq_true rfl⟩) hK hP rfl (at_Model hC hP) rfl hl.1 rfl (Nat.le_of_ble_eq_true rfl) dX9_write_15 ⟨Nat.zero_le _, Nat.zero_le _⟩ hL (fun H locs hP hL => ?_)
    replace hP : P r21.2 H := by first | exact hP | (simpa only [va_up_id] using hP)
    cases hf
    exact cx_iret hx hb hr hlocks hP hL dX9_write_18
abbrev rm_X9_flush : Room := { frames := 4, cells := 0, slots := 0, locals := 90 }
theorem hd_X9_flush : yX9_flush.cls = RX9 ∧ yX9_flush.cls ≠ "java/lang/invoke/MethodHandle" ∧ yX9_flush.cls ≠ "java/lang/invoke/VarHandle" ∧ (parseMethodDescriptor yX9_flush.desc).map (fun d => d.parameters.length) = some 1 := by decide +kernel
def f_X9_flush (N : Nat) (μ : MdlS) (p0 : Int32) : Option (Int32 × MdlS) := cx_let ((oI μ.1 6 0, μ.2)) fun z1 => (f_X9_isBetween p0 1 40).bind fun r2 => if r2 = 0 then (f_X9_fail z1 1).bind fun r9 => some (r9.1, r9.2) else (f_X9_beginAct N z1).bind fun r5 => (f_X9_writeBack N r5 p0).bind fun r7 => some (r7.1, r7.2)
set_option maxHeartbeats 4000000 in
set_option maxRecDepth 100000 in
theorem c_X9_flush {l : Launch} {G : va_G} {cA : Nat → ClassId} {lo : Nat} {ad : Nat → Nat} {P : MdlS → Heap → Prop} (hC : cx G lo 9 ad (ceModel cA ad) P) {N : Nat} {μ : MdlS} {p0 : Int32} {res : Int32 × MdlS} (hf : f_X9_flush N μ p0 = some res) : Met l yX9_flush (cW yX9_flush cX9_flush 2 (some .int)) rm_X9_flush (cP [.ref (ad 0), .int p0] (P μ) G cA) (cQ (some (.int res.1)) (P res.2)) 0 0 (fun q => lo ≤ q) := by
  refine cx_met (by decide) (Nat.le_of_ble_eq_true rfl) (fun p e s m args below meth c ls C0 hP hl => ?_)
  have hl : lv_has ls 2 [(0, .ref (ad 0)), (1, .int p0)] := hl
  obtain ⟨⟨hx, hb, hml, hown, hts⟩, hr, hlocks, hK⟩ := id C0
  have hL : ∀ q ∈ ([] : List Loc), lo ≤ q.base := fun q h => nomatch h
  unfold f_X9_flush at hf
  refine lv_aload_n hx hb dX9_flush_0 rfl (lv_at hl 0 rfl) ?_
  refine lv_iconst (v := 0) hx hb dX9_flush_1 (by decide) ?_
  obtain ⟨z1, ez1, hf⟩ := cx_letE hf
  refine p_Model_6 hC hP hx hb hts hown hK mw_149 dX9_flush_2 hL (fun H locs hP hL => ?_)
  replace hP : P z1 H := by rw [← ez1]; exact hP
  refine lv_iload_n hx hb dX9_flush_5 rfl (lv_at hl 1 rfl) ?_
  refine lv_iconst (v := 1) hx hb dX9_flush_6 (by decide) ?_
  refine lv_bipush (v := 40) hx hb dX9_flush_7 (by decide) ?_
  obtain ⟨r2, q3, hf⟩ := cx_b hf
  refine cx_callS (As := [.int p0, .int 1, .int 40]) (rest := []) ⟨hx, hb, hml, hown, hts⟩ (c_X9_isBetween (PH := P z1) q3) (cwS 3 hts (gS mw_176 mw_177 mw_5 mw_178) rfl rfl rfl hd_X9_isBetween ⟨Nat.le_of_ble_eq_true rfl, Nat.le_of_ble_eq_true rfl⟩) hK hP rfl hl.1 rfl (Nat.le_of_ble_eq_true rfl) dX9_flush_9 ⟨Nat.zero_le _, Nat.zero_le _⟩ hL (fun H locs hP hL => ?_)
  refine lv_if_ne (tgt := 21) hx hb dX9_flush_12 (by decide) (fun c4 => ?_) (fun c4 => ?_)
  · have hf := cx_f hf c4
    refine lv_aload_n hx hb dX9_flush_21 rfl (lv_at hl 0 rfl) ?_
    obtain ⟨r5, q6, hf⟩ := cx_b hf
    refine cx_callV (As := []) (rest := []) ⟨hx, hb, hml, hown, hts⟩ (c_X9_beginAct hC q6) (cwV 0 hts (gV mw_590 mw_591 mw_592 mw_5 mw_593) rfl rfl rfl hd_X9_beginAct ⟨Nat.le_of_ble_eq_true rfl, Nat.le_of_ble_eq_true rfl⟩) hK hP rfl (at_Model hC hP) rfl hl.1 rfl (Nat.le_of_ble_eq_true rfl) dX9_flush_22 ⟨Nat.zero_le _, Nat.zero_le _⟩ hL (fun H locs hP hL => ?_)
    replace hP : P r5 H := by first | exact hP | (simpa only [va_up_id] using hP)
    refine lv_aload_n hx hb dX9_flush_25 rfl (lv_at hl 0 rfl) ?_
    refine lv_iload_n hx hb dX9_flush_26 rfl (lv_at hl 1 rfl) ?_
    obtain ⟨r7, q8, hf⟩ := cx_b hf
    refine cx_callV (As := [.int p0]) (rest := []) ⟨hx, hb, hml, hown, hts⟩ (c_X9_writeBack hC q8) (cwV 1 hts (gV mw_606 mw_607 mw_608 mw_5 mw_609) rfl rfl rfl hd_X9_writeBack ⟨Nat.le_of_ble_eq_true rfl, Nat.le_of_ble_eq_true rfl⟩) hK hP rfl (at_Model hC hP) rfl hl.1 rfl (Nat.le_of_ble_eq_true rfl) dX9_flush_27 ⟨Nat.zero_le _, Nat.zero_le _⟩ hL (fun H locs hP hL => ?_)
    replace hP : P r7.2 H := by first | exact hP | (simpa only [va_up_id] using hP)
    cases hf
    exact cx_iret hx hb hr hlocks hP hL dX9_flush_30
  · have hf := cx_t hf c4
    refine lv_aload_n hx hb dX9_flush_15 rfl (lv_at hl 0 rfl) ?_
    refine lv_iconst (v := 1) hx hb dX9_flush_16 (by decide) ?_
    obtain ⟨r9, q10, hf⟩ := cx_b hf
    refine cx_callV (As := [.int 1]) (rest := []) ⟨hx, hb, hml, hown, hts⟩ (c_X9_fail hC q10) (cwV 1 hts (gV mw_151 mw_152 mw_153 mw_5 mw_154) rfl rfl rfl hd_X9_fail ⟨Nat.le_of_ble_eq_true rfl, Nat.le_of_ble_eq_true rfl⟩) hK hP rfl (at_Model hC hP) rfl hl.1 rfl (Nat.le_of_ble_eq_true rfl) dX9_flush_17 ⟨Nat.zero_le _, Nat.zero_le _⟩ hL (fun H locs hP hL => ?_)
    replace hP : P r9.2 H := by first | exact hP | (simpa only [va_up_id] using hP)
    cases hf
    exact cx_iret hx hb hr hlocks hP hL dX9_flush_20
abbrev rm_X9_forget : Room := { frames := 4, cells := 0, slots := 0, locals := 91 }
theorem hd_X9_forget : yX9_forget.cls = RX9 ∧ yX9_forget.cls ≠ "java/lang/invoke/MethodHandle" ∧ yX9_forget.cls ≠ "java/lang/invoke/VarHandle" ∧ (parseMethodDescriptor yX9_forget.desc).map (fun d => d.parameters.length) = some 1 := by decide +kernel
def f_X9_forget_b44 (N : Nat) (μ : MdlS) (x1 : Int32) (y0 : Int32) : Option (Int32 × MdlS) := if y0 = 0 then (f_X9_dropGhost N μ x1).bind fun r2 => zb y0 (some (y0, r2)) else (f_X9_move N μ x1 (-1)).bind fun r5 => (f_X9_dropGhost N r5 x1).bind fun r7 => zb y0 (some (y0, r7))
set_option maxHeartbeats 4000000 in
set_option maxRecDepth 100000 in
theorem w_X9_forget_b44 {p : Program} {l : Launch} {e : Env} {s : State} {m : MethodId} {args : Array Value} {below : List Frame} {meth : Method} {c : Code} {G : va_G} {cA : Nat → ClassId} (C0 : cB p s m args meth c RX9 cX9_forget 3 (some .boolean) G cA) {lo : Nat} {ad : Nat → Nat} {P : MdlS → Heap → Prop} (hC : cx G lo 9 ad (ceModel cA ad) P) {N : Nat} {res : Int32 × MdlS} : ∀ (μ : MdlS) (x1 : Int32) (y0 : Int32) (H : Heap) (locs : List Loc) (ls : Array Slot), f_X9_forget_b44 N μ x1 y0 = some res → P μ H → (∀ q ∈ locs, lo ≤ q.base) → lv_has ls 3 [(0, .ref (ad 0)), (1, .int x1)] → W p l e rm_X9_forget s m args below meth c H locs 0 0 (MQ below (cQ (some (.int res.1)) (P res.2)) args s 0 0 (fun q => lo ≤ q)) (F0 m 44 ls [.int y0]) := by
  obtain ⟨⟨hx, hb, hml, hown, hts⟩, hr, hlocks, hK⟩ := id C0
  intro μ x1 y0 H locs ls hf hP hL hl
  unfold f_X9_forget_b44 at hf
  refine lv_istore_n (lv' := [(2, .int y0), (0, .ref (ad 0)), (1, .int x1)]) hx hb dX9_forget_44 rfl hl (by decide) rfl (fun ls hl => ?_)
  refine lv_iload_n hx hb dX9_forget_45 rfl (lv_at hl 0 rfl) ?_
  refine lv_if_eq (tgt := 55) hx hb dX9_forget_46 (by decide) (fun c1 => ?_) (fun c1 => ?_)
  · have hf := cx_t hf c1
    refine lv_aload_n hx hb dX9_forget_55 rfl (lv_at hl 1 rfl) ?_
    refine lv_iload_n hx hb dX9_forget_56 rfl (lv_at hl 2 rfl) ?_
    obtain ⟨r2, q3, hf⟩ := cx_b hf
    refine cx_callV (As := [.int x1]) (rest := []) ⟨hx, hb, hml, hown, hts⟩ (c_X9_dropGhost hC q3) (cwV 1 hts (gV mw_697 mw_698 mw_699 mw_5 mw_700) rfl rfl rfl hd_X9_dropGhost ⟨Nat.le_of_ble_eq_true rfl, Nat.le_of_ble_eq_true rfl⟩) hK hP rfl (at_Model hC hP) rfl hl.1 rfl (Nat.le_of_ble_eq_true rfl) dX9_forget_57 ⟨Nat.zero_le _, Nat.zero_le _⟩ hL (fun H locs hP hL => ?_)
    replace hP : P r2 H := by first | exact hP | (simpa only [va_up_id] using hP)
    refine lv_iload_n hx hb dX9_forget_60 rfl (lv_at hl 0 rfl) ?_
    obtain ⟨hz4, hf⟩ := zbE hf
    cases hf
    exact cx_zret hx hb hr hlocks hz4 hP hL dX9_forget_61
  · have hf := cx_f hf c1
    refine lv_aload_n hx hb dX9_forget_49 rfl (lv_at hl 1 rfl) ?_
    refine lv_iload_n hx hb dX9_forget_50 rfl (lv_at hl 2 rfl) ?_
    refine lv_iconst (v := (-1)) hx hb dX9_forget_51 (by decide) ?_
    obtain ⟨r5, q6, hf⟩ := cx_b hf
    refine cx_callV (As := [.int x1, .int (-1)]) (rest := []) ⟨hx, hb, hml, hown, hts⟩ (c_X9_move hC q6) (cwV 2 hts (gV mw_647 mw_648 mw_649 mw_5 mw_650) rfl rfl rfl hd_X9_move ⟨Nat.le_of_ble_eq_true rfl, Nat.le_of_ble_eq_true rfl⟩) hK hP rfl (at_Model hC hP) rfl hl.1 rfl (Nat.le_of_ble_eq_true rfl) dX9_forget_52 ⟨Nat.zero_le _, Nat.zero_le _⟩ hL (fun H locs hP hL => ?_)
    replace hP : P r5 H := by first | exact hP | (simpa only [va_up_id] using hP)
    refine lv_aload_n hx hb dX9_forget_55 rfl (lv_at hl 1 rfl) ?_
    refine lv_iload_n hx hb dX9_forget_56 rfl (lv_at hl 2 rfl) ?_
    obtain ⟨r7, q8, hf⟩ := cx_b hf
    refine cx_callV (As := [.int x1]) (rest := []) ⟨hx, hb, hml, hown, hts⟩ (c_X9_dropGhost hC q8) (cwV 1 hts (gV mw_697 mw_698 mw_699 mw_5 mw_700) rfl rfl rfl hd_X9_dropGhost ⟨Nat.le_of_ble_eq_true rfl, Nat.le_of_ble_eq_true rfl⟩) hK hP rfl (at_Model hC hP) rfl hl.1 rfl (Nat.le_of_ble_eq_true rfl) dX9_forget_57 ⟨Nat.zero_le _, Nat.zero_le _⟩ hL (fun H locs hP hL => ?_)
    replace hP : P r7 H := by first | exact hP | (simpa only [va_up_id] using hP)
    refine lv_iload_n hx hb dX9_forget_60 rfl (lv_at hl 0 rfl) ?_
    obtain ⟨hz9, hf⟩ := zbE hf
    cases hf
    exact cx_zret hx hb hr hlocks hz9 hP hL dX9_forget_61
def f_X9_forget_b13 (N : Nat) (μ : MdlS) (x1 : Int32) (y0 : Int32) : Option (Int32 × MdlS) := cx_let ((oI μ.1 6 y0, μ.2)) fun z1 => if z1.1.2 6 = 0 then (f_X9_beginAct N z1).bind fun r3 => (f_X9_of r3 x1 0).bind fun r5 => if r5 = (-1) then f_X9_forget_b44 N r3 x1 0 else f_X9_forget_b44 N r3 x1 1 else some (0, z1)
set_option maxHeartbeats 4000000 in
set_option maxRecDepth 100000 in
theorem w_X9_forget_b13 {p : Program} {l : Launch} {e : Env} {s : State} {m : MethodId} {args : Array Value} {below : List Frame} {meth : Method} {c : Code} {G : va_G} {cA : Nat → ClassId} (C0 : cB p s m args meth c RX9 cX9_forget 3 (some .boolean) G cA) {lo : Nat} {ad : Nat → Nat} {P : MdlS → Heap → Prop} (hC : cx G lo 9 ad (ceModel cA ad) P) {N : Nat} {res : Int32 × MdlS} : ∀ (μ : MdlS) (x1 : Int32) (y0 : Int32) (H : Heap) (locs : List Loc) (ls : Array Slot), f_X9_forget_b13 N μ x1 y0 = some res → P μ H → (∀ q ∈ locs, lo ≤ q.base) → lv_has ls 3 [(0, .ref (ad 0)), (1, .int x1)] → W p l e rm_X9_forget s m args below meth c H locs 0 0 (MQ below (cQ (some (.int res.1)) (P res.2)) args s 0 0 (fun q => lo ≤ q)) (F0 m 13 ls [.int y0, .ref (ad 0)]) := by
  obtain ⟨⟨hx, hb, hml, hown, hts⟩, hr, hlocks, hK⟩ := id C0
  intro μ x1 y0 H locs ls hf hP hL hl
  unfold f_X9_forget_b13 at hf
  obtain ⟨z1, ez1, hf⟩ := cx_letE hf
  refine p_Model_6 hC hP hx hb hts hown hK mw_149 dX9_forget_13 hL (fun H locs hP hL => ?_)
  replace hP : P z1 H := by rw [← ez1]; exact hP
  refine lv_aload_n hx hb dX9_forget_16 rfl (lv_at hl 0 rfl) ?_
  refine g_Model_6 hC hP hx hb hts hown hK mw_149 dX9_forget_17 ?_
  refine lv_if_eq (tgt := 25) hx hb dX9_forget_20 (by decide) (fun c2 => ?_) (fun c2 => ?_)
  · have hf := cx_t hf c2
    refine lv_aload_n hx hb dX9_forget_25 rfl (lv_at hl 0 rfl) ?_
    obtain ⟨r3, q4, hf⟩ := cx_b hf
    refine cx_callV (As := []) (rest := []) ⟨hx, hb, hml, hown, hts⟩ (c_X9_beginAct hC q4) (cwV 0 hts (gV mw_590 mw_591 mw_592 mw_5 mw_593) rfl rfl rfl hd_X9_beginAct ⟨Nat.le_of_ble_eq_true rfl, Nat.le_of_ble_eq_true rfl⟩) hK hP rfl (at_Model hC hP) rfl hl.1 rfl (Nat.le_of_ble_eq_true rfl) dX9_forget_26 ⟨Nat.zero_le _, Nat.zero_le _⟩ hL (fun H locs hP hL => ?_)
    replace hP : P r3 H := by first | exact hP | (simpa only [va_up_id] using hP)
    refine lv_aload_n hx hb dX9_forget_29 rfl (lv_at hl 0 rfl) ?_
    refine lv_iload_n hx hb dX9_forget_30 rfl (lv_at hl 1 rfl) ?_
    refine lv_iconst (v := 0) hx hb dX9_forget_31 (by decide) ?_
    obtain ⟨r5, q6, hf⟩ := cx_b hf
    refine cx_callV (As := [.int x1, .int 0]) (rest := []) ⟨hx, hb, hml, hown, hts⟩ (c_X9_of hC q6) (cwV 2 hts (gV mw_618 mw_619 mw_620 mw_5 mw_621) rfl rfl rfl hd_X9_of ⟨Nat.le_of_ble_eq_true rfl, Nat.le_of_ble_eq_true rfl⟩) hK hP rfl (at_Model hC hP) rfl hl.1 rfl (Nat.le_of_ble_eq_true rfl) dX9_forget_32 ⟨Nat.zero_le _, Nat.zero_le _⟩ hL (fun H locs hP hL => ?_)
    replace hP : P r3 H := by first | exact hP | (simpa only [va_up_id] using hP)
    refine lv_iconst (v := (-1)) hx hb dX9_forget_35 (by decide) ?_
    refine lv_icmp_eq (tgt := 43) hx hb dX9_forget_36 (by decide) (fun c7 => ?_) (fun c7 => ?_)
    · have hf := cx_t hf c7
      refine lv_iconst (v := 0) hx hb dX9_forget_43 (by decide) ?_
      exact w_X9_forget_b44 C0 hC r3 x1 0 _ _ _ hf hP hL (lv_sub hl [0, 1] rfl)
    · have hf := cx_f hf c7
      refine lv_iconst (v := 1) hx hb dX9_forget_39 (by decide) ?_
      refine lv_goto (tgt := 44) hx hb dX9_forget_40 (by decide) ?_
      exact w_X9_forget_b44 C0 hC r3 x1 1 _ _ _ hf hP hL (lv_sub hl [0, 1] rfl)
  · have hf := cx_f hf c2
    refine lv_iconst (v := 0) hx hb dX9_forget_23 (by decide) ?_
    cases hf
    exact cx_zret hx hb hr hlocks (Or.inl rfl) hP hL dX9_forget_24
def f_X9_forget (N : Nat) (μ : MdlS) (p0 : Int32) : Option (Int32 × MdlS) := (f_X9_isBlock p0).bind fun r1 => if r1 = 0 then f_X9_forget_b13 N μ p0 1 else f_X9_forget_b13 N μ p0 0
set_option maxHeartbeats 4000000 in
set_option maxRecDepth 100000 in
theorem c_X9_forget {l : Launch} {G : va_G} {cA : Nat → ClassId} {lo : Nat} {ad : Nat → Nat} {P : MdlS → Heap → Prop} (hC : cx G lo 9 ad (ceModel cA ad) P) {N : Nat} {μ : MdlS} {p0 : Int32} {res : Int32 × MdlS} (hf : f_X9_forget N μ p0 = some res) : Met l yX9_forget (cW yX9_forget cX9_forget 3 (some .boolean)) rm_X9_forget (cP [.ref (ad 0), .int p0] (P μ) G cA) (cQ (some (.int res.1)) (P res.2)) 0 0 (fun q => lo ≤ q) := by
  refine cx_met (by decide) (Nat.le_of_ble_eq_true rfl) (fun p e s m args below meth c ls C0 hP hl => ?_)
  have hl : lv_has ls 3 [(0, .ref (ad 0)), (1, .int p0)] := hl
  obtain ⟨⟨hx, hb, hml, hown, hts⟩, hr, hlocks, hK⟩ := id C0
  have hL : ∀ q ∈ ([] : List Loc), lo ≤ q.base := fun q h => nomatch h
  unfold f_X9_forget at hf
  refine lv_aload_n hx hb dX9_forget_0 rfl (lv_at hl 0 rfl) ?_
  refine lv_iload_n hx hb dX9_forget_1 rfl (lv_at hl 1 rfl) ?_
  obtain ⟨r1, q2, hf⟩ := cx_b hf
  refine cx_callS (As := [.int p0]) (rest := [.ref (ad 0)]) ⟨hx, hb, hml, hown, hts⟩ (c_X9_isBlock (PH := P μ) q2) (cwS 1 hts (gS mw_918 mw_919 mw_5 mw_920) rfl rfl rfl hd_X9_isBlock ⟨Nat.le_of_ble_eq_true rfl, Nat.le_of_ble_eq_true rfl⟩) hK hP rfl hl.1 rfl (Nat.le_of_ble_eq_true rfl) dX9_forget_2 ⟨Nat.zero_le _, Nat.zero_le _⟩ hL (fun H locs hP hL => ?_)
  refine lv_if_eq (tgt := 12) hx hb dX9_forget_5 (by decide) (fun c3 => ?_) (fun c3 => ?_)
  · have hf := cx_t hf c3
    refine lv_iconst (v := 1) hx hb dX9_forget_12 (by decide) ?_
    exact w_X9_forget_b13 C0 hC μ p0 1 _ _ _ hf hP hL (lv_sub hl [0, 1] rfl)
  · have hf := cx_f hf c3
    refine lv_iconst (v := 0) hx hb dX9_forget_8 (by decide) ?_
    refine lv_goto (tgt := 13) hx hb dX9_forget_9 (by decide) ?_
    exact w_X9_forget_b13 C0 hC μ p0 0 _ _ _ hf hP hL (lv_sub hl [0, 1] rfl)
abbrev rm_X9_count : Room := { frames := 3, cells := 0, slots := 0, locals := 65 }
theorem hd_X9_count : yX9_count.cls = RX9 ∧ yX9_count.cls ≠ "java/lang/invoke/MethodHandle" ∧ yX9_count.cls ≠ "java/lang/invoke/VarHandle" ∧ (parseMethodDescriptor yX9_count.desc).map (fun d => d.parameters.length) = some 1 := by decide +kernel
def f_X9_count (N : Nat) (μ : MdlS) (p0 : Int32) : Option (Int32 × MdlS) := cx_let ((oI μ.1 6 0, μ.2)) fun z1 => if p0 = 12 then (f_X9_dirtyUnits N z1).bind fun r3 => some (r3, z1) else if p0 = 23 then some (z1.1.2 5, z1) else (f_X9_isBetween p0 0 22).bind fun r6 => if r6 = 0 then (f_X9_fail z1 1).bind fun r9 => some (r9.1, r9.2) else gd p0 1384 (some ((z1.1.1 0 (Int32.toNatClampNeg p0)), z1))
set_option maxHeartbeats 4000000 in
set_option maxRecDepth 100000 in
theorem c_X9_count {l : Launch} {G : va_G} {cA : Nat → ClassId} {lo : Nat} {ad : Nat → Nat} {P : MdlS → Heap → Prop} (hC : cx G lo 9 ad (ceModel cA ad) P) {N : Nat} {μ : MdlS} {p0 : Int32} {res : Int32 × MdlS} (hf : f_X9_count N μ p0 = some res) : Met l yX9_count (cW yX9_count cX9_count 2 (some .int)) rm_X9_count (cP [.ref (ad 0), .int p0] (P μ) G cA) (cQ (some (.int res.1)) (P res.2)) 0 0 (fun q => lo ≤ q) := by
  refine cx_met (by decide) (Nat.le_of_ble_eq_true rfl) (fun p e s m args below meth c ls C0 hP hl => ?_)
  have hl : lv_has ls 2 [(0, .ref (ad 0)), (1, .int p0)] := hl
  obtain ⟨⟨hx, hb, hml, hown, hts⟩, hr, hlocks, hK⟩ := id C0
  have hL : ∀ q ∈ ([] : List Loc), lo ≤ q.base := fun q h => nomatch h
  unfold f_X9_count at hf
  refine lv_aload_n hx hb dX9_count_0 rfl (lv_at hl 0 rfl) ?_
  refine lv_iconst (v := 0) hx hb dX9_count_1 (by decide) ?_
  obtain ⟨z1, ez1, hf⟩ := cx_letE hf
  refine p_Model_6 hC hP hx hb hts hown hK mw_149 dX9_count_2 hL (fun H locs hP hL => ?_)
  replace hP : P z1 H := by rw [← ez1]; exact hP
  refine lv_iload_n hx hb dX9_count_5 rfl (lv_at hl 1 rfl) ?_
  by_cases c2 : p0 = 12
  · have hf := cx_t hf c2
    refine lv_lookup (off := 26) (tgt := 32) hx hb dX9_count_6 (by decide) (by rw [c2]; rfl) (by decide) ?_
    refine lv_aload_n hx hb dX9_count_32 rfl (lv_at hl 0 rfl) ?_
    obtain ⟨r3, q4, hf⟩ := cx_b hf
    refine cx_callV (As := []) (rest := []) ⟨hx, hb, hml, hown, hts⟩ (c_X9_dirtyUnits hC q4) (cwV 0 hts (gV mw_734 mw_735 mw_736 mw_5 mw_737) rfl rfl rfl hd_X9_dirtyUnits ⟨Nat.le_of_ble_eq_true rfl, Nat.le_of_ble_eq_true rfl⟩) hK hP rfl (at_Model hC hP) rfl hl.1 rfl (Nat.le_of_ble_eq_true rfl) dX9_count_33 ⟨Nat.zero_le _, Nat.zero_le _⟩ hL (fun H locs hP hL => ?_)
    replace hP : P z1 H := by first | exact hP | (simpa only [va_up_id] using hP)
    cases hf
    exact cx_iret hx hb hr hlocks hP hL dX9_count_36
  · have hf := cx_f hf c2
    by_cases c5 : p0 = 23
    · have hf := cx_t hf c5
      refine lv_lookup (off := 31) (tgt := 37) hx hb dX9_count_6 (by decide) (by rw [c5]; rfl) (by decide) ?_
      refine lv_aload_n hx hb dX9_count_37 rfl (lv_at hl 0 rfl) ?_
      refine g_Model_5 hC hP hx hb hts hown hK mw_594 dX9_count_38 ?_
      cases hf
      exact cx_iret hx hb hr hlocks hP hL dX9_count_41
    · have hf := cx_f hf c5
      refine lv_lookup (off := 36) (tgt := 42) hx hb dX9_count_6 (by decide) (by refine (lv_osw c2 (by decide)).trans ?_; refine (lv_osw c5 (by decide)).trans ?_; rfl) (by decide) ?_
      refine lv_iload_n hx hb dX9_count_42 rfl (lv_at hl 1 rfl) ?_
      refine lv_iconst (v := 0) hx hb dX9_count_43 (by decide) ?_
      refine lv_bipush (v := 22) hx hb dX9_count_44 (by decide) ?_
      obtain ⟨r6, q7, hf⟩ := cx_b hf
      refine cx_callS (As := [.int p0, .int 0, .int 22]) (rest := []) ⟨hx, hb, hml, hown, hts⟩ (c_X9_isBetween (PH := P z1) q7) (cwS 3 hts (gS mw_176 mw_177 mw_5 mw_178) rfl rfl rfl hd_X9_isBetween ⟨Nat.le_of_ble_eq_true rfl, Nat.le_of_ble_eq_true rfl⟩) hK hP rfl hl.1 rfl (Nat.le_of_ble_eq_true rfl) dX9_count_46 ⟨Nat.zero_le _, Nat.zero_le _⟩ hL (fun H locs hP hL => ?_)
      refine lv_if_eq (tgt := 61) hx hb dX9_count_49 (by decide) (fun c8 => ?_) (fun c8 => ?_)
      · have hf := cx_t hf c8
        refine lv_aload_n hx hb dX9_count_61 rfl (lv_at hl 0 rfl) ?_
        refine lv_iconst (v := 1) hx hb dX9_count_62 (by decide) ?_
        obtain ⟨r9, q10, hf⟩ := cx_b hf
        refine cx_callV (As := [.int 1]) (rest := []) ⟨hx, hb, hml, hown, hts⟩ (c_X9_fail hC q10) (cwV 1 hts (gV mw_151 mw_152 mw_153 mw_5 mw_154) rfl rfl rfl hd_X9_fail ⟨Nat.le_of_ble_eq_true rfl, Nat.le_of_ble_eq_true rfl⟩) hK hP rfl (at_Model hC hP) rfl hl.1 rfl (Nat.le_of_ble_eq_true rfl) dX9_count_63 ⟨Nat.zero_le _, Nat.zero_le _⟩ hL (fun H locs hP hL => ?_)
        replace hP : P r9.2 H := by first | exact hP | (simpa only [va_up_id] using hP)
        cases hf
        exact cx_iret hx hb hr hlocks hP hL dX9_count_66
      · have hf := cx_f hf c8
        refine lv_aload_n hx hb dX9_count_52 rfl (lv_at hl 0 rfl) ?_
        refine g_Model_0 hC hP hx hb hts hown hK mw_114 dX9_count_53 ?_
        refine lv_iload_n hx hb dX9_count_56 rfl (lv_at hl 1 rfl) ?_
        obtain ⟨hi11, hf⟩ := gdE hf
        refine ga_Model_0 hC hP hx hb hK hi11 dX9_count_57 ?_
        refine lv_goto (tgt := 66) hx hb dX9_count_58 (by decide) ?_
        cases hf
        exact cx_iret hx hb hr hlocks hP hL dX9_count_66
abbrev rm_X9_client : Room := { frames := 3, cells := 0, slots := 0, locals := 68 }
theorem hd_X9_client : yX9_client.cls = RX9 ∧ yX9_client.cls ≠ "java/lang/invoke/MethodHandle" ∧ yX9_client.cls ≠ "java/lang/invoke/VarHandle" ∧ (parseMethodDescriptor yX9_client.desc).map (fun d => d.parameters.length) = some 2 := by decide +kernel
def f_X9_client (N : Nat) (μ : MdlS) (p0 : Int32) (p1 : Int32) : Option (Int32 × MdlS) := cx_let ((oI μ.1 6 0, μ.2)) fun z1 => (f_X9_isClient z1 p0).bind fun r2 => if r2 = 0 then (f_X9_fail z1 1).bind fun r47 => some (r47.1, r47.2) else if p1 = 0 then (f_X9_ofClient z1 p0 0).bind fun r6 => some (r6, z1) else if p1 = 1 then if p1 = 1 then (f_X9_unitsOf N z1 p0 1).bind fun r12 => some (r12, z1) else (f_X9_unitsOf N z1 p0 0).bind fun r10 => some (r10, z1) else if p1 = 2 then if p1 = 1 then (f_X9_unitsOf N z1 p0 1).bind fun r18 => some (r18, z1) else (f_X9_unitsOf N z1 p0 0).bind fun r16 => some (r16, z1) else if p1 = 3 then (f_X9_ofClient z1 p0 (p1 - 2)).bind fun r21 => some (r21, z1) else if p1 = 4 then (f_X9_ofClient z1 p0 (p1 - 2)).bind fun r24 => some (r24, z1) else if p1 = 5 then (f_X9_ofClient z1 p0 (p1 - 2)).bind fun r27 => some (r27, z1) else if p1 = 6 then (f_X9_ofClient z1 p0 (p1 - 2)).bind fun r30 => some (r30, z1) else if p1 = 7 then (f_X9_ofClient z1 p0 (p1 - 2)).bind fun r33 => some (r33, z1) else if p1 = 8 then (f_X9_ofClient z1 p0 (p1 - 2)).bind fun r36 => some (r36, z1) else if p1 = 9 then (f_X9_ofClient z1 p0 (p1 - 2)).bind fun r39 => some (r39, z1) else if p1 = 10 then (f_X9_hasTooMuch N z1 p0).bind fun r42 => if r42 = 0 then some (0, z1) else some (1, z1) else (f_X9_fail z1 2).bind fun r45 => some (r45.1, r45.2)
set_option maxHeartbeats 4000000 in
set_option maxRecDepth 100000 in
theorem c_X9_client {l : Launch} {G : va_G} {cA : Nat → ClassId} {lo : Nat} {ad : Nat → Nat} {P : MdlS → Heap → Prop} (hC : cx G lo 9 ad (ceModel cA ad) P) {N : Nat} {μ : MdlS} {p0 : Int32} {p1 : Int32} {res : Int32 × MdlS} (hf : f_X9_client N μ p0 p1 = some res) : Met l yX9_client (cW yX9_client cX9_client 3 (some .int)) rm_X9_client (cP [.ref (ad 0), .int p0, .int p1] (P μ) G cA) (cQ (some (.int res.1)) (P res.2)) 0 0 (fun q => lo ≤ q) := by
  refine cx_met (by decide) (Nat.le_of_ble_eq_true rfl) (fun p e s m args below meth c ls C0 hP hl => ?_)
  have hl : lv_has ls 3 [(0, .ref (ad 0)), (1, .int p0), (2, .int p1)] := hl
  obtain ⟨⟨hx, hb, hml, hown, hts⟩, hr, hlocks, hK⟩ := id C0
  have hL : ∀ q ∈ ([] : List Loc), lo ≤ q.base := fun q h => nomatch h
  unfold f_X9_client at hf
  refine lv_aload_n hx hb dX9_client_0 rfl (lv_at hl 0 rfl) ?_
  refine lv_iconst (v := 0) hx hb dX9_client_1 (by decide) ?_
  obtain ⟨z1, ez1, hf⟩ := cx_letE hf
  refine p_Model_6 hC hP hx hb hts hown hK mw_149 dX9_client_2 hL (fun H locs hP hL => ?_)
  replace hP : P z1 H := by rw [← ez1]; exact hP
  refine lv_aload_n hx hb dX9_client_5 rfl (lv_at hl 0 rfl) ?_
  refine lv_iload_n hx hb dX9_client_6 rfl (lv_at hl 1 rfl) ?_
  obtain ⟨r2, q3, hf⟩ := cx_b hf
  refine cx_callV (As := [.int p0]) (rest := []) ⟨hx, hb, hml, hown, hts⟩ (c_X9_isClient hC q3) (cwV 1 hts (gV mw_598 mw_599 mw_600 mw_5 mw_601) rfl rfl rfl hd_X9_isClient ⟨Nat.le_of_ble_eq_true rfl, Nat.le_of_ble_eq_true rfl⟩) hK hP rfl (at_Model hC hP) rfl hl.1 rfl (Nat.le_of_ble_eq_true rfl) dX9_client_7 ⟨Nat.zero_le _, Nat.zero_le _⟩ hL (fun H locs hP hL => ?_)
  replace hP : P z1 H := by first | exact hP | (simpa only [va_up_id] using hP)
  refine lv_if_ne (tgt := 19) hx hb dX9_client_10 (by decide) (fun c4 => ?_) (fun c4 => ?_)
  · have hf := cx_f hf c4
    refine lv_iload_n hx hb dX9_client_19 rfl (lv_at hl 2 rfl) ?_
    by_cases c5 : p1 = 0
    · have hf := cx_t hf c5
      refine lv_tableIn (off := 60) (tgt := 80) hx hb dX9_client_20 (by rw [c5]; decide) (by rw [c5]; decide) (by rw [c5]; rfl) (by decide) ?_
      refine lv_aload_n hx hb dX9_client_80 rfl (lv_at hl 0 rfl) ?_
      refine lv_iload_n hx hb dX9_client_81 rfl (lv_at hl 1 rfl) ?_
      refine lv_iconst (v := 0) hx hb dX9_client_82 (by decide) ?_
      obtain ⟨r6, q7, hf⟩ := cx_b hf
      refine cx_callV (As := [.int p0, .int 0]) (rest := []) ⟨hx, hb, hml, hown, hts⟩ (c_X9_ofClient hC q7) (cwV 2 hts (gV mw_635 mw_636 mw_637 mw_5 mw_638) rfl rfl rfl hd_X9_ofClient ⟨Nat.le_of_ble_eq_true rfl, Nat.le_of_ble_eq_true rfl⟩) hK hP rfl (at_Model hC hP) rfl hl.1 rfl (Nat.le_of_ble_eq_true rfl) dX9_client_83 ⟨Nat.zero_le _, Nat.zero_le _⟩ hL (fun H locs hP hL => ?_)
      replace hP : P z1 H := by first | exact hP | (simpa only [va_up_id] using hP)
      cases hf
      exact cx_iret hx hb hr hlocks hP hL dX9_client_86
    · have hf := cx_f hf c5
      by_cases c8 : p1 = 1
      · have hf := cx_t hf c8
        refine lv_tableIn (off := 67) (tgt := 87) hx hb dX9_client_20 (by rw [c8]; decide) (by rw [c8]; decide) (by rw [c8]; rfl) (by decide) ?_
        refine lv_aload_n hx hb dX9_client_87 rfl (lv_at hl 0 rfl) ?_
        refine lv_iload_n hx hb dX9_client_88 rfl (lv_at hl 1 rfl) ?_
        refine lv_iload_n hx hb dX9_client_89 rfl (lv_at hl 2 rfl) ?_
        refine lv_iconst (v := 1) hx hb dX9_client_90 (by decide) ?_
        refine lv_icmp_ne (tgt := 98) hx hb dX9_client_91 (by decide) (fun c9 => ?_) (fun c9 => ?_)
        · have hf := cx_f hf c9
          refine lv_iconst (v := 0) hx hb dX9_client_98 (by decide) ?_
          obtain ⟨r10, q11, hf⟩ := cx_b hf
          refine cx_callV (As := [.int p0, .int 0]) (rest := []) ⟨hx, hb, hml, hown, hts⟩ (c_X9_unitsOf hC q11) (cwV 2 hts (gV mw_722 mw_723 mw_724 mw_5 mw_725) rfl rfl rfl hd_X9_unitsOf ⟨Nat.le_of_ble_eq_true rfl, Nat.le_of_ble_eq_true rfl⟩) hK hP rfl (at_Model hC hP) rfl hl.1 rfl (Nat.le_of_ble_eq_true rfl) dX9_client_99 ⟨Nat.zero_le _, Nat.zero_le _⟩ hL (fun H locs hP hL => ?_)
          replace hP : P z1 H := by first | exact hP | (simpa only [va_up_id] using hP)
          cases hf
          exact cx_iret hx hb hr hlocks hP hL dX9_client_102
        · have hf := cx_t hf c9
          refine lv_iconst (v := 1) hx hb dX9_client_94 (by decide) ?_
          refine lv_goto (tgt := 99) hx hb dX9_client_95 (by decide) ?_
          obtain ⟨r12, q13, hf⟩ := cx_b hf
          refine cx_callV (As := [.int p0, .int 1]) (rest := []) ⟨hx, hb, hml, hown, hts⟩ (c_X9_unitsOf hC q13) (cwV 2 hts (gV mw_722 mw_723 mw_724 mw_5 mw_725) rfl rfl rfl hd_X9_unitsOf ⟨Nat.le_of_ble_eq_true rfl, Nat.le_of_ble_eq_true rfl⟩) hK hP rfl (at_Model hC hP) rfl hl.1 rfl (Nat.le_of_ble_eq_true rfl) dX9_client_99 ⟨Nat.zero_le _, Nat.zero_le _⟩ hL (fun H locs hP hL => ?_)
          replace hP : P z1 H := by first | exact hP | (simpa only [va_up_id] using hP)
          cases hf
          exact cx_iret hx hb hr hlocks hP hL dX9_client_102
      · have hf := cx_f hf c8
        by_cases c14 : p1 = 2
        · have hf := cx_t hf c14
          refine lv_tableIn (off := 67) (tgt := 87) hx hb dX9_client_20 (by rw [c14]; decide) (by rw [c14]; decide) (by rw [c14]; rfl) (by decide) ?_
          refine lv_aload_n hx hb dX9_client_87 rfl (lv_at hl 0 rfl) ?_
          refine lv_iload_n hx hb dX9_client_88 rfl (lv_at hl 1 rfl) ?_
          refine lv_iload_n hx hb dX9_client_89 rfl (lv_at hl 2 rfl) ?_
          refine lv_iconst (v := 1) hx hb dX9_client_90 (by decide) ?_
          refine lv_icmp_ne (tgt := 98) hx hb dX9_client_91 (by decide) (fun c15 => ?_) (fun c15 => ?_)
          · have hf := cx_f hf c15
            refine lv_iconst (v := 0) hx hb dX9_client_98 (by decide) ?_
            obtain ⟨r16, q17, hf⟩ := cx_b hf
            refine cx_callV (As := [.int p0, .int 0]) (rest := []) ⟨hx, hb, hml, hown, hts⟩ (c_X9_unitsOf hC q17) (cwV 2 hts (gV mw_722 mw_723 mw_724 mw_5 mw_725) rfl rfl rfl hd_X9_unitsOf ⟨Nat.le_of_ble_eq_true rfl, Nat.le_of_ble_eq_true rfl⟩) hK hP rfl (at_Model hC hP) rfl hl.1 rfl (Nat.le_of_ble_eq_true rfl) dX9_client_99 ⟨Nat.zero_le _, Nat.zero_le _⟩ hL (fun H locs hP hL => ?_)
            replace hP : P z1 H := by first | exact hP | (simpa only [va_up_id] using hP)
            cases hf
            exact cx_iret hx hb hr hlocks hP hL dX9_client_102
          · have hf := cx_t hf c15
            refine lv_iconst (v := 1) hx hb dX9_client_94 (by decide) ?_
            refine lv_goto (tgt := 99) hx hb dX9_client_95 (by decide) ?_
            obtain ⟨r18, q19, hf⟩ := cx_b hf
            refine cx_callV (As := [.int p0, .int 1]) (rest := []) ⟨hx, hb, hml, hown, hts⟩ (c_X9_unitsOf hC q19) (cwV 2 hts (gV mw_722 mw_723 mw_724 mw_5 mw_725) rfl rfl rfl hd_X9_unitsOf ⟨Nat.le_of_ble_eq_true rfl, Nat.le_of_ble_eq_true rfl⟩) hK hP rfl (at_Model hC hP) rfl hl.1 rfl (Nat.le_of_ble_eq_true rfl) dX9_client_99 ⟨Nat.zero_le _, Nat.zero_le _⟩ hL (fun H locs hP hL => ?_)
            replace hP : P z1 H := by first | exact hP | (simpa only [va_up_id] using hP)
            cases hf
            exact cx_iret hx hb hr hlocks hP hL dX9_client_102
        · have hf := cx_f hf c14
          by_cases c20 : p1 = 3
          · have hf := cx_t hf c20
            refine lv_tableIn (off := 83) (tgt := 103) hx hb dX9_client_20 (by rw [c20]; decide) (by rw [c20]; decide) (by rw [c20]; rfl) (by decide) ?_
            refine lv_aload_n hx hb dX9_client_103 rfl (lv_at hl 0 rfl) ?_
            refine lv_iload_n hx hb dX9_client_104 rfl (lv_at hl 1 rfl) ?_
            refine lv_iload_n hx hb dX9_client_105 rfl (lv_at hl 2 rfl) ?_
            refine lv_iconst (v := 2) hx hb dX9_client_106 (by decide) ?_
            refine lv_isub hx hb dX9_client_107 ?_
            obtain ⟨r21, q22, hf⟩ := cx_b hf
            refine cx_callV (As := [.int p0, .int (p1 - 2)]) (rest := []) ⟨hx, hb, hml, hown, hts⟩ (c_X9_ofClient hC q22) (cwV 2 hts (gV mw_635 mw_636 mw_637 mw_5 mw_638) rfl rfl rfl hd_X9_ofClient ⟨Nat.le_of_ble_eq_true rfl, Nat.le_of_ble_eq_true rfl⟩) hK hP rfl (at_Model hC hP) rfl hl.1 rfl (Nat.le_of_ble_eq_true rfl) dX9_client_108 ⟨Nat.zero_le _, Nat.zero_le _⟩ hL (fun H locs hP hL => ?_)
            replace hP : P z1 H := by first | exact hP | (simpa only [va_up_id] using hP)
            cases hf
            exact cx_iret hx hb hr hlocks hP hL dX9_client_111
          · have hf := cx_f hf c20
            by_cases c23 : p1 = 4
            · have hf := cx_t hf c23
              refine lv_tableIn (off := 83) (tgt := 103) hx hb dX9_client_20 (by rw [c23]; decide) (by rw [c23]; decide) (by rw [c23]; rfl) (by decide) ?_
              refine lv_aload_n hx hb dX9_client_103 rfl (lv_at hl 0 rfl) ?_
              refine lv_iload_n hx hb dX9_client_104 rfl (lv_at hl 1 rfl) ?_
              refine lv_iload_n hx hb dX9_client_105 rfl (lv_at hl 2 rfl) ?_
              refine lv_iconst (v := 2) hx hb dX9_client_106 (by decide) ?_
              refine lv_isub hx hb dX9_client_107 ?_
              obtain ⟨r24, q25, hf⟩ := cx_b hf
              refine cx_callV (As := [.int p0, .int (p1 - 2)]) (rest := []) ⟨hx, hb, hml, hown, hts⟩ (c_X9_ofClient hC q25) (cwV 2 hts (gV mw_635 mw_636 mw_637 mw_5 mw_638) rfl rfl rfl hd_X9_ofClient ⟨Nat.le_of_ble_eq_true rfl, Nat.le_of_ble_eq_true rfl⟩) hK hP rfl (at_Model hC hP) rfl hl.1 rfl (Nat.le_of_ble_eq_true rfl) dX9_client_108 ⟨Nat.zero_le _, Nat.zero_le _⟩ hL (fun H locs hP hL => ?_)
              replace hP : P z1 H := by first | exact hP | (simpa only [va_up_id] using hP)
              cases hf
              exact cx_iret hx hb hr hlocks hP hL dX9_client_111
            · have hf := cx_f hf c23
              by_cases c26 : p1 = 5
              · have hf := cx_t hf c26
                refine lv_tableIn (off := 83) (tgt := 103) hx hb dX9_client_20 (by rw [c26]; decide) (by rw [c26]; decide) (by rw [c26]; rfl) (by decide) ?_
                refine lv_aload_n hx hb dX9_client_103 rfl (lv_at hl 0 rfl) ?_
                refine lv_iload_n hx hb dX9_client_104 rfl (lv_at hl 1 rfl) ?_
                refine lv_iload_n hx hb dX9_client_105 rfl (lv_at hl 2 rfl) ?_
                refine lv_iconst (v := 2) hx hb dX9_client_106 (by decide) ?_
                refine lv_isub hx hb dX9_client_107 ?_
                obtain ⟨r27, q28, hf⟩ := cx_b hf
                refine cx_callV (As := [.int p0, .int (p1 - 2)]) (rest := []) ⟨hx, hb, hml, hown, hts⟩ (c_X9_ofClient hC q28) (cwV 2 hts (gV mw_635 mw_636 mw_637 mw_5 mw_638) rfl rfl rfl hd_X9_ofClient ⟨Nat.le_of_ble_eq_true rfl, Nat.le_of_ble_eq_true rfl⟩) hK hP rfl (at_Model hC hP) rfl hl.1 rfl (Nat.le_of_ble_eq_true rfl) dX9_client_108 ⟨Nat.zero_le _, Nat.zero_le _⟩ hL (fun H locs hP hL => ?_)
                replace hP : P z1 H := by first | exact hP | (simpa only [va_up_id] using hP)
                cases hf
                exact cx_iret hx hb hr hlocks hP hL dX9_client_111
              · have hf := cx_f hf c26
                by_cases c29 : p1 = 6
                · have hf := cx_t hf c29
                  refine lv_tableIn (off := 83) (tgt := 103) hx hb dX9_client_20 (by rw [c29]; decide) (by rw [c29]; decide) (by rw [c29]; rfl) (by decide) ?_
                  refine lv_aload_n hx hb dX9_client_103 rfl (lv_at hl 0 rfl) ?_
                  refine lv_iload_n hx hb dX9_client_104 rfl (lv_at hl 1 rfl) ?_
                  refine lv_iload_n hx hb dX9_client_105 rfl (lv_at hl 2 rfl) ?_
                  refine lv_iconst (v := 2) hx hb dX9_client_106 (by decide) ?_
                  refine lv_isub hx hb dX9_client_107 ?_
                  obtain ⟨r30, q31, hf⟩ := cx_b hf
                  refine cx_callV (As := [.int p0, .int (p1 - 2)]) (rest := []) ⟨hx, hb, hml, hown, hts⟩ (c_X9_ofClient hC q31) (cwV 2 hts (gV mw_635 mw_636 mw_637 mw_5 mw_638) rfl rfl rfl hd_X9_ofClient ⟨Nat.le_of_ble_eq_true rfl, Nat.le_of_ble_eq_true rfl⟩) hK hP rfl (at_Model hC hP) rfl hl.1 rfl (Nat.le_of_ble_eq_true rfl) dX9_client_108 ⟨Nat.zero_le _, Nat.zero_le _⟩ hL (fun H locs hP hL => ?_)
                  replace hP : P z1 H := by first | exact hP | (simpa only [va_up_id] using hP)
                  cases hf
                  exact cx_iret hx hb hr hlocks hP hL dX9_client_111
                · have hf := cx_f hf c29
                  by_cases c32 : p1 = 7
                  · have hf := cx_t hf c32
                    refine lv_tableIn (off := 83) (tgt := 103) hx hb dX9_client_20 (by rw [c32]; decide) (by rw [c32]; decide) (by rw [c32]; rfl) (by decide) ?_
                    refine lv_aload_n hx hb dX9_client_103 rfl (lv_at hl 0 rfl) ?_
                    refine lv_iload_n hx hb dX9_client_104 rfl (lv_at hl 1 rfl) ?_
                    refine lv_iload_n hx hb dX9_client_105 rfl (lv_at hl 2 rfl) ?_
                    refine lv_iconst (v := 2) hx hb dX9_client_106 (by decide) ?_
                    refine lv_isub hx hb dX9_client_107 ?_
                    obtain ⟨r33, q34, hf⟩ := cx_b hf
                    refine cx_callV (As := [.int p0, .int (p1 - 2)]) (rest := []) ⟨hx, hb, hml, hown, hts⟩ (c_X9_ofClient hC q34) (cwV 2 hts (gV mw_635 mw_636 mw_637 mw_5 mw_638) rfl rfl rfl hd_X9_ofClient ⟨Nat.le_of_ble_eq_true rfl, Nat.le_of_ble_eq_true rfl⟩) hK hP rfl (at_Model hC hP) rfl hl.1 rfl (Nat.le_of_ble_eq_true rfl) dX9_client_108 ⟨Nat.zero_le _, Nat.zero_le _⟩ hL (fun H locs hP hL => ?_)
                    replace hP : P z1 H := by first | exact hP | (simpa only [va_up_id] using hP)
                    cases hf
                    exact cx_iret hx hb hr hlocks hP hL dX9_client_111
                  · have hf := cx_f hf c32
                    by_cases c35 : p1 = 8
                    · have hf := cx_t hf c35
                      refine lv_tableIn (off := 83) (tgt := 103) hx hb dX9_client_20 (by rw [c35]; decide) (by rw [c35]; decide) (by rw [c35]; rfl) (by decide) ?_
                      refine lv_aload_n hx hb dX9_client_103 rfl (lv_at hl 0 rfl) ?_
                      refine lv_iload_n hx hb dX9_client_104 rfl (lv_at hl 1 rfl) ?_
                      refine lv_iload_n hx hb dX9_client_105 rfl (lv_at hl 2 rfl) ?_
                      refine lv_iconst (v := 2) hx hb dX9_client_106 (by decide) ?_
                      refine lv_isub hx hb dX9_client_107 ?_
                      obtain ⟨r36, q37, hf⟩ := cx_b hf
                      refine cx_callV (As := [.int p0, .int (p1 - 2)]) (rest := []) ⟨hx, hb, hml, hown, hts⟩ (c_X9_ofClient hC q37) (cwV 2 hts (gV mw_635 mw_636 mw_637 mw_5 mw_638) rfl rfl rfl hd_X9_ofClient ⟨Nat.le_of_ble_eq_true rfl, Nat.le_of_ble_eq_true rfl⟩) hK hP rfl (at_Model hC hP) rfl hl.1 rfl (Nat.le_of_ble_eq_true rfl) dX9_client_108 ⟨Nat.zero_le _, Nat.zero_le _⟩ hL (fun H locs hP hL => ?_)
                      replace hP : P z1 H := by first | exact hP | (simpa only [va_up_id] using hP)
                      cases hf
                      exact cx_iret hx hb hr hlocks hP hL dX9_client_111
                    · have hf := cx_f hf c35
                      by_cases c38 : p1 = 9
                      · have hf := cx_t hf c38
                        refine lv_tableIn (off := 83) (tgt := 103) hx hb dX9_client_20 (by rw [c38]; decide) (by rw [c38]; decide) (by rw [c38]; rfl) (by decide) ?_
                        refine lv_aload_n hx hb dX9_client_103 rfl (lv_at hl 0 rfl) ?_
                        refine lv_iload_n hx hb dX9_client_104 rfl (lv_at hl 1 rfl) ?_
                        refine lv_iload_n hx hb dX9_client_105 rfl (lv_at hl 2 rfl) ?_
                        refine lv_iconst (v := 2) hx hb dX9_client_106 (by decide) ?_
                        refine lv_isub hx hb dX9_client_107 ?_
                        obtain ⟨r39, q40, hf⟩ := cx_b hf
                        refine cx_callV (As := [.int p0, .int (p1 - 2)]) (rest := []) ⟨hx, hb, hml, hown, hts⟩ (c_X9_ofClient hC q40) (cwV 2 hts (gV mw_635 mw_636 mw_637 mw_5 mw_638) rfl rfl rfl hd_X9_ofClient ⟨Nat.le_of_ble_eq_true rfl, Nat.le_of_ble_eq_true rfl⟩) hK hP rfl (at_Model hC hP) rfl hl.1 rfl (Nat.le_of_ble_eq_true rfl) dX9_client_108 ⟨Nat.zero_le _, Nat.zero_le _⟩ hL (fun H locs hP hL => ?_)
                        replace hP : P z1 H := by first | exact hP | (simpa only [va_up_id] using hP)
                        cases hf
                        exact cx_iret hx hb hr hlocks hP hL dX9_client_111
                      · have hf := cx_f hf c38
                        by_cases c41 : p1 = 10
                        · have hf := cx_t hf c41
                          refine lv_tableIn (off := 92) (tgt := 112) hx hb dX9_client_20 (by rw [c41]; decide) (by rw [c41]; decide) (by rw [c41]; rfl) (by decide) ?_
                          refine lv_aload_n hx hb dX9_client_112 rfl (lv_at hl 0 rfl) ?_
                          refine lv_iload_n hx hb dX9_client_113 rfl (lv_at hl 1 rfl) ?_
                          obtain ⟨r42, q43, hf⟩ := cx_b hf
                          refine cx_callV (As := [.int p0]) (rest := []) ⟨hx, hb, hml, hown, hts⟩ (c_X9_hasTooMuch hC q43) (cwV 1 hts (gV mw_718 mw_719 mw_720 mw_5 mw_721) rfl rfl rfl hd_X9_hasTooMuch ⟨Nat.le_of_ble_eq_true rfl, Nat.le_of_ble_eq_true rfl⟩) hK hP rfl (at_Model hC hP) rfl hl.1 rfl (Nat.le_of_ble_eq_true rfl) dX9_client_114 ⟨Nat.zero_le _, Nat.zero_le _⟩ hL (fun H locs hP hL => ?_)
                          replace hP : P z1 H := by first | exact hP | (simpa only [va_up_id] using hP)
                          refine lv_if_eq (tgt := 124) hx hb dX9_client_117 (by decide) (fun c44 => ?_) (fun c44 => ?_)
                          · have hf := cx_t hf c44
                            refine lv_iconst (v := 0) hx hb dX9_client_124 (by decide) ?_
                            cases hf
                            exact cx_iret hx hb hr hlocks hP hL dX9_client_125
                          · have hf := cx_f hf c44
                            refine lv_iconst (v := 1) hx hb dX9_client_120 (by decide) ?_
                            refine lv_goto (tgt := 125) hx hb dX9_client_121 (by decide) ?_
                            cases hf
                            exact cx_iret hx hb hr hlocks hP hL dX9_client_125
                        · have hf := cx_f hf c41
                          refine lv_tableOut (tgt := 126) hx hb dX9_client_20 (by have := lv_neT (a := 0) c5 (by decide); have := lv_neT (a := 1) c8 (by decide); have := lv_neT (a := 2) c14 (by decide); have := lv_neT (a := 3) c20 (by decide); have := lv_neT (a := 4) c23 (by decide); have := lv_neT (a := 5) c26 (by decide); have := lv_neT (a := 6) c29 (by decide); have := lv_neT (a := 7) c32 (by decide); have := lv_neT (a := 8) c35 (by decide); have := lv_neT (a := 9) c38 (by decide); have := lv_neT (a := 10) c41 (by decide); omega) (by decide) ?_
                          refine lv_aload_n hx hb dX9_client_126 rfl (lv_at hl 0 rfl) ?_
                          refine lv_iconst (v := 2) hx hb dX9_client_127 (by decide) ?_
                          obtain ⟨r45, q46, hf⟩ := cx_b hf
                          refine cx_callV (As := [.int 2]) (rest := []) ⟨hx, hb, hml, hown, hts⟩ (c_X9_fail hC q46) (cwV 1 hts (gV mw_151 mw_152 mw_153 mw_5 mw_154) rfl rfl rfl hd_X9_fail ⟨Nat.le_of_ble_eq_true rfl, Nat.le_of_ble_eq_true rfl⟩) hK hP rfl (at_Model hC hP) rfl hl.1 rfl (Nat.le_of_ble_eq_true rfl) dX9_client_128 ⟨Nat.zero_le _, Nat.zero_le _⟩ hL (fun H locs hP hL => ?_)
                          replace hP : P r45.2 H := by first | exact hP | (simpa only [va_up_id] using hP)
                          cases hf
                          exact cx_iret hx hb hr hlocks hP hL dX9_client_131
  · have hf := cx_t hf c4
    refine lv_aload_n hx hb dX9_client_13 rfl (lv_at hl 0 rfl) ?_
    refine lv_iconst (v := 1) hx hb dX9_client_14 (by decide) ?_
    obtain ⟨r47, q48, hf⟩ := cx_b hf
    refine cx_callV (As := [.int 1]) (rest := []) ⟨hx, hb, hml, hown, hts⟩ (c_X9_fail hC q48) (cwV 1 hts (gV mw_151 mw_152 mw_153 mw_5 mw_154) rfl rfl rfl hd_X9_fail ⟨Nat.le_of_ble_eq_true rfl, Nat.le_of_ble_eq_true rfl⟩) hK hP rfl (at_Model hC hP) rfl hl.1 rfl (Nat.le_of_ble_eq_true rfl) dX9_client_15 ⟨Nat.zero_le _, Nat.zero_le _⟩ hL (fun H locs hP hL => ?_)
    replace hP : P r47.2 H := by first | exact hP | (simpa only [va_up_id] using hP)
    cases hf
    exact cx_iret hx hb hr hlocks hP hL dX9_client_18
abbrev rm_X9_block : Room := { frames := 2, cells := 0, slots := 0, locals := 45 }
theorem hd_X9_block : yX9_block.cls = RX9 ∧ yX9_block.cls ≠ "java/lang/invoke/MethodHandle" ∧ yX9_block.cls ≠ "java/lang/invoke/VarHandle" ∧ (parseMethodDescriptor yX9_block.desc).map (fun d => d.parameters.length) = some 2 := by decide +kernel
def f_X9_block (N : Nat) (μ : MdlS) (p0 : Int32) (p1 : Int32) : Option (Int32 × MdlS) := cx_let ((oI μ.1 6 0, μ.2)) fun z1 => (f_X9_isBlock p0).bind fun r2 => if r2 = 0 then (f_X9_fail z1 1).bind fun r5 => some (r5.1, r5.2) else (f_X9_isBetween p1 0 6).bind fun r7 => if r7 = 0 then (f_X9_fail z1 1).bind fun r24 => some (r24.1, r24.2) else if p1 = 5 then (f_X9_of z1 p0 4).bind fun r22 => some (r22, z1) else if p1 = 6 then gd (1184 + p0) 1384 (some ((z1.1.1 0 (Int32.toNatClampNeg (1184 + p0))), z1)) else (f_X9_of z1 p0 0).bind fun r12 => if r12 = (-1) then some ((-1), z1) else if p1 = 0 then some (r12, z1) else if p1 = 1 then (f_X9_placeOf N z1 r12 p0).bind fun r19 => some (r19, z1) else (f_X9_of z1 p0 (p1 - 1)).bind fun r17 => some (r17, z1)
set_option maxHeartbeats 4000000 in
set_option maxRecDepth 100000 in
theorem c_X9_block {l : Launch} {G : va_G} {cA : Nat → ClassId} {lo : Nat} {ad : Nat → Nat} {P : MdlS → Heap → Prop} (hC : cx G lo 9 ad (ceModel cA ad) P) {N : Nat} {μ : MdlS} {p0 : Int32} {p1 : Int32} {res : Int32 × MdlS} (hf : f_X9_block N μ p0 p1 = some res) : Met l yX9_block (cW yX9_block cX9_block 4 (some .int)) rm_X9_block (cP [.ref (ad 0), .int p0, .int p1] (P μ) G cA) (cQ (some (.int res.1)) (P res.2)) 0 0 (fun q => lo ≤ q) := by
  refine cx_met (by decide) (Nat.le_of_ble_eq_true rfl) (fun p e s m args below meth c ls C0 hP hl => ?_)
  have hl : lv_has ls 4 [(0, .ref (ad 0)), (1, .int p0), (2, .int p1)] := hl
  obtain ⟨⟨hx, hb, hml, hown, hts⟩, hr, hlocks, hK⟩ := id C0
  have hL : ∀ q ∈ ([] : List Loc), lo ≤ q.base := fun q h => nomatch h
  unfold f_X9_block at hf
  refine lv_aload_n hx hb dX9_block_0 rfl (lv_at hl 0 rfl) ?_
  refine lv_iconst (v := 0) hx hb dX9_block_1 (by decide) ?_
  obtain ⟨z1, ez1, hf⟩ := cx_letE hf
  refine p_Model_6 hC hP hx hb hts hown hK mw_149 dX9_block_2 hL (fun H locs hP hL => ?_)
  replace hP : P z1 H := by rw [← ez1]; exact hP
  refine lv_iload_n hx hb dX9_block_5 rfl (lv_at hl 1 rfl) ?_
  obtain ⟨r2, q3, hf⟩ := cx_b hf
  refine cx_callS (As := [.int p0]) (rest := []) ⟨hx, hb, hml, hown, hts⟩ (c_X9_isBlock (PH := P z1) q3) (cwS 1 hts (gS mw_918 mw_919 mw_5 mw_920) rfl rfl rfl hd_X9_isBlock ⟨Nat.le_of_ble_eq_true rfl, Nat.le_of_ble_eq_true rfl⟩) hK hP rfl hl.1 rfl (Nat.le_of_ble_eq_true rfl) dX9_block_6 ⟨Nat.zero_le _, Nat.zero_le _⟩ hL (fun H locs hP hL => ?_)
  refine lv_if_eq (tgt := 22) hx hb dX9_block_9 (by decide) (fun c4 => ?_) (fun c4 => ?_)
  · have hf := cx_t hf c4
    refine lv_aload_n hx hb dX9_block_22 rfl (lv_at hl 0 rfl) ?_
    refine lv_iconst (v := 1) hx hb dX9_block_23 (by decide) ?_
    obtain ⟨r5, q6, hf⟩ := cx_b hf
    refine cx_callV (As := [.int 1]) (rest := []) ⟨hx, hb, hml, hown, hts⟩ (c_X9_fail hC q6) (cwV 1 hts (gV mw_151 mw_152 mw_153 mw_5 mw_154) rfl rfl rfl hd_X9_fail ⟨Nat.le_of_ble_eq_true rfl, Nat.le_of_ble_eq_true rfl⟩) hK hP rfl (at_Model hC hP) rfl hl.1 rfl (Nat.le_of_ble_eq_true rfl) dX9_block_24 ⟨Nat.zero_le _, Nat.zero_le _⟩ hL (fun H locs hP hL => ?_)
    replace hP : P r5.2 H := by first | exact hP | (simpa only [va_up_id] using hP)
    cases hf
    exact cx_iret hx hb hr hlocks hP hL dX9_block_27
  · have hf := cx_f hf c4
    refine lv_iload_n hx hb dX9_block_12 rfl (lv_at hl 2 rfl) ?_
    refine lv_iconst (v := 0) hx hb dX9_block_13 (by decide) ?_
    refine lv_bipush (v := 6) hx hb dX9_block_14 (by decide) ?_
    obtain ⟨r7, q8, hf⟩ := cx_b hf
    refine cx_callS (As := [.int p1, .int 0, .int 6]) (rest := []) ⟨hx, hb, hml, hown, hts⟩ (c_X9_isBetween (PH := P z1) q8) (cwS 3 hts (gS mw_176 mw_177 mw_5 mw_178) rfl rfl rfl hd_X9_isBetween ⟨Nat.le_of_ble_eq_true rfl, Nat.le_of_ble_eq_true rfl⟩) hK hP rfl hl.1 rfl (Nat.le_of_ble_eq_true rfl) dX9_block_16 ⟨Nat.zero_le _, Nat.zero_le _⟩ hL (fun H locs hP hL => ?_)
    refine lv_if_ne (tgt := 28) hx hb dX9_block_19 (by decide) (fun c9 => ?_) (fun c9 => ?_)
    · have hf := cx_f hf c9
      refine lv_iload_n hx hb dX9_block_28 rfl (lv_at hl 2 rfl) ?_
      refine lv_iconst (v := 5) hx hb dX9_block_29 (by decide) ?_
      refine lv_icmp_ne (tgt := 40) hx hb dX9_block_30 (by decide) (fun c10 => ?_) (fun c10 => ?_)
      · have hf := cx_f hf c10
        refine lv_iload_n hx hb dX9_block_40 rfl (lv_at hl 2 rfl) ?_
        refine lv_bipush (v := 6) hx hb dX9_block_41 (by decide) ?_
        refine lv_icmp_ne (tgt := 57) hx hb dX9_block_43 (by decide) (fun c11 => ?_) (fun c11 => ?_)
        · have hf := cx_f hf c11
          refine lv_aload_n hx hb dX9_block_57 rfl (lv_at hl 0 rfl) ?_
          refine lv_iload_n hx hb dX9_block_58 rfl (lv_at hl 1 rfl) ?_
          refine lv_iconst (v := 0) hx hb dX9_block_59 (by decide) ?_
          obtain ⟨r12, q13, hf⟩ := cx_b hf
          refine cx_callV (As := [.int p0, .int 0]) (rest := []) ⟨hx, hb, hml, hown, hts⟩ (c_X9_of hC q13) (cwV 2 hts (gV mw_618 mw_619 mw_620 mw_5 mw_621) rfl rfl rfl hd_X9_of ⟨Nat.le_of_ble_eq_true rfl, Nat.le_of_ble_eq_true rfl⟩) hK hP rfl (at_Model hC hP) rfl hl.1 rfl (Nat.le_of_ble_eq_true rfl) dX9_block_60 ⟨Nat.zero_le _, Nat.zero_le _⟩ hL (fun H locs hP hL => ?_)
          replace hP : P z1 H := by first | exact hP | (simpa only [va_up_id] using hP)
          refine lv_istore_n (lv' := [(3, .int r12), (0, .ref (ad 0)), (1, .int p0), (2, .int p1)]) hx hb dX9_block_63 rfl hl (by decide) rfl (fun ls hl => ?_)
          refine lv_iload_n hx hb dX9_block_64 rfl (lv_at hl 0 rfl) ?_
          refine lv_iconst (v := (-1)) hx hb dX9_block_65 (by decide) ?_
          refine lv_icmp_ne (tgt := 71) hx hb dX9_block_66 (by decide) (fun c14 => ?_) (fun c14 => ?_)
          · have hf := cx_f hf c14
            refine lv_iload_n hx hb dX9_block_71 rfl (lv_at hl 3 rfl) ?_
            refine lv_if_ne (tgt := 79) hx hb dX9_block_72 (by decide) (fun c15 => ?_) (fun c15 => ?_)
            · have hf := cx_f hf c15
              refine lv_iload_n hx hb dX9_block_79 rfl (lv_at hl 3 rfl) ?_
              refine lv_iconst (v := 1) hx hb dX9_block_80 (by decide) ?_
              refine lv_icmp_ne (tgt := 93) hx hb dX9_block_81 (by decide) (fun c16 => ?_) (fun c16 => ?_)
              · have hf := cx_f hf c16
                refine lv_aload_n hx hb dX9_block_93 rfl (lv_at hl 1 rfl) ?_
                refine lv_iload_n hx hb dX9_block_94 rfl (lv_at hl 2 rfl) ?_
                refine lv_iload_n hx hb dX9_block_95 rfl (lv_at hl 3 rfl) ?_
                refine lv_iconst (v := 1) hx hb dX9_block_96 (by decide) ?_
                refine lv_isub hx hb dX9_block_97 ?_
                obtain ⟨r17, q18, hf⟩ := cx_b hf
                refine cx_callV (As := [.int p0, .int (p1 - 1)]) (rest := []) ⟨hx, hb, hml, hown, hts⟩ (c_X9_of hC q18) (cwV 2 hts (gV mw_618 mw_619 mw_620 mw_5 mw_621) rfl rfl rfl hd_X9_of ⟨Nat.le_of_ble_eq_true rfl, Nat.le_of_ble_eq_true rfl⟩) hK hP rfl (at_Model hC hP) rfl hl.1 rfl (Nat.le_of_ble_eq_true rfl) dX9_block_98 ⟨Nat.zero_le _, Nat.zero_le _⟩ hL (fun H locs hP hL => ?_)
                replace hP : P z1 H := by first | exact hP | (simpa only [va_up_id] using hP)
                cases hf
                exact cx_iret hx hb hr hlocks hP hL dX9_block_101
              · have hf := cx_t hf c16
                refine lv_aload_n hx hb dX9_block_84 rfl (lv_at hl 1 rfl) ?_
                refine lv_iload_n hx hb dX9_block_85 rfl (lv_at hl 0 rfl) ?_
                refine lv_iload_n hx hb dX9_block_86 rfl (lv_at hl 2 rfl) ?_
                obtain ⟨r19, q20, hf⟩ := cx_b hf
                refine cx_callV (As := [.int r12, .int p0]) (rest := []) ⟨hx, hb, hml, hown, hts⟩ (c_X9_placeOf hC q20) (cwV 2 hts (gV mw_655 mw_656 mw_657 mw_5 mw_658) rfl rfl rfl hd_X9_placeOf ⟨Nat.le_of_ble_eq_true rfl, Nat.le_of_ble_eq_true rfl⟩) hK hP rfl (at_Model hC hP) rfl hl.1 rfl (Nat.le_of_ble_eq_true rfl) dX9_block_87 ⟨Nat.zero_le _, Nat.zero_le _⟩ hL (fun H locs hP hL => ?_)
                replace hP : P z1 H := by first | exact hP | (simpa only [va_up_id] using hP)
                refine lv_goto (tgt := 101) hx hb dX9_block_90 (by decide) ?_
                cases hf
                exact cx_iret hx hb hr hlocks hP hL dX9_block_101
            · have hf := cx_t hf c15
              refine lv_iload_n hx hb dX9_block_75 rfl (lv_at hl 0 rfl) ?_
              refine lv_goto (tgt := 101) hx hb dX9_block_76 (by decide) ?_
              cases hf
              exact cx_iret hx hb hr hlocks hP hL dX9_block_101
          · have hf := cx_t hf c14
            refine lv_iconst (v := (-1)) hx hb dX9_block_69 (by decide) ?_
            cases hf
            exact cx_iret hx hb hr hlocks hP hL dX9_block_70
        · have hf := cx_t hf c11
          refine lv_aload_n hx hb dX9_block_46 rfl (lv_at hl 0 rfl) ?_
          refine g_Model_0 hC hP hx hb hts hown hK mw_114 dX9_block_47 ?_
          refine lv_sipush (v := 1184) hx hb dX9_block_50 (by decide) ?_
          refine lv_iload_n hx hb dX9_block_53 rfl (lv_at hl 1 rfl) ?_
          refine lv_iadd hx hb dX9_block_54 ?_
          obtain ⟨hi21, hf⟩ := gdE hf
          refine ga_Model_0 hC hP hx hb hK hi21 dX9_block_55 ?_
          cases hf
          exact cx_iret hx hb hr hlocks hP hL dX9_block_56
      · have hf := cx_t hf c10
        refine lv_aload_n hx hb dX9_block_33 rfl (lv_at hl 0 rfl) ?_
        refine lv_iload_n hx hb dX9_block_34 rfl (lv_at hl 1 rfl) ?_
        refine lv_iconst (v := 4) hx hb dX9_block_35 (by decide) ?_
        obtain ⟨r22, q23, hf⟩ := cx_b hf
        refine cx_callV (As := [.int p0, .int 4]) (rest := []) ⟨hx, hb, hml, hown, hts⟩ (c_X9_of hC q23) (cwV 2 hts (gV mw_618 mw_619 mw_620 mw_5 mw_621) rfl rfl rfl hd_X9_of ⟨Nat.le_of_ble_eq_true rfl, Nat.le_of_ble_eq_true rfl⟩) hK hP rfl (at_Model hC hP) rfl hl.1 rfl (Nat.le_of_ble_eq_true rfl) dX9_block_36 ⟨Nat.zero_le _, Nat.zero_le _⟩ hL (fun H locs hP hL => ?_)
        replace hP : P z1 H := by first | exact hP | (simpa only [va_up_id] using hP)
        cases hf
        exact cx_iret hx hb hr hlocks hP hL dX9_block_39
    · have hf := cx_t hf c9
      refine lv_aload_n hx hb dX9_block_22 rfl (lv_at hl 0 rfl) ?_
      refine lv_iconst (v := 1) hx hb dX9_block_23 (by decide) ?_
      obtain ⟨r24, q25, hf⟩ := cx_b hf
      refine cx_callV (As := [.int 1]) (rest := []) ⟨hx, hb, hml, hown, hts⟩ (c_X9_fail hC q25) (cwV 1 hts (gV mw_151 mw_152 mw_153 mw_5 mw_154) rfl rfl rfl hd_X9_fail ⟨Nat.le_of_ble_eq_true rfl, Nat.le_of_ble_eq_true rfl⟩) hK hP rfl (at_Model hC hP) rfl hl.1 rfl (Nat.le_of_ble_eq_true rfl) dX9_block_24 ⟨Nat.zero_le _, Nat.zero_le _⟩ hL (fun H locs hP hL => ?_)
      replace hP : P r24.2 H := by first | exact hP | (simpa only [va_up_id] using hP)
      cases hf
      exact cx_iret hx hb hr hlocks hP hL dX9_block_27
abbrev rm_X9_isList : Room := { frames := 1, cells := 0, slots := 0, locals := 22 }
theorem hd_X9_isList : yX9_isList.cls = RX9 ∧ yX9_isList.cls ≠ "java/lang/invoke/MethodHandle" ∧ yX9_isList.cls ≠ "java/lang/invoke/VarHandle" ∧ (parseMethodDescriptor yX9_isList.desc).map (fun d => d.parameters.length) = some 1 := by decide +kernel
def f_X9_isList (μ : MdlS) (p0 : Int32) : Option (Int32) := (f_X9_isBetween p0 0 4).bind fun r1 => zb r1 (some r1)
set_option maxHeartbeats 4000000 in
set_option maxRecDepth 100000 in
theorem c_X9_isList {l : Launch} {G : va_G} {cA : Nat → ClassId} {lo : Nat} {ad : Nat → Nat} {P : MdlS → Heap → Prop} (hC : cx G lo 9 ad (ceModel cA ad) P) {μ : MdlS} {p0 : Int32} {res : Int32} (hf : f_X9_isList μ p0 = some res) : Met l yX9_isList (cW yX9_isList cX9_isList 2 (some .boolean)) rm_X9_isList (cP [.ref (ad 0), .int p0] (P μ) G cA) (cQ (some (.int res)) (P μ)) 0 0 (fun q => lo ≤ q) := by
  refine cx_met (by decide) (Nat.le_of_ble_eq_true rfl) (fun p e s m args below meth c ls C0 hP hl => ?_)
  have hl : lv_has ls 2 [(0, .ref (ad 0)), (1, .int p0)] := hl
  obtain ⟨⟨hx, hb, hml, hown, hts⟩, hr, hlocks, hK⟩ := id C0
  have hL : ∀ q ∈ ([] : List Loc), lo ≤ q.base := fun q h => nomatch h
  unfold f_X9_isList at hf
  refine lv_iload_n hx hb dX9_isList_0 rfl (lv_at hl 1 rfl) ?_
  refine lv_iconst (v := 0) hx hb dX9_isList_1 (by decide) ?_
  refine lv_iconst (v := 4) hx hb dX9_isList_2 (by decide) ?_
  obtain ⟨r1, q2, hf⟩ := cx_b hf
  refine cx_callS (As := [.int p0, .int 0, .int 4]) (rest := []) ⟨hx, hb, hml, hown, hts⟩ (c_X9_isBetween (PH := P μ) q2) (cwS 3 hts (gS mw_176 mw_177 mw_5 mw_178) rfl rfl rfl hd_X9_isBetween ⟨Nat.le_of_ble_eq_true rfl, Nat.le_of_ble_eq_true rfl⟩) hK hP rfl hl.1 rfl (Nat.le_of_ble_eq_true rfl) dX9_isList_3 ⟨Nat.zero_le _, Nat.zero_le _⟩ hL (fun H locs hP hL => ?_)
  obtain ⟨hz3, hf⟩ := zbE hf
  cases hf
  exact cx_zret hx hb hr hlocks hz3 hP hL dX9_isList_6
abbrev rm_X9_at : Room := { frames := 2, cells := 0, slots := 0, locals := 43 }
theorem hd_X9_at : yX9_at.cls = RX9 ∧ yX9_at.cls ≠ "java/lang/invoke/MethodHandle" ∧ yX9_at.cls ≠ "java/lang/invoke/VarHandle" ∧ (parseMethodDescriptor yX9_at.desc).map (fun d => d.parameters.length) = some 2 := by decide +kernel
def f_X9_at (μ : MdlS) (p0 : Int32) (p1 : Int32) : Option (Int32 × MdlS) := cx_let ((oI μ.1 6 0, μ.2)) fun z1 => (f_X9_isList z1 p0).bind fun r2 => if r2 = 0 then (f_X9_fail z1 1).bind fun r5 => some (r5.1, r5.2) else if 0 ≤ p1 then (f_X9_length z1 p0).bind fun r8 => if r8 ≤ p1 then some ((-1), z1) else (f_X9_blockAt z1 p0 p1).bind fun r11 => some (r11, z1) else (f_X9_fail z1 1).bind fun r13 => some (r13.1, r13.2)
set_option maxHeartbeats 4000000 in
set_option maxRecDepth 100000 in
theorem c_X9_at {l : Launch} {G : va_G} {cA : Nat → ClassId} {lo : Nat} {ad : Nat → Nat} {P : MdlS → Heap → Prop} (hC : cx G lo 9 ad (ceModel cA ad) P) {μ : MdlS} {p0 : Int32} {p1 : Int32} {res : Int32 × MdlS} (hf : f_X9_at μ p0 p1 = some res) : Met l yX9_at (cW yX9_at cX9_at 3 (some .int)) rm_X9_at (cP [.ref (ad 0), .int p0, .int p1] (P μ) G cA) (cQ (some (.int res.1)) (P res.2)) 0 0 (fun q => lo ≤ q) := by
  refine cx_met (by decide) (Nat.le_of_ble_eq_true rfl) (fun p e s m args below meth c ls C0 hP hl => ?_)
  have hl : lv_has ls 3 [(0, .ref (ad 0)), (1, .int p0), (2, .int p1)] := hl
  obtain ⟨⟨hx, hb, hml, hown, hts⟩, hr, hlocks, hK⟩ := id C0
  have hL : ∀ q ∈ ([] : List Loc), lo ≤ q.base := fun q h => nomatch h
  unfold f_X9_at at hf
  refine lv_aload_n hx hb dX9_at_0 rfl (lv_at hl 0 rfl) ?_
  refine lv_iconst (v := 0) hx hb dX9_at_1 (by decide) ?_
  obtain ⟨z1, ez1, hf⟩ := cx_letE hf
  refine p_Model_6 hC hP hx hb hts hown hK mw_149 dX9_at_2 hL (fun H locs hP hL => ?_)
  replace hP : P z1 H := by rw [← ez1]; exact hP
  refine lv_aload_n hx hb dX9_at_5 rfl (lv_at hl 0 rfl) ?_
  refine lv_iload_n hx hb dX9_at_6 rfl (lv_at hl 1 rfl) ?_
  obtain ⟨r2, q3, hf⟩ := cx_b hf
  refine cx_callV (As := [.int p0]) (rest := []) ⟨hx, hb, hml, hown, hts⟩ (c_X9_isList hC q3) (cwV 1 hts (gV mw_937 mw_938 mw_939 mw_5 mw_940) rfl rfl rfl hd_X9_isList ⟨Nat.le_of_ble_eq_true rfl, Nat.le_of_ble_eq_true rfl⟩) hK hP rfl (at_Model hC hP) rfl hl.1 rfl (Nat.le_of_ble_eq_true rfl) dX9_at_7 ⟨Nat.zero_le _, Nat.zero_le _⟩ hL (fun H locs hP hL => ?_)
  replace hP : P z1 H := by first | exact hP | (simpa only [va_up_id] using hP)
  refine lv_if_eq (tgt := 17) hx hb dX9_at_10 (by decide) (fun c4 => ?_) (fun c4 => ?_)
  · have hf := cx_t hf c4
    refine lv_aload_n hx hb dX9_at_17 rfl (lv_at hl 0 rfl) ?_
    refine lv_iconst (v := 1) hx hb dX9_at_18 (by decide) ?_
    obtain ⟨r5, q6, hf⟩ := cx_b hf
    refine cx_callV (As := [.int 1]) (rest := []) ⟨hx, hb, hml, hown, hts⟩ (c_X9_fail hC q6) (cwV 1 hts (gV mw_151 mw_152 mw_153 mw_5 mw_154) rfl rfl rfl hd_X9_fail ⟨Nat.le_of_ble_eq_true rfl, Nat.le_of_ble_eq_true rfl⟩) hK hP rfl (at_Model hC hP) rfl hl.1 rfl (Nat.le_of_ble_eq_true rfl) dX9_at_19 ⟨Nat.zero_le _, Nat.zero_le _⟩ hL (fun H locs hP hL => ?_)
    replace hP : P r5.2 H := by first | exact hP | (simpa only [va_up_id] using hP)
    cases hf
    exact cx_iret hx hb hr hlocks hP hL dX9_at_22
  · have hf := cx_f hf c4
    refine lv_iload_n hx hb dX9_at_13 rfl (lv_at hl 2 rfl) ?_
    refine lv_if_ge (tgt := 23) hx hb dX9_at_14 (by decide) (fun c7 => ?_) (fun c7 => ?_)
    · have hf := cx_t hf c7
      refine lv_iload_n hx hb dX9_at_23 rfl (lv_at hl 2 rfl) ?_
      refine lv_aload_n hx hb dX9_at_24 rfl (lv_at hl 0 rfl) ?_
      refine lv_iload_n hx hb dX9_at_25 rfl (lv_at hl 1 rfl) ?_
      obtain ⟨r8, q9, hf⟩ := cx_b hf
      refine cx_callV (As := [.int p0]) (rest := [.int p1]) ⟨hx, hb, hml, hown, hts⟩ (c_X9_length hC q9) (cwV 1 hts (gV mw_663 mw_664 mw_665 mw_5 mw_666) rfl rfl rfl hd_X9_length ⟨Nat.le_of_ble_eq_true rfl, Nat.le_of_ble_eq_true rfl⟩) hK hP rfl (at_Model hC hP) rfl hl.1 rfl (Nat.le_of_ble_eq_true rfl) dX9_at_26 ⟨Nat.zero_le _, Nat.zero_le _⟩ hL (fun H locs hP hL => ?_)
      replace hP : P z1 H := by first | exact hP | (simpa only [va_up_id] using hP)
      refine lv_icmp_ge (tgt := 41) hx hb dX9_at_29 (by decide) (fun c10 => ?_) (fun c10 => ?_)
      · have hf := cx_t hf c10
        refine lv_iconst (v := (-1)) hx hb dX9_at_41 (by decide) ?_
        cases hf
        exact cx_iret hx hb hr hlocks hP hL dX9_at_42
      · have hf := cx_f hf c10
        refine lv_aload_n hx hb dX9_at_32 rfl (lv_at hl 0 rfl) ?_
        refine lv_iload_n hx hb dX9_at_33 rfl (lv_at hl 1 rfl) ?_
        refine lv_iload_n hx hb dX9_at_34 rfl (lv_at hl 2 rfl) ?_
        obtain ⟨r11, q12, hf⟩ := cx_b hf
        refine cx_callV (As := [.int p0, .int p1]) (rest := []) ⟨hx, hb, hml, hown, hts⟩ (c_X9_blockAt hC q12) (cwV 2 hts (gV mw_659 mw_660 mw_661 mw_5 mw_662) rfl rfl rfl hd_X9_blockAt ⟨Nat.le_of_ble_eq_true rfl, Nat.le_of_ble_eq_true rfl⟩) hK hP rfl (at_Model hC hP) rfl hl.1 rfl (Nat.le_of_ble_eq_true rfl) dX9_at_35 ⟨Nat.zero_le _, Nat.zero_le _⟩ hL (fun H locs hP hL => ?_)
        replace hP : P z1 H := by first | exact hP | (simpa only [va_up_id] using hP)
        refine lv_goto (tgt := 42) hx hb dX9_at_38 (by decide) ?_
        cases hf
        exact cx_iret hx hb hr hlocks hP hL dX9_at_42
    · have hf := cx_f hf c7
      refine lv_aload_n hx hb dX9_at_17 rfl (lv_at hl 0 rfl) ?_
      refine lv_iconst (v := 1) hx hb dX9_at_18 (by decide) ?_
      obtain ⟨r13, q14, hf⟩ := cx_b hf
      refine cx_callV (As := [.int 1]) (rest := []) ⟨hx, hb, hml, hown, hts⟩ (c_X9_fail hC q14) (cwV 1 hts (gV mw_151 mw_152 mw_153 mw_5 mw_154) rfl rfl rfl hd_X9_fail ⟨Nat.le_of_ble_eq_true rfl, Nat.le_of_ble_eq_true rfl⟩) hK hP rfl (at_Model hC hP) rfl hl.1 rfl (Nat.le_of_ble_eq_true rfl) dX9_at_19 ⟨Nat.zero_le _, Nat.zero_le _⟩ hL (fun H locs hP hL => ?_)
      replace hP : P r13.2 H := by first | exact hP | (simpa only [va_up_id] using hP)
      cases hf
      exact cx_iret hx hb hr hlocks hP hL dX9_at_22
abbrev rm_X9_share : Room := { frames := 2, cells := 0, slots := 0, locals := 44 }
theorem hd_X9_share : yX9_share.cls = RX9 ∧ yX9_share.cls ≠ "java/lang/invoke/MethodHandle" ∧ yX9_share.cls ≠ "java/lang/invoke/VarHandle" ∧ (parseMethodDescriptor yX9_share.desc).map (fun d => d.parameters.length) = some 1 := by decide +kernel
def f_X9_share_b14 (N : Nat) (μ : MdlS) (x1 : Int32) (y0 : Int32) : Option (UInt64 × MdlS) := cx_let ((oI μ.1 6 y0, μ.2)) fun z1 => if z1.1.2 6 = 0 then gd 2 1384 ((f_X9_ofClient z1 x1 0).bind fun r4 => (f_X9_allWeights N z1).bind fun r6 => gn64 (FP.ddiv (FP.i2d ((z1.1.1 0 (Int32.toNatClampNeg 2)) * r4)) (FP.i2d r6)) (some ((FP.ddiv (FP.i2d ((z1.1.1 0 (Int32.toNatClampNeg 2)) * r4)) (FP.i2d r6)), z1))) else some (FP.dconst0, z1)
set_option maxHeartbeats 4000000 in
set_option maxRecDepth 100000 in
theorem w_X9_share_b14 {p : Program} {l : Launch} {e : Env} {s : State} {m : MethodId} {args : Array Value} {below : List Frame} {meth : Method} {c : Code} {G : va_G} {cA : Nat → ClassId} (C0 : cB p s m args meth c RX9 cX9_share 2 (some .double) G cA) {lo : Nat} {ad : Nat → Nat} {P : MdlS → Heap → Prop} (hC : cx G lo 9 ad (ceModel cA ad) P) {N : Nat} {res : UInt64 × MdlS} : ∀ (μ : MdlS) (x1 : Int32) (y0 : Int32) (H : Heap) (locs : List Loc) (ls : Array Slot), f_X9_share_b14 N μ x1 y0 = some res → P μ H → (∀ q ∈ locs, lo ≤ q.base) → lv_has ls 2 [(0, .ref (ad 0)), (1, .int x1)] → W p l e rm_X9_share s m args below meth c H locs 0 0 (MQ below (cQ (some (.double res.1)) (P res.2)) args s 0 0 (fun q => lo ≤ q)) (F0 m 14 ls [.int y0, .ref (ad 0)]) := by
  obtain ⟨⟨hx, hb, hml, hown, hts⟩, hr, hlocks, hK⟩ := id C0
  intro μ x1 y0 H locs ls hf hP hL hl
  unfold f_X9_share_b14 at hf
  obtain ⟨z1, ez1, hf⟩ := cx_letE hf
  refine p_Model_6 hC hP hx hb hts hown hK mw_149 dX9_share_14 hL (fun H locs hP hL => ?_)
  replace hP : P z1 H := by rw [← ez1]; exact hP
  refine lv_aload_n hx hb dX9_share_17 rfl (lv_at hl 0 rfl) ?_
  refine g_Model_6 hC hP hx hb hts hown hK mw_149 dX9_share_18 ?_
  refine lv_if_ne (tgt := 47) hx hb dX9_share_21 (by decide) (fun c2 => ?_) (fun c2 => ?_)
  · have hf := cx_f hf c2
    refine lv_dconst0 hx hb dX9_share_47 ?_
    cases hf
    exact cx_dret hx hb hr hlocks hP hL dX9_share_48
  · have hf := cx_t hf c2
    refine lv_aload_n hx hb dX9_share_24 rfl (lv_at hl 0 rfl) ?_
    refine g_Model_0 hC hP hx hb hts hown hK mw_114 dX9_share_25 ?_
    refine lv_iconst (v := 2) hx hb dX9_share_28 (by decide) ?_
    obtain ⟨hi3, hf⟩ := gdE hf
    refine ga_Model_0 hC hP hx hb hK hi3 dX9_share_29 ?_
    refine lv_aload_n hx hb dX9_share_30 rfl (lv_at hl 0 rfl) ?_
    refine lv_iload_n hx hb dX9_share_31 rfl (lv_at hl 1 rfl) ?_
    refine lv_iconst (v := 0) hx hb dX9_share_32 (by decide) ?_
    obtain ⟨r4, q5, hf⟩ := cx_b hf
    refine cx_callV (As := [.int x1, .int 0]) (rest := [.int (z1.1.1 0 (Int32.toNatClampNeg 2))]) ⟨hx, hb, hml, hown, hts⟩ (c_X9_ofClient hC q5) (cwV 2 hts (gV mw_635 mw_636 mw_637 mw_5 mw_638) rfl rfl rfl hd_X9_ofClient ⟨Nat.le_of_ble_eq_true rfl, Nat.le_of_ble_eq_true rfl⟩) hK hP rfl (at_Model hC hP) rfl hl.1 rfl (Nat.le_of_ble_eq_true rfl) dX9_share_33 ⟨Nat.zero_le _, Nat.zero_le _⟩ hL (fun H locs hP hL => ?_)
    replace hP : P z1 H := by first | exact hP | (simpa only [va_up_id] using hP)
    refine lv_imul hx hb dX9_share_36 ?_
    refine lv_i2d hx hb dX9_share_37 ?_
    refine lv_aload_n hx hb dX9_share_38 rfl (lv_at hl 0 rfl) ?_
    obtain ⟨r6, q7, hf⟩ := cx_b hf
    refine cx_callV (As := []) (rest := [.double (FP.i2d ((z1.1.1 0 (Int32.toNatClampNeg 2)) * r4))]) ⟨hx, hb, hml, hown, hts⟩ (c_X9_allWeights hC q7) (cwV 0 hts (gV mw_726 mw_727 mw_728 mw_5 mw_729) rfl rfl rfl hd_X9_allWeights ⟨Nat.le_of_ble_eq_true rfl, Nat.le_of_ble_eq_true rfl⟩) hK hP rfl (at_Model hC hP) rfl hl.1 rfl (Nat.le_of_ble_eq_true rfl) dX9_share_39 ⟨Nat.zero_le _, Nat.zero_le _⟩ hL (fun H locs hP hL => ?_)
    replace hP : P z1 H := by first | exact hP | (simpa only [va_up_id] using hP)
    refine lv_i2d hx hb dX9_share_42 ?_
    obtain ⟨hn8, hf⟩ := gn64E hf
    refine lv_ddiv hx hb dX9_share_43 hn8 ?_
    refine lv_goto (tgt := 48) hx hb dX9_share_44 (by decide) ?_
    cases hf
    exact cx_dret hx hb hr hlocks hP hL dX9_share_48
def f_X9_share (N : Nat) (μ : MdlS) (p0 : Int32) : Option (UInt64 × MdlS) := (f_X9_isClient μ p0).bind fun r1 => if r1 = 0 then f_X9_share_b14 N μ p0 1 else f_X9_share_b14 N μ p0 0
set_option maxHeartbeats 4000000 in
set_option maxRecDepth 100000 in
theorem c_X9_share {l : Launch} {G : va_G} {cA : Nat → ClassId} {lo : Nat} {ad : Nat → Nat} {P : MdlS → Heap → Prop} (hC : cx G lo 9 ad (ceModel cA ad) P) {N : Nat} {μ : MdlS} {p0 : Int32} {res : UInt64 × MdlS} (hf : f_X9_share N μ p0 = some res) : Met l yX9_share (cW yX9_share cX9_share 2 (some .double)) rm_X9_share (cP [.ref (ad 0), .int p0] (P μ) G cA) (cQ (some (.double res.1)) (P res.2)) 0 0 (fun q => lo ≤ q) := by
  refine cx_met (by decide) (Nat.le_of_ble_eq_true rfl) (fun p e s m args below meth c ls C0 hP hl => ?_)
  have hl : lv_has ls 2 [(0, .ref (ad 0)), (1, .int p0)] := hl
  obtain ⟨⟨hx, hb, hml, hown, hts⟩, hr, hlocks, hK⟩ := id C0
  have hL : ∀ q ∈ ([] : List Loc), lo ≤ q.base := fun q h => nomatch h
  unfold f_X9_share at hf
  refine lv_aload_n hx hb dX9_share_0 rfl (lv_at hl 0 rfl) ?_
  refine lv_aload_n hx hb dX9_share_1 rfl (lv_at hl 0 rfl) ?_
  refine lv_iload_n hx hb dX9_share_2 rfl (lv_at hl 1 rfl) ?_
  obtain ⟨r1, q2, hf⟩ := cx_b hf
  refine cx_callV (As := [.int p0]) (rest := [.ref (ad 0)]) ⟨hx, hb, hml, hown, hts⟩ (c_X9_isClient hC q2) (cwV 1 hts (gV mw_598 mw_599 mw_600 mw_5 mw_601) rfl rfl rfl hd_X9_isClient ⟨Nat.le_of_ble_eq_true rfl, Nat.le_of_ble_eq_true rfl⟩) hK hP rfl (at_Model hC hP) rfl hl.1 rfl (Nat.le_of_ble_eq_true rfl) dX9_share_3 ⟨Nat.zero_le _, Nat.zero_le _⟩ hL (fun H locs hP hL => ?_)
  replace hP : P μ H := by first | exact hP | (simpa only [va_up_id] using hP)
  refine lv_if_eq (tgt := 13) hx hb dX9_share_6 (by decide) (fun c3 => ?_) (fun c3 => ?_)
  · have hf := cx_t hf c3
    refine lv_iconst (v := 1) hx hb dX9_share_13 (by decide) ?_
    exact w_X9_share_b14 C0 hC μ p0 1 _ _ _ hf hP hL (lv_sub hl [0, 1] rfl)
  · have hf := cx_f hf c3
    refine lv_iconst (v := 0) hx hb dX9_share_9 (by decide) ?_
    refine lv_goto (tgt := 14) hx hb dX9_share_10 (by decide) ?_
    exact w_X9_share_b14 C0 hC μ p0 0 _ _ _ hf hP hL (lv_sub hl [0, 1] rfl)
abbrev rm_X9_hitShare : Room := { frames := 0, cells := 0, slots := 0, locals := 0 }
theorem hd_X9_hitShare : yX9_hitShare.cls = RX9 ∧ yX9_hitShare.cls ≠ "java/lang/invoke/MethodHandle" ∧ yX9_hitShare.cls ≠ "java/lang/invoke/VarHandle" ∧ (parseMethodDescriptor yX9_hitShare.desc).map (fun d => d.parameters.length) = some 0 := by decide +kernel
def f_X9_hitShare (μ : MdlS) : Option (UInt32 × MdlS) := cx_let ((oI μ.1 6 0, μ.2)) fun z1 => gd 5 1384 (if (z1.1.1 0 (Int32.toNatClampNeg 5)) = 0 then some (FP.fconst0, z1) else gd 14 1384 (gd 5 1384 (gn32 (FP.fdiv (FP.i2f (z1.1.1 0 (Int32.toNatClampNeg 14))) (FP.i2f (z1.1.1 0 (Int32.toNatClampNeg 5)))) (some ((FP.fdiv (FP.i2f (z1.1.1 0 (Int32.toNatClampNeg 14))) (FP.i2f (z1.1.1 0 (Int32.toNatClampNeg 5)))), z1)))))
set_option maxHeartbeats 4000000 in
set_option maxRecDepth 100000 in
theorem c_X9_hitShare {l : Launch} {G : va_G} {cA : Nat → ClassId} {lo : Nat} {ad : Nat → Nat} {P : MdlS → Heap → Prop} (hC : cx G lo 9 ad (ceModel cA ad) P) {μ : MdlS} {res : UInt32 × MdlS} (hf : f_X9_hitShare μ = some res) : Met l yX9_hitShare (cW yX9_hitShare cX9_hitShare 1 (some .float)) rm_X9_hitShare (cP [.ref (ad 0)] (P μ) G cA) (cQ (some (.float res.1)) (P res.2)) 0 0 (fun q => lo ≤ q) := by
  refine cx_met (by decide) (Nat.le_of_ble_eq_true rfl) (fun p e s m args below meth c ls C0 hP hl => ?_)
  have hl : lv_has ls 1 [(0, .ref (ad 0))] := hl
  obtain ⟨⟨hx, hb, hml, hown, hts⟩, hr, hlocks, hK⟩ := id C0
  have hL : ∀ q ∈ ([] : List Loc), lo ≤ q.base := fun q h => nomatch h
  unfold f_X9_hitShare at hf
  refine lv_aload_n hx hb dX9_hitShare_0 rfl (lv_at hl 0 rfl) ?_
  refine lv_iconst (v := 0) hx hb dX9_hitShare_1 (by decide) ?_
  obtain ⟨z1, ez1, hf⟩ := cx_letE hf
  refine p_Model_6 hC hP hx hb hts hown hK mw_149 dX9_hitShare_2 hL (fun H locs hP hL => ?_)
  replace hP : P z1 H := by rw [← ez1]; exact hP
  refine lv_aload_n hx hb dX9_hitShare_5 rfl (lv_at hl 0 rfl) ?_
  refine g_Model_0 hC hP hx hb hts hown hK mw_114 dX9_hitShare_6 ?_
  refine lv_iconst (v := 5) hx hb dX9_hitShare_9 (by decide) ?_
  obtain ⟨hi2, hf⟩ := gdE hf
  refine ga_Model_0 hC hP hx hb hK hi2 dX9_hitShare_10 ?_
  refine lv_if_ne (tgt := 18) hx hb dX9_hitShare_11 (by decide) (fun c3 => ?_) (fun c3 => ?_)
  · have hf := cx_f hf c3
    refine lv_aload_n hx hb dX9_hitShare_18 rfl (lv_at hl 0 rfl) ?_
    refine g_Model_0 hC hP hx hb hts hown hK mw_114 dX9_hitShare_19 ?_
    refine lv_bipush (v := 14) hx hb dX9_hitShare_22 (by decide) ?_
    obtain ⟨hi4, hf⟩ := gdE hf
    refine ga_Model_0 hC hP hx hb hK hi4 dX9_hitShare_24 ?_
    refine lv_i2f hx hb dX9_hitShare_25 ?_
    refine lv_aload_n hx hb dX9_hitShare_26 rfl (lv_at hl 0 rfl) ?_
    refine g_Model_0 hC hP hx hb hts hown hK mw_114 dX9_hitShare_27 ?_
    refine lv_iconst (v := 5) hx hb dX9_hitShare_30 (by decide) ?_
    obtain ⟨hi5, hf⟩ := gdE hf
    refine ga_Model_0 hC hP hx hb hK hi5 dX9_hitShare_31 ?_
    refine lv_i2f hx hb dX9_hitShare_32 ?_
    obtain ⟨hn6, hf⟩ := gn32E hf
    refine lv_fdiv hx hb dX9_hitShare_33 hn6 ?_
    cases hf
    exact cx_fret hx hb hr hlocks hP hL dX9_hitShare_34
  · have hf := cx_t hf c3
    refine lv_fconst0 hx hb dX9_hitShare_14 ?_
    refine lv_goto (tgt := 34) hx hb dX9_hitShare_15 (by decide) ?_
    cases hf
    exact cx_fret hx hb hr hlocks hP hL dX9_hitShare_34
abbrev rm_X9_order : Room := { frames := 3, cells := 0, slots := 0, locals := 67 }
theorem hd_X9_order : yX9_order.cls = RX9 ∧ yX9_order.cls ≠ "java/lang/invoke/MethodHandle" ∧ yX9_order.cls ≠ "java/lang/invoke/VarHandle" ∧ (parseMethodDescriptor yX9_order.desc).map (fun d => d.parameters.length) = some 1 := by decide +kernel
def f_X9_order (N : Nat) (μ : MdlS) (p0 : Int32) : Option (Int32 × MdlS) := cx_let ((oI μ.1 6 0, μ.2)) fun z1 => if 0 ≤ p0 then (f_X9_inOrder N z1 p0).bind fun r3 => some (r3, z1) else (f_X9_fail z1 1).bind fun r5 => some (r5.1, r5.2)
set_option maxHeartbeats 4000000 in
set_option maxRecDepth 100000 in
theorem c_X9_order {l : Launch} {G : va_G} {cA : Nat → ClassId} {lo : Nat} {ad : Nat → Nat} {P : MdlS → Heap → Prop} (hC : cx G lo 9 ad (ceModel cA ad) P) {N : Nat} {μ : MdlS} {p0 : Int32} {res : Int32 × MdlS} (hf : f_X9_order N μ p0 = some res) : Met l yX9_order (cW yX9_order cX9_order 2 (some .int)) rm_X9_order (cP [.ref (ad 0), .int p0] (P μ) G cA) (cQ (some (.int res.1)) (P res.2)) 0 0 (fun q => lo ≤ q) := by
  refine cx_met (by decide) (Nat.le_of_ble_eq_true rfl) (fun p e s m args below meth c ls C0 hP hl => ?_)
  have hl : lv_has ls 2 [(0, .ref (ad 0)), (1, .int p0)] := hl
  obtain ⟨⟨hx, hb, hml, hown, hts⟩, hr, hlocks, hK⟩ := id C0
  have hL : ∀ q ∈ ([] : List Loc), lo ≤ q.base := fun q h => nomatch h
  unfold f_X9_order at hf
  refine lv_aload_n hx hb dX9_order_0 rfl (lv_at hl 0 rfl) ?_
  refine lv_iconst (v := 0) hx hb dX9_order_1 (by decide) ?_
  obtain ⟨z1, ez1, hf⟩ := cx_letE hf
  refine p_Model_6 hC hP hx hb hts hown hK mw_149 dX9_order_2 hL (fun H locs hP hL => ?_)
  replace hP : P z1 H := by rw [← ez1]; exact hP
  refine lv_iload_n hx hb dX9_order_5 rfl (lv_at hl 1 rfl) ?_
  refine lv_if_ge (tgt := 17) hx hb dX9_order_6 (by decide) (fun c2 => ?_) (fun c2 => ?_)
  · have hf := cx_t hf c2
    refine lv_aload_n hx hb dX9_order_17 rfl (lv_at hl 0 rfl) ?_
    refine lv_iload_n hx hb dX9_order_18 rfl (lv_at hl 1 rfl) ?_
    obtain ⟨r3, q4, hf⟩ := cx_b hf
    refine cx_callV (As := [.int p0]) (rest := []) ⟨hx, hb, hml, hown, hts⟩ (c_X9_inOrder hC q4) (cwV 1 hts (gV mw_610 mw_611 mw_612 mw_5 mw_613) rfl rfl rfl hd_X9_inOrder ⟨Nat.le_of_ble_eq_true rfl, Nat.le_of_ble_eq_true rfl⟩) hK hP rfl (at_Model hC hP) rfl hl.1 rfl (Nat.le_of_ble_eq_true rfl) dX9_order_19 ⟨Nat.zero_le _, Nat.zero_le _⟩ hL (fun H locs hP hL => ?_)
    replace hP : P z1 H := by first | exact hP | (simpa only [va_up_id] using hP)
    cases hf
    exact cx_iret hx hb hr hlocks hP hL dX9_order_22
  · have hf := cx_f hf c2
    refine lv_aload_n hx hb dX9_order_9 rfl (lv_at hl 0 rfl) ?_
    refine lv_iconst (v := 1) hx hb dX9_order_10 (by decide) ?_
    obtain ⟨r5, q6, hf⟩ := cx_b hf
    refine cx_callV (As := [.int 1]) (rest := []) ⟨hx, hb, hml, hown, hts⟩ (c_X9_fail hC q6) (cwV 1 hts (gV mw_151 mw_152 mw_153 mw_5 mw_154) rfl rfl rfl hd_X9_fail ⟨Nat.le_of_ble_eq_true rfl, Nat.le_of_ble_eq_true rfl⟩) hK hP rfl (at_Model hC hP) rfl hl.1 rfl (Nat.le_of_ble_eq_true rfl) dX9_order_11 ⟨Nat.zero_le _, Nat.zero_le _⟩ hL (fun H locs hP hL => ?_)
    replace hP : P r5.2 H := by first | exact hP | (simpa only [va_up_id] using hP)
    refine lv_goto (tgt := 22) hx hb dX9_order_14 (by decide) ?_
    cases hf
    exact cx_iret hx hb hr hlocks hP hL dX9_order_22
abbrev rm_X9_victim : Room := { frames := 4, cells := 0, slots := 0, locals := 90 }
theorem hd_X9_victim : yX9_victim.cls = RX9 ∧ yX9_victim.cls ≠ "java/lang/invoke/MethodHandle" ∧ yX9_victim.cls ≠ "java/lang/invoke/VarHandle" ∧ (parseMethodDescriptor yX9_victim.desc).map (fun d => d.parameters.length) = some 1 := by decide +kernel
def f_X9_victim (N : Nat) (μ : MdlS) (p0 : Int32) : Option (Int32 × MdlS) := cx_let ((oI μ.1 6 0, μ.2)) fun z1 => (f_X9_isFull z1).bind fun r2 => if r2 = 0 then some ((-1), z1) else (f_X9_victimList z1 p0).bind fun r5 => (f_X9_victimOf N z1 r5).bind fun r7 => some (r7, z1)
set_option maxHeartbeats 4000000 in
set_option maxRecDepth 100000 in
theorem c_X9_victim {l : Launch} {G : va_G} {cA : Nat → ClassId} {lo : Nat} {ad : Nat → Nat} {P : MdlS → Heap → Prop} (hC : cx G lo 9 ad (ceModel cA ad) P) {N : Nat} {μ : MdlS} {p0 : Int32} {res : Int32 × MdlS} (hf : f_X9_victim N μ p0 = some res) : Met l yX9_victim (cW yX9_victim cX9_victim 2 (some .int)) rm_X9_victim (cP [.ref (ad 0), .int p0] (P μ) G cA) (cQ (some (.int res.1)) (P res.2)) 0 0 (fun q => lo ≤ q) := by
  refine cx_met (by decide) (Nat.le_of_ble_eq_true rfl) (fun p e s m args below meth c ls C0 hP hl => ?_)
  have hl : lv_has ls 2 [(0, .ref (ad 0)), (1, .int p0)] := hl
  obtain ⟨⟨hx, hb, hml, hown, hts⟩, hr, hlocks, hK⟩ := id C0
  have hL : ∀ q ∈ ([] : List Loc), lo ≤ q.base := fun q h => nomatch h
  unfold f_X9_victim at hf
  refine lv_aload_n hx hb dX9_victim_0 rfl (lv_at hl 0 rfl) ?_
  refine lv_iconst (v := 0) hx hb dX9_victim_1 (by decide) ?_
  obtain ⟨z1, ez1, hf⟩ := cx_letE hf
  refine p_Model_6 hC hP hx hb hts hown hK mw_149 dX9_victim_2 hL (fun H locs hP hL => ?_)
  replace hP : P z1 H := by rw [← ez1]; exact hP
  refine lv_aload_n hx hb dX9_victim_5 rfl (lv_at hl 0 rfl) ?_
  obtain ⟨r2, q3, hf⟩ := cx_b hf
  refine cx_callV (As := []) (rest := []) ⟨hx, hb, hml, hown, hts⟩ (c_X9_isFull hC q3) (cwV 0 hts (gV mw_706 mw_707 mw_708 mw_5 mw_709) rfl rfl rfl hd_X9_isFull ⟨Nat.le_of_ble_eq_true rfl, Nat.le_of_ble_eq_true rfl⟩) hK hP rfl (at_Model hC hP) rfl hl.1 rfl (Nat.le_of_ble_eq_true rfl) dX9_victim_6 ⟨Nat.zero_le _, Nat.zero_le _⟩ hL (fun H locs hP hL => ?_)
  replace hP : P z1 H := by first | exact hP | (simpa only [va_up_id] using hP)
  refine lv_if_eq (tgt := 24) hx hb dX9_victim_9 (by decide) (fun c4 => ?_) (fun c4 => ?_)
  · have hf := cx_t hf c4
    refine lv_iconst (v := (-1)) hx hb dX9_victim_24 (by decide) ?_
    cases hf
    exact cx_iret hx hb hr hlocks hP hL dX9_victim_25
  · have hf := cx_f hf c4
    refine lv_aload_n hx hb dX9_victim_12 rfl (lv_at hl 0 rfl) ?_
    refine lv_aload_n hx hb dX9_victim_13 rfl (lv_at hl 0 rfl) ?_
    refine lv_iload_n hx hb dX9_victim_14 rfl (lv_at hl 1 rfl) ?_
    obtain ⟨r5, q6, hf⟩ := cx_b hf
    refine cx_callV (As := [.int p0]) (rest := [.ref (ad 0)]) ⟨hx, hb, hml, hown, hts⟩ (c_X9_victimList hC q6) (cwV 1 hts (gV mw_710 mw_711 mw_712 mw_5 mw_713) rfl rfl rfl hd_X9_victimList ⟨Nat.le_of_ble_eq_true rfl, Nat.le_of_ble_eq_true rfl⟩) hK hP rfl (at_Model hC hP) rfl hl.1 rfl (Nat.le_of_ble_eq_true rfl) dX9_victim_15 ⟨Nat.zero_le _, Nat.zero_le _⟩ hL (fun H locs hP hL => ?_)
    replace hP : P z1 H := by first | exact hP | (simpa only [va_up_id] using hP)
    obtain ⟨r7, q8, hf⟩ := cx_b hf
    refine cx_callV (As := [.int r5]) (rest := []) ⟨hx, hb, hml, hown, hts⟩ (c_X9_victimOf hC q8) (cwV 1 hts (gV mw_714 mw_715 mw_716 mw_5 mw_717) rfl rfl rfl hd_X9_victimOf ⟨Nat.le_of_ble_eq_true rfl, Nat.le_of_ble_eq_true rfl⟩) hK hP rfl (at_Model hC hP) rfl hl.1 rfl (Nat.le_of_ble_eq_true rfl) dX9_victim_18 ⟨Nat.zero_le _, Nat.zero_le _⟩ hL (fun H locs hP hL => ?_)
    replace hP : P z1 H := by first | exact hP | (simpa only [va_up_id] using hP)
    refine lv_goto (tgt := 25) hx hb dX9_victim_21 (by decide) ?_
    cases hf
    exact cx_iret hx hb hr hlocks hP hL dX9_victim_25
abbrev rm_X9_leaving : Room := { frames := 2, cells := 0, slots := 0, locals := 43 }
theorem hd_X9_leaving : yX9_leaving.cls = RX9 ∧ yX9_leaving.cls ≠ "java/lang/invoke/MethodHandle" ∧ yX9_leaving.cls ≠ "java/lang/invoke/VarHandle" ∧ (parseMethodDescriptor yX9_leaving.desc).map (fun d => d.parameters.length) = some 0 := by decide +kernel
def f_X9_leaving (N : Nat) (μ : MdlS) : Option (Int32 × MdlS) := cx_let ((oI μ.1 6 0, μ.2)) fun z1 => (f_X9_length z1 2).bind fun r2 => gd 3 1384 (if r2 = (z1.1.1 0 (Int32.toNatClampNeg 3)) then (f_X9_leavingUnit N z1).bind fun r6 => some (r6, z1) else some ((-1), z1))
set_option maxHeartbeats 4000000 in
set_option maxRecDepth 100000 in
theorem c_X9_leaving {l : Launch} {G : va_G} {cA : Nat → ClassId} {lo : Nat} {ad : Nat → Nat} {P : MdlS → Heap → Prop} (hC : cx G lo 9 ad (ceModel cA ad) P) {N : Nat} {μ : MdlS} {res : Int32 × MdlS} (hf : f_X9_leaving N μ = some res) : Met l yX9_leaving (cW yX9_leaving cX9_leaving 1 (some .int)) rm_X9_leaving (cP [.ref (ad 0)] (P μ) G cA) (cQ (some (.int res.1)) (P res.2)) 0 0 (fun q => lo ≤ q) := by
  refine cx_met (by decide) (Nat.le_of_ble_eq_true rfl) (fun p e s m args below meth c ls C0 hP hl => ?_)
  have hl : lv_has ls 1 [(0, .ref (ad 0))] := hl
  obtain ⟨⟨hx, hb, hml, hown, hts⟩, hr, hlocks, hK⟩ := id C0
  have hL : ∀ q ∈ ([] : List Loc), lo ≤ q.base := fun q h => nomatch h
  unfold f_X9_leaving at hf
  refine lv_aload_n hx hb dX9_leaving_0 rfl (lv_at hl 0 rfl) ?_
  refine lv_iconst (v := 0) hx hb dX9_leaving_1 (by decide) ?_
  obtain ⟨z1, ez1, hf⟩ := cx_letE hf
  refine p_Model_6 hC hP hx hb hts hown hK mw_149 dX9_leaving_2 hL (fun H locs hP hL => ?_)
  replace hP : P z1 H := by rw [← ez1]; exact hP
  refine lv_aload_n hx hb dX9_leaving_5 rfl (lv_at hl 0 rfl) ?_
  refine lv_iconst (v := 2) hx hb dX9_leaving_6 (by decide) ?_
  obtain ⟨r2, q3, hf⟩ := cx_b hf
  refine cx_callV (As := [.int 2]) (rest := []) ⟨hx, hb, hml, hown, hts⟩ (c_X9_length hC q3) (cwV 1 hts (gV mw_663 mw_664 mw_665 mw_5 mw_666) rfl rfl rfl hd_X9_length ⟨Nat.le_of_ble_eq_true rfl, Nat.le_of_ble_eq_true rfl⟩) hK hP rfl (at_Model hC hP) rfl hl.1 rfl (Nat.le_of_ble_eq_true rfl) dX9_leaving_7 ⟨Nat.zero_le _, Nat.zero_le _⟩ hL (fun H locs hP hL => ?_)
  replace hP : P z1 H := by first | exact hP | (simpa only [va_up_id] using hP)
  refine lv_aload_n hx hb dX9_leaving_10 rfl (lv_at hl 0 rfl) ?_
  refine g_Model_0 hC hP hx hb hts hown hK mw_114 dX9_leaving_11 ?_
  refine lv_iconst (v := 3) hx hb dX9_leaving_14 (by decide) ?_
  obtain ⟨hi4, hf⟩ := gdE hf
  refine ga_Model_0 hC hP hx hb hK hi4 dX9_leaving_15 ?_
  refine lv_icmp_ne (tgt := 26) hx hb dX9_leaving_16 (by decide) (fun c5 => ?_) (fun c5 => ?_)
  · have hf := cx_f hf c5
    refine lv_iconst (v := (-1)) hx hb dX9_leaving_26 (by decide) ?_
    cases hf
    exact cx_iret hx hb hr hlocks hP hL dX9_leaving_27
  · have hf := cx_t hf c5
    refine lv_aload_n hx hb dX9_leaving_19 rfl (lv_at hl 0 rfl) ?_
    obtain ⟨r6, q7, hf⟩ := cx_b hf
    refine cx_callV (As := []) (rest := []) ⟨hx, hb, hml, hown, hts⟩ (c_X9_leavingUnit hC q7) (cwV 0 hts (gV mw_680 mw_681 mw_682 mw_5 mw_683) rfl rfl rfl hd_X9_leavingUnit ⟨Nat.le_of_ble_eq_true rfl, Nat.le_of_ble_eq_true rfl⟩) hK hP rfl (at_Model hC hP) rfl hl.1 rfl (Nat.le_of_ble_eq_true rfl) dX9_leaving_20 ⟨Nat.zero_le _, Nat.zero_le _⟩ hL (fun H locs hP hL => ?_)
    replace hP : P z1 H := by first | exact hP | (simpa only [va_up_id] using hP)
    refine lv_goto (tgt := 27) hx hb dX9_leaving_23 (by decide) ?_
    cases hf
    exact cx_iret hx hb hr hlocks hP hL dX9_leaving_27
abbrev rm_X9_oldest : Room := { frames := 2, cells := 0, slots := 0, locals := 43 }
theorem hd_X9_oldest : yX9_oldest.cls = RX9 ∧ yX9_oldest.cls ≠ "java/lang/invoke/MethodHandle" ∧ yX9_oldest.cls ≠ "java/lang/invoke/VarHandle" ∧ (parseMethodDescriptor yX9_oldest.desc).map (fun d => d.parameters.length) = some 0 := by decide +kernel
def f_X9_oldest_b44 (N : Nat) (k9 : MdlS → Int32 → Int32 → Option (Int32 × MdlS)) (μ : MdlS) (x1 : Int32) (x2 : Int32) : Option (Int32 × MdlS) := k9 μ x2 (x2 + 1)
set_option maxHeartbeats 4000000 in
set_option maxRecDepth 100000 in
theorem w_X9_oldest_b44 {p : Program} {l : Launch} {e : Env} {s : State} {m : MethodId} {args : Array Value} {below : List Frame} {meth : Method} {c : Code} {G : va_G} {cA : Nat → ClassId} (C0 : cB p s m args meth c RX9 cX9_oldest 4 (some .int) G cA) {lo : Nat} {ad : Nat → Nat} {P : MdlS → Heap → Prop} (hC : cx G lo 9 ad (ceModel cA ad) P) {N : Nat} {res : Int32 × MdlS} {k9 : MdlS → Int32 → Int32 → Option (Int32 × MdlS)} (hk9 : ∀ (μ : MdlS) (x1 : Int32) (x2 : Int32) (H : Heap) (locs : List Loc) (ls : Array Slot), k9 μ x1 x2 = some res → P μ H → (∀ q ∈ locs, lo ≤ q.base) → lv_has ls 4 [(0, .ref (ad 0)), (1, .int x1), (2, .int x2)] → W p l e rm_X9_oldest s m args below meth c H locs 0 0 (MQ below (cQ (some (.int res.1)) (P res.2)) args s 0 0 (fun q => lo ≤ q)) (F0 m 9 ls [])) : ∀ (μ : MdlS) (x1 : Int32) (x2 : Int32) (H : Heap) (locs : List Loc) (ls : Array Slot), f_X9_oldest_b44 N k9 μ x1 x2 = some res → P μ H → (∀ q ∈ locs, lo ≤ q.base) → lv_has ls 4 [(0, .ref (ad 0)), (1, .int x1), (2, .int x2)] → W p l e rm_X9_oldest s m args below meth c H locs 0 0 (MQ below (cQ (some (.int res.1)) (P res.2)) args s 0 0 (fun q => lo ≤ q)) (F0 m 44 ls []) := by
  obtain ⟨⟨hx, hb, hml, hown, hts⟩, hr, hlocks, hK⟩ := id C0
  intro μ x1 x2 H locs ls hf hP hL hl
  unfold f_X9_oldest_b44 at hf
  refine lv_iconst (v := 1) hx hb dX9_oldest_44 (by decide) ?_
  refine lv_goto (tgt := 49) hx hb dX9_oldest_45 (by decide) ?_
  refine lv_istore_n (lv' := [(3, .int 1), (0, .ref (ad 0)), (1, .int x1), (2, .int x2)]) hx hb dX9_oldest_49 rfl hl (by decide) rfl (fun ls hl => ?_)
  refine lv_iload_n hx hb dX9_oldest_50 rfl (lv_at hl 0 rfl) ?_
  refine lv_if_eq (tgt := 58) hx hb dX9_oldest_51 (by decide) (fun q => absurd q (by decide)) (fun _ => ?_)
  refine lv_iload_n hx hb dX9_oldest_54 rfl (lv_at hl 3 rfl) ?_
  refine lv_goto (tgt := 59) hx hb dX9_oldest_55 (by decide) ?_
  refine lv_istore_n (lv' := [(1, .int x2), (3, .int 1), (0, .ref (ad 0)), (2, .int x2)]) hx hb dX9_oldest_59 rfl hl (by decide) rfl (fun ls hl => ?_)
  refine lv_iinc (v := (x2 + 1)) (lv' := [(2, .int (x2 + 1)), (1, .int x2), (3, .int 1), (0, .ref (ad 0))]) hx hb dX9_oldest_60 hl (k := 3) rfl rfl (by decide) rfl (fun ls hl => ?_)
  refine lv_goto (tgt := 9) hx hb dX9_oldest_63 (by decide) ?_
  exact hk9 μ x2 (x2 + 1) _ _ _ hf hP hL (lv_sub hl [3, 1, 0] rfl)
def f_X9_oldest_b48 (N : Nat) (k9 : MdlS → Int32 → Int32 → Option (Int32 × MdlS)) (μ : MdlS) (x1 : Int32) (x2 : Int32) : Option (Int32 × MdlS) := k9 μ x1 (x2 + 1)
set_option maxHeartbeats 4000000 in
set_option maxRecDepth 100000 in
theorem w_X9_oldest_b48 {p : Program} {l : Launch} {e : Env} {s : State} {m : MethodId} {args : Array Value} {below : List Frame} {meth : Method} {c : Code} {G : va_G} {cA : Nat → ClassId} (C0 : cB p s m args meth c RX9 cX9_oldest 4 (some .int) G cA) {lo : Nat} {ad : Nat → Nat} {P : MdlS → Heap → Prop} (hC : cx G lo 9 ad (ceModel cA ad) P) {N : Nat} {res : Int32 × MdlS} {k9 : MdlS → Int32 → Int32 → Option (Int32 × MdlS)} (hk9 : ∀ (μ : MdlS) (x1 : Int32) (x2 : Int32) (H : Heap) (locs : List Loc) (ls : Array Slot), k9 μ x1 x2 = some res → P μ H → (∀ q ∈ locs, lo ≤ q.base) → lv_has ls 4 [(0, .ref (ad 0)), (1, .int x1), (2, .int x2)] → W p l e rm_X9_oldest s m args below meth c H locs 0 0 (MQ below (cQ (some (.int res.1)) (P res.2)) args s 0 0 (fun q => lo ≤ q)) (F0 m 9 ls [])) : ∀ (μ : MdlS) (x1 : Int32) (x2 : Int32) (H : Heap) (locs : List Loc) (ls : Array Slot), f_X9_oldest_b48 N k9 μ x1 x2 = some res → P μ H → (∀ q ∈ locs, lo ≤ q.base) → lv_has ls 4 [(0, .ref (ad 0)), (1, .int x1), (2, .int x2)] → W p l e rm_X9_oldest s m args below meth c H locs 0 0 (MQ below (cQ (some (.int res.1)) (P res.2)) args s 0 0 (fun q => lo ≤ q)) (F0 m 48 ls []) := by
  obtain ⟨⟨hx, hb, hml, hown, hts⟩, hr, hlocks, hK⟩ := id C0
  intro μ x1 x2 H locs ls hf hP hL hl
  unfold f_X9_oldest_b48 at hf
  refine lv_iconst (v := 0) hx hb dX9_oldest_48 (by decide) ?_
  refine lv_istore_n (lv' := [(3, .int 0), (0, .ref (ad 0)), (1, .int x1), (2, .int x2)]) hx hb dX9_oldest_49 rfl hl (by decide) rfl (fun ls hl => ?_)
  refine lv_iload_n hx hb dX9_oldest_50 rfl (lv_at hl 0 rfl) ?_
  refine lv_if_eq (tgt := 58) hx hb dX9_oldest_51 (by decide) (fun _ => ?_) (fun q => absurd (by decide) q)
  refine lv_iload_n hx hb dX9_oldest_58 rfl (lv_at hl 2 rfl) ?_
  refine lv_istore_n (lv' := [(1, .int x1), (3, .int 0), (0, .ref (ad 0)), (2, .int x2)]) hx hb dX9_oldest_59 rfl hl (by decide) rfl (fun ls hl => ?_)
  refine lv_iinc (v := (x2 + 1)) (lv' := [(2, .int (x2 + 1)), (1, .int x1), (3, .int 0), (0, .ref (ad 0))]) hx hb dX9_oldest_60 hl (k := 3) rfl rfl (by decide) rfl (fun ls hl => ?_)
  refine lv_goto (tgt := 9) hx hb dX9_oldest_63 (by decide) ?_
  exact hk9 μ x1 (x2 + 1) _ _ _ hf hP hL (lv_sub hl [3, 1, 0] rfl)
def f_X9_oldest_b9 (N : Nat) : Nat → MdlS → Int32 → Int32 → Option (Int32 × MdlS)
  | 0, _, _, _ => none
  | n + 1, μ, x1, x2 => if 200 ≤ x2 then some (x1, μ) else (f_X9_isDirty μ x2).bind fun r2 => if r2 = 0 then f_X9_oldest_b48 N (f_X9_oldest_b9 N n) μ x1 x2 else if x1 = (-1) then f_X9_oldest_b44 N (f_X9_oldest_b9 N n) μ x1 x2 else (f_X9_of μ x2 3).bind fun r6 => (f_X9_of μ x1 3).bind fun r8 => if r8 ≤ r6 then f_X9_oldest_b48 N (f_X9_oldest_b9 N n) μ x1 x2 else f_X9_oldest_b44 N (f_X9_oldest_b9 N n) μ x1 x2
set_option maxHeartbeats 4000000 in
set_option maxRecDepth 100000 in
theorem w_X9_oldest_b9 {p : Program} {l : Launch} {e : Env} {s : State} {m : MethodId} {args : Array Value} {below : List Frame} {meth : Method} {c : Code} {G : va_G} {cA : Nat → ClassId} (C0 : cB p s m args meth c RX9 cX9_oldest 4 (some .int) G cA) {lo : Nat} {ad : Nat → Nat} {P : MdlS → Heap → Prop} (hC : cx G lo 9 ad (ceModel cA ad) P) {N : Nat} {res : Int32 × MdlS} : ∀ (n : Nat) (μ : MdlS) (x1 : Int32) (x2 : Int32) (H : Heap) (locs : List Loc) (ls : Array Slot), f_X9_oldest_b9 N n μ x1 x2 = some res → P μ H → (∀ q ∈ locs, lo ≤ q.base) → lv_has ls 4 [(0, .ref (ad 0)), (1, .int x1), (2, .int x2)] → W p l e rm_X9_oldest s m args below meth c H locs 0 0 (MQ below (cQ (some (.int res.1)) (P res.2)) args s 0 0 (fun q => lo ≤ q)) (F0 m 9 ls []) := by
  obtain ⟨⟨hx, hb, hml, hown, hts⟩, hr, hlocks, hK⟩ := id C0
  intro n
  induction n with
  | zero => intro μ x1 x2 H locs ls
            exact fun hf => nomatch hf
  | succ n ih =>
    intro μ x1 x2 H locs ls hf hP hL hl
    rw [f_X9_oldest_b9] at hf
    refine lv_iload_n hx hb dX9_oldest_9 rfl (lv_at hl 2 rfl) ?_
    refine lv_sipush (v := 200) hx hb dX9_oldest_10 (by decide) ?_
    refine lv_icmp_ge (tgt := 66) hx hb dX9_oldest_13 (by decide) (fun c1 => ?_) (fun c1 => ?_)
    · have hf := cx_t hf c1
      refine lv_iload_n hx hb dX9_oldest_66 rfl (lv_at hl 1 rfl) ?_
      cases hf
      exact cx_iret hx hb hr hlocks hP hL dX9_oldest_67
    · have hf := cx_f hf c1
      refine lv_aload_n hx hb dX9_oldest_16 rfl (lv_at hl 0 rfl) ?_
      refine lv_iload_n hx hb dX9_oldest_17 rfl (lv_at hl 2 rfl) ?_
      obtain ⟨r2, q3, hf⟩ := cx_b hf
      refine cx_callV (As := [.int x2]) (rest := []) ⟨hx, hb, hml, hown, hts⟩ (c_X9_isDirty hC q3) (cwV 1 hts (gV mw_614 mw_615 mw_616 mw_5 mw_617) rfl rfl rfl hd_X9_isDirty ⟨Nat.le_of_ble_eq_true rfl, Nat.le_of_ble_eq_true rfl⟩) hK hP rfl (at_Model hC hP) rfl hl.1 rfl (Nat.le_of_ble_eq_true rfl) dX9_oldest_18 ⟨Nat.zero_le _, Nat.zero_le _⟩ hL (fun H locs hP hL => ?_)
      replace hP : P μ H := by first | exact hP | (simpa only [va_up_id] using hP)
      refine lv_if_eq (tgt := 48) hx hb dX9_oldest_21 (by decide) (fun c4 => ?_) (fun c4 => ?_)
      · have hf := cx_t hf c4
        exact w_X9_oldest_b48 C0 hC ih μ x1 x2 _ _ _ hf hP hL (lv_sub hl [0, 1, 2] rfl)
      · have hf := cx_f hf c4
        refine lv_iload_n hx hb dX9_oldest_24 rfl (lv_at hl 1 rfl) ?_
        refine lv_iconst (v := (-1)) hx hb dX9_oldest_25 (by decide) ?_
        refine lv_icmp_eq (tgt := 44) hx hb dX9_oldest_26 (by decide) (fun c5 => ?_) (fun c5 => ?_)
        · have hf := cx_t hf c5
          exact w_X9_oldest_b44 C0 hC ih μ x1 x2 _ _ _ hf hP hL (lv_sub hl [0, 1, 2] rfl)
        · have hf := cx_f hf c5
          refine lv_aload_n hx hb dX9_oldest_29 rfl (lv_at hl 0 rfl) ?_
          refine lv_iload_n hx hb dX9_oldest_30 rfl (lv_at hl 2 rfl) ?_
          refine lv_iconst (v := 3) hx hb dX9_oldest_31 (by decide) ?_
          obtain ⟨r6, q7, hf⟩ := cx_b hf
          refine cx_callV (As := [.int x2, .int 3]) (rest := []) ⟨hx, hb, hml, hown, hts⟩ (c_X9_of hC q7) (cwV 2 hts (gV mw_618 mw_619 mw_620 mw_5 mw_621) rfl rfl rfl hd_X9_of ⟨Nat.le_of_ble_eq_true rfl, Nat.le_of_ble_eq_true rfl⟩) hK hP rfl (at_Model hC hP) rfl hl.1 rfl (Nat.le_of_ble_eq_true rfl) dX9_oldest_32 ⟨Nat.zero_le _, Nat.zero_le _⟩ hL (fun H locs hP hL => ?_)
          replace hP : P μ H := by first | exact hP | (simpa only [va_up_id] using hP)
          refine lv_aload_n hx hb dX9_oldest_35 rfl (lv_at hl 0 rfl) ?_
          refine lv_iload_n hx hb dX9_oldest_36 rfl (lv_at hl 1 rfl) ?_
          refine lv_iconst (v := 3) hx hb dX9_oldest_37 (by decide) ?_
          obtain ⟨r8, q9, hf⟩ := cx_b hf
          refine cx_callV (As := [.int x1, .int 3]) (rest := [.int r6]) ⟨hx, hb, hml, hown, hts⟩ (c_X9_of hC q9) (cwV 2 hts (gV mw_618 mw_619 mw_620 mw_5 mw_621) rfl rfl rfl hd_X9_of ⟨Nat.le_of_ble_eq_true rfl, Nat.le_of_ble_eq_true rfl⟩) hK hP rfl (at_Model hC hP) rfl hl.1 rfl (Nat.le_of_ble_eq_true rfl) dX9_oldest_38 ⟨Nat.zero_le _, Nat.zero_le _⟩ hL (fun H locs hP hL => ?_)
          replace hP : P μ H := by first | exact hP | (simpa only [va_up_id] using hP)
          refine lv_icmp_ge (tgt := 48) hx hb dX9_oldest_41 (by decide) (fun c10 => ?_) (fun c10 => ?_)
          · have hf := cx_t hf c10
            exact w_X9_oldest_b48 C0 hC ih μ x1 x2 _ _ _ hf hP hL (lv_sub hl [0, 1, 2] rfl)
          · have hf := cx_f hf c10
            exact w_X9_oldest_b44 C0 hC ih μ x1 x2 _ _ _ hf hP hL (lv_sub hl [0, 1, 2] rfl)
def f_X9_oldest (N : Nat) (μ : MdlS) : Option (Int32 × MdlS) := cx_let ((oI μ.1 6 0, μ.2)) fun z1 => f_X9_oldest_b9 N N z1 (-1) 0
set_option maxHeartbeats 4000000 in
set_option maxRecDepth 100000 in
theorem c_X9_oldest {l : Launch} {G : va_G} {cA : Nat → ClassId} {lo : Nat} {ad : Nat → Nat} {P : MdlS → Heap → Prop} (hC : cx G lo 9 ad (ceModel cA ad) P) {N : Nat} {μ : MdlS} {res : Int32 × MdlS} (hf : f_X9_oldest N μ = some res) : Met l yX9_oldest (cW yX9_oldest cX9_oldest 4 (some .int)) rm_X9_oldest (cP [.ref (ad 0)] (P μ) G cA) (cQ (some (.int res.1)) (P res.2)) 0 0 (fun q => lo ≤ q) := by
  refine cx_met (by decide) (Nat.le_of_ble_eq_true rfl) (fun p e s m args below meth c ls C0 hP hl => ?_)
  have hl : lv_has ls 4 [(0, .ref (ad 0))] := hl
  obtain ⟨⟨hx, hb, hml, hown, hts⟩, hr, hlocks, hK⟩ := id C0
  have hL : ∀ q ∈ ([] : List Loc), lo ≤ q.base := fun q h => nomatch h
  unfold f_X9_oldest at hf
  refine lv_aload_n hx hb dX9_oldest_0 rfl (lv_at hl 0 rfl) ?_
  refine lv_iconst (v := 0) hx hb dX9_oldest_1 (by decide) ?_
  obtain ⟨z1, ez1, hf⟩ := cx_letE hf
  refine p_Model_6 hC hP hx hb hts hown hK mw_149 dX9_oldest_2 hL (fun H locs hP hL => ?_)
  replace hP : P z1 H := by rw [← ez1]; exact hP
  refine lv_iconst (v := (-1)) hx hb dX9_oldest_5 (by decide) ?_
  refine lv_istore_n (lv' := [(1, .int (-1)), (0, .ref (ad 0))]) hx hb dX9_oldest_6 rfl hl (by decide) rfl (fun ls hl => ?_)
  refine lv_iconst (v := 0) hx hb dX9_oldest_7 (by decide) ?_
  refine lv_istore_n (lv' := [(2, .int 0), (1, .int (-1)), (0, .ref (ad 0))]) hx hb dX9_oldest_8 rfl hl (by decide) rfl (fun ls hl => ?_)
  exact w_X9_oldest_b9 C0 hC N z1 (-1) 0 _ _ _ hf hP hL (lv_sub hl [2, 1, 0] rfl)
abbrev rm_X9_ages : Room := { frames := 2, cells := 0, slots := 0, locals := 43 }
theorem hd_X9_ages : yX9_ages.cls = RX9 ∧ yX9_ages.cls ≠ "java/lang/invoke/MethodHandle" ∧ yX9_ages.cls ≠ "java/lang/invoke/VarHandle" ∧ (parseMethodDescriptor yX9_ages.desc).map (fun d => d.parameters.length) = some 1 := by decide +kernel
def f_X9_ages_b24 (N : Nat) : Nat → MdlS → Int32 → Int32 → Int32 → Option (Int32 × MdlS)
  | 0, _, _, _, _ => none
  | n + 1, μ, x1, x2, x3 => (f_X9_length μ x1).bind fun r1 => if r1 ≤ x3 then some (x2, μ) else (f_X9_blockAt μ x1 x3).bind fun r4 => (f_X9_isDirty μ r4).bind fun r6 => if r6 = 0 then f_X9_ages_b24 N n μ x1 (x2 + 0) (x3 + 1) else gd 5 1384 ((f_X9_of μ r4 3).bind fun r10 => f_X9_ages_b24 N n μ x1 (x2 + ((μ.1.1 0 (Int32.toNatClampNeg 5)) - r10)) (x3 + 1))
set_option maxHeartbeats 4000000 in
set_option maxRecDepth 100000 in
theorem w_X9_ages_b24 {p : Program} {l : Launch} {e : Env} {s : State} {m : MethodId} {args : Array Value} {below : List Frame} {meth : Method} {c : Code} {G : va_G} {cA : Nat → ClassId} (C0 : cB p s m args meth c RX9 cX9_ages 5 (some .int) G cA) {lo : Nat} {ad : Nat → Nat} {P : MdlS → Heap → Prop} (hC : cx G lo 9 ad (ceModel cA ad) P) {N : Nat} {res : Int32 × MdlS} : ∀ (n : Nat) (μ : MdlS) (x1 : Int32) (x2 : Int32) (x3 : Int32) (H : Heap) (locs : List Loc) (ls : Array Slot), f_X9_ages_b24 N n μ x1 x2 x3 = some res → P μ H → (∀ q ∈ locs, lo ≤ q.base) → lv_has ls 5 [(0, .ref (ad 0)), (1, .int x1), (2, .int x2), (3, .int x3)] → W p l e rm_X9_ages s m args below meth c H locs 0 0 (MQ below (cQ (some (.int res.1)) (P res.2)) args s 0 0 (fun q => lo ≤ q)) (F0 m 24 ls []) := by
  obtain ⟨⟨hx, hb, hml, hown, hts⟩, hr, hlocks, hK⟩ := id C0
  intro n
  induction n with
  | zero => intro μ x1 x2 x3 H locs ls
            exact fun hf => nomatch hf
  | succ n ih =>
    intro μ x1 x2 x3 H locs ls hf hP hL hl
    rw [f_X9_ages_b24] at hf
    refine lv_iload_n hx hb dX9_ages_24 rfl (lv_at hl 3 rfl) ?_
    refine lv_aload_n hx hb dX9_ages_25 rfl (lv_at hl 0 rfl) ?_
    refine lv_iload_n hx hb dX9_ages_26 rfl (lv_at hl 1 rfl) ?_
    obtain ⟨r1, q2, hf⟩ := cx_b hf
    refine cx_callV (As := [.int x1]) (rest := [.int x3]) ⟨hx, hb, hml, hown, hts⟩ (c_X9_length hC q2) (cwV 1 hts (gV mw_663 mw_664 mw_665 mw_5 mw_666) rfl rfl rfl hd_X9_length ⟨Nat.le_of_ble_eq_true rfl, Nat.le_of_ble_eq_true rfl⟩) hK hP rfl (at_Model hC hP) rfl hl.1 rfl (Nat.le_of_ble_eq_true rfl) dX9_ages_27 ⟨Nat.zero_le _, Nat.zero_le _⟩ hL (fun H locs hP hL => ?_)
    replace hP : P μ H := by first | exact hP | (simpa only [va_up_id] using hP)
    refine lv_icmp_ge (tgt := 77) hx hb dX9_ages_30 (by decide) (fun c3 => ?_) (fun c3 => ?_)
    · have hf := cx_t hf c3
      refine lv_iload_n hx hb dX9_ages_77 rfl (lv_at hl 2 rfl) ?_
      cases hf
      exact cx_iret hx hb hr hlocks hP hL dX9_ages_78
    · have hf := cx_f hf c3
      refine lv_aload_n hx hb dX9_ages_33 rfl (lv_at hl 0 rfl) ?_
      refine lv_iload_n hx hb dX9_ages_34 rfl (lv_at hl 1 rfl) ?_
      refine lv_iload_n hx hb dX9_ages_35 rfl (lv_at hl 3 rfl) ?_
      obtain ⟨r4, q5, hf⟩ := cx_b hf
      refine cx_callV (As := [.int x1, .int x3]) (rest := []) ⟨hx, hb, hml, hown, hts⟩ (c_X9_blockAt hC q5) (cwV 2 hts (gV mw_659 mw_660 mw_661 mw_5 mw_662) rfl rfl rfl hd_X9_blockAt ⟨Nat.le_of_ble_eq_true rfl, Nat.le_of_ble_eq_true rfl⟩) hK hP rfl (at_Model hC hP) rfl hl.1 rfl (Nat.le_of_ble_eq_true rfl) dX9_ages_36 ⟨Nat.zero_le _, Nat.zero_le _⟩ hL (fun H locs hP hL => ?_)
      replace hP : P μ H := by first | exact hP | (simpa only [va_up_id] using hP)
      refine lv_istore (lv' := [(4, .int r4), (0, .ref (ad 0)), (1, .int x1), (2, .int x2), (3, .int x3)]) hx hb dX9_ages_39 hl (by decide) rfl (fun ls hl => ?_)
      refine lv_iload_n hx hb dX9_ages_41 rfl (lv_at hl 3 rfl) ?_
      refine lv_aload_n hx hb dX9_ages_42 rfl (lv_at hl 1 rfl) ?_
      refine lv_iload hx hb dX9_ages_43 (lv_at hl 0 rfl) ?_
      obtain ⟨r6, q7, hf⟩ := cx_b hf
      refine cx_callV (As := [.int r4]) (rest := [.int x2]) ⟨hx, hb, hml, hown, hts⟩ (c_X9_isDirty hC q7) (cwV 1 hts (gV mw_614 mw_615 mw_616 mw_5 mw_617) rfl rfl rfl hd_X9_isDirty ⟨Nat.le_of_ble_eq_true rfl, Nat.le_of_ble_eq_true rfl⟩) hK hP rfl (at_Model hC hP) rfl hl.1 rfl (Nat.le_of_ble_eq_true rfl) dX9_ages_45 ⟨Nat.zero_le _, Nat.zero_le _⟩ hL (fun H locs hP hL => ?_)
      replace hP : P μ H := by first | exact hP | (simpa only [va_up_id] using hP)
      refine lv_if_eq (tgt := 68) hx hb dX9_ages_48 (by decide) (fun c8 => ?_) (fun c8 => ?_)
      · have hf := cx_t hf c8
        refine lv_iconst (v := 0) hx hb dX9_ages_68 (by decide) ?_
        refine lv_iadd hx hb dX9_ages_69 ?_
        refine lv_istore_n (lv' := [(2, .int (x2 + 0)), (4, .int r4), (0, .ref (ad 0)), (1, .int x1), (3, .int x3)]) hx hb dX9_ages_70 rfl hl (by decide) rfl (fun ls hl => ?_)
        refine lv_iinc (v := (x3 + 1)) (lv' := [(3, .int (x3 + 1)), (2, .int (x2 + 0)), (4, .int r4), (0, .ref (ad 0)), (1, .int x1)]) hx hb dX9_ages_71 hl (k := 4) rfl rfl (by decide) rfl (fun ls hl => ?_)
        refine lv_goto (tgt := 24) hx hb dX9_ages_74 (by decide) ?_
        exact ih μ x1 (x2 + 0) (x3 + 1) _ _ _ hf hP hL (lv_sub hl [3, 4, 1, 0] rfl)
      · have hf := cx_f hf c8
        refine lv_aload_n hx hb dX9_ages_51 rfl (lv_at hl 1 rfl) ?_
        refine g_Model_0 hC hP hx hb hts hown hK mw_114 dX9_ages_52 ?_
        refine lv_iconst (v := 5) hx hb dX9_ages_55 (by decide) ?_
        obtain ⟨hi9, hf⟩ := gdE hf
        refine ga_Model_0 hC hP hx hb hK hi9 dX9_ages_56 ?_
        refine lv_aload_n hx hb dX9_ages_57 rfl (lv_at hl 1 rfl) ?_
        refine lv_iload hx hb dX9_ages_58 (lv_at hl 0 rfl) ?_
        refine lv_iconst (v := 3) hx hb dX9_ages_60 (by decide) ?_
        obtain ⟨r10, q11, hf⟩ := cx_b hf
        refine cx_callV (As := [.int r4, .int 3]) (rest := [.int (μ.1.1 0 (Int32.toNatClampNeg 5)), .int x2]) ⟨hx, hb, hml, hown, hts⟩ (c_X9_of hC q11) (cwV 2 hts (gV mw_618 mw_619 mw_620 mw_5 mw_621) rfl rfl rfl hd_X9_of ⟨Nat.le_of_ble_eq_true rfl, Nat.le_of_ble_eq_true rfl⟩) hK hP rfl (at_Model hC hP) rfl hl.1 rfl (Nat.le_of_ble_eq_true rfl) dX9_ages_61 ⟨Nat.zero_le _, Nat.zero_le _⟩ hL (fun H locs hP hL => ?_)
        replace hP : P μ H := by first | exact hP | (simpa only [va_up_id] using hP)
        refine lv_isub hx hb dX9_ages_64 ?_
        refine lv_goto (tgt := 69) hx hb dX9_ages_65 (by decide) ?_
        refine lv_iadd hx hb dX9_ages_69 ?_
        refine lv_istore_n (lv' := [(2, .int (x2 + ((μ.1.1 0 (Int32.toNatClampNeg 5)) - r10))), (4, .int r4), (0, .ref (ad 0)), (1, .int x1), (3, .int x3)]) hx hb dX9_ages_70 rfl hl (by decide) rfl (fun ls hl => ?_)
        refine lv_iinc (v := (x3 + 1)) (lv' := [(3, .int (x3 + 1)), (2, .int (x2 + ((μ.1.1 0 (Int32.toNatClampNeg 5)) - r10))), (4, .int r4), (0, .ref (ad 0)), (1, .int x1)]) hx hb dX9_ages_71 hl (k := 4) rfl rfl (by decide) rfl (fun ls hl => ?_)
        refine lv_goto (tgt := 24) hx hb dX9_ages_74 (by decide) ?_
        exact ih μ x1 (x2 + ((μ.1.1 0 (Int32.toNatClampNeg 5)) - r10)) (x3 + 1) _ _ _ hf hP hL (lv_sub hl [3, 4, 1, 0] rfl)
def f_X9_ages (N : Nat) (μ : MdlS) (p0 : Int32) : Option (Int32 × MdlS) := cx_let ((oI μ.1 6 0, μ.2)) fun z1 => (f_X9_isBetween p0 0 2).bind fun r2 => if r2 = 0 then (f_X9_fail z1 1).bind fun r5 => some (r5.1, r5.2) else f_X9_ages_b24 N N z1 p0 0 0
set_option maxHeartbeats 4000000 in
set_option maxRecDepth 100000 in
theorem c_X9_ages {l : Launch} {G : va_G} {cA : Nat → ClassId} {lo : Nat} {ad : Nat → Nat} {P : MdlS → Heap → Prop} (hC : cx G lo 9 ad (ceModel cA ad) P) {N : Nat} {μ : MdlS} {p0 : Int32} {res : Int32 × MdlS} (hf : f_X9_ages N μ p0 = some res) : Met l yX9_ages (cW yX9_ages cX9_ages 5 (some .int)) rm_X9_ages (cP [.ref (ad 0), .int p0] (P μ) G cA) (cQ (some (.int res.1)) (P res.2)) 0 0 (fun q => lo ≤ q) := by
  refine cx_met (by decide) (Nat.le_of_ble_eq_true rfl) (fun p e s m args below meth c ls C0 hP hl => ?_)
  have hl : lv_has ls 5 [(0, .ref (ad 0)), (1, .int p0)] := hl
  obtain ⟨⟨hx, hb, hml, hown, hts⟩, hr, hlocks, hK⟩ := id C0
  have hL : ∀ q ∈ ([] : List Loc), lo ≤ q.base := fun q h => nomatch h
  unfold f_X9_ages at hf
  refine lv_aload_n hx hb dX9_ages_0 rfl (lv_at hl 0 rfl) ?_
  refine lv_iconst (v := 0) hx hb dX9_ages_1 (by decide) ?_
  obtain ⟨z1, ez1, hf⟩ := cx_letE hf
  refine p_Model_6 hC hP hx hb hts hown hK mw_149 dX9_ages_2 hL (fun H locs hP hL => ?_)
  replace hP : P z1 H := by rw [← ez1]; exact hP
  refine lv_iload_n hx hb dX9_ages_5 rfl (lv_at hl 1 rfl) ?_
  refine lv_iconst (v := 0) hx hb dX9_ages_6 (by decide) ?_
  refine lv_iconst (v := 2) hx hb dX9_ages_7 (by decide) ?_
  obtain ⟨r2, q3, hf⟩ := cx_b hf
  refine cx_callS (As := [.int p0, .int 0, .int 2]) (rest := []) ⟨hx, hb, hml, hown, hts⟩ (c_X9_isBetween (PH := P z1) q3) (cwS 3 hts (gS mw_176 mw_177 mw_5 mw_178) rfl rfl rfl hd_X9_isBetween ⟨Nat.le_of_ble_eq_true rfl, Nat.le_of_ble_eq_true rfl⟩) hK hP rfl hl.1 rfl (Nat.le_of_ble_eq_true rfl) dX9_ages_8 ⟨Nat.zero_le _, Nat.zero_le _⟩ hL (fun H locs hP hL => ?_)
  refine lv_if_ne (tgt := 20) hx hb dX9_ages_11 (by decide) (fun c4 => ?_) (fun c4 => ?_)
  · have hf := cx_f hf c4
    refine lv_iconst (v := 0) hx hb dX9_ages_20 (by decide) ?_
    refine lv_istore_n (lv' := [(2, .int 0), (0, .ref (ad 0)), (1, .int p0)]) hx hb dX9_ages_21 rfl hl (by decide) rfl (fun ls hl => ?_)
    refine lv_iconst (v := 0) hx hb dX9_ages_22 (by decide) ?_
    refine lv_istore_n (lv' := [(3, .int 0), (2, .int 0), (0, .ref (ad 0)), (1, .int p0)]) hx hb dX9_ages_23 rfl hl (by decide) rfl (fun ls hl => ?_)
    exact w_X9_ages_b24 C0 hC N z1 p0 0 0 _ _ _ hf hP hL (lv_sub hl [2, 3, 1, 0] rfl)
  · have hf := cx_t hf c4
    refine lv_aload_n hx hb dX9_ages_14 rfl (lv_at hl 0 rfl) ?_
    refine lv_iconst (v := 1) hx hb dX9_ages_15 (by decide) ?_
    obtain ⟨r5, q6, hf⟩ := cx_b hf
    refine cx_callV (As := [.int 1]) (rest := []) ⟨hx, hb, hml, hown, hts⟩ (c_X9_fail hC q6) (cwV 1 hts (gV mw_151 mw_152 mw_153 mw_5 mw_154) rfl rfl rfl hd_X9_fail ⟨Nat.le_of_ble_eq_true rfl, Nat.le_of_ble_eq_true rfl⟩) hK hP rfl (at_Model hC hP) rfl hl.1 rfl (Nat.le_of_ble_eq_true rfl) dX9_ages_16 ⟨Nat.zero_le _, Nat.zero_le _⟩ hL (fun H locs hP hL => ?_)
    replace hP : P r5.2 H := by first | exact hP | (simpa only [va_up_id] using hP)
    cases hf
    exact cx_iret hx hb hr hlocks hP hL dX9_ages_19
abbrev rm_X9_ownedAt : Room := { frames := 2, cells := 0, slots := 0, locals := 43 }
theorem hd_X9_ownedAt : yX9_ownedAt.cls = RX9 ∧ yX9_ownedAt.cls ≠ "java/lang/invoke/MethodHandle" ∧ yX9_ownedAt.cls ≠ "java/lang/invoke/VarHandle" ∧ (parseMethodDescriptor yX9_ownedAt.desc).map (fun d => d.parameters.length) = some 3 := by decide +kernel
def f_X9_ownedAt_b38 (N : Nat) : Nat → MdlS → Int32 → Int32 → Int32 → Int32 → Option (Int32 × MdlS)
  | 0, _, _, _, _, _ => none
  | n + 1, μ, x1, x2, x4, x5 => (f_X9_length μ x2).bind fun r1 => if r1 ≤ x5 then some ((-1), μ) else (f_X9_blockAt μ x2 x5).bind fun r4 => (f_X9_of μ r4 2).bind fun r6 => if r6 = x1 then if x4 = 0 then (f_X9_blockAt μ x2 x5).bind fun r10 => some (r10, μ) else f_X9_ownedAt_b38 N n μ x1 x2 (x4 + (-1)) (x5 + 1) else f_X9_ownedAt_b38 N n μ x1 x2 x4 (x5 + 1)
set_option maxHeartbeats 4000000 in
set_option maxRecDepth 100000 in
theorem w_X9_ownedAt_b38 {p : Program} {l : Launch} {e : Env} {s : State} {m : MethodId} {args : Array Value} {below : List Frame} {meth : Method} {c : Code} {G : va_G} {cA : Nat → ClassId} (C0 : cB p s m args meth c RX9 cX9_ownedAt 6 (some .int) G cA) {lo : Nat} {ad : Nat → Nat} {P : MdlS → Heap → Prop} (hC : cx G lo 9 ad (ceModel cA ad) P) {N : Nat} {res : Int32 × MdlS} : ∀ (n : Nat) (μ : MdlS) (x1 : Int32) (x2 : Int32) (x4 : Int32) (x5 : Int32) (H : Heap) (locs : List Loc) (ls : Array Slot), f_X9_ownedAt_b38 N n μ x1 x2 x4 x5 = some res → P μ H → (∀ q ∈ locs, lo ≤ q.base) → lv_has ls 6 [(0, .ref (ad 0)), (1, .int x1), (2, .int x2), (4, .int x4), (5, .int x5)] → W p l e rm_X9_ownedAt s m args below meth c H locs 0 0 (MQ below (cQ (some (.int res.1)) (P res.2)) args s 0 0 (fun q => lo ≤ q)) (F0 m 38 ls []) := by
  obtain ⟨⟨hx, hb, hml, hown, hts⟩, hr, hlocks, hK⟩ := id C0
  intro n
  induction n with
  | zero => intro μ x1 x2 x4 x5 H locs ls
            exact fun hf => nomatch hf
  | succ n ih =>
    intro μ x1 x2 x4 x5 H locs ls hf hP hL hl
    rw [f_X9_ownedAt_b38] at hf
    refine lv_iload hx hb dX9_ownedAt_38 (lv_at hl 4 rfl) ?_
    refine lv_aload_n hx hb dX9_ownedAt_40 rfl (lv_at hl 0 rfl) ?_
    refine lv_iload_n hx hb dX9_ownedAt_41 rfl (lv_at hl 2 rfl) ?_
    obtain ⟨r1, q2, hf⟩ := cx_b hf
    refine cx_callV (As := [.int x2]) (rest := [.int x5]) ⟨hx, hb, hml, hown, hts⟩ (c_X9_length hC q2) (cwV 1 hts (gV mw_663 mw_664 mw_665 mw_5 mw_666) rfl rfl rfl hd_X9_length ⟨Nat.le_of_ble_eq_true rfl, Nat.le_of_ble_eq_true rfl⟩) hK hP rfl (at_Model hC hP) rfl hl.1 rfl (Nat.le_of_ble_eq_true rfl) dX9_ownedAt_42 ⟨Nat.zero_le _, Nat.zero_le _⟩ hL (fun H locs hP hL => ?_)
    replace hP : P μ H := by first | exact hP | (simpa only [va_up_id] using hP)
    refine lv_icmp_ge (tgt := 86) hx hb dX9_ownedAt_45 (by decide) (fun c3 => ?_) (fun c3 => ?_)
    · have hf := cx_t hf c3
      refine lv_iconst (v := (-1)) hx hb dX9_ownedAt_86 (by decide) ?_
      cases hf
      exact cx_iret hx hb hr hlocks hP hL dX9_ownedAt_87
    · have hf := cx_f hf c3
      refine lv_aload_n hx hb dX9_ownedAt_48 rfl (lv_at hl 0 rfl) ?_
      refine lv_aload_n hx hb dX9_ownedAt_49 rfl (lv_at hl 0 rfl) ?_
      refine lv_iload_n hx hb dX9_ownedAt_50 rfl (lv_at hl 2 rfl) ?_
      refine lv_iload hx hb dX9_ownedAt_51 (lv_at hl 4 rfl) ?_
      obtain ⟨r4, q5, hf⟩ := cx_b hf
      refine cx_callV (As := [.int x2, .int x5]) (rest := [.ref (ad 0)]) ⟨hx, hb, hml, hown, hts⟩ (c_X9_blockAt hC q5) (cwV 2 hts (gV mw_659 mw_660 mw_661 mw_5 mw_662) rfl rfl rfl hd_X9_blockAt ⟨Nat.le_of_ble_eq_true rfl, Nat.le_of_ble_eq_true rfl⟩) hK hP rfl (at_Model hC hP) rfl hl.1 rfl (Nat.le_of_ble_eq_true rfl) dX9_ownedAt_53 ⟨Nat.zero_le _, Nat.zero_le _⟩ hL (fun H locs hP hL => ?_)
      replace hP : P μ H := by first | exact hP | (simpa only [va_up_id] using hP)
      refine lv_iconst (v := 2) hx hb dX9_ownedAt_56 (by decide) ?_
      obtain ⟨r6, q7, hf⟩ := cx_b hf
      refine cx_callV (As := [.int r4, .int 2]) (rest := []) ⟨hx, hb, hml, hown, hts⟩ (c_X9_of hC q7) (cwV 2 hts (gV mw_618 mw_619 mw_620 mw_5 mw_621) rfl rfl rfl hd_X9_of ⟨Nat.le_of_ble_eq_true rfl, Nat.le_of_ble_eq_true rfl⟩) hK hP rfl (at_Model hC hP) rfl hl.1 rfl (Nat.le_of_ble_eq_true rfl) dX9_ownedAt_57 ⟨Nat.zero_le _, Nat.zero_le _⟩ hL (fun H locs hP hL => ?_)
      replace hP : P μ H := by first | exact hP | (simpa only [va_up_id] using hP)
      refine lv_iload_n hx hb dX9_ownedAt_60 rfl (lv_at hl 1 rfl) ?_
      refine lv_icmp_ne (tgt := 80) hx hb dX9_ownedAt_61 (by decide) (fun c8 => ?_) (fun c8 => ?_)
      · have hf := cx_f hf c8
        refine lv_iinc (v := (x5 + 1)) (lv' := [(5, .int (x5 + 1)), (0, .ref (ad 0)), (1, .int x1), (2, .int x2), (4, .int x4)]) hx hb dX9_ownedAt_80 hl (k := 4) rfl rfl (by decide) rfl (fun ls hl => ?_)
        refine lv_goto (tgt := 38) hx hb dX9_ownedAt_83 (by decide) ?_
        exact ih μ x1 x2 x4 (x5 + 1) _ _ _ hf hP hL (lv_sub hl [1, 2, 3, 4, 0] rfl)
      · have hf := cx_t hf c8
        refine lv_iload hx hb dX9_ownedAt_64 (lv_at hl 3 rfl) ?_
        refine lv_if_ne (tgt := 77) hx hb dX9_ownedAt_66 (by decide) (fun c9 => ?_) (fun c9 => ?_)
        · have hf := cx_f hf c9
          refine lv_iinc (v := (x4 + (-1))) (lv' := [(4, .int (x4 + (-1))), (0, .ref (ad 0)), (1, .int x1), (2, .int x2), (5, .int x5)]) hx hb dX9_ownedAt_77 hl (k := 3) rfl rfl (by decide) rfl (fun ls hl => ?_)
          refine lv_iinc (v := (x5 + 1)) (lv' := [(5, .int (x5 + 1)), (4, .int (x4 + (-1))), (0, .ref (ad 0)), (1, .int x1), (2, .int x2)]) hx hb dX9_ownedAt_80 hl (k := 4) rfl rfl (by decide) rfl (fun ls hl => ?_)
          refine lv_goto (tgt := 38) hx hb dX9_ownedAt_83 (by decide) ?_
          exact ih μ x1 x2 (x4 + (-1)) (x5 + 1) _ _ _ hf hP hL (lv_sub hl [2, 3, 4, 1, 0] rfl)
        · have hf := cx_t hf c9
          refine lv_aload_n hx hb dX9_ownedAt_69 rfl (lv_at hl 0 rfl) ?_
          refine lv_iload_n hx hb dX9_ownedAt_70 rfl (lv_at hl 2 rfl) ?_
          refine lv_iload hx hb dX9_ownedAt_71 (lv_at hl 4 rfl) ?_
          obtain ⟨r10, q11, hf⟩ := cx_b hf
          refine cx_callV (As := [.int x2, .int x5]) (rest := []) ⟨hx, hb, hml, hown, hts⟩ (c_X9_blockAt hC q11) (cwV 2 hts (gV mw_659 mw_660 mw_661 mw_5 mw_662) rfl rfl rfl hd_X9_blockAt ⟨Nat.le_of_ble_eq_true rfl, Nat.le_of_ble_eq_true rfl⟩) hK hP rfl (at_Model hC hP) rfl hl.1 rfl (Nat.le_of_ble_eq_true rfl) dX9_ownedAt_73 ⟨Nat.zero_le _, Nat.zero_le _⟩ hL (fun H locs hP hL => ?_)
          replace hP : P μ H := by first | exact hP | (simpa only [va_up_id] using hP)
          cases hf
          exact cx_iret hx hb hr hlocks hP hL dX9_ownedAt_76
def f_X9_ownedAt (N : Nat) (μ : MdlS) (p0 : Int32) (p1 : Int32) (p2 : Int32) : Option (Int32 × MdlS) := cx_let ((oI μ.1 6 0, μ.2)) fun z1 => (f_X9_isClient z1 p0).bind fun r2 => if r2 = 0 then (f_X9_fail z1 1).bind fun r5 => some (r5.1, r5.2) else (f_X9_isBetween p1 0 2).bind fun r7 => if r7 = 0 then (f_X9_fail z1 1).bind fun r10 => some (r10.1, r10.2) else if 0 ≤ p2 then f_X9_ownedAt_b38 N N z1 p0 p1 p2 0 else (f_X9_fail z1 1).bind fun r13 => some (r13.1, r13.2)
set_option maxHeartbeats 4000000 in
set_option maxRecDepth 100000 in
theorem c_X9_ownedAt {l : Launch} {G : va_G} {cA : Nat → ClassId} {lo : Nat} {ad : Nat → Nat} {P : MdlS → Heap → Prop} (hC : cx G lo 9 ad (ceModel cA ad) P) {N : Nat} {μ : MdlS} {p0 : Int32} {p1 : Int32} {p2 : Int32} {res : Int32 × MdlS} (hf : f_X9_ownedAt N μ p0 p1 p2 = some res) : Met l yX9_ownedAt (cW yX9_ownedAt cX9_ownedAt 6 (some .int)) rm_X9_ownedAt (cP [.ref (ad 0), .int p0, .int p1, .int p2] (P μ) G cA) (cQ (some (.int res.1)) (P res.2)) 0 0 (fun q => lo ≤ q) := by
  refine cx_met (by decide) (Nat.le_of_ble_eq_true rfl) (fun p e s m args below meth c ls C0 hP hl => ?_)
  have hl : lv_has ls 6 [(0, .ref (ad 0)), (1, .int p0), (2, .int p1), (3, .int p2)] := hl
  obtain ⟨⟨hx, hb, hml, hown, hts⟩, hr, hlocks, hK⟩ := id C0
  have hL : ∀ q ∈ ([] : List Loc), lo ≤ q.base := fun q h => nomatch h
  unfold f_X9_ownedAt at hf
  refine lv_aload_n hx hb dX9_ownedAt_0 rfl (lv_at hl 0 rfl) ?_
  refine lv_iconst (v := 0) hx hb dX9_ownedAt_1 (by decide) ?_
  obtain ⟨z1, ez1, hf⟩ := cx_letE hf
  refine p_Model_6 hC hP hx hb hts hown hK mw_149 dX9_ownedAt_2 hL (fun H locs hP hL => ?_)
  replace hP : P z1 H := by rw [← ez1]; exact hP
  refine lv_aload_n hx hb dX9_ownedAt_5 rfl (lv_at hl 0 rfl) ?_
  refine lv_iload_n hx hb dX9_ownedAt_6 rfl (lv_at hl 1 rfl) ?_
  obtain ⟨r2, q3, hf⟩ := cx_b hf
  refine cx_callV (As := [.int p0]) (rest := []) ⟨hx, hb, hml, hown, hts⟩ (c_X9_isClient hC q3) (cwV 1 hts (gV mw_598 mw_599 mw_600 mw_5 mw_601) rfl rfl rfl hd_X9_isClient ⟨Nat.le_of_ble_eq_true rfl, Nat.le_of_ble_eq_true rfl⟩) hK hP rfl (at_Model hC hP) rfl hl.1 rfl (Nat.le_of_ble_eq_true rfl) dX9_ownedAt_7 ⟨Nat.zero_le _, Nat.zero_le _⟩ hL (fun H locs hP hL => ?_)
  replace hP : P z1 H := by first | exact hP | (simpa only [va_up_id] using hP)
  refine lv_if_eq (tgt := 26) hx hb dX9_ownedAt_10 (by decide) (fun c4 => ?_) (fun c4 => ?_)
  · have hf := cx_t hf c4
    refine lv_aload_n hx hb dX9_ownedAt_26 rfl (lv_at hl 0 rfl) ?_
    refine lv_iconst (v := 1) hx hb dX9_ownedAt_27 (by decide) ?_
    obtain ⟨r5, q6, hf⟩ := cx_b hf
    refine cx_callV (As := [.int 1]) (rest := []) ⟨hx, hb, hml, hown, hts⟩ (c_X9_fail hC q6) (cwV 1 hts (gV mw_151 mw_152 mw_153 mw_5 mw_154) rfl rfl rfl hd_X9_fail ⟨Nat.le_of_ble_eq_true rfl, Nat.le_of_ble_eq_true rfl⟩) hK hP rfl (at_Model hC hP) rfl hl.1 rfl (Nat.le_of_ble_eq_true rfl) dX9_ownedAt_28 ⟨Nat.zero_le _, Nat.zero_le _⟩ hL (fun H locs hP hL => ?_)
    replace hP : P r5.2 H := by first | exact hP | (simpa only [va_up_id] using hP)
    cases hf
    exact cx_iret hx hb hr hlocks hP hL dX9_ownedAt_31
  · have hf := cx_f hf c4
    refine lv_iload_n hx hb dX9_ownedAt_13 rfl (lv_at hl 2 rfl) ?_
    refine lv_iconst (v := 0) hx hb dX9_ownedAt_14 (by decide) ?_
    refine lv_iconst (v := 2) hx hb dX9_ownedAt_15 (by decide) ?_
    obtain ⟨r7, q8, hf⟩ := cx_b hf
    refine cx_callS (As := [.int p1, .int 0, .int 2]) (rest := []) ⟨hx, hb, hml, hown, hts⟩ (c_X9_isBetween (PH := P z1) q8) (cwS 3 hts (gS mw_176 mw_177 mw_5 mw_178) rfl rfl rfl hd_X9_isBetween ⟨Nat.le_of_ble_eq_true rfl, Nat.le_of_ble_eq_true rfl⟩) hK hP rfl hl.1 rfl (Nat.le_of_ble_eq_true rfl) dX9_ownedAt_16 ⟨Nat.zero_le _, Nat.zero_le _⟩ hL (fun H locs hP hL => ?_)
    refine lv_if_eq (tgt := 26) hx hb dX9_ownedAt_19 (by decide) (fun c9 => ?_) (fun c9 => ?_)
    · have hf := cx_t hf c9
      refine lv_aload_n hx hb dX9_ownedAt_26 rfl (lv_at hl 0 rfl) ?_
      refine lv_iconst (v := 1) hx hb dX9_ownedAt_27 (by decide) ?_
      obtain ⟨r10, q11, hf⟩ := cx_b hf
      refine cx_callV (As := [.int 1]) (rest := []) ⟨hx, hb, hml, hown, hts⟩ (c_X9_fail hC q11) (cwV 1 hts (gV mw_151 mw_152 mw_153 mw_5 mw_154) rfl rfl rfl hd_X9_fail ⟨Nat.le_of_ble_eq_true rfl, Nat.le_of_ble_eq_true rfl⟩) hK hP rfl (at_Model hC hP) rfl hl.1 rfl (Nat.le_of_ble_eq_true rfl) dX9_ownedAt_28 ⟨Nat.zero_le _, Nat.zero_le _⟩ hL (fun H locs hP hL => ?_)
      replace hP : P r10.2 H := by first | exact hP | (simpa only [va_up_id] using hP)
      cases hf
      exact cx_iret hx hb hr hlocks hP hL dX9_ownedAt_31
    · have hf := cx_f hf c9
      refine lv_iload_n hx hb dX9_ownedAt_22 rfl (lv_at hl 3 rfl) ?_
      refine lv_if_ge (tgt := 32) hx hb dX9_ownedAt_23 (by decide) (fun c12 => ?_) (fun c12 => ?_)
      · have hf := cx_t hf c12
        refine lv_iload_n hx hb dX9_ownedAt_32 rfl (lv_at hl 3 rfl) ?_
        refine lv_istore (lv' := [(4, .int p2), (0, .ref (ad 0)), (1, .int p0), (2, .int p1), (3, .int p2)]) hx hb dX9_ownedAt_33 hl (by decide) rfl (fun ls hl => ?_)
        refine lv_iconst (v := 0) hx hb dX9_ownedAt_35 (by decide) ?_
        refine lv_istore (lv' := [(5, .int 0), (4, .int p2), (0, .ref (ad 0)), (1, .int p0), (2, .int p1), (3, .int p2)]) hx hb dX9_ownedAt_36 hl (by decide) rfl (fun ls hl => ?_)
        exact w_X9_ownedAt_b38 C0 hC N z1 p0 p1 p2 0 _ _ _ hf hP hL (lv_sub hl [2, 3, 4, 1, 0] rfl)
      · have hf := cx_f hf c12
        refine lv_aload_n hx hb dX9_ownedAt_26 rfl (lv_at hl 0 rfl) ?_
        refine lv_iconst (v := 1) hx hb dX9_ownedAt_27 (by decide) ?_
        obtain ⟨r13, q14, hf⟩ := cx_b hf
        refine cx_callV (As := [.int 1]) (rest := []) ⟨hx, hb, hml, hown, hts⟩ (c_X9_fail hC q14) (cwV 1 hts (gV mw_151 mw_152 mw_153 mw_5 mw_154) rfl rfl rfl hd_X9_fail ⟨Nat.le_of_ble_eq_true rfl, Nat.le_of_ble_eq_true rfl⟩) hK hP rfl (at_Model hC hP) rfl hl.1 rfl (Nat.le_of_ble_eq_true rfl) dX9_ownedAt_28 ⟨Nat.zero_le _, Nat.zero_le _⟩ hL (fun H locs hP hL => ?_)
        replace hP : P r13.2 H := by first | exact hP | (simpa only [va_up_id] using hP)
        cases hf
        exact cx_iret hx hb hr hlocks hP hL dX9_ownedAt_31
abbrev rm_X9_excess : Room := { frames := 2, cells := 0, slots := 0, locals := 47 }
theorem hd_X9_excess : yX9_excess.cls = RX9 ∧ yX9_excess.cls ≠ "java/lang/invoke/MethodHandle" ∧ yX9_excess.cls ≠ "java/lang/invoke/VarHandle" ∧ (parseMethodDescriptor yX9_excess.desc).map (fun d => d.parameters.length) = some 1 := by decide +kernel
def f_X9_excess_b14 (N : Nat) (μ : MdlS) (x1 : Int32) (y0 : Int32) : Option (UInt32 × MdlS) := cx_let ((oI μ.1 6 y0, μ.2)) fun z1 => if z1.1.2 6 = 0 then (f_X9_unitsOf N z1 x1 1).bind fun r3 => (f_X9_allWeights N z1).bind fun r5 => gd 2 1384 ((f_X9_ofClient z1 x1 0).bind fun r8 => (f_X9_allWeights N z1).bind fun r10 => gn32 (FP.fdiv (FP.i2f ((r3 * r5) - ((z1.1.1 0 (Int32.toNatClampNeg 2)) * r8))) (FP.i2f r10)) (some ((FP.fdiv (FP.i2f ((r3 * r5) - ((z1.1.1 0 (Int32.toNatClampNeg 2)) * r8))) (FP.i2f r10)), z1))) else some (FP.fconst0, z1)
set_option maxHeartbeats 4000000 in
set_option maxRecDepth 100000 in
theorem w_X9_excess_b14 {p : Program} {l : Launch} {e : Env} {s : State} {m : MethodId} {args : Array Value} {below : List Frame} {meth : Method} {c : Code} {G : va_G} {cA : Nat → ClassId} (C0 : cB p s m args meth c RX9 cX9_excess 3 (some .float) G cA) {lo : Nat} {ad : Nat → Nat} {P : MdlS → Heap → Prop} (hC : cx G lo 9 ad (ceModel cA ad) P) {N : Nat} {res : UInt32 × MdlS} : ∀ (μ : MdlS) (x1 : Int32) (y0 : Int32) (H : Heap) (locs : List Loc) (ls : Array Slot), f_X9_excess_b14 N μ x1 y0 = some res → P μ H → (∀ q ∈ locs, lo ≤ q.base) → lv_has ls 3 [(0, .ref (ad 0)), (1, .int x1)] → W p l e rm_X9_excess s m args below meth c H locs 0 0 (MQ below (cQ (some (.float res.1)) (P res.2)) args s 0 0 (fun q => lo ≤ q)) (F0 m 14 ls [.int y0, .ref (ad 0)]) := by
  obtain ⟨⟨hx, hb, hml, hown, hts⟩, hr, hlocks, hK⟩ := id C0
  intro μ x1 y0 H locs ls hf hP hL hl
  unfold f_X9_excess_b14 at hf
  obtain ⟨z1, ez1, hf⟩ := cx_letE hf
  refine p_Model_6 hC hP hx hb hts hown hK mw_149 dX9_excess_14 hL (fun H locs hP hL => ?_)
  replace hP : P z1 H := by rw [← ez1]; exact hP
  refine lv_aload_n hx hb dX9_excess_17 rfl (lv_at hl 0 rfl) ?_
  refine g_Model_6 hC hP hx hb hts hown hK mw_149 dX9_excess_18 ?_
  refine lv_if_eq (tgt := 26) hx hb dX9_excess_21 (by decide) (fun c2 => ?_) (fun c2 => ?_)
  · have hf := cx_t hf c2
    refine lv_aload_n hx hb dX9_excess_26 rfl (lv_at hl 0 rfl) ?_
    refine lv_iload_n hx hb dX9_excess_27 rfl (lv_at hl 1 rfl) ?_
    refine lv_iconst (v := 1) hx hb dX9_excess_28 (by decide) ?_
    obtain ⟨r3, q4, hf⟩ := cx_b hf
    refine cx_callV (As := [.int x1, .int 1]) (rest := []) ⟨hx, hb, hml, hown, hts⟩ (c_X9_unitsOf hC q4) (cwV 2 hts (gV mw_722 mw_723 mw_724 mw_5 mw_725) rfl rfl rfl hd_X9_unitsOf ⟨Nat.le_of_ble_eq_true rfl, Nat.le_of_ble_eq_true rfl⟩) hK hP rfl (at_Model hC hP) rfl hl.1 rfl (Nat.le_of_ble_eq_true rfl) dX9_excess_29 ⟨Nat.zero_le _, Nat.zero_le _⟩ hL (fun H locs hP hL => ?_)
    replace hP : P z1 H := by first | exact hP | (simpa only [va_up_id] using hP)
    refine lv_aload_n hx hb dX9_excess_32 rfl (lv_at hl 0 rfl) ?_
    obtain ⟨r5, q6, hf⟩ := cx_b hf
    refine cx_callV (As := []) (rest := [.int r3]) ⟨hx, hb, hml, hown, hts⟩ (c_X9_allWeights hC q6) (cwV 0 hts (gV mw_726 mw_727 mw_728 mw_5 mw_729) rfl rfl rfl hd_X9_allWeights ⟨Nat.le_of_ble_eq_true rfl, Nat.le_of_ble_eq_true rfl⟩) hK hP rfl (at_Model hC hP) rfl hl.1 rfl (Nat.le_of_ble_eq_true rfl) dX9_excess_33 ⟨Nat.zero_le _, Nat.zero_le _⟩ hL (fun H locs hP hL => ?_)
    replace hP : P z1 H := by first | exact hP | (simpa only [va_up_id] using hP)
    refine lv_imul hx hb dX9_excess_36 ?_
    refine lv_aload_n hx hb dX9_excess_37 rfl (lv_at hl 0 rfl) ?_
    refine g_Model_0 hC hP hx hb hts hown hK mw_114 dX9_excess_38 ?_
    refine lv_iconst (v := 2) hx hb dX9_excess_41 (by decide) ?_
    obtain ⟨hi7, hf⟩ := gdE hf
    refine ga_Model_0 hC hP hx hb hK hi7 dX9_excess_42 ?_
    refine lv_aload_n hx hb dX9_excess_43 rfl (lv_at hl 0 rfl) ?_
    refine lv_iload_n hx hb dX9_excess_44 rfl (lv_at hl 1 rfl) ?_
    refine lv_iconst (v := 0) hx hb dX9_excess_45 (by decide) ?_
    obtain ⟨r8, q9, hf⟩ := cx_b hf
    refine cx_callV (As := [.int x1, .int 0]) (rest := [.int (z1.1.1 0 (Int32.toNatClampNeg 2)), .int (r3 * r5)]) ⟨hx, hb, hml, hown, hts⟩ (c_X9_ofClient hC q9) (cwV 2 hts (gV mw_635 mw_636 mw_637 mw_5 mw_638) rfl rfl rfl hd_X9_ofClient ⟨Nat.le_of_ble_eq_true rfl, Nat.le_of_ble_eq_true rfl⟩) hK hP rfl (at_Model hC hP) rfl hl.1 rfl (Nat.le_of_ble_eq_true rfl) dX9_excess_46 ⟨Nat.zero_le _, Nat.zero_le _⟩ hL (fun H locs hP hL => ?_)
    replace hP : P z1 H := by first | exact hP | (simpa only [va_up_id] using hP)
    refine lv_imul hx hb dX9_excess_49 ?_
    refine lv_isub hx hb dX9_excess_50 ?_
    refine lv_istore_n (lv' := [(2, .int ((r3 * r5) - ((z1.1.1 0 (Int32.toNatClampNeg 2)) * r8))), (0, .ref (ad 0)), (1, .int x1)]) hx hb dX9_excess_51 rfl hl (by decide) rfl (fun ls hl => ?_)
    refine lv_iload_n hx hb dX9_excess_52 rfl (lv_at hl 0 rfl) ?_
    refine lv_i2f hx hb dX9_excess_53 ?_
    refine lv_aload_n hx hb dX9_excess_54 rfl (lv_at hl 1 rfl) ?_
    obtain ⟨r10, q11, hf⟩ := cx_b hf
    refine cx_callV (As := []) (rest := [.float (FP.i2f ((r3 * r5) - ((z1.1.1 0 (Int32.toNatClampNeg 2)) * r8)))]) ⟨hx, hb, hml, hown, hts⟩ (c_X9_allWeights hC q11) (cwV 0 hts (gV mw_726 mw_727 mw_728 mw_5 mw_729) rfl rfl rfl hd_X9_allWeights ⟨Nat.le_of_ble_eq_true rfl, Nat.le_of_ble_eq_true rfl⟩) hK hP rfl (at_Model hC hP) rfl hl.1 rfl (Nat.le_of_ble_eq_true rfl) dX9_excess_55 ⟨Nat.zero_le _, Nat.zero_le _⟩ hL (fun H locs hP hL => ?_)
    replace hP : P z1 H := by first | exact hP | (simpa only [va_up_id] using hP)
    refine lv_i2f hx hb dX9_excess_58 ?_
    obtain ⟨hn12, hf⟩ := gn32E hf
    refine lv_fdiv hx hb dX9_excess_59 hn12 ?_
    cases hf
    exact cx_fret hx hb hr hlocks hP hL dX9_excess_60
  · have hf := cx_f hf c2
    refine lv_fconst0 hx hb dX9_excess_24 ?_
    cases hf
    exact cx_fret hx hb hr hlocks hP hL dX9_excess_25
def f_X9_excess (N : Nat) (μ : MdlS) (p0 : Int32) : Option (UInt32 × MdlS) := (f_X9_isClient μ p0).bind fun r1 => if r1 = 0 then f_X9_excess_b14 N μ p0 1 else f_X9_excess_b14 N μ p0 0
set_option maxHeartbeats 4000000 in
set_option maxRecDepth 100000 in
theorem c_X9_excess {l : Launch} {G : va_G} {cA : Nat → ClassId} {lo : Nat} {ad : Nat → Nat} {P : MdlS → Heap → Prop} (hC : cx G lo 9 ad (ceModel cA ad) P) {N : Nat} {μ : MdlS} {p0 : Int32} {res : UInt32 × MdlS} (hf : f_X9_excess N μ p0 = some res) : Met l yX9_excess (cW yX9_excess cX9_excess 3 (some .float)) rm_X9_excess (cP [.ref (ad 0), .int p0] (P μ) G cA) (cQ (some (.float res.1)) (P res.2)) 0 0 (fun q => lo ≤ q) := by
  refine cx_met (by decide) (Nat.le_of_ble_eq_true rfl) (fun p e s m args below meth c ls C0 hP hl => ?_)
  have hl : lv_has ls 3 [(0, .ref (ad 0)), (1, .int p0)] := hl
  obtain ⟨⟨hx, hb, hml, hown, hts⟩, hr, hlocks, hK⟩ := id C0
  have hL : ∀ q ∈ ([] : List Loc), lo ≤ q.base := fun q h => nomatch h
  unfold f_X9_excess at hf
  refine lv_aload_n hx hb dX9_excess_0 rfl (lv_at hl 0 rfl) ?_
  refine lv_aload_n hx hb dX9_excess_1 rfl (lv_at hl 0 rfl) ?_
  refine lv_iload_n hx hb dX9_excess_2 rfl (lv_at hl 1 rfl) ?_
  obtain ⟨r1, q2, hf⟩ := cx_b hf
  refine cx_callV (As := [.int p0]) (rest := [.ref (ad 0)]) ⟨hx, hb, hml, hown, hts⟩ (c_X9_isClient hC q2) (cwV 1 hts (gV mw_598 mw_599 mw_600 mw_5 mw_601) rfl rfl rfl hd_X9_isClient ⟨Nat.le_of_ble_eq_true rfl, Nat.le_of_ble_eq_true rfl⟩) hK hP rfl (at_Model hC hP) rfl hl.1 rfl (Nat.le_of_ble_eq_true rfl) dX9_excess_3 ⟨Nat.zero_le _, Nat.zero_le _⟩ hL (fun H locs hP hL => ?_)
  replace hP : P μ H := by first | exact hP | (simpa only [va_up_id] using hP)
  refine lv_if_eq (tgt := 13) hx hb dX9_excess_6 (by decide) (fun c3 => ?_) (fun c3 => ?_)
  · have hf := cx_t hf c3
    refine lv_iconst (v := 1) hx hb dX9_excess_13 (by decide) ?_
    exact w_X9_excess_b14 C0 hC μ p0 1 _ _ _ hf hP hL (lv_sub hl [0, 1] rfl)
  · have hf := cx_f hf c3
    refine lv_iconst (v := 0) hx hb dX9_excess_9 (by decide) ?_
    refine lv_goto (tgt := 14) hx hb dX9_excess_10 (by decide) ?_
    exact w_X9_excess_b14 C0 hC μ p0 0 _ _ _ hf hP hL (lv_sub hl [0, 1] rfl)
abbrev rm_X9_runWith : Room := { frames := 1, cells := 0, slots := 0, locals := 22 }
theorem hd_X9_runWith : yX9_runWith.cls = RX9 ∧ yX9_runWith.cls ≠ "java/lang/invoke/MethodHandle" ∧ yX9_runWith.cls ≠ "java/lang/invoke/VarHandle" ∧ (parseMethodDescriptor yX9_runWith.desc).map (fun d => d.parameters.length) = some 2 := by decide +kernel
def f_X9_runWith (μ : MdlS) (p0 : Int32) (p1 : Int32) : Option (Int32) := (f_X9_ofClient μ p0 2).bind fun r1 => if r1 = (-1) then some 1 else if (r1 + 1) = p1 then (f_X9_ofClient μ p0 1).bind fun r5 => some (r5 + 1) else some 1
set_option maxHeartbeats 4000000 in
set_option maxRecDepth 100000 in
theorem c_X9_runWith {l : Launch} {G : va_G} {cA : Nat → ClassId} {lo : Nat} {ad : Nat → Nat} {P : MdlS → Heap → Prop} (hC : cx G lo 9 ad (ceModel cA ad) P) {μ : MdlS} {p0 : Int32} {p1 : Int32} {res : Int32} (hf : f_X9_runWith μ p0 p1 = some res) : Met l yX9_runWith (cW yX9_runWith cX9_runWith 4 (some .int)) rm_X9_runWith (cP [.ref (ad 0), .int p0, .int p1] (P μ) G cA) (cQ (some (.int res)) (P μ)) 0 0 (fun q => lo ≤ q) := by
  refine cx_met (by decide) (Nat.le_of_ble_eq_true rfl) (fun p e s m args below meth c ls C0 hP hl => ?_)
  have hl : lv_has ls 4 [(0, .ref (ad 0)), (1, .int p0), (2, .int p1)] := hl
  obtain ⟨⟨hx, hb, hml, hown, hts⟩, hr, hlocks, hK⟩ := id C0
  have hL : ∀ q ∈ ([] : List Loc), lo ≤ q.base := fun q h => nomatch h
  unfold f_X9_runWith at hf
  refine lv_aload_n hx hb dX9_runWith_0 rfl (lv_at hl 0 rfl) ?_
  refine lv_iload_n hx hb dX9_runWith_1 rfl (lv_at hl 1 rfl) ?_
  refine lv_iconst (v := 2) hx hb dX9_runWith_2 (by decide) ?_
  obtain ⟨r1, q2, hf⟩ := cx_b hf
  refine cx_callV (As := [.int p0, .int 2]) (rest := []) ⟨hx, hb, hml, hown, hts⟩ (c_X9_ofClient hC q2) (cwV 2 hts (gV mw_635 mw_636 mw_637 mw_5 mw_638) rfl rfl rfl hd_X9_ofClient ⟨Nat.le_of_ble_eq_true rfl, Nat.le_of_ble_eq_true rfl⟩) hK hP rfl (at_Model hC hP) rfl hl.1 rfl (Nat.le_of_ble_eq_true rfl) dX9_runWith_3 ⟨Nat.zero_le _, Nat.zero_le _⟩ hL (fun H locs hP hL => ?_)
  replace hP : P μ H := by first | exact hP | (simpa only [va_up_id] using hP)
  refine lv_istore_n (lv' := [(3, .int r1), (0, .ref (ad 0)), (1, .int p0), (2, .int p1)]) hx hb dX9_runWith_6 rfl hl (by decide) rfl (fun ls hl => ?_)
  refine lv_iload_n hx hb dX9_runWith_7 rfl (lv_at hl 0 rfl) ?_
  refine lv_iconst (v := (-1)) hx hb dX9_runWith_8 (by decide) ?_
  refine lv_icmp_eq (tgt := 30) hx hb dX9_runWith_9 (by decide) (fun c3 => ?_) (fun c3 => ?_)
  · have hf := cx_t hf c3
    refine lv_iconst (v := 1) hx hb dX9_runWith_30 (by decide) ?_
    cases hf
    exact cx_iret hx hb hr hlocks hP hL dX9_runWith_31
  · have hf := cx_f hf c3
    refine lv_iload_n hx hb dX9_runWith_12 rfl (lv_at hl 0 rfl) ?_
    refine lv_iconst (v := 1) hx hb dX9_runWith_13 (by decide) ?_
    refine lv_iadd hx hb dX9_runWith_14 ?_
    refine lv_iload_n hx hb dX9_runWith_15 rfl (lv_at hl 3 rfl) ?_
    refine lv_icmp_ne (tgt := 30) hx hb dX9_runWith_16 (by decide) (fun c4 => ?_) (fun c4 => ?_)
    · have hf := cx_f hf c4
      refine lv_iconst (v := 1) hx hb dX9_runWith_30 (by decide) ?_
      cases hf
      exact cx_iret hx hb hr hlocks hP hL dX9_runWith_31
    · have hf := cx_t hf c4
      refine lv_aload_n hx hb dX9_runWith_19 rfl (lv_at hl 1 rfl) ?_
      refine lv_iload_n hx hb dX9_runWith_20 rfl (lv_at hl 2 rfl) ?_
      refine lv_iconst (v := 1) hx hb dX9_runWith_21 (by decide) ?_
      obtain ⟨r5, q6, hf⟩ := cx_b hf
      refine cx_callV (As := [.int p0, .int 1]) (rest := []) ⟨hx, hb, hml, hown, hts⟩ (c_X9_ofClient hC q6) (cwV 2 hts (gV mw_635 mw_636 mw_637 mw_5 mw_638) rfl rfl rfl hd_X9_ofClient ⟨Nat.le_of_ble_eq_true rfl, Nat.le_of_ble_eq_true rfl⟩) hK hP rfl (at_Model hC hP) rfl hl.1 rfl (Nat.le_of_ble_eq_true rfl) dX9_runWith_22 ⟨Nat.zero_le _, Nat.zero_le _⟩ hL (fun H locs hP hL => ?_)
      replace hP : P μ H := by first | exact hP | (simpa only [va_up_id] using hP)
      refine lv_iconst (v := 1) hx hb dX9_runWith_25 (by decide) ?_
      refine lv_iadd hx hb dX9_runWith_26 ?_
      refine lv_goto (tgt := 31) hx hb dX9_runWith_27 (by decide) ?_
      cases hf
      exact cx_iret hx hb hr hlocks hP hL dX9_runWith_31
abbrev rm_X9_toScan : Room := { frames := 2, cells := 0, slots := 0, locals := 45 }
theorem hd_X9_toScan : yX9_toScan.cls = RX9 ∧ yX9_toScan.cls ≠ "java/lang/invoke/MethodHandle" ∧ yX9_toScan.cls ≠ "java/lang/invoke/VarHandle" ∧ (parseMethodDescriptor yX9_toScan.desc).map (fun d => d.parameters.length) = some 2 := by decide +kernel
def f_X9_toScan (μ : MdlS) (p0 : Int32) (p1 : Int32) : Option (Int32 × MdlS) := cx_let ((oI μ.1 6 0, μ.2)) fun z1 => (f_X9_isClient z1 p0).bind fun r2 => if r2 = 0 then (f_X9_fail z1 1).bind fun r14 => some (r14.1, r14.2) else (f_X9_isBlock p1).bind fun r5 => if r5 = 0 then (f_X9_fail z1 2).bind fun r12 => some (r12.1, r12.2) else gd 0 1384 ((f_X9_runWith z1 p0 p1).bind fun r9 => if 200 ≤ ((p1 + (if 1 < (((z1.1.1 0 (Int32.toNatClampNeg 0)) - r9) + 1) then (((z1.1.1 0 (Int32.toNatClampNeg 0)) - r9) + 1) else 1)) - 1) then some ((-1), z1) else some ((if 1 < (((z1.1.1 0 (Int32.toNatClampNeg 0)) - r9) + 1) then (((z1.1.1 0 (Int32.toNatClampNeg 0)) - r9) + 1) else 1), z1))
set_option maxHeartbeats 4000000 in
set_option maxRecDepth 100000 in
theorem c_X9_toScan {l : Launch} {G : va_G} {cA : Nat → ClassId} {lo : Nat} {ad : Nat → Nat} {P : MdlS → Heap → Prop} (hC : cx G lo 9 ad (ceModel cA ad) P) {μ : MdlS} {p0 : Int32} {p1 : Int32} {res : Int32 × MdlS} (hf : f_X9_toScan μ p0 p1 = some res) : Met l yX9_toScan (cW yX9_toScan cX9_toScan 4 (some .int)) rm_X9_toScan (cP [.ref (ad 0), .int p0, .int p1] (P μ) G cA) (cQ (some (.int res.1)) (P res.2)) 0 0 (fun q => lo ≤ q) := by
  refine cx_met (by decide) (Nat.le_of_ble_eq_true rfl) (fun p e s m args below meth c ls C0 hP hl => ?_)
  have hl : lv_has ls 4 [(0, .ref (ad 0)), (1, .int p0), (2, .int p1)] := hl
  obtain ⟨⟨hx, hb, hml, hown, hts⟩, hr, hlocks, hK⟩ := id C0
  have hL : ∀ q ∈ ([] : List Loc), lo ≤ q.base := fun q h => nomatch h
  unfold f_X9_toScan at hf
  refine lv_aload_n hx hb dX9_toScan_0 rfl (lv_at hl 0 rfl) ?_
  refine lv_iconst (v := 0) hx hb dX9_toScan_1 (by decide) ?_
  obtain ⟨z1, ez1, hf⟩ := cx_letE hf
  refine p_Model_6 hC hP hx hb hts hown hK mw_149 dX9_toScan_2 hL (fun H locs hP hL => ?_)
  replace hP : P z1 H := by rw [← ez1]; exact hP
  refine lv_aload_n hx hb dX9_toScan_5 rfl (lv_at hl 0 rfl) ?_
  refine lv_iload_n hx hb dX9_toScan_6 rfl (lv_at hl 1 rfl) ?_
  obtain ⟨r2, q3, hf⟩ := cx_b hf
  refine cx_callV (As := [.int p0]) (rest := []) ⟨hx, hb, hml, hown, hts⟩ (c_X9_isClient hC q3) (cwV 1 hts (gV mw_598 mw_599 mw_600 mw_5 mw_601) rfl rfl rfl hd_X9_isClient ⟨Nat.le_of_ble_eq_true rfl, Nat.le_of_ble_eq_true rfl⟩) hK hP rfl (at_Model hC hP) rfl hl.1 rfl (Nat.le_of_ble_eq_true rfl) dX9_toScan_7 ⟨Nat.zero_le _, Nat.zero_le _⟩ hL (fun H locs hP hL => ?_)
  replace hP : P z1 H := by first | exact hP | (simpa only [va_up_id] using hP)
  refine lv_if_ne (tgt := 19) hx hb dX9_toScan_10 (by decide) (fun c4 => ?_) (fun c4 => ?_)
  · have hf := cx_f hf c4
    refine lv_iload_n hx hb dX9_toScan_19 rfl (lv_at hl 2 rfl) ?_
    obtain ⟨r5, q6, hf⟩ := cx_b hf
    refine cx_callS (As := [.int p1]) (rest := []) ⟨hx, hb, hml, hown, hts⟩ (c_X9_isBlock (PH := P z1) q6) (cwS 1 hts (gS mw_918 mw_919 mw_5 mw_920) rfl rfl rfl hd_X9_isBlock ⟨Nat.le_of_ble_eq_true rfl, Nat.le_of_ble_eq_true rfl⟩) hK hP rfl hl.1 rfl (Nat.le_of_ble_eq_true rfl) dX9_toScan_20 ⟨Nat.zero_le _, Nat.zero_le _⟩ hL (fun H locs hP hL => ?_)
    refine lv_if_ne (tgt := 32) hx hb dX9_toScan_23 (by decide) (fun c7 => ?_) (fun c7 => ?_)
    · have hf := cx_f hf c7
      refine lv_iconst (v := 1) hx hb dX9_toScan_32 (by decide) ?_
      refine lv_aload_n hx hb dX9_toScan_33 rfl (lv_at hl 0 rfl) ?_
      refine g_Model_0 hC hP hx hb hts hown hK mw_114 dX9_toScan_34 ?_
      refine lv_iconst (v := 0) hx hb dX9_toScan_37 (by decide) ?_
      obtain ⟨hi8, hf⟩ := gdE hf
      refine ga_Model_0 hC hP hx hb hK hi8 dX9_toScan_38 ?_
      refine lv_aload_n hx hb dX9_toScan_39 rfl (lv_at hl 0 rfl) ?_
      refine lv_iload_n hx hb dX9_toScan_40 rfl (lv_at hl 1 rfl) ?_
      refine lv_iload_n hx hb dX9_toScan_41 rfl (lv_at hl 2 rfl) ?_
      obtain ⟨r9, q10, hf⟩ := cx_b hf
      refine cx_callV (As := [.int p0, .int p1]) (rest := [.int (z1.1.1 0 (Int32.toNatClampNeg 0)), .int 1]) ⟨hx, hb, hml, hown, hts⟩ (c_X9_runWith hC q10) (cwV 2 hts (gV mw_1120 mw_1121 mw_1122 mw_5 mw_1123) rfl rfl rfl hd_X9_runWith ⟨Nat.le_of_ble_eq_true rfl, Nat.le_of_ble_eq_true rfl⟩) hK hP rfl (at_Model hC hP) rfl hl.1 rfl (Nat.le_of_ble_eq_true rfl) dX9_toScan_42 ⟨Nat.zero_le _, Nat.zero_le _⟩ hL (fun H locs hP hL => ?_)
      replace hP : P z1 H := by first | exact hP | (simpa only [va_up_id] using hP)
      refine lv_isub hx hb dX9_toScan_45 ?_
      refine lv_iconst (v := 1) hx hb dX9_toScan_46 (by decide) ?_
      refine lv_iadd hx hb dX9_toScan_47 ?_
      refine va_mmax hx hb (hml.trans hl.1.symm) hown (hts _ mw_630) (hts _ mw_470) (hts _ mw_276) (hts _ mw_471) (Nat.le_of_ble_eq_true rfl) (Nat.le_of_ble_eq_true rfl) (Nat.zero_le _) (Nat.zero_le _) dX9_toScan_48 ?_
      refine lv_istore_n (lv' := [(3, .int (if 1 < (((z1.1.1 0 (Int32.toNatClampNeg 0)) - r9) + 1) then (((z1.1.1 0 (Int32.toNatClampNeg 0)) - r9) + 1) else 1)), (0, .ref (ad 0)), (1, .int p0), (2, .int p1)]) hx hb dX9_toScan_51 rfl hl (by decide) rfl (fun ls hl => ?_)
      refine lv_iload_n hx hb dX9_toScan_52 rfl (lv_at hl 3 rfl) ?_
      refine lv_iload_n hx hb dX9_toScan_53 rfl (lv_at hl 0 rfl) ?_
      refine lv_iadd hx hb dX9_toScan_54 ?_
      refine lv_iconst (v := 1) hx hb dX9_toScan_55 (by decide) ?_
      refine lv_isub hx hb dX9_toScan_56 ?_
      refine lv_sipush (v := 200) hx hb dX9_toScan_57 (by decide) ?_
      refine lv_icmp_ge (tgt := 67) hx hb dX9_toScan_60 (by decide) (fun c11 => ?_) (fun c11 => ?_)
      · have hf := cx_t hf c11
        refine lv_iconst (v := (-1)) hx hb dX9_toScan_67 (by decide) ?_
        cases hf
        exact cx_iret hx hb hr hlocks hP hL dX9_toScan_68
      · have hf := cx_f hf c11
        refine lv_iload_n hx hb dX9_toScan_63 rfl (lv_at hl 0 rfl) ?_
        refine lv_goto (tgt := 68) hx hb dX9_toScan_64 (by decide) ?_
        cases hf
        exact cx_iret hx hb hr hlocks hP hL dX9_toScan_68
    · have hf := cx_t hf c7
      refine lv_aload_n hx hb dX9_toScan_26 rfl (lv_at hl 0 rfl) ?_
      refine lv_iconst (v := 2) hx hb dX9_toScan_27 (by decide) ?_
      obtain ⟨r12, q13, hf⟩ := cx_b hf
      refine cx_callV (As := [.int 2]) (rest := []) ⟨hx, hb, hml, hown, hts⟩ (c_X9_fail hC q13) (cwV 1 hts (gV mw_151 mw_152 mw_153 mw_5 mw_154) rfl rfl rfl hd_X9_fail ⟨Nat.le_of_ble_eq_true rfl, Nat.le_of_ble_eq_true rfl⟩) hK hP rfl (at_Model hC hP) rfl hl.1 rfl (Nat.le_of_ble_eq_true rfl) dX9_toScan_28 ⟨Nat.zero_le _, Nat.zero_le _⟩ hL (fun H locs hP hL => ?_)
      replace hP : P r12.2 H := by first | exact hP | (simpa only [va_up_id] using hP)
      cases hf
      exact cx_iret hx hb hr hlocks hP hL dX9_toScan_31
  · have hf := cx_t hf c4
    refine lv_aload_n hx hb dX9_toScan_13 rfl (lv_at hl 0 rfl) ?_
    refine lv_iconst (v := 1) hx hb dX9_toScan_14 (by decide) ?_
    obtain ⟨r14, q15, hf⟩ := cx_b hf
    refine cx_callV (As := [.int 1]) (rest := []) ⟨hx, hb, hml, hown, hts⟩ (c_X9_fail hC q15) (cwV 1 hts (gV mw_151 mw_152 mw_153 mw_5 mw_154) rfl rfl rfl hd_X9_fail ⟨Nat.le_of_ble_eq_true rfl, Nat.le_of_ble_eq_true rfl⟩) hK hP rfl (at_Model hC hP) rfl hl.1 rfl (Nat.le_of_ble_eq_true rfl) dX9_toScan_15 ⟨Nat.zero_le _, Nat.zero_le _⟩ hL (fun H locs hP hL => ?_)
    replace hP : P r14.2 H := by first | exact hP | (simpa only [va_up_id] using hP)
    cases hf
    exact cx_iret hx hb hr hlocks hP hL dX9_toScan_18
abbrev rm_X9_rank : Room := { frames := 3, cells := 0, slots := 0, locals := 67 }
theorem hd_X9_rank : yX9_rank.cls = RX9 ∧ yX9_rank.cls ≠ "java/lang/invoke/MethodHandle" ∧ yX9_rank.cls ≠ "java/lang/invoke/VarHandle" ∧ (parseMethodDescriptor yX9_rank.desc).map (fun d => d.parameters.length) = some 1 := by decide +kernel
def f_X9_rank_b30 (N : Nat) : Nat → MdlS → Int32 → Int32 → Option (Int32 × MdlS)
  | 0, _, _, _ => none
  | n + 1, μ, x1, x2 => (f_X9_inOrder N μ x2).bind fun r1 => if r1 = x1 then some (x2, μ) else f_X9_rank_b30 N n μ x1 (x2 + 1)
set_option maxHeartbeats 4000000 in
set_option maxRecDepth 100000 in
theorem w_X9_rank_b30 {p : Program} {l : Launch} {e : Env} {s : State} {m : MethodId} {args : Array Value} {below : List Frame} {meth : Method} {c : Code} {G : va_G} {cA : Nat → ClassId} (C0 : cB p s m args meth c RX9 cX9_rank 3 (some .int) G cA) {lo : Nat} {ad : Nat → Nat} {P : MdlS → Heap → Prop} (hC : cx G lo 9 ad (ceModel cA ad) P) {N : Nat} {res : Int32 × MdlS} : ∀ (n : Nat) (μ : MdlS) (x1 : Int32) (x2 : Int32) (H : Heap) (locs : List Loc) (ls : Array Slot), f_X9_rank_b30 N n μ x1 x2 = some res → P μ H → (∀ q ∈ locs, lo ≤ q.base) → lv_has ls 3 [(0, .ref (ad 0)), (1, .int x1), (2, .int x2)] → W p l e rm_X9_rank s m args below meth c H locs 0 0 (MQ below (cQ (some (.int res.1)) (P res.2)) args s 0 0 (fun q => lo ≤ q)) (F0 m 30 ls []) := by
  obtain ⟨⟨hx, hb, hml, hown, hts⟩, hr, hlocks, hK⟩ := id C0
  intro n
  induction n with
  | zero => intro μ x1 x2 H locs ls
            exact fun hf => nomatch hf
  | succ n ih =>
    intro μ x1 x2 H locs ls hf hP hL hl
    rw [f_X9_rank_b30] at hf
    refine lv_aload_n hx hb dX9_rank_30 rfl (lv_at hl 0 rfl) ?_
    refine lv_iload_n hx hb dX9_rank_31 rfl (lv_at hl 2 rfl) ?_
    obtain ⟨r1, q2, hf⟩ := cx_b hf
    refine cx_callV (As := [.int x2]) (rest := []) ⟨hx, hb, hml, hown, hts⟩ (c_X9_inOrder hC q2) (cwV 1 hts (gV mw_610 mw_611 mw_612 mw_5 mw_613) rfl rfl rfl hd_X9_inOrder ⟨Nat.le_of_ble_eq_true rfl, Nat.le_of_ble_eq_true rfl⟩) hK hP rfl (at_Model hC hP) rfl hl.1 rfl (Nat.le_of_ble_eq_true rfl) dX9_rank_32 ⟨Nat.zero_le _, Nat.zero_le _⟩ hL (fun H locs hP hL => ?_)
    replace hP : P μ H := by first | exact hP | (simpa only [va_up_id] using hP)
    refine lv_iload_n hx hb dX9_rank_35 rfl (lv_at hl 1 rfl) ?_
    refine lv_icmp_eq (tgt := 45) hx hb dX9_rank_36 (by decide) (fun c3 => ?_) (fun c3 => ?_)
    · have hf := cx_t hf c3
      refine lv_iload_n hx hb dX9_rank_45 rfl (lv_at hl 2 rfl) ?_
      cases hf
      exact cx_iret hx hb hr hlocks hP hL dX9_rank_46
    · have hf := cx_f hf c3
      refine lv_iinc (v := (x2 + 1)) (lv' := [(2, .int (x2 + 1)), (0, .ref (ad 0)), (1, .int x1)]) hx hb dX9_rank_39 hl (k := 2) rfl rfl (by decide) rfl (fun ls hl => ?_)
      refine lv_goto (tgt := 30) hx hb dX9_rank_42 (by decide) ?_
      exact ih μ x1 (x2 + 1) _ _ _ hf hP hL (lv_sub hl [1, 2, 0] rfl)
def f_X9_rank (N : Nat) (μ : MdlS) (p0 : Int32) : Option (Int32 × MdlS) := cx_let ((oI μ.1 6 0, μ.2)) fun z1 => (f_X9_isBlock p0).bind fun r2 => if r2 = 0 then (f_X9_fail z1 1).bind fun r8 => some (r8.1, r8.2) else (f_X9_isDirty z1 p0).bind fun r5 => if r5 = 0 then some ((-1), z1) else f_X9_rank_b30 N N z1 p0 0
set_option maxHeartbeats 4000000 in
set_option maxRecDepth 100000 in
theorem c_X9_rank {l : Launch} {G : va_G} {cA : Nat → ClassId} {lo : Nat} {ad : Nat → Nat} {P : MdlS → Heap → Prop} (hC : cx G lo 9 ad (ceModel cA ad) P) {N : Nat} {μ : MdlS} {p0 : Int32} {res : Int32 × MdlS} (hf : f_X9_rank N μ p0 = some res) : Met l yX9_rank (cW yX9_rank cX9_rank 3 (some .int)) rm_X9_rank (cP [.ref (ad 0), .int p0] (P μ) G cA) (cQ (some (.int res.1)) (P res.2)) 0 0 (fun q => lo ≤ q) := by
  refine cx_met (by decide) (Nat.le_of_ble_eq_true rfl) (fun p e s m args below meth c ls C0 hP hl => ?_)
  have hl : lv_has ls 3 [(0, .ref (ad 0)), (1, .int p0)] := hl
  obtain ⟨⟨hx, hb, hml, hown, hts⟩, hr, hlocks, hK⟩ := id C0
  have hL : ∀ q ∈ ([] : List Loc), lo ≤ q.base := fun q h => nomatch h
  unfold f_X9_rank at hf
  refine lv_aload_n hx hb dX9_rank_0 rfl (lv_at hl 0 rfl) ?_
  refine lv_iconst (v := 0) hx hb dX9_rank_1 (by decide) ?_
  obtain ⟨z1, ez1, hf⟩ := cx_letE hf
  refine p_Model_6 hC hP hx hb hts hown hK mw_149 dX9_rank_2 hL (fun H locs hP hL => ?_)
  replace hP : P z1 H := by rw [← ez1]; exact hP
  refine lv_iload_n hx hb dX9_rank_5 rfl (lv_at hl 1 rfl) ?_
  obtain ⟨r2, q3, hf⟩ := cx_b hf
  refine cx_callS (As := [.int p0]) (rest := []) ⟨hx, hb, hml, hown, hts⟩ (c_X9_isBlock (PH := P z1) q3) (cwS 1 hts (gS mw_918 mw_919 mw_5 mw_920) rfl rfl rfl hd_X9_isBlock ⟨Nat.le_of_ble_eq_true rfl, Nat.le_of_ble_eq_true rfl⟩) hK hP rfl hl.1 rfl (Nat.le_of_ble_eq_true rfl) dX9_rank_6 ⟨Nat.zero_le _, Nat.zero_le _⟩ hL (fun H locs hP hL => ?_)
  refine lv_if_ne (tgt := 18) hx hb dX9_rank_9 (by decide) (fun c4 => ?_) (fun c4 => ?_)
  · have hf := cx_f hf c4
    refine lv_aload_n hx hb dX9_rank_18 rfl (lv_at hl 0 rfl) ?_
    refine lv_iload_n hx hb dX9_rank_19 rfl (lv_at hl 1 rfl) ?_
    obtain ⟨r5, q6, hf⟩ := cx_b hf
    refine cx_callV (As := [.int p0]) (rest := []) ⟨hx, hb, hml, hown, hts⟩ (c_X9_isDirty hC q6) (cwV 1 hts (gV mw_614 mw_615 mw_616 mw_5 mw_617) rfl rfl rfl hd_X9_isDirty ⟨Nat.le_of_ble_eq_true rfl, Nat.le_of_ble_eq_true rfl⟩) hK hP rfl (at_Model hC hP) rfl hl.1 rfl (Nat.le_of_ble_eq_true rfl) dX9_rank_20 ⟨Nat.zero_le _, Nat.zero_le _⟩ hL (fun H locs hP hL => ?_)
    replace hP : P z1 H := by first | exact hP | (simpa only [va_up_id] using hP)
    refine lv_if_ne (tgt := 28) hx hb dX9_rank_23 (by decide) (fun c7 => ?_) (fun c7 => ?_)
    · have hf := cx_f hf c7
      refine lv_iconst (v := 0) hx hb dX9_rank_28 (by decide) ?_
      refine lv_istore_n (lv' := [(2, .int 0), (0, .ref (ad 0)), (1, .int p0)]) hx hb dX9_rank_29 rfl hl (by decide) rfl (fun ls hl => ?_)
      exact w_X9_rank_b30 C0 hC N z1 p0 0 _ _ _ hf hP hL (lv_sub hl [1, 2, 0] rfl)
    · have hf := cx_t hf c7
      refine lv_iconst (v := (-1)) hx hb dX9_rank_26 (by decide) ?_
      cases hf
      exact cx_iret hx hb hr hlocks hP hL dX9_rank_27
  · have hf := cx_t hf c4
    refine lv_aload_n hx hb dX9_rank_12 rfl (lv_at hl 0 rfl) ?_
    refine lv_iconst (v := 1) hx hb dX9_rank_13 (by decide) ?_
    obtain ⟨r8, q9, hf⟩ := cx_b hf
    refine cx_callV (As := [.int 1]) (rest := []) ⟨hx, hb, hml, hown, hts⟩ (c_X9_fail hC q9) (cwV 1 hts (gV mw_151 mw_152 mw_153 mw_5 mw_154) rfl rfl rfl hd_X9_fail ⟨Nat.le_of_ble_eq_true rfl, Nat.le_of_ble_eq_true rfl⟩) hK hP rfl (at_Model hC hP) rfl hl.1 rfl (Nat.le_of_ble_eq_true rfl) dX9_rank_14 ⟨Nat.zero_le _, Nat.zero_le _⟩ hL (fun H locs hP hL => ?_)
    replace hP : P r8.2 H := by first | exact hP | (simpa only [va_up_id] using hP)
    cases hf
    exact cx_iret hx hb hr hlocks hP hL dX9_rank_17
abbrev rm_X9_between : Room := { frames := 2, cells := 0, slots := 0, locals := 43 }
theorem hd_X9_between : yX9_between.cls = RX9 ∧ yX9_between.cls ≠ "java/lang/invoke/MethodHandle" ∧ yX9_between.cls ≠ "java/lang/invoke/VarHandle" ∧ (parseMethodDescriptor yX9_between.desc).map (fun d => d.parameters.length) = some 3 := by decide +kernel
def f_X9_between_b49 (N : Nat) : Nat → MdlS → Int32 → Int32 → Int32 → Int32 → Int32 → Option (Int32 × MdlS)
  | 0, _, _, _, _, _, _ => none
  | n + 1, μ, x1, x2, x3, x4, x5 => (f_X9_length μ x1).bind fun r1 => if r1 ≤ x5 then some (x4, μ) else (f_X9_blockAt μ x1 x5).bind fun r4 => (f_X9_isBetween r4 x2 x3).bind fun r6 => if r6 = 0 then f_X9_between_b49 N n μ x1 x2 x3 (x4 + 0) (x5 + 1) else f_X9_between_b49 N n μ x1 x2 x3 (x4 + 1) (x5 + 1)
set_option maxHeartbeats 4000000 in
set_option maxRecDepth 100000 in
theorem w_X9_between_b49 {p : Program} {l : Launch} {e : Env} {s : State} {m : MethodId} {args : Array Value} {below : List Frame} {meth : Method} {c : Code} {G : va_G} {cA : Nat → ClassId} (C0 : cB p s m args meth c RX9 cX9_between 6 (some .int) G cA) {lo : Nat} {ad : Nat → Nat} {P : MdlS → Heap → Prop} (hC : cx G lo 9 ad (ceModel cA ad) P) {N : Nat} {res : Int32 × MdlS} : ∀ (n : Nat) (μ : MdlS) (x1 : Int32) (x2 : Int32) (x3 : Int32) (x4 : Int32) (x5 : Int32) (H : Heap) (locs : List Loc) (ls : Array Slot), f_X9_between_b49 N n μ x1 x2 x3 x4 x5 = some res → P μ H → (∀ q ∈ locs, lo ≤ q.base) → lv_has ls 6 [(0, .ref (ad 0)), (1, .int x1), (2, .int x2), (3, .int x3), (4, .int x4), (5, .int x5)] → W p l e rm_X9_between s m args below meth c H locs 0 0 (MQ below (cQ (some (.int res.1)) (P res.2)) args s 0 0 (fun q => lo ≤ q)) (F0 m 49 ls []) := by
  obtain ⟨⟨hx, hb, hml, hown, hts⟩, hr, hlocks, hK⟩ := id C0
  intro n
  induction n with
  | zero => intro μ x1 x2 x3 x4 x5 H locs ls
            exact fun hf => nomatch hf
  | succ n ih =>
    intro μ x1 x2 x3 x4 x5 H locs ls hf hP hL hl
    rw [f_X9_between_b49] at hf
    refine lv_iload hx hb dX9_between_49 (lv_at hl 5 rfl) ?_
    refine lv_aload_n hx hb dX9_between_51 rfl (lv_at hl 0 rfl) ?_
    refine lv_iload_n hx hb dX9_between_52 rfl (lv_at hl 1 rfl) ?_
    obtain ⟨r1, q2, hf⟩ := cx_b hf
    refine cx_callV (As := [.int x1]) (rest := [.int x5]) ⟨hx, hb, hml, hown, hts⟩ (c_X9_length hC q2) (cwV 1 hts (gV mw_663 mw_664 mw_665 mw_5 mw_666) rfl rfl rfl hd_X9_length ⟨Nat.le_of_ble_eq_true rfl, Nat.le_of_ble_eq_true rfl⟩) hK hP rfl (at_Model hC hP) rfl hl.1 rfl (Nat.le_of_ble_eq_true rfl) dX9_between_53 ⟨Nat.zero_le _, Nat.zero_le _⟩ hL (fun H locs hP hL => ?_)
    replace hP : P μ H := by first | exact hP | (simpa only [va_up_id] using hP)
    refine lv_icmp_ge (tgt := 90) hx hb dX9_between_56 (by decide) (fun c3 => ?_) (fun c3 => ?_)
    · have hf := cx_t hf c3
      refine lv_iload hx hb dX9_between_90 (lv_at hl 4 rfl) ?_
      cases hf
      exact cx_iret hx hb hr hlocks hP hL dX9_between_92
    · have hf := cx_f hf c3
      refine lv_iload hx hb dX9_between_59 (lv_at hl 4 rfl) ?_
      refine lv_aload_n hx hb dX9_between_61 rfl (lv_at hl 0 rfl) ?_
      refine lv_iload_n hx hb dX9_between_62 rfl (lv_at hl 1 rfl) ?_
      refine lv_iload hx hb dX9_between_63 (lv_at hl 5 rfl) ?_
      obtain ⟨r4, q5, hf⟩ := cx_b hf
      refine cx_callV (As := [.int x1, .int x5]) (rest := [.int x4]) ⟨hx, hb, hml, hown, hts⟩ (c_X9_blockAt hC q5) (cwV 2 hts (gV mw_659 mw_660 mw_661 mw_5 mw_662) rfl rfl rfl hd_X9_blockAt ⟨Nat.le_of_ble_eq_true rfl, Nat.le_of_ble_eq_true rfl⟩) hK hP rfl (at_Model hC hP) rfl hl.1 rfl (Nat.le_of_ble_eq_true rfl) dX9_between_65 ⟨Nat.zero_le _, Nat.zero_le _⟩ hL (fun H locs hP hL => ?_)
      replace hP : P μ H := by first | exact hP | (simpa only [va_up_id] using hP)
      refine lv_iload_n hx hb dX9_between_68 rfl (lv_at hl 2 rfl) ?_
      refine lv_iload_n hx hb dX9_between_69 rfl (lv_at hl 3 rfl) ?_
      obtain ⟨r6, q7, hf⟩ := cx_b hf
      refine cx_callS (As := [.int r4, .int x2, .int x3]) (rest := [.int x4]) ⟨hx, hb, hml, hown, hts⟩ (c_X9_isBetween (PH := P μ) q7) (cwS 3 hts (gS mw_176 mw_177 mw_5 mw_178) rfl rfl rfl hd_X9_isBetween ⟨Nat.le_of_ble_eq_true rfl, Nat.le_of_ble_eq_true rfl⟩) hK hP rfl hl.1 rfl (Nat.le_of_ble_eq_true rfl) dX9_between_70 ⟨Nat.zero_le _, Nat.zero_le _⟩ hL (fun H locs hP hL => ?_)
      refine lv_if_eq (tgt := 80) hx hb dX9_between_73 (by decide) (fun c8 => ?_) (fun c8 => ?_)
      · have hf := cx_t hf c8
        refine lv_iconst (v := 0) hx hb dX9_between_80 (by decide) ?_
        refine lv_iadd hx hb dX9_between_81 ?_
        refine lv_istore (lv' := [(4, .int (x4 + 0)), (0, .ref (ad 0)), (1, .int x1), (2, .int x2), (3, .int x3), (5, .int x5)]) hx hb dX9_between_82 hl (by decide) rfl (fun ls hl => ?_)
        refine lv_iinc (v := (x5 + 1)) (lv' := [(5, .int (x5 + 1)), (4, .int (x4 + 0)), (0, .ref (ad 0)), (1, .int x1), (2, .int x2), (3, .int x3)]) hx hb dX9_between_84 hl (k := 5) rfl rfl (by decide) rfl (fun ls hl => ?_)
        refine lv_goto (tgt := 49) hx hb dX9_between_87 (by decide) ?_
        exact ih μ x1 x2 x3 (x4 + 0) (x5 + 1) _ _ _ hf hP hL (lv_sub hl [2, 3, 4, 5, 1, 0] rfl)
      · have hf := cx_f hf c8
        refine lv_iconst (v := 1) hx hb dX9_between_76 (by decide) ?_
        refine lv_goto (tgt := 81) hx hb dX9_between_77 (by decide) ?_
        refine lv_iadd hx hb dX9_between_81 ?_
        refine lv_istore (lv' := [(4, .int (x4 + 1)), (0, .ref (ad 0)), (1, .int x1), (2, .int x2), (3, .int x3), (5, .int x5)]) hx hb dX9_between_82 hl (by decide) rfl (fun ls hl => ?_)
        refine lv_iinc (v := (x5 + 1)) (lv' := [(5, .int (x5 + 1)), (4, .int (x4 + 1)), (0, .ref (ad 0)), (1, .int x1), (2, .int x2), (3, .int x3)]) hx hb dX9_between_84 hl (k := 5) rfl rfl (by decide) rfl (fun ls hl => ?_)
        refine lv_goto (tgt := 49) hx hb dX9_between_87 (by decide) ?_
        exact ih μ x1 x2 x3 (x4 + 1) (x5 + 1) _ _ _ hf hP hL (lv_sub hl [2, 3, 4, 5, 1, 0] rfl)
def f_X9_between (N : Nat) (μ : MdlS) (p0 : Int32) (p1 : Int32) (p2 : Int32) : Option (Int32 × MdlS) := cx_let ((oI μ.1 6 0, μ.2)) fun z1 => (f_X9_isList z1 p0).bind fun r2 => if r2 = 0 then (f_X9_fail z1 1).bind fun r15 => some (r15.1, r15.2) else (f_X9_isBlock p1).bind fun r5 => if r5 = 0 then (f_X9_fail z1 2).bind fun r8 => some (r8.1, r8.2) else (f_X9_isBetween p2 p1 199).bind fun r10 => if r10 = 0 then (f_X9_fail z1 2).bind fun r13 => some (r13.1, r13.2) else f_X9_between_b49 N N z1 p0 p1 p2 0 0
set_option maxHeartbeats 4000000 in
set_option maxRecDepth 100000 in
theorem c_X9_between {l : Launch} {G : va_G} {cA : Nat → ClassId} {lo : Nat} {ad : Nat → Nat} {P : MdlS → Heap → Prop} (hC : cx G lo 9 ad (ceModel cA ad) P) {N : Nat} {μ : MdlS} {p0 : Int32} {p1 : Int32} {p2 : Int32} {res : Int32 × MdlS} (hf : f_X9_between N μ p0 p1 p2 = some res) : Met l yX9_between (cW yX9_between cX9_between 6 (some .int)) rm_X9_between (cP [.ref (ad 0), .int p0, .int p1, .int p2] (P μ) G cA) (cQ (some (.int res.1)) (P res.2)) 0 0 (fun q => lo ≤ q) := by
  refine cx_met (by decide) (Nat.le_of_ble_eq_true rfl) (fun p e s m args below meth c ls C0 hP hl => ?_)
  have hl : lv_has ls 6 [(0, .ref (ad 0)), (1, .int p0), (2, .int p1), (3, .int p2)] := hl
  obtain ⟨⟨hx, hb, hml, hown, hts⟩, hr, hlocks, hK⟩ := id C0
  have hL : ∀ q ∈ ([] : List Loc), lo ≤ q.base := fun q h => nomatch h
  unfold f_X9_between at hf
  refine lv_aload_n hx hb dX9_between_0 rfl (lv_at hl 0 rfl) ?_
  refine lv_iconst (v := 0) hx hb dX9_between_1 (by decide) ?_
  obtain ⟨z1, ez1, hf⟩ := cx_letE hf
  refine p_Model_6 hC hP hx hb hts hown hK mw_149 dX9_between_2 hL (fun H locs hP hL => ?_)
  replace hP : P z1 H := by rw [← ez1]; exact hP
  refine lv_aload_n hx hb dX9_between_5 rfl (lv_at hl 0 rfl) ?_
  refine lv_iload_n hx hb dX9_between_6 rfl (lv_at hl 1 rfl) ?_
  obtain ⟨r2, q3, hf⟩ := cx_b hf
  refine cx_callV (As := [.int p0]) (rest := []) ⟨hx, hb, hml, hown, hts⟩ (c_X9_isList hC q3) (cwV 1 hts (gV mw_937 mw_938 mw_939 mw_5 mw_940) rfl rfl rfl hd_X9_isList ⟨Nat.le_of_ble_eq_true rfl, Nat.le_of_ble_eq_true rfl⟩) hK hP rfl (at_Model hC hP) rfl hl.1 rfl (Nat.le_of_ble_eq_true rfl) dX9_between_7 ⟨Nat.zero_le _, Nat.zero_le _⟩ hL (fun H locs hP hL => ?_)
  replace hP : P z1 H := by first | exact hP | (simpa only [va_up_id] using hP)
  refine lv_if_ne (tgt := 19) hx hb dX9_between_10 (by decide) (fun c4 => ?_) (fun c4 => ?_)
  · have hf := cx_f hf c4
    refine lv_iload_n hx hb dX9_between_19 rfl (lv_at hl 2 rfl) ?_
    obtain ⟨r5, q6, hf⟩ := cx_b hf
    refine cx_callS (As := [.int p1]) (rest := []) ⟨hx, hb, hml, hown, hts⟩ (c_X9_isBlock (PH := P z1) q6) (cwS 1 hts (gS mw_918 mw_919 mw_5 mw_920) rfl rfl rfl hd_X9_isBlock ⟨Nat.le_of_ble_eq_true rfl, Nat.le_of_ble_eq_true rfl⟩) hK hP rfl hl.1 rfl (Nat.le_of_ble_eq_true rfl) dX9_between_20 ⟨Nat.zero_le _, Nat.zero_le _⟩ hL (fun H locs hP hL => ?_)
    refine lv_if_eq (tgt := 37) hx hb dX9_between_23 (by decide) (fun c7 => ?_) (fun c7 => ?_)
    · have hf := cx_t hf c7
      refine lv_aload_n hx hb dX9_between_37 rfl (lv_at hl 0 rfl) ?_
      refine lv_iconst (v := 2) hx hb dX9_between_38 (by decide) ?_
      obtain ⟨r8, q9, hf⟩ := cx_b hf
      refine cx_callV (As := [.int 2]) (rest := []) ⟨hx, hb, hml, hown, hts⟩ (c_X9_fail hC q9) (cwV 1 hts (gV mw_151 mw_152 mw_153 mw_5 mw_154) rfl rfl rfl hd_X9_fail ⟨Nat.le_of_ble_eq_true rfl, Nat.le_of_ble_eq_true rfl⟩) hK hP rfl (at_Model hC hP) rfl hl.1 rfl (Nat.le_of_ble_eq_true rfl) dX9_between_39 ⟨Nat.zero_le _, Nat.zero_le _⟩ hL (fun H locs hP hL => ?_)
      replace hP : P r8.2 H := by first | exact hP | (simpa only [va_up_id] using hP)
      cases hf
      exact cx_iret hx hb hr hlocks hP hL dX9_between_42
    · have hf := cx_f hf c7
      refine lv_iload_n hx hb dX9_between_26 rfl (lv_at hl 3 rfl) ?_
      refine lv_iload_n hx hb dX9_between_27 rfl (lv_at hl 2 rfl) ?_
      refine lv_sipush (v := 199) hx hb dX9_between_28 (by decide) ?_
      obtain ⟨r10, q11, hf⟩ := cx_b hf
      refine cx_callS (As := [.int p2, .int p1, .int 199]) (rest := []) ⟨hx, hb, hml, hown, hts⟩ (c_X9_isBetween (PH := P z1) q11) (cwS 3 hts (gS mw_176 mw_177 mw_5 mw_178) rfl rfl rfl hd_X9_isBetween ⟨Nat.le_of_ble_eq_true rfl, Nat.le_of_ble_eq_true rfl⟩) hK hP rfl hl.1 rfl (Nat.le_of_ble_eq_true rfl) dX9_between_31 ⟨Nat.zero_le _, Nat.zero_le _⟩ hL (fun H locs hP hL => ?_)
      refine lv_if_ne (tgt := 43) hx hb dX9_between_34 (by decide) (fun c12 => ?_) (fun c12 => ?_)
      · have hf := cx_f hf c12
        refine lv_iconst (v := 0) hx hb dX9_between_43 (by decide) ?_
        refine lv_istore (lv' := [(4, .int 0), (0, .ref (ad 0)), (1, .int p0), (2, .int p1), (3, .int p2)]) hx hb dX9_between_44 hl (by decide) rfl (fun ls hl => ?_)
        refine lv_iconst (v := 0) hx hb dX9_between_46 (by decide) ?_
        refine lv_istore (lv' := [(5, .int 0), (4, .int 0), (0, .ref (ad 0)), (1, .int p0), (2, .int p1), (3, .int p2)]) hx hb dX9_between_47 hl (by decide) rfl (fun ls hl => ?_)
        exact w_X9_between_b49 C0 hC N z1 p0 p1 p2 0 0 _ _ _ hf hP hL (lv_sub hl [2, 3, 4, 5, 1, 0] rfl)
      · have hf := cx_t hf c12
        refine lv_aload_n hx hb dX9_between_37 rfl (lv_at hl 0 rfl) ?_
        refine lv_iconst (v := 2) hx hb dX9_between_38 (by decide) ?_
        obtain ⟨r13, q14, hf⟩ := cx_b hf
        refine cx_callV (As := [.int 2]) (rest := []) ⟨hx, hb, hml, hown, hts⟩ (c_X9_fail hC q14) (cwV 1 hts (gV mw_151 mw_152 mw_153 mw_5 mw_154) rfl rfl rfl hd_X9_fail ⟨Nat.le_of_ble_eq_true rfl, Nat.le_of_ble_eq_true rfl⟩) hK hP rfl (at_Model hC hP) rfl hl.1 rfl (Nat.le_of_ble_eq_true rfl) dX9_between_39 ⟨Nat.zero_le _, Nat.zero_le _⟩ hL (fun H locs hP hL => ?_)
        replace hP : P r13.2 H := by first | exact hP | (simpa only [va_up_id] using hP)
        cases hf
        exact cx_iret hx hb hr hlocks hP hL dX9_between_42
  · have hf := cx_t hf c4
    refine lv_aload_n hx hb dX9_between_13 rfl (lv_at hl 0 rfl) ?_
    refine lv_iconst (v := 1) hx hb dX9_between_14 (by decide) ?_
    obtain ⟨r15, q16, hf⟩ := cx_b hf
    refine cx_callV (As := [.int 1]) (rest := []) ⟨hx, hb, hml, hown, hts⟩ (c_X9_fail hC q16) (cwV 1 hts (gV mw_151 mw_152 mw_153 mw_5 mw_154) rfl rfl rfl hd_X9_fail ⟨Nat.le_of_ble_eq_true rfl, Nat.le_of_ble_eq_true rfl⟩) hK hP rfl (at_Model hC hP) rfl hl.1 rfl (Nat.le_of_ble_eq_true rfl) dX9_between_15 ⟨Nat.zero_le _, Nat.zero_le _⟩ hL (fun H locs hP hL => ?_)
    replace hP : P r15.2 H := by first | exact hP | (simpa only [va_up_id] using hP)
    cases hf
    exact cx_iret hx hb hr hlocks hP hL dX9_between_18
abbrev rm_X9_isIn : Room := { frames := 1, cells := 0, slots := 0, locals := 22 }
theorem hd_X9_isIn : yX9_isIn.cls = RX9 ∧ yX9_isIn.cls ≠ "java/lang/invoke/MethodHandle" ∧ yX9_isIn.cls ≠ "java/lang/invoke/VarHandle" ∧ (parseMethodDescriptor yX9_isIn.desc).map (fun d => d.parameters.length) = some 2 := by decide +kernel
def f_X9_isIn (μ : MdlS) (p0 : Int32) (p1 : Int32) : Option (Int32) := if 2 < p0 then (f_X9_of μ p1 4).bind fun r2 => if r2 = p0 then some 1 else some 0 else (f_X9_of μ p1 0).bind fun r5 => if r5 = p0 then some 1 else some 0
set_option maxHeartbeats 4000000 in
set_option maxRecDepth 100000 in
theorem c_X9_isIn {l : Launch} {G : va_G} {cA : Nat → ClassId} {lo : Nat} {ad : Nat → Nat} {P : MdlS → Heap → Prop} (hC : cx G lo 9 ad (ceModel cA ad) P) {μ : MdlS} {p0 : Int32} {p1 : Int32} {res : Int32} (hf : f_X9_isIn μ p0 p1 = some res) : Met l yX9_isIn (cW yX9_isIn cX9_isIn 3 (some .boolean)) rm_X9_isIn (cP [.ref (ad 0), .int p0, .int p1] (P μ) G cA) (cQ (some (.int res)) (P μ)) 0 0 (fun q => lo ≤ q) := by
  refine cx_met (by decide) (Nat.le_of_ble_eq_true rfl) (fun p e s m args below meth c ls C0 hP hl => ?_)
  have hl : lv_has ls 3 [(0, .ref (ad 0)), (1, .int p0), (2, .int p1)] := hl
  obtain ⟨⟨hx, hb, hml, hown, hts⟩, hr, hlocks, hK⟩ := id C0
  have hL : ∀ q ∈ ([] : List Loc), lo ≤ q.base := fun q h => nomatch h
  unfold f_X9_isIn at hf
  refine lv_aload_n hx hb dX9_isIn_0 rfl (lv_at hl 0 rfl) ?_
  refine lv_iload_n hx hb dX9_isIn_1 rfl (lv_at hl 2 rfl) ?_
  refine lv_iload_n hx hb dX9_isIn_2 rfl (lv_at hl 1 rfl) ?_
  refine lv_iconst (v := 2) hx hb dX9_isIn_3 (by decide) ?_
  refine lv_icmp_gt (tgt := 11) hx hb dX9_isIn_4 (by decide) (fun c1 => ?_) (fun c1 => ?_)
  · have hf := cx_t hf c1
    refine lv_iconst (v := 4) hx hb dX9_isIn_11 (by decide) ?_
    obtain ⟨r2, q3, hf⟩ := cx_b hf
    refine cx_callV (As := [.int p1, .int 4]) (rest := []) ⟨hx, hb, hml, hown, hts⟩ (c_X9_of hC q3) (cwV 2 hts (gV mw_618 mw_619 mw_620 mw_5 mw_621) rfl rfl rfl hd_X9_of ⟨Nat.le_of_ble_eq_true rfl, Nat.le_of_ble_eq_true rfl⟩) hK hP rfl (at_Model hC hP) rfl hl.1 rfl (Nat.le_of_ble_eq_true rfl) dX9_isIn_12 ⟨Nat.zero_le _, Nat.zero_le _⟩ hL (fun H locs hP hL => ?_)
    replace hP : P μ H := by first | exact hP | (simpa only [va_up_id] using hP)
    refine lv_iload_n hx hb dX9_isIn_15 rfl (lv_at hl 1 rfl) ?_
    refine lv_icmp_ne (tgt := 23) hx hb dX9_isIn_16 (by decide) (fun c4 => ?_) (fun c4 => ?_)
    · have hf := cx_f hf c4
      refine lv_iconst (v := 0) hx hb dX9_isIn_23 (by decide) ?_
      cases hf
      exact cx_zret hx hb hr hlocks (Or.inl rfl) hP hL dX9_isIn_24
    · have hf := cx_t hf c4
      refine lv_iconst (v := 1) hx hb dX9_isIn_19 (by decide) ?_
      refine lv_goto (tgt := 24) hx hb dX9_isIn_20 (by decide) ?_
      cases hf
      exact cx_zret hx hb hr hlocks (Or.inr rfl) hP hL dX9_isIn_24
  · have hf := cx_f hf c1
    refine lv_iconst (v := 0) hx hb dX9_isIn_7 (by decide) ?_
    refine lv_goto (tgt := 12) hx hb dX9_isIn_8 (by decide) ?_
    obtain ⟨r5, q6, hf⟩ := cx_b hf
    refine cx_callV (As := [.int p1, .int 0]) (rest := []) ⟨hx, hb, hml, hown, hts⟩ (c_X9_of hC q6) (cwV 2 hts (gV mw_618 mw_619 mw_620 mw_5 mw_621) rfl rfl rfl hd_X9_of ⟨Nat.le_of_ble_eq_true rfl, Nat.le_of_ble_eq_true rfl⟩) hK hP rfl (at_Model hC hP) rfl hl.1 rfl (Nat.le_of_ble_eq_true rfl) dX9_isIn_12 ⟨Nat.zero_le _, Nat.zero_le _⟩ hL (fun H locs hP hL => ?_)
    replace hP : P μ H := by first | exact hP | (simpa only [va_up_id] using hP)
    refine lv_iload_n hx hb dX9_isIn_15 rfl (lv_at hl 1 rfl) ?_
    refine lv_icmp_ne (tgt := 23) hx hb dX9_isIn_16 (by decide) (fun c7 => ?_) (fun c7 => ?_)
    · have hf := cx_f hf c7
      refine lv_iconst (v := 0) hx hb dX9_isIn_23 (by decide) ?_
      cases hf
      exact cx_zret hx hb hr hlocks (Or.inl rfl) hP hL dX9_isIn_24
    · have hf := cx_t hf c7
      refine lv_iconst (v := 1) hx hb dX9_isIn_19 (by decide) ?_
      refine lv_goto (tgt := 24) hx hb dX9_isIn_20 (by decide) ?_
      cases hf
      exact cx_zret hx hb hr hlocks (Or.inr rfl) hP hL dX9_isIn_24
abbrev rm_X9_longest : Room := { frames := 2, cells := 0, slots := 0, locals := 44 }
theorem hd_X9_longest : yX9_longest.cls = RX9 ∧ yX9_longest.cls ≠ "java/lang/invoke/MethodHandle" ∧ yX9_longest.cls ≠ "java/lang/invoke/VarHandle" ∧ (parseMethodDescriptor yX9_longest.desc).map (fun d => d.parameters.length) = some 1 := by decide +kernel
def f_X9_longest_b26 (N : Nat) : Nat → MdlS → Int32 → Int32 → Int32 → Int32 → Option (Int32 × MdlS)
  | 0, _, _, _, _, _ => none
  | n + 1, μ, x1, x2, x3, x4 => if 200 ≤ x4 then some (x2, μ) else (f_X9_isIn μ x1 x4).bind fun r2 => if r2 = 0 then f_X9_longest_b26 N n μ x1 (if x2 < 0 then 0 else x2) 0 (x4 + 1) else f_X9_longest_b26 N n μ x1 (if x2 < (x3 + 1) then (x3 + 1) else x2) (x3 + 1) (x4 + 1)
set_option maxHeartbeats 4000000 in
set_option maxRecDepth 100000 in
theorem w_X9_longest_b26 {p : Program} {l : Launch} {e : Env} {s : State} {m : MethodId} {args : Array Value} {below : List Frame} {meth : Method} {c : Code} {G : va_G} {cA : Nat → ClassId} (C0 : cB p s m args meth c RX9 cX9_longest 5 (some .int) G cA) {lo : Nat} {ad : Nat → Nat} {P : MdlS → Heap → Prop} (hC : cx G lo 9 ad (ceModel cA ad) P) {N : Nat} {res : Int32 × MdlS} : ∀ (n : Nat) (μ : MdlS) (x1 : Int32) (x2 : Int32) (x3 : Int32) (x4 : Int32) (H : Heap) (locs : List Loc) (ls : Array Slot), f_X9_longest_b26 N n μ x1 x2 x3 x4 = some res → P μ H → (∀ q ∈ locs, lo ≤ q.base) → lv_has ls 5 [(0, .ref (ad 0)), (1, .int x1), (2, .int x2), (3, .int x3), (4, .int x4)] → W p l e rm_X9_longest s m args below meth c H locs 0 0 (MQ below (cQ (some (.int res.1)) (P res.2)) args s 0 0 (fun q => lo ≤ q)) (F0 m 26 ls []) := by
  obtain ⟨⟨hx, hb, hml, hown, hts⟩, hr, hlocks, hK⟩ := id C0
  intro n
  induction n with
  | zero => intro μ x1 x2 x3 x4 H locs ls
            exact fun hf => nomatch hf
  | succ n ih =>
    intro μ x1 x2 x3 x4 H locs ls hf hP hL hl
    rw [f_X9_longest_b26] at hf
    refine lv_iload hx hb dX9_longest_26 (lv_at hl 4 rfl) ?_
    refine lv_sipush (v := 200) hx hb dX9_longest_28 (by decide) ?_
    refine lv_icmp_ge (tgt := 64) hx hb dX9_longest_31 (by decide) (fun c1 => ?_) (fun c1 => ?_)
    · have hf := cx_t hf c1
      refine lv_iload_n hx hb dX9_longest_64 rfl (lv_at hl 2 rfl) ?_
      cases hf
      exact cx_iret hx hb hr hlocks hP hL dX9_longest_65
    · have hf := cx_f hf c1
      refine lv_aload_n hx hb dX9_longest_34 rfl (lv_at hl 0 rfl) ?_
      refine lv_iload_n hx hb dX9_longest_35 rfl (lv_at hl 1 rfl) ?_
      refine lv_iload hx hb dX9_longest_36 (lv_at hl 4 rfl) ?_
      obtain ⟨r2, q3, hf⟩ := cx_b hf
      refine cx_callV (As := [.int x1, .int x4]) (rest := []) ⟨hx, hb, hml, hown, hts⟩ (c_X9_isIn hC q3) (cwV 2 hts (gV mw_1170 mw_1171 mw_1172 mw_5 mw_1173) rfl rfl rfl hd_X9_isIn ⟨Nat.le_of_ble_eq_true rfl, Nat.le_of_ble_eq_true rfl⟩) hK hP rfl (at_Model hC hP) rfl hl.1 rfl (Nat.le_of_ble_eq_true rfl) dX9_longest_38 ⟨Nat.zero_le _, Nat.zero_le _⟩ hL (fun H locs hP hL => ?_)
      replace hP : P μ H := by first | exact hP | (simpa only [va_up_id] using hP)
      refine lv_if_eq (tgt := 50) hx hb dX9_longest_41 (by decide) (fun c4 => ?_) (fun c4 => ?_)
      · have hf := cx_t hf c4
        refine lv_iconst (v := 0) hx hb dX9_longest_50 (by decide) ?_
        refine lv_istore_n (lv' := [(3, .int 0), (0, .ref (ad 0)), (1, .int x1), (2, .int x2), (4, .int x4)]) hx hb dX9_longest_51 rfl hl (by decide) rfl (fun ls hl => ?_)
        refine lv_iload_n hx hb dX9_longest_52 rfl (lv_at hl 3 rfl) ?_
        refine lv_iload_n hx hb dX9_longest_53 rfl (lv_at hl 0 rfl) ?_
        refine va_mmax hx hb (hml.trans hl.1.symm) hown (hts _ mw_630) (hts _ mw_470) (hts _ mw_276) (hts _ mw_471) (Nat.le_of_ble_eq_true rfl) (Nat.le_of_ble_eq_true rfl) (Nat.zero_le _) (Nat.zero_le _) dX9_longest_54 ?_
        refine lv_istore_n (lv' := [(2, .int (if x2 < 0 then 0 else x2)), (3, .int 0), (0, .ref (ad 0)), (1, .int x1), (4, .int x4)]) hx hb dX9_longest_57 rfl hl (by decide) rfl (fun ls hl => ?_)
        refine lv_iinc (v := (x4 + 1)) (lv' := [(4, .int (x4 + 1)), (2, .int (if x2 < 0 then 0 else x2)), (3, .int 0), (0, .ref (ad 0)), (1, .int x1)]) hx hb dX9_longest_58 hl (k := 4) rfl rfl (by decide) rfl (fun ls hl => ?_)
        refine lv_goto (tgt := 26) hx hb dX9_longest_61 (by decide) ?_
        exact ih μ x1 (if x2 < 0 then 0 else x2) 0 (x4 + 1) _ _ _ hf hP hL (lv_sub hl [3, 4, 1, 2, 0] rfl)
      · have hf := cx_f hf c4
        refine lv_iload_n hx hb dX9_longest_44 rfl (lv_at hl 3 rfl) ?_
        refine lv_iconst (v := 1) hx hb dX9_longest_45 (by decide) ?_
        refine lv_iadd hx hb dX9_longest_46 ?_
        refine lv_goto (tgt := 51) hx hb dX9_longest_47 (by decide) ?_
        refine lv_istore_n (lv' := [(3, .int (x3 + 1)), (0, .ref (ad 0)), (1, .int x1), (2, .int x2), (4, .int x4)]) hx hb dX9_longest_51 rfl hl (by decide) rfl (fun ls hl => ?_)
        refine lv_iload_n hx hb dX9_longest_52 rfl (lv_at hl 3 rfl) ?_
        refine lv_iload_n hx hb dX9_longest_53 rfl (lv_at hl 0 rfl) ?_
        refine va_mmax hx hb (hml.trans hl.1.symm) hown (hts _ mw_630) (hts _ mw_470) (hts _ mw_276) (hts _ mw_471) (Nat.le_of_ble_eq_true rfl) (Nat.le_of_ble_eq_true rfl) (Nat.zero_le _) (Nat.zero_le _) dX9_longest_54 ?_
        refine lv_istore_n (lv' := [(2, .int (if x2 < (x3 + 1) then (x3 + 1) else x2)), (3, .int (x3 + 1)), (0, .ref (ad 0)), (1, .int x1), (4, .int x4)]) hx hb dX9_longest_57 rfl hl (by decide) rfl (fun ls hl => ?_)
        refine lv_iinc (v := (x4 + 1)) (lv' := [(4, .int (x4 + 1)), (2, .int (if x2 < (x3 + 1) then (x3 + 1) else x2)), (3, .int (x3 + 1)), (0, .ref (ad 0)), (1, .int x1)]) hx hb dX9_longest_58 hl (k := 4) rfl rfl (by decide) rfl (fun ls hl => ?_)
        refine lv_goto (tgt := 26) hx hb dX9_longest_61 (by decide) ?_
        exact ih μ x1 (if x2 < (x3 + 1) then (x3 + 1) else x2) (x3 + 1) (x4 + 1) _ _ _ hf hP hL (lv_sub hl [3, 4, 1, 2, 0] rfl)
def f_X9_longest (N : Nat) (μ : MdlS) (p0 : Int32) : Option (Int32 × MdlS) := cx_let ((oI μ.1 6 0, μ.2)) fun z1 => (f_X9_isList z1 p0).bind fun r2 => if r2 = 0 then (f_X9_fail z1 1).bind fun r5 => some (r5.1, r5.2) else f_X9_longest_b26 N N z1 p0 0 0 0
set_option maxHeartbeats 4000000 in
set_option maxRecDepth 100000 in
theorem c_X9_longest {l : Launch} {G : va_G} {cA : Nat → ClassId} {lo : Nat} {ad : Nat → Nat} {P : MdlS → Heap → Prop} (hC : cx G lo 9 ad (ceModel cA ad) P) {N : Nat} {μ : MdlS} {p0 : Int32} {res : Int32 × MdlS} (hf : f_X9_longest N μ p0 = some res) : Met l yX9_longest (cW yX9_longest cX9_longest 5 (some .int)) rm_X9_longest (cP [.ref (ad 0), .int p0] (P μ) G cA) (cQ (some (.int res.1)) (P res.2)) 0 0 (fun q => lo ≤ q) := by
  refine cx_met (by decide) (Nat.le_of_ble_eq_true rfl) (fun p e s m args below meth c ls C0 hP hl => ?_)
  have hl : lv_has ls 5 [(0, .ref (ad 0)), (1, .int p0)] := hl
  obtain ⟨⟨hx, hb, hml, hown, hts⟩, hr, hlocks, hK⟩ := id C0
  have hL : ∀ q ∈ ([] : List Loc), lo ≤ q.base := fun q h => nomatch h
  unfold f_X9_longest at hf
  refine lv_aload_n hx hb dX9_longest_0 rfl (lv_at hl 0 rfl) ?_
  refine lv_iconst (v := 0) hx hb dX9_longest_1 (by decide) ?_
  obtain ⟨z1, ez1, hf⟩ := cx_letE hf
  refine p_Model_6 hC hP hx hb hts hown hK mw_149 dX9_longest_2 hL (fun H locs hP hL => ?_)
  replace hP : P z1 H := by rw [← ez1]; exact hP
  refine lv_aload_n hx hb dX9_longest_5 rfl (lv_at hl 0 rfl) ?_
  refine lv_iload_n hx hb dX9_longest_6 rfl (lv_at hl 1 rfl) ?_
  obtain ⟨r2, q3, hf⟩ := cx_b hf
  refine cx_callV (As := [.int p0]) (rest := []) ⟨hx, hb, hml, hown, hts⟩ (c_X9_isList hC q3) (cwV 1 hts (gV mw_937 mw_938 mw_939 mw_5 mw_940) rfl rfl rfl hd_X9_isList ⟨Nat.le_of_ble_eq_true rfl, Nat.le_of_ble_eq_true rfl⟩) hK hP rfl (at_Model hC hP) rfl hl.1 rfl (Nat.le_of_ble_eq_true rfl) dX9_longest_7 ⟨Nat.zero_le _, Nat.zero_le _⟩ hL (fun H locs hP hL => ?_)
  replace hP : P z1 H := by first | exact hP | (simpa only [va_up_id] using hP)
  refine lv_if_ne (tgt := 19) hx hb dX9_longest_10 (by decide) (fun c4 => ?_) (fun c4 => ?_)
  · have hf := cx_f hf c4
    refine lv_iconst (v := 0) hx hb dX9_longest_19 (by decide) ?_
    refine lv_istore_n (lv' := [(2, .int 0), (0, .ref (ad 0)), (1, .int p0)]) hx hb dX9_longest_20 rfl hl (by decide) rfl (fun ls hl => ?_)
    refine lv_iconst (v := 0) hx hb dX9_longest_21 (by decide) ?_
    refine lv_istore_n (lv' := [(3, .int 0), (2, .int 0), (0, .ref (ad 0)), (1, .int p0)]) hx hb dX9_longest_22 rfl hl (by decide) rfl (fun ls hl => ?_)
    refine lv_iconst (v := 0) hx hb dX9_longest_23 (by decide) ?_
    refine lv_istore (lv' := [(4, .int 0), (3, .int 0), (2, .int 0), (0, .ref (ad 0)), (1, .int p0)]) hx hb dX9_longest_24 hl (by decide) rfl (fun ls hl => ?_)
    exact w_X9_longest_b26 C0 hC N z1 p0 0 0 0 _ _ _ hf hP hL (lv_sub hl [3, 4, 2, 1, 0] rfl)
  · have hf := cx_t hf c4
    refine lv_aload_n hx hb dX9_longest_13 rfl (lv_at hl 0 rfl) ?_
    refine lv_iconst (v := 1) hx hb dX9_longest_14 (by decide) ?_
    obtain ⟨r5, q6, hf⟩ := cx_b hf
    refine cx_callV (As := [.int 1]) (rest := []) ⟨hx, hb, hml, hown, hts⟩ (c_X9_fail hC q6) (cwV 1 hts (gV mw_151 mw_152 mw_153 mw_5 mw_154) rfl rfl rfl hd_X9_fail ⟨Nat.le_of_ble_eq_true rfl, Nat.le_of_ble_eq_true rfl⟩) hK hP rfl (at_Model hC hP) rfl hl.1 rfl (Nat.le_of_ble_eq_true rfl) dX9_longest_15 ⟨Nat.zero_le _, Nat.zero_le _⟩ hL (fun H locs hP hL => ?_)
    replace hP : P r5.2 H := by first | exact hP | (simpa only [va_up_id] using hP)
    cases hf
    exact cx_iret hx hb hr hlocks hP hL dX9_longest_18
abbrev rm_X9_differing : Room := { frames := 1, cells := 0, slots := 0, locals := 22 }
theorem hd_X9_differing : yX9_differing.cls = RX9 ∧ yX9_differing.cls ≠ "java/lang/invoke/MethodHandle" ∧ yX9_differing.cls ≠ "java/lang/invoke/VarHandle" ∧ (parseMethodDescriptor yX9_differing.desc).map (fun d => d.parameters.length) = some 0 := by decide +kernel
def f_X9_differing_b9 (N : Nat) : Nat → MdlS → Int32 → Int32 → Option (Int32 × MdlS)
  | 0, _, _, _ => none
  | n + 1, μ, x1, x2 => if 200 ≤ x2 then some (x1, μ) else (f_X9_of μ x2 0).bind fun r2 => if r2 = (-1) then f_X9_differing_b9 N n μ (x1 + 0) (x2 + 1) else (f_X9_of μ x2 1).bind fun r5 => gd (1184 + x2) 1384 (if r5 = (μ.1.1 0 (Int32.toNatClampNeg (1184 + x2))) then f_X9_differing_b9 N n μ (x1 + 0) (x2 + 1) else f_X9_differing_b9 N n μ (x1 + 1) (x2 + 1))
set_option maxHeartbeats 4000000 in
set_option maxRecDepth 100000 in
theorem w_X9_differing_b9 {p : Program} {l : Launch} {e : Env} {s : State} {m : MethodId} {args : Array Value} {below : List Frame} {meth : Method} {c : Code} {G : va_G} {cA : Nat → ClassId} (C0 : cB p s m args meth c RX9 cX9_differing 3 (some .int) G cA) {lo : Nat} {ad : Nat → Nat} {P : MdlS → Heap → Prop} (hC : cx G lo 9 ad (ceModel cA ad) P) {N : Nat} {res : Int32 × MdlS} : ∀ (n : Nat) (μ : MdlS) (x1 : Int32) (x2 : Int32) (H : Heap) (locs : List Loc) (ls : Array Slot), f_X9_differing_b9 N n μ x1 x2 = some res → P μ H → (∀ q ∈ locs, lo ≤ q.base) → lv_has ls 3 [(0, .ref (ad 0)), (1, .int x1), (2, .int x2)] → W p l e rm_X9_differing s m args below meth c H locs 0 0 (MQ below (cQ (some (.int res.1)) (P res.2)) args s 0 0 (fun q => lo ≤ q)) (F0 m 9 ls []) := by
  obtain ⟨⟨hx, hb, hml, hown, hts⟩, hr, hlocks, hK⟩ := id C0
  intro n
  induction n with
  | zero => intro μ x1 x2 H locs ls
            exact fun hf => nomatch hf
  | succ n ih =>
    intro μ x1 x2 H locs ls hf hP hL hl
    rw [f_X9_differing_b9] at hf
    refine lv_iload_n hx hb dX9_differing_9 rfl (lv_at hl 2 rfl) ?_
    refine lv_sipush (v := 200) hx hb dX9_differing_10 (by decide) ?_
    refine lv_icmp_ge (tgt := 59) hx hb dX9_differing_13 (by decide) (fun c1 => ?_) (fun c1 => ?_)
    · have hf := cx_t hf c1
      refine lv_iload_n hx hb dX9_differing_59 rfl (lv_at hl 1 rfl) ?_
      cases hf
      exact cx_iret hx hb hr hlocks hP hL dX9_differing_60
    · have hf := cx_f hf c1
      refine lv_iload_n hx hb dX9_differing_16 rfl (lv_at hl 1 rfl) ?_
      refine lv_aload_n hx hb dX9_differing_17 rfl (lv_at hl 0 rfl) ?_
      refine lv_iload_n hx hb dX9_differing_18 rfl (lv_at hl 2 rfl) ?_
      refine lv_iconst (v := 0) hx hb dX9_differing_19 (by decide) ?_
      obtain ⟨r2, q3, hf⟩ := cx_b hf
      refine cx_callV (As := [.int x2, .int 0]) (rest := [.int x1]) ⟨hx, hb, hml, hown, hts⟩ (c_X9_of hC q3) (cwV 2 hts (gV mw_618 mw_619 mw_620 mw_5 mw_621) rfl rfl rfl hd_X9_of ⟨Nat.le_of_ble_eq_true rfl, Nat.le_of_ble_eq_true rfl⟩) hK hP rfl (at_Model hC hP) rfl hl.1 rfl (Nat.le_of_ble_eq_true rfl) dX9_differing_20 ⟨Nat.zero_le _, Nat.zero_le _⟩ hL (fun H locs hP hL => ?_)
      replace hP : P μ H := by first | exact hP | (simpa only [va_up_id] using hP)
      refine lv_iconst (v := (-1)) hx hb dX9_differing_23 (by decide) ?_
      refine lv_icmp_eq (tgt := 50) hx hb dX9_differing_24 (by decide) (fun c4 => ?_) (fun c4 => ?_)
      · have hf := cx_t hf c4
        refine lv_iconst (v := 0) hx hb dX9_differing_50 (by decide) ?_
        refine lv_iadd hx hb dX9_differing_51 ?_
        refine lv_istore_n (lv' := [(1, .int (x1 + 0)), (0, .ref (ad 0)), (2, .int x2)]) hx hb dX9_differing_52 rfl hl (by decide) rfl (fun ls hl => ?_)
        refine lv_iinc (v := (x2 + 1)) (lv' := [(2, .int (x2 + 1)), (1, .int (x1 + 0)), (0, .ref (ad 0))]) hx hb dX9_differing_53 hl (k := 2) rfl rfl (by decide) rfl (fun ls hl => ?_)
        refine lv_goto (tgt := 9) hx hb dX9_differing_56 (by decide) ?_
        exact ih μ (x1 + 0) (x2 + 1) _ _ _ hf hP hL (lv_sub hl [2, 1, 0] rfl)
      · have hf := cx_f hf c4
        refine lv_aload_n hx hb dX9_differing_27 rfl (lv_at hl 0 rfl) ?_
        refine lv_iload_n hx hb dX9_differing_28 rfl (lv_at hl 2 rfl) ?_
        refine lv_iconst (v := 1) hx hb dX9_differing_29 (by decide) ?_
        obtain ⟨r5, q6, hf⟩ := cx_b hf
        refine cx_callV (As := [.int x2, .int 1]) (rest := [.int x1]) ⟨hx, hb, hml, hown, hts⟩ (c_X9_of hC q6) (cwV 2 hts (gV mw_618 mw_619 mw_620 mw_5 mw_621) rfl rfl rfl hd_X9_of ⟨Nat.le_of_ble_eq_true rfl, Nat.le_of_ble_eq_true rfl⟩) hK hP rfl (at_Model hC hP) rfl hl.1 rfl (Nat.le_of_ble_eq_true rfl) dX9_differing_30 ⟨Nat.zero_le _, Nat.zero_le _⟩ hL (fun H locs hP hL => ?_)
        replace hP : P μ H := by first | exact hP | (simpa only [va_up_id] using hP)
        refine lv_aload_n hx hb dX9_differing_33 rfl (lv_at hl 0 rfl) ?_
        refine g_Model_0 hC hP hx hb hts hown hK mw_114 dX9_differing_34 ?_
        refine lv_sipush (v := 1184) hx hb dX9_differing_37 (by decide) ?_
        refine lv_iload_n hx hb dX9_differing_40 rfl (lv_at hl 2 rfl) ?_
        refine lv_iadd hx hb dX9_differing_41 ?_
        obtain ⟨hi7, hf⟩ := gdE hf
        refine ga_Model_0 hC hP hx hb hK hi7 dX9_differing_42 ?_
        refine lv_icmp_eq (tgt := 50) hx hb dX9_differing_43 (by decide) (fun c8 => ?_) (fun c8 => ?_)
        · have hf := cx_t hf c8
          refine lv_iconst (v := 0) hx hb dX9_differing_50 (by decide) ?_
          refine lv_iadd hx hb dX9_differing_51 ?_
          refine lv_istore_n (lv' := [(1, .int (x1 + 0)), (0, .ref (ad 0)), (2, .int x2)]) hx hb dX9_differing_52 rfl hl (by decide) rfl (fun ls hl => ?_)
          refine lv_iinc (v := (x2 + 1)) (lv' := [(2, .int (x2 + 1)), (1, .int (x1 + 0)), (0, .ref (ad 0))]) hx hb dX9_differing_53 hl (k := 2) rfl rfl (by decide) rfl (fun ls hl => ?_)
          refine lv_goto (tgt := 9) hx hb dX9_differing_56 (by decide) ?_
          exact ih μ (x1 + 0) (x2 + 1) _ _ _ hf hP hL (lv_sub hl [2, 1, 0] rfl)
        · have hf := cx_f hf c8
          refine lv_iconst (v := 1) hx hb dX9_differing_46 (by decide) ?_
          refine lv_goto (tgt := 51) hx hb dX9_differing_47 (by decide) ?_
          refine lv_iadd hx hb dX9_differing_51 ?_
          refine lv_istore_n (lv' := [(1, .int (x1 + 1)), (0, .ref (ad 0)), (2, .int x2)]) hx hb dX9_differing_52 rfl hl (by decide) rfl (fun ls hl => ?_)
          refine lv_iinc (v := (x2 + 1)) (lv' := [(2, .int (x2 + 1)), (1, .int (x1 + 1)), (0, .ref (ad 0))]) hx hb dX9_differing_53 hl (k := 2) rfl rfl (by decide) rfl (fun ls hl => ?_)
          refine lv_goto (tgt := 9) hx hb dX9_differing_56 (by decide) ?_
          exact ih μ (x1 + 1) (x2 + 1) _ _ _ hf hP hL (lv_sub hl [2, 1, 0] rfl)
def f_X9_differing (N : Nat) (μ : MdlS) : Option (Int32 × MdlS) := cx_let ((oI μ.1 6 0, μ.2)) fun z1 => f_X9_differing_b9 N N z1 0 0
set_option maxHeartbeats 4000000 in
set_option maxRecDepth 100000 in
theorem c_X9_differing {l : Launch} {G : va_G} {cA : Nat → ClassId} {lo : Nat} {ad : Nat → Nat} {P : MdlS → Heap → Prop} (hC : cx G lo 9 ad (ceModel cA ad) P) {N : Nat} {μ : MdlS} {res : Int32 × MdlS} (hf : f_X9_differing N μ = some res) : Met l yX9_differing (cW yX9_differing cX9_differing 3 (some .int)) rm_X9_differing (cP [.ref (ad 0)] (P μ) G cA) (cQ (some (.int res.1)) (P res.2)) 0 0 (fun q => lo ≤ q) := by
  refine cx_met (by decide) (Nat.le_of_ble_eq_true rfl) (fun p e s m args below meth c ls C0 hP hl => ?_)
  have hl : lv_has ls 3 [(0, .ref (ad 0))] := hl
  obtain ⟨⟨hx, hb, hml, hown, hts⟩, hr, hlocks, hK⟩ := id C0
  have hL : ∀ q ∈ ([] : List Loc), lo ≤ q.base := fun q h => nomatch h
  unfold f_X9_differing at hf
  refine lv_aload_n hx hb dX9_differing_0 rfl (lv_at hl 0 rfl) ?_
  refine lv_iconst (v := 0) hx hb dX9_differing_1 (by decide) ?_
  obtain ⟨z1, ez1, hf⟩ := cx_letE hf
  refine p_Model_6 hC hP hx hb hts hown hK mw_149 dX9_differing_2 hL (fun H locs hP hL => ?_)
  replace hP : P z1 H := by rw [← ez1]; exact hP
  refine lv_iconst (v := 0) hx hb dX9_differing_5 (by decide) ?_
  refine lv_istore_n (lv' := [(1, .int 0), (0, .ref (ad 0))]) hx hb dX9_differing_6 rfl hl (by decide) rfl (fun ls hl => ?_)
  refine lv_iconst (v := 0) hx hb dX9_differing_7 (by decide) ?_
  refine lv_istore_n (lv' := [(2, .int 0), (1, .int 0), (0, .ref (ad 0))]) hx hb dX9_differing_8 rfl hl (by decide) rfl (fun ls hl => ?_)
  exact w_X9_differing_b9 C0 hC N z1 0 0 _ _ _ hf hP hL (lv_sub hl [2, 1, 0] rfl)
abbrev rm_X9_stale : Room := { frames := 2, cells := 0, slots := 0, locals := 43 }
theorem hd_X9_stale : yX9_stale.cls = RX9 ∧ yX9_stale.cls ≠ "java/lang/invoke/MethodHandle" ∧ yX9_stale.cls ≠ "java/lang/invoke/VarHandle" ∧ (parseMethodDescriptor yX9_stale.desc).map (fun d => d.parameters.length) = some 1 := by decide +kernel
def f_X9_stale_b19 (N : Nat) : Nat → MdlS → Int32 → Int32 → Int32 → Option (Int32 × MdlS)
  | 0, _, _, _, _ => none
  | n + 1, μ, x1, x2, x3 => if 200 ≤ x3 then some (x2, μ) else (f_X9_isDirty μ x3).bind fun r2 => if r2 = 0 then f_X9_stale_b19 N n μ x1 (x2 + 0) (x3 + 1) else (f_X9_of μ x3 3).bind fun r5 => gd 5 1384 (if ((μ.1.1 0 (Int32.toNatClampNeg 5)) - x1) < r5 then f_X9_stale_b19 N n μ x1 (x2 + 0) (x3 + 1) else f_X9_stale_b19 N n μ x1 (x2 + 1) (x3 + 1))
set_option maxHeartbeats 4000000 in
set_option maxRecDepth 100000 in
theorem w_X9_stale_b19 {p : Program} {l : Launch} {e : Env} {s : State} {m : MethodId} {args : Array Value} {below : List Frame} {meth : Method} {c : Code} {G : va_G} {cA : Nat → ClassId} (C0 : cB p s m args meth c RX9 cX9_stale 4 (some .int) G cA) {lo : Nat} {ad : Nat → Nat} {P : MdlS → Heap → Prop} (hC : cx G lo 9 ad (ceModel cA ad) P) {N : Nat} {res : Int32 × MdlS} : ∀ (n : Nat) (μ : MdlS) (x1 : Int32) (x2 : Int32) (x3 : Int32) (H : Heap) (locs : List Loc) (ls : Array Slot), f_X9_stale_b19 N n μ x1 x2 x3 = some res → P μ H → (∀ q ∈ locs, lo ≤ q.base) → lv_has ls 4 [(0, .ref (ad 0)), (1, .int x1), (2, .int x2), (3, .int x3)] → W p l e rm_X9_stale s m args below meth c H locs 0 0 (MQ below (cQ (some (.int res.1)) (P res.2)) args s 0 0 (fun q => lo ≤ q)) (F0 m 19 ls []) := by
  obtain ⟨⟨hx, hb, hml, hown, hts⟩, hr, hlocks, hK⟩ := id C0
  intro n
  induction n with
  | zero => intro μ x1 x2 x3 H locs ls
            exact fun hf => nomatch hf
  | succ n ih =>
    intro μ x1 x2 x3 H locs ls hf hP hL hl
    rw [f_X9_stale_b19] at hf
    refine lv_iload_n hx hb dX9_stale_19 rfl (lv_at hl 3 rfl) ?_
    refine lv_sipush (v := 200) hx hb dX9_stale_20 (by decide) ?_
    refine lv_icmp_ge (tgt := 65) hx hb dX9_stale_23 (by decide) (fun c1 => ?_) (fun c1 => ?_)
    · have hf := cx_t hf c1
      refine lv_iload_n hx hb dX9_stale_65 rfl (lv_at hl 2 rfl) ?_
      cases hf
      exact cx_iret hx hb hr hlocks hP hL dX9_stale_66
    · have hf := cx_f hf c1
      refine lv_iload_n hx hb dX9_stale_26 rfl (lv_at hl 2 rfl) ?_
      refine lv_aload_n hx hb dX9_stale_27 rfl (lv_at hl 0 rfl) ?_
      refine lv_iload_n hx hb dX9_stale_28 rfl (lv_at hl 3 rfl) ?_
      obtain ⟨r2, q3, hf⟩ := cx_b hf
      refine cx_callV (As := [.int x3]) (rest := [.int x2]) ⟨hx, hb, hml, hown, hts⟩ (c_X9_isDirty hC q3) (cwV 1 hts (gV mw_614 mw_615 mw_616 mw_5 mw_617) rfl rfl rfl hd_X9_isDirty ⟨Nat.le_of_ble_eq_true rfl, Nat.le_of_ble_eq_true rfl⟩) hK hP rfl (at_Model hC hP) rfl hl.1 rfl (Nat.le_of_ble_eq_true rfl) dX9_stale_29 ⟨Nat.zero_le _, Nat.zero_le _⟩ hL (fun H locs hP hL => ?_)
      replace hP : P μ H := by first | exact hP | (simpa only [va_up_id] using hP)
      refine lv_if_eq (tgt := 56) hx hb dX9_stale_32 (by decide) (fun c4 => ?_) (fun c4 => ?_)
      · have hf := cx_t hf c4
        refine lv_iconst (v := 0) hx hb dX9_stale_56 (by decide) ?_
        refine lv_iadd hx hb dX9_stale_57 ?_
        refine lv_istore_n (lv' := [(2, .int (x2 + 0)), (0, .ref (ad 0)), (1, .int x1), (3, .int x3)]) hx hb dX9_stale_58 rfl hl (by decide) rfl (fun ls hl => ?_)
        refine lv_iinc (v := (x3 + 1)) (lv' := [(3, .int (x3 + 1)), (2, .int (x2 + 0)), (0, .ref (ad 0)), (1, .int x1)]) hx hb dX9_stale_59 hl (k := 3) rfl rfl (by decide) rfl (fun ls hl => ?_)
        refine lv_goto (tgt := 19) hx hb dX9_stale_62 (by decide) ?_
        exact ih μ x1 (x2 + 0) (x3 + 1) _ _ _ hf hP hL (lv_sub hl [2, 3, 1, 0] rfl)
      · have hf := cx_f hf c4
        refine lv_aload_n hx hb dX9_stale_35 rfl (lv_at hl 0 rfl) ?_
        refine lv_iload_n hx hb dX9_stale_36 rfl (lv_at hl 3 rfl) ?_
        refine lv_iconst (v := 3) hx hb dX9_stale_37 (by decide) ?_
        obtain ⟨r5, q6, hf⟩ := cx_b hf
        refine cx_callV (As := [.int x3, .int 3]) (rest := [.int x2]) ⟨hx, hb, hml, hown, hts⟩ (c_X9_of hC q6) (cwV 2 hts (gV mw_618 mw_619 mw_620 mw_5 mw_621) rfl rfl rfl hd_X9_of ⟨Nat.le_of_ble_eq_true rfl, Nat.le_of_ble_eq_true rfl⟩) hK hP rfl (at_Model hC hP) rfl hl.1 rfl (Nat.le_of_ble_eq_true rfl) dX9_stale_38 ⟨Nat.zero_le _, Nat.zero_le _⟩ hL (fun H locs hP hL => ?_)
        replace hP : P μ H := by first | exact hP | (simpa only [va_up_id] using hP)
        refine lv_aload_n hx hb dX9_stale_41 rfl (lv_at hl 0 rfl) ?_
        refine g_Model_0 hC hP hx hb hts hown hK mw_114 dX9_stale_42 ?_
        refine lv_iconst (v := 5) hx hb dX9_stale_45 (by decide) ?_
        obtain ⟨hi7, hf⟩ := gdE hf
        refine ga_Model_0 hC hP hx hb hK hi7 dX9_stale_46 ?_
        refine lv_iload_n hx hb dX9_stale_47 rfl (lv_at hl 1 rfl) ?_
        refine lv_isub hx hb dX9_stale_48 ?_
        refine lv_icmp_gt (tgt := 56) hx hb dX9_stale_49 (by decide) (fun c8 => ?_) (fun c8 => ?_)
        · have hf := cx_t hf c8
          refine lv_iconst (v := 0) hx hb dX9_stale_56 (by decide) ?_
          refine lv_iadd hx hb dX9_stale_57 ?_
          refine lv_istore_n (lv' := [(2, .int (x2 + 0)), (0, .ref (ad 0)), (1, .int x1), (3, .int x3)]) hx hb dX9_stale_58 rfl hl (by decide) rfl (fun ls hl => ?_)
          refine lv_iinc (v := (x3 + 1)) (lv' := [(3, .int (x3 + 1)), (2, .int (x2 + 0)), (0, .ref (ad 0)), (1, .int x1)]) hx hb dX9_stale_59 hl (k := 3) rfl rfl (by decide) rfl (fun ls hl => ?_)
          refine lv_goto (tgt := 19) hx hb dX9_stale_62 (by decide) ?_
          exact ih μ x1 (x2 + 0) (x3 + 1) _ _ _ hf hP hL (lv_sub hl [2, 3, 1, 0] rfl)
        · have hf := cx_f hf c8
          refine lv_iconst (v := 1) hx hb dX9_stale_52 (by decide) ?_
          refine lv_goto (tgt := 57) hx hb dX9_stale_53 (by decide) ?_
          refine lv_iadd hx hb dX9_stale_57 ?_
          refine lv_istore_n (lv' := [(2, .int (x2 + 1)), (0, .ref (ad 0)), (1, .int x1), (3, .int x3)]) hx hb dX9_stale_58 rfl hl (by decide) rfl (fun ls hl => ?_)
          refine lv_iinc (v := (x3 + 1)) (lv' := [(3, .int (x3 + 1)), (2, .int (x2 + 1)), (0, .ref (ad 0)), (1, .int x1)]) hx hb dX9_stale_59 hl (k := 3) rfl rfl (by decide) rfl (fun ls hl => ?_)
          refine lv_goto (tgt := 19) hx hb dX9_stale_62 (by decide) ?_
          exact ih μ x1 (x2 + 1) (x3 + 1) _ _ _ hf hP hL (lv_sub hl [2, 3, 1, 0] rfl)
def f_X9_stale (N : Nat) (μ : MdlS) (p0 : Int32) : Option (Int32 × MdlS) := cx_let ((oI μ.1 6 0, μ.2)) fun z1 => if 0 ≤ p0 then f_X9_stale_b19 N N z1 p0 0 0 else (f_X9_fail z1 1).bind fun r3 => some (r3.1, r3.2)
set_option maxHeartbeats 4000000 in
set_option maxRecDepth 100000 in
theorem c_X9_stale {l : Launch} {G : va_G} {cA : Nat → ClassId} {lo : Nat} {ad : Nat → Nat} {P : MdlS → Heap → Prop} (hC : cx G lo 9 ad (ceModel cA ad) P) {N : Nat} {μ : MdlS} {p0 : Int32} {res : Int32 × MdlS} (hf : f_X9_stale N μ p0 = some res) : Met l yX9_stale (cW yX9_stale cX9_stale 4 (some .int)) rm_X9_stale (cP [.ref (ad 0), .int p0] (P μ) G cA) (cQ (some (.int res.1)) (P res.2)) 0 0 (fun q => lo ≤ q) := by
  refine cx_met (by decide) (Nat.le_of_ble_eq_true rfl) (fun p e s m args below meth c ls C0 hP hl => ?_)
  have hl : lv_has ls 4 [(0, .ref (ad 0)), (1, .int p0)] := hl
  obtain ⟨⟨hx, hb, hml, hown, hts⟩, hr, hlocks, hK⟩ := id C0
  have hL : ∀ q ∈ ([] : List Loc), lo ≤ q.base := fun q h => nomatch h
  unfold f_X9_stale at hf
  refine lv_aload_n hx hb dX9_stale_0 rfl (lv_at hl 0 rfl) ?_
  refine lv_iconst (v := 0) hx hb dX9_stale_1 (by decide) ?_
  obtain ⟨z1, ez1, hf⟩ := cx_letE hf
  refine p_Model_6 hC hP hx hb hts hown hK mw_149 dX9_stale_2 hL (fun H locs hP hL => ?_)
  replace hP : P z1 H := by rw [← ez1]; exact hP
  refine lv_iload_n hx hb dX9_stale_5 rfl (lv_at hl 1 rfl) ?_
  refine lv_if_ge (tgt := 15) hx hb dX9_stale_6 (by decide) (fun c2 => ?_) (fun c2 => ?_)
  · have hf := cx_t hf c2
    refine lv_iconst (v := 0) hx hb dX9_stale_15 (by decide) ?_
    refine lv_istore_n (lv' := [(2, .int 0), (0, .ref (ad 0)), (1, .int p0)]) hx hb dX9_stale_16 rfl hl (by decide) rfl (fun ls hl => ?_)
    refine lv_iconst (v := 0) hx hb dX9_stale_17 (by decide) ?_
    refine lv_istore_n (lv' := [(3, .int 0), (2, .int 0), (0, .ref (ad 0)), (1, .int p0)]) hx hb dX9_stale_18 rfl hl (by decide) rfl (fun ls hl => ?_)
    exact w_X9_stale_b19 C0 hC N z1 p0 0 0 _ _ _ hf hP hL (lv_sub hl [2, 3, 1, 0] rfl)
  · have hf := cx_f hf c2
    refine lv_aload_n hx hb dX9_stale_9 rfl (lv_at hl 0 rfl) ?_
    refine lv_iconst (v := 1) hx hb dX9_stale_10 (by decide) ?_
    obtain ⟨r3, q4, hf⟩ := cx_b hf
    refine cx_callV (As := [.int 1]) (rest := []) ⟨hx, hb, hml, hown, hts⟩ (c_X9_fail hC q4) (cwV 1 hts (gV mw_151 mw_152 mw_153 mw_5 mw_154) rfl rfl rfl hd_X9_fail ⟨Nat.le_of_ble_eq_true rfl, Nat.le_of_ble_eq_true rfl⟩) hK hP rfl (at_Model hC hP) rfl hl.1 rfl (Nat.le_of_ble_eq_true rfl) dX9_stale_11 ⟨Nat.zero_le _, Nat.zero_le _⟩ hL (fun H locs hP hL => ?_)
    replace hP : P r3.2 H := by first | exact hP | (simpa only [va_up_id] using hP)
    cases hf
    exact cx_iret hx hb hr hlocks hP hL dX9_stale_14
abbrev rm_X9_answerAbout : Room := { frames := 1, cells := 0, slots := 0, locals := 22 }
theorem hd_X9_answerAbout : yX9_answerAbout.cls = RX9 ∧ yX9_answerAbout.cls ≠ "java/lang/invoke/MethodHandle" ∧ yX9_answerAbout.cls ≠ "java/lang/invoke/VarHandle" ∧ (parseMethodDescriptor yX9_answerAbout.desc).map (fun d => d.parameters.length) = some 2 := by decide +kernel
def f_X9_answerAbout (μ : MdlS) (p0 : Int32) (p1 : Int32) : Option (Int32) := if p1 = 1 then gd 22 1384 (some (μ.1.1 0 (Int32.toNatClampNeg 22))) else if p1 = 2 then (f_X9_of μ p0 0).bind fun r4 => some r4 else if p1 = 3 then some (μ.1.2 19) else if p1 = 4 then some (μ.1.2 20) else if p1 = 5 then gd 21 1384 (some (μ.1.1 0 (Int32.toNatClampNeg 21))) else gd 4 1384 (some (μ.1.1 0 (Int32.toNatClampNeg 4)))
set_option maxHeartbeats 4000000 in
set_option maxRecDepth 100000 in
theorem c_X9_answerAbout {l : Launch} {G : va_G} {cA : Nat → ClassId} {lo : Nat} {ad : Nat → Nat} {P : MdlS → Heap → Prop} (hC : cx G lo 9 ad (ceModel cA ad) P) {μ : MdlS} {p0 : Int32} {p1 : Int32} {res : Int32} (hf : f_X9_answerAbout μ p0 p1 = some res) : Met l yX9_answerAbout (cW yX9_answerAbout cX9_answerAbout 3 (some .int)) rm_X9_answerAbout (cP [.ref (ad 0), .int p0, .int p1] (P μ) G cA) (cQ (some (.int res)) (P μ)) 0 0 (fun q => lo ≤ q) := by
  refine cx_met (by decide) (Nat.le_of_ble_eq_true rfl) (fun p e s m args below meth c ls C0 hP hl => ?_)
  have hl : lv_has ls 3 [(0, .ref (ad 0)), (1, .int p0), (2, .int p1)] := hl
  obtain ⟨⟨hx, hb, hml, hown, hts⟩, hr, hlocks, hK⟩ := id C0
  have hL : ∀ q ∈ ([] : List Loc), lo ≤ q.base := fun q h => nomatch h
  unfold f_X9_answerAbout at hf
  refine lv_iload_n hx hb dX9_answerAbout_0 rfl (lv_at hl 2 rfl) ?_
  by_cases c1 : p1 = 1
  · have hf := cx_t hf c1
    refine lv_tableIn (off := 35) (tgt := 36) hx hb dX9_answerAbout_1 (by rw [c1]; decide) (by rw [c1]; decide) (by rw [c1]; rfl) (by decide) ?_
    refine lv_aload_n hx hb dX9_answerAbout_36 rfl (lv_at hl 0 rfl) ?_
    refine g_Model_0 hC hP hx hb hts hown hK mw_114 dX9_answerAbout_37 ?_
    refine lv_bipush (v := 22) hx hb dX9_answerAbout_40 (by decide) ?_
    obtain ⟨hi2, hf⟩ := gdE hf
    refine ga_Model_0 hC hP hx hb hK hi2 dX9_answerAbout_42 ?_
    cases hf
    exact cx_iret hx hb hr hlocks hP hL dX9_answerAbout_43
  · have hf := cx_f hf c1
    by_cases c3 : p1 = 2
    · have hf := cx_t hf c3
      refine lv_tableIn (off := 43) (tgt := 44) hx hb dX9_answerAbout_1 (by rw [c3]; decide) (by rw [c3]; decide) (by rw [c3]; rfl) (by decide) ?_
      refine lv_aload_n hx hb dX9_answerAbout_44 rfl (lv_at hl 0 rfl) ?_
      refine lv_iload_n hx hb dX9_answerAbout_45 rfl (lv_at hl 1 rfl) ?_
      refine lv_iconst (v := 0) hx hb dX9_answerAbout_46 (by decide) ?_
      obtain ⟨r4, q5, hf⟩ := cx_b hf
      refine cx_callV (As := [.int p0, .int 0]) (rest := []) ⟨hx, hb, hml, hown, hts⟩ (c_X9_of hC q5) (cwV 2 hts (gV mw_618 mw_619 mw_620 mw_5 mw_621) rfl rfl rfl hd_X9_of ⟨Nat.le_of_ble_eq_true rfl, Nat.le_of_ble_eq_true rfl⟩) hK hP rfl (at_Model hC hP) rfl hl.1 rfl (Nat.le_of_ble_eq_true rfl) dX9_answerAbout_47 ⟨Nat.zero_le _, Nat.zero_le _⟩ hL (fun H locs hP hL => ?_)
      replace hP : P μ H := by first | exact hP | (simpa only [va_up_id] using hP)
      cases hf
      exact cx_iret hx hb hr hlocks hP hL dX9_answerAbout_50
    · have hf := cx_f hf c3
      by_cases c6 : p1 = 3
      · have hf := cx_t hf c6
        refine lv_tableIn (off := 50) (tgt := 51) hx hb dX9_answerAbout_1 (by rw [c6]; decide) (by rw [c6]; decide) (by rw [c6]; rfl) (by decide) ?_
        refine lv_aload_n hx hb dX9_answerAbout_51 rfl (lv_at hl 0 rfl) ?_
        refine g_Model_19 hC hP hx hb hts hown hK mw_705 dX9_answerAbout_52 ?_
        cases hf
        exact cx_iret hx hb hr hlocks hP hL dX9_answerAbout_55
      · have hf := cx_f hf c6
        by_cases c7 : p1 = 4
        · have hf := cx_t hf c7
          refine lv_tableIn (off := 55) (tgt := 56) hx hb dX9_answerAbout_1 (by rw [c7]; decide) (by rw [c7]; decide) (by rw [c7]; rfl) (by decide) ?_
          refine lv_aload_n hx hb dX9_answerAbout_56 rfl (lv_at hl 0 rfl) ?_
          refine g_Model_20 hC hP hx hb hts hown hK mw_679 dX9_answerAbout_57 ?_
          cases hf
          exact cx_iret hx hb hr hlocks hP hL dX9_answerAbout_60
        · have hf := cx_f hf c7
          by_cases c8 : p1 = 5
          · have hf := cx_t hf c8
            refine lv_tableIn (off := 60) (tgt := 61) hx hb dX9_answerAbout_1 (by rw [c8]; decide) (by rw [c8]; decide) (by rw [c8]; rfl) (by decide) ?_
            refine lv_aload_n hx hb dX9_answerAbout_61 rfl (lv_at hl 0 rfl) ?_
            refine g_Model_0 hC hP hx hb hts hown hK mw_114 dX9_answerAbout_62 ?_
            refine lv_bipush (v := 21) hx hb dX9_answerAbout_65 (by decide) ?_
            obtain ⟨hi9, hf⟩ := gdE hf
            refine ga_Model_0 hC hP hx hb hK hi9 dX9_answerAbout_67 ?_
            cases hf
            exact cx_iret hx hb hr hlocks hP hL dX9_answerAbout_68
          · have hf := cx_f hf c8
            refine lv_tableOut (tgt := 69) hx hb dX9_answerAbout_1 (by have := lv_neT (a := 1) c1 (by decide); have := lv_neT (a := 2) c3 (by decide); have := lv_neT (a := 3) c6 (by decide); have := lv_neT (a := 4) c7 (by decide); have := lv_neT (a := 5) c8 (by decide); omega) (by decide) ?_
            refine lv_aload_n hx hb dX9_answerAbout_69 rfl (lv_at hl 0 rfl) ?_
            refine g_Model_0 hC hP hx hb hts hown hK mw_114 dX9_answerAbout_70 ?_
            refine lv_iconst (v := 4) hx hb dX9_answerAbout_73 (by decide) ?_
            obtain ⟨hi10, hf⟩ := gdE hf
            refine ga_Model_0 hC hP hx hb hK hi10 dX9_answerAbout_74 ?_
            cases hf
            exact cx_iret hx hb hr hlocks hP hL dX9_answerAbout_75
abbrev rm_X9_wouldBe : Room := { frames := 8, cells := 0, slots := 0, locals := 185 }
theorem hd_X9_wouldBe : yX9_wouldBe.cls = RX9 ∧ yX9_wouldBe.cls ≠ "java/lang/invoke/MethodHandle" ∧ yX9_wouldBe.cls ≠ "java/lang/invoke/VarHandle" ∧ (parseMethodDescriptor yX9_wouldBe.desc).map (fun d => d.parameters.length) = some 3 := by decide +kernel
def f_X9_wouldBe (N : Nat) (μ : MdlS) (p0 : Int32) (p1 : Int32) (p2 : Int32) : Option (Int32 × MdlS) := cx_let ((oI μ.1 6 0, μ.2)) fun z1 => (f_X9_isClient z1 p0).bind fun r2 => if r2 = 0 then (f_X9_fail z1 1).bind fun r34 => some (r34.1, r34.2) else (f_X9_isBlock p1).bind fun r5 => if r5 = 0 then (f_X9_fail z1 2).bind fun r8 => some (r8.1, r8.2) else (f_X9_isBetween p2 0 6).bind fun r10 => if r10 = 0 then (f_X9_fail z1 2).bind fun r32 => some (r32.1, r32.2) else (f_X9_of z1 p1 0).bind fun r13 => (f_X9_copyM_0_1 N z1 0 0).bind fun r15 => cx_let ((oI r15.1 19 (-1), r15.2)) fun z17 => cx_let ((oI z17.1 20 (-1), z17.2)) fun z18 => (f_X9_access N z18 p0 p1 (-1)).bind fun r19 => (f_X9_answerAbout r19 p1 p2).bind fun r21 => (f_X9_copyM_1_0 N r19 0 0).bind fun r23 => if p2 = 0 then if r13 = (-1) then some (2, r23) else if r13 = 2 then some (1, r23) else some (0, r23) else if p2 = 1 then gd 22 1384 (some ((r21 - (r23.1.1 0 (Int32.toNatClampNeg 22))), r23)) else if p2 = 5 then gd 21 1384 (some ((r21 - (r23.1.1 0 (Int32.toNatClampNeg 21))), r23)) else some (r21, r23)
set_option maxHeartbeats 4000000 in
set_option maxRecDepth 100000 in
theorem c_X9_wouldBe {l : Launch} {G : va_G} {cA : Nat → ClassId} {lo : Nat} {ad : Nat → Nat} {P : MdlS → Heap → Prop} (hC : cx G lo 9 ad (ceModel cA ad) P) {N : Nat} {μ : MdlS} {p0 : Int32} {p1 : Int32} {p2 : Int32} {res : Int32 × MdlS} (hf : f_X9_wouldBe N μ p0 p1 p2 = some res) : Met l yX9_wouldBe (cW yX9_wouldBe cX9_wouldBe 6 (some .int)) rm_X9_wouldBe (cP [.ref (ad 0), .int p0, .int p1, .int p2] (P μ) G cA) (cQ (some (.int res.1)) (P res.2)) 0 0 (fun q => lo ≤ q) := by
  refine cx_met (by decide) (Nat.le_of_ble_eq_true rfl) (fun p e s m args below meth c ls C0 hP hl => ?_)
  have hl : lv_has ls 6 [(0, .ref (ad 0)), (1, .int p0), (2, .int p1), (3, .int p2)] := hl
  obtain ⟨⟨hx, hb, hml, hown, hts⟩, hr, hlocks, hK⟩ := id C0
  have hL : ∀ q ∈ ([] : List Loc), lo ≤ q.base := fun q h => nomatch h
  unfold f_X9_wouldBe at hf
  refine lv_aload_n hx hb dX9_wouldBe_0 rfl (lv_at hl 0 rfl) ?_
  refine lv_iconst (v := 0) hx hb dX9_wouldBe_1 (by decide) ?_
  obtain ⟨z1, ez1, hf⟩ := cx_letE hf
  refine p_Model_6 hC hP hx hb hts hown hK mw_149 dX9_wouldBe_2 hL (fun H locs hP hL => ?_)
  replace hP : P z1 H := by rw [← ez1]; exact hP
  refine lv_aload_n hx hb dX9_wouldBe_5 rfl (lv_at hl 0 rfl) ?_
  refine lv_iload_n hx hb dX9_wouldBe_6 rfl (lv_at hl 1 rfl) ?_
  obtain ⟨r2, q3, hf⟩ := cx_b hf
  refine cx_callV (As := [.int p0]) (rest := []) ⟨hx, hb, hml, hown, hts⟩ (c_X9_isClient hC q3) (cwV 1 hts (gV mw_598 mw_599 mw_600 mw_5 mw_601) rfl rfl rfl hd_X9_isClient ⟨Nat.le_of_ble_eq_true rfl, Nat.le_of_ble_eq_true rfl⟩) hK hP rfl (at_Model hC hP) rfl hl.1 rfl (Nat.le_of_ble_eq_true rfl) dX9_wouldBe_7 ⟨Nat.zero_le _, Nat.zero_le _⟩ hL (fun H locs hP hL => ?_)
  replace hP : P z1 H := by first | exact hP | (simpa only [va_up_id] using hP)
  refine lv_if_ne (tgt := 19) hx hb dX9_wouldBe_10 (by decide) (fun c4 => ?_) (fun c4 => ?_)
  · have hf := cx_f hf c4
    refine lv_iload_n hx hb dX9_wouldBe_19 rfl (lv_at hl 2 rfl) ?_
    obtain ⟨r5, q6, hf⟩ := cx_b hf
    refine cx_callS (As := [.int p1]) (rest := []) ⟨hx, hb, hml, hown, hts⟩ (c_X9_isBlock (PH := P z1) q6) (cwS 1 hts (gS mw_918 mw_919 mw_5 mw_920) rfl rfl rfl hd_X9_isBlock ⟨Nat.le_of_ble_eq_true rfl, Nat.le_of_ble_eq_true rfl⟩) hK hP rfl hl.1 rfl (Nat.le_of_ble_eq_true rfl) dX9_wouldBe_20 ⟨Nat.zero_le _, Nat.zero_le _⟩ hL (fun H locs hP hL => ?_)
    refine lv_if_eq (tgt := 36) hx hb dX9_wouldBe_23 (by decide) (fun c7 => ?_) (fun c7 => ?_)
    · have hf := cx_t hf c7
      refine lv_aload_n hx hb dX9_wouldBe_36 rfl (lv_at hl 0 rfl) ?_
      refine lv_iconst (v := 2) hx hb dX9_wouldBe_37 (by decide) ?_
      obtain ⟨r8, q9, hf⟩ := cx_b hf
      refine cx_callV (As := [.int 2]) (rest := []) ⟨hx, hb, hml, hown, hts⟩ (c_X9_fail hC q9) (cwV 1 hts (gV mw_151 mw_152 mw_153 mw_5 mw_154) rfl rfl rfl hd_X9_fail ⟨Nat.le_of_ble_eq_true rfl, Nat.le_of_ble_eq_true rfl⟩) hK hP rfl (at_Model hC hP) rfl hl.1 rfl (Nat.le_of_ble_eq_true rfl) dX9_wouldBe_38 ⟨Nat.zero_le _, Nat.zero_le _⟩ hL (fun H locs hP hL => ?_)
      replace hP : P r8.2 H := by first | exact hP | (simpa only [va_up_id] using hP)
      cases hf
      exact cx_iret hx hb hr hlocks hP hL dX9_wouldBe_41
    · have hf := cx_f hf c7
      refine lv_iload_n hx hb dX9_wouldBe_26 rfl (lv_at hl 3 rfl) ?_
      refine lv_iconst (v := 0) hx hb dX9_wouldBe_27 (by decide) ?_
      refine lv_bipush (v := 6) hx hb dX9_wouldBe_28 (by decide) ?_
      obtain ⟨r10, q11, hf⟩ := cx_b hf
      refine cx_callS (As := [.int p2, .int 0, .int 6]) (rest := []) ⟨hx, hb, hml, hown, hts⟩ (c_X9_isBetween (PH := P z1) q11) (cwS 3 hts (gS mw_176 mw_177 mw_5 mw_178) rfl rfl rfl hd_X9_isBetween ⟨Nat.le_of_ble_eq_true rfl, Nat.le_of_ble_eq_true rfl⟩) hK hP rfl hl.1 rfl (Nat.le_of_ble_eq_true rfl) dX9_wouldBe_30 ⟨Nat.zero_le _, Nat.zero_le _⟩ hL (fun H locs hP hL => ?_)
      refine lv_if_ne (tgt := 42) hx hb dX9_wouldBe_33 (by decide) (fun c12 => ?_) (fun c12 => ?_)
      · have hf := cx_f hf c12
        refine lv_aload_n hx hb dX9_wouldBe_42 rfl (lv_at hl 0 rfl) ?_
        refine lv_iload_n hx hb dX9_wouldBe_43 rfl (lv_at hl 2 rfl) ?_
        refine lv_iconst (v := 0) hx hb dX9_wouldBe_44 (by decide) ?_
        obtain ⟨r13, q14, hf⟩ := cx_b hf
        refine cx_callV (As := [.int p1, .int 0]) (rest := []) ⟨hx, hb, hml, hown, hts⟩ (c_X9_of hC q14) (cwV 2 hts (gV mw_618 mw_619 mw_620 mw_5 mw_621) rfl rfl rfl hd_X9_of ⟨Nat.le_of_ble_eq_true rfl, Nat.le_of_ble_eq_true rfl⟩) hK hP rfl (at_Model hC hP) rfl hl.1 rfl (Nat.le_of_ble_eq_true rfl) dX9_wouldBe_45 ⟨Nat.zero_le _, Nat.zero_le _⟩ hL (fun H locs hP hL => ?_)
        replace hP : P z1 H := by first | exact hP | (simpa only [va_up_id] using hP)
        refine lv_istore (lv' := [(4, .int r13), (0, .ref (ad 0)), (1, .int p0), (2, .int p1), (3, .int p2)]) hx hb dX9_wouldBe_48 hl (by decide) rfl (fun ls hl => ?_)
        refine lv_aload_n hx hb dX9_wouldBe_50 rfl (lv_at hl 1 rfl) ?_
        refine g_Model_0 hC hP hx hb hts hown hK mw_114 dX9_wouldBe_51 ?_
        refine lv_iconst (v := 0) hx hb dX9_wouldBe_54 (by decide) ?_
        refine lv_aload_n hx hb dX9_wouldBe_55 rfl (lv_at hl 1 rfl) ?_
        refine g_Model_1 hC hP hx hb hts hown hK mw_115 dX9_wouldBe_56 ?_
        refine lv_iconst (v := 0) hx hb dX9_wouldBe_59 (by decide) ?_
        obtain ⟨r15, q16, hf⟩ := cx_b hf
        refine cx_callS (As := [.ref (ad 1), .int 0, .ref (ad 2), .int 0]) (rest := []) ⟨hx, hb, hml, hown, hts⟩ (c_X9_copyM_0_1 hC q16) (cwS 4 hts (gS mw_595 mw_596 mw_5 mw_597) rfl rfl rfl hd_X9_copy ⟨Nat.le_of_ble_eq_true rfl, Nat.le_of_ble_eq_true rfl⟩) hK hP rfl hl.1 rfl (Nat.le_of_ble_eq_true rfl) dX9_wouldBe_60 ⟨Nat.zero_le _, Nat.zero_le _⟩ hL (fun H locs hP hL => ?_)
        replace hP : P r15 H := by first | exact hP | (simpa only [va_up_id] using hP)
        refine lv_aload_n hx hb dX9_wouldBe_63 rfl (lv_at hl 1 rfl) ?_
        refine lv_iconst (v := (-1)) hx hb dX9_wouldBe_64 (by decide) ?_
        obtain ⟨z17, ez17, hf⟩ := cx_letE hf
        refine p_Model_19 hC hP hx hb hts hown hK mw_705 dX9_wouldBe_65 hL (fun H locs hP hL => ?_)
        replace hP : P z17 H := by rw [← ez17]; exact hP
        refine lv_aload_n hx hb dX9_wouldBe_68 rfl (lv_at hl 1 rfl) ?_
        refine lv_iconst (v := (-1)) hx hb dX9_wouldBe_69 (by decide) ?_
        obtain ⟨z18, ez18, hf⟩ := cx_letE hf
        refine p_Model_20 hC hP hx hb hts hown hK mw_679 dX9_wouldBe_70 hL (fun H locs hP hL => ?_)
        replace hP : P z18 H := by rw [← ez18]; exact hP
        refine lv_aload_n hx hb dX9_wouldBe_73 rfl (lv_at hl 1 rfl) ?_
        refine lv_iload_n hx hb dX9_wouldBe_74 rfl (lv_at hl 2 rfl) ?_
        refine lv_iload_n hx hb dX9_wouldBe_75 rfl (lv_at hl 3 rfl) ?_
        refine lv_iconst (v := (-1)) hx hb dX9_wouldBe_76 (by decide) ?_
        obtain ⟨r19, q20, hf⟩ := cx_b hf
        refine cx_callV (As := [.int p0, .int p1, .int (-1)]) (rest := []) ⟨hx, hb, hml, hown, hts⟩ (c_X9_access hC q20) (cwV 3 hts (gV mw_626 mw_627 mw_628 mw_5 mw_629) rfl rfl rfl hd_X9_access ⟨Nat.le_of_ble_eq_true rfl, Nat.le_of_ble_eq_true rfl⟩) hK hP rfl (at_Model hC hP) rfl hl.1 rfl (Nat.le_of_ble_eq_true rfl) dX9_wouldBe_77 ⟨Nat.zero_le _, Nat.zero_le _⟩ hL (fun H locs hP hL => ?_)
        replace hP : P r19 H := by first | exact hP | (simpa only [va_up_id] using hP)
        refine lv_aload_n hx hb dX9_wouldBe_80 rfl (lv_at hl 1 rfl) ?_
        refine lv_iload_n hx hb dX9_wouldBe_81 rfl (lv_at hl 3 rfl) ?_
        refine lv_iload_n hx hb dX9_wouldBe_82 rfl (lv_at hl 4 rfl) ?_
        obtain ⟨r21, q22, hf⟩ := cx_b hf
        refine cx_callV (As := [.int p1, .int p2]) (rest := []) ⟨hx, hb, hml, hown, hts⟩ (c_X9_answerAbout hC q22) (cwV 2 hts (gV mw_1222 mw_1223 mw_1224 mw_5 mw_1225) rfl rfl rfl hd_X9_answerAbout ⟨Nat.le_of_ble_eq_true rfl, Nat.le_of_ble_eq_true rfl⟩) hK hP rfl (at_Model hC hP) rfl hl.1 rfl (Nat.le_of_ble_eq_true rfl) dX9_wouldBe_83 ⟨Nat.zero_le _, Nat.zero_le _⟩ hL (fun H locs hP hL => ?_)
        replace hP : P r19 H := by first | exact hP | (simpa only [va_up_id] using hP)
        refine lv_istore (lv' := [(5, .int r21), (4, .int r13), (0, .ref (ad 0)), (1, .int p0), (2, .int p1), (3, .int p2)]) hx hb dX9_wouldBe_86 hl (by decide) rfl (fun ls hl => ?_)
        refine lv_aload_n hx hb dX9_wouldBe_88 rfl (lv_at hl 2 rfl) ?_
        refine g_Model_1 hC hP hx hb hts hown hK mw_115 dX9_wouldBe_89 ?_
        refine lv_iconst (v := 0) hx hb dX9_wouldBe_92 (by decide) ?_
        refine lv_aload_n hx hb dX9_wouldBe_93 rfl (lv_at hl 2 rfl) ?_
        refine g_Model_0 hC hP hx hb hts hown hK mw_114 dX9_wouldBe_94 ?_
        refine lv_iconst (v := 0) hx hb dX9_wouldBe_97 (by decide) ?_
        obtain ⟨r23, q24, hf⟩ := cx_b hf
        refine cx_callS (As := [.ref (ad 2), .int 0, .ref (ad 1), .int 0]) (rest := []) ⟨hx, hb, hml, hown, hts⟩ (c_X9_copyM_1_0 hC q24) (cwS 4 hts (gS mw_595 mw_596 mw_5 mw_597) rfl rfl rfl hd_X9_copy ⟨Nat.le_of_ble_eq_true rfl, Nat.le_of_ble_eq_true rfl⟩) hK hP rfl hl.1 rfl (Nat.le_of_ble_eq_true rfl) dX9_wouldBe_98 ⟨Nat.zero_le _, Nat.zero_le _⟩ hL (fun H locs hP hL => ?_)
        replace hP : P r23 H := by first | exact hP | (simpa only [va_up_id] using hP)
        refine lv_iload_n hx hb dX9_wouldBe_101 rfl (lv_at hl 5 rfl) ?_
        refine lv_if_ne (tgt := 127) hx hb dX9_wouldBe_102 (by decide) (fun c25 => ?_) (fun c25 => ?_)
        · have hf := cx_f hf c25
          refine lv_iload_n hx hb dX9_wouldBe_127 rfl (lv_at hl 5 rfl) ?_
          refine lv_iconst (v := 1) hx hb dX9_wouldBe_128 (by decide) ?_
          refine lv_icmp_ne (tgt := 145) hx hb dX9_wouldBe_129 (by decide) (fun c26 => ?_) (fun c26 => ?_)
          · have hf := cx_f hf c26
            refine lv_iload_n hx hb dX9_wouldBe_145 rfl (lv_at hl 5 rfl) ?_
            refine lv_iconst (v := 5) hx hb dX9_wouldBe_146 (by decide) ?_
            refine lv_icmp_ne (tgt := 163) hx hb dX9_wouldBe_147 (by decide) (fun c27 => ?_) (fun c27 => ?_)
            · have hf := cx_f hf c27
              refine lv_iload hx hb dX9_wouldBe_163 (lv_at hl 0 rfl) ?_
              cases hf
              exact cx_iret hx hb hr hlocks hP hL dX9_wouldBe_165
            · have hf := cx_t hf c27
              refine lv_iload hx hb dX9_wouldBe_150 (lv_at hl 0 rfl) ?_
              refine lv_aload_n hx hb dX9_wouldBe_152 rfl (lv_at hl 2 rfl) ?_
              refine g_Model_0 hC hP hx hb hts hown hK mw_114 dX9_wouldBe_153 ?_
              refine lv_bipush (v := 21) hx hb dX9_wouldBe_156 (by decide) ?_
              obtain ⟨hi28, hf⟩ := gdE hf
              refine ga_Model_0 hC hP hx hb hK hi28 dX9_wouldBe_158 ?_
              refine lv_isub hx hb dX9_wouldBe_159 ?_
              refine lv_goto (tgt := 165) hx hb dX9_wouldBe_160 (by decide) ?_
              cases hf
              exact cx_iret hx hb hr hlocks hP hL dX9_wouldBe_165
          · have hf := cx_t hf c26
            refine lv_iload hx hb dX9_wouldBe_132 (lv_at hl 0 rfl) ?_
            refine lv_aload_n hx hb dX9_wouldBe_134 rfl (lv_at hl 2 rfl) ?_
            refine g_Model_0 hC hP hx hb hts hown hK mw_114 dX9_wouldBe_135 ?_
            refine lv_bipush (v := 22) hx hb dX9_wouldBe_138 (by decide) ?_
            obtain ⟨hi29, hf⟩ := gdE hf
            refine ga_Model_0 hC hP hx hb hK hi29 dX9_wouldBe_140 ?_
            refine lv_isub hx hb dX9_wouldBe_141 ?_
            refine lv_goto (tgt := 165) hx hb dX9_wouldBe_142 (by decide) ?_
            cases hf
            exact cx_iret hx hb hr hlocks hP hL dX9_wouldBe_165
        · have hf := cx_t hf c25
          refine lv_iload hx hb dX9_wouldBe_105 (lv_at hl 1 rfl) ?_
          refine lv_iconst (v := (-1)) hx hb dX9_wouldBe_107 (by decide) ?_
          refine lv_icmp_ne (tgt := 115) hx hb dX9_wouldBe_108 (by decide) (fun c30 => ?_) (fun c30 => ?_)
          · have hf := cx_f hf c30
            refine lv_iload hx hb dX9_wouldBe_115 (lv_at hl 1 rfl) ?_
            refine lv_iconst (v := 2) hx hb dX9_wouldBe_117 (by decide) ?_
            refine lv_icmp_ne (tgt := 125) hx hb dX9_wouldBe_118 (by decide) (fun c31 => ?_) (fun c31 => ?_)
            · have hf := cx_f hf c31
              refine lv_iconst (v := 0) hx hb dX9_wouldBe_125 (by decide) ?_
              cases hf
              exact cx_iret hx hb hr hlocks hP hL dX9_wouldBe_126
            · have hf := cx_t hf c31
              refine lv_iconst (v := 1) hx hb dX9_wouldBe_121 (by decide) ?_
              refine lv_goto (tgt := 126) hx hb dX9_wouldBe_122 (by decide) ?_
              cases hf
              exact cx_iret hx hb hr hlocks hP hL dX9_wouldBe_126
          · have hf := cx_t hf c30
            refine lv_iconst (v := 2) hx hb dX9_wouldBe_111 (by decide) ?_
            refine lv_goto (tgt := 126) hx hb dX9_wouldBe_112 (by decide) ?_
            cases hf
            exact cx_iret hx hb hr hlocks hP hL dX9_wouldBe_126
      · have hf := cx_t hf c12
        refine lv_aload_n hx hb dX9_wouldBe_36 rfl (lv_at hl 0 rfl) ?_
        refine lv_iconst (v := 2) hx hb dX9_wouldBe_37 (by decide) ?_
        obtain ⟨r32, q33, hf⟩ := cx_b hf
        refine cx_callV (As := [.int 2]) (rest := []) ⟨hx, hb, hml, hown, hts⟩ (c_X9_fail hC q33) (cwV 1 hts (gV mw_151 mw_152 mw_153 mw_5 mw_154) rfl rfl rfl hd_X9_fail ⟨Nat.le_of_ble_eq_true rfl, Nat.le_of_ble_eq_true rfl⟩) hK hP rfl (at_Model hC hP) rfl hl.1 rfl (Nat.le_of_ble_eq_true rfl) dX9_wouldBe_38 ⟨Nat.zero_le _, Nat.zero_le _⟩ hL (fun H locs hP hL => ?_)
        replace hP : P r32.2 H := by first | exact hP | (simpa only [va_up_id] using hP)
        cases hf
        exact cx_iret hx hb hr hlocks hP hL dX9_wouldBe_41
  · have hf := cx_t hf c4
    refine lv_aload_n hx hb dX9_wouldBe_13 rfl (lv_at hl 0 rfl) ?_
    refine lv_iconst (v := 1) hx hb dX9_wouldBe_14 (by decide) ?_
    obtain ⟨r34, q35, hf⟩ := cx_b hf
    refine cx_callV (As := [.int 1]) (rest := []) ⟨hx, hb, hml, hown, hts⟩ (c_X9_fail hC q35) (cwV 1 hts (gV mw_151 mw_152 mw_153 mw_5 mw_154) rfl rfl rfl hd_X9_fail ⟨Nat.le_of_ble_eq_true rfl, Nat.le_of_ble_eq_true rfl⟩) hK hP rfl (at_Model hC hP) rfl hl.1 rfl (Nat.le_of_ble_eq_true rfl) dX9_wouldBe_15 ⟨Nat.zero_le _, Nat.zero_le _⟩ hL (fun H locs hP hL => ?_)
    replace hP : P r34.2 H := by first | exact hP | (simpa only [va_up_id] using hP)
    cases hf
    exact cx_iret hx hb hr hlocks hP hL dX9_wouldBe_18
abbrev rm_X9_isPlan : Room := { frames := 2, cells := 0, slots := 0, locals := 42 }
theorem hd_X9_isPlan : yX9_isPlan.cls = RX9 ∧ yX9_isPlan.cls ≠ "java/lang/invoke/MethodHandle" ∧ yX9_isPlan.cls ≠ "java/lang/invoke/VarHandle" ∧ (parseMethodDescriptor yX9_isPlan.desc).map (fun d => d.parameters.length) = some 3 := by decide +kernel
def f_X9_isPlan (p0 : Int32) (p1 : Int32) (p2 : Int32) : Option (Int32) := (f_X9_isBlock p0).bind fun r1 => if r1 = 0 then some 0 else (f_X9_isBetween p1 1 40).bind fun r4 => if r4 = 0 then some 0 else if 200 < (p0 + p1) then some 0 else (f_X9_isBetween p2 1 4).bind fun r8 => if r8 = 0 then some 0 else some 1
set_option maxHeartbeats 4000000 in
set_option maxRecDepth 100000 in
theorem c_X9_isPlan {l : Launch} {G : va_G} {cA : Nat → ClassId} {lo : Nat} {PH : Heap → Prop} {p0 : Int32} {p1 : Int32} {p2 : Int32} {res : Int32} (hf : f_X9_isPlan p0 p1 p2 = some res) : Met l yX9_isPlan (cW yX9_isPlan cX9_isPlan 3 (some .boolean)) rm_X9_isPlan (cP [.int p0, .int p1, .int p2] (PH) G cA) (cQ (some (.int res)) (PH)) 0 0 (fun q => lo ≤ q) := by
  refine cx_met (by decide) (Nat.le_of_ble_eq_true rfl) (fun p e s m args below meth c ls C0 hP hl => ?_)
  have hl : lv_has ls 3 [(0, .int p0), (1, .int p1), (2, .int p2)] := hl
  obtain ⟨⟨hx, hb, hml, hown, hts⟩, hr, hlocks, hK⟩ := id C0
  have hL : ∀ q ∈ ([] : List Loc), lo ≤ q.base := fun q h => nomatch h
  unfold f_X9_isPlan at hf
  refine lv_iload_n hx hb dX9_isPlan_0 rfl (lv_at hl 0 rfl) ?_
  obtain ⟨r1, q2, hf⟩ := cx_b hf
  refine cx_callS (As := [.int p0]) (rest := []) ⟨hx, hb, hml, hown, hts⟩ (c_X9_isBlock (PH := PH) q2) (cwS 1 hts (gS mw_918 mw_919 mw_5 mw_920) rfl rfl rfl hd_X9_isBlock ⟨Nat.le_of_ble_eq_true rfl, Nat.le_of_ble_eq_true rfl⟩) hK hP rfl hl.1 rfl (Nat.le_of_ble_eq_true rfl) dX9_isPlan_1 ⟨Nat.zero_le _, Nat.zero_le _⟩ hL (fun H locs hP hL => ?_)
  refine lv_if_eq (tgt := 39) hx hb dX9_isPlan_4 (by decide) (fun c3 => ?_) (fun c3 => ?_)
  · have hf := cx_t hf c3
    refine lv_iconst (v := 0) hx hb dX9_isPlan_39 (by decide) ?_
    cases hf
    exact cx_zret hx hb hr hlocks (Or.inl rfl) hP hL dX9_isPlan_40
  · have hf := cx_f hf c3
    refine lv_iload_n hx hb dX9_isPlan_7 rfl (lv_at hl 1 rfl) ?_
    refine lv_iconst (v := 1) hx hb dX9_isPlan_8 (by decide) ?_
    refine lv_bipush (v := 40) hx hb dX9_isPlan_9 (by decide) ?_
    obtain ⟨r4, q5, hf⟩ := cx_b hf
    refine cx_callS (As := [.int p1, .int 1, .int 40]) (rest := []) ⟨hx, hb, hml, hown, hts⟩ (c_X9_isBetween (PH := PH) q5) (cwS 3 hts (gS mw_176 mw_177 mw_5 mw_178) rfl rfl rfl hd_X9_isBetween ⟨Nat.le_of_ble_eq_true rfl, Nat.le_of_ble_eq_true rfl⟩) hK hP rfl hl.1 rfl (Nat.le_of_ble_eq_true rfl) dX9_isPlan_11 ⟨Nat.zero_le _, Nat.zero_le _⟩ hL (fun H locs hP hL => ?_)
    refine lv_if_eq (tgt := 39) hx hb dX9_isPlan_14 (by decide) (fun c6 => ?_) (fun c6 => ?_)
    · have hf := cx_t hf c6
      refine lv_iconst (v := 0) hx hb dX9_isPlan_39 (by decide) ?_
      cases hf
      exact cx_zret hx hb hr hlocks (Or.inl rfl) hP hL dX9_isPlan_40
    · have hf := cx_f hf c6
      refine lv_iload_n hx hb dX9_isPlan_17 rfl (lv_at hl 0 rfl) ?_
      refine lv_iload_n hx hb dX9_isPlan_18 rfl (lv_at hl 1 rfl) ?_
      refine lv_iadd hx hb dX9_isPlan_19 ?_
      refine lv_sipush (v := 200) hx hb dX9_isPlan_20 (by decide) ?_
      refine lv_icmp_gt (tgt := 39) hx hb dX9_isPlan_23 (by decide) (fun c7 => ?_) (fun c7 => ?_)
      · have hf := cx_t hf c7
        refine lv_iconst (v := 0) hx hb dX9_isPlan_39 (by decide) ?_
        cases hf
        exact cx_zret hx hb hr hlocks (Or.inl rfl) hP hL dX9_isPlan_40
      · have hf := cx_f hf c7
        refine lv_iload_n hx hb dX9_isPlan_26 rfl (lv_at hl 2 rfl) ?_
        refine lv_iconst (v := 1) hx hb dX9_isPlan_27 (by decide) ?_
        refine lv_iconst (v := 4) hx hb dX9_isPlan_28 (by decide) ?_
        obtain ⟨r8, q9, hf⟩ := cx_b hf
        refine cx_callS (As := [.int p2, .int 1, .int 4]) (rest := []) ⟨hx, hb, hml, hown, hts⟩ (c_X9_isBetween (PH := PH) q9) (cwS 3 hts (gS mw_176 mw_177 mw_5 mw_178) rfl rfl rfl hd_X9_isBetween ⟨Nat.le_of_ble_eq_true rfl, Nat.le_of_ble_eq_true rfl⟩) hK hP rfl hl.1 rfl (Nat.le_of_ble_eq_true rfl) dX9_isPlan_29 ⟨Nat.zero_le _, Nat.zero_le _⟩ hL (fun H locs hP hL => ?_)
        refine lv_if_eq (tgt := 39) hx hb dX9_isPlan_32 (by decide) (fun c10 => ?_) (fun c10 => ?_)
        · have hf := cx_t hf c10
          refine lv_iconst (v := 0) hx hb dX9_isPlan_39 (by decide) ?_
          cases hf
          exact cx_zret hx hb hr hlocks (Or.inl rfl) hP hL dX9_isPlan_40
        · have hf := cx_f hf c10
          refine lv_iconst (v := 1) hx hb dX9_isPlan_35 (by decide) ?_
          refine lv_goto (tgt := 40) hx hb dX9_isPlan_36 (by decide) ?_
          cases hf
          exact cx_zret hx hb hr hlocks (Or.inr rfl) hP hL dX9_isPlan_40
abbrev rm_X9_readAll : Room := { frames := 8, cells := 0, slots := 0, locals := 185 }
theorem hd_X9_readAll : yX9_readAll.cls = RX9 ∧ yX9_readAll.cls ≠ "java/lang/invoke/MethodHandle" ∧ yX9_readAll.cls ≠ "java/lang/invoke/VarHandle" ∧ (parseMethodDescriptor yX9_readAll.desc).map (fun d => d.parameters.length) = some 4 := by decide +kernel
def f_X9_readAll_b13 (N : Nat) (k3 : MdlS → Int32 → Int32 → Int32 → Int32 → Int32 → Option (MdlS)) : Nat → MdlS → Int32 → Int32 → Int32 → Int32 → Int32 → Int32 → Option (MdlS)
  | 0, _, _, _, _, _, _, _ => none
  | n + 1, μ, x1, x2, x3, x4, x5, x6 => if (x2 + x3) ≤ x6 then k3 μ x1 x2 x3 x4 (x5 + 1) else (f_X9_access N μ x1 x6 (-1)).bind fun r2 => f_X9_readAll_b13 N k3 n r2 x1 x2 x3 x4 x5 (x6 + 1)
set_option maxHeartbeats 4000000 in
set_option maxRecDepth 100000 in
theorem w_X9_readAll_b13 {p : Program} {l : Launch} {e : Env} {s : State} {m : MethodId} {args : Array Value} {below : List Frame} {meth : Method} {c : Code} {G : va_G} {cA : Nat → ClassId} (C0 : cB p s m args meth c RX9 cX9_readAll 7 none G cA) {lo : Nat} {ad : Nat → Nat} {P : MdlS → Heap → Prop} (hC : cx G lo 9 ad (ceModel cA ad) P) {N : Nat} {res : MdlS} {k3 : MdlS → Int32 → Int32 → Int32 → Int32 → Int32 → Option (MdlS)} (hk3 : ∀ (μ : MdlS) (x1 : Int32) (x2 : Int32) (x3 : Int32) (x4 : Int32) (x5 : Int32) (H : Heap) (locs : List Loc) (ls : Array Slot), k3 μ x1 x2 x3 x4 x5 = some res → P μ H → (∀ q ∈ locs, lo ≤ q.base) → lv_has ls 7 [(0, .ref (ad 0)), (1, .int x1), (2, .int x2), (3, .int x3), (4, .int x4), (5, .int x5)] → W p l e rm_X9_readAll s m args below meth c H locs 0 0 (MQ below (cQ none (P res)) args s 0 0 (fun q => lo ≤ q)) (F0 m 3 ls [])) : ∀ (n : Nat) (μ : MdlS) (x1 : Int32) (x2 : Int32) (x3 : Int32) (x4 : Int32) (x5 : Int32) (x6 : Int32) (H : Heap) (locs : List Loc) (ls : Array Slot), f_X9_readAll_b13 N k3 n μ x1 x2 x3 x4 x5 x6 = some res → P μ H → (∀ q ∈ locs, lo ≤ q.base) → lv_has ls 7 [(0, .ref (ad 0)), (1, .int x1), (2, .int x2), (3, .int x3), (4, .int x4), (5, .int x5), (6, .int x6)] → W p l e rm_X9_readAll s m args below meth c H locs 0 0 (MQ below (cQ none (P res)) args s 0 0 (fun q => lo ≤ q)) (F0 m 13 ls []) := by
  obtain ⟨⟨hx, hb, hml, hown, hts⟩, hr, hlocks, hK⟩ := id C0
  intro n
  induction n with
  | zero => intro μ x1 x2 x3 x4 x5 x6 H locs ls
            exact fun hf => nomatch hf
  | succ n ih =>
    intro μ x1 x2 x3 x4 x5 x6 H locs ls hf hP hL hl
    rw [f_X9_readAll_b13] at hf
    refine lv_iload hx hb dX9_readAll_13 (lv_at hl 6 rfl) ?_
    refine lv_iload_n hx hb dX9_readAll_15 rfl (lv_at hl 2 rfl) ?_
    refine lv_iload_n hx hb dX9_readAll_16 rfl (lv_at hl 3 rfl) ?_
    refine lv_iadd hx hb dX9_readAll_17 ?_
    refine lv_icmp_ge (tgt := 35) hx hb dX9_readAll_18 (by decide) (fun c1 => ?_) (fun c1 => ?_)
    · have hf := cx_t hf c1
      refine lv_iinc (v := (x5 + 1)) (lv' := [(5, .int (x5 + 1)), (0, .ref (ad 0)), (1, .int x1), (2, .int x2), (3, .int x3), (4, .int x4), (6, .int x6)]) hx hb dX9_readAll_35 hl (k := 5) rfl rfl (by decide) rfl (fun ls hl => ?_)
      refine lv_goto (tgt := 3) hx hb dX9_readAll_38 (by decide) ?_
      exact hk3 μ x1 x2 x3 x4 (x5 + 1) _ _ _ hf hP hL (lv_sub hl [1, 2, 3, 4, 5, 0] rfl)
    · have hf := cx_f hf c1
      refine lv_aload_n hx hb dX9_readAll_21 rfl (lv_at hl 0 rfl) ?_
      refine lv_iload_n hx hb dX9_readAll_22 rfl (lv_at hl 1 rfl) ?_
      refine lv_iload hx hb dX9_readAll_23 (lv_at hl 6 rfl) ?_
      refine lv_iconst (v := (-1)) hx hb dX9_readAll_25 (by decide) ?_
      obtain ⟨r2, q3, hf⟩ := cx_b hf
      refine cx_callV (As := [.int x1, .int x6, .int (-1)]) (rest := []) ⟨hx, hb, hml, hown, hts⟩ (c_X9_access hC q3) (cwV 3 hts (gV mw_626 mw_627 mw_628 mw_5 mw_629) rfl rfl rfl hd_X9_access ⟨Nat.le_of_ble_eq_true rfl, Nat.le_of_ble_eq_true rfl⟩) hK hP rfl (at_Model hC hP) rfl hl.1 rfl (Nat.le_of_ble_eq_true rfl) dX9_readAll_26 ⟨Nat.zero_le _, Nat.zero_le _⟩ hL (fun H locs hP hL => ?_)
      replace hP : P r2 H := by first | exact hP | (simpa only [va_up_id] using hP)
      refine lv_iinc (v := (x6 + 1)) (lv' := [(6, .int (x6 + 1)), (0, .ref (ad 0)), (1, .int x1), (2, .int x2), (3, .int x3), (4, .int x4), (5, .int x5)]) hx hb dX9_readAll_29 hl (k := 6) rfl rfl (by decide) rfl (fun ls hl => ?_)
      refine lv_goto (tgt := 13) hx hb dX9_readAll_32 (by decide) ?_
      exact ih r2 x1 x2 x3 x4 x5 (x6 + 1) _ _ _ hf hP hL (lv_sub hl [1, 2, 3, 4, 5, 6, 0] rfl)
def f_X9_readAll_b3 (N : Nat) : Nat → MdlS → Int32 → Int32 → Int32 → Int32 → Int32 → Option (MdlS)
  | 0, _, _, _, _, _, _ => none
  | n + 1, μ, x1, x2, x3, x4, x5 => if x4 ≤ x5 then some μ else f_X9_readAll_b13 N (f_X9_readAll_b3 N n) N μ x1 x2 x3 x4 x5 x2
set_option maxHeartbeats 4000000 in
set_option maxRecDepth 100000 in
theorem w_X9_readAll_b3 {p : Program} {l : Launch} {e : Env} {s : State} {m : MethodId} {args : Array Value} {below : List Frame} {meth : Method} {c : Code} {G : va_G} {cA : Nat → ClassId} (C0 : cB p s m args meth c RX9 cX9_readAll 7 none G cA) {lo : Nat} {ad : Nat → Nat} {P : MdlS → Heap → Prop} (hC : cx G lo 9 ad (ceModel cA ad) P) {N : Nat} {res : MdlS} : ∀ (n : Nat) (μ : MdlS) (x1 : Int32) (x2 : Int32) (x3 : Int32) (x4 : Int32) (x5 : Int32) (H : Heap) (locs : List Loc) (ls : Array Slot), f_X9_readAll_b3 N n μ x1 x2 x3 x4 x5 = some res → P μ H → (∀ q ∈ locs, lo ≤ q.base) → lv_has ls 7 [(0, .ref (ad 0)), (1, .int x1), (2, .int x2), (3, .int x3), (4, .int x4), (5, .int x5)] → W p l e rm_X9_readAll s m args below meth c H locs 0 0 (MQ below (cQ none (P res)) args s 0 0 (fun q => lo ≤ q)) (F0 m 3 ls []) := by
  obtain ⟨⟨hx, hb, hml, hown, hts⟩, hr, hlocks, hK⟩ := id C0
  intro n
  induction n with
  | zero => intro μ x1 x2 x3 x4 x5 H locs ls
            exact fun hf => nomatch hf
  | succ n ih =>
    intro μ x1 x2 x3 x4 x5 H locs ls hf hP hL hl
    rw [f_X9_readAll_b3] at hf
    refine lv_iload hx hb dX9_readAll_3 (lv_at hl 5 rfl) ?_
    refine lv_iload hx hb dX9_readAll_5 (lv_at hl 4 rfl) ?_
    refine lv_icmp_ge (tgt := 41) hx hb dX9_readAll_7 (by decide) (fun c1 => ?_) (fun c1 => ?_)
    · have hf := cx_t hf c1
      cases hf
      exact cx_vret hx hb hr hlocks hP hL dX9_readAll_41
    · have hf := cx_f hf c1
      refine lv_iload_n hx hb dX9_readAll_10 rfl (lv_at hl 2 rfl) ?_
      refine lv_istore (lv' := [(6, .int x2), (0, .ref (ad 0)), (1, .int x1), (2, .int x2), (3, .int x3), (4, .int x4), (5, .int x5)]) hx hb dX9_readAll_11 hl (by decide) rfl (fun ls hl => ?_)
      exact w_X9_readAll_b13 C0 hC ih N μ x1 x2 x3 x4 x5 x2 _ _ _ hf hP hL (lv_sub hl [1, 2, 3, 4, 5, 6, 0] rfl)
def f_X9_readAll (N : Nat) (μ : MdlS) (p0 : Int32) (p1 : Int32) (p2 : Int32) (p3 : Int32) : Option (MdlS) := f_X9_readAll_b3 N N μ p0 p1 p2 p3 0
set_option maxHeartbeats 4000000 in
set_option maxRecDepth 100000 in
theorem c_X9_readAll {l : Launch} {G : va_G} {cA : Nat → ClassId} {lo : Nat} {ad : Nat → Nat} {P : MdlS → Heap → Prop} (hC : cx G lo 9 ad (ceModel cA ad) P) {N : Nat} {μ : MdlS} {p0 : Int32} {p1 : Int32} {p2 : Int32} {p3 : Int32} {res : MdlS} (hf : f_X9_readAll N μ p0 p1 p2 p3 = some res) : Met l yX9_readAll (cW yX9_readAll cX9_readAll 7 none) rm_X9_readAll (cP [.ref (ad 0), .int p0, .int p1, .int p2, .int p3] (P μ) G cA) (cQ none (P res)) 0 0 (fun q => lo ≤ q) := by
  refine cx_met (by decide) (Nat.le_of_ble_eq_true rfl) (fun p e s m args below meth c ls C0 hP hl => ?_)
  have hl : lv_has ls 7 [(0, .ref (ad 0)), (1, .int p0), (2, .int p1), (3, .int p2), (4, .int p3)] := hl
  obtain ⟨⟨hx, hb, hml, hown, hts⟩, hr, hlocks, hK⟩ := id C0
  have hL : ∀ q ∈ ([] : List Loc), lo ≤ q.base := fun q h => nomatch h
  unfold f_X9_readAll at hf
  refine lv_iconst (v := 0) hx hb dX9_readAll_0 (by decide) ?_
  refine lv_istore (lv' := [(5, .int 0), (0, .ref (ad 0)), (1, .int p0), (2, .int p1), (3, .int p2), (4, .int p3)]) hx hb dX9_readAll_1 hl (by decide) rfl (fun ls hl => ?_)
  exact w_X9_readAll_b3 C0 hC N μ p0 p1 p2 p3 0 _ _ _ hf hP hL (lv_sub hl [1, 2, 3, 4, 5, 0] rfl)
abbrev rm_X9_numberFor : Room := { frames := 0, cells := 0, slots := 0, locals := 0 }
theorem hd_X9_numberFor : yX9_numberFor.cls = RX9 ∧ yX9_numberFor.cls ≠ "java/lang/invoke/MethodHandle" ∧ yX9_numberFor.cls ≠ "java/lang/invoke/VarHandle" ∧ (parseMethodDescriptor yX9_numberFor.desc).map (fun d => d.parameters.length) = some 1 := by decide +kernel
def f_X9_numberFor (p0 : Int32) : Option (Int32) := if p0 = 0 then some (14 + p0) else if p0 = 1 then some (14 + p0) else if p0 = 2 then some (14 + p0) else if p0 = 3 then some 19 else if p0 = 4 then some 21 else if p0 = 5 then some 4 else some 22
set_option maxHeartbeats 4000000 in
set_option maxRecDepth 100000 in
theorem c_X9_numberFor {l : Launch} {G : va_G} {cA : Nat → ClassId} {lo : Nat} {PH : Heap → Prop} {p0 : Int32} {res : Int32} (hf : f_X9_numberFor p0 = some res) : Met l yX9_numberFor (cW yX9_numberFor cX9_numberFor 1 (some .int)) rm_X9_numberFor (cP [.int p0] (PH) G cA) (cQ (some (.int res)) (PH)) 0 0 (fun q => lo ≤ q) := by
  refine cx_met (by decide) (Nat.le_of_ble_eq_true rfl) (fun p e s m args below meth c ls C0 hP hl => ?_)
  have hl : lv_has ls 1 [(0, .int p0)] := hl
  obtain ⟨⟨hx, hb, hml, hown, hts⟩, hr, hlocks, hK⟩ := id C0
  have hL : ∀ q ∈ ([] : List Loc), lo ≤ q.base := fun q h => nomatch h
  unfold f_X9_numberFor at hf
  refine lv_iload_n hx hb dX9_numberFor_0 rfl (lv_at hl 0 rfl) ?_
  by_cases c1 : p0 = 0
  · have hf := cx_t hf c1
    refine lv_tableIn (off := 39) (tgt := 40) hx hb dX9_numberFor_1 (by rw [c1]; decide) (by rw [c1]; decide) (by rw [c1]; rfl) (by decide) ?_
    refine lv_bipush (v := 14) hx hb dX9_numberFor_40 (by decide) ?_
    refine lv_iload_n hx hb dX9_numberFor_42 rfl (lv_at hl 0 rfl) ?_
    refine lv_iadd hx hb dX9_numberFor_43 ?_
    cases hf
    exact cx_iret hx hb hr hlocks hP hL dX9_numberFor_44
  · have hf := cx_f hf c1
    by_cases c2 : p0 = 1
    · have hf := cx_t hf c2
      refine lv_tableIn (off := 39) (tgt := 40) hx hb dX9_numberFor_1 (by rw [c2]; decide) (by rw [c2]; decide) (by rw [c2]; rfl) (by decide) ?_
      refine lv_bipush (v := 14) hx hb dX9_numberFor_40 (by decide) ?_
      refine lv_iload_n hx hb dX9_numberFor_42 rfl (lv_at hl 0 rfl) ?_
      refine lv_iadd hx hb dX9_numberFor_43 ?_
      cases hf
      exact cx_iret hx hb hr hlocks hP hL dX9_numberFor_44
    · have hf := cx_f hf c2
      by_cases c3 : p0 = 2
      · have hf := cx_t hf c3
        refine lv_tableIn (off := 39) (tgt := 40) hx hb dX9_numberFor_1 (by rw [c3]; decide) (by rw [c3]; decide) (by rw [c3]; rfl) (by decide) ?_
        refine lv_bipush (v := 14) hx hb dX9_numberFor_40 (by decide) ?_
        refine lv_iload_n hx hb dX9_numberFor_42 rfl (lv_at hl 0 rfl) ?_
        refine lv_iadd hx hb dX9_numberFor_43 ?_
        cases hf
        exact cx_iret hx hb hr hlocks hP hL dX9_numberFor_44
      · have hf := cx_f hf c3
        by_cases c4 : p0 = 3
        · have hf := cx_t hf c4
          refine lv_tableIn (off := 44) (tgt := 45) hx hb dX9_numberFor_1 (by rw [c4]; decide) (by rw [c4]; decide) (by rw [c4]; rfl) (by decide) ?_
          refine lv_bipush (v := 19) hx hb dX9_numberFor_45 (by decide) ?_
          cases hf
          exact cx_iret hx hb hr hlocks hP hL dX9_numberFor_47
        · have hf := cx_f hf c4
          by_cases c5 : p0 = 4
          · have hf := cx_t hf c5
            refine lv_tableIn (off := 47) (tgt := 48) hx hb dX9_numberFor_1 (by rw [c5]; decide) (by rw [c5]; decide) (by rw [c5]; rfl) (by decide) ?_
            refine lv_bipush (v := 21) hx hb dX9_numberFor_48 (by decide) ?_
            cases hf
            exact cx_iret hx hb hr hlocks hP hL dX9_numberFor_50
          · have hf := cx_f hf c5
            by_cases c6 : p0 = 5
            · have hf := cx_t hf c6
              refine lv_tableIn (off := 50) (tgt := 51) hx hb dX9_numberFor_1 (by rw [c6]; decide) (by rw [c6]; decide) (by rw [c6]; rfl) (by decide) ?_
              refine lv_iconst (v := 4) hx hb dX9_numberFor_51 (by decide) ?_
              cases hf
              exact cx_iret hx hb hr hlocks hP hL dX9_numberFor_52
            · have hf := cx_f hf c6
              refine lv_tableOut (tgt := 53) hx hb dX9_numberFor_1 (by have := lv_neT (a := 0) c1 (by decide); have := lv_neT (a := 1) c2 (by decide); have := lv_neT (a := 2) c3 (by decide); have := lv_neT (a := 3) c4 (by decide); have := lv_neT (a := 4) c5 (by decide); have := lv_neT (a := 5) c6 (by decide); omega) (by decide) ?_
              refine lv_bipush (v := 22) hx hb dX9_numberFor_53 (by decide) ?_
              cases hf
              exact cx_iret hx hb hr hlocks hP hL dX9_numberFor_55
abbrev rm_X9_ahead : Room := { frames := 9, cells := 0, slots := 0, locals := 211 }
theorem hd_X9_ahead : yX9_ahead.cls = RX9 ∧ yX9_ahead.cls ≠ "java/lang/invoke/MethodHandle" ∧ yX9_ahead.cls ≠ "java/lang/invoke/VarHandle" ∧ (parseMethodDescriptor yX9_ahead.desc).map (fun d => d.parameters.length) = some 5 := by decide +kernel
def f_X9_ahead (N : Nat) (μ : MdlS) (p0 : Int32) (p1 : Int32) (p2 : Int32) (p3 : Int32) (p4 : Int32) : Option (Int32 × MdlS) := cx_let ((oI μ.1 6 0, μ.2)) fun z1 => (f_X9_isClient z1 p0).bind fun r2 => if r2 = 0 then (f_X9_fail z1 1).bind fun r28 => some (r28.1, r28.2) else (f_X9_isPlan p1 p2 p3).bind fun r5 => if r5 = 0 then (f_X9_fail z1 2).bind fun r8 => some (r8.1, r8.2) else (f_X9_isBetween p4 0 6).bind fun r10 => if r10 = 0 then (f_X9_fail z1 2).bind fun r26 => some (r26.1, r26.2) else (f_X9_copyM_0_1 N z1 0 0).bind fun r13 => (f_X9_readAll N r13 p0 p1 p2 p3).bind fun r15 => (f_X9_numberFor p4).bind fun r17 => gd r17 1384 ((f_X9_copyM_1_0 N r15 0 0).bind fun r20 => if p4 = 5 then some ((r15.1.1 0 (Int32.toNatClampNeg r17)), r20) else (f_X9_numberFor p4).bind fun r23 => gd r23 1384 (some (((r15.1.1 0 (Int32.toNatClampNeg r17)) - (r20.1.1 0 (Int32.toNatClampNeg r23))), r20)))
set_option maxHeartbeats 4000000 in
set_option maxRecDepth 100000 in
theorem c_X9_ahead {l : Launch} {G : va_G} {cA : Nat → ClassId} {lo : Nat} {ad : Nat → Nat} {P : MdlS → Heap → Prop} (hC : cx G lo 9 ad (ceModel cA ad) P) {N : Nat} {μ : MdlS} {p0 : Int32} {p1 : Int32} {p2 : Int32} {p3 : Int32} {p4 : Int32} {res : Int32 × MdlS} (hf : f_X9_ahead N μ p0 p1 p2 p3 p4 = some res) : Met l yX9_ahead (cW yX9_ahead cX9_ahead 7 (some .int)) rm_X9_ahead (cP [.ref (ad 0), .int p0, .int p1, .int p2, .int p3, .int p4] (P μ) G cA) (cQ (some (.int res.1)) (P res.2)) 0 0 (fun q => lo ≤ q) := by
  refine cx_met (by decide) (Nat.le_of_ble_eq_true rfl) (fun p e s m args below meth c ls C0 hP hl => ?_)
  have hl : lv_has ls 7 [(0, .ref (ad 0)), (1, .int p0), (2, .int p1), (3, .int p2), (4, .int p3), (5, .int p4)] := hl
  obtain ⟨⟨hx, hb, hml, hown, hts⟩, hr, hlocks, hK⟩ := id C0
  have hL : ∀ q ∈ ([] : List Loc), lo ≤ q.base := fun q h => nomatch h
  unfold f_X9_ahead at hf
  refine lv_aload_n hx hb dX9_ahead_0 rfl (lv_at hl 0 rfl) ?_
  refine lv_iconst (v := 0) hx hb dX9_ahead_1 (by decide) ?_
  obtain ⟨z1, ez1, hf⟩ := cx_letE hf
  refine p_Model_6 hC hP hx hb hts hown hK mw_149 dX9_ahead_2 hL (fun H locs hP hL => ?_)
  replace hP : P z1 H := by rw [← ez1]; exact hP
  refine lv_aload_n hx hb dX9_ahead_5 rfl (lv_at hl 0 rfl) ?_
  refine lv_iload_n hx hb dX9_ahead_6 rfl (lv_at hl 1 rfl) ?_
  obtain ⟨r2, q3, hf⟩ := cx_b hf
  refine cx_callV (As := [.int p0]) (rest := []) ⟨hx, hb, hml, hown, hts⟩ (c_X9_isClient hC q3) (cwV 1 hts (gV mw_598 mw_599 mw_600 mw_5 mw_601) rfl rfl rfl hd_X9_isClient ⟨Nat.le_of_ble_eq_true rfl, Nat.le_of_ble_eq_true rfl⟩) hK hP rfl (at_Model hC hP) rfl hl.1 rfl (Nat.le_of_ble_eq_true rfl) dX9_ahead_7 ⟨Nat.zero_le _, Nat.zero_le _⟩ hL (fun H locs hP hL => ?_)
  replace hP : P z1 H := by first | exact hP | (simpa only [va_up_id] using hP)
  refine lv_if_ne (tgt := 19) hx hb dX9_ahead_10 (by decide) (fun c4 => ?_) (fun c4 => ?_)
  · have hf := cx_f hf c4
    refine lv_iload_n hx hb dX9_ahead_19 rfl (lv_at hl 2 rfl) ?_
    refine lv_iload_n hx hb dX9_ahead_20 rfl (lv_at hl 3 rfl) ?_
    refine lv_iload hx hb dX9_ahead_21 (lv_at hl 4 rfl) ?_
    obtain ⟨r5, q6, hf⟩ := cx_b hf
    refine cx_callS (As := [.int p1, .int p2, .int p3]) (rest := []) ⟨hx, hb, hml, hown, hts⟩ (c_X9_isPlan (PH := P z1) q6) (cwS 3 hts (gS mw_1253 mw_1254 mw_5 mw_1255) rfl rfl rfl hd_X9_isPlan ⟨Nat.le_of_ble_eq_true rfl, Nat.le_of_ble_eq_true rfl⟩) hK hP rfl hl.1 rfl (Nat.le_of_ble_eq_true rfl) dX9_ahead_23 ⟨Nat.zero_le _, Nat.zero_le _⟩ hL (fun H locs hP hL => ?_)
    refine lv_if_eq (tgt := 40) hx hb dX9_ahead_26 (by decide) (fun c7 => ?_) (fun c7 => ?_)
    · have hf := cx_t hf c7
      refine lv_aload_n hx hb dX9_ahead_40 rfl (lv_at hl 0 rfl) ?_
      refine lv_iconst (v := 2) hx hb dX9_ahead_41 (by decide) ?_
      obtain ⟨r8, q9, hf⟩ := cx_b hf
      refine cx_callV (As := [.int 2]) (rest := []) ⟨hx, hb, hml, hown, hts⟩ (c_X9_fail hC q9) (cwV 1 hts (gV mw_151 mw_152 mw_153 mw_5 mw_154) rfl rfl rfl hd_X9_fail ⟨Nat.le_of_ble_eq_true rfl, Nat.le_of_ble_eq_true rfl⟩) hK hP rfl (at_Model hC hP) rfl hl.1 rfl (Nat.le_of_ble_eq_true rfl) dX9_ahead_42 ⟨Nat.zero_le _, Nat.zero_le _⟩ hL (fun H locs hP hL => ?_)
      replace hP : P r8.2 H := by first | exact hP | (simpa only [va_up_id] using hP)
      cases hf
      exact cx_iret hx hb hr hlocks hP hL dX9_ahead_45
    · have hf := cx_f hf c7
      refine lv_iload hx hb dX9_ahead_29 (lv_at hl 5 rfl) ?_
      refine lv_iconst (v := 0) hx hb dX9_ahead_31 (by decide) ?_
      refine lv_bipush (v := 6) hx hb dX9_ahead_32 (by decide) ?_
      obtain ⟨r10, q11, hf⟩ := cx_b hf
      refine cx_callS (As := [.int p4, .int 0, .int 6]) (rest := []) ⟨hx, hb, hml, hown, hts⟩ (c_X9_isBetween (PH := P z1) q11) (cwS 3 hts (gS mw_176 mw_177 mw_5 mw_178) rfl rfl rfl hd_X9_isBetween ⟨Nat.le_of_ble_eq_true rfl, Nat.le_of_ble_eq_true rfl⟩) hK hP rfl hl.1 rfl (Nat.le_of_ble_eq_true rfl) dX9_ahead_34 ⟨Nat.zero_le _, Nat.zero_le _⟩ hL (fun H locs hP hL => ?_)
      refine lv_if_ne (tgt := 46) hx hb dX9_ahead_37 (by decide) (fun c12 => ?_) (fun c12 => ?_)
      · have hf := cx_f hf c12
        refine lv_aload_n hx hb dX9_ahead_46 rfl (lv_at hl 0 rfl) ?_
        refine g_Model_0 hC hP hx hb hts hown hK mw_114 dX9_ahead_47 ?_
        refine lv_iconst (v := 0) hx hb dX9_ahead_50 (by decide) ?_
        refine lv_aload_n hx hb dX9_ahead_51 rfl (lv_at hl 0 rfl) ?_
        refine g_Model_1 hC hP hx hb hts hown hK mw_115 dX9_ahead_52 ?_
        refine lv_iconst (v := 0) hx hb dX9_ahead_55 (by decide) ?_
        obtain ⟨r13, q14, hf⟩ := cx_b hf
        refine cx_callS (As := [.ref (ad 1), .int 0, .ref (ad 2), .int 0]) (rest := []) ⟨hx, hb, hml, hown, hts⟩ (c_X9_copyM_0_1 hC q14) (cwS 4 hts (gS mw_595 mw_596 mw_5 mw_597) rfl rfl rfl hd_X9_copy ⟨Nat.le_of_ble_eq_true rfl, Nat.le_of_ble_eq_true rfl⟩) hK hP rfl hl.1 rfl (Nat.le_of_ble_eq_true rfl) dX9_ahead_56 ⟨Nat.zero_le _, Nat.zero_le _⟩ hL (fun H locs hP hL => ?_)
        replace hP : P r13 H := by first | exact hP | (simpa only [va_up_id] using hP)
        refine lv_aload_n hx hb dX9_ahead_59 rfl (lv_at hl 0 rfl) ?_
        refine lv_iload_n hx hb dX9_ahead_60 rfl (lv_at hl 1 rfl) ?_
        refine lv_iload_n hx hb dX9_ahead_61 rfl (lv_at hl 2 rfl) ?_
        refine lv_iload_n hx hb dX9_ahead_62 rfl (lv_at hl 3 rfl) ?_
        refine lv_iload hx hb dX9_ahead_63 (lv_at hl 4 rfl) ?_
        obtain ⟨r15, q16, hf⟩ := cx_b hf
        refine cx_callV (As := [.int p0, .int p1, .int p2, .int p3]) (rest := []) ⟨hx, hb, hml, hown, hts⟩ (c_X9_readAll hC q16) (cwV 4 hts (gV mw_1256 mw_1257 mw_1258 mw_5 mw_1259) rfl rfl rfl hd_X9_readAll ⟨Nat.le_of_ble_eq_true rfl, Nat.le_of_ble_eq_true rfl⟩) hK hP rfl (at_Model hC hP) rfl hl.1 rfl (Nat.le_of_ble_eq_true rfl) dX9_ahead_65 ⟨Nat.zero_le _, Nat.zero_le _⟩ hL (fun H locs hP hL => ?_)
        replace hP : P r15 H := by first | exact hP | (simpa only [va_up_id] using hP)
        refine lv_aload_n hx hb dX9_ahead_68 rfl (lv_at hl 0 rfl) ?_
        refine g_Model_0 hC hP hx hb hts hown hK mw_114 dX9_ahead_69 ?_
        refine lv_iload hx hb dX9_ahead_72 (lv_at hl 5 rfl) ?_
        obtain ⟨r17, q18, hf⟩ := cx_b hf
        refine cx_callS (As := [.int p4]) (rest := [.ref (ad 1)]) ⟨hx, hb, hml, hown, hts⟩ (c_X9_numberFor (PH := P r15) q18) (cwS 1 hts (gS mw_1260 mw_1261 mw_5 mw_1262) rfl rfl rfl hd_X9_numberFor ⟨Nat.le_of_ble_eq_true rfl, Nat.le_of_ble_eq_true rfl⟩) hK hP rfl hl.1 rfl (Nat.le_of_ble_eq_true rfl) dX9_ahead_74 ⟨Nat.zero_le _, Nat.zero_le _⟩ hL (fun H locs hP hL => ?_)
        obtain ⟨hi19, hf⟩ := gdE hf
        refine ga_Model_0 hC hP hx hb hK hi19 dX9_ahead_77 ?_
        refine lv_istore (lv' := [(6, .int (r15.1.1 0 (Int32.toNatClampNeg r17))), (0, .ref (ad 0)), (1, .int p0), (2, .int p1), (3, .int p2), (4, .int p3), (5, .int p4)]) hx hb dX9_ahead_78 hl (by decide) rfl (fun ls hl => ?_)
        refine lv_aload_n hx hb dX9_ahead_80 rfl (lv_at hl 1 rfl) ?_
        refine g_Model_1 hC hP hx hb hts hown hK mw_115 dX9_ahead_81 ?_
        refine lv_iconst (v := 0) hx hb dX9_ahead_84 (by decide) ?_
        refine lv_aload_n hx hb dX9_ahead_85 rfl (lv_at hl 1 rfl) ?_
        refine g_Model_0 hC hP hx hb hts hown hK mw_114 dX9_ahead_86 ?_
        refine lv_iconst (v := 0) hx hb dX9_ahead_89 (by decide) ?_
        obtain ⟨r20, q21, hf⟩ := cx_b hf
        refine cx_callS (As := [.ref (ad 2), .int 0, .ref (ad 1), .int 0]) (rest := []) ⟨hx, hb, hml, hown, hts⟩ (c_X9_copyM_1_0 hC q21) (cwS 4 hts (gS mw_595 mw_596 mw_5 mw_597) rfl rfl rfl hd_X9_copy ⟨Nat.le_of_ble_eq_true rfl, Nat.le_of_ble_eq_true rfl⟩) hK hP rfl hl.1 rfl (Nat.le_of_ble_eq_true rfl) dX9_ahead_90 ⟨Nat.zero_le _, Nat.zero_le _⟩ hL (fun H locs hP hL => ?_)
        replace hP : P r20 H := by first | exact hP | (simpa only [va_up_id] using hP)
        refine lv_iload hx hb dX9_ahead_93 (lv_at hl 6 rfl) ?_
        refine lv_iconst (v := 5) hx hb dX9_ahead_95 (by decide) ?_
        refine lv_icmp_ne (tgt := 104) hx hb dX9_ahead_96 (by decide) (fun c22 => ?_) (fun c22 => ?_)
        · have hf := cx_f hf c22
          refine lv_iload hx hb dX9_ahead_104 (lv_at hl 0 rfl) ?_
          refine lv_aload_n hx hb dX9_ahead_106 rfl (lv_at hl 1 rfl) ?_
          refine g_Model_0 hC hP hx hb hts hown hK mw_114 dX9_ahead_107 ?_
          refine lv_iload hx hb dX9_ahead_110 (lv_at hl 6 rfl) ?_
          obtain ⟨r23, q24, hf⟩ := cx_b hf
          refine cx_callS (As := [.int p4]) (rest := [.ref (ad 1), .int (r15.1.1 0 (Int32.toNatClampNeg r17))]) ⟨hx, hb, hml, hown, hts⟩ (c_X9_numberFor (PH := P r20) q24) (cwS 1 hts (gS mw_1260 mw_1261 mw_5 mw_1262) rfl rfl rfl hd_X9_numberFor ⟨Nat.le_of_ble_eq_true rfl, Nat.le_of_ble_eq_true rfl⟩) hK hP rfl hl.1 rfl (Nat.le_of_ble_eq_true rfl) dX9_ahead_112 ⟨Nat.zero_le _, Nat.zero_le _⟩ hL (fun H locs hP hL => ?_)
          obtain ⟨hi25, hf⟩ := gdE hf
          refine ga_Model_0 hC hP hx hb hK hi25 dX9_ahead_115 ?_
          refine lv_isub hx hb dX9_ahead_116 ?_
          cases hf
          exact cx_iret hx hb hr hlocks hP hL dX9_ahead_117
        · have hf := cx_t hf c22
          refine lv_iload hx hb dX9_ahead_99 (lv_at hl 0 rfl) ?_
          refine lv_goto (tgt := 117) hx hb dX9_ahead_101 (by decide) ?_
          cases hf
          exact cx_iret hx hb hr hlocks hP hL dX9_ahead_117
      · have hf := cx_t hf c12
        refine lv_aload_n hx hb dX9_ahead_40 rfl (lv_at hl 0 rfl) ?_
        refine lv_iconst (v := 2) hx hb dX9_ahead_41 (by decide) ?_
        obtain ⟨r26, q27, hf⟩ := cx_b hf
        refine cx_callV (As := [.int 2]) (rest := []) ⟨hx, hb, hml, hown, hts⟩ (c_X9_fail hC q27) (cwV 1 hts (gV mw_151 mw_152 mw_153 mw_5 mw_154) rfl rfl rfl hd_X9_fail ⟨Nat.le_of_ble_eq_true rfl, Nat.le_of_ble_eq_true rfl⟩) hK hP rfl (at_Model hC hP) rfl hl.1 rfl (Nat.le_of_ble_eq_true rfl) dX9_ahead_42 ⟨Nat.zero_le _, Nat.zero_le _⟩ hL (fun H locs hP hL => ?_)
        replace hP : P r26.2 H := by first | exact hP | (simpa only [va_up_id] using hP)
        cases hf
        exact cx_iret hx hb hr hlocks hP hL dX9_ahead_45
  · have hf := cx_t hf c4
    refine lv_aload_n hx hb dX9_ahead_13 rfl (lv_at hl 0 rfl) ?_
    refine lv_iconst (v := 1) hx hb dX9_ahead_14 (by decide) ?_
    obtain ⟨r28, q29, hf⟩ := cx_b hf
    refine cx_callV (As := [.int 1]) (rest := []) ⟨hx, hb, hml, hown, hts⟩ (c_X9_fail hC q29) (cwV 1 hts (gV mw_151 mw_152 mw_153 mw_5 mw_154) rfl rfl rfl hd_X9_fail ⟨Nat.le_of_ble_eq_true rfl, Nat.le_of_ble_eq_true rfl⟩) hK hP rfl (at_Model hC hP) rfl hl.1 rfl (Nat.le_of_ble_eq_true rfl) dX9_ahead_15 ⟨Nat.zero_le _, Nat.zero_le _⟩ hL (fun H locs hP hL => ?_)
    replace hP : P r28.2 H := by first | exact hP | (simpa only [va_up_id] using hP)
    cases hf
    exact cx_iret hx hb hr hlocks hP hL dX9_ahead_18
abbrev rm_X9_bestLength : Room := { frames := 9, cells := 0, slots := 0, locals := 211 }
theorem hd_X9_bestLength : yX9_bestLength.cls = RX9 ∧ yX9_bestLength.cls ≠ "java/lang/invoke/MethodHandle" ∧ yX9_bestLength.cls ≠ "java/lang/invoke/VarHandle" ∧ (parseMethodDescriptor yX9_bestLength.desc).map (fun d => d.parameters.length) = some 4 := by decide +kernel
def f_X9_bestLength_b57 (N : Nat) : Nat → MdlS → Int32 → Int32 → Int32 → Int32 → Int32 → Int32 → Int32 → Option (Int32 × MdlS)
  | 0, _, _, _, _, _, _, _, _ => none
  | n + 1, μ, x1, x2, x3, x4, x5, x6, x7 => if 20 < x7 then some (x5, μ) else gd 0 1384 (cx_let ((oA μ.1 0 (Int32.toNatClampNeg 0) x7, μ.2)) fun z3 => (f_X9_readAll N z3 x1 x2 x3 x4).bind fun r4 => gd 14 1384 (gd 15 1384 ((f_X9_copyM_1_0 N r4 0 0).bind fun r8 => if ((r4.1.1 0 (Int32.toNatClampNeg 14)) + (r4.1.1 0 (Int32.toNatClampNeg 15))) ≤ x6 then f_X9_bestLength_b57 N n r8 x1 x2 x3 x4 x5 x6 (x7 + 1) else f_X9_bestLength_b57 N n r8 x1 x2 x3 x4 x7 ((r4.1.1 0 (Int32.toNatClampNeg 14)) + (r4.1.1 0 (Int32.toNatClampNeg 15))) (x7 + 1))))
set_option maxHeartbeats 4000000 in
set_option maxRecDepth 100000 in
theorem w_X9_bestLength_b57 {p : Program} {l : Launch} {e : Env} {s : State} {m : MethodId} {args : Array Value} {below : List Frame} {meth : Method} {c : Code} {G : va_G} {cA : Nat → ClassId} (C0 : cB p s m args meth c RX9 cX9_bestLength 9 (some .int) G cA) {lo : Nat} {ad : Nat → Nat} {P : MdlS → Heap → Prop} (hC : cx G lo 9 ad (ceModel cA ad) P) {N : Nat} {res : Int32 × MdlS} : ∀ (n : Nat) (μ : MdlS) (x1 : Int32) (x2 : Int32) (x3 : Int32) (x4 : Int32) (x5 : Int32) (x6 : Int32) (x7 : Int32) (H : Heap) (locs : List Loc) (ls : Array Slot), f_X9_bestLength_b57 N n μ x1 x2 x3 x4 x5 x6 x7 = some res → P μ H → (∀ q ∈ locs, lo ≤ q.base) → lv_has ls 9 [(0, .ref (ad 0)), (1, .int x1), (2, .int x2), (3, .int x3), (4, .int x4), (5, .int x5), (6, .int x6), (7, .int x7)] → W p l e rm_X9_bestLength s m args below meth c H locs 0 0 (MQ below (cQ (some (.int res.1)) (P res.2)) args s 0 0 (fun q => lo ≤ q)) (F0 m 57 ls []) := by
  obtain ⟨⟨hx, hb, hml, hown, hts⟩, hr, hlocks, hK⟩ := id C0
  intro n
  induction n with
  | zero => intro μ x1 x2 x3 x4 x5 x6 x7 H locs ls
            exact fun hf => nomatch hf
  | succ n ih =>
    intro μ x1 x2 x3 x4 x5 x6 x7 H locs ls hf hP hL hl
    rw [f_X9_bestLength_b57] at hf
    refine lv_iload hx hb dX9_bestLength_57 (lv_at hl 7 rfl) ?_
    refine lv_bipush (v := 20) hx hb dX9_bestLength_59 (by decide) ?_
    refine lv_icmp_gt (tgt := 132) hx hb dX9_bestLength_61 (by decide) (fun c1 => ?_) (fun c1 => ?_)
    · have hf := cx_t hf c1
      refine lv_iload hx hb dX9_bestLength_132 (lv_at hl 5 rfl) ?_
      cases hf
      exact cx_iret hx hb hr hlocks hP hL dX9_bestLength_134
    · have hf := cx_f hf c1
      refine lv_aload_n hx hb dX9_bestLength_64 rfl (lv_at hl 0 rfl) ?_
      refine g_Model_0 hC hP hx hb hts hown hK mw_114 dX9_bestLength_65 ?_
      refine lv_iconst (v := 0) hx hb dX9_bestLength_68 (by decide) ?_
      refine lv_iload hx hb dX9_bestLength_69 (lv_at hl 7 rfl) ?_
      obtain ⟨hi2, hf⟩ := gdE hf
      obtain ⟨z3, ez3, hf⟩ := cx_letE hf
      refine pa_Model_0 hC hP hx hb hK hi2 dX9_bestLength_71 hL (fun H locs hP hL => ?_)
      replace hP : P z3 H := by rw [← ez3]; exact hP
      refine lv_aload_n hx hb dX9_bestLength_72 rfl (lv_at hl 0 rfl) ?_
      refine lv_iload_n hx hb dX9_bestLength_73 rfl (lv_at hl 1 rfl) ?_
      refine lv_iload_n hx hb dX9_bestLength_74 rfl (lv_at hl 2 rfl) ?_
      refine lv_iload_n hx hb dX9_bestLength_75 rfl (lv_at hl 3 rfl) ?_
      refine lv_iload hx hb dX9_bestLength_76 (lv_at hl 4 rfl) ?_
      obtain ⟨r4, q5, hf⟩ := cx_b hf
      refine cx_callV (As := [.int x1, .int x2, .int x3, .int x4]) (rest := []) ⟨hx, hb, hml, hown, hts⟩ (c_X9_readAll hC q5) (cwV 4 hts (gV mw_1256 mw_1257 mw_1258 mw_5 mw_1259) rfl rfl rfl hd_X9_readAll ⟨Nat.le_of_ble_eq_true rfl, Nat.le_of_ble_eq_true rfl⟩) hK hP rfl (at_Model hC hP) rfl hl.1 rfl (Nat.le_of_ble_eq_true rfl) dX9_bestLength_78 ⟨Nat.zero_le _, Nat.zero_le _⟩ hL (fun H locs hP hL => ?_)
      replace hP : P r4 H := by first | exact hP | (simpa only [va_up_id] using hP)
      refine lv_aload_n hx hb dX9_bestLength_81 rfl (lv_at hl 0 rfl) ?_
      refine g_Model_0 hC hP hx hb hts hown hK mw_114 dX9_bestLength_82 ?_
      refine lv_bipush (v := 14) hx hb dX9_bestLength_85 (by decide) ?_
      obtain ⟨hi6, hf⟩ := gdE hf
      refine ga_Model_0 hC hP hx hb hK hi6 dX9_bestLength_87 ?_
      refine lv_aload_n hx hb dX9_bestLength_88 rfl (lv_at hl 0 rfl) ?_
      refine g_Model_0 hC hP hx hb hts hown hK mw_114 dX9_bestLength_89 ?_
      refine lv_bipush (v := 15) hx hb dX9_bestLength_92 (by decide) ?_
      obtain ⟨hi7, hf⟩ := gdE hf
      refine ga_Model_0 hC hP hx hb hK hi7 dX9_bestLength_94 ?_
      refine lv_iadd hx hb dX9_bestLength_95 ?_
      refine lv_istore (lv' := [(8, .int ((r4.1.1 0 (Int32.toNatClampNeg 14)) + (r4.1.1 0 (Int32.toNatClampNeg 15)))), (0, .ref (ad 0)), (1, .int x1), (2, .int x2), (3, .int x3), (4, .int x4), (5, .int x5), (6, .int x6), (7, .int x7)]) hx hb dX9_bestLength_96 hl (by decide) rfl (fun ls hl => ?_)
      refine lv_aload_n hx hb dX9_bestLength_98 rfl (lv_at hl 1 rfl) ?_
      refine g_Model_1 hC hP hx hb hts hown hK mw_115 dX9_bestLength_99 ?_
      refine lv_iconst (v := 0) hx hb dX9_bestLength_102 (by decide) ?_
      refine lv_aload_n hx hb dX9_bestLength_103 rfl (lv_at hl 1 rfl) ?_
      refine g_Model_0 hC hP hx hb hts hown hK mw_114 dX9_bestLength_104 ?_
      refine lv_iconst (v := 0) hx hb dX9_bestLength_107 (by decide) ?_
      obtain ⟨r8, q9, hf⟩ := cx_b hf
      refine cx_callS (As := [.ref (ad 2), .int 0, .ref (ad 1), .int 0]) (rest := []) ⟨hx, hb, hml, hown, hts⟩ (c_X9_copyM_1_0 hC q9) (cwS 4 hts (gS mw_595 mw_596 mw_5 mw_597) rfl rfl rfl hd_X9_copy ⟨Nat.le_of_ble_eq_true rfl, Nat.le_of_ble_eq_true rfl⟩) hK hP rfl hl.1 rfl (Nat.le_of_ble_eq_true rfl) dX9_bestLength_108 ⟨Nat.zero_le _, Nat.zero_le _⟩ hL (fun H locs hP hL => ?_)
      replace hP : P r8 H := by first | exact hP | (simpa only [va_up_id] using hP)
      refine lv_iload hx hb dX9_bestLength_111 (lv_at hl 0 rfl) ?_
      refine lv_iload hx hb dX9_bestLength_113 (lv_at hl 7 rfl) ?_
      refine lv_icmp_le (tgt := 126) hx hb dX9_bestLength_115 (by decide) (fun c10 => ?_) (fun c10 => ?_)
      · have hf := cx_t hf c10
        refine lv_iinc (v := (x7 + 1)) (lv' := [(7, .int (x7 + 1)), (8, .int ((r4.1.1 0 (Int32.toNatClampNeg 14)) + (r4.1.1 0 (Int32.toNatClampNeg 15)))), (0, .ref (ad 0)), (1, .int x1), (2, .int x2), (3, .int x3), (4, .int x4), (5, .int x5), (6, .int x6)]) hx hb dX9_bestLength_126 hl (k := 8) rfl rfl (by decide) rfl (fun ls hl => ?_)
        refine lv_goto (tgt := 57) hx hb dX9_bestLength_129 (by decide) ?_
        exact ih r8 x1 x2 x3 x4 x5 x6 (x7 + 1) _ _ _ hf hP hL (lv_sub hl [2, 3, 4, 5, 6, 7, 8, 0] rfl)
      · have hf := cx_f hf c10
        refine lv_iload hx hb dX9_bestLength_118 (lv_at hl 8 rfl) ?_
        refine lv_istore (lv' := [(5, .int x7), (8, .int ((r4.1.1 0 (Int32.toNatClampNeg 14)) + (r4.1.1 0 (Int32.toNatClampNeg 15)))), (0, .ref (ad 0)), (1, .int x1), (2, .int x2), (3, .int x3), (4, .int x4), (6, .int x6), (7, .int x7)]) hx hb dX9_bestLength_120 hl (by decide) rfl (fun ls hl => ?_)
        refine lv_iload hx hb dX9_bestLength_122 (lv_at hl 1 rfl) ?_
        refine lv_istore (lv' := [(6, .int ((r4.1.1 0 (Int32.toNatClampNeg 14)) + (r4.1.1 0 (Int32.toNatClampNeg 15)))), (5, .int x7), (8, .int ((r4.1.1 0 (Int32.toNatClampNeg 14)) + (r4.1.1 0 (Int32.toNatClampNeg 15)))), (0, .ref (ad 0)), (1, .int x1), (2, .int x2), (3, .int x3), (4, .int x4), (7, .int x7)]) hx hb dX9_bestLength_124 hl (by decide) rfl (fun ls hl => ?_)
        refine lv_iinc (v := (x7 + 1)) (lv' := [(7, .int (x7 + 1)), (6, .int ((r4.1.1 0 (Int32.toNatClampNeg 14)) + (r4.1.1 0 (Int32.toNatClampNeg 15)))), (5, .int x7), (8, .int ((r4.1.1 0 (Int32.toNatClampNeg 14)) + (r4.1.1 0 (Int32.toNatClampNeg 15)))), (0, .ref (ad 0)), (1, .int x1), (2, .int x2), (3, .int x3), (4, .int x4)]) hx hb dX9_bestLength_126 hl (k := 8) rfl rfl (by decide) rfl (fun ls hl => ?_)
        refine lv_goto (tgt := 57) hx hb dX9_bestLength_129 (by decide) ?_
        exact ih r8 x1 x2 x3 x4 x7 ((r4.1.1 0 (Int32.toNatClampNeg 14)) + (r4.1.1 0 (Int32.toNatClampNeg 15))) (x7 + 1) _ _ _ hf hP hL (lv_sub hl [4, 5, 6, 7, 8, 2, 1, 0] rfl)
def f_X9_bestLength (N : Nat) (μ : MdlS) (p0 : Int32) (p1 : Int32) (p2 : Int32) (p3 : Int32) : Option (Int32 × MdlS) := cx_let ((oI μ.1 6 0, μ.2)) fun z1 => (f_X9_isClient z1 p0).bind fun r2 => if r2 = 0 then (f_X9_fail z1 1).bind fun r12 => some (r12.1, r12.2) else (f_X9_isPlan p1 p2 p3).bind fun r5 => if r5 = 0 then (f_X9_fail z1 2).bind fun r10 => some (r10.1, r10.2) else (f_X9_copyM_0_1 N z1 0 0).bind fun r8 => f_X9_bestLength_b57 N N r8 p0 p1 p2 p3 0 (-1) 2
set_option maxHeartbeats 4000000 in
set_option maxRecDepth 100000 in
theorem c_X9_bestLength {l : Launch} {G : va_G} {cA : Nat → ClassId} {lo : Nat} {ad : Nat → Nat} {P : MdlS → Heap → Prop} (hC : cx G lo 9 ad (ceModel cA ad) P) {N : Nat} {μ : MdlS} {p0 : Int32} {p1 : Int32} {p2 : Int32} {p3 : Int32} {res : Int32 × MdlS} (hf : f_X9_bestLength N μ p0 p1 p2 p3 = some res) : Met l yX9_bestLength (cW yX9_bestLength cX9_bestLength 9 (some .int)) rm_X9_bestLength (cP [.ref (ad 0), .int p0, .int p1, .int p2, .int p3] (P μ) G cA) (cQ (some (.int res.1)) (P res.2)) 0 0 (fun q => lo ≤ q) := by
  refine cx_met (by decide) (Nat.le_of_ble_eq_true rfl) (fun p e s m args below meth c ls C0 hP hl => ?_)
  have hl : lv_has ls 9 [(0, .ref (ad 0)), (1, .int p0), (2, .int p1), (3, .int p2), (4, .int p3)] := hl
  obtain ⟨⟨hx, hb, hml, hown, hts⟩, hr, hlocks, hK⟩ := id C0
  have hL : ∀ q ∈ ([] : List Loc), lo ≤ q.base := fun q h => nomatch h
  unfold f_X9_bestLength at hf
  refine lv_aload_n hx hb dX9_bestLength_0 rfl (lv_at hl 0 rfl) ?_
  refine lv_iconst (v := 0) hx hb dX9_bestLength_1 (by decide) ?_
  obtain ⟨z1, ez1, hf⟩ := cx_letE hf
  refine p_Model_6 hC hP hx hb hts hown hK mw_149 dX9_bestLength_2 hL (fun H locs hP hL => ?_)
  replace hP : P z1 H := by rw [← ez1]; exact hP
  refine lv_aload_n hx hb dX9_bestLength_5 rfl (lv_at hl 0 rfl) ?_
  refine lv_iload_n hx hb dX9_bestLength_6 rfl (lv_at hl 1 rfl) ?_
  obtain ⟨r2, q3, hf⟩ := cx_b hf
  refine cx_callV (As := [.int p0]) (rest := []) ⟨hx, hb, hml, hown, hts⟩ (c_X9_isClient hC q3) (cwV 1 hts (gV mw_598 mw_599 mw_600 mw_5 mw_601) rfl rfl rfl hd_X9_isClient ⟨Nat.le_of_ble_eq_true rfl, Nat.le_of_ble_eq_true rfl⟩) hK hP rfl (at_Model hC hP) rfl hl.1 rfl (Nat.le_of_ble_eq_true rfl) dX9_bestLength_7 ⟨Nat.zero_le _, Nat.zero_le _⟩ hL (fun H locs hP hL => ?_)
  replace hP : P z1 H := by first | exact hP | (simpa only [va_up_id] using hP)
  refine lv_if_ne (tgt := 19) hx hb dX9_bestLength_10 (by decide) (fun c4 => ?_) (fun c4 => ?_)
  · have hf := cx_f hf c4
    refine lv_iload_n hx hb dX9_bestLength_19 rfl (lv_at hl 2 rfl) ?_
    refine lv_iload_n hx hb dX9_bestLength_20 rfl (lv_at hl 3 rfl) ?_
    refine lv_iload hx hb dX9_bestLength_21 (lv_at hl 4 rfl) ?_
    obtain ⟨r5, q6, hf⟩ := cx_b hf
    refine cx_callS (As := [.int p1, .int p2, .int p3]) (rest := []) ⟨hx, hb, hml, hown, hts⟩ (c_X9_isPlan (PH := P z1) q6) (cwS 3 hts (gS mw_1253 mw_1254 mw_5 mw_1255) rfl rfl rfl hd_X9_isPlan ⟨Nat.le_of_ble_eq_true rfl, Nat.le_of_ble_eq_true rfl⟩) hK hP rfl hl.1 rfl (Nat.le_of_ble_eq_true rfl) dX9_bestLength_23 ⟨Nat.zero_le _, Nat.zero_le _⟩ hL (fun H locs hP hL => ?_)
    refine lv_if_ne (tgt := 35) hx hb dX9_bestLength_26 (by decide) (fun c7 => ?_) (fun c7 => ?_)
    · have hf := cx_f hf c7
      refine lv_aload_n hx hb dX9_bestLength_35 rfl (lv_at hl 0 rfl) ?_
      refine g_Model_0 hC hP hx hb hts hown hK mw_114 dX9_bestLength_36 ?_
      refine lv_iconst (v := 0) hx hb dX9_bestLength_39 (by decide) ?_
      refine lv_aload_n hx hb dX9_bestLength_40 rfl (lv_at hl 0 rfl) ?_
      refine g_Model_1 hC hP hx hb hts hown hK mw_115 dX9_bestLength_41 ?_
      refine lv_iconst (v := 0) hx hb dX9_bestLength_44 (by decide) ?_
      obtain ⟨r8, q9, hf⟩ := cx_b hf
      refine cx_callS (As := [.ref (ad 1), .int 0, .ref (ad 2), .int 0]) (rest := []) ⟨hx, hb, hml, hown, hts⟩ (c_X9_copyM_0_1 hC q9) (cwS 4 hts (gS mw_595 mw_596 mw_5 mw_597) rfl rfl rfl hd_X9_copy ⟨Nat.le_of_ble_eq_true rfl, Nat.le_of_ble_eq_true rfl⟩) hK hP rfl hl.1 rfl (Nat.le_of_ble_eq_true rfl) dX9_bestLength_45 ⟨Nat.zero_le _, Nat.zero_le _⟩ hL (fun H locs hP hL => ?_)
      replace hP : P r8 H := by first | exact hP | (simpa only [va_up_id] using hP)
      refine lv_iconst (v := 0) hx hb dX9_bestLength_48 (by decide) ?_
      refine lv_istore (lv' := [(5, .int 0), (0, .ref (ad 0)), (1, .int p0), (2, .int p1), (3, .int p2), (4, .int p3)]) hx hb dX9_bestLength_49 hl (by decide) rfl (fun ls hl => ?_)
      refine lv_iconst (v := (-1)) hx hb dX9_bestLength_51 (by decide) ?_
      refine lv_istore (lv' := [(6, .int (-1)), (5, .int 0), (0, .ref (ad 0)), (1, .int p0), (2, .int p1), (3, .int p2), (4, .int p3)]) hx hb dX9_bestLength_52 hl (by decide) rfl (fun ls hl => ?_)
      refine lv_iconst (v := 2) hx hb dX9_bestLength_54 (by decide) ?_
      refine lv_istore (lv' := [(7, .int 2), (6, .int (-1)), (5, .int 0), (0, .ref (ad 0)), (1, .int p0), (2, .int p1), (3, .int p2), (4, .int p3)]) hx hb dX9_bestLength_55 hl (by decide) rfl (fun ls hl => ?_)
      exact w_X9_bestLength_b57 C0 hC N r8 p0 p1 p2 p3 0 (-1) 2 _ _ _ hf hP hL (lv_sub hl [3, 4, 5, 6, 7, 2, 1, 0] rfl)
    · have hf := cx_t hf c7
      refine lv_aload_n hx hb dX9_bestLength_29 rfl (lv_at hl 0 rfl) ?_
      refine lv_iconst (v := 2) hx hb dX9_bestLength_30 (by decide) ?_
      obtain ⟨r10, q11, hf⟩ := cx_b hf
      refine cx_callV (As := [.int 2]) (rest := []) ⟨hx, hb, hml, hown, hts⟩ (c_X9_fail hC q11) (cwV 1 hts (gV mw_151 mw_152 mw_153 mw_5 mw_154) rfl rfl rfl hd_X9_fail ⟨Nat.le_of_ble_eq_true rfl, Nat.le_of_ble_eq_true rfl⟩) hK hP rfl (at_Model hC hP) rfl hl.1 rfl (Nat.le_of_ble_eq_true rfl) dX9_bestLength_31 ⟨Nat.zero_le _, Nat.zero_le _⟩ hL (fun H locs hP hL => ?_)
      replace hP : P r10.2 H := by first | exact hP | (simpa only [va_up_id] using hP)
      cases hf
      exact cx_iret hx hb hr hlocks hP hL dX9_bestLength_34
  · have hf := cx_t hf c4
    refine lv_aload_n hx hb dX9_bestLength_13 rfl (lv_at hl 0 rfl) ?_
    refine lv_iconst (v := 1) hx hb dX9_bestLength_14 (by decide) ?_
    obtain ⟨r12, q13, hf⟩ := cx_b hf
    refine cx_callV (As := [.int 1]) (rest := []) ⟨hx, hb, hml, hown, hts⟩ (c_X9_fail hC q13) (cwV 1 hts (gV mw_151 mw_152 mw_153 mw_5 mw_154) rfl rfl rfl hd_X9_fail ⟨Nat.le_of_ble_eq_true rfl, Nat.le_of_ble_eq_true rfl⟩) hK hP rfl (at_Model hC hP) rfl hl.1 rfl (Nat.le_of_ble_eq_true rfl) dX9_bestLength_15 ⟨Nat.zero_le _, Nat.zero_le _⟩ hL (fun H locs hP hL => ?_)
    replace hP : P r12.2 H := by first | exact hP | (simpa only [va_up_id] using hP)
    cases hf
    exact cx_iret hx hb hr hlocks hP hL dX9_bestLength_18
abbrev rm_X9_emit : Room := { frames := 0, cells := 0, slots := 0, locals := 0 }
theorem hd_X9_emit : yX9_emit.cls = RX9 ∧ yX9_emit.cls ≠ "java/lang/invoke/MethodHandle" ∧ yX9_emit.cls ≠ "java/lang/invoke/VarHandle" ∧ (parseMethodDescriptor yX9_emit.desc).map (fun d => d.parameters.length) = some 1 := by decide +kernel
def f_X9_emit (μ : MdlS) (p0 : Int32) : Option (MdlS) := gd (μ.1.2 22) 200 (cx_let ((oA μ.1 21 (Int32.toNatClampNeg (μ.1.2 22)) p0, μ.2)) fun z2 => cx_let ((oI z2.1 22 (z2.1.2 22 + 1), z2.2)) fun z3 => some z3)
set_option maxHeartbeats 4000000 in
set_option maxRecDepth 100000 in
theorem c_X9_emit {l : Launch} {G : va_G} {cA : Nat → ClassId} {lo : Nat} {ad : Nat → Nat} {P : MdlS → Heap → Prop} (hC : cx G lo 9 ad (ceModel cA ad) P) {μ : MdlS} {p0 : Int32} {res : MdlS} (hf : f_X9_emit μ p0 = some res) : Met l yX9_emit (cW yX9_emit cX9_emit 2 none) rm_X9_emit (cP [.ref (ad 0), .int p0] (P μ) G cA) (cQ none (P res)) 0 0 (fun q => lo ≤ q) := by
  refine cx_met (by decide) (Nat.le_of_ble_eq_true rfl) (fun p e s m args below meth c ls C0 hP hl => ?_)
  have hl : lv_has ls 2 [(0, .ref (ad 0)), (1, .int p0)] := hl
  obtain ⟨⟨hx, hb, hml, hown, hts⟩, hr, hlocks, hK⟩ := id C0
  have hL : ∀ q ∈ ([] : List Loc), lo ≤ q.base := fun q h => nomatch h
  unfold f_X9_emit at hf
  refine lv_aload_n hx hb dX9_emit_0 rfl (lv_at hl 0 rfl) ?_
  refine g_Model_21 hC hP hx hb hts hown hK mw_123 dX9_emit_1 ?_
  refine lv_aload_n hx hb dX9_emit_4 rfl (lv_at hl 0 rfl) ?_
  refine g_Model_22 hC hP hx hb hts hown hK mw_1298 dX9_emit_5 ?_
  refine lv_iload_n hx hb dX9_emit_8 rfl (lv_at hl 1 rfl) ?_
  obtain ⟨hi1, hf⟩ := gdE hf
  obtain ⟨z2, ez2, hf⟩ := cx_letE hf
  refine pa_Model_21 hC hP hx hb hK hi1 dX9_emit_9 hL (fun H locs hP hL => ?_)
  replace hP : P z2 H := by rw [← ez2]; exact hP
  refine lv_aload_n hx hb dX9_emit_10 rfl (lv_at hl 0 rfl) ?_
  refine lv_dup hx hb dX9_emit_11 rfl ?_
  refine g_Model_22 hC hP hx hb hts hown hK mw_1298 dX9_emit_12 ?_
  refine lv_iconst (v := 1) hx hb dX9_emit_15 (by decide) ?_
  refine lv_iadd hx hb dX9_emit_16 ?_
  obtain ⟨z3, ez3, hf⟩ := cx_letE hf
  refine p_Model_22 hC hP hx hb hts hown hK mw_1298 dX9_emit_17 hL (fun H locs hP hL => ?_)
  replace hP : P z3 H := by rw [← ez3]; exact hP
  cases hf
  exact cx_vret hx hb hr hlocks hP hL dX9_emit_20
abbrev rm_X9_writeNumber : Room := { frames := 1, cells := 0, slots := 0, locals := 21 }
theorem hd_X9_writeNumber : yX9_writeNumber.cls = RX9 ∧ yX9_writeNumber.cls ≠ "java/lang/invoke/MethodHandle" ∧ yX9_writeNumber.cls ≠ "java/lang/invoke/VarHandle" ∧ (parseMethodDescriptor yX9_writeNumber.desc).map (fun d => d.parameters.length) = some 1 := by decide +kernel
def f_X9_writeNumber_b17 (μ : MdlS) (x1 : Int32) : Option (MdlS) := if x1 ≤ 9 then (f_X9_emit μ (48 + (x1 - x1 / 10 * 10))).bind fun r2 => some r2 else (f_X9_emit μ (48 + ((x1 / 10) - (x1 / 10) / 10 * 10))).bind fun r4 => (f_X9_emit r4 (48 + (x1 - x1 / 10 * 10))).bind fun r6 => some r6
set_option maxHeartbeats 4000000 in
set_option maxRecDepth 100000 in
theorem w_X9_writeNumber_b17 {p : Program} {l : Launch} {e : Env} {s : State} {m : MethodId} {args : Array Value} {below : List Frame} {meth : Method} {c : Code} {G : va_G} {cA : Nat → ClassId} (C0 : cB p s m args meth c RX9 cX9_writeNumber 2 none G cA) {lo : Nat} {ad : Nat → Nat} {P : MdlS → Heap → Prop} (hC : cx G lo 9 ad (ceModel cA ad) P) {res : MdlS} : ∀ (μ : MdlS) (x1 : Int32) (H : Heap) (locs : List Loc) (ls : Array Slot), f_X9_writeNumber_b17 μ x1 = some res → P μ H → (∀ q ∈ locs, lo ≤ q.base) → lv_has ls 2 [(0, .ref (ad 0)), (1, .int x1)] → W p l e rm_X9_writeNumber s m args below meth c H locs 0 0 (MQ below (cQ none (P res)) args s 0 0 (fun q => lo ≤ q)) (F0 m 17 ls []) := by
  obtain ⟨⟨hx, hb, hml, hown, hts⟩, hr, hlocks, hK⟩ := id C0
  intro μ x1 H locs ls hf hP hL hl
  unfold f_X9_writeNumber_b17 at hf
  refine lv_iload_n hx hb dX9_writeNumber_17 rfl (lv_at hl 1 rfl) ?_
  refine lv_bipush (v := 9) hx hb dX9_writeNumber_18 (by decide) ?_
  refine lv_icmp_le (tgt := 37) hx hb dX9_writeNumber_20 (by decide) (fun c1 => ?_) (fun c1 => ?_)
  · have hf := cx_t hf c1
    refine lv_aload_n hx hb dX9_writeNumber_37 rfl (lv_at hl 0 rfl) ?_
    refine lv_bipush (v := 48) hx hb dX9_writeNumber_38 (by decide) ?_
    refine lv_iload_n hx hb dX9_writeNumber_40 rfl (lv_at hl 1 rfl) ?_
    refine lv_bipush (v := 10) hx hb dX9_writeNumber_41 (by decide) ?_
    refine lv_irem hx hb dX9_writeNumber_43 (by decide) ?_
    refine lv_iadd hx hb dX9_writeNumber_44 ?_
    obtain ⟨r2, q3, hf⟩ := cx_b hf
    refine cx_callV (As := [.int (48 + (x1 - x1 / 10 * 10))]) (rest := []) ⟨hx, hb, hml, hown, hts⟩ (c_X9_emit hC q3) (cwV 1 hts (gV mw_1299 mw_1300 mw_1301 mw_5 mw_1302) rfl rfl rfl hd_X9_emit ⟨Nat.le_of_ble_eq_true rfl, Nat.le_of_ble_eq_true rfl⟩) hK hP rfl (at_Model hC hP) rfl hl.1 rfl (Nat.le_of_ble_eq_true rfl) dX9_writeNumber_45 ⟨Nat.zero_le _, Nat.zero_le _⟩ hL (fun H locs hP hL => ?_)
    replace hP : P r2 H := by first | exact hP | (simpa only [va_up_id] using hP)
    cases hf
    exact cx_vret hx hb hr hlocks hP hL dX9_writeNumber_48
  · have hf := cx_f hf c1
    refine lv_aload_n hx hb dX9_writeNumber_23 rfl (lv_at hl 0 rfl) ?_
    refine lv_bipush (v := 48) hx hb dX9_writeNumber_24 (by decide) ?_
    refine lv_iload_n hx hb dX9_writeNumber_26 rfl (lv_at hl 1 rfl) ?_
    refine lv_bipush (v := 10) hx hb dX9_writeNumber_27 (by decide) ?_
    refine lv_idiv hx hb dX9_writeNumber_29 (by decide) ?_
    refine lv_bipush (v := 10) hx hb dX9_writeNumber_30 (by decide) ?_
    refine lv_irem hx hb dX9_writeNumber_32 (by decide) ?_
    refine lv_iadd hx hb dX9_writeNumber_33 ?_
    obtain ⟨r4, q5, hf⟩ := cx_b hf
    refine cx_callV (As := [.int (48 + ((x1 / 10) - (x1 / 10) / 10 * 10))]) (rest := []) ⟨hx, hb, hml, hown, hts⟩ (c_X9_emit hC q5) (cwV 1 hts (gV mw_1299 mw_1300 mw_1301 mw_5 mw_1302) rfl rfl rfl hd_X9_emit ⟨Nat.le_of_ble_eq_true rfl, Nat.le_of_ble_eq_true rfl⟩) hK hP rfl (at_Model hC hP) rfl hl.1 rfl (Nat.le_of_ble_eq_true rfl) dX9_writeNumber_34 ⟨Nat.zero_le _, Nat.zero_le _⟩ hL (fun H locs hP hL => ?_)
    replace hP : P r4 H := by first | exact hP | (simpa only [va_up_id] using hP)
    refine lv_aload_n hx hb dX9_writeNumber_37 rfl (lv_at hl 0 rfl) ?_
    refine lv_bipush (v := 48) hx hb dX9_writeNumber_38 (by decide) ?_
    refine lv_iload_n hx hb dX9_writeNumber_40 rfl (lv_at hl 1 rfl) ?_
    refine lv_bipush (v := 10) hx hb dX9_writeNumber_41 (by decide) ?_
    refine lv_irem hx hb dX9_writeNumber_43 (by decide) ?_
    refine lv_iadd hx hb dX9_writeNumber_44 ?_
    obtain ⟨r6, q7, hf⟩ := cx_b hf
    refine cx_callV (As := [.int (48 + (x1 - x1 / 10 * 10))]) (rest := []) ⟨hx, hb, hml, hown, hts⟩ (c_X9_emit hC q7) (cwV 1 hts (gV mw_1299 mw_1300 mw_1301 mw_5 mw_1302) rfl rfl rfl hd_X9_emit ⟨Nat.le_of_ble_eq_true rfl, Nat.le_of_ble_eq_true rfl⟩) hK hP rfl (at_Model hC hP) rfl hl.1 rfl (Nat.le_of_ble_eq_true rfl) dX9_writeNumber_45 ⟨Nat.zero_le _, Nat.zero_le _⟩ hL (fun H locs hP hL => ?_)
    replace hP : P r6 H := by first | exact hP | (simpa only [va_up_id] using hP)
    cases hf
    exact cx_vret hx hb hr hlocks hP hL dX9_writeNumber_48
def f_X9_writeNumber (μ : MdlS) (p0 : Int32) : Option (MdlS) := if p0 ≤ 99 then f_X9_writeNumber_b17 μ p0 else (f_X9_emit μ (48 + (p0 / 100))).bind fun r2 => f_X9_writeNumber_b17 r2 p0
set_option maxHeartbeats 4000000 in
set_option maxRecDepth 100000 in
theorem c_X9_writeNumber {l : Launch} {G : va_G} {cA : Nat → ClassId} {lo : Nat} {ad : Nat → Nat} {P : MdlS → Heap → Prop} (hC : cx G lo 9 ad (ceModel cA ad) P) {μ : MdlS} {p0 : Int32} {res : MdlS} (hf : f_X9_writeNumber μ p0 = some res) : Met l yX9_writeNumber (cW yX9_writeNumber cX9_writeNumber 2 none) rm_X9_writeNumber (cP [.ref (ad 0), .int p0] (P μ) G cA) (cQ none (P res)) 0 0 (fun q => lo ≤ q) := by
  refine cx_met (by decide) (Nat.le_of_ble_eq_true rfl) (fun p e s m args below meth c ls C0 hP hl => ?_)
  have hl : lv_has ls 2 [(0, .ref (ad 0)), (1, .int p0)] := hl
  obtain ⟨⟨hx, hb, hml, hown, hts⟩, hr, hlocks, hK⟩ := id C0
  have hL : ∀ q ∈ ([] : List Loc), lo ≤ q.base := fun q h => nomatch h
  unfold f_X9_writeNumber at hf
  refine lv_iload_n hx hb dX9_writeNumber_0 rfl (lv_at hl 1 rfl) ?_
  refine lv_bipush (v := 99) hx hb dX9_writeNumber_1 (by decide) ?_
  refine lv_icmp_le (tgt := 17) hx hb dX9_writeNumber_3 (by decide) (fun c1 => ?_) (fun c1 => ?_)
  · have hf := cx_t hf c1
    exact w_X9_writeNumber_b17 C0 hC μ p0 _ _ _ hf hP hL (lv_sub hl [0, 1] rfl)
  · have hf := cx_f hf c1
    refine lv_aload_n hx hb dX9_writeNumber_6 rfl (lv_at hl 0 rfl) ?_
    refine lv_bipush (v := 48) hx hb dX9_writeNumber_7 (by decide) ?_
    refine lv_iload_n hx hb dX9_writeNumber_9 rfl (lv_at hl 1 rfl) ?_
    refine lv_bipush (v := 100) hx hb dX9_writeNumber_10 (by decide) ?_
    refine lv_idiv hx hb dX9_writeNumber_12 (by decide) ?_
    refine lv_iadd hx hb dX9_writeNumber_13 ?_
    obtain ⟨r2, q3, hf⟩ := cx_b hf
    refine cx_callV (As := [.int (48 + (p0 / 100))]) (rest := []) ⟨hx, hb, hml, hown, hts⟩ (c_X9_emit hC q3) (cwV 1 hts (gV mw_1299 mw_1300 mw_1301 mw_5 mw_1302) rfl rfl rfl hd_X9_emit ⟨Nat.le_of_ble_eq_true rfl, Nat.le_of_ble_eq_true rfl⟩) hK hP rfl (at_Model hC hP) rfl hl.1 rfl (Nat.le_of_ble_eq_true rfl) dX9_writeNumber_14 ⟨Nat.zero_le _, Nat.zero_le _⟩ hL (fun H locs hP hL => ?_)
    replace hP : P r2 H := by first | exact hP | (simpa only [va_up_id] using hP)
    exact w_X9_writeNumber_b17 C0 hC r2 p0 _ _ _ hf hP hL (lv_sub hl [0, 1] rfl)
abbrev rm_X9_show : Room := { frames := 2, cells := 0, slots := 0, locals := 43 }
theorem hd_X9_show : yX9_show.cls = RX9 ∧ yX9_show.cls ≠ "java/lang/invoke/MethodHandle" ∧ yX9_show.cls ≠ "java/lang/invoke/VarHandle" ∧ (parseMethodDescriptor yX9_show.desc).map (fun d => d.parameters.length) = some 1 := by decide +kernel
def f_X9_show_b52 (N : Nat) (k26 : MdlS → Int32 → Int32 → Option (Int32 × MdlS)) (μ : MdlS) (x1 : Int32) (x2 : Int32) (x3 : Int32) : Option (Int32 × MdlS) := (f_X9_writeNumber μ x3).bind fun r1 => if 2 < x1 then k26 r1 x1 (x2 + 1) else (f_X9_isDirty r1 x3).bind fun r4 => if r4 = 0 then k26 r1 x1 (x2 + 1) else (f_X9_emit r1 42).bind fun r7 => k26 r7 x1 (x2 + 1)
set_option maxHeartbeats 4000000 in
set_option maxRecDepth 100000 in
theorem w_X9_show_b52 {p : Program} {l : Launch} {e : Env} {s : State} {m : MethodId} {args : Array Value} {below : List Frame} {meth : Method} {c : Code} {G : va_G} {cA : Nat → ClassId} (C0 : cB p s m args meth c RX9 cX9_show 4 (some .int) G cA) {lo : Nat} {ad : Nat → Nat} {P : MdlS → Heap → Prop} (hC : cx G lo 9 ad (ceModel cA ad) P) {N : Nat} {res : Int32 × MdlS} {k26 : MdlS → Int32 → Int32 → Option (Int32 × MdlS)} (hk26 : ∀ (μ : MdlS) (x1 : Int32) (x2 : Int32) (H : Heap) (locs : List Loc) (ls : Array Slot), k26 μ x1 x2 = some res → P μ H → (∀ q ∈ locs, lo ≤ q.base) → lv_has ls 4 [(0, .ref (ad 0)), (1, .int x1), (2, .int x2)] → W p l e rm_X9_show s m args below meth c H locs 0 0 (MQ below (cQ (some (.int res.1)) (P res.2)) args s 0 0 (fun q => lo ≤ q)) (F0 m 26 ls [])) : ∀ (μ : MdlS) (x1 : Int32) (x2 : Int32) (x3 : Int32) (H : Heap) (locs : List Loc) (ls : Array Slot), f_X9_show_b52 N k26 μ x1 x2 x3 = some res → P μ H → (∀ q ∈ locs, lo ≤ q.base) → lv_has ls 4 [(0, .ref (ad 0)), (1, .int x1), (2, .int x2), (3, .int x3)] → W p l e rm_X9_show s m args below meth c H locs 0 0 (MQ below (cQ (some (.int res.1)) (P res.2)) args s 0 0 (fun q => lo ≤ q)) (F0 m 52 ls []) := by
  obtain ⟨⟨hx, hb, hml, hown, hts⟩, hr, hlocks, hK⟩ := id C0
  intro μ x1 x2 x3 H locs ls hf hP hL hl
  unfold f_X9_show_b52 at hf
  refine lv_aload_n hx hb dX9_show_52 rfl (lv_at hl 0 rfl) ?_
  refine lv_iload_n hx hb dX9_show_53 rfl (lv_at hl 3 rfl) ?_
  obtain ⟨r1, q2, hf⟩ := cx_b hf
  refine cx_callV (As := [.int x3]) (rest := []) ⟨hx, hb, hml, hown, hts⟩ (c_X9_writeNumber hC q2) (cwV 1 hts (gV mw_1303 mw_1304 mw_1305 mw_5 mw_1306) rfl rfl rfl hd_X9_writeNumber ⟨Nat.le_of_ble_eq_true rfl, Nat.le_of_ble_eq_true rfl⟩) hK hP rfl (at_Model hC hP) rfl hl.1 rfl (Nat.le_of_ble_eq_true rfl) dX9_show_54 ⟨Nat.zero_le _, Nat.zero_le _⟩ hL (fun H locs hP hL => ?_)
  replace hP : P r1 H := by first | exact hP | (simpa only [va_up_id] using hP)
  refine lv_iload_n hx hb dX9_show_57 rfl (lv_at hl 1 rfl) ?_
  refine lv_iconst (v := 2) hx hb dX9_show_58 (by decide) ?_
  refine lv_icmp_gt (tgt := 76) hx hb dX9_show_59 (by decide) (fun c3 => ?_) (fun c3 => ?_)
  · have hf := cx_t hf c3
    refine lv_iinc (v := (x2 + 1)) (lv' := [(2, .int (x2 + 1)), (0, .ref (ad 0)), (1, .int x1), (3, .int x3)]) hx hb dX9_show_76 hl (k := 2) rfl rfl (by decide) rfl (fun ls hl => ?_)
    refine lv_goto (tgt := 26) hx hb dX9_show_79 (by decide) ?_
    exact hk26 r1 x1 (x2 + 1) _ _ _ hf hP hL (lv_sub hl [1, 2, 0] rfl)
  · have hf := cx_f hf c3
    refine lv_aload_n hx hb dX9_show_62 rfl (lv_at hl 0 rfl) ?_
    refine lv_iload_n hx hb dX9_show_63 rfl (lv_at hl 3 rfl) ?_
    obtain ⟨r4, q5, hf⟩ := cx_b hf
    refine cx_callV (As := [.int x3]) (rest := []) ⟨hx, hb, hml, hown, hts⟩ (c_X9_isDirty hC q5) (cwV 1 hts (gV mw_614 mw_615 mw_616 mw_5 mw_617) rfl rfl rfl hd_X9_isDirty ⟨Nat.le_of_ble_eq_true rfl, Nat.le_of_ble_eq_true rfl⟩) hK hP rfl (at_Model hC hP) rfl hl.1 rfl (Nat.le_of_ble_eq_true rfl) dX9_show_64 ⟨Nat.zero_le _, Nat.zero_le _⟩ hL (fun H locs hP hL => ?_)
    replace hP : P r1 H := by first | exact hP | (simpa only [va_up_id] using hP)
    refine lv_if_eq (tgt := 76) hx hb dX9_show_67 (by decide) (fun c6 => ?_) (fun c6 => ?_)
    · have hf := cx_t hf c6
      refine lv_iinc (v := (x2 + 1)) (lv' := [(2, .int (x2 + 1)), (0, .ref (ad 0)), (1, .int x1), (3, .int x3)]) hx hb dX9_show_76 hl (k := 2) rfl rfl (by decide) rfl (fun ls hl => ?_)
      refine lv_goto (tgt := 26) hx hb dX9_show_79 (by decide) ?_
      exact hk26 r1 x1 (x2 + 1) _ _ _ hf hP hL (lv_sub hl [1, 2, 0] rfl)
    · have hf := cx_f hf c6
      refine lv_aload_n hx hb dX9_show_70 rfl (lv_at hl 0 rfl) ?_
      refine lv_bipush (v := 42) hx hb dX9_show_71 (by decide) ?_
      obtain ⟨r7, q8, hf⟩ := cx_b hf
      refine cx_callV (As := [.int 42]) (rest := []) ⟨hx, hb, hml, hown, hts⟩ (c_X9_emit hC q8) (cwV 1 hts (gV mw_1299 mw_1300 mw_1301 mw_5 mw_1302) rfl rfl rfl hd_X9_emit ⟨Nat.le_of_ble_eq_true rfl, Nat.le_of_ble_eq_true rfl⟩) hK hP rfl (at_Model hC hP) rfl hl.1 rfl (Nat.le_of_ble_eq_true rfl) dX9_show_73 ⟨Nat.zero_le _, Nat.zero_le _⟩ hL (fun H locs hP hL => ?_)
      replace hP : P r7 H := by first | exact hP | (simpa only [va_up_id] using hP)
      refine lv_iinc (v := (x2 + 1)) (lv' := [(2, .int (x2 + 1)), (0, .ref (ad 0)), (1, .int x1), (3, .int x3)]) hx hb dX9_show_76 hl (k := 2) rfl rfl (by decide) rfl (fun ls hl => ?_)
      refine lv_goto (tgt := 26) hx hb dX9_show_79 (by decide) ?_
      exact hk26 r7 x1 (x2 + 1) _ _ _ hf hP hL (lv_sub hl [1, 2, 0] rfl)
def f_X9_show_b26 (N : Nat) : Nat → MdlS → Int32 → Int32 → Option (Int32 × MdlS)
  | 0, _, _, _ => none
  | n + 1, μ, x1, x2 => (f_X9_length μ x1).bind fun r1 => if r1 ≤ x2 then some (μ.1.2 22, μ) else (f_X9_blockAt μ x1 x2).bind fun r4 => if x2 ≤ 0 then f_X9_show_b52 N (f_X9_show_b26 N n) μ x1 x2 r4 else (f_X9_emit μ 44).bind fun r7 => f_X9_show_b52 N (f_X9_show_b26 N n) r7 x1 x2 r4
set_option maxHeartbeats 4000000 in
set_option maxRecDepth 100000 in
theorem w_X9_show_b26 {p : Program} {l : Launch} {e : Env} {s : State} {m : MethodId} {args : Array Value} {below : List Frame} {meth : Method} {c : Code} {G : va_G} {cA : Nat → ClassId} (C0 : cB p s m args meth c RX9 cX9_show 4 (some .int) G cA) {lo : Nat} {ad : Nat → Nat} {P : MdlS → Heap → Prop} (hC : cx G lo 9 ad (ceModel cA ad) P) {N : Nat} {res : Int32 × MdlS} : ∀ (n : Nat) (μ : MdlS) (x1 : Int32) (x2 : Int32) (H : Heap) (locs : List Loc) (ls : Array Slot), f_X9_show_b26 N n μ x1 x2 = some res → P μ H → (∀ q ∈ locs, lo ≤ q.base) → lv_has ls 4 [(0, .ref (ad 0)), (1, .int x1), (2, .int x2)] → W p l e rm_X9_show s m args below meth c H locs 0 0 (MQ below (cQ (some (.int res.1)) (P res.2)) args s 0 0 (fun q => lo ≤ q)) (F0 m 26 ls []) := by
  obtain ⟨⟨hx, hb, hml, hown, hts⟩, hr, hlocks, hK⟩ := id C0
  intro n
  induction n with
  | zero => intro μ x1 x2 H locs ls
            exact fun hf => nomatch hf
  | succ n ih =>
    intro μ x1 x2 H locs ls hf hP hL hl
    rw [f_X9_show_b26] at hf
    refine lv_iload_n hx hb dX9_show_26 rfl (lv_at hl 2 rfl) ?_
    refine lv_aload_n hx hb dX9_show_27 rfl (lv_at hl 0 rfl) ?_
    refine lv_iload_n hx hb dX9_show_28 rfl (lv_at hl 1 rfl) ?_
    obtain ⟨r1, q2, hf⟩ := cx_b hf
    refine cx_callV (As := [.int x1]) (rest := [.int x2]) ⟨hx, hb, hml, hown, hts⟩ (c_X9_length hC q2) (cwV 1 hts (gV mw_663 mw_664 mw_665 mw_5 mw_666) rfl rfl rfl hd_X9_length ⟨Nat.le_of_ble_eq_true rfl, Nat.le_of_ble_eq_true rfl⟩) hK hP rfl (at_Model hC hP) rfl hl.1 rfl (Nat.le_of_ble_eq_true rfl) dX9_show_29 ⟨Nat.zero_le _, Nat.zero_le _⟩ hL (fun H locs hP hL => ?_)
    replace hP : P μ H := by first | exact hP | (simpa only [va_up_id] using hP)
    refine lv_icmp_ge (tgt := 82) hx hb dX9_show_32 (by decide) (fun c3 => ?_) (fun c3 => ?_)
    · have hf := cx_t hf c3
      refine lv_aload_n hx hb dX9_show_82 rfl (lv_at hl 0 rfl) ?_
      refine g_Model_22 hC hP hx hb hts hown hK mw_1298 dX9_show_83 ?_
      cases hf
      exact cx_iret hx hb hr hlocks hP hL dX9_show_86
    · have hf := cx_f hf c3
      refine lv_aload_n hx hb dX9_show_35 rfl (lv_at hl 0 rfl) ?_
      refine lv_iload_n hx hb dX9_show_36 rfl (lv_at hl 1 rfl) ?_
      refine lv_iload_n hx hb dX9_show_37 rfl (lv_at hl 2 rfl) ?_
      obtain ⟨r4, q5, hf⟩ := cx_b hf
      refine cx_callV (As := [.int x1, .int x2]) (rest := []) ⟨hx, hb, hml, hown, hts⟩ (c_X9_blockAt hC q5) (cwV 2 hts (gV mw_659 mw_660 mw_661 mw_5 mw_662) rfl rfl rfl hd_X9_blockAt ⟨Nat.le_of_ble_eq_true rfl, Nat.le_of_ble_eq_true rfl⟩) hK hP rfl (at_Model hC hP) rfl hl.1 rfl (Nat.le_of_ble_eq_true rfl) dX9_show_38 ⟨Nat.zero_le _, Nat.zero_le _⟩ hL (fun H locs hP hL => ?_)
      replace hP : P μ H := by first | exact hP | (simpa only [va_up_id] using hP)
      refine lv_istore_n (lv' := [(3, .int r4), (0, .ref (ad 0)), (1, .int x1), (2, .int x2)]) hx hb dX9_show_41 rfl hl (by decide) rfl (fun ls hl => ?_)
      refine lv_iload_n hx hb dX9_show_42 rfl (lv_at hl 3 rfl) ?_
      refine lv_if_le (tgt := 52) hx hb dX9_show_43 (by decide) (fun c6 => ?_) (fun c6 => ?_)
      · have hf := cx_t hf c6
        exact w_X9_show_b52 C0 hC ih μ x1 x2 r4 _ _ _ hf hP hL (lv_sub hl [1, 2, 3, 0] rfl)
      · have hf := cx_f hf c6
        refine lv_aload_n hx hb dX9_show_46 rfl (lv_at hl 1 rfl) ?_
        refine lv_bipush (v := 44) hx hb dX9_show_47 (by decide) ?_
        obtain ⟨r7, q8, hf⟩ := cx_b hf
        refine cx_callV (As := [.int 44]) (rest := []) ⟨hx, hb, hml, hown, hts⟩ (c_X9_emit hC q8) (cwV 1 hts (gV mw_1299 mw_1300 mw_1301 mw_5 mw_1302) rfl rfl rfl hd_X9_emit ⟨Nat.le_of_ble_eq_true rfl, Nat.le_of_ble_eq_true rfl⟩) hK hP rfl (at_Model hC hP) rfl hl.1 rfl (Nat.le_of_ble_eq_true rfl) dX9_show_49 ⟨Nat.zero_le _, Nat.zero_le _⟩ hL (fun H locs hP hL => ?_)
        replace hP : P r7 H := by first | exact hP | (simpa only [va_up_id] using hP)
        exact w_X9_show_b52 C0 hC ih r7 x1 x2 r4 _ _ _ hf hP hL (lv_sub hl [1, 2, 3, 0] rfl)
def f_X9_show (N : Nat) (μ : MdlS) (p0 : Int32) : Option (Int32 × MdlS) := cx_let ((oI μ.1 6 0, μ.2)) fun z1 => (f_X9_isList z1 p0).bind fun r2 => if r2 = 0 then (f_X9_fail z1 1).bind fun r6 => some (r6.1, r6.2) else cx_let ((oI z1.1 22 0, z1.2)) fun z5 => f_X9_show_b26 N N z5 p0 0
set_option maxHeartbeats 4000000 in
set_option maxRecDepth 100000 in
theorem c_X9_show {l : Launch} {G : va_G} {cA : Nat → ClassId} {lo : Nat} {ad : Nat → Nat} {P : MdlS → Heap → Prop} (hC : cx G lo 9 ad (ceModel cA ad) P) {N : Nat} {μ : MdlS} {p0 : Int32} {res : Int32 × MdlS} (hf : f_X9_show N μ p0 = some res) : Met l yX9_show (cW yX9_show cX9_show 4 (some .int)) rm_X9_show (cP [.ref (ad 0), .int p0] (P μ) G cA) (cQ (some (.int res.1)) (P res.2)) 0 0 (fun q => lo ≤ q) := by
  refine cx_met (by decide) (Nat.le_of_ble_eq_true rfl) (fun p e s m args below meth c ls C0 hP hl => ?_)
  have hl : lv_has ls 4 [(0, .ref (ad 0)), (1, .int p0)] := hl
  obtain ⟨⟨hx, hb, hml, hown, hts⟩, hr, hlocks, hK⟩ := id C0
  have hL : ∀ q ∈ ([] : List Loc), lo ≤ q.base := fun q h => nomatch h
  unfold f_X9_show at hf
  refine lv_aload_n hx hb dX9_show_0 rfl (lv_at hl 0 rfl) ?_
  refine lv_iconst (v := 0) hx hb dX9_show_1 (by decide) ?_
  obtain ⟨z1, ez1, hf⟩ := cx_letE hf
  refine p_Model_6 hC hP hx hb hts hown hK mw_149 dX9_show_2 hL (fun H locs hP hL => ?_)
  replace hP : P z1 H := by rw [← ez1]; exact hP
  refine lv_aload_n hx hb dX9_show_5 rfl (lv_at hl 0 rfl) ?_
  refine lv_iload_n hx hb dX9_show_6 rfl (lv_at hl 1 rfl) ?_
  obtain ⟨r2, q3, hf⟩ := cx_b hf
  refine cx_callV (As := [.int p0]) (rest := []) ⟨hx, hb, hml, hown, hts⟩ (c_X9_isList hC q3) (cwV 1 hts (gV mw_937 mw_938 mw_939 mw_5 mw_940) rfl rfl rfl hd_X9_isList ⟨Nat.le_of_ble_eq_true rfl, Nat.le_of_ble_eq_true rfl⟩) hK hP rfl (at_Model hC hP) rfl hl.1 rfl (Nat.le_of_ble_eq_true rfl) dX9_show_7 ⟨Nat.zero_le _, Nat.zero_le _⟩ hL (fun H locs hP hL => ?_)
  replace hP : P z1 H := by first | exact hP | (simpa only [va_up_id] using hP)
  refine lv_if_ne (tgt := 19) hx hb dX9_show_10 (by decide) (fun c4 => ?_) (fun c4 => ?_)
  · have hf := cx_f hf c4
    refine lv_aload_n hx hb dX9_show_19 rfl (lv_at hl 0 rfl) ?_
    refine lv_iconst (v := 0) hx hb dX9_show_20 (by decide) ?_
    obtain ⟨z5, ez5, hf⟩ := cx_letE hf
    refine p_Model_22 hC hP hx hb hts hown hK mw_1298 dX9_show_21 hL (fun H locs hP hL => ?_)
    replace hP : P z5 H := by rw [← ez5]; exact hP
    refine lv_iconst (v := 0) hx hb dX9_show_24 (by decide) ?_
    refine lv_istore_n (lv' := [(2, .int 0), (0, .ref (ad 0)), (1, .int p0)]) hx hb dX9_show_25 rfl hl (by decide) rfl (fun ls hl => ?_)
    exact w_X9_show_b26 C0 hC N z5 p0 0 _ _ _ hf hP hL (lv_sub hl [1, 2, 0] rfl)
  · have hf := cx_t hf c4
    refine lv_aload_n hx hb dX9_show_13 rfl (lv_at hl 0 rfl) ?_
    refine lv_iconst (v := 1) hx hb dX9_show_14 (by decide) ?_
    obtain ⟨r6, q7, hf⟩ := cx_b hf
    refine cx_callV (As := [.int 1]) (rest := []) ⟨hx, hb, hml, hown, hts⟩ (c_X9_fail hC q7) (cwV 1 hts (gV mw_151 mw_152 mw_153 mw_5 mw_154) rfl rfl rfl hd_X9_fail ⟨Nat.le_of_ble_eq_true rfl, Nat.le_of_ble_eq_true rfl⟩) hK hP rfl (at_Model hC hP) rfl hl.1 rfl (Nat.le_of_ble_eq_true rfl) dX9_show_15 ⟨Nat.zero_le _, Nat.zero_le _⟩ hL (fun H locs hP hL => ?_)
    replace hP : P r6.2 H := by first | exact hP | (simpa only [va_up_id] using hP)
    cases hf
    exact cx_iret hx hb hr hlocks hP hL dX9_show_18
abbrev rm_X9_output : Room := { frames := 1, cells := 0, slots := 0, locals := 22 }
theorem hd_X9_output : yX9_output.cls = RX9 ∧ yX9_output.cls ≠ "java/lang/invoke/MethodHandle" ∧ yX9_output.cls ≠ "java/lang/invoke/VarHandle" ∧ (parseMethodDescriptor yX9_output.desc).map (fun d => d.parameters.length) = some 1 := by decide +kernel
def f_X9_output (μ : MdlS) (p0 : Int32) : Option (Int32 × MdlS) := cx_let ((oI μ.1 6 0, μ.2)) fun z1 => (f_X9_isBetween p0 0 (z1.1.2 22 - 1)).bind fun r2 => if r2 = 0 then some ((-1), z1) else gd p0 200 (some ((z1.1.1 21 (Int32.toNatClampNeg p0)), z1))
set_option maxHeartbeats 4000000 in
set_option maxRecDepth 100000 in
theorem c_X9_output {l : Launch} {G : va_G} {cA : Nat → ClassId} {lo : Nat} {ad : Nat → Nat} {P : MdlS → Heap → Prop} (hC : cx G lo 9 ad (ceModel cA ad) P) {μ : MdlS} {p0 : Int32} {res : Int32 × MdlS} (hf : f_X9_output μ p0 = some res) : Met l yX9_output (cW yX9_output cX9_output 2 (some .int)) rm_X9_output (cP [.ref (ad 0), .int p0] (P μ) G cA) (cQ (some (.int res.1)) (P res.2)) 0 0 (fun q => lo ≤ q) := by
  refine cx_met (by decide) (Nat.le_of_ble_eq_true rfl) (fun p e s m args below meth c ls C0 hP hl => ?_)
  have hl : lv_has ls 2 [(0, .ref (ad 0)), (1, .int p0)] := hl
  obtain ⟨⟨hx, hb, hml, hown, hts⟩, hr, hlocks, hK⟩ := id C0
  have hL : ∀ q ∈ ([] : List Loc), lo ≤ q.base := fun q h => nomatch h
  unfold f_X9_output at hf
  refine lv_aload_n hx hb dX9_output_0 rfl (lv_at hl 0 rfl) ?_
  refine lv_iconst (v := 0) hx hb dX9_output_1 (by decide) ?_
  obtain ⟨z1, ez1, hf⟩ := cx_letE hf
  refine p_Model_6 hC hP hx hb hts hown hK mw_149 dX9_output_2 hL (fun H locs hP hL => ?_)
  replace hP : P z1 H := by rw [← ez1]; exact hP
  refine lv_iload_n hx hb dX9_output_5 rfl (lv_at hl 1 rfl) ?_
  refine lv_iconst (v := 0) hx hb dX9_output_6 (by decide) ?_
  refine lv_aload_n hx hb dX9_output_7 rfl (lv_at hl 0 rfl) ?_
  refine g_Model_22 hC hP hx hb hts hown hK mw_1298 dX9_output_8 ?_
  refine lv_iconst (v := 1) hx hb dX9_output_11 (by decide) ?_
  refine lv_isub hx hb dX9_output_12 ?_
  obtain ⟨r2, q3, hf⟩ := cx_b hf
  refine cx_callS (As := [.int p0, .int 0, .int (z1.1.2 22 - 1)]) (rest := []) ⟨hx, hb, hml, hown, hts⟩ (c_X9_isBetween (PH := P z1) q3) (cwS 3 hts (gS mw_176 mw_177 mw_5 mw_178) rfl rfl rfl hd_X9_isBetween ⟨Nat.le_of_ble_eq_true rfl, Nat.le_of_ble_eq_true rfl⟩) hK hP rfl hl.1 rfl (Nat.le_of_ble_eq_true rfl) dX9_output_13 ⟨Nat.zero_le _, Nat.zero_le _⟩ hL (fun H locs hP hL => ?_)
  refine lv_if_eq (tgt := 28) hx hb dX9_output_16 (by decide) (fun c4 => ?_) (fun c4 => ?_)
  · have hf := cx_t hf c4
    refine lv_iconst (v := (-1)) hx hb dX9_output_28 (by decide) ?_
    cases hf
    exact cx_iret hx hb hr hlocks hP hL dX9_output_29
  · have hf := cx_f hf c4
    refine lv_aload_n hx hb dX9_output_19 rfl (lv_at hl 0 rfl) ?_
    refine g_Model_21 hC hP hx hb hts hown hK mw_123 dX9_output_20 ?_
    refine lv_iload_n hx hb dX9_output_23 rfl (lv_at hl 1 rfl) ?_
    obtain ⟨hi5, hf⟩ := gdE hf
    refine ga_Model_21 hC hP hx hb hK hi5 dX9_output_24 ?_
    refine lv_goto (tgt := 29) hx hb dX9_output_25 (by decide) ?_
    cases hf
    exact cx_iret hx hb hr hlocks hP hL dX9_output_29
abbrev rm_X9_undo : Room := { frames := 1, cells := 0, slots := 0, locals := 24 }
theorem hd_X9_undo : yX9_undo.cls = RX9 ∧ yX9_undo.cls ≠ "java/lang/invoke/MethodHandle" ∧ yX9_undo.cls ≠ "java/lang/invoke/VarHandle" ∧ (parseMethodDescriptor yX9_undo.desc).map (fun d => d.parameters.length) = some 0 := by decide +kernel
def f_X9_undo (N : Nat) (μ : MdlS) : Option (Int32 × MdlS) := cx_let ((oI μ.1 6 0, μ.2)) fun z1 => if z1.1.2 5 = 0 then some ((-1), z1) else cx_let ((oI z1.1 5 (z1.1.2 5 - 1), z1.2)) fun z3 => (f_X9_copyM_2_0 N z3 (1384 * z3.1.2 5) 0).bind fun r4 => some (r4.1.2 5, r4)
set_option maxHeartbeats 4000000 in
set_option maxRecDepth 100000 in
theorem c_X9_undo {l : Launch} {G : va_G} {cA : Nat → ClassId} {lo : Nat} {ad : Nat → Nat} {P : MdlS → Heap → Prop} (hC : cx G lo 9 ad (ceModel cA ad) P) {N : Nat} {μ : MdlS} {res : Int32 × MdlS} (hf : f_X9_undo N μ = some res) : Met l yX9_undo (cW yX9_undo cX9_undo 1 (some .int)) rm_X9_undo (cP [.ref (ad 0)] (P μ) G cA) (cQ (some (.int res.1)) (P res.2)) 0 0 (fun q => lo ≤ q) := by
  refine cx_met (by decide) (Nat.le_of_ble_eq_true rfl) (fun p e s m args below meth c ls C0 hP hl => ?_)
  have hl : lv_has ls 1 [(0, .ref (ad 0))] := hl
  obtain ⟨⟨hx, hb, hml, hown, hts⟩, hr, hlocks, hK⟩ := id C0
  have hL : ∀ q ∈ ([] : List Loc), lo ≤ q.base := fun q h => nomatch h
  unfold f_X9_undo at hf
  refine lv_aload_n hx hb dX9_undo_0 rfl (lv_at hl 0 rfl) ?_
  refine lv_iconst (v := 0) hx hb dX9_undo_1 (by decide) ?_
  obtain ⟨z1, ez1, hf⟩ := cx_letE hf
  refine p_Model_6 hC hP hx hb hts hown hK mw_149 dX9_undo_2 hL (fun H locs hP hL => ?_)
  replace hP : P z1 H := by rw [← ez1]; exact hP
  refine lv_aload_n hx hb dX9_undo_5 rfl (lv_at hl 0 rfl) ?_
  refine g_Model_5 hC hP hx hb hts hown hK mw_594 dX9_undo_6 ?_
  refine lv_if_ne (tgt := 14) hx hb dX9_undo_9 (by decide) (fun c2 => ?_) (fun c2 => ?_)
  · have hf := cx_f hf c2
    refine lv_aload_n hx hb dX9_undo_14 rfl (lv_at hl 0 rfl) ?_
    refine lv_dup hx hb dX9_undo_15 rfl ?_
    refine g_Model_5 hC hP hx hb hts hown hK mw_594 dX9_undo_16 ?_
    refine lv_iconst (v := 1) hx hb dX9_undo_19 (by decide) ?_
    refine lv_isub hx hb dX9_undo_20 ?_
    obtain ⟨z3, ez3, hf⟩ := cx_letE hf
    refine p_Model_5 hC hP hx hb hts hown hK mw_594 dX9_undo_21 hL (fun H locs hP hL => ?_)
    replace hP : P z3 H := by rw [← ez3]; exact hP
    refine lv_aload_n hx hb dX9_undo_24 rfl (lv_at hl 0 rfl) ?_
    refine g_Model_2 hC hP hx hb hts hown hK mw_116 dX9_undo_25 ?_
    refine lv_sipush (v := 1384) hx hb dX9_undo_28 (by decide) ?_
    refine lv_aload_n hx hb dX9_undo_31 rfl (lv_at hl 0 rfl) ?_
    refine g_Model_5 hC hP hx hb hts hown hK mw_594 dX9_undo_32 ?_
    refine lv_imul hx hb dX9_undo_35 ?_
    refine lv_aload_n hx hb dX9_undo_36 rfl (lv_at hl 0 rfl) ?_
    refine g_Model_0 hC hP hx hb hts hown hK mw_114 dX9_undo_37 ?_
    refine lv_iconst (v := 0) hx hb dX9_undo_40 (by decide) ?_
    obtain ⟨r4, q5, hf⟩ := cx_b hf
    refine cx_callS (As := [.ref (ad 3), .int (1384 * z3.1.2 5), .ref (ad 1), .int 0]) (rest := []) ⟨hx, hb, hml, hown, hts⟩ (c_X9_copyM_2_0 hC q5) (cwS 4 hts (gS mw_595 mw_596 mw_5 mw_597) rfl rfl rfl hd_X9_copy ⟨Nat.le_of_ble_eq_true rfl, Nat.le_of_ble_eq_true rfl⟩) hK hP rfl hl.1 rfl (Nat.le_of_ble_eq_true rfl) dX9_undo_41 ⟨Nat.zero_le _, Nat.zero_le _⟩ hL (fun H locs hP hL => ?_)
    replace hP : P r4 H := by first | exact hP | (simpa only [va_up_id] using hP)
    refine lv_aload_n hx hb dX9_undo_44 rfl (lv_at hl 0 rfl) ?_
    refine g_Model_5 hC hP hx hb hts hown hK mw_594 dX9_undo_45 ?_
    cases hf
    exact cx_iret hx hb hr hlocks hP hL dX9_undo_48
  · have hf := cx_t hf c2
    refine lv_iconst (v := (-1)) hx hb dX9_undo_12 (by decide) ?_
    cases hf
    exact cx_iret hx hb hr hlocks hP hL dX9_undo_13
abbrev rm_X9_save : Room := { frames := 1, cells := 0, slots := 0, locals := 24 }
theorem hd_X9_save : yX9_save.cls = RX9 ∧ yX9_save.cls ≠ "java/lang/invoke/MethodHandle" ∧ yX9_save.cls ≠ "java/lang/invoke/VarHandle" ∧ (parseMethodDescriptor yX9_save.desc).map (fun d => d.parameters.length) = some 1 := by decide +kernel
def f_X9_save_b15 (N : Nat) (μ : MdlS) (x1 : Int32) (y0 : Int32) : Option (MdlS) := cx_let ((oI μ.1 6 y0, μ.2)) fun z1 => if z1.1.2 6 = 0 then (f_X9_copyM_0_3 N z1 0 (1384 * x1)).bind fun r3 => gd x1 2 (cx_let ((oA r3.1 4 (Int32.toNatClampNeg x1) (vp_nar .boolean 1), r3.2)) fun z6 => some z6) else some z1
set_option maxHeartbeats 4000000 in
set_option maxRecDepth 100000 in
theorem w_X9_save_b15 {p : Program} {l : Launch} {e : Env} {s : State} {m : MethodId} {args : Array Value} {below : List Frame} {meth : Method} {c : Code} {G : va_G} {cA : Nat → ClassId} (C0 : cB p s m args meth c RX9 cX9_save 2 none G cA) {lo : Nat} {ad : Nat → Nat} {P : MdlS → Heap → Prop} (hC : cx G lo 9 ad (ceModel cA ad) P) {N : Nat} {res : MdlS} : ∀ (μ : MdlS) (x1 : Int32) (y0 : Int32) (H : Heap) (locs : List Loc) (ls : Array Slot), f_X9_save_b15 N μ x1 y0 = some res → P μ H → (∀ q ∈ locs, lo ≤ q.base) → lv_has ls 2 [(0, .ref (ad 0)), (1, .int x1)] → W p l e rm_X9_save s m args below meth c H locs 0 0 (MQ below (cQ none (P res)) args s 0 0 (fun q => lo ≤ q)) (F0 m 15 ls [.int y0, .ref (ad 0)]) := by
  obtain ⟨⟨hx, hb, hml, hown, hts⟩, hr, hlocks, hK⟩ := id C0
  intro μ x1 y0 H locs ls hf hP hL hl
  unfold f_X9_save_b15 at hf
  obtain ⟨z1, ez1, hf⟩ := cx_letE hf
  refine p_Model_6 hC hP hx hb hts hown hK mw_149 dX9_save_15 hL (fun H locs hP hL => ?_)
  replace hP : P z1 H := by rw [← ez1]; exact hP
  refine lv_aload_n hx hb dX9_save_18 rfl (lv_at hl 0 rfl) ?_
  refine g_Model_6 hC hP hx hb hts hown hK mw_149 dX9_save_19 ?_
  refine lv_if_ne (tgt := 49) hx hb dX9_save_22 (by decide) (fun c2 => ?_) (fun c2 => ?_)
  · have hf := cx_f hf c2
    cases hf
    exact cx_vret hx hb hr hlocks hP hL dX9_save_49
  · have hf := cx_t hf c2
    refine lv_aload_n hx hb dX9_save_25 rfl (lv_at hl 0 rfl) ?_
    refine g_Model_0 hC hP hx hb hts hown hK mw_114 dX9_save_26 ?_
    refine lv_iconst (v := 0) hx hb dX9_save_29 (by decide) ?_
    refine lv_aload_n hx hb dX9_save_30 rfl (lv_at hl 0 rfl) ?_
    refine g_Model_3 hC hP hx hb hts hown hK mw_117 dX9_save_31 ?_
    refine lv_sipush (v := 1384) hx hb dX9_save_34 (by decide) ?_
    refine lv_iload_n hx hb dX9_save_37 rfl (lv_at hl 1 rfl) ?_
    refine lv_imul hx hb dX9_save_38 ?_
    obtain ⟨r3, q4, hf⟩ := cx_b hf
    refine cx_callS (As := [.ref (ad 1), .int 0, .ref (ad 4), .int (1384 * x1)]) (rest := []) ⟨hx, hb, hml, hown, hts⟩ (c_X9_copyM_0_3 hC q4) (cwS 4 hts (gS mw_595 mw_596 mw_5 mw_597) rfl rfl rfl hd_X9_copy ⟨Nat.le_of_ble_eq_true rfl, Nat.le_of_ble_eq_true rfl⟩) hK hP rfl hl.1 rfl (Nat.le_of_ble_eq_true rfl) dX9_save_39 ⟨Nat.zero_le _, Nat.zero_le _⟩ hL (fun H locs hP hL => ?_)
    replace hP : P r3 H := by first | exact hP | (simpa only [va_up_id] using hP)
    refine lv_aload_n hx hb dX9_save_42 rfl (lv_at hl 0 rfl) ?_
    refine g_Model_4 hC hP hx hb hts hown hK mw_119 dX9_save_43 ?_
    refine lv_iload_n hx hb dX9_save_46 rfl (lv_at hl 1 rfl) ?_
    refine lv_iconst (v := 1) hx hb dX9_save_47 (by decide) ?_
    obtain ⟨hi5, hf⟩ := gdE hf
    obtain ⟨z6, ez6, hf⟩ := cx_letE hf
    refine pa_Model_4 hC hP hx hb hK hi5 dX9_save_48 hL (fun H locs hP hL => ?_)
    replace hP : P z6 H := by rw [← ez6]; exact hP
    cases hf
    exact cx_vret hx hb hr hlocks hP hL dX9_save_49
def f_X9_save (N : Nat) (μ : MdlS) (p0 : Int32) : Option (MdlS) := (f_X9_isBetween p0 0 1).bind fun r1 => if r1 = 0 then f_X9_save_b15 N μ p0 1 else f_X9_save_b15 N μ p0 0
set_option maxHeartbeats 4000000 in
set_option maxRecDepth 100000 in
theorem c_X9_save {l : Launch} {G : va_G} {cA : Nat → ClassId} {lo : Nat} {ad : Nat → Nat} {P : MdlS → Heap → Prop} (hC : cx G lo 9 ad (ceModel cA ad) P) {N : Nat} {μ : MdlS} {p0 : Int32} {res : MdlS} (hf : f_X9_save N μ p0 = some res) : Met l yX9_save (cW yX9_save cX9_save 2 none) rm_X9_save (cP [.ref (ad 0), .int p0] (P μ) G cA) (cQ none (P res)) 0 0 (fun q => lo ≤ q) := by
  refine cx_met (by decide) (Nat.le_of_ble_eq_true rfl) (fun p e s m args below meth c ls C0 hP hl => ?_)
  have hl : lv_has ls 2 [(0, .ref (ad 0)), (1, .int p0)] := hl
  obtain ⟨⟨hx, hb, hml, hown, hts⟩, hr, hlocks, hK⟩ := id C0
  have hL : ∀ q ∈ ([] : List Loc), lo ≤ q.base := fun q h => nomatch h
  unfold f_X9_save at hf
  refine lv_aload_n hx hb dX9_save_0 rfl (lv_at hl 0 rfl) ?_
  refine lv_iload_n hx hb dX9_save_1 rfl (lv_at hl 1 rfl) ?_
  refine lv_iconst (v := 0) hx hb dX9_save_2 (by decide) ?_
  refine lv_iconst (v := 1) hx hb dX9_save_3 (by decide) ?_
  obtain ⟨r1, q2, hf⟩ := cx_b hf
  refine cx_callS (As := [.int p0, .int 0, .int 1]) (rest := [.ref (ad 0)]) ⟨hx, hb, hml, hown, hts⟩ (c_X9_isBetween (PH := P μ) q2) (cwS 3 hts (gS mw_176 mw_177 mw_5 mw_178) rfl rfl rfl hd_X9_isBetween ⟨Nat.le_of_ble_eq_true rfl, Nat.le_of_ble_eq_true rfl⟩) hK hP rfl hl.1 rfl (Nat.le_of_ble_eq_true rfl) dX9_save_4 ⟨Nat.zero_le _, Nat.zero_le _⟩ hL (fun H locs hP hL => ?_)
  refine lv_if_eq (tgt := 14) hx hb dX9_save_7 (by decide) (fun c3 => ?_) (fun c3 => ?_)
  · have hf := cx_t hf c3
    refine lv_iconst (v := 1) hx hb dX9_save_14 (by decide) ?_
    exact w_X9_save_b15 C0 hC μ p0 1 _ _ _ hf hP hL (lv_sub hl [0, 1] rfl)
  · have hf := cx_f hf c3
    refine lv_iconst (v := 0) hx hb dX9_save_10 (by decide) ?_
    refine lv_goto (tgt := 15) hx hb dX9_save_11 (by decide) ?_
    exact w_X9_save_b15 C0 hC μ p0 0 _ _ _ hf hP hL (lv_sub hl [0, 1] rfl)
abbrev rm_X9_restore : Room := { frames := 1, cells := 0, slots := 0, locals := 24 }
theorem hd_X9_restore : yX9_restore.cls = RX9 ∧ yX9_restore.cls ≠ "java/lang/invoke/MethodHandle" ∧ yX9_restore.cls ≠ "java/lang/invoke/VarHandle" ∧ (parseMethodDescriptor yX9_restore.desc).map (fun d => d.parameters.length) = some 1 := by decide +kernel
def f_X9_restore_b28 (N : Nat) (μ : MdlS) (x1 : Int32) (y0 : Int32) : Option (MdlS) := cx_let ((oI μ.1 6 y0, μ.2)) fun z1 => if z1.1.2 6 = 0 then (f_X9_copyM_3_0 N z1 (1384 * x1) 0).bind fun r3 => cx_let ((oI r3.1 5 0, r3.2)) fun z5 => some z5 else some z1
set_option maxHeartbeats 4000000 in
set_option maxRecDepth 100000 in
theorem w_X9_restore_b28 {p : Program} {l : Launch} {e : Env} {s : State} {m : MethodId} {args : Array Value} {below : List Frame} {meth : Method} {c : Code} {G : va_G} {cA : Nat → ClassId} (C0 : cB p s m args meth c RX9 cX9_restore 2 none G cA) {lo : Nat} {ad : Nat → Nat} {P : MdlS → Heap → Prop} (hC : cx G lo 9 ad (ceModel cA ad) P) {N : Nat} {res : MdlS} : ∀ (μ : MdlS) (x1 : Int32) (y0 : Int32) (H : Heap) (locs : List Loc) (ls : Array Slot), f_X9_restore_b28 N μ x1 y0 = some res → P μ H → (∀ q ∈ locs, lo ≤ q.base) → lv_has ls 2 [(0, .ref (ad 0)), (1, .int x1)] → W p l e rm_X9_restore s m args below meth c H locs 0 0 (MQ below (cQ none (P res)) args s 0 0 (fun q => lo ≤ q)) (F0 m 28 ls [.int y0, .ref (ad 0)]) := by
  obtain ⟨⟨hx, hb, hml, hown, hts⟩, hr, hlocks, hK⟩ := id C0
  intro μ x1 y0 H locs ls hf hP hL hl
  unfold f_X9_restore_b28 at hf
  obtain ⟨z1, ez1, hf⟩ := cx_letE hf
  refine p_Model_6 hC hP hx hb hts hown hK mw_149 dX9_restore_28 hL (fun H locs hP hL => ?_)
  replace hP : P z1 H := by rw [← ez1]; exact hP
  refine lv_aload_n hx hb dX9_restore_31 rfl (lv_at hl 0 rfl) ?_
  refine g_Model_6 hC hP hx hb hts hown hK mw_149 dX9_restore_32 ?_
  refine lv_if_ne (tgt := 60) hx hb dX9_restore_35 (by decide) (fun c2 => ?_) (fun c2 => ?_)
  · have hf := cx_f hf c2
    cases hf
    exact cx_vret hx hb hr hlocks hP hL dX9_restore_60
  · have hf := cx_t hf c2
    refine lv_aload_n hx hb dX9_restore_38 rfl (lv_at hl 0 rfl) ?_
    refine g_Model_3 hC hP hx hb hts hown hK mw_117 dX9_restore_39 ?_
    refine lv_sipush (v := 1384) hx hb dX9_restore_42 (by decide) ?_
    refine lv_iload_n hx hb dX9_restore_45 rfl (lv_at hl 1 rfl) ?_
    refine lv_imul hx hb dX9_restore_46 ?_
    refine lv_aload_n hx hb dX9_restore_47 rfl (lv_at hl 0 rfl) ?_
    refine g_Model_0 hC hP hx hb hts hown hK mw_114 dX9_restore_48 ?_
    refine lv_iconst (v := 0) hx hb dX9_restore_51 (by decide) ?_
    obtain ⟨r3, q4, hf⟩ := cx_b hf
    refine cx_callS (As := [.ref (ad 4), .int (1384 * x1), .ref (ad 1), .int 0]) (rest := []) ⟨hx, hb, hml, hown, hts⟩ (c_X9_copyM_3_0 hC q4) (cwS 4 hts (gS mw_595 mw_596 mw_5 mw_597) rfl rfl rfl hd_X9_copy ⟨Nat.le_of_ble_eq_true rfl, Nat.le_of_ble_eq_true rfl⟩) hK hP rfl hl.1 rfl (Nat.le_of_ble_eq_true rfl) dX9_restore_52 ⟨Nat.zero_le _, Nat.zero_le _⟩ hL (fun H locs hP hL => ?_)
    replace hP : P r3 H := by first | exact hP | (simpa only [va_up_id] using hP)
    refine lv_aload_n hx hb dX9_restore_55 rfl (lv_at hl 0 rfl) ?_
    refine lv_iconst (v := 0) hx hb dX9_restore_56 (by decide) ?_
    obtain ⟨z5, ez5, hf⟩ := cx_letE hf
    refine p_Model_5 hC hP hx hb hts hown hK mw_594 dX9_restore_57 hL (fun H locs hP hL => ?_)
    replace hP : P z5 H := by rw [← ez5]; exact hP
    cases hf
    exact cx_vret hx hb hr hlocks hP hL dX9_restore_60
def f_X9_restore (N : Nat) (μ : MdlS) (p0 : Int32) : Option (MdlS) := (f_X9_isBetween p0 0 1).bind fun r1 => if r1 = 0 then f_X9_restore_b28 N μ p0 1 else gd p0 2 (if (μ.1.1 4 (Int32.toNatClampNeg p0)) = 0 then f_X9_restore_b28 N μ p0 2 else f_X9_restore_b28 N μ p0 0)
set_option maxHeartbeats 4000000 in
set_option maxRecDepth 100000 in
theorem c_X9_restore {l : Launch} {G : va_G} {cA : Nat → ClassId} {lo : Nat} {ad : Nat → Nat} {P : MdlS → Heap → Prop} (hC : cx G lo 9 ad (ceModel cA ad) P) {N : Nat} {μ : MdlS} {p0 : Int32} {res : MdlS} (hf : f_X9_restore N μ p0 = some res) : Met l yX9_restore (cW yX9_restore cX9_restore 2 none) rm_X9_restore (cP [.ref (ad 0), .int p0] (P μ) G cA) (cQ none (P res)) 0 0 (fun q => lo ≤ q) := by
  refine cx_met (by decide) (Nat.le_of_ble_eq_true rfl) (fun p e s m args below meth c ls C0 hP hl => ?_)
  have hl : lv_has ls 2 [(0, .ref (ad 0)), (1, .int p0)] := hl
  obtain ⟨⟨hx, hb, hml, hown, hts⟩, hr, hlocks, hK⟩ := id C0
  have hL : ∀ q ∈ ([] : List Loc), lo ≤ q.base := fun q h => nomatch h
  unfold f_X9_restore at hf
  refine lv_aload_n hx hb dX9_restore_0 rfl (lv_at hl 0 rfl) ?_
  refine lv_iload_n hx hb dX9_restore_1 rfl (lv_at hl 1 rfl) ?_
  refine lv_iconst (v := 0) hx hb dX9_restore_2 (by decide) ?_
  refine lv_iconst (v := 1) hx hb dX9_restore_3 (by decide) ?_
  obtain ⟨r1, q2, hf⟩ := cx_b hf
  refine cx_callS (As := [.int p0, .int 0, .int 1]) (rest := [.ref (ad 0)]) ⟨hx, hb, hml, hown, hts⟩ (c_X9_isBetween (PH := P μ) q2) (cwS 3 hts (gS mw_176 mw_177 mw_5 mw_178) rfl rfl rfl hd_X9_isBetween ⟨Nat.le_of_ble_eq_true rfl, Nat.le_of_ble_eq_true rfl⟩) hK hP rfl hl.1 rfl (Nat.le_of_ble_eq_true rfl) dX9_restore_4 ⟨Nat.zero_le _, Nat.zero_le _⟩ hL (fun H locs hP hL => ?_)
  refine lv_if_ne (tgt := 14) hx hb dX9_restore_7 (by decide) (fun c3 => ?_) (fun c3 => ?_)
  · have hf := cx_f hf c3
    refine lv_aload_n hx hb dX9_restore_14 rfl (lv_at hl 0 rfl) ?_
    refine g_Model_4 hC hP hx hb hts hown hK mw_119 dX9_restore_15 ?_
    refine lv_iload_n hx hb dX9_restore_18 rfl (lv_at hl 1 rfl) ?_
    obtain ⟨hi4, hf⟩ := gdE hf
    refine ga_Model_4 hC hP hx hb hK hi4 dX9_restore_19 ?_
    refine lv_if_ne (tgt := 27) hx hb dX9_restore_20 (by decide) (fun c5 => ?_) (fun c5 => ?_)
    · have hf := cx_f hf c5
      refine lv_iconst (v := 0) hx hb dX9_restore_27 (by decide) ?_
      exact w_X9_restore_b28 C0 hC μ p0 0 _ _ _ hf hP hL (lv_sub hl [0, 1] rfl)
    · have hf := cx_t hf c5
      refine lv_iconst (v := 2) hx hb dX9_restore_23 (by decide) ?_
      refine lv_goto (tgt := 28) hx hb dX9_restore_24 (by decide) ?_
      exact w_X9_restore_b28 C0 hC μ p0 2 _ _ _ hf hP hL (lv_sub hl [0, 1] rfl)
  · have hf := cx_t hf c3
    refine lv_iconst (v := 1) hx hb dX9_restore_10 (by decide) ?_
    refine lv_goto (tgt := 28) hx hb dX9_restore_11 (by decide) ?_
    exact w_X9_restore_b28 C0 hC μ p0 1 _ _ _ hf hP hL (lv_sub hl [0, 1] rfl)
