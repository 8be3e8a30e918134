abbrev rm_X7_addByte : Room := { frames := 0, cells := 0, slots := 0, locals := 0 }
theorem hd_X7_addByte : yX7_addByte.cls = RX7 ∧ yX7_addByte.cls ≠ "java/lang/invoke/MethodHandle" ∧ yX7_addByte.cls ≠ "java/lang/invoke/VarHandle" ∧ (parseMethodDescriptor yX7_addByte.desc).map (fun d => d.parameters.length) = some 1 := by decide +kernel
def f_X7_addByte (τ : ObjS) (p0 : Int32) : Option (ObjS) := if τ.2 5 < 0 then some τ else if 600 ≤ τ.2 5 then some τ else gd (τ.2 5) 600 (cx_let (oA τ 8 (Int32.toNatClampNeg (τ.2 5)) p0) fun z4 => cx_let (oI z4 5 (z4.2 5 + 1)) fun z5 => some z5)
set_option maxHeartbeats 4000000 in
set_option maxRecDepth 100000 in
theorem c_X7_addByte {l : Launch} {G : va_G} {cA : Nat → ClassId} {lo : Nat} {ad : Nat → Nat} {P : ObjS → Heap → Prop} (hC : cx G lo 6 ad (ceTrace cA ad) P) {τ : ObjS} {p0 : Int32} {res : ObjS} (hf : f_X7_addByte τ p0 = some res) : Met l yX7_addByte (cW yX7_addByte cX7_addByte 2 none) rm_X7_addByte (cP [.ref (ad 0), .int p0] (P τ) G cA) (cQ none (P res)) 0 0 (fun q => lo ≤ q) := by
  refine cx_met (by decide) (Nat.le_of_ble_eq_true rfl) (fun p e s m args below meth c ls C0 hP hl => ?_)
  have hl : lv_has ls 2 [(0, .ref (ad 0)), (1, .int p0)] := hl
  obtain ⟨⟨hx, hb, hml, hown, hts⟩, hr, hlocks, hK⟩ := id C0
  have hL : ∀ q ∈ ([] : List Loc), lo ≤ q.base := fun q h => nomatch h
  unfold f_X7_addByte at hf
  refine lv_aload_n hx hb dX7_addByte_0 rfl (lv_at hl 0 rfl) ?_
  refine g_Trace_5 hC hP hx hb hts hown hK mw_144 dX7_addByte_1 ?_
  refine lv_if_lt (tgt := 37) hx hb dX7_addByte_4 (by decide) (fun c1 => ?_) (fun c1 => ?_)
  · have hf := cx_t hf c1
    cases hf
    exact cx_vret hx hb hr hlocks hP hL dX7_addByte_37
  · have hf := cx_f hf c1
    refine lv_aload_n hx hb dX7_addByte_7 rfl (lv_at hl 0 rfl) ?_
    refine g_Trace_5 hC hP hx hb hts hown hK mw_144 dX7_addByte_8 ?_
    refine lv_sipush (v := 600) hx hb dX7_addByte_11 (by decide) ?_
    refine lv_icmp_ge (tgt := 37) hx hb dX7_addByte_14 (by decide) (fun c2 => ?_) (fun c2 => ?_)
    · have hf := cx_t hf c2
      cases hf
      exact cx_vret hx hb hr hlocks hP hL dX7_addByte_37
    · have hf := cx_f hf c2
      refine lv_aload_n hx hb dX7_addByte_17 rfl (lv_at hl 0 rfl) ?_
      refine g_Trace_8 hC hP hx hb hts hown hK mw_37 dX7_addByte_18 ?_
      refine lv_aload_n hx hb dX7_addByte_21 rfl (lv_at hl 0 rfl) ?_
      refine g_Trace_5 hC hP hx hb hts hown hK mw_144 dX7_addByte_22 ?_
      refine lv_iload_n hx hb dX7_addByte_25 rfl (lv_at hl 1 rfl) ?_
      obtain ⟨hi3, hf⟩ := gdE hf
      obtain ⟨z4, ez4, hf⟩ := cx_letE hf
      refine pa_Trace_8 hC hP hx hb hK hi3 dX7_addByte_26 hL (fun H locs hP hL => ?_)
      replace hP : P z4 H := by rw [← ez4]; exact hP
      refine lv_aload_n hx hb dX7_addByte_27 rfl (lv_at hl 0 rfl) ?_
      refine lv_dup hx hb dX7_addByte_28 rfl ?_
      refine g_Trace_5 hC hP hx hb hts hown hK mw_144 dX7_addByte_29 ?_
      refine lv_iconst (v := 1) hx hb dX7_addByte_32 (by decide) ?_
      refine lv_iadd hx hb dX7_addByte_33 ?_
      obtain ⟨z5, ez5, hf⟩ := cx_letE hf
      refine p_Trace_5 hC hP hx hb hts hown hK mw_144 dX7_addByte_34 hL (fun H locs hP hL => ?_)
      replace hP : P z5 H := by rw [← ez5]; exact hP
      cases hf
      exact cx_vret hx hb hr hlocks hP hL dX7_addByte_37
abbrev rm_X7_partOf_0 : Room := { frames := 0, cells := 0, slots := 0, locals := 0 }
theorem hd_X7_partOf : yX7_partOf.cls = RX7 ∧ yX7_partOf.cls ≠ "java/lang/invoke/MethodHandle" ∧ yX7_partOf.cls ≠ "java/lang/invoke/VarHandle" ∧ (parseMethodDescriptor yX7_partOf.desc).map (fun d => d.parameters.length) = some 2 := by decide +kernel
def f_X7_partOf_0 (τ : ObjS) (p1 : Int32) : Option (Int32) := if p1 < 0 then some (-1) else if 40 ≤ p1 then some (-1) else gd p1 40 (some (τ.1 0 (Int32.toNatClampNeg p1)))
set_option maxHeartbeats 4000000 in
set_option maxRecDepth 100000 in
theorem c_X7_partOf_0 {l : Launch} {G : va_G} {cA : Nat → ClassId} {lo : Nat} {ad : Nat → Nat} {P : ObjS → Heap → Prop} (hC : cx G lo 6 ad (ceTrace cA ad) P) {τ : ObjS} {p1 : Int32} {res : Int32} (hf : f_X7_partOf_0 τ p1 = some res) : Met l yX7_partOf (cW yX7_partOf cX7_partOf 3 (some .int)) rm_X7_partOf_0 (cP [.ref (ad 0), .ref (ad 2), .int p1] (P τ) G cA) (cQ (some (.int res)) (P τ)) 0 0 (fun q => lo ≤ q) := by
  refine cx_met (by decide) (Nat.le_of_ble_eq_true rfl) (fun p e s m args below meth c ls C0 hP hl => ?_)
  have hl : lv_has ls 3 [(0, .ref (ad 0)), (1, .ref (ad 2)), (2, .int p1)] := hl
  obtain ⟨⟨hx, hb, hml, hown, hts⟩, hr, hlocks, hK⟩ := id C0
  have hL : ∀ q ∈ ([] : List Loc), lo ≤ q.base := fun q h => nomatch h
  unfold f_X7_partOf_0 at hf
  refine lv_iload_n hx hb dX7_partOf_0 rfl (lv_at hl 2 rfl) ?_
  refine lv_if_lt (tgt := 16) hx hb dX7_partOf_1 (by decide) (fun c1 => ?_) (fun c1 => ?_)
  · have hf := cx_t hf c1
    refine lv_iconst (v := (-1)) hx hb dX7_partOf_16 (by decide) ?_
    cases hf
    exact cx_iret hx hb hr hlocks hP hL dX7_partOf_17
  · have hf := cx_f hf c1
    refine lv_iload_n hx hb dX7_partOf_4 rfl (lv_at hl 2 rfl) ?_
    refine lv_aload_n hx hb dX7_partOf_5 rfl (lv_at hl 1 rfl) ?_
    refine la_Trace_0 hC hP hx hb hK dX7_partOf_6 ?_
    refine lv_icmp_ge (tgt := 16) hx hb dX7_partOf_7 (by decide) (fun c2 => ?_) (fun c2 => ?_)
    · have hf := cx_t hf c2
      refine lv_iconst (v := (-1)) hx hb dX7_partOf_16 (by decide) ?_
      cases hf
      exact cx_iret hx hb hr hlocks hP hL dX7_partOf_17
    · have hf := cx_f hf c2
      refine lv_aload_n hx hb dX7_partOf_10 rfl (lv_at hl 1 rfl) ?_
      refine lv_iload_n hx hb dX7_partOf_11 rfl (lv_at hl 2 rfl) ?_
      obtain ⟨hi3, hf⟩ := gdE hf
      refine ga_Trace_0 hC hP hx hb hK hi3 dX7_partOf_12 ?_
      refine lv_goto (tgt := 17) hx hb dX7_partOf_13 (by decide) ?_
      cases hf
      exact cx_iret hx hb hr hlocks hP hL dX7_partOf_17
abbrev rm_X7_partOf_1 : Room := { frames := 0, cells := 0, slots := 0, locals := 0 }
def f_X7_partOf_1 (τ : ObjS) (p1 : Int32) : Option (Int32) := if p1 < 0 then some (-1) else if 40 ≤ p1 then some (-1) else gd p1 40 (some (τ.1 1 (Int32.toNatClampNeg p1)))
set_option maxHeartbeats 4000000 in
set_option maxRecDepth 100000 in
theorem c_X7_partOf_1 {l : Launch} {G : va_G} {cA : Nat → ClassId} {lo : Nat} {ad : Nat → Nat} {P : ObjS → Heap → Prop} (hC : cx G lo 6 ad (ceTrace cA ad) P) {τ : ObjS} {p1 : Int32} {res : Int32} (hf : f_X7_partOf_1 τ p1 = some res) : Met l yX7_partOf (cW yX7_partOf cX7_partOf 3 (some .int)) rm_X7_partOf_1 (cP [.ref (ad 0), .ref (ad 3), .int p1] (P τ) G cA) (cQ (some (.int res)) (P τ)) 0 0 (fun q => lo ≤ q) := by
  refine cx_met (by decide) (Nat.le_of_ble_eq_true rfl) (fun p e s m args below meth c ls C0 hP hl => ?_)
  have hl : lv_has ls 3 [(0, .ref (ad 0)), (1, .ref (ad 3)), (2, .int p1)] := hl
  obtain ⟨⟨hx, hb, hml, hown, hts⟩, hr, hlocks, hK⟩ := id C0
  have hL : ∀ q ∈ ([] : List Loc), lo ≤ q.base := fun q h => nomatch h
  unfold f_X7_partOf_1 at hf
  refine lv_iload_n hx hb dX7_partOf_0 rfl (lv_at hl 2 rfl) ?_
  refine lv_if_lt (tgt := 16) hx hb dX7_partOf_1 (by decide) (fun c1 => ?_) (fun c1 => ?_)
  · have hf := cx_t hf c1
    refine lv_iconst (v := (-1)) hx hb dX7_partOf_16 (by decide) ?_
    cases hf
    exact cx_iret hx hb hr hlocks hP hL dX7_partOf_17
  · have hf := cx_f hf c1
    refine lv_iload_n hx hb dX7_partOf_4 rfl (lv_at hl 2 rfl) ?_
    refine lv_aload_n hx hb dX7_partOf_5 rfl (lv_at hl 1 rfl) ?_
    refine la_Trace_1 hC hP hx hb hK dX7_partOf_6 ?_
    refine lv_icmp_ge (tgt := 16) hx hb dX7_partOf_7 (by decide) (fun c2 => ?_) (fun c2 => ?_)
    · have hf := cx_t hf c2
      refine lv_iconst (v := (-1)) hx hb dX7_partOf_16 (by decide) ?_
      cases hf
      exact cx_iret hx hb hr hlocks hP hL dX7_partOf_17
    · have hf := cx_f hf c2
      refine lv_aload_n hx hb dX7_partOf_10 rfl (lv_at hl 1 rfl) ?_
      refine lv_iload_n hx hb dX7_partOf_11 rfl (lv_at hl 2 rfl) ?_
      obtain ⟨hi3, hf⟩ := gdE hf
      refine ga_Trace_1 hC hP hx hb hK hi3 dX7_partOf_12 ?_
      refine lv_goto (tgt := 17) hx hb dX7_partOf_13 (by decide) ?_
      cases hf
      exact cx_iret hx hb hr hlocks hP hL dX7_partOf_17
abbrev rm_X7_partOf_2 : Room := { frames := 0, cells := 0, slots := 0, locals := 0 }
def f_X7_partOf_2 (τ : ObjS) (p1 : Int32) : Option (Int32) := if p1 < 0 then some (-1) else if 40 ≤ p1 then some (-1) else gd p1 40 (some (τ.1 2 (Int32.toNatClampNeg p1)))
set_option maxHeartbeats 4000000 in
set_option maxRecDepth 100000 in
theorem c_X7_partOf_2 {l : Launch} {G : va_G} {cA : Nat → ClassId} {lo : Nat} {ad : Nat → Nat} {P : ObjS → Heap → Prop} (hC : cx G lo 6 ad (ceTrace cA ad) P) {τ : ObjS} {p1 : Int32} {res : Int32} (hf : f_X7_partOf_2 τ p1 = some res) : Met l yX7_partOf (cW yX7_partOf cX7_partOf 3 (some .int)) rm_X7_partOf_2 (cP [.ref (ad 0), .ref (ad 4), .int p1] (P τ) G cA) (cQ (some (.int res)) (P τ)) 0 0 (fun q => lo ≤ q) := by
  refine cx_met (by decide) (Nat.le_of_ble_eq_true rfl) (fun p e s m args below meth c ls C0 hP hl => ?_)
  have hl : lv_has ls 3 [(0, .ref (ad 0)), (1, .ref (ad 4)), (2, .int p1)] := hl
  obtain ⟨⟨hx, hb, hml, hown, hts⟩, hr, hlocks, hK⟩ := id C0
  have hL : ∀ q ∈ ([] : List Loc), lo ≤ q.base := fun q h => nomatch h
  unfold f_X7_partOf_2 at hf
  refine lv_iload_n hx hb dX7_partOf_0 rfl (lv_at hl 2 rfl) ?_
  refine lv_if_lt (tgt := 16) hx hb dX7_partOf_1 (by decide) (fun c1 => ?_) (fun c1 => ?_)
  · have hf := cx_t hf c1
    refine lv_iconst (v := (-1)) hx hb dX7_partOf_16 (by decide) ?_
    cases hf
    exact cx_iret hx hb hr hlocks hP hL dX7_partOf_17
  · have hf := cx_f hf c1
    refine lv_iload_n hx hb dX7_partOf_4 rfl (lv_at hl 2 rfl) ?_
    refine lv_aload_n hx hb dX7_partOf_5 rfl (lv_at hl 1 rfl) ?_
    refine la_Trace_2 hC hP hx hb hK dX7_partOf_6 ?_
    refine lv_icmp_ge (tgt := 16) hx hb dX7_partOf_7 (by decide) (fun c2 => ?_) (fun c2 => ?_)
    · have hf := cx_t hf c2
      refine lv_iconst (v := (-1)) hx hb dX7_partOf_16 (by decide) ?_
      cases hf
      exact cx_iret hx hb hr hlocks hP hL dX7_partOf_17
    · have hf := cx_f hf c2
      refine lv_aload_n hx hb dX7_partOf_10 rfl (lv_at hl 1 rfl) ?_
      refine lv_iload_n hx hb dX7_partOf_11 rfl (lv_at hl 2 rfl) ?_
      obtain ⟨hi3, hf⟩ := gdE hf
      refine ga_Trace_2 hC hP hx hb hK hi3 dX7_partOf_12 ?_
      refine lv_goto (tgt := 17) hx hb dX7_partOf_13 (by decide) ?_
      cases hf
      exact cx_iret hx hb hr hlocks hP hL dX7_partOf_17
abbrev rm_X7_partOf_3 : Room := { frames := 0, cells := 0, slots := 0, locals := 0 }
def f_X7_partOf_3 (τ : ObjS) (p1 : Int32) : Option (Int32) := if p1 < 0 then some (-1) else if 40 ≤ p1 then some (-1) else gd p1 40 (some (τ.1 3 (Int32.toNatClampNeg p1)))
set_option maxHeartbeats 4000000 in
set_option maxRecDepth 100000 in
theorem c_X7_partOf_3 {l : Launch} {G : va_G} {cA : Nat → ClassId} {lo : Nat} {ad : Nat → Nat} {P : ObjS → Heap → Prop} (hC : cx G lo 6 ad (ceTrace cA ad) P) {τ : ObjS} {p1 : Int32} {res : Int32} (hf : f_X7_partOf_3 τ p1 = some res) : Met l yX7_partOf (cW yX7_partOf cX7_partOf 3 (some .int)) rm_X7_partOf_3 (cP [.ref (ad 0), .ref (ad 5), .int p1] (P τ) G cA) (cQ (some (.int res)) (P τ)) 0 0 (fun q => lo ≤ q) := by
  refine cx_met (by decide) (Nat.le_of_ble_eq_true rfl) (fun p e s m args below meth c ls C0 hP hl => ?_)
  have hl : lv_has ls 3 [(0, .ref (ad 0)), (1, .ref (ad 5)), (2, .int p1)] := hl
  obtain ⟨⟨hx, hb, hml, hown, hts⟩, hr, hlocks, hK⟩ := id C0
  have hL : ∀ q ∈ ([] : List Loc), lo ≤ q.base := fun q h => nomatch h
  unfold f_X7_partOf_3 at hf
  refine lv_iload_n hx hb dX7_partOf_0 rfl (lv_at hl 2 rfl) ?_
  refine lv_if_lt (tgt := 16) hx hb dX7_partOf_1 (by decide) (fun c1 => ?_) (fun c1 => ?_)
  · have hf := cx_t hf c1
    refine lv_iconst (v := (-1)) hx hb dX7_partOf_16 (by decide) ?_
    cases hf
    exact cx_iret hx hb hr hlocks hP hL dX7_partOf_17
  · have hf := cx_f hf c1
    refine lv_iload_n hx hb dX7_partOf_4 rfl (lv_at hl 2 rfl) ?_
    refine lv_aload_n hx hb dX7_partOf_5 rfl (lv_at hl 1 rfl) ?_
    refine la_Trace_3 hC hP hx hb hK dX7_partOf_6 ?_
    refine lv_icmp_ge (tgt := 16) hx hb dX7_partOf_7 (by decide) (fun c2 => ?_) (fun c2 => ?_)
    · have hf := cx_t hf c2
      refine lv_iconst (v := (-1)) hx hb dX7_partOf_16 (by decide) ?_
      cases hf
      exact cx_iret hx hb hr hlocks hP hL dX7_partOf_17
    · have hf := cx_f hf c2
      refine lv_aload_n hx hb dX7_partOf_10 rfl (lv_at hl 1 rfl) ?_
      refine lv_iload_n hx hb dX7_partOf_11 rfl (lv_at hl 2 rfl) ?_
      obtain ⟨hi3, hf⟩ := gdE hf
      refine ga_Trace_3 hC hP hx hb hK hi3 dX7_partOf_12 ?_
      refine lv_goto (tgt := 17) hx hb dX7_partOf_13 (by decide) ?_
      cases hf
      exact cx_iret hx hb hr hlocks hP hL dX7_partOf_17
abbrev rm_X7_signAt : Room := { frames := 0, cells := 0, slots := 0, locals := 0 }
theorem hd_X7_signAt : yX7_signAt.cls = RX7 ∧ yX7_signAt.cls ≠ "java/lang/invoke/MethodHandle" ∧ yX7_signAt.cls ≠ "java/lang/invoke/VarHandle" ∧ (parseMethodDescriptor yX7_signAt.desc).map (fun d => d.parameters.length) = some 1 := by decide +kernel
def f_X7_signAt (τ : ObjS) (p0 : Int32) : Option (Int32) := if p0 < 0 then some (-1) else if 600 ≤ p0 then some (-1) else gd p0 600 (some (τ.1 8 (Int32.toNatClampNeg p0)))
set_option maxHeartbeats 4000000 in
set_option maxRecDepth 100000 in
theorem c_X7_signAt {l : Launch} {G : va_G} {cA : Nat → ClassId} {lo : Nat} {ad : Nat → Nat} {P : ObjS → Heap → Prop} (hC : cx G lo 6 ad (ceTrace cA ad) P) {τ : ObjS} {p0 : Int32} {res : Int32} (hf : f_X7_signAt τ p0 = some res) : Met l yX7_signAt (cW yX7_signAt cX7_signAt 2 (some .int)) rm_X7_signAt (cP [.ref (ad 0), .int p0] (P τ) G cA) (cQ (some (.int res)) (P τ)) 0 0 (fun q => lo ≤ q) := by
  refine cx_met (by decide) (Nat.le_of_ble_eq_true rfl) (fun p e s m args below meth c ls C0 hP hl => ?_)
  have hl : lv_has ls 2 [(0, .ref (ad 0)), (1, .int p0)] := hl
  obtain ⟨⟨hx, hb, hml, hown, hts⟩, hr, hlocks, hK⟩ := id C0
  have hL : ∀ q ∈ ([] : List Loc), lo ≤ q.base := fun q h => nomatch h
  unfold f_X7_signAt at hf
  refine lv_iload_n hx hb dX7_signAt_0 rfl (lv_at hl 1 rfl) ?_
  refine lv_if_lt (tgt := 20) hx hb dX7_signAt_1 (by decide) (fun c1 => ?_) (fun c1 => ?_)
  · have hf := cx_t hf c1
    refine lv_iconst (v := (-1)) hx hb dX7_signAt_20 (by decide) ?_
    cases hf
    exact cx_iret hx hb hr hlocks hP hL dX7_signAt_21
  · have hf := cx_f hf c1
    refine lv_iload_n hx hb dX7_signAt_4 rfl (lv_at hl 1 rfl) ?_
    refine lv_sipush (v := 600) hx hb dX7_signAt_5 (by decide) ?_
    refine lv_icmp_ge (tgt := 20) hx hb dX7_signAt_8 (by decide) (fun c2 => ?_) (fun c2 => ?_)
    · have hf := cx_t hf c2
      refine lv_iconst (v := (-1)) hx hb dX7_signAt_20 (by decide) ?_
      cases hf
      exact cx_iret hx hb hr hlocks hP hL dX7_signAt_21
    · have hf := cx_f hf c2
      refine lv_aload_n hx hb dX7_signAt_11 rfl (lv_at hl 0 rfl) ?_
      refine g_Trace_8 hC hP hx hb hts hown hK mw_37 dX7_signAt_12 ?_
      refine lv_iload_n hx hb dX7_signAt_15 rfl (lv_at hl 1 rfl) ?_
      obtain ⟨hi3, hf⟩ := gdE hf
      refine ga_Trace_8 hC hP hx hb hK hi3 dX7_signAt_16 ?_
      refine lv_goto (tgt := 21) hx hb dX7_signAt_17 (by decide) ?_
      cases hf
      exact cx_iret hx hb hr hlocks hP hL dX7_signAt_21
abbrev rm_X7_isBlank : Room := { frames := 0, cells := 0, slots := 0, locals := 0 }
theorem hd_X7_isBlank : yX7_isBlank.cls = RX7 ∧ yX7_isBlank.cls ≠ "java/lang/invoke/MethodHandle" ∧ yX7_isBlank.cls ≠ "java/lang/invoke/VarHandle" ∧ (parseMethodDescriptor yX7_isBlank.desc).map (fun d => d.parameters.length) = some 1 := by decide +kernel
def f_X7_isBlank (p0 : Int32) : Option (Int32) := if p0 = 32 then some 1 else if p0 = 10 then some 1 else some 0
set_option maxHeartbeats 4000000 in
set_option maxRecDepth 100000 in
theorem c_X7_isBlank {l : Launch} {G : va_G} {cA : Nat → ClassId} {lo : Nat} {PH : Heap → Prop} {p0 : Int32} {res : Int32} (hf : f_X7_isBlank p0 = some res) : Met l yX7_isBlank (cW yX7_isBlank cX7_isBlank 1 (some .boolean)) rm_X7_isBlank (cP [.int p0] (PH) G cA) (cQ (some (.int res)) (PH)) 0 0 (fun q => lo ≤ q) := by
  refine cx_met (by decide) (Nat.le_of_ble_eq_true rfl) (fun p e s m args below meth c ls C0 hP hl => ?_)
  have hl : lv_has ls 1 [(0, .int p0)] := hl
  obtain ⟨⟨hx, hb, hml, hown, hts⟩, hr, hlocks, hK⟩ := id C0
  have hL : ∀ q ∈ ([] : List Loc), lo ≤ q.base := fun q h => nomatch h
  unfold f_X7_isBlank at hf
  refine lv_iload_n hx hb dX7_isBlank_0 rfl (lv_at hl 0 rfl) ?_
  refine lv_bipush (v := 32) hx hb dX7_isBlank_1 (by decide) ?_
  refine lv_icmp_eq (tgt := 12) hx hb dX7_isBlank_3 (by decide) (fun c1 => ?_) (fun c1 => ?_)
  · have hf := cx_t hf c1
    refine lv_iconst (v := 1) hx hb dX7_isBlank_12 (by decide) ?_
    refine lv_goto (tgt := 17) hx hb dX7_isBlank_13 (by decide) ?_
    cases hf
    exact cx_zret hx hb hr hlocks (Or.inr rfl) hP hL dX7_isBlank_17
  · have hf := cx_f hf c1
    refine lv_iload_n hx hb dX7_isBlank_6 rfl (lv_at hl 0 rfl) ?_
    refine lv_bipush (v := 10) hx hb dX7_isBlank_7 (by decide) ?_
    refine lv_icmp_ne (tgt := 16) hx hb dX7_isBlank_9 (by decide) (fun c2 => ?_) (fun c2 => ?_)
    · have hf := cx_f hf c2
      refine lv_iconst (v := 0) hx hb dX7_isBlank_16 (by decide) ?_
      cases hf
      exact cx_zret hx hb hr hlocks (Or.inl rfl) hP hL dX7_isBlank_17
    · have hf := cx_t hf c2
      refine lv_iconst (v := 1) hx hb dX7_isBlank_12 (by decide) ?_
      refine lv_goto (tgt := 17) hx hb dX7_isBlank_13 (by decide) ?_
      cases hf
      exact cx_zret hx hb hr hlocks (Or.inr rfl) hP hL dX7_isBlank_17
abbrev rm_X7_isLetter : Room := { frames := 0, cells := 0, slots := 0, locals := 0 }
theorem hd_X7_isLetter : yX7_isLetter.cls = RX7 ∧ yX7_isLetter.cls ≠ "java/lang/invoke/MethodHandle" ∧ yX7_isLetter.cls ≠ "java/lang/invoke/VarHandle" ∧ (parseMethodDescriptor yX7_isLetter.desc).map (fun d => d.parameters.length) = some 1 := by decide +kernel
def f_X7_isLetter (p0 : Int32) : Option (Int32) := if p0 < 97 then some 0 else if 122 < p0 then some 0 else some 1
set_option maxHeartbeats 4000000 in
set_option maxRecDepth 100000 in
theorem c_X7_isLetter {l : Launch} {G : va_G} {cA : Nat → ClassId} {lo : Nat} {PH : Heap → Prop} {p0 : Int32} {res : Int32} (hf : f_X7_isLetter p0 = some res) : Met l yX7_isLetter (cW yX7_isLetter cX7_isLetter 1 (some .boolean)) rm_X7_isLetter (cP [.int p0] (PH) G cA) (cQ (some (.int res)) (PH)) 0 0 (fun q => lo ≤ q) := by
  refine cx_met (by decide) (Nat.le_of_ble_eq_true rfl) (fun p e s m args below meth c ls C0 hP hl => ?_)
  have hl : lv_has ls 1 [(0, .int p0)] := hl
  obtain ⟨⟨hx, hb, hml, hown, hts⟩, hr, hlocks, hK⟩ := id C0
  have hL : ∀ q ∈ ([] : List Loc), lo ≤ q.base := fun q h => nomatch h
  unfold f_X7_isLetter at hf
  refine lv_iload_n hx hb dX7_isLetter_0 rfl (lv_at hl 0 rfl) ?_
  refine lv_bipush (v := 97) hx hb dX7_isLetter_1 (by decide) ?_
  refine lv_icmp_lt (tgt := 16) hx hb dX7_isLetter_3 (by decide) (fun c1 => ?_) (fun c1 => ?_)
  · have hf := cx_t hf c1
    refine lv_iconst (v := 0) hx hb dX7_isLetter_16 (by decide) ?_
    cases hf
    exact cx_zret hx hb hr hlocks (Or.inl rfl) hP hL dX7_isLetter_17
  · have hf := cx_f hf c1
    refine lv_iload_n hx hb dX7_isLetter_6 rfl (lv_at hl 0 rfl) ?_
    refine lv_bipush (v := 122) hx hb dX7_isLetter_7 (by decide) ?_
    refine lv_icmp_gt (tgt := 16) hx hb dX7_isLetter_9 (by decide) (fun c2 => ?_) (fun c2 => ?_)
    · have hf := cx_t hf c2
      refine lv_iconst (v := 0) hx hb dX7_isLetter_16 (by decide) ?_
      cases hf
      exact cx_zret hx hb hr hlocks (Or.inl rfl) hP hL dX7_isLetter_17
    · have hf := cx_f hf c2
      refine lv_iconst (v := 1) hx hb dX7_isLetter_12 (by decide) ?_
      refine lv_goto (tgt := 17) hx hb dX7_isLetter_13 (by decide) ?_
      cases hf
      exact cx_zret hx hb hr hlocks (Or.inr rfl) hP hL dX7_isLetter_17
abbrev rm_X7_isWord : Room := { frames := 4, cells := 0, slots := 0, locals := 85 }
theorem hd_X7_isWord : yX7_isWord.cls = RX7 ∧ yX7_isWord.cls ≠ "java/lang/invoke/MethodHandle" ∧ yX7_isWord.cls ≠ "java/lang/invoke/VarHandle" ∧ (parseMethodDescriptor yX7_isWord.desc).map (fun d => d.parameters.length) = some 1 := by decide +kernel
def f_X7_isWord_b20 (N : Nat) : Nat → ObjS → Nat → Int32 → Option (Int32)
  | 0, _, _, _ => none
  | n + 1, τ, x1, x2 => (f_J0_length_8abf5 x1).bind fun r1 => if r1 ≤ x2 then some 1 else if (τ.2 11 + x2) < 0 then some 0 else if 600 ≤ (τ.2 11 + x2) then some 0 else gd (τ.2 11 + x2) 600 ((f_J0_charAt_5068e x1 x2).bind fun r7 => if (τ.1 8 (Int32.toNatClampNeg (τ.2 11 + x2))) = r7 then f_X7_isWord_b20 N n τ x1 (x2 + 1) else some 0)
set_option maxHeartbeats 4000000 in
set_option maxRecDepth 100000 in
theorem w_X7_isWord_b20 {p : Program} {l : Launch} {e : Env} {s : State} {m : MethodId} {args : Array Value} {below : List Frame} {meth : Method} {c : Code} {G : va_G} {cA : Nat → ClassId} (C0 : cB p s m args meth c RX7 cX7_isWord 4 (some .boolean) G cA) {lo : Nat} {z : ZS} (hZ : Zt lo z s) {ad : Nat → Nat} {P : ObjS → Heap → Prop} (hC : cx G lo 6 ad (ceTrace cA ad) P) {N : Nat} {res : Int32} : ∀ (n : Nat) (τ : ObjS) (x1 : Nat) (x2 : Int32) (hx1 : x1 < 8) (H : Heap) (locs : List Loc) (ls : Array Slot), f_X7_isWord_b20 N n τ x1 x2 = some res → P τ H → (∀ q ∈ locs, lo ≤ q.base) → lv_has ls 4 [(0, .ref (ad 0)), (1, .ref (z.1 x1)), (2, .int x2)] → W p l e rm_X7_isWord s m args below meth c H locs 0 0 (MQ below (cQ (some (.int res)) (P τ)) args s 0 0 (fun q => lo ≤ q)) (F0 m 20 ls []) := by
  obtain ⟨⟨hx, hb, hml, hown, hts⟩, hr, hlocks, hK⟩ := id C0
  intro n
  induction n with
  | zero => intro τ x1 x2 hx1 H locs ls
            exact fun hf => nomatch hf
  | succ n ih =>
    intro τ x1 x2 hx1 H locs ls hf hP hL hl
    rw [f_X7_isWord_b20] at hf
    refine lv_iload_n hx hb dX7_isWord_20 rfl (lv_at hl 2 rfl) ?_
    refine lv_aload_n hx hb dX7_isWord_21 rfl (lv_at hl 1 rfl) ?_
    obtain ⟨r1, q2, hf⟩ := cx_b hf
    refine cx_callStr (As := []) (rest := [.int x2]) ⟨hx, hb, hml, hown, hts⟩ (c_J0_length_8abf5 (PH := P τ) hx1 q2) (cwV 0 hts (gV mw_217 mw_218 mw_219 mw_220 mw_221) rfl rfl rfl hd_J0_length_8abf5 ⟨Nat.le_of_ble_eq_true rfl, Nat.le_of_ble_eq_true rfl⟩) hK hZ hx1 hP rfl hl.1 rfl (Nat.le_of_ble_eq_true rfl) dX7_isWord_22 ⟨Nat.zero_le _, Nat.zero_le _⟩ hL (fun H locs hP hL => ?_)
    refine lv_icmp_ge (tgt := 68) hx hb dX7_isWord_25 (by decide) (fun c3 => ?_) (fun c3 => ?_)
    · have hf := cx_t hf c3
      refine lv_iconst (v := 1) hx hb dX7_isWord_68 (by decide) ?_
      cases hf
      exact cx_zret hx hb hr hlocks (Or.inr rfl) hP hL dX7_isWord_69
    · have hf := cx_f hf c3
      refine lv_aload_n hx hb dX7_isWord_28 rfl (lv_at hl 0 rfl) ?_
      refine g_Trace_11 hC hP hx hb hts hown hK mw_198 dX7_isWord_29 ?_
      refine lv_iload_n hx hb dX7_isWord_32 rfl (lv_at hl 2 rfl) ?_
      refine lv_iadd hx hb dX7_isWord_33 ?_
      refine lv_istore_n (lv' := [(3, .int (τ.2 11 + x2)), (0, .ref (ad 0)), (1, .ref (z.1 x1)), (2, .int x2)]) hx hb dX7_isWord_34 rfl hl (by decide) rfl (fun ls hl => ?_)
      refine lv_iload_n hx hb dX7_isWord_35 rfl (lv_at hl 0 rfl) ?_
      refine lv_if_lt (tgt := 60) hx hb dX7_isWord_36 (by decide) (fun c4 => ?_) (fun c4 => ?_)
      · have hf := cx_t hf c4
        refine lv_iconst (v := 0) hx hb dX7_isWord_60 (by decide) ?_
        cases hf
        exact cx_zret hx hb hr hlocks (Or.inl rfl) hP hL dX7_isWord_61
      · have hf := cx_f hf c4
        refine lv_iload_n hx hb dX7_isWord_39 rfl (lv_at hl 0 rfl) ?_
        refine lv_sipush (v := 600) hx hb dX7_isWord_40 (by decide) ?_
        refine lv_icmp_ge (tgt := 60) hx hb dX7_isWord_43 (by decide) (fun c5 => ?_) (fun c5 => ?_)
        · have hf := cx_t hf c5
          refine lv_iconst (v := 0) hx hb dX7_isWord_60 (by decide) ?_
          cases hf
          exact cx_zret hx hb hr hlocks (Or.inl rfl) hP hL dX7_isWord_61
        · have hf := cx_f hf c5
          refine lv_aload_n hx hb dX7_isWord_46 rfl (lv_at hl 1 rfl) ?_
          refine g_Trace_8 hC hP hx hb hts hown hK mw_37 dX7_isWord_47 ?_
          refine lv_iload_n hx hb dX7_isWord_50 rfl (lv_at hl 0 rfl) ?_
          obtain ⟨hi6, hf⟩ := gdE hf
          refine ga_Trace_8 hC hP hx hb hK hi6 dX7_isWord_51 ?_
          refine lv_aload_n hx hb dX7_isWord_52 rfl (lv_at hl 2 rfl) ?_
          refine lv_iload_n hx hb dX7_isWord_53 rfl (lv_at hl 3 rfl) ?_
          obtain ⟨r7, q8, hf⟩ := cx_b hf
          refine cx_callStr (As := [.int x2]) (rest := [.int (τ.1 8 (Int32.toNatClampNeg (τ.2 11 + x2)))]) ⟨hx, hb, hml, hown, hts⟩ (c_J0_charAt_5068e (PH := P τ) hx1 q8) (cwV 1 hts (gV mw_229 mw_230 mw_231 mw_220 mw_232) rfl rfl rfl hd_J0_charAt_5068e ⟨Nat.le_of_ble_eq_true rfl, Nat.le_of_ble_eq_true rfl⟩) hK hZ hx1 hP rfl hl.1 rfl (Nat.le_of_ble_eq_true rfl) dX7_isWord_54 ⟨Nat.zero_le _, Nat.zero_le _⟩ hL (fun H locs hP hL => ?_)
          refine lv_icmp_eq (tgt := 62) hx hb dX7_isWord_57 (by decide) (fun c9 => ?_) (fun c9 => ?_)
          · have hf := cx_t hf c9
            refine lv_iinc (v := (x2 + 1)) (lv' := [(2, .int (x2 + 1)), (3, .int (τ.2 11 + x2)), (0, .ref (ad 0)), (1, .ref (z.1 x1))]) hx hb dX7_isWord_62 hl (k := 3) rfl rfl (by decide) rfl (fun ls hl => ?_)
            refine lv_goto (tgt := 20) hx hb dX7_isWord_65 (by decide) ?_
            exact ih τ x1 (x2 + 1) hx1 _ _ _ hf hP hL (lv_sub hl [2, 3, 0] rfl)
          · have hf := cx_f hf c9
            refine lv_iconst (v := 0) hx hb dX7_isWord_60 (by decide) ?_
            cases hf
            exact cx_zret hx hb hr hlocks (Or.inl rfl) hP hL dX7_isWord_61
def f_X7_isWord (N : Nat) (τ : ObjS) (p0 : Nat) : Option (Int32) := (f_J0_length_8abf5 p0).bind fun r1 => if (τ.2 9 - τ.2 11) = r1 then f_X7_isWord_b20 N N τ p0 0 else some 0
set_option maxHeartbeats 4000000 in
set_option maxRecDepth 100000 in
theorem c_X7_isWord {l : Launch} {G : va_G} {cA : Nat → ClassId} {lo : Nat} {z : ZS} {ad : Nat → Nat} {P : ObjS → Heap → Prop} (hC : cx G lo 6 ad (ceTrace cA ad) P) {N : Nat} {τ : ObjS} {p0 : Nat} (hp0 : p0 < 8) {res : Int32} (hf : f_X7_isWord N τ p0 = some res) : Met l yX7_isWord (cW yX7_isWord cX7_isWord 4 (some .boolean)) rm_X7_isWord (cPZ lo z [.ref (ad 0), .ref (z.1 p0)] (P τ) G cA) (cQ (some (.int res)) (P τ)) 0 0 (fun q => lo ≤ q) := by
  refine cx_metZ (by decide) (Nat.le_of_ble_eq_true rfl) (fun p e s m args below meth c ls C0 hZ hP hl => ?_)
  have hl : lv_has ls 4 [(0, .ref (ad 0)), (1, .ref (z.1 p0))] := hl
  obtain ⟨⟨hx, hb, hml, hown, hts⟩, hr, hlocks, hK⟩ := id C0
  have hL : ∀ q ∈ ([] : List Loc), lo ≤ q.base := fun q h => nomatch h
  unfold f_X7_isWord at hf
  refine lv_aload_n hx hb dX7_isWord_0 rfl (lv_at hl 0 rfl) ?_
  refine g_Trace_9 hC hP hx hb hts hown hK mw_191 dX7_isWord_1 ?_
  refine lv_aload_n hx hb dX7_isWord_4 rfl (lv_at hl 0 rfl) ?_
  refine g_Trace_11 hC hP hx hb hts hown hK mw_198 dX7_isWord_5 ?_
  refine lv_isub hx hb dX7_isWord_8 ?_
  refine lv_aload_n hx hb dX7_isWord_9 rfl (lv_at hl 1 rfl) ?_
  obtain ⟨r1, q2, hf⟩ := cx_b hf
  refine cx_callStr (As := []) (rest := [.int (τ.2 9 - τ.2 11)]) ⟨hx, hb, hml, hown, hts⟩ (c_J0_length_8abf5 (PH := P τ) hp0 q2) (cwV 0 hts (gV mw_217 mw_218 mw_219 mw_220 mw_221) rfl rfl rfl hd_J0_length_8abf5 ⟨Nat.le_of_ble_eq_true rfl, Nat.le_of_ble_eq_true rfl⟩) hK hZ hp0 hP rfl hl.1 rfl (Nat.le_of_ble_eq_true rfl) dX7_isWord_10 ⟨Nat.zero_le _, Nat.zero_le _⟩ hL (fun H locs hP hL => ?_)
  refine lv_icmp_eq (tgt := 18) hx hb dX7_isWord_13 (by decide) (fun c3 => ?_) (fun c3 => ?_)
  · have hf := cx_t hf c3
    refine lv_iconst (v := 0) hx hb dX7_isWord_18 (by decide) ?_
    refine lv_istore_n (lv' := [(2, .int 0), (0, .ref (ad 0)), (1, .ref (z.1 p0))]) hx hb dX7_isWord_19 rfl hl (by decide) rfl (fun ls hl => ?_)
    exact w_X7_isWord_b20 C0 hZ hC N τ p0 0 hp0 _ _ _ hf hP hL (lv_sub hl [1, 2, 0] rfl)
  · have hf := cx_f hf c3
    refine lv_iconst (v := 0) hx hb dX7_isWord_16 (by decide) ?_
    cases hf
    exact cx_zret hx hb hr hlocks (Or.inl rfl) hP hL dX7_isWord_17
abbrev rm_X7_readWord : Room := { frames := 5, cells := 0, slots := 0, locals := 108 }
theorem hd_X7_readWord : yX7_readWord.cls = RX7 ∧ yX7_readWord.cls ≠ "java/lang/invoke/MethodHandle" ∧ yX7_readWord.cls ≠ "java/lang/invoke/VarHandle" ∧ (parseMethodDescriptor yX7_readWord.desc).map (fun d => d.parameters.length) = some 0 := by decide +kernel
def f_X7_readWord_b38 (N : Nat) (τ : ObjS) : Option (ObjS) := (f_X7_isWord N τ 0).bind fun r1 => if r1 = 0 then (f_X7_isWord N τ 1).bind fun r4 => if r4 = 0 then (f_X7_isWord N τ 2).bind fun r7 => if r7 = 0 then (f_X7_isWord N τ 3).bind fun r10 => if r10 = 0 then cx_let (oI τ 10 5) fun z13 => some z13 else cx_let (oI τ 10 4) fun z14 => some z14 else cx_let (oI τ 10 3) fun z15 => some z15 else cx_let (oI τ 10 2) fun z16 => some z16 else cx_let (oI τ 10 1) fun z17 => some z17
set_option maxHeartbeats 4000000 in
set_option maxRecDepth 100000 in
theorem w_X7_readWord_b38 {p : Program} {l : Launch} {e : Env} {s : State} {m : MethodId} {args : Array Value} {below : List Frame} {meth : Method} {c : Code} {G : va_G} {cA : Nat → ClassId} (C0 : cB p s m args meth c RX7 cX7_readWord 1 none G cA) {lo : Nat} {z : ZS} (hZ : Zt lo z s) {ad : Nat → Nat} {P : ObjS → Heap → Prop} (hC : cx G lo 6 ad (ceTrace cA ad) P) {N : Nat} {res : ObjS} : ∀ (τ : ObjS) (H : Heap) (locs : List Loc) (ls : Array Slot), f_X7_readWord_b38 N τ = some res → P τ H → (∀ q ∈ locs, lo ≤ q.base) → lv_has ls 1 [(0, .ref (ad 0))] → W p l e rm_X7_readWord s m args below meth c H locs 0 0 (MQ below (cQ none (P res)) args s 0 0 (fun q => lo ≤ q)) (F0 m 38 ls []) := by
  obtain ⟨⟨hx, hb, hml, hown, hts⟩, hr, hlocks, hK⟩ := id C0
  intro τ H locs ls hf hP hL hl
  unfold f_X7_readWord_b38 at hf
  refine lv_aload_n hx hb dX7_readWord_38 rfl (lv_at hl 0 rfl) ?_
  refine va_ldcS hx hb hown (hZ.1 0 (by decide)).1 dX7_readWord_39 ?_
  obtain ⟨r1, q2, hf⟩ := cx_b hf
  refine cx_callVZ (As := [.ref (z.1 0)]) (rest := []) ⟨hx, hb, hml, hown, hts⟩ (c_X7_isWord hC (by decide) q2) (cwV 1 hts (gV mw_213 mw_214 mw_215 mw_16 mw_216) rfl rfl rfl hd_X7_isWord ⟨Nat.le_of_ble_eq_true rfl, Nat.le_of_ble_eq_true rfl⟩) hK hZ hP rfl (at_Trace hC hP) rfl hl.1 rfl (Nat.le_of_ble_eq_true rfl) dX7_readWord_41 ⟨Nat.zero_le _, Nat.zero_le _⟩ hL (fun H locs hP hL => ?_)
  replace hP : P τ H := by first | exact hP | (simpa only [va_up_id] using hP)
  refine lv_if_eq (tgt := 55) hx hb dX7_readWord_44 (by decide) (fun c3 => ?_) (fun c3 => ?_)
  · have hf := cx_t hf c3
    refine lv_aload_n hx hb dX7_readWord_55 rfl (lv_at hl 0 rfl) ?_
    refine va_ldcS hx hb hown (hZ.1 1 (by decide)).1 dX7_readWord_56 ?_
    obtain ⟨r4, q5, hf⟩ := cx_b hf
    refine cx_callVZ (As := [.ref (z.1 1)]) (rest := []) ⟨hx, hb, hml, hown, hts⟩ (c_X7_isWord hC (by decide) q5) (cwV 1 hts (gV mw_213 mw_214 mw_215 mw_16 mw_216) rfl rfl rfl hd_X7_isWord ⟨Nat.le_of_ble_eq_true rfl, Nat.le_of_ble_eq_true rfl⟩) hK hZ hP rfl (at_Trace hC hP) rfl hl.1 rfl (Nat.le_of_ble_eq_true rfl) dX7_readWord_58 ⟨Nat.zero_le _, Nat.zero_le _⟩ hL (fun H locs hP hL => ?_)
    replace hP : P τ H := by first | exact hP | (simpa only [va_up_id] using hP)
    refine lv_if_eq (tgt := 72) hx hb dX7_readWord_61 (by decide) (fun c6 => ?_) (fun c6 => ?_)
    · have hf := cx_t hf c6
      refine lv_aload_n hx hb dX7_readWord_72 rfl (lv_at hl 0 rfl) ?_
      refine va_ldcS hx hb hown (hZ.1 2 (by decide)).1 dX7_readWord_73 ?_
      obtain ⟨r7, q8, hf⟩ := cx_b hf
      refine cx_callVZ (As := [.ref (z.1 2)]) (rest := []) ⟨hx, hb, hml, hown, hts⟩ (c_X7_isWord hC (by decide) q8) (cwV 1 hts (gV mw_213 mw_214 mw_215 mw_16 mw_216) rfl rfl rfl hd_X7_isWord ⟨Nat.le_of_ble_eq_true rfl, Nat.le_of_ble_eq_true rfl⟩) hK hZ hP rfl (at_Trace hC hP) rfl hl.1 rfl (Nat.le_of_ble_eq_true rfl) dX7_readWord_75 ⟨Nat.zero_le _, Nat.zero_le _⟩ hL (fun H locs hP hL => ?_)
      replace hP : P τ H := by first | exact hP | (simpa only [va_up_id] using hP)
      refine lv_if_eq (tgt := 89) hx hb dX7_readWord_78 (by decide) (fun c9 => ?_) (fun c9 => ?_)
      · have hf := cx_t hf c9
        refine lv_aload_n hx hb dX7_readWord_89 rfl (lv_at hl 0 rfl) ?_
        refine va_ldcS hx hb hown (hZ.1 3 (by decide)).1 dX7_readWord_90 ?_
        obtain ⟨r10, q11, hf⟩ := cx_b hf
        refine cx_callVZ (As := [.ref (z.1 3)]) (rest := []) ⟨hx, hb, hml, hown, hts⟩ (c_X7_isWord hC (by decide) q11) (cwV 1 hts (gV mw_213 mw_214 mw_215 mw_16 mw_216) rfl rfl rfl hd_X7_isWord ⟨Nat.le_of_ble_eq_true rfl, Nat.le_of_ble_eq_true rfl⟩) hK hZ hP rfl (at_Trace hC hP) rfl hl.1 rfl (Nat.le_of_ble_eq_true rfl) dX7_readWord_92 ⟨Nat.zero_le _, Nat.zero_le _⟩ hL (fun H locs hP hL => ?_)
        replace hP : P τ H := by first | exact hP | (simpa only [va_up_id] using hP)
        refine lv_if_eq (tgt := 106) hx hb dX7_readWord_95 (by decide) (fun c12 => ?_) (fun c12 => ?_)
        · have hf := cx_t hf c12
          refine lv_aload_n hx hb dX7_readWord_106 rfl (lv_at hl 0 rfl) ?_
          refine lv_iconst (v := 5) hx hb dX7_readWord_107 (by decide) ?_
          obtain ⟨z13, ez13, hf⟩ := cx_letE hf
          refine p_Trace_10 hC hP hx hb hts hown hK mw_193 dX7_readWord_108 hL (fun H locs hP hL => ?_)
          replace hP : P z13 H := by rw [← ez13]; exact hP
          cases hf
          exact cx_vret hx hb hr hlocks hP hL dX7_readWord_111
        · have hf := cx_f hf c12
          refine lv_aload_n hx hb dX7_readWord_98 rfl (lv_at hl 0 rfl) ?_
          refine lv_iconst (v := 4) hx hb dX7_readWord_99 (by decide) ?_
          obtain ⟨z14, ez14, hf⟩ := cx_letE hf
          refine p_Trace_10 hC hP hx hb hts hown hK mw_193 dX7_readWord_100 hL (fun H locs hP hL => ?_)
          replace hP : P z14 H := by rw [← ez14]; exact hP
          refine lv_goto (tgt := 111) hx hb dX7_readWord_103 (by decide) ?_
          cases hf
          exact cx_vret hx hb hr hlocks hP hL dX7_readWord_111
      · have hf := cx_f hf c9
        refine lv_aload_n hx hb dX7_readWord_81 rfl (lv_at hl 0 rfl) ?_
        refine lv_iconst (v := 3) hx hb dX7_readWord_82 (by decide) ?_
        obtain ⟨z15, ez15, hf⟩ := cx_letE hf
        refine p_Trace_10 hC hP hx hb hts hown hK mw_193 dX7_readWord_83 hL (fun H locs hP hL => ?_)
        replace hP : P z15 H := by rw [← ez15]; exact hP
        refine lv_goto (tgt := 111) hx hb dX7_readWord_86 (by decide) ?_
        cases hf
        exact cx_vret hx hb hr hlocks hP hL dX7_readWord_111
    · have hf := cx_f hf c6
      refine lv_aload_n hx hb dX7_readWord_64 rfl (lv_at hl 0 rfl) ?_
      refine lv_iconst (v := 2) hx hb dX7_readWord_65 (by decide) ?_
      obtain ⟨z16, ez16, hf⟩ := cx_letE hf
      refine p_Trace_10 hC hP hx hb hts hown hK mw_193 dX7_readWord_66 hL (fun H locs hP hL => ?_)
      replace hP : P z16 H := by rw [← ez16]; exact hP
      refine lv_goto (tgt := 111) hx hb dX7_readWord_69 (by decide) ?_
      cases hf
      exact cx_vret hx hb hr hlocks hP hL dX7_readWord_111
  · have hf := cx_f hf c3
    refine lv_aload_n hx hb dX7_readWord_47 rfl (lv_at hl 0 rfl) ?_
    refine lv_iconst (v := 1) hx hb dX7_readWord_48 (by decide) ?_
    obtain ⟨z17, ez17, hf⟩ := cx_letE hf
    refine p_Trace_10 hC hP hx hb hts hown hK mw_193 dX7_readWord_49 hL (fun H locs hP hL => ?_)
    replace hP : P z17 H := by rw [← ez17]; exact hP
    refine lv_goto (tgt := 111) hx hb dX7_readWord_52 (by decide) ?_
    cases hf
    exact cx_vret hx hb hr hlocks hP hL dX7_readWord_111
def f_X7_readWord_b0 (N : Nat) : Nat → ObjS → Option (ObjS)
  | 0, _ => none
  | n + 1, τ => if τ.2 5 ≤ τ.2 9 then f_X7_readWord_b38 N τ else (f_X7_signAt τ (τ.2 9)).bind fun r2 => (f_X7_isLetter r2).bind fun r4 => if r4 = 0 then f_X7_readWord_b38 N τ else cx_let (oI τ 9 (τ.2 9 + 1)) fun z7 => f_X7_readWord_b0 N n z7
set_option maxHeartbeats 4000000 in
set_option maxRecDepth 100000 in
theorem w_X7_readWord_b0 {p : Program} {l : Launch} {e : Env} {s : State} {m : MethodId} {args : Array Value} {below : List Frame} {meth : Method} {c : Code} {G : va_G} {cA : Nat → ClassId} (C0 : cB p s m args meth c RX7 cX7_readWord 1 none G cA) {lo : Nat} {z : ZS} (hZ : Zt lo z s) {ad : Nat → Nat} {P : ObjS → Heap → Prop} (hC : cx G lo 6 ad (ceTrace cA ad) P) {N : Nat} {res : ObjS} : ∀ (n : Nat) (τ : ObjS) (H : Heap) (locs : List Loc) (ls : Array Slot), f_X7_readWord_b0 N n τ = some res → P τ H → (∀ q ∈ locs, lo ≤ q.base) → lv_has ls 1 [(0, .ref (ad 0))] → W p l e rm_X7_readWord s m args below meth c H locs 0 0 (MQ below (cQ none (P res)) args s 0 0 (fun q => lo ≤ q)) (F0 m 0 ls []) := by
  obtain ⟨⟨hx, hb, hml, hown, hts⟩, hr, hlocks, hK⟩ := id C0
  intro n
  induction n with
  | zero => intro τ H locs ls
            exact fun hf => nomatch hf
  | succ n ih =>
    intro τ H locs ls hf hP hL hl
    rw [f_X7_readWord_b0] at hf
    refine lv_aload_n hx hb dX7_readWord_0 rfl (lv_at hl 0 rfl) ?_
    refine g_Trace_9 hC hP hx hb hts hown hK mw_191 dX7_readWord_1 ?_
    refine lv_aload_n hx hb dX7_readWord_4 rfl (lv_at hl 0 rfl) ?_
    refine g_Trace_5 hC hP hx hb hts hown hK mw_144 dX7_readWord_5 ?_
    refine lv_icmp_ge (tgt := 38) hx hb dX7_readWord_8 (by decide) (fun c1 => ?_) (fun c1 => ?_)
    · have hf := cx_t hf c1
      exact w_X7_readWord_b38 C0 hZ hC τ _ _ _ hf hP hL (lv_sub hl [0] rfl)
    · have hf := cx_f hf c1
      refine lv_aload_n hx hb dX7_readWord_11 rfl (lv_at hl 0 rfl) ?_
      refine lv_aload_n hx hb dX7_readWord_12 rfl (lv_at hl 0 rfl) ?_
      refine g_Trace_9 hC hP hx hb hts hown hK mw_191 dX7_readWord_13 ?_
      obtain ⟨r2, q3, hf⟩ := cx_b hf
      refine cx_callV (As := [.int (τ.2 9)]) (rest := []) ⟨hx, hb, hml, hown, hts⟩ (c_X7_signAt hC q3) (cwV 1 hts (gV mw_199 mw_200 mw_201 mw_16 mw_202) rfl rfl rfl hd_X7_signAt ⟨Nat.le_of_ble_eq_true rfl, Nat.le_of_ble_eq_true rfl⟩) hK hP rfl (at_Trace hC hP) rfl hl.1 rfl (Nat.le_of_ble_eq_true rfl) dX7_readWord_16 ⟨Nat.zero_le _, Nat.zero_le _⟩ hL (fun H locs hP hL => ?_)
      replace hP : P τ H := by first | exact hP | (simpa only [va_up_id] using hP)
      obtain ⟨r4, q5, hf⟩ := cx_b hf
      refine cx_callS (As := [.int r2]) (rest := []) ⟨hx, hb, hml, hown, hts⟩ (c_X7_isLetter (PH := P τ) q5) (cwS 1 hts (gS mw_206 mw_207 mw_16 mw_208) rfl rfl rfl hd_X7_isLetter ⟨Nat.le_of_ble_eq_true rfl, Nat.le_of_ble_eq_true rfl⟩) hK hP rfl hl.1 rfl (Nat.le_of_ble_eq_true rfl) dX7_readWord_19 ⟨Nat.zero_le _, Nat.zero_le _⟩ hL (fun H locs hP hL => ?_)
      refine lv_if_eq (tgt := 38) hx hb dX7_readWord_22 (by decide) (fun c6 => ?_) (fun c6 => ?_)
      · have hf := cx_t hf c6
        exact w_X7_readWord_b38 C0 hZ hC τ _ _ _ hf hP hL (lv_sub hl [0] rfl)
      · have hf := cx_f hf c6
        refine lv_aload_n hx hb dX7_readWord_25 rfl (lv_at hl 0 rfl) ?_
        refine lv_dup hx hb dX7_readWord_26 rfl ?_
        refine g_Trace_9 hC hP hx hb hts hown hK mw_191 dX7_readWord_27 ?_
        refine lv_iconst (v := 1) hx hb dX7_readWord_30 (by decide) ?_
        refine lv_iadd hx hb dX7_readWord_31 ?_
        obtain ⟨z7, ez7, hf⟩ := cx_letE hf
        refine p_Trace_9 hC hP hx hb hts hown hK mw_191 dX7_readWord_32 hL (fun H locs hP hL => ?_)
        replace hP : P z7 H := by rw [← ez7]; exact hP
        refine lv_goto (tgt := 0) hx hb dX7_readWord_35 (by decide) ?_
        exact ih z7 _ _ _ hf hP hL (lv_sub hl [0] rfl)
def f_X7_readWord (N : Nat) (τ : ObjS) : Option (ObjS) := f_X7_readWord_b0 N N τ
set_option maxHeartbeats 4000000 in
set_option maxRecDepth 100000 in
theorem c_X7_readWord {l : Launch} {G : va_G} {cA : Nat → ClassId} {lo : Nat} {z : ZS} {ad : Nat → Nat} {P : ObjS → Heap → Prop} (hC : cx G lo 6 ad (ceTrace cA ad) P) {N : Nat} {τ : ObjS} {res : ObjS} (hf : f_X7_readWord N τ = some res) : Met l yX7_readWord (cW yX7_readWord cX7_readWord 1 none) rm_X7_readWord (cPZ lo z [.ref (ad 0)] (P τ) G cA) (cQ none (P res)) 0 0 (fun q => lo ≤ q) := by
  refine cx_metZ (by decide) (Nat.le_of_ble_eq_true rfl) (fun p e s m args below meth c ls C0 hZ hP hl => ?_)
  have hl : lv_has ls 1 [(0, .ref (ad 0))] := hl
  obtain ⟨⟨hx, hb, hml, hown, hts⟩, hr, hlocks, hK⟩ := id C0
  have hL : ∀ q ∈ ([] : List Loc), lo ≤ q.base := fun q h => nomatch h
  unfold f_X7_readWord at hf
  exact w_X7_readWord_b0 C0 hZ hC N τ _ _ _ hf hP hL (lv_sub hl [0] rfl)
abbrev rm_X7_isDigit : Room := { frames := 0, cells := 0, slots := 0, locals := 0 }
theorem hd_X7_isDigit : yX7_isDigit.cls = RX7 ∧ yX7_isDigit.cls ≠ "java/lang/invoke/MethodHandle" ∧ yX7_isDigit.cls ≠ "java/lang/invoke/VarHandle" ∧ (parseMethodDescriptor yX7_isDigit.desc).map (fun d => d.parameters.length) = some 1 := by decide +kernel
def f_X7_isDigit (p0 : Int32) : Option (Int32) := if p0 < 48 then some 0 else if 57 < p0 then some 0 else some 1
set_option maxHeartbeats 4000000 in
set_option maxRecDepth 100000 in
theorem c_X7_isDigit {l : Launch} {G : va_G} {cA : Nat → ClassId} {lo : Nat} {PH : Heap → Prop} {p0 : Int32} {res : Int32} (hf : f_X7_isDigit p0 = some res) : Met l yX7_isDigit (cW yX7_isDigit cX7_isDigit 1 (some .boolean)) rm_X7_isDigit (cP [.int p0] (PH) G cA) (cQ (some (.int res)) (PH)) 0 0 (fun q => lo ≤ q) := by
  refine cx_met (by decide) (Nat.le_of_ble_eq_true rfl) (fun p e s m args below meth c ls C0 hP hl => ?_)
  have hl : lv_has ls 1 [(0, .int p0)] := hl
  obtain ⟨⟨hx, hb, hml, hown, hts⟩, hr, hlocks, hK⟩ := id C0
  have hL : ∀ q ∈ ([] : List Loc), lo ≤ q.base := fun q h => nomatch h
  unfold f_X7_isDigit at hf
  refine lv_iload_n hx hb dX7_isDigit_0 rfl (lv_at hl 0 rfl) ?_
  refine lv_bipush (v := 48) hx hb dX7_isDigit_1 (by decide) ?_
  refine lv_icmp_lt (tgt := 16) hx hb dX7_isDigit_3 (by decide) (fun c1 => ?_) (fun c1 => ?_)
  · have hf := cx_t hf c1
    refine lv_iconst (v := 0) hx hb dX7_isDigit_16 (by decide) ?_
    cases hf
    exact cx_zret hx hb hr hlocks (Or.inl rfl) hP hL dX7_isDigit_17
  · have hf := cx_f hf c1
    refine lv_iload_n hx hb dX7_isDigit_6 rfl (lv_at hl 0 rfl) ?_
    refine lv_bipush (v := 57) hx hb dX7_isDigit_7 (by decide) ?_
    refine lv_icmp_gt (tgt := 16) hx hb dX7_isDigit_9 (by decide) (fun c2 => ?_) (fun c2 => ?_)
    · have hf := cx_t hf c2
      refine lv_iconst (v := 0) hx hb dX7_isDigit_16 (by decide) ?_
      cases hf
      exact cx_zret hx hb hr hlocks (Or.inl rfl) hP hL dX7_isDigit_17
    · have hf := cx_f hf c2
      refine lv_iconst (v := 1) hx hb dX7_isDigit_12 (by decide) ?_
      refine lv_goto (tgt := 17) hx hb dX7_isDigit_13 (by decide) ?_
      cases hf
      exact cx_zret hx hb hr hlocks (Or.inr rfl) hP hL dX7_isDigit_17
abbrev rm_X7_readNumber : Room := { frames := 1, cells := 0, slots := 0, locals := 21 }
theorem hd_X7_readNumber : yX7_readNumber.cls = RX7 ∧ yX7_readNumber.cls ≠ "java/lang/invoke/MethodHandle" ∧ yX7_readNumber.cls ≠ "java/lang/invoke/VarHandle" ∧ (parseMethodDescriptor yX7_readNumber.desc).map (fun d => d.parameters.length) = some 0 := by decide +kernel
def f_X7_readNumber_b11 (N : Nat) : Nat → ObjS → Option (ObjS)
  | 0, _ => none
  | n + 1, τ => if τ.2 5 ≤ τ.2 9 then some τ else (f_X7_signAt τ (τ.2 9)).bind fun r2 => (f_X7_isDigit r2).bind fun r4 => if r4 = 0 then some τ else (f_X7_signAt τ (τ.2 9)).bind fun r7 => cx_let (oI τ 12 (if (((τ.2 12 * 10) + r7) - 48) < 1000 then (((τ.2 12 * 10) + r7) - 48) else 1000)) fun z9 => cx_let (oI z9 9 (z9.2 9 + 1)) fun z10 => f_X7_readNumber_b11 N n z10
set_option maxHeartbeats 4000000 in
set_option maxRecDepth 100000 in
theorem w_X7_readNumber_b11 {p : Program} {l : Launch} {e : Env} {s : State} {m : MethodId} {args : Array Value} {below : List Frame} {meth : Method} {c : Code} {G : va_G} {cA : Nat → ClassId} (C0 : cB p s m args meth c RX7 cX7_readNumber 1 none G cA) {lo : Nat} {ad : Nat → Nat} {P : ObjS → Heap → Prop} (hC : cx G lo 6 ad (ceTrace cA ad) P) {N : Nat} {res : ObjS} : ∀ (n : Nat) (τ : ObjS) (H : Heap) (locs : List Loc) (ls : Array Slot), f_X7_readNumber_b11 N n τ = some res → P τ H → (∀ q ∈ locs, lo ≤ q.base) → lv_has ls 1 [(0, .ref (ad 0))] → W p l e rm_X7_readNumber s m args below meth c H locs 0 0 (MQ below (cQ none (P res)) args s 0 0 (fun q => lo ≤ q)) (F0 m 11 ls []) := by
  obtain ⟨⟨hx, hb, hml, hown, hts⟩, hr, hlocks, hK⟩ := id C0
  intro n
  induction n with
  | zero => intro τ H locs ls
            exact fun hf => nomatch hf
  | succ n ih =>
    intro τ H locs ls hf hP hL hl
    rw [f_X7_readNumber_b11] at hf
    refine lv_aload_n hx hb dX7_readNumber_11 rfl (lv_at hl 0 rfl) ?_
    refine g_Trace_9 hC hP hx hb hts hown hK mw_191 dX7_readNumber_12 ?_
    refine lv_aload_n hx hb dX7_readNumber_15 rfl (lv_at hl 0 rfl) ?_
    refine g_Trace_5 hC hP hx hb hts hown hK mw_144 dX7_readNumber_16 ?_
    refine lv_icmp_ge (tgt := 78) hx hb dX7_readNumber_19 (by decide) (fun c1 => ?_) (fun c1 => ?_)
    · have hf := cx_t hf c1
      cases hf
      exact cx_vret hx hb hr hlocks hP hL dX7_readNumber_78
    · have hf := cx_f hf c1
      refine lv_aload_n hx hb dX7_readNumber_22 rfl (lv_at hl 0 rfl) ?_
      refine lv_aload_n hx hb dX7_readNumber_23 rfl (lv_at hl 0 rfl) ?_
      refine g_Trace_9 hC hP hx hb hts hown hK mw_191 dX7_readNumber_24 ?_
      obtain ⟨r2, q3, hf⟩ := cx_b hf
      refine cx_callV (As := [.int (τ.2 9)]) (rest := []) ⟨hx, hb, hml, hown, hts⟩ (c_X7_signAt hC q3) (cwV 1 hts (gV mw_199 mw_200 mw_201 mw_16 mw_202) rfl rfl rfl hd_X7_signAt ⟨Nat.le_of_ble_eq_true rfl, Nat.le_of_ble_eq_true rfl⟩) hK hP rfl (at_Trace hC hP) rfl hl.1 rfl (Nat.le_of_ble_eq_true rfl) dX7_readNumber_27 ⟨Nat.zero_le _, Nat.zero_le _⟩ hL (fun H locs hP hL => ?_)
      replace hP : P τ H := by first | exact hP | (simpa only [va_up_id] using hP)
      obtain ⟨r4, q5, hf⟩ := cx_b hf
      refine cx_callS (As := [.int r2]) (rest := []) ⟨hx, hb, hml, hown, hts⟩ (c_X7_isDigit (PH := P τ) q5) (cwS 1 hts (gS mw_266 mw_267 mw_16 mw_268) rfl rfl rfl hd_X7_isDigit ⟨Nat.le_of_ble_eq_true rfl, Nat.le_of_ble_eq_true rfl⟩) hK hP rfl hl.1 rfl (Nat.le_of_ble_eq_true rfl) dX7_readNumber_30 ⟨Nat.zero_le _, Nat.zero_le _⟩ hL (fun H locs hP hL => ?_)
      refine lv_if_eq (tgt := 78) hx hb dX7_readNumber_33 (by decide) (fun c6 => ?_) (fun c6 => ?_)
      · have hf := cx_t hf c6
        cases hf
        exact cx_vret hx hb hr hlocks hP hL dX7_readNumber_78
      · have hf := cx_f hf c6
        refine lv_aload_n hx hb dX7_readNumber_36 rfl (lv_at hl 0 rfl) ?_
        refine lv_sipush (v := 1000) hx hb dX7_readNumber_37 (by decide) ?_
        refine lv_aload_n hx hb dX7_readNumber_40 rfl (lv_at hl 0 rfl) ?_
        refine g_Trace_12 hC hP hx hb hts hown hK mw_273 dX7_readNumber_41 ?_
        refine lv_bipush (v := 10) hx hb dX7_readNumber_44 (by decide) ?_
        refine lv_imul hx hb dX7_readNumber_46 ?_
        refine lv_aload_n hx hb dX7_readNumber_47 rfl (lv_at hl 0 rfl) ?_
        refine lv_aload_n hx hb dX7_readNumber_48 rfl (lv_at hl 0 rfl) ?_
        refine g_Trace_9 hC hP hx hb hts hown hK mw_191 dX7_readNumber_49 ?_
        obtain ⟨r7, q8, hf⟩ := cx_b hf
        refine cx_callV (As := [.int (τ.2 9)]) (rest := [.int (τ.2 12 * 10), .int 1000, .ref (ad 0)]) ⟨hx, hb, hml, hown, hts⟩ (c_X7_signAt hC q8) (cwV 1 hts (gV mw_199 mw_200 mw_201 mw_16 mw_202) rfl rfl rfl hd_X7_signAt ⟨Nat.le_of_ble_eq_true rfl, Nat.le_of_ble_eq_true rfl⟩) hK hP rfl (at_Trace hC hP) rfl hl.1 rfl (Nat.le_of_ble_eq_true rfl) dX7_readNumber_52 ⟨Nat.zero_le _, Nat.zero_le _⟩ hL (fun H locs hP hL => ?_)
        replace hP : P τ H := by first | exact hP | (simpa only [va_up_id] using hP)
        refine lv_iadd hx hb dX7_readNumber_55 ?_
        refine lv_bipush (v := 48) hx hb dX7_readNumber_56 (by decide) ?_
        refine lv_isub hx hb dX7_readNumber_58 ?_
        refine va_mmin hx hb (hml.trans hl.1.symm) hown (hts _ mw_274) (hts _ mw_275) (hts _ mw_276) (hts _ mw_277) (Nat.le_of_ble_eq_true rfl) (Nat.le_of_ble_eq_true rfl) (Nat.zero_le _) (Nat.zero_le _) dX7_readNumber_59 ?_
        obtain ⟨z9, ez9, hf⟩ := cx_letE hf
        refine p_Trace_12 hC hP hx hb hts hown hK mw_273 dX7_readNumber_62 hL (fun H locs hP hL => ?_)
        replace hP : P z9 H := by rw [← ez9]; exact hP
        refine lv_aload_n hx hb dX7_readNumber_65 rfl (lv_at hl 0 rfl) ?_
        refine lv_dup hx hb dX7_readNumber_66 rfl ?_
        refine g_Trace_9 hC hP hx hb hts hown hK mw_191 dX7_readNumber_67 ?_
        refine lv_iconst (v := 1) hx hb dX7_readNumber_70 (by decide) ?_
        refine lv_iadd hx hb dX7_readNumber_71 ?_
        obtain ⟨z10, ez10, hf⟩ := cx_letE hf
        refine p_Trace_9 hC hP hx hb hts hown hK mw_191 dX7_readNumber_72 hL (fun H locs hP hL => ?_)
        replace hP : P z10 H := by rw [← ez10]; exact hP
        refine lv_goto (tgt := 11) hx hb dX7_readNumber_75 (by decide) ?_
        exact ih z10 _ _ _ hf hP hL (lv_sub hl [0] rfl)
def f_X7_readNumber (N : Nat) (τ : ObjS) : Option (ObjS) := cx_let (oI τ 10 6) fun z1 => cx_let (oI z1 12 0) fun z2 => f_X7_readNumber_b11 N N z2
set_option maxHeartbeats 4000000 in
set_option maxRecDepth 100000 in
theorem c_X7_readNumber {l : Launch} {G : va_G} {cA : Nat → ClassId} {lo : Nat} {ad : Nat → Nat} {P : ObjS → Heap → Prop} (hC : cx G lo 6 ad (ceTrace cA ad) P) {N : Nat} {τ : ObjS} {res : ObjS} (hf : f_X7_readNumber N τ = some res) : Met l yX7_readNumber (cW yX7_readNumber cX7_readNumber 1 none) rm_X7_readNumber (cP [.ref (ad 0)] (P τ) G cA) (cQ none (P res)) 0 0 (fun q => lo ≤ q) := by
  refine cx_met (by decide) (Nat.le_of_ble_eq_true rfl) (fun p e s m args below meth c ls C0 hP hl => ?_)
  have hl : lv_has ls 1 [(0, .ref (ad 0))] := hl
  obtain ⟨⟨hx, hb, hml, hown, hts⟩, hr, hlocks, hK⟩ := id C0
  have hL : ∀ q ∈ ([] : List Loc), lo ≤ q.base := fun q h => nomatch h
  unfold f_X7_readNumber at hf
  refine lv_aload_n hx hb dX7_readNumber_0 rfl (lv_at hl 0 rfl) ?_
  refine lv_bipush (v := 6) hx hb dX7_readNumber_1 (by decide) ?_
  obtain ⟨z1, ez1, hf⟩ := cx_letE hf
  refine p_Trace_10 hC hP hx hb hts hown hK mw_193 dX7_readNumber_3 hL (fun H locs hP hL => ?_)
  replace hP : P z1 H := by rw [← ez1]; exact hP
  refine lv_aload_n hx hb dX7_readNumber_6 rfl (lv_at hl 0 rfl) ?_
  refine lv_iconst (v := 0) hx hb dX7_readNumber_7 (by decide) ?_
  obtain ⟨z2, ez2, hf⟩ := cx_letE hf
  refine p_Trace_12 hC hP hx hb hts hown hK mw_273 dX7_readNumber_8 hL (fun H locs hP hL => ?_)
  replace hP : P z2 H := by rw [← ez2]; exact hP
  exact w_X7_readNumber_b11 C0 hC N z2 _ _ _ hf hP hL (lv_sub hl [0] rfl)
abbrev rm_X7_nextToken : Room := { frames := 6, cells := 0, slots := 0, locals := 128 }
theorem hd_X7_nextToken : yX7_nextToken.cls = RX7 ∧ yX7_nextToken.cls ≠ "java/lang/invoke/MethodHandle" ∧ yX7_nextToken.cls ≠ "java/lang/invoke/VarHandle" ∧ (parseMethodDescriptor yX7_nextToken.desc).map (fun d => d.parameters.length) = some 0 := by decide +kernel
def f_X7_nextToken_b38 (N : Nat) (τ : ObjS) : Option (ObjS) := cx_let (oI τ 11 (τ.2 9)) fun z1 => if z1.2 9 < z1.2 5 then (f_X7_signAt z1 (z1.2 9)).bind fun r3 => (f_X7_isLetter r3).bind fun r5 => if r5 = 0 then (f_X7_isDigit r3).bind fun r8 => if r8 = 0 then if r3 = 59 then cx_let (oI z1 10 7) fun z14 => cx_let (oI z14 9 (z14.2 9 + 1)) fun z15 => some z15 else cx_let (oI z1 10 8) fun z12 => cx_let (oI z12 9 (z12.2 9 + 1)) fun z13 => some z13 else (f_X7_readNumber N z1).bind fun r16 => some r16 else (f_X7_readWord N z1).bind fun r18 => some r18 else cx_let (oI z1 10 9) fun z20 => some z20
set_option maxHeartbeats 4000000 in
set_option maxRecDepth 100000 in
theorem w_X7_nextToken_b38 {p : Program} {l : Launch} {e : Env} {s : State} {m : MethodId} {args : Array Value} {below : List Frame} {meth : Method} {c : Code} {G : va_G} {cA : Nat → ClassId} (C0 : cB p s m args meth c RX7 cX7_nextToken 2 none G cA) {lo : Nat} {z : ZS} (hZ : Zt lo z s) {ad : Nat → Nat} {P : ObjS → Heap → Prop} (hC : cx G lo 6 ad (ceTrace cA ad) P) {N : Nat} {res : ObjS} : ∀ (τ : ObjS) (H : Heap) (locs : List Loc) (ls : Array Slot), f_X7_nextToken_b38 N τ = some res → P τ H → (∀ q ∈ locs, lo ≤ q.base) → lv_has ls 2 [(0, .ref (ad 0))] → W p l e rm_X7_nextToken s m args below meth c H locs 0 0 (MQ below (cQ none (P res)) args s 0 0 (fun q => lo ≤ q)) (F0 m 38 ls []) := by
  obtain ⟨⟨hx, hb, hml, hown, hts⟩, hr, hlocks, hK⟩ := id C0
  intro τ H locs ls hf hP hL hl
  unfold f_X7_nextToken_b38 at hf
  refine lv_aload_n hx hb dX7_nextToken_38 rfl (lv_at hl 0 rfl) ?_
  refine lv_aload_n hx hb dX7_nextToken_39 rfl (lv_at hl 0 rfl) ?_
  refine g_Trace_9 hC hP hx hb hts hown hK mw_191 dX7_nextToken_40 ?_
  obtain ⟨z1, ez1, hf⟩ := cx_letE hf
  refine p_Trace_11 hC hP hx hb hts hown hK mw_198 dX7_nextToken_43 hL (fun H locs hP hL => ?_)
  replace hP : P z1 H := by rw [← ez1]; exact hP
  refine lv_aload_n hx hb dX7_nextToken_46 rfl (lv_at hl 0 rfl) ?_
  refine g_Trace_9 hC hP hx hb hts hown hK mw_191 dX7_nextToken_47 ?_
  refine lv_aload_n hx hb dX7_nextToken_50 rfl (lv_at hl 0 rfl) ?_
  refine g_Trace_5 hC hP hx hb hts hown hK mw_144 dX7_nextToken_51 ?_
  refine lv_icmp_lt (tgt := 64) hx hb dX7_nextToken_54 (by decide) (fun c2 => ?_) (fun c2 => ?_)
  · have hf := cx_t hf c2
    refine lv_aload_n hx hb dX7_nextToken_64 rfl (lv_at hl 0 rfl) ?_
    refine lv_aload_n hx hb dX7_nextToken_65 rfl (lv_at hl 0 rfl) ?_
    refine g_Trace_9 hC hP hx hb hts hown hK mw_191 dX7_nextToken_66 ?_
    obtain ⟨r3, q4, hf⟩ := cx_b hf
    refine cx_callV (As := [.int (z1.2 9)]) (rest := []) ⟨hx, hb, hml, hown, hts⟩ (c_X7_signAt hC q4) (cwV 1 hts (gV mw_199 mw_200 mw_201 mw_16 mw_202) rfl rfl rfl hd_X7_signAt ⟨Nat.le_of_ble_eq_true rfl, Nat.le_of_ble_eq_true rfl⟩) hK hP rfl (at_Trace hC hP) rfl hl.1 rfl (Nat.le_of_ble_eq_true rfl) dX7_nextToken_69 ⟨Nat.zero_le _, Nat.zero_le _⟩ hL (fun H locs hP hL => ?_)
    replace hP : P z1 H := by first | exact hP | (simpa only [va_up_id] using hP)
    refine lv_istore_n (lv' := [(1, .int r3), (0, .ref (ad 0))]) hx hb dX7_nextToken_72 rfl hl (by decide) rfl (fun ls hl => ?_)
    refine lv_iload_n hx hb dX7_nextToken_73 rfl (lv_at hl 0 rfl) ?_
    obtain ⟨r5, q6, hf⟩ := cx_b hf
    refine cx_callS (As := [.int r3]) (rest := []) ⟨hx, hb, hml, hown, hts⟩ (c_X7_isLetter (PH := P z1) q6) (cwS 1 hts (gS mw_206 mw_207 mw_16 mw_208) rfl rfl rfl hd_X7_isLetter ⟨Nat.le_of_ble_eq_true rfl, Nat.le_of_ble_eq_true rfl⟩) hK hP rfl hl.1 rfl (Nat.le_of_ble_eq_true rfl) dX7_nextToken_74 ⟨Nat.zero_le _, Nat.zero_le _⟩ hL (fun H locs hP hL => ?_)
    refine lv_if_eq (tgt := 87) hx hb dX7_nextToken_77 (by decide) (fun c7 => ?_) (fun c7 => ?_)
    · have hf := cx_t hf c7
      refine lv_iload_n hx hb dX7_nextToken_87 rfl (lv_at hl 0 rfl) ?_
      obtain ⟨r8, q9, hf⟩ := cx_b hf
      refine cx_callS (As := [.int r3]) (rest := []) ⟨hx, hb, hml, hown, hts⟩ (c_X7_isDigit (PH := P z1) q9) (cwS 1 hts (gS mw_266 mw_267 mw_16 mw_268) rfl rfl rfl hd_X7_isDigit ⟨Nat.le_of_ble_eq_true rfl, Nat.le_of_ble_eq_true rfl⟩) hK hP rfl hl.1 rfl (Nat.le_of_ble_eq_true rfl) dX7_nextToken_88 ⟨Nat.zero_le _, Nat.zero_le _⟩ hL (fun H locs hP hL => ?_)
      refine lv_if_eq (tgt := 101) hx hb dX7_nextToken_91 (by decide) (fun c10 => ?_) (fun c10 => ?_)
      · have hf := cx_t hf c10
        refine lv_aload_n hx hb dX7_nextToken_101 rfl (lv_at hl 1 rfl) ?_
        refine lv_iload_n hx hb dX7_nextToken_102 rfl (lv_at hl 0 rfl) ?_
        refine lv_bipush (v := 59) hx hb dX7_nextToken_103 (by decide) ?_
        refine lv_icmp_ne (tgt := 113) hx hb dX7_nextToken_105 (by decide) (fun c11 => ?_) (fun c11 => ?_)
        · have hf := cx_f hf c11
          refine lv_bipush (v := 8) hx hb dX7_nextToken_113 (by decide) ?_
          obtain ⟨z12, ez12, hf⟩ := cx_letE hf
          refine p_Trace_10 hC hP hx hb hts hown hK mw_193 dX7_nextToken_115 hL (fun H locs hP hL => ?_)
          replace hP : P z12 H := by rw [← ez12]; exact hP
          refine lv_aload_n hx hb dX7_nextToken_118 rfl (lv_at hl 1 rfl) ?_
          refine lv_dup hx hb dX7_nextToken_119 rfl ?_
          refine g_Trace_9 hC hP hx hb hts hown hK mw_191 dX7_nextToken_120 ?_
          refine lv_iconst (v := 1) hx hb dX7_nextToken_123 (by decide) ?_
          refine lv_iadd hx hb dX7_nextToken_124 ?_
          obtain ⟨z13, ez13, hf⟩ := cx_letE hf
          refine p_Trace_9 hC hP hx hb hts hown hK mw_191 dX7_nextToken_125 hL (fun H locs hP hL => ?_)
          replace hP : P z13 H := by rw [← ez13]; exact hP
          cases hf
          exact cx_vret hx hb hr hlocks hP hL dX7_nextToken_128
        · have hf := cx_t hf c11
          refine lv_bipush (v := 7) hx hb dX7_nextToken_108 (by decide) ?_
          refine lv_goto (tgt := 115) hx hb dX7_nextToken_110 (by decide) ?_
          obtain ⟨z14, ez14, hf⟩ := cx_letE hf
          refine p_Trace_10 hC hP hx hb hts hown hK mw_193 dX7_nextToken_115 hL (fun H locs hP hL => ?_)
          replace hP : P z14 H := by rw [← ez14]; exact hP
          refine lv_aload_n hx hb dX7_nextToken_118 rfl (lv_at hl 1 rfl) ?_
          refine lv_dup hx hb dX7_nextToken_119 rfl ?_
          refine g_Trace_9 hC hP hx hb hts hown hK mw_191 dX7_nextToken_120 ?_
          refine lv_iconst (v := 1) hx hb dX7_nextToken_123 (by decide) ?_
          refine lv_iadd hx hb dX7_nextToken_124 ?_
          obtain ⟨z15, ez15, hf⟩ := cx_letE hf
          refine p_Trace_9 hC hP hx hb hts hown hK mw_191 dX7_nextToken_125 hL (fun H locs hP hL => ?_)
          replace hP : P z15 H := by rw [← ez15]; exact hP
          cases hf
          exact cx_vret hx hb hr hlocks hP hL dX7_nextToken_128
      · have hf := cx_f hf c10
        refine lv_aload_n hx hb dX7_nextToken_94 rfl (lv_at hl 1 rfl) ?_
        obtain ⟨r16, q17, hf⟩ := cx_b hf
        refine cx_callV (As := []) (rest := []) ⟨hx, hb, hml, hown, hts⟩ (c_X7_readNumber hC q17) (cwV 0 hts (gV mw_269 mw_270 mw_271 mw_16 mw_272) rfl rfl rfl hd_X7_readNumber ⟨Nat.le_of_ble_eq_true rfl, Nat.le_of_ble_eq_true rfl⟩) hK hP rfl (at_Trace hC hP) rfl hl.1 rfl (Nat.le_of_ble_eq_true rfl) dX7_nextToken_95 ⟨Nat.zero_le _, Nat.zero_le _⟩ hL (fun H locs hP hL => ?_)
        replace hP : P r16 H := by first | exact hP | (simpa only [va_up_id] using hP)
        refine lv_goto (tgt := 128) hx hb dX7_nextToken_98 (by decide) ?_
        cases hf
        exact cx_vret hx hb hr hlocks hP hL dX7_nextToken_128
    · have hf := cx_f hf c7
      refine lv_aload_n hx hb dX7_nextToken_80 rfl (lv_at hl 1 rfl) ?_
      obtain ⟨r18, q19, hf⟩ := cx_b hf
      refine cx_callVZ (As := []) (rest := []) ⟨hx, hb, hml, hown, hts⟩ (c_X7_readWord hC q19) (cwV 0 hts (gV mw_209 mw_210 mw_211 mw_16 mw_212) rfl rfl rfl hd_X7_readWord ⟨Nat.le_of_ble_eq_true rfl, Nat.le_of_ble_eq_true rfl⟩) hK hZ hP rfl (at_Trace hC hP) rfl hl.1 rfl (Nat.le_of_ble_eq_true rfl) dX7_nextToken_81 ⟨Nat.zero_le _, Nat.zero_le _⟩ hL (fun H locs hP hL => ?_)
      replace hP : P r18 H := by first | exact hP | (simpa only [va_up_id] using hP)
      refine lv_goto (tgt := 128) hx hb dX7_nextToken_84 (by decide) ?_
      cases hf
      exact cx_vret hx hb hr hlocks hP hL dX7_nextToken_128
  · have hf := cx_f hf c2
    refine lv_aload_n hx hb dX7_nextToken_57 rfl (lv_at hl 0 rfl) ?_
    refine lv_bipush (v := 9) hx hb dX7_nextToken_58 (by decide) ?_
    obtain ⟨z20, ez20, hf⟩ := cx_letE hf
    refine p_Trace_10 hC hP hx hb hts hown hK mw_193 dX7_nextToken_60 hL (fun H locs hP hL => ?_)
    replace hP : P z20 H := by rw [← ez20]; exact hP
    cases hf
    exact cx_vret hx hb hr hlocks hP hL dX7_nextToken_63
def f_X7_nextToken_b0 (N : Nat) : Nat → ObjS → Option (ObjS)
  | 0, _ => none
  | n + 1, τ => if τ.2 5 ≤ τ.2 9 then f_X7_nextToken_b38 N τ else (f_X7_signAt τ (τ.2 9)).bind fun r2 => (f_X7_isBlank r2).bind fun r4 => if r4 = 0 then f_X7_nextToken_b38 N τ else cx_let (oI τ 9 (τ.2 9 + 1)) fun z7 => f_X7_nextToken_b0 N n z7
set_option maxHeartbeats 4000000 in
set_option maxRecDepth 100000 in
theorem w_X7_nextToken_b0 {p : Program} {l : Launch} {e : Env} {s : State} {m : MethodId} {args : Array Value} {below : List Frame} {meth : Method} {c : Code} {G : va_G} {cA : Nat → ClassId} (C0 : cB p s m args meth c RX7 cX7_nextToken 2 none G cA) {lo : Nat} {z : ZS} (hZ : Zt lo z s) {ad : Nat → Nat} {P : ObjS → Heap → Prop} (hC : cx G lo 6 ad (ceTrace cA ad) P) {N : Nat} {res : ObjS} : ∀ (n : Nat) (τ : ObjS) (H : Heap) (locs : List Loc) (ls : Array Slot), f_X7_nextToken_b0 N n τ = some res → P τ H → (∀ q ∈ locs, lo ≤ q.base) → lv_has ls 2 [(0, .ref (ad 0))] → W p l e rm_X7_nextToken s m args below meth c H locs 0 0 (MQ below (cQ none (P res)) args s 0 0 (fun q => lo ≤ q)) (F0 m 0 ls []) := by
  obtain ⟨⟨hx, hb, hml, hown, hts⟩, hr, hlocks, hK⟩ := id C0
  intro n
  induction n with
  | zero => intro τ H locs ls
            exact fun hf => nomatch hf
  | succ n ih =>
    intro τ H locs ls hf hP hL hl
    rw [f_X7_nextToken_b0] at hf
    refine lv_aload_n hx hb dX7_nextToken_0 rfl (lv_at hl 0 rfl) ?_
    refine g_Trace_9 hC hP hx hb hts hown hK mw_191 dX7_nextToken_1 ?_
    refine lv_aload_n hx hb dX7_nextToken_4 rfl (lv_at hl 0 rfl) ?_
    refine g_Trace_5 hC hP hx hb hts hown hK mw_144 dX7_nextToken_5 ?_
    refine lv_icmp_ge (tgt := 38) hx hb dX7_nextToken_8 (by decide) (fun c1 => ?_) (fun c1 => ?_)
    · have hf := cx_t hf c1
      exact w_X7_nextToken_b38 C0 hZ hC τ _ _ _ hf hP hL (lv_sub hl [0] rfl)
    · have hf := cx_f hf c1
      refine lv_aload_n hx hb dX7_nextToken_11 rfl (lv_at hl 0 rfl) ?_
      refine lv_aload_n hx hb dX7_nextToken_12 rfl (lv_at hl 0 rfl) ?_
      refine g_Trace_9 hC hP hx hb hts hown hK mw_191 dX7_nextToken_13 ?_
      obtain ⟨r2, q3, hf⟩ := cx_b hf
      refine cx_callV (As := [.int (τ.2 9)]) (rest := []) ⟨hx, hb, hml, hown, hts⟩ (c_X7_signAt hC q3) (cwV 1 hts (gV mw_199 mw_200 mw_201 mw_16 mw_202) rfl rfl rfl hd_X7_signAt ⟨Nat.le_of_ble_eq_true rfl, Nat.le_of_ble_eq_true rfl⟩) hK hP rfl (at_Trace hC hP) rfl hl.1 rfl (Nat.le_of_ble_eq_true rfl) dX7_nextToken_16 ⟨Nat.zero_le _, Nat.zero_le _⟩ hL (fun H locs hP hL => ?_)
      replace hP : P τ H := by first | exact hP | (simpa only [va_up_id] using hP)
      obtain ⟨r4, q5, hf⟩ := cx_b hf
      refine cx_callS (As := [.int r2]) (rest := []) ⟨hx, hb, hml, hown, hts⟩ (c_X7_isBlank (PH := P τ) q5) (cwS 1 hts (gS mw_203 mw_204 mw_16 mw_205) rfl rfl rfl hd_X7_isBlank ⟨Nat.le_of_ble_eq_true rfl, Nat.le_of_ble_eq_true rfl⟩) hK hP rfl hl.1 rfl (Nat.le_of_ble_eq_true rfl) dX7_nextToken_19 ⟨Nat.zero_le _, Nat.zero_le _⟩ hL (fun H locs hP hL => ?_)
      refine lv_if_eq (tgt := 38) hx hb dX7_nextToken_22 (by decide) (fun c6 => ?_) (fun c6 => ?_)
      · have hf := cx_t hf c6
        exact w_X7_nextToken_b38 C0 hZ hC τ _ _ _ hf hP hL (lv_sub hl [0] rfl)
      · have hf := cx_f hf c6
        refine lv_aload_n hx hb dX7_nextToken_25 rfl (lv_at hl 0 rfl) ?_
        refine lv_dup hx hb dX7_nextToken_26 rfl ?_
        refine g_Trace_9 hC hP hx hb hts hown hK mw_191 dX7_nextToken_27 ?_
        refine lv_iconst (v := 1) hx hb dX7_nextToken_30 (by decide) ?_
        refine lv_iadd hx hb dX7_nextToken_31 ?_
        obtain ⟨z7, ez7, hf⟩ := cx_letE hf
        refine p_Trace_9 hC hP hx hb hts hown hK mw_191 dX7_nextToken_32 hL (fun H locs hP hL => ?_)
        replace hP : P z7 H := by rw [← ez7]; exact hP
        refine lv_goto (tgt := 0) hx hb dX7_nextToken_35 (by decide) ?_
        exact ih z7 _ _ _ hf hP hL (lv_sub hl [0] rfl)
def f_X7_nextToken (N : Nat) (τ : ObjS) : Option (ObjS) := f_X7_nextToken_b0 N N τ
set_option maxHeartbeats 4000000 in
set_option maxRecDepth 100000 in
theorem c_X7_nextToken {l : Launch} {G : va_G} {cA : Nat → ClassId} {lo : Nat} {z : ZS} {ad : Nat → Nat} {P : ObjS → Heap → Prop} (hC : cx G lo 6 ad (ceTrace cA ad) P) {N : Nat} {τ : ObjS} {res : ObjS} (hf : f_X7_nextToken N τ = some res) : Met l yX7_nextToken (cW yX7_nextToken cX7_nextToken 2 none) rm_X7_nextToken (cPZ lo z [.ref (ad 0)] (P τ) G cA) (cQ none (P res)) 0 0 (fun q => lo ≤ q) := by
  refine cx_metZ (by decide) (Nat.le_of_ble_eq_true rfl) (fun p e s m args below meth c ls C0 hZ hP hl => ?_)
  have hl : lv_has ls 2 [(0, .ref (ad 0))] := hl
  obtain ⟨⟨hx, hb, hml, hown, hts⟩, hr, hlocks, hK⟩ := id C0
  have hL : ∀ q ∈ ([] : List Loc), lo ≤ q.base := fun q h => nomatch h
  unfold f_X7_nextToken at hf
  exact w_X7_nextToken_b0 C0 hZ hC N τ _ _ _ hf hP hL (lv_sub hl [0] rfl)
abbrev rm_X7_fail : Room := { frames := 0, cells := 0, slots := 0, locals := 0 }
theorem hd_X7_fail : yX7_fail.cls = RX7 ∧ yX7_fail.cls ≠ "java/lang/invoke/MethodHandle" ∧ yX7_fail.cls ≠ "java/lang/invoke/VarHandle" ∧ (parseMethodDescriptor yX7_fail.desc).map (fun d => d.parameters.length) = some 1 := by decide +kernel
def f_X7_fail (τ : ObjS) (p0 : Int32) : Option (ObjS) := cx_let (oI τ 6 p0) fun z1 => cx_let (oI z1 7 (z1.2 11)) fun z2 => some z2
set_option maxHeartbeats 4000000 in
set_option maxRecDepth 100000 in
theorem c_X7_fail {l : Launch} {G : va_G} {cA : Nat → ClassId} {lo : Nat} {ad : Nat → Nat} {P : ObjS → Heap → Prop} (hC : cx G lo 6 ad (ceTrace cA ad) P) {τ : ObjS} {p0 : Int32} {res : ObjS} (hf : f_X7_fail τ p0 = some res) : Met l yX7_fail (cW yX7_fail cX7_fail 2 none) rm_X7_fail (cP [.ref (ad 0), .int p0] (P τ) G cA) (cQ none (P res)) 0 0 (fun q => lo ≤ q) := by
  refine cx_met (by decide) (Nat.le_of_ble_eq_true rfl) (fun p e s m args below meth c ls C0 hP hl => ?_)
  have hl : lv_has ls 2 [(0, .ref (ad 0)), (1, .int p0)] := hl
  obtain ⟨⟨hx, hb, hml, hown, hts⟩, hr, hlocks, hK⟩ := id C0
  have hL : ∀ q ∈ ([] : List Loc), lo ≤ q.base := fun q h => nomatch h
  unfold f_X7_fail at hf
  refine lv_aload_n hx hb dX7_fail_0 rfl (lv_at hl 0 rfl) ?_
  refine lv_iload_n hx hb dX7_fail_1 rfl (lv_at hl 1 rfl) ?_
  obtain ⟨z1, ez1, hf⟩ := cx_letE hf
  refine p_Trace_6 hC hP hx hb hts hown hK mw_192 dX7_fail_2 hL (fun H locs hP hL => ?_)
  replace hP : P z1 H := by rw [← ez1]; exact hP
  refine lv_aload_n hx hb dX7_fail_5 rfl (lv_at hl 0 rfl) ?_
  refine lv_aload_n hx hb dX7_fail_6 rfl (lv_at hl 0 rfl) ?_
  refine g_Trace_11 hC hP hx hb hts hown hK mw_198 dX7_fail_7 ?_
  obtain ⟨z2, ez2, hf⟩ := cx_letE hf
  refine p_Trace_7 hC hP hx hb hts hown hK mw_42 dX7_fail_10 hL (fun H locs hP hL => ?_)
  replace hP : P z2 H := by rw [← ez2]; exact hP
  cases hf
  exact cx_vret hx hb hr hlocks hP hL dX7_fail_13
abbrev rm_X7_takeNumber : Room := { frames := 7, cells := 0, slots := 0, locals := 149 }
theorem hd_X7_takeNumber : yX7_takeNumber.cls = RX7 ∧ yX7_takeNumber.cls ≠ "java/lang/invoke/MethodHandle" ∧ yX7_takeNumber.cls ≠ "java/lang/invoke/VarHandle" ∧ (parseMethodDescriptor yX7_takeNumber.desc).map (fun d => d.parameters.length) = some 2 := by decide +kernel
def f_X7_takeNumber (N : Nat) (τ : ObjS) (p0 : Int32) (p1 : Int32) : Option (Int32 × ObjS) := if τ.2 6 = 0 then if τ.2 10 = 6 then if τ.2 12 < p0 then (f_X7_fail τ 2).bind fun r4 => some ((-1), r4) else if τ.2 12 ≤ p1 then (f_X7_nextToken N τ).bind fun r7 => some (τ.2 12, r7) else (f_X7_fail τ 2).bind fun r9 => some ((-1), r9) else (f_X7_fail τ 1).bind fun r11 => some ((-1), r11) else some ((-1), τ)
set_option maxHeartbeats 4000000 in
set_option maxRecDepth 100000 in
theorem c_X7_takeNumber {l : Launch} {G : va_G} {cA : Nat → ClassId} {lo : Nat} {z : ZS} {ad : Nat → Nat} {P : ObjS → Heap → Prop} (hC : cx G lo 6 ad (ceTrace cA ad) P) {N : Nat} {τ : ObjS} {p0 : Int32} {p1 : Int32} {res : Int32 × ObjS} (hf : f_X7_takeNumber N τ p0 p1 = some res) : Met l yX7_takeNumber (cW yX7_takeNumber cX7_takeNumber 4 (some .int)) rm_X7_takeNumber (cPZ lo z [.ref (ad 0), .int p0, .int p1] (P τ) G cA) (cQ (some (.int res.1)) (P res.2)) 0 0 (fun q => lo ≤ q) := by
  refine cx_metZ (by decide) (Nat.le_of_ble_eq_true rfl) (fun p e s m args below meth c ls C0 hZ hP hl => ?_)
  have hl : lv_has ls 4 [(0, .ref (ad 0)), (1, .int p0), (2, .int p1)] := hl
  obtain ⟨⟨hx, hb, hml, hown, hts⟩, hr, hlocks, hK⟩ := id C0
  have hL : ∀ q ∈ ([] : List Loc), lo ≤ q.base := fun q h => nomatch h
  unfold f_X7_takeNumber at hf
  refine lv_aload_n hx hb dX7_takeNumber_0 rfl (lv_at hl 0 rfl) ?_
  refine g_Trace_6 hC hP hx hb hts hown hK mw_192 dX7_takeNumber_1 ?_
  refine lv_if_eq (tgt := 9) hx hb dX7_takeNumber_4 (by decide) (fun c1 => ?_) (fun c1 => ?_)
  · have hf := cx_t hf c1
    refine lv_aload_n hx hb dX7_takeNumber_9 rfl (lv_at hl 0 rfl) ?_
    refine g_Trace_10 hC hP hx hb hts hown hK mw_193 dX7_takeNumber_10 ?_
    refine lv_bipush (v := 6) hx hb dX7_takeNumber_13 (by decide) ?_
    refine lv_icmp_eq (tgt := 25) hx hb dX7_takeNumber_15 (by decide) (fun c2 => ?_) (fun c2 => ?_)
    · have hf := cx_t hf c2
      refine lv_aload_n hx hb dX7_takeNumber_25 rfl (lv_at hl 0 rfl) ?_
      refine g_Trace_12 hC hP hx hb hts hown hK mw_273 dX7_takeNumber_26 ?_
      refine lv_iload_n hx hb dX7_takeNumber_29 rfl (lv_at hl 1 rfl) ?_
      refine lv_icmp_lt (tgt := 41) hx hb dX7_takeNumber_30 (by decide) (fun c3 => ?_) (fun c3 => ?_)
      · have hf := cx_t hf c3
        refine lv_aload_n hx hb dX7_takeNumber_41 rfl (lv_at hl 0 rfl) ?_
        refine lv_iconst (v := 2) hx hb dX7_takeNumber_42 (by decide) ?_
        obtain ⟨r4, q5, hf⟩ := cx_b hf
        refine cx_callV (As := [.int 2]) (rest := []) ⟨hx, hb, hml, hown, hts⟩ (c_X7_fail hC q5) (cwV 1 hts (gV mw_282 mw_283 mw_284 mw_16 mw_285) rfl rfl rfl hd_X7_fail ⟨Nat.le_of_ble_eq_true rfl, Nat.le_of_ble_eq_true rfl⟩) hK hP rfl (at_Trace hC hP) rfl hl.1 rfl (Nat.le_of_ble_eq_true rfl) dX7_takeNumber_43 ⟨Nat.zero_le _, Nat.zero_le _⟩ hL (fun H locs hP hL => ?_)
        replace hP : P r4 H := by first | exact hP | (simpa only [va_up_id] using hP)
        refine lv_iconst (v := (-1)) hx hb dX7_takeNumber_46 (by decide) ?_
        cases hf
        exact cx_iret hx hb hr hlocks hP hL dX7_takeNumber_47
      · have hf := cx_f hf c3
        refine lv_aload_n hx hb dX7_takeNumber_33 rfl (lv_at hl 0 rfl) ?_
        refine g_Trace_12 hC hP hx hb hts hown hK mw_273 dX7_takeNumber_34 ?_
        refine lv_iload_n hx hb dX7_takeNumber_37 rfl (lv_at hl 2 rfl) ?_
        refine lv_icmp_le (tgt := 48) hx hb dX7_takeNumber_38 (by decide) (fun c6 => ?_) (fun c6 => ?_)
        · have hf := cx_t hf c6
          refine lv_aload_n hx hb dX7_takeNumber_48 rfl (lv_at hl 0 rfl) ?_
          refine g_Trace_12 hC hP hx hb hts hown hK mw_273 dX7_takeNumber_49 ?_
          refine lv_istore_n (lv' := [(3, .int (τ.2 12)), (0, .ref (ad 0)), (1, .int p0), (2, .int p1)]) hx hb dX7_takeNumber_52 rfl hl (by decide) rfl (fun ls hl => ?_)
          refine lv_aload_n hx hb dX7_takeNumber_53 rfl (lv_at hl 1 rfl) ?_
          obtain ⟨r7, q8, hf⟩ := cx_b hf
          refine cx_callVZ (As := []) (rest := []) ⟨hx, hb, hml, hown, hts⟩ (c_X7_nextToken hC q8) (cwV 0 hts (gV mw_194 mw_195 mw_196 mw_16 mw_197) rfl rfl rfl hd_X7_nextToken ⟨Nat.le_of_ble_eq_true rfl, Nat.le_of_ble_eq_true rfl⟩) hK hZ hP rfl (at_Trace hC hP) rfl hl.1 rfl (Nat.le_of_ble_eq_true rfl) dX7_takeNumber_54 ⟨Nat.zero_le _, Nat.zero_le _⟩ hL (fun H locs hP hL => ?_)
          replace hP : P r7 H := by first | exact hP | (simpa only [va_up_id] using hP)
          refine lv_iload_n hx hb dX7_takeNumber_57 rfl (lv_at hl 0 rfl) ?_
          cases hf
          exact cx_iret hx hb hr hlocks hP hL dX7_takeNumber_58
        · have hf := cx_f hf c6
          refine lv_aload_n hx hb dX7_takeNumber_41 rfl (lv_at hl 0 rfl) ?_
          refine lv_iconst (v := 2) hx hb dX7_takeNumber_42 (by decide) ?_
          obtain ⟨r9, q10, hf⟩ := cx_b hf
          refine cx_callV (As := [.int 2]) (rest := []) ⟨hx, hb, hml, hown, hts⟩ (c_X7_fail hC q10) (cwV 1 hts (gV mw_282 mw_283 mw_284 mw_16 mw_285) rfl rfl rfl hd_X7_fail ⟨Nat.le_of_ble_eq_true rfl, Nat.le_of_ble_eq_true rfl⟩) hK hP rfl (at_Trace hC hP) rfl hl.1 rfl (Nat.le_of_ble_eq_true rfl) dX7_takeNumber_43 ⟨Nat.zero_le _, Nat.zero_le _⟩ hL (fun H locs hP hL => ?_)
          replace hP : P r9 H := by first | exact hP | (simpa only [va_up_id] using hP)
          refine lv_iconst (v := (-1)) hx hb dX7_takeNumber_46 (by decide) ?_
          cases hf
          exact cx_iret hx hb hr hlocks hP hL dX7_takeNumber_47
    · have hf := cx_f hf c2
      refine lv_aload_n hx hb dX7_takeNumber_18 rfl (lv_at hl 0 rfl) ?_
      refine lv_iconst (v := 1) hx hb dX7_takeNumber_19 (by decide) ?_
      obtain ⟨r11, q12, hf⟩ := cx_b hf
      refine cx_callV (As := [.int 1]) (rest := []) ⟨hx, hb, hml, hown, hts⟩ (c_X7_fail hC q12) (cwV 1 hts (gV mw_282 mw_283 mw_284 mw_16 mw_285) rfl rfl rfl hd_X7_fail ⟨Nat.le_of_ble_eq_true rfl, Nat.le_of_ble_eq_true rfl⟩) hK hP rfl (at_Trace hC hP) rfl hl.1 rfl (Nat.le_of_ble_eq_true rfl) dX7_takeNumber_20 ⟨Nat.zero_le _, Nat.zero_le _⟩ hL (fun H locs hP hL => ?_)
      replace hP : P r11 H := by first | exact hP | (simpa only [va_up_id] using hP)
      refine lv_iconst (v := (-1)) hx hb dX7_takeNumber_23 (by decide) ?_
      cases hf
      exact cx_iret hx hb hr hlocks hP hL dX7_takeNumber_24
  · have hf := cx_f hf c1
    refine lv_iconst (v := (-1)) hx hb dX7_takeNumber_7 (by decide) ?_
    cases hf
    exact cx_iret hx hb hr hlocks hP hL dX7_takeNumber_8
abbrev rm_X7_takeSemicolon : Room := { frames := 7, cells := 0, slots := 0, locals := 149 }
theorem hd_X7_takeSemicolon : yX7_takeSemicolon.cls = RX7 ∧ yX7_takeSemicolon.cls ≠ "java/lang/invoke/MethodHandle" ∧ yX7_takeSemicolon.cls ≠ "java/lang/invoke/VarHandle" ∧ (parseMethodDescriptor yX7_takeSemicolon.desc).map (fun d => d.parameters.length) = some 0 := by decide +kernel
def f_X7_takeSemicolon (N : Nat) (τ : ObjS) : Option (ObjS) := if τ.2 6 = 0 then if τ.2 10 = 7 then (f_X7_nextToken N τ).bind fun r5 => some r5 else (f_X7_fail τ 1).bind fun r3 => some r3 else some τ
set_option maxHeartbeats 4000000 in
set_option maxRecDepth 100000 in
theorem c_X7_takeSemicolon {l : Launch} {G : va_G} {cA : Nat → ClassId} {lo : Nat} {z : ZS} {ad : Nat → Nat} {P : ObjS → Heap → Prop} (hC : cx G lo 6 ad (ceTrace cA ad) P) {N : Nat} {τ : ObjS} {res : ObjS} (hf : f_X7_takeSemicolon N τ = some res) : Met l yX7_takeSemicolon (cW yX7_takeSemicolon cX7_takeSemicolon 1 none) rm_X7_takeSemicolon (cPZ lo z [.ref (ad 0)] (P τ) G cA) (cQ none (P res)) 0 0 (fun q => lo ≤ q) := by
  refine cx_metZ (by decide) (Nat.le_of_ble_eq_true rfl) (fun p e s m args below meth c ls C0 hZ hP hl => ?_)
  have hl : lv_has ls 1 [(0, .ref (ad 0))] := hl
  obtain ⟨⟨hx, hb, hml, hown, hts⟩, hr, hlocks, hK⟩ := id C0
  have hL : ∀ q ∈ ([] : List Loc), lo ≤ q.base := fun q h => nomatch h
  unfold f_X7_takeSemicolon at hf
  refine lv_aload_n hx hb dX7_takeSemicolon_0 rfl (lv_at hl 0 rfl) ?_
  refine g_Trace_6 hC hP hx hb hts hown hK mw_192 dX7_takeSemicolon_1 ?_
  refine lv_if_eq (tgt := 8) hx hb dX7_takeSemicolon_4 (by decide) (fun c1 => ?_) (fun c1 => ?_)
  · have hf := cx_t hf c1
    refine lv_aload_n hx hb dX7_takeSemicolon_8 rfl (lv_at hl 0 rfl) ?_
    refine g_Trace_10 hC hP hx hb hts hown hK mw_193 dX7_takeSemicolon_9 ?_
    refine lv_bipush (v := 7) hx hb dX7_takeSemicolon_12 (by decide) ?_
    refine lv_icmp_ne (tgt := 24) hx hb dX7_takeSemicolon_14 (by decide) (fun c2 => ?_) (fun c2 => ?_)
    · have hf := cx_f hf c2
      refine lv_aload_n hx hb dX7_takeSemicolon_24 rfl (lv_at hl 0 rfl) ?_
      refine lv_iconst (v := 1) hx hb dX7_takeSemicolon_25 (by decide) ?_
      obtain ⟨r3, q4, hf⟩ := cx_b hf
      refine cx_callV (As := [.int 1]) (rest := []) ⟨hx, hb, hml, hown, hts⟩ (c_X7_fail hC q4) (cwV 1 hts (gV mw_282 mw_283 mw_284 mw_16 mw_285) rfl rfl rfl hd_X7_fail ⟨Nat.le_of_ble_eq_true rfl, Nat.le_of_ble_eq_true rfl⟩) hK hP rfl (at_Trace hC hP) rfl hl.1 rfl (Nat.le_of_ble_eq_true rfl) dX7_takeSemicolon_26 ⟨Nat.zero_le _, Nat.zero_le _⟩ hL (fun H locs hP hL => ?_)
      replace hP : P r3 H := by first | exact hP | (simpa only [va_up_id] using hP)
      cases hf
      exact cx_vret hx hb hr hlocks hP hL dX7_takeSemicolon_29
    · have hf := cx_t hf c2
      refine lv_aload_n hx hb dX7_takeSemicolon_17 rfl (lv_at hl 0 rfl) ?_
      obtain ⟨r5, q6, hf⟩ := cx_b hf
      refine cx_callVZ (As := []) (rest := []) ⟨hx, hb, hml, hown, hts⟩ (c_X7_nextToken hC q6) (cwV 0 hts (gV mw_194 mw_195 mw_196 mw_16 mw_197) rfl rfl rfl hd_X7_nextToken ⟨Nat.le_of_ble_eq_true rfl, Nat.le_of_ble_eq_true rfl⟩) hK hZ hP rfl (at_Trace hC hP) rfl hl.1 rfl (Nat.le_of_ble_eq_true rfl) dX7_takeSemicolon_18 ⟨Nat.zero_le _, Nat.zero_le _⟩ hL (fun H locs hP hL => ?_)
      replace hP : P r5 H := by first | exact hP | (simpa only [va_up_id] using hP)
      refine lv_goto (tgt := 29) hx hb dX7_takeSemicolon_21 (by decide) ?_
      cases hf
      exact cx_vret hx hb hr hlocks hP hL dX7_takeSemicolon_29
  · have hf := cx_f hf c1
    cases hf
    exact cx_vret hx hb hr hlocks hP hL dX7_takeSemicolon_7
abbrev rm_X7_parseCommand : Room := { frames := 8, cells := 0, slots := 0, locals := 172 }
theorem hd_X7_parseCommand : yX7_parseCommand.cls = RX7 ∧ yX7_parseCommand.cls ≠ "java/lang/invoke/MethodHandle" ∧ yX7_parseCommand.cls ≠ "java/lang/invoke/VarHandle" ∧ (parseMethodDescriptor yX7_parseCommand.desc).map (fun d => d.parameters.length) = some 0 := by decide +kernel
def f_X7_parseCommand_b134 (N : Nat) (τ : ObjS) (x1 : Int32) (x2 : Int32) (x3 : Int32) (x4 : Int32) : Option (ObjS) := (f_X7_takeSemicolon N τ).bind fun r1 => gd (r1.2 4) 40 (cx_let (oA r1 0 (Int32.toNatClampNeg (r1.2 4)) x1) fun z4 => gd (z4.2 4) 40 (cx_let (oA z4 1 (Int32.toNatClampNeg (z4.2 4)) x2) fun z6 => gd (z6.2 4) 40 (cx_let (oA z6 2 (Int32.toNatClampNeg (z6.2 4)) x3) fun z8 => gd (z8.2 4) 40 (cx_let (oA z8 3 (Int32.toNatClampNeg (z8.2 4)) x4) fun z10 => cx_let (oI z10 4 (z10.2 4 + 1)) fun z11 => some z11))))
set_option maxHeartbeats 4000000 in
set_option maxRecDepth 100000 in
theorem w_X7_parseCommand_b134 {p : Program} {l : Launch} {e : Env} {s : State} {m : MethodId} {args : Array Value} {below : List Frame} {meth : Method} {c : Code} {G : va_G} {cA : Nat → ClassId} (C0 : cB p s m args meth c RX7 cX7_parseCommand 5 none G cA) {lo : Nat} {z : ZS} (hZ : Zt lo z s) {ad : Nat → Nat} {P : ObjS → Heap → Prop} (hC : cx G lo 6 ad (ceTrace cA ad) P) {N : Nat} {res : ObjS} : ∀ (τ : ObjS) (x1 : Int32) (x2 : Int32) (x3 : Int32) (x4 : Int32) (H : Heap) (locs : List Loc) (ls : Array Slot), f_X7_parseCommand_b134 N τ x1 x2 x3 x4 = some res → P τ H → (∀ q ∈ locs, lo ≤ q.base) → lv_has ls 5 [(0, .ref (ad 0)), (1, .int x1), (2, .int x2), (3, .int x3), (4, .int x4)] → W p l e rm_X7_parseCommand s m args below meth c H locs 0 0 (MQ below (cQ none (P res)) args s 0 0 (fun q => lo ≤ q)) (F0 m 134 ls []) := by
  obtain ⟨⟨hx, hb, hml, hown, hts⟩, hr, hlocks, hK⟩ := id C0
  intro τ x1 x2 x3 x4 H locs ls hf hP hL hl
  unfold f_X7_parseCommand_b134 at hf
  refine lv_aload_n hx hb dX7_parseCommand_134 rfl (lv_at hl 0 rfl) ?_
  obtain ⟨r1, q2, hf⟩ := cx_b hf
  refine cx_callVZ (As := []) (rest := []) ⟨hx, hb, hml, hown, hts⟩ (c_X7_takeSemicolon hC q2) (cwV 0 hts (gV mw_290 mw_291 mw_292 mw_16 mw_293) rfl rfl rfl hd_X7_takeSemicolon ⟨Nat.le_of_ble_eq_true rfl, Nat.le_of_ble_eq_true rfl⟩) hK hZ hP rfl (at_Trace hC hP) rfl hl.1 rfl (Nat.le_of_ble_eq_true rfl) dX7_parseCommand_135 ⟨Nat.zero_le _, Nat.zero_le _⟩ hL (fun H locs hP hL => ?_)
  replace hP : P r1 H := by first | exact hP | (simpa only [va_up_id] using hP)
  refine lv_aload_n hx hb dX7_parseCommand_138 rfl (lv_at hl 0 rfl) ?_
  refine g_Trace_0 hC hP hx hb hts hown hK mw_38 dX7_parseCommand_139 ?_
  refine lv_aload_n hx hb dX7_parseCommand_142 rfl (lv_at hl 0 rfl) ?_
  refine g_Trace_4 hC hP hx hb hts hown hK mw_190 dX7_parseCommand_143 ?_
  refine lv_iload_n hx hb dX7_parseCommand_146 rfl (lv_at hl 1 rfl) ?_
  obtain ⟨hi3, hf⟩ := gdE hf
  obtain ⟨z4, ez4, hf⟩ := cx_letE hf
  refine pa_Trace_0 hC hP hx hb hK hi3 dX7_parseCommand_147 hL (fun H locs hP hL => ?_)
  replace hP : P z4 H := by rw [← ez4]; exact hP
  refine lv_aload_n hx hb dX7_parseCommand_148 rfl (lv_at hl 0 rfl) ?_
  refine g_Trace_1 hC hP hx hb hts hown hK mw_39 dX7_parseCommand_149 ?_
  refine lv_aload_n hx hb dX7_parseCommand_152 rfl (lv_at hl 0 rfl) ?_
  refine g_Trace_4 hC hP hx hb hts hown hK mw_190 dX7_parseCommand_153 ?_
  refine lv_iload_n hx hb dX7_parseCommand_156 rfl (lv_at hl 2 rfl) ?_
  obtain ⟨hi5, hf⟩ := gdE hf
  obtain ⟨z6, ez6, hf⟩ := cx_letE hf
  refine pa_Trace_1 hC hP hx hb hK hi5 dX7_parseCommand_157 hL (fun H locs hP hL => ?_)
  replace hP : P z6 H := by rw [← ez6]; exact hP
  refine lv_aload_n hx hb dX7_parseCommand_158 rfl (lv_at hl 0 rfl) ?_
  refine g_Trace_2 hC hP hx hb hts hown hK mw_40 dX7_parseCommand_159 ?_
  refine lv_aload_n hx hb dX7_parseCommand_162 rfl (lv_at hl 0 rfl) ?_
  refine g_Trace_4 hC hP hx hb hts hown hK mw_190 dX7_parseCommand_163 ?_
  refine lv_iload_n hx hb dX7_parseCommand_166 rfl (lv_at hl 3 rfl) ?_
  obtain ⟨hi7, hf⟩ := gdE hf
  obtain ⟨z8, ez8, hf⟩ := cx_letE hf
  refine pa_Trace_2 hC hP hx hb hK hi7 dX7_parseCommand_167 hL (fun H locs hP hL => ?_)
  replace hP : P z8 H := by rw [← ez8]; exact hP
  refine lv_aload_n hx hb dX7_parseCommand_168 rfl (lv_at hl 0 rfl) ?_
  refine g_Trace_3 hC hP hx hb hts hown hK mw_41 dX7_parseCommand_169 ?_
  refine lv_aload_n hx hb dX7_parseCommand_172 rfl (lv_at hl 0 rfl) ?_
  refine g_Trace_4 hC hP hx hb hts hown hK mw_190 dX7_parseCommand_173 ?_
  refine lv_iload hx hb dX7_parseCommand_176 (lv_at hl 4 rfl) ?_
  obtain ⟨hi9, hf⟩ := gdE hf
  obtain ⟨z10, ez10, hf⟩ := cx_letE hf
  refine pa_Trace_3 hC hP hx hb hK hi9 dX7_parseCommand_178 hL (fun H locs hP hL => ?_)
  replace hP : P z10 H := by rw [← ez10]; exact hP
  refine lv_aload_n hx hb dX7_parseCommand_179 rfl (lv_at hl 0 rfl) ?_
  refine lv_dup hx hb dX7_parseCommand_180 rfl ?_
  refine g_Trace_4 hC hP hx hb hts hown hK mw_190 dX7_parseCommand_181 ?_
  refine lv_iconst (v := 1) hx hb dX7_parseCommand_184 (by decide) ?_
  refine lv_iadd hx hb dX7_parseCommand_185 ?_
  obtain ⟨z11, ez11, hf⟩ := cx_letE hf
  refine p_Trace_4 hC hP hx hb hts hown hK mw_190 dX7_parseCommand_186 hL (fun H locs hP hL => ?_)
  replace hP : P z11 H := by rw [← ez11]; exact hP
  cases hf
  exact cx_vret hx hb hr hlocks hP hL dX7_parseCommand_189
def f_X7_parseCommand_b79 (N : Nat) (τ : ObjS) (x1 : Int32) (x2 : Int32) (x3 : Int32) : Option (ObjS) := if x1 = 2 then (f_X7_takeNumber N τ 0 999).bind fun r9 => f_X7_parseCommand_b134 N r9.2 x1 x2 x3 r9.1 else if x1 = 1 then if τ.2 6 = 0 then if τ.2 10 = 4 then (f_X7_nextToken N τ).bind fun r5 => (f_X7_takeNumber N r5 x3 199).bind fun r7 => f_X7_parseCommand_b134 N r7.2 x1 x2 x3 r7.1 else f_X7_parseCommand_b134 N τ x1 x2 x3 x3 else f_X7_parseCommand_b134 N τ x1 x2 x3 x3 else f_X7_parseCommand_b134 N τ x1 x2 x3 x3
set_option maxHeartbeats 4000000 in
set_option maxRecDepth 100000 in
theorem w_X7_parseCommand_b79 {p : Program} {l : Launch} {e : Env} {s : State} {m : MethodId} {args : Array Value} {below : List Frame} {meth : Method} {c : Code} {G : va_G} {cA : Nat → ClassId} (C0 : cB p s m args meth c RX7 cX7_parseCommand 5 none G cA) {lo : Nat} {z : ZS} (hZ : Zt lo z s) {ad : Nat → Nat} {P : ObjS → Heap → Prop} (hC : cx G lo 6 ad (ceTrace cA ad) P) {N : Nat} {res : ObjS} : ∀ (τ : ObjS) (x1 : Int32) (x2 : Int32) (x3 : Int32) (H : Heap) (locs : List Loc) (ls : Array Slot), f_X7_parseCommand_b79 N τ x1 x2 x3 = some res → P τ H → (∀ q ∈ locs, lo ≤ q.base) → lv_has ls 5 [(0, .ref (ad 0)), (1, .int x1), (2, .int x2), (3, .int x3)] → W p l e rm_X7_parseCommand s m args below meth c H locs 0 0 (MQ below (cQ none (P res)) args s 0 0 (fun q => lo ≤ q)) (F0 m 79 ls []) := by
  obtain ⟨⟨hx, hb, hml, hown, hts⟩, hr, hlocks, hK⟩ := id C0
  intro τ x1 x2 x3 H locs ls hf hP hL hl
  unfold f_X7_parseCommand_b79 at hf
  refine lv_iload_n hx hb dX7_parseCommand_79 rfl (lv_at hl 3 rfl) ?_
  refine lv_istore (lv' := [(4, .int x3), (0, .ref (ad 0)), (1, .int x1), (2, .int x2), (3, .int x3)]) hx hb dX7_parseCommand_80 hl (by decide) rfl (fun ls hl => ?_)
  refine lv_iload_n hx hb dX7_parseCommand_82 rfl (lv_at hl 2 rfl) ?_
  refine lv_iconst (v := 2) hx hb dX7_parseCommand_83 (by decide) ?_
  refine lv_icmp_ne (tgt := 100) hx hb dX7_parseCommand_84 (by decide) (fun c1 => ?_) (fun c1 => ?_)
  · have hf := cx_f hf c1
    refine lv_iload_n hx hb dX7_parseCommand_100 rfl (lv_at hl 2 rfl) ?_
    refine lv_iconst (v := 1) hx hb dX7_parseCommand_101 (by decide) ?_
    refine lv_icmp_ne (tgt := 134) hx hb dX7_parseCommand_102 (by decide) (fun c2 => ?_) (fun c2 => ?_)
    · have hf := cx_f hf c2
      exact w_X7_parseCommand_b134 C0 hZ hC τ x1 x2 x3 x3 _ _ _ hf hP hL (lv_sub hl [1, 2, 3, 4, 0] rfl)
    · have hf := cx_t hf c2
      refine lv_aload_n hx hb dX7_parseCommand_105 rfl (lv_at hl 1 rfl) ?_
      refine g_Trace_6 hC hP hx hb hts hown hK mw_192 dX7_parseCommand_106 ?_
      refine lv_if_ne (tgt := 134) hx hb dX7_parseCommand_109 (by decide) (fun c3 => ?_) (fun c3 => ?_)
      · have hf := cx_f hf c3
        exact w_X7_parseCommand_b134 C0 hZ hC τ x1 x2 x3 x3 _ _ _ hf hP hL (lv_sub hl [1, 2, 3, 4, 0] rfl)
      · have hf := cx_t hf c3
        refine lv_aload_n hx hb dX7_parseCommand_112 rfl (lv_at hl 1 rfl) ?_
        refine g_Trace_10 hC hP hx hb hts hown hK mw_193 dX7_parseCommand_113 ?_
        refine lv_iconst (v := 4) hx hb dX7_parseCommand_116 (by decide) ?_
        refine lv_icmp_ne (tgt := 134) hx hb dX7_parseCommand_117 (by decide) (fun c4 => ?_) (fun c4 => ?_)
        · have hf := cx_f hf c4
          exact w_X7_parseCommand_b134 C0 hZ hC τ x1 x2 x3 x3 _ _ _ hf hP hL (lv_sub hl [1, 2, 3, 4, 0] rfl)
        · have hf := cx_t hf c4
          refine lv_aload_n hx hb dX7_parseCommand_120 rfl (lv_at hl 1 rfl) ?_
          obtain ⟨r5, q6, hf⟩ := cx_b hf
          refine cx_callVZ (As := []) (rest := []) ⟨hx, hb, hml, hown, hts⟩ (c_X7_nextToken hC q6) (cwV 0 hts (gV mw_194 mw_195 mw_196 mw_16 mw_197) rfl rfl rfl hd_X7_nextToken ⟨Nat.le_of_ble_eq_true rfl, Nat.le_of_ble_eq_true rfl⟩) hK hZ hP rfl (at_Trace hC hP) rfl hl.1 rfl (Nat.le_of_ble_eq_true rfl) dX7_parseCommand_121 ⟨Nat.zero_le _, Nat.zero_le _⟩ hL (fun H locs hP hL => ?_)
          replace hP : P r5 H := by first | exact hP | (simpa only [va_up_id] using hP)
          refine lv_aload_n hx hb dX7_parseCommand_124 rfl (lv_at hl 1 rfl) ?_
          refine lv_iload_n hx hb dX7_parseCommand_125 rfl (lv_at hl 4 rfl) ?_
          refine lv_sipush (v := 199) hx hb dX7_parseCommand_126 (by decide) ?_
          obtain ⟨r7, q8, hf⟩ := cx_b hf
          refine cx_callVZ (As := [.int x3, .int 199]) (rest := []) ⟨hx, hb, hml, hown, hts⟩ (c_X7_takeNumber hC q8) (cwV 2 hts (gV mw_286 mw_287 mw_288 mw_16 mw_289) rfl rfl rfl hd_X7_takeNumber ⟨Nat.le_of_ble_eq_true rfl, Nat.le_of_ble_eq_true rfl⟩) hK hZ hP rfl (at_Trace hC hP) rfl hl.1 rfl (Nat.le_of_ble_eq_true rfl) dX7_parseCommand_129 ⟨Nat.zero_le _, Nat.zero_le _⟩ hL (fun H locs hP hL => ?_)
          replace hP : P r7.2 H := by first | exact hP | (simpa only [va_up_id] using hP)
          refine lv_istore (lv' := [(4, .int r7.1), (0, .ref (ad 0)), (1, .int x1), (2, .int x2), (3, .int x3)]) hx hb dX7_parseCommand_132 hl (by decide) rfl (fun ls hl => ?_)
          exact w_X7_parseCommand_b134 C0 hZ hC r7.2 x1 x2 x3 r7.1 _ _ _ hf hP hL (lv_sub hl [1, 2, 3, 4, 0] rfl)
  · have hf := cx_t hf c1
    refine lv_aload_n hx hb dX7_parseCommand_87 rfl (lv_at hl 1 rfl) ?_
    refine lv_iconst (v := 0) hx hb dX7_parseCommand_88 (by decide) ?_
    refine lv_sipush (v := 999) hx hb dX7_parseCommand_89 (by decide) ?_
    obtain ⟨r9, q10, hf⟩ := cx_b hf
    refine cx_callVZ (As := [.int 0, .int 999]) (rest := []) ⟨hx, hb, hml, hown, hts⟩ (c_X7_takeNumber hC q10) (cwV 2 hts (gV mw_286 mw_287 mw_288 mw_16 mw_289) rfl rfl rfl hd_X7_takeNumber ⟨Nat.le_of_ble_eq_true rfl, Nat.le_of_ble_eq_true rfl⟩) hK hZ hP rfl (at_Trace hC hP) rfl hl.1 rfl (Nat.le_of_ble_eq_true rfl) dX7_parseCommand_92 ⟨Nat.zero_le _, Nat.zero_le _⟩ hL (fun H locs hP hL => ?_)
    replace hP : P r9.2 H := by first | exact hP | (simpa only [va_up_id] using hP)
    refine lv_istore (lv' := [(4, .int r9.1), (0, .ref (ad 0)), (1, .int x1), (2, .int x2), (3, .int x3)]) hx hb dX7_parseCommand_95 hl (by decide) rfl (fun ls hl => ?_)
    refine lv_goto (tgt := 134) hx hb dX7_parseCommand_97 (by decide) ?_
    exact w_X7_parseCommand_b134 C0 hZ hC r9.2 x1 x2 x3 r9.1 _ _ _ hf hP hL (lv_sub hl [1, 2, 3, 4, 0] rfl)
def f_X7_parseCommand_b26 (N : Nat) (τ : ObjS) (x1 : Int32) : Option (ObjS) := if τ.2 4 < 40 then (f_X7_nextToken N τ).bind fun r2 => if x1 = 3 then (f_X7_takeNumber N r2 1 40).bind fun r9 => f_X7_parseCommand_b79 N r9.2 x1 (-1) r9.1 else (f_X7_takeNumber N r2 0 3).bind fun r5 => (f_X7_takeNumber N r5.2 0 199).bind fun r7 => f_X7_parseCommand_b79 N r7.2 x1 r5.1 r7.1 else (f_X7_fail τ 3).bind fun r11 => some r11
set_option maxHeartbeats 4000000 in
set_option maxRecDepth 100000 in
theorem w_X7_parseCommand_b26 {p : Program} {l : Launch} {e : Env} {s : State} {m : MethodId} {args : Array Value} {below : List Frame} {meth : Method} {c : Code} {G : va_G} {cA : Nat → ClassId} (C0 : cB p s m args meth c RX7 cX7_parseCommand 5 none G cA) {lo : Nat} {z : ZS} (hZ : Zt lo z s) {ad : Nat → Nat} {P : ObjS → Heap → Prop} (hC : cx G lo 6 ad (ceTrace cA ad) P) {N : Nat} {res : ObjS} : ∀ (τ : ObjS) (x1 : Int32) (H : Heap) (locs : List Loc) (ls : Array Slot), f_X7_parseCommand_b26 N τ x1 = some res → P τ H → (∀ q ∈ locs, lo ≤ q.base) → lv_has ls 5 [(0, .ref (ad 0)), (1, .int x1)] → W p l e rm_X7_parseCommand s m args below meth c H locs 0 0 (MQ below (cQ none (P res)) args s 0 0 (fun q => lo ≤ q)) (F0 m 26 ls []) := by
  obtain ⟨⟨hx, hb, hml, hown, hts⟩, hr, hlocks, hK⟩ := id C0
  intro τ x1 H locs ls hf hP hL hl
  unfold f_X7_parseCommand_b26 at hf
  refine lv_aload_n hx hb dX7_parseCommand_26 rfl (lv_at hl 0 rfl) ?_
  refine g_Trace_4 hC hP hx hb hts hown hK mw_190 dX7_parseCommand_27 ?_
  refine lv_bipush (v := 40) hx hb dX7_parseCommand_30 (by decide) ?_
  refine lv_icmp_lt (tgt := 41) hx hb dX7_parseCommand_32 (by decide) (fun c1 => ?_) (fun c1 => ?_)
  · have hf := cx_t hf c1
    refine lv_aload_n hx hb dX7_parseCommand_41 rfl (lv_at hl 0 rfl) ?_
    obtain ⟨r2, q3, hf⟩ := cx_b hf
    refine cx_callVZ (As := []) (rest := []) ⟨hx, hb, hml, hown, hts⟩ (c_X7_nextToken hC q3) (cwV 0 hts (gV mw_194 mw_195 mw_196 mw_16 mw_197) rfl rfl rfl hd_X7_nextToken ⟨Nat.le_of_ble_eq_true rfl, Nat.le_of_ble_eq_true rfl⟩) hK hZ hP rfl (at_Trace hC hP) rfl hl.1 rfl (Nat.le_of_ble_eq_true rfl) dX7_parseCommand_42 ⟨Nat.zero_le _, Nat.zero_le _⟩ hL (fun H locs hP hL => ?_)
    replace hP : P r2 H := by first | exact hP | (simpa only [va_up_id] using hP)
    refine lv_iconst (v := (-1)) hx hb dX7_parseCommand_45 (by decide) ?_
    refine lv_istore_n (lv' := [(2, .int (-1)), (0, .ref (ad 0)), (1, .int x1)]) hx hb dX7_parseCommand_46 rfl hl (by decide) rfl (fun ls hl => ?_)
    refine lv_iload_n hx hb dX7_parseCommand_47 rfl (lv_at hl 2 rfl) ?_
    refine lv_iconst (v := 3) hx hb dX7_parseCommand_48 (by decide) ?_
    refine lv_icmp_ne (tgt := 63) hx hb dX7_parseCommand_49 (by decide) (fun c4 => ?_) (fun c4 => ?_)
    · have hf := cx_f hf c4
      refine lv_aload_n hx hb dX7_parseCommand_63 rfl (lv_at hl 1 rfl) ?_
      refine lv_iconst (v := 0) hx hb dX7_parseCommand_64 (by decide) ?_
      refine lv_iconst (v := 3) hx hb dX7_parseCommand_65 (by decide) ?_
      obtain ⟨r5, q6, hf⟩ := cx_b hf
      refine cx_callVZ (As := [.int 0, .int 3]) (rest := []) ⟨hx, hb, hml, hown, hts⟩ (c_X7_takeNumber hC q6) (cwV 2 hts (gV mw_286 mw_287 mw_288 mw_16 mw_289) rfl rfl rfl hd_X7_takeNumber ⟨Nat.le_of_ble_eq_true rfl, Nat.le_of_ble_eq_true rfl⟩) hK hZ hP rfl (at_Trace hC hP) rfl hl.1 rfl (Nat.le_of_ble_eq_true rfl) dX7_parseCommand_66 ⟨Nat.zero_le _, Nat.zero_le _⟩ hL (fun H locs hP hL => ?_)
      replace hP : P r5.2 H := by first | exact hP | (simpa only [va_up_id] using hP)
      refine lv_istore_n (lv' := [(2, .int r5.1), (0, .ref (ad 0)), (1, .int x1)]) hx hb dX7_parseCommand_69 rfl hl (by decide) rfl (fun ls hl => ?_)
      refine lv_aload_n hx hb dX7_parseCommand_70 rfl (lv_at hl 1 rfl) ?_
      refine lv_iconst (v := 0) hx hb dX7_parseCommand_71 (by decide) ?_
      refine lv_sipush (v := 199) hx hb dX7_parseCommand_72 (by decide) ?_
      obtain ⟨r7, q8, hf⟩ := cx_b hf
      refine cx_callVZ (As := [.int 0, .int 199]) (rest := []) ⟨hx, hb, hml, hown, hts⟩ (c_X7_takeNumber hC q8) (cwV 2 hts (gV mw_286 mw_287 mw_288 mw_16 mw_289) rfl rfl rfl hd_X7_takeNumber ⟨Nat.le_of_ble_eq_true rfl, Nat.le_of_ble_eq_true rfl⟩) hK hZ hP rfl (at_Trace hC hP) rfl hl.1 rfl (Nat.le_of_ble_eq_true rfl) dX7_parseCommand_75 ⟨Nat.zero_le _, Nat.zero_le _⟩ hL (fun H locs hP hL => ?_)
      replace hP : P r7.2 H := by first | exact hP | (simpa only [va_up_id] using hP)
      refine lv_istore_n (lv' := [(3, .int r7.1), (2, .int r5.1), (0, .ref (ad 0)), (1, .int x1)]) hx hb dX7_parseCommand_78 rfl hl (by decide) rfl (fun ls hl => ?_)
      exact w_X7_parseCommand_b79 C0 hZ hC r7.2 x1 r5.1 r7.1 _ _ _ hf hP hL (lv_sub hl [2, 3, 1, 0] rfl)
    · have hf := cx_t hf c4
      refine lv_aload_n hx hb dX7_parseCommand_52 rfl (lv_at hl 1 rfl) ?_
      refine lv_iconst (v := 1) hx hb dX7_parseCommand_53 (by decide) ?_
      refine lv_bipush (v := 40) hx hb dX7_parseCommand_54 (by decide) ?_
      obtain ⟨r9, q10, hf⟩ := cx_b hf
      refine cx_callVZ (As := [.int 1, .int 40]) (rest := []) ⟨hx, hb, hml, hown, hts⟩ (c_X7_takeNumber hC q10) (cwV 2 hts (gV mw_286 mw_287 mw_288 mw_16 mw_289) rfl rfl rfl hd_X7_takeNumber ⟨Nat.le_of_ble_eq_true rfl, Nat.le_of_ble_eq_true rfl⟩) hK hZ hP rfl (at_Trace hC hP) rfl hl.1 rfl (Nat.le_of_ble_eq_true rfl) dX7_parseCommand_56 ⟨Nat.zero_le _, Nat.zero_le _⟩ hL (fun H locs hP hL => ?_)
      replace hP : P r9.2 H := by first | exact hP | (simpa only [va_up_id] using hP)
      refine lv_istore_n (lv' := [(3, .int r9.1), (2, .int (-1)), (0, .ref (ad 0)), (1, .int x1)]) hx hb dX7_parseCommand_59 rfl hl (by decide) rfl (fun ls hl => ?_)
      refine lv_goto (tgt := 79) hx hb dX7_parseCommand_60 (by decide) ?_
      exact w_X7_parseCommand_b79 C0 hZ hC r9.2 x1 (-1) r9.1 _ _ _ hf hP hL (lv_sub hl [2, 3, 1, 0] rfl)
  · have hf := cx_f hf c1
    refine lv_aload_n hx hb dX7_parseCommand_35 rfl (lv_at hl 0 rfl) ?_
    refine lv_iconst (v := 3) hx hb dX7_parseCommand_36 (by decide) ?_
    obtain ⟨r11, q12, hf⟩ := cx_b hf
    refine cx_callV (As := [.int 3]) (rest := []) ⟨hx, hb, hml, hown, hts⟩ (c_X7_fail hC q12) (cwV 1 hts (gV mw_282 mw_283 mw_284 mw_16 mw_285) rfl rfl rfl hd_X7_fail ⟨Nat.le_of_ble_eq_true rfl, Nat.le_of_ble_eq_true rfl⟩) hK hP rfl (at_Trace hC hP) rfl hl.1 rfl (Nat.le_of_ble_eq_true rfl) dX7_parseCommand_37 ⟨Nat.zero_le _, Nat.zero_le _⟩ hL (fun H locs hP hL => ?_)
    replace hP : P r11 H := by first | exact hP | (simpa only [va_up_id] using hP)
    cases hf
    exact cx_vret hx hb hr hlocks hP hL dX7_parseCommand_40
def f_X7_parseCommand (N : Nat) (τ : ObjS) : Option (ObjS) := if τ.2 10 = 1 then f_X7_parseCommand_b26 N τ (τ.2 10) else if τ.2 10 = 2 then f_X7_parseCommand_b26 N τ (τ.2 10) else if τ.2 10 = 3 then f_X7_parseCommand_b26 N τ (τ.2 10) else (f_X7_fail τ 1).bind fun r4 => some r4
set_option maxHeartbeats 4000000 in
set_option maxRecDepth 100000 in
theorem c_X7_parseCommand {l : Launch} {G : va_G} {cA : Nat → ClassId} {lo : Nat} {z : ZS} {ad : Nat → Nat} {P : ObjS → Heap → Prop} (hC : cx G lo 6 ad (ceTrace cA ad) P) {N : Nat} {τ : ObjS} {res : ObjS} (hf : f_X7_parseCommand N τ = some res) : Met l yX7_parseCommand (cW yX7_parseCommand cX7_parseCommand 5 none) rm_X7_parseCommand (cPZ lo z [.ref (ad 0)] (P τ) G cA) (cQ none (P res)) 0 0 (fun q => lo ≤ q) := by
  refine cx_metZ (by decide) (Nat.le_of_ble_eq_true rfl) (fun p e s m args below meth c ls C0 hZ hP hl => ?_)
  have hl : lv_has ls 5 [(0, .ref (ad 0))] := hl
  obtain ⟨⟨hx, hb, hml, hown, hts⟩, hr, hlocks, hK⟩ := id C0
  have hL : ∀ q ∈ ([] : List Loc), lo ≤ q.base := fun q h => nomatch h
  unfold f_X7_parseCommand at hf
  refine lv_aload_n hx hb dX7_parseCommand_0 rfl (lv_at hl 0 rfl) ?_
  refine g_Trace_10 hC hP hx hb hts hown hK mw_193 dX7_parseCommand_1 ?_
  refine lv_istore_n (lv' := [(1, .int (τ.2 10)), (0, .ref (ad 0))]) hx hb dX7_parseCommand_4 rfl hl (by decide) rfl (fun ls hl => ?_)
  refine lv_iload_n hx hb dX7_parseCommand_5 rfl (lv_at hl 0 rfl) ?_
  refine lv_iconst (v := 1) hx hb dX7_parseCommand_6 (by decide) ?_
  refine lv_icmp_eq (tgt := 26) hx hb dX7_parseCommand_7 (by decide) (fun c1 => ?_) (fun c1 => ?_)
  · have hf := cx_t hf c1
    exact w_X7_parseCommand_b26 C0 hZ hC τ (τ.2 10) _ _ _ hf hP hL (lv_sub hl [1, 0] rfl)
  · have hf := cx_f hf c1
    refine lv_iload_n hx hb dX7_parseCommand_10 rfl (lv_at hl 0 rfl) ?_
    refine lv_iconst (v := 2) hx hb dX7_parseCommand_11 (by decide) ?_
    refine lv_icmp_eq (tgt := 26) hx hb dX7_parseCommand_12 (by decide) (fun c2 => ?_) (fun c2 => ?_)
    · have hf := cx_t hf c2
      exact w_X7_parseCommand_b26 C0 hZ hC τ (τ.2 10) _ _ _ hf hP hL (lv_sub hl [1, 0] rfl)
    · have hf := cx_f hf c2
      refine lv_iload_n hx hb dX7_parseCommand_15 rfl (lv_at hl 0 rfl) ?_
      refine lv_iconst (v := 3) hx hb dX7_parseCommand_16 (by decide) ?_
      refine lv_icmp_eq (tgt := 26) hx hb dX7_parseCommand_17 (by decide) (fun c3 => ?_) (fun c3 => ?_)
      · have hf := cx_t hf c3
        exact w_X7_parseCommand_b26 C0 hZ hC τ (τ.2 10) _ _ _ hf hP hL (lv_sub hl [1, 0] rfl)
      · have hf := cx_f hf c3
        refine lv_aload_n hx hb dX7_parseCommand_20 rfl (lv_at hl 1 rfl) ?_
        refine lv_iconst (v := 1) hx hb dX7_parseCommand_21 (by decide) ?_
        obtain ⟨r4, q5, hf⟩ := cx_b hf
        refine cx_callV (As := [.int 1]) (rest := []) ⟨hx, hb, hml, hown, hts⟩ (c_X7_fail hC q5) (cwV 1 hts (gV mw_282 mw_283 mw_284 mw_16 mw_285) rfl rfl rfl hd_X7_fail ⟨Nat.le_of_ble_eq_true rfl, Nat.le_of_ble_eq_true rfl⟩) hK hP rfl (at_Trace hC hP) rfl hl.1 rfl (Nat.le_of_ble_eq_true rfl) dX7_parseCommand_22 ⟨Nat.zero_le _, Nat.zero_le _⟩ hL (fun H locs hP hL => ?_)
        replace hP : P r4 H := by first | exact hP | (simpa only [va_up_id] using hP)
        cases hf
        exact cx_vret hx hb hr hlocks hP hL dX7_parseCommand_25
abbrev rm_X7_parse : Room := { frames := 9, cells := 0, slots := 0, locals := 196 }
theorem hd_X7_parse : yX7_parse.cls = RX7 ∧ yX7_parse.cls ≠ "java/lang/invoke/MethodHandle" ∧ yX7_parse.cls ≠ "java/lang/invoke/VarHandle" ∧ (parseMethodDescriptor yX7_parse.desc).map (fun d => d.parameters.length) = some 0 := by decide +kernel
def f_X7_parse_b26 (N : Nat) : Nat → ObjS → Int32 → Option (Int32 × ObjS)
  | 0, _, _ => none
  | n + 1, τ, x1 => if 600 < x1 then if τ.2 6 = 0 then some (1, τ) else some (0, τ) else if τ.2 6 = 0 then if τ.2 10 = 9 then if τ.2 6 = 0 then some (1, τ) else some (0, τ) else (f_X7_parseCommand N τ).bind fun r7 => f_X7_parse_b26 N n r7 (x1 + 1) else if τ.2 6 = 0 then some (1, τ) else some (0, τ)
set_option maxHeartbeats 4000000 in
set_option maxRecDepth 100000 in
theorem w_X7_parse_b26 {p : Program} {l : Launch} {e : Env} {s : State} {m : MethodId} {args : Array Value} {below : List Frame} {meth : Method} {c : Code} {G : va_G} {cA : Nat → ClassId} (C0 : cB p s m args meth c RX7 cX7_parse 2 (some .boolean) G cA) {lo : Nat} {z : ZS} (hZ : Zt lo z s) {ad : Nat → Nat} {P : ObjS → Heap → Prop} (hC : cx G lo 6 ad (ceTrace cA ad) P) {N : Nat} {res : Int32 × ObjS} : ∀ (n : Nat) (τ : ObjS) (x1 : Int32) (H : Heap) (locs : List Loc) (ls : Array Slot), f_X7_parse_b26 N n τ x1 = some res → P τ H → (∀ q ∈ locs, lo ≤ q.base) → lv_has ls 2 [(0, .ref (ad 0)), (1, .int x1)] → W p l e rm_X7_parse s m args below meth c H locs 0 0 (MQ below (cQ (some (.int res.1)) (P res.2)) args s 0 0 (fun q => lo ≤ q)) (F0 m 26 ls []) := by
  obtain ⟨⟨hx, hb, hml, hown, hts⟩, hr, hlocks, hK⟩ := id C0
  intro n
  induction n with
  | zero => intro τ x1 H locs ls
            exact fun hf => nomatch hf
  | succ n ih =>
    intro τ x1 H locs ls hf hP hL hl
    rw [f_X7_parse_b26] at hf
    refine lv_iload_n hx hb dX7_parse_26 rfl (lv_at hl 1 rfl) ?_
    refine lv_sipush (v := 600) hx hb dX7_parse_27 (by decide) ?_
    refine lv_icmp_gt (tgt := 59) hx hb dX7_parse_30 (by decide) (fun c1 => ?_) (fun c1 => ?_)
    · have hf := cx_t hf c1
      refine lv_aload_n hx hb dX7_parse_59 rfl (lv_at hl 0 rfl) ?_
      refine g_Trace_6 hC hP hx hb hts hown hK mw_192 dX7_parse_60 ?_
      refine lv_if_ne (tgt := 70) hx hb dX7_parse_63 (by decide) (fun c2 => ?_) (fun c2 => ?_)
      · have hf := cx_f hf c2
        refine lv_iconst (v := 0) hx hb dX7_parse_70 (by decide) ?_
        cases hf
        exact cx_zret hx hb hr hlocks (Or.inl rfl) hP hL dX7_parse_71
      · have hf := cx_t hf c2
        refine lv_iconst (v := 1) hx hb dX7_parse_66 (by decide) ?_
        refine lv_goto (tgt := 71) hx hb dX7_parse_67 (by decide) ?_
        cases hf
        exact cx_zret hx hb hr hlocks (Or.inr rfl) hP hL dX7_parse_71
    · have hf := cx_f hf c1
      refine lv_aload_n hx hb dX7_parse_33 rfl (lv_at hl 0 rfl) ?_
      refine g_Trace_6 hC hP hx hb hts hown hK mw_192 dX7_parse_34 ?_
      refine lv_if_ne (tgt := 59) hx hb dX7_parse_37 (by decide) (fun c3 => ?_) (fun c3 => ?_)
      · have hf := cx_f hf c3
        refine lv_aload_n hx hb dX7_parse_59 rfl (lv_at hl 0 rfl) ?_
        refine g_Trace_6 hC hP hx hb hts hown hK mw_192 dX7_parse_60 ?_
        refine lv_if_ne (tgt := 70) hx hb dX7_parse_63 (by decide) (fun c4 => ?_) (fun c4 => ?_)
        · have hf := cx_f hf c4
          refine lv_iconst (v := 0) hx hb dX7_parse_70 (by decide) ?_
          cases hf
          exact cx_zret hx hb hr hlocks (Or.inl rfl) hP hL dX7_parse_71
        · have hf := cx_t hf c4
          refine lv_iconst (v := 1) hx hb dX7_parse_66 (by decide) ?_
          refine lv_goto (tgt := 71) hx hb dX7_parse_67 (by decide) ?_
          cases hf
          exact cx_zret hx hb hr hlocks (Or.inr rfl) hP hL dX7_parse_71
      · have hf := cx_t hf c3
        refine lv_aload_n hx hb dX7_parse_40 rfl (lv_at hl 0 rfl) ?_
        refine g_Trace_10 hC hP hx hb hts hown hK mw_193 dX7_parse_41 ?_
        refine lv_bipush (v := 9) hx hb dX7_parse_44 (by decide) ?_
        refine lv_icmp_eq (tgt := 59) hx hb dX7_parse_46 (by decide) (fun c5 => ?_) (fun c5 => ?_)
        · have hf := cx_t hf c5
          refine lv_aload_n hx hb dX7_parse_59 rfl (lv_at hl 0 rfl) ?_
          refine g_Trace_6 hC hP hx hb hts hown hK mw_192 dX7_parse_60 ?_
          refine lv_if_ne (tgt := 70) hx hb dX7_parse_63 (by decide) (fun c6 => ?_) (fun c6 => ?_)
          · have hf := cx_f hf c6
            refine lv_iconst (v := 0) hx hb dX7_parse_70 (by decide) ?_
            cases hf
            exact cx_zret hx hb hr hlocks (Or.inl rfl) hP hL dX7_parse_71
          · have hf := cx_t hf c6
            refine lv_iconst (v := 1) hx hb dX7_parse_66 (by decide) ?_
            refine lv_goto (tgt := 71) hx hb dX7_parse_67 (by decide) ?_
            cases hf
            exact cx_zret hx hb hr hlocks (Or.inr rfl) hP hL dX7_parse_71
        · have hf := cx_f hf c5
          refine lv_aload_n hx hb dX7_parse_49 rfl (lv_at hl 0 rfl) ?_
          obtain ⟨r7, q8, hf⟩ := cx_b hf
          refine cx_callVZ (As := []) (rest := []) ⟨hx, hb, hml, hown, hts⟩ (c_X7_parseCommand hC q8) (cwV 0 hts (gV mw_278 mw_279 mw_280 mw_16 mw_281) rfl rfl rfl hd_X7_parseCommand ⟨Nat.le_of_ble_eq_true rfl, Nat.le_of_ble_eq_true rfl⟩) hK hZ hP rfl (at_Trace hC hP) rfl hl.1 rfl (Nat.le_of_ble_eq_true rfl) dX7_parse_50 ⟨Nat.zero_le _, Nat.zero_le _⟩ hL (fun H locs hP hL => ?_)
          replace hP : P r7 H := by first | exact hP | (simpa only [va_up_id] using hP)
          refine lv_iinc (v := (x1 + 1)) (lv' := [(1, .int (x1 + 1)), (0, .ref (ad 0))]) hx hb dX7_parse_53 hl (k := 1) rfl rfl (by decide) rfl (fun ls hl => ?_)
          refine lv_goto (tgt := 26) hx hb dX7_parse_56 (by decide) ?_
          exact ih r7 (x1 + 1) _ _ _ hf hP hL (lv_sub hl [1, 0] rfl)
def f_X7_parse (N : Nat) (τ : ObjS) : Option (Int32 × ObjS) := cx_let (oI τ 4 0) fun z1 => cx_let (oI z1 9 0) fun z2 => cx_let (oI z2 6 0) fun z3 => cx_let (oI z3 7 (-1)) fun z4 => (f_X7_nextToken N z4).bind fun r5 => f_X7_parse_b26 N N r5 0
set_option maxHeartbeats 4000000 in
set_option maxRecDepth 100000 in
theorem c_X7_parse {l : Launch} {G : va_G} {cA : Nat → ClassId} {lo : Nat} {z : ZS} {ad : Nat → Nat} {P : ObjS → Heap → Prop} (hC : cx G lo 6 ad (ceTrace cA ad) P) {N : Nat} {τ : ObjS} {res : Int32 × ObjS} (hf : f_X7_parse N τ = some res) : Met l yX7_parse (cW yX7_parse cX7_parse 2 (some .boolean)) rm_X7_parse (cPZ lo z [.ref (ad 0)] (P τ) G cA) (cQ (some (.int res.1)) (P res.2)) 0 0 (fun q => lo ≤ q) := by
  refine cx_metZ (by decide) (Nat.le_of_ble_eq_true rfl) (fun p e s m args below meth c ls C0 hZ hP hl => ?_)
  have hl : lv_has ls 2 [(0, .ref (ad 0))] := hl
  obtain ⟨⟨hx, hb, hml, hown, hts⟩, hr, hlocks, hK⟩ := id C0
  have hL : ∀ q ∈ ([] : List Loc), lo ≤ q.base := fun q h => nomatch h
  unfold f_X7_parse at hf
  refine lv_aload_n hx hb dX7_parse_0 rfl (lv_at hl 0 rfl) ?_
  refine lv_iconst (v := 0) hx hb dX7_parse_1 (by decide) ?_
  obtain ⟨z1, ez1, hf⟩ := cx_letE hf
  refine p_Trace_4 hC hP hx hb hts hown hK mw_190 dX7_parse_2 hL (fun H locs hP hL => ?_)
  replace hP : P z1 H := by rw [← ez1]; exact hP
  refine lv_aload_n hx hb dX7_parse_5 rfl (lv_at hl 0 rfl) ?_
  refine lv_iconst (v := 0) hx hb dX7_parse_6 (by decide) ?_
  obtain ⟨z2, ez2, hf⟩ := cx_letE hf
  refine p_Trace_9 hC hP hx hb hts hown hK mw_191 dX7_parse_7 hL (fun H locs hP hL => ?_)
  replace hP : P z2 H := by rw [← ez2]; exact hP
  refine lv_aload_n hx hb dX7_parse_10 rfl (lv_at hl 0 rfl) ?_
  refine lv_iconst (v := 0) hx hb dX7_parse_11 (by decide) ?_
  obtain ⟨z3, ez3, hf⟩ := cx_letE hf
  refine p_Trace_6 hC hP hx hb hts hown hK mw_192 dX7_parse_12 hL (fun H locs hP hL => ?_)
  replace hP : P z3 H := by rw [← ez3]; exact hP
  refine lv_aload_n hx hb dX7_parse_15 rfl (lv_at hl 0 rfl) ?_
  refine lv_iconst (v := (-1)) hx hb dX7_parse_16 (by decide) ?_
  obtain ⟨z4, ez4, hf⟩ := cx_letE hf
  refine p_Trace_7 hC hP hx hb hts hown hK mw_42 dX7_parse_17 hL (fun H locs hP hL => ?_)
  replace hP : P z4 H := by rw [← ez4]; exact hP
  refine lv_aload_n hx hb dX7_parse_20 rfl (lv_at hl 0 rfl) ?_
  obtain ⟨r5, q6, hf⟩ := cx_b hf
  refine cx_callVZ (As := []) (rest := []) ⟨hx, hb, hml, hown, hts⟩ (c_X7_nextToken hC q6) (cwV 0 hts (gV mw_194 mw_195 mw_196 mw_16 mw_197) rfl rfl rfl hd_X7_nextToken ⟨Nat.le_of_ble_eq_true rfl, Nat.le_of_ble_eq_true rfl⟩) hK hZ hP rfl (at_Trace hC hP) rfl hl.1 rfl (Nat.le_of_ble_eq_true rfl) dX7_parse_21 ⟨Nat.zero_le _, Nat.zero_le _⟩ hL (fun H locs hP hL => ?_)
  replace hP : P r5 H := by first | exact hP | (simpa only [va_up_id] using hP)
  refine lv_iconst (v := 0) hx hb dX7_parse_24 (by decide) ?_
  refine lv_istore_n (lv' := [(1, .int 0), (0, .ref (ad 0))]) hx hb dX7_parse_25 rfl hl (by decide) rfl (fun ls hl => ?_)
  exact w_X7_parse_b26 C0 hZ hC N r5 0 _ _ _ hf hP hL (lv_sub hl [1, 0] rfl)
