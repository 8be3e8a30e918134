abbrev rm_X0_storedOf : Room := { frames := 0, cells := 0, slots := 0, locals := 0 }
theorem hd_X0_storedOf : yX0_storedOf.cls = RX0 ∧ yX0_storedOf.cls ≠ "java/lang/invoke/MethodHandle" ∧ yX0_storedOf.cls ≠ "java/lang/invoke/VarHandle" ∧ (parseMethodDescriptor yX0_storedOf.desc).map (fun d => d.parameters.length) = some 1 := by decide +kernel
def f_X0_storedOf (τ : ObjS) (p0 : Int32) : Option (Int32) := if p0 < 0 then some (-1) else if 200 ≤ p0 then some (-1) else gd p0 200 (some (τ.1 0 (Int32.toNatClampNeg p0)))
set_option maxHeartbeats 4000000 in
set_option maxRecDepth 100000 in
theorem c_X0_storedOf {l : Launch} {G : va_G} {cA : Nat → ClassId} {lo : Nat} {ad : Nat → Nat} {P : ObjS → Heap → Prop} (hC : cx G lo 7 ad (ceBlocks cA ad) P) {τ : ObjS} {p0 : Int32} {res : Int32} (hf : f_X0_storedOf τ p0 = some res) : Met l yX0_storedOf (cW yX0_storedOf cX0_storedOf 2 (some .int)) rm_X0_storedOf (cP [.ref (ad 0), .int p0] (P τ) G cA) (cQ (some (.int res)) (P τ)) 0 0 (fun q => lo ≤ q) := by
  refine cx_met (by decide) (Nat.le_of_ble_eq_true rfl) (fun p e s m args below meth c ls C0 hP hl => ?_)
  have hl : lv_has ls 2 [(0, .ref (ad 0)), (1, .int p0)] := hl
  obtain ⟨⟨hx, hb, hml, hown, hts⟩, hr, hlocks, hK⟩ := id C0
  have hL : ∀ q ∈ ([] : List Loc), lo ≤ q.base := fun q h => nomatch h
  unfold f_X0_storedOf at hf
  refine lv_iload_n hx hb dX0_storedOf_0 rfl (lv_at hl 1 rfl) ?_
  refine lv_if_lt (tgt := 20) hx hb dX0_storedOf_1 (by decide) (fun c1 => ?_) (fun c1 => ?_)
  · have hf := cx_t hf c1
    refine lv_iconst (v := (-1)) hx hb dX0_storedOf_20 (by decide) ?_
    cases hf
    exact cx_iret hx hb hr hlocks hP hL dX0_storedOf_21
  · have hf := cx_f hf c1
    refine lv_iload_n hx hb dX0_storedOf_4 rfl (lv_at hl 1 rfl) ?_
    refine lv_sipush (v := 200) hx hb dX0_storedOf_5 (by decide) ?_
    refine lv_icmp_ge (tgt := 20) hx hb dX0_storedOf_8 (by decide) (fun c2 => ?_) (fun c2 => ?_)
    · have hf := cx_t hf c2
      refine lv_iconst (v := (-1)) hx hb dX0_storedOf_20 (by decide) ?_
      cases hf
      exact cx_iret hx hb hr hlocks hP hL dX0_storedOf_21
    · have hf := cx_f hf c2
      refine lv_aload_n hx hb dX0_storedOf_11 rfl (lv_at hl 0 rfl) ?_
      refine g_Blocks_0 hC hP hx hb hts hown hK mw_85 dX0_storedOf_12 ?_
      refine lv_iload_n hx hb dX0_storedOf_15 rfl (lv_at hl 1 rfl) ?_
      obtain ⟨hi3, hf⟩ := gdE hf
      refine ga_Blocks_0 hC hP hx hb hK hi3 dX0_storedOf_16 ?_
      refine lv_goto (tgt := 21) hx hb dX0_storedOf_17 (by decide) ?_
      cases hf
      exact cx_iret hx hb hr hlocks hP hL dX0_storedOf_21
abbrev rm_X0_valueOf : Room := { frames := 0, cells := 0, slots := 0, locals := 0 }
theorem hd_X0_valueOf : yX0_valueOf.cls = RX0 ∧ yX0_valueOf.cls ≠ "java/lang/invoke/MethodHandle" ∧ yX0_valueOf.cls ≠ "java/lang/invoke/VarHandle" ∧ (parseMethodDescriptor yX0_valueOf.desc).map (fun d => d.parameters.length) = some 1 := by decide +kernel
def f_X0_valueOf (τ : ObjS) (p0 : Int32) : Option (Int32) := if p0 < 0 then some (-1) else if 200 ≤ p0 then some (-1) else gd p0 200 (some (τ.1 1 (Int32.toNatClampNeg p0)))
set_option maxHeartbeats 4000000 in
set_option maxRecDepth 100000 in
theorem c_X0_valueOf {l : Launch} {G : va_G} {cA : Nat → ClassId} {lo : Nat} {ad : Nat → Nat} {P : ObjS → Heap → Prop} (hC : cx G lo 7 ad (ceBlocks cA ad) P) {τ : ObjS} {p0 : Int32} {res : Int32} (hf : f_X0_valueOf τ p0 = some res) : Met l yX0_valueOf (cW yX0_valueOf cX0_valueOf 2 (some .int)) rm_X0_valueOf (cP [.ref (ad 0), .int p0] (P τ) G cA) (cQ (some (.int res)) (P τ)) 0 0 (fun q => lo ≤ q) := by
  refine cx_met (by decide) (Nat.le_of_ble_eq_true rfl) (fun p e s m args below meth c ls C0 hP hl => ?_)
  have hl : lv_has ls 2 [(0, .ref (ad 0)), (1, .int p0)] := hl
  obtain ⟨⟨hx, hb, hml, hown, hts⟩, hr, hlocks, hK⟩ := id C0
  have hL : ∀ q ∈ ([] : List Loc), lo ≤ q.base := fun q h => nomatch h
  unfold f_X0_valueOf at hf
  refine lv_iload_n hx hb dX0_valueOf_0 rfl (lv_at hl 1 rfl) ?_
  refine lv_if_lt (tgt := 20) hx hb dX0_valueOf_1 (by decide) (fun c1 => ?_) (fun c1 => ?_)
  · have hf := cx_t hf c1
    refine lv_iconst (v := (-1)) hx hb dX0_valueOf_20 (by decide) ?_
    cases hf
    exact cx_iret hx hb hr hlocks hP hL dX0_valueOf_21
  · have hf := cx_f hf c1
    refine lv_iload_n hx hb dX0_valueOf_4 rfl (lv_at hl 1 rfl) ?_
    refine lv_sipush (v := 200) hx hb dX0_valueOf_5 (by decide) ?_
    refine lv_icmp_ge (tgt := 20) hx hb dX0_valueOf_8 (by decide) (fun c2 => ?_) (fun c2 => ?_)
    · have hf := cx_t hf c2
      refine lv_iconst (v := (-1)) hx hb dX0_valueOf_20 (by decide) ?_
      cases hf
      exact cx_iret hx hb hr hlocks hP hL dX0_valueOf_21
    · have hf := cx_f hf c2
      refine lv_aload_n hx hb dX0_valueOf_11 rfl (lv_at hl 0 rfl) ?_
      refine g_Blocks_1 hC hP hx hb hts hown hK mw_86 dX0_valueOf_12 ?_
      refine lv_iload_n hx hb dX0_valueOf_15 rfl (lv_at hl 1 rfl) ?_
      obtain ⟨hi3, hf⟩ := gdE hf
      refine ga_Blocks_1 hC hP hx hb hK hi3 dX0_valueOf_16 ?_
      refine lv_goto (tgt := 21) hx hb dX0_valueOf_17 (by decide) ?_
      cases hf
      exact cx_iret hx hb hr hlocks hP hL dX0_valueOf_21
abbrev rm_X0_ownerOf : Room := { frames := 0, cells := 0, slots := 0, locals := 0 }
theorem hd_X0_ownerOf : yX0_ownerOf.cls = RX0 ∧ yX0_ownerOf.cls ≠ "java/lang/invoke/MethodHandle" ∧ yX0_ownerOf.cls ≠ "java/lang/invoke/VarHandle" ∧ (parseMethodDescriptor yX0_ownerOf.desc).map (fun d => d.parameters.length) = some 1 := by decide +kernel
def f_X0_ownerOf (τ : ObjS) (p0 : Int32) : Option (Int32) := if p0 < 0 then some (-1) else if 200 ≤ p0 then some (-1) else gd p0 200 (some (τ.1 2 (Int32.toNatClampNeg p0)))
set_option maxHeartbeats 4000000 in
set_option maxRecDepth 100000 in
theorem c_X0_ownerOf {l : Launch} {G : va_G} {cA : Nat → ClassId} {lo : Nat} {ad : Nat → Nat} {P : ObjS → Heap → Prop} (hC : cx G lo 7 ad (ceBlocks cA ad) P) {τ : ObjS} {p0 : Int32} {res : Int32} (hf : f_X0_ownerOf τ p0 = some res) : Met l yX0_ownerOf (cW yX0_ownerOf cX0_ownerOf 2 (some .int)) rm_X0_ownerOf (cP [.ref (ad 0), .int p0] (P τ) G cA) (cQ (some (.int res)) (P τ)) 0 0 (fun q => lo ≤ q) := by
  refine cx_met (by decide) (Nat.le_of_ble_eq_true rfl) (fun p e s m args below meth c ls C0 hP hl => ?_)
  have hl : lv_has ls 2 [(0, .ref (ad 0)), (1, .int p0)] := hl
  obtain ⟨⟨hx, hb, hml, hown, hts⟩, hr, hlocks, hK⟩ := id C0
  have hL : ∀ q ∈ ([] : List Loc), lo ≤ q.base := fun q h => nomatch h
  unfold f_X0_ownerOf at hf
  refine lv_iload_n hx hb dX0_ownerOf_0 rfl (lv_at hl 1 rfl) ?_
  refine lv_if_lt (tgt := 20) hx hb dX0_ownerOf_1 (by decide) (fun c1 => ?_) (fun c1 => ?_)
  · have hf := cx_t hf c1
    refine lv_iconst (v := (-1)) hx hb dX0_ownerOf_20 (by decide) ?_
    cases hf
    exact cx_iret hx hb hr hlocks hP hL dX0_ownerOf_21
  · have hf := cx_f hf c1
    refine lv_iload_n hx hb dX0_ownerOf_4 rfl (lv_at hl 1 rfl) ?_
    refine lv_sipush (v := 200) hx hb dX0_ownerOf_5 (by decide) ?_
    refine lv_icmp_ge (tgt := 20) hx hb dX0_ownerOf_8 (by decide) (fun c2 => ?_) (fun c2 => ?_)
    · have hf := cx_t hf c2
      refine lv_iconst (v := (-1)) hx hb dX0_ownerOf_20 (by decide) ?_
      cases hf
      exact cx_iret hx hb hr hlocks hP hL dX0_ownerOf_21
    · have hf := cx_f hf c2
      refine lv_aload_n hx hb dX0_ownerOf_11 rfl (lv_at hl 0 rfl) ?_
      refine g_Blocks_2 hC hP hx hb hts hown hK mw_87 dX0_ownerOf_12 ?_
      refine lv_iload_n hx hb dX0_ownerOf_15 rfl (lv_at hl 1 rfl) ?_
      obtain ⟨hi3, hf⟩ := gdE hf
      refine ga_Blocks_2 hC hP hx hb hK hi3 dX0_ownerOf_16 ?_
      refine lv_goto (tgt := 21) hx hb dX0_ownerOf_17 (by decide) ?_
      cases hf
      exact cx_iret hx hb hr hlocks hP hL dX0_ownerOf_21
abbrev rm_X0_sinceOf : Room := { frames := 0, cells := 0, slots := 0, locals := 0 }
theorem hd_X0_sinceOf : yX0_sinceOf.cls = RX0 ∧ yX0_sinceOf.cls ≠ "java/lang/invoke/MethodHandle" ∧ yX0_sinceOf.cls ≠ "java/lang/invoke/VarHandle" ∧ (parseMethodDescriptor yX0_sinceOf.desc).map (fun d => d.parameters.length) = some 1 := by decide +kernel
def f_X0_sinceOf (τ : ObjS) (p0 : Int32) : Option (Int32) := if p0 < 0 then some (-1) else if 200 ≤ p0 then some (-1) else gd p0 200 (some (τ.1 3 (Int32.toNatClampNeg p0)))
set_option maxHeartbeats 4000000 in
set_option maxRecDepth 100000 in
theorem c_X0_sinceOf {l : Launch} {G : va_G} {cA : Nat → ClassId} {lo : Nat} {ad : Nat → Nat} {P : ObjS → Heap → Prop} (hC : cx G lo 7 ad (ceBlocks cA ad) P) {τ : ObjS} {p0 : Int32} {res : Int32} (hf : f_X0_sinceOf τ p0 = some res) : Met l yX0_sinceOf (cW yX0_sinceOf cX0_sinceOf 2 (some .int)) rm_X0_sinceOf (cP [.ref (ad 0), .int p0] (P τ) G cA) (cQ (some (.int res)) (P τ)) 0 0 (fun q => lo ≤ q) := by
  refine cx_met (by decide) (Nat.le_of_ble_eq_true rfl) (fun p e s m args below meth c ls C0 hP hl => ?_)
  have hl : lv_has ls 2 [(0, .ref (ad 0)), (1, .int p0)] := hl
  obtain ⟨⟨hx, hb, hml, hown, hts⟩, hr, hlocks, hK⟩ := id C0
  have hL : ∀ q ∈ ([] : List Loc), lo ≤ q.base := fun q h => nomatch h
  unfold f_X0_sinceOf at hf
  refine lv_iload_n hx hb dX0_sinceOf_0 rfl (lv_at hl 1 rfl) ?_
  refine lv_if_lt (tgt := 20) hx hb dX0_sinceOf_1 (by decide) (fun c1 => ?_) (fun c1 => ?_)
  · have hf := cx_t hf c1
    refine lv_iconst (v := (-1)) hx hb dX0_sinceOf_20 (by decide) ?_
    cases hf
    exact cx_iret hx hb hr hlocks hP hL dX0_sinceOf_21
  · have hf := cx_f hf c1
    refine lv_iload_n hx hb dX0_sinceOf_4 rfl (lv_at hl 1 rfl) ?_
    refine lv_sipush (v := 200) hx hb dX0_sinceOf_5 (by decide) ?_
    refine lv_icmp_ge (tgt := 20) hx hb dX0_sinceOf_8 (by decide) (fun c2 => ?_) (fun c2 => ?_)
    · have hf := cx_t hf c2
      refine lv_iconst (v := (-1)) hx hb dX0_sinceOf_20 (by decide) ?_
      cases hf
      exact cx_iret hx hb hr hlocks hP hL dX0_sinceOf_21
    · have hf := cx_f hf c2
      refine lv_aload_n hx hb dX0_sinceOf_11 rfl (lv_at hl 0 rfl) ?_
      refine g_Blocks_3 hC hP hx hb hts hown hK mw_88 dX0_sinceOf_12 ?_
      refine lv_iload_n hx hb dX0_sinceOf_15 rfl (lv_at hl 1 rfl) ?_
      obtain ⟨hi3, hf⟩ := gdE hf
      refine ga_Blocks_3 hC hP hx hb hK hi3 dX0_sinceOf_16 ?_
      refine lv_goto (tgt := 21) hx hb dX0_sinceOf_17 (by decide) ?_
      cases hf
      exact cx_iret hx hb hr hlocks hP hL dX0_sinceOf_21
abbrev rm_X0_isDirty : Room := { frames := 0, cells := 0, slots := 0, locals := 0 }
theorem hd_X0_isDirty : yX0_isDirty.cls = RX0 ∧ yX0_isDirty.cls ≠ "java/lang/invoke/MethodHandle" ∧ yX0_isDirty.cls ≠ "java/lang/invoke/VarHandle" ∧ (parseMethodDescriptor yX0_isDirty.desc).map (fun d => d.parameters.length) = some 1 := by decide +kernel
def f_X0_isDirty (τ : ObjS) (p0 : Int32) : Option (Int32) := if p0 < 0 then some 0 else if 200 ≤ p0 then some 0 else gd p0 200 (if (τ.1 3 (Int32.toNatClampNeg p0)) = (-1) then some 0 else some 1)
set_option maxHeartbeats 4000000 in
set_option maxRecDepth 100000 in
theorem c_X0_isDirty {l : Launch} {G : va_G} {cA : Nat → ClassId} {lo : Nat} {ad : Nat → Nat} {P : ObjS → Heap → Prop} (hC : cx G lo 7 ad (ceBlocks cA ad) P) {τ : ObjS} {p0 : Int32} {res : Int32} (hf : f_X0_isDirty τ p0 = some res) : Met l yX0_isDirty (cW yX0_isDirty cX0_isDirty 2 (some .boolean)) rm_X0_isDirty (cP [.ref (ad 0), .int p0] (P τ) G cA) (cQ (some (.int res)) (P τ)) 0 0 (fun q => lo ≤ q) := by
  refine cx_met (by decide) (Nat.le_of_ble_eq_true rfl) (fun p e s m args below meth c ls C0 hP hl => ?_)
  have hl : lv_has ls 2 [(0, .ref (ad 0)), (1, .int p0)] := hl
  obtain ⟨⟨hx, hb, hml, hown, hts⟩, hr, hlocks, hK⟩ := id C0
  have hL : ∀ q ∈ ([] : List Loc), lo ≤ q.base := fun q h => nomatch h
  unfold f_X0_isDirty at hf
  refine lv_iload_n hx hb dX0_isDirty_0 rfl (lv_at hl 1 rfl) ?_
  refine lv_if_lt (tgt := 25) hx hb dX0_isDirty_1 (by decide) (fun c1 => ?_) (fun c1 => ?_)
  · have hf := cx_t hf c1
    refine lv_iconst (v := 0) hx hb dX0_isDirty_25 (by decide) ?_
    cases hf
    exact cx_zret hx hb hr hlocks (Or.inl rfl) hP hL dX0_isDirty_26
  · have hf := cx_f hf c1
    refine lv_iload_n hx hb dX0_isDirty_4 rfl (lv_at hl 1 rfl) ?_
    refine lv_sipush (v := 200) hx hb dX0_isDirty_5 (by decide) ?_
    refine lv_icmp_ge (tgt := 25) hx hb dX0_isDirty_8 (by decide) (fun c2 => ?_) (fun c2 => ?_)
    · have hf := cx_t hf c2
      refine lv_iconst (v := 0) hx hb dX0_isDirty_25 (by decide) ?_
      cases hf
      exact cx_zret hx hb hr hlocks (Or.inl rfl) hP hL dX0_isDirty_26
    · have hf := cx_f hf c2
      refine lv_aload_n hx hb dX0_isDirty_11 rfl (lv_at hl 0 rfl) ?_
      refine g_Blocks_3 hC hP hx hb hts hown hK mw_88 dX0_isDirty_12 ?_
      refine lv_iload_n hx hb dX0_isDirty_15 rfl (lv_at hl 1 rfl) ?_
      obtain ⟨hi3, hf⟩ := gdE hf
      refine ga_Blocks_3 hC hP hx hb hK hi3 dX0_isDirty_16 ?_
      refine lv_iconst (v := (-1)) hx hb dX0_isDirty_17 (by decide) ?_
      refine lv_icmp_eq (tgt := 25) hx hb dX0_isDirty_18 (by decide) (fun c4 => ?_) (fun c4 => ?_)
      · have hf := cx_t hf c4
        refine lv_iconst (v := 0) hx hb dX0_isDirty_25 (by decide) ?_
        cases hf
        exact cx_zret hx hb hr hlocks (Or.inl rfl) hP hL dX0_isDirty_26
      · have hf := cx_f hf c4
        refine lv_iconst (v := 1) hx hb dX0_isDirty_21 (by decide) ?_
        refine lv_goto (tgt := 26) hx hb dX0_isDirty_22 (by decide) ?_
        cases hf
        exact cx_zret hx hb hr hlocks (Or.inr rfl) hP hL dX0_isDirty_26
abbrev rm_X0_listOf : Room := { frames := 0, cells := 0, slots := 0, locals := 0 }
theorem hd_X0_listOf : yX0_listOf.cls = RX0 ∧ yX0_listOf.cls ≠ "java/lang/invoke/MethodHandle" ∧ yX0_listOf.cls ≠ "java/lang/invoke/VarHandle" ∧ (parseMethodDescriptor yX0_listOf.desc).map (fun d => d.parameters.length) = some 1 := by decide +kernel
def f_X0_listOf (τ : ObjS) (p0 : Int32) : Option (Int32) := if p0 < 0 then some (-1) else if 200 ≤ p0 then some (-1) else gd p0 200 (some (τ.1 4 (Int32.toNatClampNeg p0)))
set_option maxHeartbeats 4000000 in
set_option maxRecDepth 100000 in
theorem c_X0_listOf {l : Launch} {G : va_G} {cA : Nat → ClassId} {lo : Nat} {ad : Nat → Nat} {P : ObjS → Heap → Prop} (hC : cx G lo 7 ad (ceBlocks cA ad) P) {τ : ObjS} {p0 : Int32} {res : Int32} (hf : f_X0_listOf τ p0 = some res) : Met l yX0_listOf (cW yX0_listOf cX0_listOf 2 (some .int)) rm_X0_listOf (cP [.ref (ad 0), .int p0] (P τ) G cA) (cQ (some (.int res)) (P τ)) 0 0 (fun q => lo ≤ q) := by
  refine cx_met (by decide) (Nat.le_of_ble_eq_true rfl) (fun p e s m args below meth c ls C0 hP hl => ?_)
  have hl : lv_has ls 2 [(0, .ref (ad 0)), (1, .int p0)] := hl
  obtain ⟨⟨hx, hb, hml, hown, hts⟩, hr, hlocks, hK⟩ := id C0
  have hL : ∀ q ∈ ([] : List Loc), lo ≤ q.base := fun q h => nomatch h
  unfold f_X0_listOf at hf
  refine lv_iload_n hx hb dX0_listOf_0 rfl (lv_at hl 1 rfl) ?_
  refine lv_if_lt (tgt := 20) hx hb dX0_listOf_1 (by decide) (fun c1 => ?_) (fun c1 => ?_)
  · have hf := cx_t hf c1
    refine lv_iconst (v := (-1)) hx hb dX0_listOf_20 (by decide) ?_
    cases hf
    exact cx_iret hx hb hr hlocks hP hL dX0_listOf_21
  · have hf := cx_f hf c1
    refine lv_iload_n hx hb dX0_listOf_4 rfl (lv_at hl 1 rfl) ?_
    refine lv_sipush (v := 200) hx hb dX0_listOf_5 (by decide) ?_
    refine lv_icmp_ge (tgt := 20) hx hb dX0_listOf_8 (by decide) (fun c2 => ?_) (fun c2 => ?_)
    · have hf := cx_t hf c2
      refine lv_iconst (v := (-1)) hx hb dX0_listOf_20 (by decide) ?_
      cases hf
      exact cx_iret hx hb hr hlocks hP hL dX0_listOf_21
    · have hf := cx_f hf c2
      refine lv_aload_n hx hb dX0_listOf_11 rfl (lv_at hl 0 rfl) ?_
      refine g_Blocks_4 hC hP hx hb hts hown hK mw_89 dX0_listOf_12 ?_
      refine lv_iload_n hx hb dX0_listOf_15 rfl (lv_at hl 1 rfl) ?_
      obtain ⟨hi3, hf⟩ := gdE hf
      refine ga_Blocks_4 hC hP hx hb hK hi3 dX0_listOf_16 ?_
      refine lv_goto (tgt := 21) hx hb dX0_listOf_17 (by decide) ?_
      cases hf
      exact cx_iret hx hb hr hlocks hP hL dX0_listOf_21
abbrev rm_X0_ghostListOf : Room := { frames := 0, cells := 0, slots := 0, locals := 0 }
theorem hd_X0_ghostListOf : yX0_ghostListOf.cls = RX0 ∧ yX0_ghostListOf.cls ≠ "java/lang/invoke/MethodHandle" ∧ yX0_ghostListOf.cls ≠ "java/lang/invoke/VarHandle" ∧ (parseMethodDescriptor yX0_ghostListOf.desc).map (fun d => d.parameters.length) = some 1 := by decide +kernel
def f_X0_ghostListOf (τ : ObjS) (p0 : Int32) : Option (Int32) := if p0 < 0 then some (-1) else if 200 ≤ p0 then some (-1) else gd p0 200 (some (τ.1 5 (Int32.toNatClampNeg p0)))
set_option maxHeartbeats 4000000 in
set_option maxRecDepth 100000 in
theorem c_X0_ghostListOf {l : Launch} {G : va_G} {cA : Nat → ClassId} {lo : Nat} {ad : Nat → Nat} {P : ObjS → Heap → Prop} (hC : cx G lo 7 ad (ceBlocks cA ad) P) {τ : ObjS} {p0 : Int32} {res : Int32} (hf : f_X0_ghostListOf τ p0 = some res) : Met l yX0_ghostListOf (cW yX0_ghostListOf cX0_ghostListOf 2 (some .int)) rm_X0_ghostListOf (cP [.ref (ad 0), .int p0] (P τ) G cA) (cQ (some (.int res)) (P τ)) 0 0 (fun q => lo ≤ q) := by
  refine cx_met (by decide) (Nat.le_of_ble_eq_true rfl) (fun p e s m args below meth c ls C0 hP hl => ?_)
  have hl : lv_has ls 2 [(0, .ref (ad 0)), (1, .int p0)] := hl
  obtain ⟨⟨hx, hb, hml, hown, hts⟩, hr, hlocks, hK⟩ := id C0
  have hL : ∀ q ∈ ([] : List Loc), lo ≤ q.base := fun q h => nomatch h
  unfold f_X0_ghostListOf at hf
  refine lv_iload_n hx hb dX0_ghostListOf_0 rfl (lv_at hl 1 rfl) ?_
  refine lv_if_lt (tgt := 20) hx hb dX0_ghostListOf_1 (by decide) (fun c1 => ?_) (fun c1 => ?_)
  · have hf := cx_t hf c1
    refine lv_iconst (v := (-1)) hx hb dX0_ghostListOf_20 (by decide) ?_
    cases hf
    exact cx_iret hx hb hr hlocks hP hL dX0_ghostListOf_21
  · have hf := cx_f hf c1
    refine lv_iload_n hx hb dX0_ghostListOf_4 rfl (lv_at hl 1 rfl) ?_
    refine lv_sipush (v := 200) hx hb dX0_ghostListOf_5 (by decide) ?_
    refine lv_icmp_ge (tgt := 20) hx hb dX0_ghostListOf_8 (by decide) (fun c2 => ?_) (fun c2 => ?_)
    · have hf := cx_t hf c2
      refine lv_iconst (v := (-1)) hx hb dX0_ghostListOf_20 (by decide) ?_
      cases hf
      exact cx_iret hx hb hr hlocks hP hL dX0_ghostListOf_21
    · have hf := cx_f hf c2
      refine lv_aload_n hx hb dX0_ghostListOf_11 rfl (lv_at hl 0 rfl) ?_
      refine g_Blocks_5 hC hP hx hb hts hown hK mw_90 dX0_ghostListOf_12 ?_
      refine lv_iload_n hx hb dX0_ghostListOf_15 rfl (lv_at hl 1 rfl) ?_
      obtain ⟨hi3, hf⟩ := gdE hf
      refine ga_Blocks_5 hC hP hx hb hK hi3 dX0_ghostListOf_16 ?_
      refine lv_goto (tgt := 21) hx hb dX0_ghostListOf_17 (by decide) ?_
      cases hf
      exact cx_iret hx hb hr hlocks hP hL dX0_ghostListOf_21
abbrev rm_X0_makeCleanUnit : Room := { frames := 0, cells := 0, slots := 0, locals := 0 }
theorem hd_X0_makeCleanUnit : yX0_makeCleanUnit.cls = RX0 ∧ yX0_makeCleanUnit.cls ≠ "java/lang/invoke/MethodHandle" ∧ yX0_makeCleanUnit.cls ≠ "java/lang/invoke/VarHandle" ∧ (parseMethodDescriptor yX0_makeCleanUnit.desc).map (fun d => d.parameters.length) = some 1 := by decide +kernel
def f_X0_makeCleanUnit (τ : ObjS) (p0 : Int32) : Option (ObjS) := if p0 < 0 then some τ else if 200 ≤ p0 then some τ else gd p0 200 (gd p0 200 (cx_let (oA τ 1 (Int32.toNatClampNeg p0) (τ.1 0 (Int32.toNatClampNeg p0))) fun z5 => gd p0 200 (cx_let (oA z5 3 (Int32.toNatClampNeg p0) (-1)) fun z7 => some z7)))
set_option maxHeartbeats 4000000 in
set_option maxRecDepth 100000 in
theorem c_X0_makeCleanUnit {l : Launch} {G : va_G} {cA : Nat → ClassId} {lo : Nat} {ad : Nat → Nat} {P : ObjS → Heap → Prop} (hC : cx G lo 7 ad (ceBlocks cA ad) P) {τ : ObjS} {p0 : Int32} {res : ObjS} (hf : f_X0_makeCleanUnit τ p0 = some res) : Met l yX0_makeCleanUnit (cW yX0_makeCleanUnit cX0_makeCleanUnit 2 none) rm_X0_makeCleanUnit (cP [.ref (ad 0), .int p0] (P τ) G cA) (cQ none (P res)) 0 0 (fun q => lo ≤ q) := by
  refine cx_met (by decide) (Nat.le_of_ble_eq_true rfl) (fun p e s m args below meth c ls C0 hP hl => ?_)
  have hl : lv_has ls 2 [(0, .ref (ad 0)), (1, .int p0)] := hl
  obtain ⟨⟨hx, hb, hml, hown, hts⟩, hr, hlocks, hK⟩ := id C0
  have hL : ∀ q ∈ ([] : List Loc), lo ≤ q.base := fun q h => nomatch h
  unfold f_X0_makeCleanUnit at hf
  refine lv_iload_n hx hb dX0_makeCleanUnit_0 rfl (lv_at hl 1 rfl) ?_
  refine lv_if_lt (tgt := 30) hx hb dX0_makeCleanUnit_1 (by decide) (fun c1 => ?_) (fun c1 => ?_)
  · have hf := cx_t hf c1
    cases hf
    exact cx_vret hx hb hr hlocks hP hL dX0_makeCleanUnit_30
  · have hf := cx_f hf c1
    refine lv_iload_n hx hb dX0_makeCleanUnit_4 rfl (lv_at hl 1 rfl) ?_
    refine lv_sipush (v := 200) hx hb dX0_makeCleanUnit_5 (by decide) ?_
    refine lv_icmp_ge (tgt := 30) hx hb dX0_makeCleanUnit_8 (by decide) (fun c2 => ?_) (fun c2 => ?_)
    · have hf := cx_t hf c2
      cases hf
      exact cx_vret hx hb hr hlocks hP hL dX0_makeCleanUnit_30
    · have hf := cx_f hf c2
      refine lv_aload_n hx hb dX0_makeCleanUnit_11 rfl (lv_at hl 0 rfl) ?_
      refine g_Blocks_1 hC hP hx hb hts hown hK mw_86 dX0_makeCleanUnit_12 ?_
      refine lv_iload_n hx hb dX0_makeCleanUnit_15 rfl (lv_at hl 1 rfl) ?_
      refine lv_aload_n hx hb dX0_makeCleanUnit_16 rfl (lv_at hl 0 rfl) ?_
      refine g_Blocks_0 hC hP hx hb hts hown hK mw_85 dX0_makeCleanUnit_17 ?_
      refine lv_iload_n hx hb dX0_makeCleanUnit_20 rfl (lv_at hl 1 rfl) ?_
      obtain ⟨hi3, hf⟩ := gdE hf
      refine ga_Blocks_0 hC hP hx hb hK hi3 dX0_makeCleanUnit_21 ?_
      obtain ⟨hi4, hf⟩ := gdE hf
      obtain ⟨z5, ez5, hf⟩ := cx_letE hf
      refine pa_Blocks_1 hC hP hx hb hK hi4 dX0_makeCleanUnit_22 hL (fun H locs hP hL => ?_)
      replace hP : P z5 H := by rw [← ez5]; exact hP
      refine lv_aload_n hx hb dX0_makeCleanUnit_23 rfl (lv_at hl 0 rfl) ?_
      refine g_Blocks_3 hC hP hx hb hts hown hK mw_88 dX0_makeCleanUnit_24 ?_
      refine lv_iload_n hx hb dX0_makeCleanUnit_27 rfl (lv_at hl 1 rfl) ?_
      refine lv_iconst (v := (-1)) hx hb dX0_makeCleanUnit_28 (by decide) ?_
      obtain ⟨hi6, hf⟩ := gdE hf
      obtain ⟨z7, ez7, hf⟩ := cx_letE hf
      refine pa_Blocks_3 hC hP hx hb hK hi6 dX0_makeCleanUnit_29 hL (fun H locs hP hL => ?_)
      replace hP : P z7 H := by rw [← ez7]; exact hP
      cases hf
      exact cx_vret hx hb hr hlocks hP hL dX0_makeCleanUnit_30
abbrev rm_X0_putUnitIn : Room := { frames := 0, cells := 0, slots := 0, locals := 0 }
theorem hd_X0_putUnitIn : yX0_putUnitIn.cls = RX0 ∧ yX0_putUnitIn.cls ≠ "java/lang/invoke/MethodHandle" ∧ yX0_putUnitIn.cls ≠ "java/lang/invoke/VarHandle" ∧ (parseMethodDescriptor yX0_putUnitIn.desc).map (fun d => d.parameters.length) = some 2 := by decide +kernel
def f_X0_putUnitIn (τ : ObjS) (p0 : Int32) (p1 : Int32) : Option (ObjS) := if p0 < 0 then some τ else if 200 ≤ p0 then some τ else gd p0 200 (cx_let (oA τ 4 (Int32.toNatClampNeg p0) p1) fun z4 => some z4)
set_option maxHeartbeats 4000000 in
set_option maxRecDepth 100000 in
theorem c_X0_putUnitIn {l : Launch} {G : va_G} {cA : Nat → ClassId} {lo : Nat} {ad : Nat → Nat} {P : ObjS → Heap → Prop} (hC : cx G lo 7 ad (ceBlocks cA ad) P) {τ : ObjS} {p0 : Int32} {p1 : Int32} {res : ObjS} (hf : f_X0_putUnitIn τ p0 p1 = some res) : Met l yX0_putUnitIn (cW yX0_putUnitIn cX0_putUnitIn 3 none) rm_X0_putUnitIn (cP [.ref (ad 0), .int p0, .int p1] (P τ) G cA) (cQ none (P res)) 0 0 (fun q => lo ≤ q) := by
  refine cx_met (by decide) (Nat.le_of_ble_eq_true rfl) (fun p e s m args below meth c ls C0 hP hl => ?_)
  have hl : lv_has ls 3 [(0, .ref (ad 0)), (1, .int p0), (2, .int p1)] := hl
  obtain ⟨⟨hx, hb, hml, hown, hts⟩, hr, hlocks, hK⟩ := id C0
  have hL : ∀ q ∈ ([] : List Loc), lo ≤ q.base := fun q h => nomatch h
  unfold f_X0_putUnitIn at hf
  refine lv_iload_n hx hb dX0_putUnitIn_0 rfl (lv_at hl 1 rfl) ?_
  refine lv_if_lt (tgt := 18) hx hb dX0_putUnitIn_1 (by decide) (fun c1 => ?_) (fun c1 => ?_)
  · have hf := cx_t hf c1
    cases hf
    exact cx_vret hx hb hr hlocks hP hL dX0_putUnitIn_18
  · have hf := cx_f hf c1
    refine lv_iload_n hx hb dX0_putUnitIn_4 rfl (lv_at hl 1 rfl) ?_
    refine lv_sipush (v := 200) hx hb dX0_putUnitIn_5 (by decide) ?_
    refine lv_icmp_ge (tgt := 18) hx hb dX0_putUnitIn_8 (by decide) (fun c2 => ?_) (fun c2 => ?_)
    · have hf := cx_t hf c2
      cases hf
      exact cx_vret hx hb hr hlocks hP hL dX0_putUnitIn_18
    · have hf := cx_f hf c2
      refine lv_aload_n hx hb dX0_putUnitIn_11 rfl (lv_at hl 0 rfl) ?_
      refine g_Blocks_4 hC hP hx hb hts hown hK mw_89 dX0_putUnitIn_12 ?_
      refine lv_iload_n hx hb dX0_putUnitIn_15 rfl (lv_at hl 1 rfl) ?_
      refine lv_iload_n hx hb dX0_putUnitIn_16 rfl (lv_at hl 2 rfl) ?_
      obtain ⟨hi3, hf⟩ := gdE hf
      obtain ⟨z4, ez4, hf⟩ := cx_letE hf
      refine pa_Blocks_4 hC hP hx hb hK hi3 dX0_putUnitIn_17 hL (fun H locs hP hL => ?_)
      replace hP : P z4 H := by rw [← ez4]; exact hP
      cases hf
      exact cx_vret hx hb hr hlocks hP hL dX0_putUnitIn_18
abbrev rm_X0_dropUnit : Room := { frames := 0, cells := 0, slots := 0, locals := 0 }
theorem hd_X0_dropUnit : yX0_dropUnit.cls = RX0 ∧ yX0_dropUnit.cls ≠ "java/lang/invoke/MethodHandle" ∧ yX0_dropUnit.cls ≠ "java/lang/invoke/VarHandle" ∧ (parseMethodDescriptor yX0_dropUnit.desc).map (fun d => d.parameters.length) = some 1 := by decide +kernel
def f_X0_dropUnit (τ : ObjS) (p0 : Int32) : Option (ObjS) := if p0 < 0 then some τ else if 200 ≤ p0 then some τ else gd p0 200 (cx_let (oA τ 1 (Int32.toNatClampNeg p0) (-1)) fun z4 => gd p0 200 (cx_let (oA z4 2 (Int32.toNatClampNeg p0) (-1)) fun z6 => gd p0 200 (cx_let (oA z6 3 (Int32.toNatClampNeg p0) (-1)) fun z8 => gd p0 200 (cx_let (oA z8 4 (Int32.toNatClampNeg p0) (-1)) fun z10 => some z10))))
set_option maxHeartbeats 4000000 in
set_option maxRecDepth 100000 in
theorem c_X0_dropUnit {l : Launch} {G : va_G} {cA : Nat → ClassId} {lo : Nat} {ad : Nat → Nat} {P : ObjS → Heap → Prop} (hC : cx G lo 7 ad (ceBlocks cA ad) P) {τ : ObjS} {p0 : Int32} {res : ObjS} (hf : f_X0_dropUnit τ p0 = some res) : Met l yX0_dropUnit (cW yX0_dropUnit cX0_dropUnit 2 none) rm_X0_dropUnit (cP [.ref (ad 0), .int p0] (P τ) G cA) (cQ none (P res)) 0 0 (fun q => lo ≤ q) := by
  refine cx_met (by decide) (Nat.le_of_ble_eq_true rfl) (fun p e s m args below meth c ls C0 hP hl => ?_)
  have hl : lv_has ls 2 [(0, .ref (ad 0)), (1, .int p0)] := hl
  obtain ⟨⟨hx, hb, hml, hown, hts⟩, hr, hlocks, hK⟩ := id C0
  have hL : ∀ q ∈ ([] : List Loc), lo ≤ q.base := fun q h => nomatch h
  unfold f_X0_dropUnit at hf
  refine lv_iload_n hx hb dX0_dropUnit_0 rfl (lv_at hl 1 rfl) ?_
  refine lv_if_lt (tgt := 39) hx hb dX0_dropUnit_1 (by decide) (fun c1 => ?_) (fun c1 => ?_)
  · have hf := cx_t hf c1
    cases hf
    exact cx_vret hx hb hr hlocks hP hL dX0_dropUnit_39
  · have hf := cx_f hf c1
    refine lv_iload_n hx hb dX0_dropUnit_4 rfl (lv_at hl 1 rfl) ?_
    refine lv_sipush (v := 200) hx hb dX0_dropUnit_5 (by decide) ?_
    refine lv_icmp_ge (tgt := 39) hx hb dX0_dropUnit_8 (by decide) (fun c2 => ?_) (fun c2 => ?_)
    · have hf := cx_t hf c2
      cases hf
      exact cx_vret hx hb hr hlocks hP hL dX0_dropUnit_39
    · have hf := cx_f hf c2
      refine lv_aload_n hx hb dX0_dropUnit_11 rfl (lv_at hl 0 rfl) ?_
      refine g_Blocks_1 hC hP hx hb hts hown hK mw_86 dX0_dropUnit_12 ?_
      refine lv_iload_n hx hb dX0_dropUnit_15 rfl (lv_at hl 1 rfl) ?_
      refine lv_iconst (v := (-1)) hx hb dX0_dropUnit_16 (by decide) ?_
      obtain ⟨hi3, hf⟩ := gdE hf
      obtain ⟨z4, ez4, hf⟩ := cx_letE hf
      refine pa_Blocks_1 hC hP hx hb hK hi3 dX0_dropUnit_17 hL (fun H locs hP hL => ?_)
      replace hP : P z4 H := by rw [← ez4]; exact hP
      refine lv_aload_n hx hb dX0_dropUnit_18 rfl (lv_at hl 0 rfl) ?_
      refine g_Blocks_2 hC hP hx hb hts hown hK mw_87 dX0_dropUnit_19 ?_
      refine lv_iload_n hx hb dX0_dropUnit_22 rfl (lv_at hl 1 rfl) ?_
      refine lv_iconst (v := (-1)) hx hb dX0_dropUnit_23 (by decide) ?_
      obtain ⟨hi5, hf⟩ := gdE hf
      obtain ⟨z6, ez6, hf⟩ := cx_letE hf
      refine pa_Blocks_2 hC hP hx hb hK hi5 dX0_dropUnit_24 hL (fun H locs hP hL => ?_)
      replace hP : P z6 H := by rw [← ez6]; exact hP
      refine lv_aload_n hx hb dX0_dropUnit_25 rfl (lv_at hl 0 rfl) ?_
      refine g_Blocks_3 hC hP hx hb hts hown hK mw_88 dX0_dropUnit_26 ?_
      refine lv_iload_n hx hb dX0_dropUnit_29 rfl (lv_at hl 1 rfl) ?_
      refine lv_iconst (v := (-1)) hx hb dX0_dropUnit_30 (by decide) ?_
      obtain ⟨hi7, hf⟩ := gdE hf
      obtain ⟨z8, ez8, hf⟩ := cx_letE hf
      refine pa_Blocks_3 hC hP hx hb hK hi7 dX0_dropUnit_31 hL (fun H locs hP hL => ?_)
      replace hP : P z8 H := by rw [← ez8]; exact hP
      refine lv_aload_n hx hb dX0_dropUnit_32 rfl (lv_at hl 0 rfl) ?_
      refine g_Blocks_4 hC hP hx hb hts hown hK mw_89 dX0_dropUnit_33 ?_
      refine lv_iload_n hx hb dX0_dropUnit_36 rfl (lv_at hl 1 rfl) ?_
      refine lv_iconst (v := (-1)) hx hb dX0_dropUnit_37 (by decide) ?_
      obtain ⟨hi9, hf⟩ := gdE hf
      obtain ⟨z10, ez10, hf⟩ := cx_letE hf
      refine pa_Blocks_4 hC hP hx hb hK hi9 dX0_dropUnit_38 hL (fun H locs hP hL => ?_)
      replace hP : P z10 H := by rw [← ez10]; exact hP
      cases hf
      exact cx_vret hx hb hr hlocks hP hL dX0_dropUnit_39
abbrev rm_X0_dropAll : Room := { frames := 0, cells := 0, slots := 0, locals := 0 }
theorem hd_X0_dropAll : yX0_dropAll.cls = RX0 ∧ yX0_dropAll.cls ≠ "java/lang/invoke/MethodHandle" ∧ yX0_dropAll.cls ≠ "java/lang/invoke/VarHandle" ∧ (parseMethodDescriptor yX0_dropAll.desc).map (fun d => d.parameters.length) = some 0 := by decide +kernel
def f_X0_dropAll_b2 (N : Nat) : Nat → ObjS → Int32 → Option (ObjS)
  | 0, _, _ => none
  | n + 1, τ, x1 => if 200 ≤ x1 then some τ else gd x1 200 (cx_let (oA τ 1 (Int32.toNatClampNeg x1) (-1)) fun z3 => gd x1 200 (cx_let (oA z3 2 (Int32.toNatClampNeg x1) (-1)) fun z5 => gd x1 200 (cx_let (oA z5 3 (Int32.toNatClampNeg x1) (-1)) fun z7 => gd x1 200 (cx_let (oA z7 4 (Int32.toNatClampNeg x1) (-1)) fun z9 => gd x1 200 (cx_let (oA z9 5 (Int32.toNatClampNeg x1) (-1)) fun z11 => f_X0_dropAll_b2 N n z11 (x1 + 1))))))
set_option maxHeartbeats 4000000 in
set_option maxRecDepth 100000 in
theorem w_X0_dropAll_b2 {p : Program} {l : Launch} {e : Env} {s : State} {m : MethodId} {args : Array Value} {below : List Frame} {meth : Method} {c : Code} {G : va_G} {cA : Nat → ClassId} (C0 : cB p s m args meth c RX0 cX0_dropAll 2 none G cA) {lo : Nat} {ad : Nat → Nat} {P : ObjS → Heap → Prop} (hC : cx G lo 7 ad (ceBlocks cA ad) P) {N : Nat} {res : ObjS} : ∀ (n : Nat) (τ : ObjS) (x1 : Int32) (H : Heap) (locs : List Loc) (ls : Array Slot), f_X0_dropAll_b2 N n τ x1 = some res → P τ H → (∀ q ∈ locs, lo ≤ q.base) → lv_has ls 2 [(0, .ref (ad 0)), (1, .int x1)] → W p l e rm_X0_dropAll s m args below meth c H locs 0 0 (MQ below (cQ none (P res)) args s 0 0 (fun q => lo ≤ q)) (F0 m 2 ls []) := by
  obtain ⟨⟨hx, hb, hml, hown, hts⟩, hr, hlocks, hK⟩ := id C0
  intro n
  induction n with
  | zero => intro τ x1 H locs ls
            exact fun hf => nomatch hf
  | succ n ih =>
    intro τ x1 H locs ls hf hP hL hl
    rw [f_X0_dropAll_b2] at hf
    refine lv_iload_n hx hb dX0_dropAll_2 rfl (lv_at hl 1 rfl) ?_
    refine lv_sipush (v := 200) hx hb dX0_dropAll_3 (by decide) ?_
    refine lv_icmp_ge (tgt := 50) hx hb dX0_dropAll_6 (by decide) (fun c1 => ?_) (fun c1 => ?_)
    · have hf := cx_t hf c1
      cases hf
      exact cx_vret hx hb hr hlocks hP hL dX0_dropAll_50
    · have hf := cx_f hf c1
      refine lv_aload_n hx hb dX0_dropAll_9 rfl (lv_at hl 0 rfl) ?_
      refine g_Blocks_1 hC hP hx hb hts hown hK mw_86 dX0_dropAll_10 ?_
      refine lv_iload_n hx hb dX0_dropAll_13 rfl (lv_at hl 1 rfl) ?_
      refine lv_iconst (v := (-1)) hx hb dX0_dropAll_14 (by decide) ?_
      obtain ⟨hi2, hf⟩ := gdE hf
      obtain ⟨z3, ez3, hf⟩ := cx_letE hf
      refine pa_Blocks_1 hC hP hx hb hK hi2 dX0_dropAll_15 hL (fun H locs hP hL => ?_)
      replace hP : P z3 H := by rw [← ez3]; exact hP
      refine lv_aload_n hx hb dX0_dropAll_16 rfl (lv_at hl 0 rfl) ?_
      refine g_Blocks_2 hC hP hx hb hts hown hK mw_87 dX0_dropAll_17 ?_
      refine lv_iload_n hx hb dX0_dropAll_20 rfl (lv_at hl 1 rfl) ?_
      refine lv_iconst (v := (-1)) hx hb dX0_dropAll_21 (by decide) ?_
      obtain ⟨hi4, hf⟩ := gdE hf
      obtain ⟨z5, ez5, hf⟩ := cx_letE hf
      refine pa_Blocks_2 hC hP hx hb hK hi4 dX0_dropAll_22 hL (fun H locs hP hL => ?_)
      replace hP : P z5 H := by rw [← ez5]; exact hP
      refine lv_aload_n hx hb dX0_dropAll_23 rfl (lv_at hl 0 rfl) ?_
      refine g_Blocks_3 hC hP hx hb hts hown hK mw_88 dX0_dropAll_24 ?_
      refine lv_iload_n hx hb dX0_dropAll_27 rfl (lv_at hl 1 rfl) ?_
      refine lv_iconst (v := (-1)) hx hb dX0_dropAll_28 (by decide) ?_
      obtain ⟨hi6, hf⟩ := gdE hf
      obtain ⟨z7, ez7, hf⟩ := cx_letE hf
      refine pa_Blocks_3 hC hP hx hb hK hi6 dX0_dropAll_29 hL (fun H locs hP hL => ?_)
      replace hP : P z7 H := by rw [← ez7]; exact hP
      refine lv_aload_n hx hb dX0_dropAll_30 rfl (lv_at hl 0 rfl) ?_
      refine g_Blocks_4 hC hP hx hb hts hown hK mw_89 dX0_dropAll_31 ?_
      refine lv_iload_n hx hb dX0_dropAll_34 rfl (lv_at hl 1 rfl) ?_
      refine lv_iconst (v := (-1)) hx hb dX0_dropAll_35 (by decide) ?_
      obtain ⟨hi8, hf⟩ := gdE hf
      obtain ⟨z9, ez9, hf⟩ := cx_letE hf
      refine pa_Blocks_4 hC hP hx hb hK hi8 dX0_dropAll_36 hL (fun H locs hP hL => ?_)
      replace hP : P z9 H := by rw [← ez9]; exact hP
      refine lv_aload_n hx hb dX0_dropAll_37 rfl (lv_at hl 0 rfl) ?_
      refine g_Blocks_5 hC hP hx hb hts hown hK mw_90 dX0_dropAll_38 ?_
      refine lv_iload_n hx hb dX0_dropAll_41 rfl (lv_at hl 1 rfl) ?_
      refine lv_iconst (v := (-1)) hx hb dX0_dropAll_42 (by decide) ?_
      obtain ⟨hi10, hf⟩ := gdE hf
      obtain ⟨z11, ez11, hf⟩ := cx_letE hf
      refine pa_Blocks_5 hC hP hx hb hK hi10 dX0_dropAll_43 hL (fun H locs hP hL => ?_)
      replace hP : P z11 H := by rw [← ez11]; exact hP
      refine lv_iinc (v := (x1 + 1)) (lv' := [(1, .int (x1 + 1)), (0, .ref (ad 0))]) hx hb dX0_dropAll_44 hl (k := 1) rfl rfl (by decide) rfl (fun ls hl => ?_)
      refine lv_goto (tgt := 2) hx hb dX0_dropAll_47 (by decide) ?_
      exact ih z11 (x1 + 1) _ _ _ hf hP hL (lv_sub hl [1, 0] rfl)
def f_X0_dropAll (N : Nat) (τ : ObjS) : Option (ObjS) := f_X0_dropAll_b2 N N τ 0
set_option maxHeartbeats 4000000 in
set_option maxRecDepth 100000 in
theorem c_X0_dropAll {l : Launch} {G : va_G} {cA : Nat → ClassId} {lo : Nat} {ad : Nat → Nat} {P : ObjS → Heap → Prop} (hC : cx G lo 7 ad (ceBlocks cA ad) P) {N : Nat} {τ : ObjS} {res : ObjS} (hf : f_X0_dropAll N τ = some res) : Met l yX0_dropAll (cW yX0_dropAll cX0_dropAll 2 none) rm_X0_dropAll (cP [.ref (ad 0)] (P τ) G cA) (cQ none (P res)) 0 0 (fun q => lo ≤ q) := by
  refine cx_met (by decide) (Nat.le_of_ble_eq_true rfl) (fun p e s m args below meth c ls C0 hP hl => ?_)
  have hl : lv_has ls 2 [(0, .ref (ad 0))] := hl
  obtain ⟨⟨hx, hb, hml, hown, hts⟩, hr, hlocks, hK⟩ := id C0
  have hL : ∀ q ∈ ([] : List Loc), lo ≤ q.base := fun q h => nomatch h
  unfold f_X0_dropAll at hf
  refine lv_iconst (v := 0) hx hb dX0_dropAll_0 (by decide) ?_
  refine lv_istore_n (lv' := [(1, .int 0), (0, .ref (ad 0))]) hx hb dX0_dropAll_1 rfl hl (by decide) rfl (fun ls hl => ?_)
  exact w_X0_dropAll_b2 C0 hC N τ 0 _ _ _ hf hP hL (lv_sub hl [1, 0] rfl)
abbrev rm_X0_makeGhostOf : Room := { frames := 0, cells := 0, slots := 0, locals := 0 }
theorem hd_X0_makeGhostOf : yX0_makeGhostOf.cls = RX0 ∧ yX0_makeGhostOf.cls ≠ "java/lang/invoke/MethodHandle" ∧ yX0_makeGhostOf.cls ≠ "java/lang/invoke/VarHandle" ∧ (parseMethodDescriptor yX0_makeGhostOf.desc).map (fun d => d.parameters.length) = some 2 := by decide +kernel
def f_X0_makeGhostOf (τ : ObjS) (p0 : Int32) (p1 : Int32) : Option (ObjS) := if p0 < 0 then some τ else if 200 ≤ p0 then some τ else gd p0 200 (cx_let (oA τ 5 (Int32.toNatClampNeg p0) p1) fun z4 => some z4)
set_option maxHeartbeats 4000000 in
set_option maxRecDepth 100000 in
theorem c_X0_makeGhostOf {l : Launch} {G : va_G} {cA : Nat → ClassId} {lo : Nat} {ad : Nat → Nat} {P : ObjS → Heap → Prop} (hC : cx G lo 7 ad (ceBlocks cA ad) P) {τ : ObjS} {p0 : Int32} {p1 : Int32} {res : ObjS} (hf : f_X0_makeGhostOf τ p0 p1 = some res) : Met l yX0_makeGhostOf (cW yX0_makeGhostOf cX0_makeGhostOf 3 none) rm_X0_makeGhostOf (cP [.ref (ad 0), .int p0, .int p1] (P τ) G cA) (cQ none (P res)) 0 0 (fun q => lo ≤ q) := by
  refine cx_met (by decide) (Nat.le_of_ble_eq_true rfl) (fun p e s m args below meth c ls C0 hP hl => ?_)
  have hl : lv_has ls 3 [(0, .ref (ad 0)), (1, .int p0), (2, .int p1)] := hl
  obtain ⟨⟨hx, hb, hml, hown, hts⟩, hr, hlocks, hK⟩ := id C0
  have hL : ∀ q ∈ ([] : List Loc), lo ≤ q.base := fun q h => nomatch h
  unfold f_X0_makeGhostOf at hf
  refine lv_iload_n hx hb dX0_makeGhostOf_0 rfl (lv_at hl 1 rfl) ?_
  refine lv_if_lt (tgt := 18) hx hb dX0_makeGhostOf_1 (by decide) (fun c1 => ?_) (fun c1 => ?_)
  · have hf := cx_t hf c1
    cases hf
    exact cx_vret hx hb hr hlocks hP hL dX0_makeGhostOf_18
  · have hf := cx_f hf c1
    refine lv_iload_n hx hb dX0_makeGhostOf_4 rfl (lv_at hl 1 rfl) ?_
    refine lv_sipush (v := 200) hx hb dX0_makeGhostOf_5 (by decide) ?_
    refine lv_icmp_ge (tgt := 18) hx hb dX0_makeGhostOf_8 (by decide) (fun c2 => ?_) (fun c2 => ?_)
    · have hf := cx_t hf c2
      cases hf
      exact cx_vret hx hb hr hlocks hP hL dX0_makeGhostOf_18
    · have hf := cx_f hf c2
      refine lv_aload_n hx hb dX0_makeGhostOf_11 rfl (lv_at hl 0 rfl) ?_
      refine g_Blocks_5 hC hP hx hb hts hown hK mw_90 dX0_makeGhostOf_12 ?_
      refine lv_iload_n hx hb dX0_makeGhostOf_15 rfl (lv_at hl 1 rfl) ?_
      refine lv_iload_n hx hb dX0_makeGhostOf_16 rfl (lv_at hl 2 rfl) ?_
      obtain ⟨hi3, hf⟩ := gdE hf
      obtain ⟨z4, ez4, hf⟩ := cx_letE hf
      refine pa_Blocks_5 hC hP hx hb hK hi3 dX0_makeGhostOf_17 hL (fun H locs hP hL => ?_)
      replace hP : P z4 H := by rw [← ez4]; exact hP
      cases hf
      exact cx_vret hx hb hr hlocks hP hL dX0_makeGhostOf_18
abbrev rm_X0_giveTo : Room := { frames := 0, cells := 0, slots := 0, locals := 0 }
theorem hd_X0_giveTo : yX0_giveTo.cls = RX0 ∧ yX0_giveTo.cls ≠ "java/lang/invoke/MethodHandle" ∧ yX0_giveTo.cls ≠ "java/lang/invoke/VarHandle" ∧ (parseMethodDescriptor yX0_giveTo.desc).map (fun d => d.parameters.length) = some 2 := by decide +kernel
def f_X0_giveTo (τ : ObjS) (p0 : Int32) (p1 : Int32) : Option (ObjS) := if p0 < 0 then some τ else if 200 ≤ p0 then some τ else gd p0 200 (cx_let (oA τ 2 (Int32.toNatClampNeg p0) p1) fun z4 => some z4)
set_option maxHeartbeats 4000000 in
set_option maxRecDepth 100000 in
theorem c_X0_giveTo {l : Launch} {G : va_G} {cA : Nat → ClassId} {lo : Nat} {ad : Nat → Nat} {P : ObjS → Heap → Prop} (hC : cx G lo 7 ad (ceBlocks cA ad) P) {τ : ObjS} {p0 : Int32} {p1 : Int32} {res : ObjS} (hf : f_X0_giveTo τ p0 p1 = some res) : Met l yX0_giveTo (cW yX0_giveTo cX0_giveTo 3 none) rm_X0_giveTo (cP [.ref (ad 0), .int p0, .int p1] (P τ) G cA) (cQ none (P res)) 0 0 (fun q => lo ≤ q) := by
  refine cx_met (by decide) (Nat.le_of_ble_eq_true rfl) (fun p e s m args below meth c ls C0 hP hl => ?_)
  have hl : lv_has ls 3 [(0, .ref (ad 0)), (1, .int p0), (2, .int p1)] := hl
  obtain ⟨⟨hx, hb, hml, hown, hts⟩, hr, hlocks, hK⟩ := id C0
  have hL : ∀ q ∈ ([] : List Loc), lo ≤ q.base := fun q h => nomatch h
  unfold f_X0_giveTo at hf
  refine lv_iload_n hx hb dX0_giveTo_0 rfl (lv_at hl 1 rfl) ?_
  refine lv_if_lt (tgt := 18) hx hb dX0_giveTo_1 (by decide) (fun c1 => ?_) (fun c1 => ?_)
  · have hf := cx_t hf c1
    cases hf
    exact cx_vret hx hb hr hlocks hP hL dX0_giveTo_18
  · have hf := cx_f hf c1
    refine lv_iload_n hx hb dX0_giveTo_4 rfl (lv_at hl 1 rfl) ?_
    refine lv_sipush (v := 200) hx hb dX0_giveTo_5 (by decide) ?_
    refine lv_icmp_ge (tgt := 18) hx hb dX0_giveTo_8 (by decide) (fun c2 => ?_) (fun c2 => ?_)
    · have hf := cx_t hf c2
      cases hf
      exact cx_vret hx hb hr hlocks hP hL dX0_giveTo_18
    · have hf := cx_f hf c2
      refine lv_aload_n hx hb dX0_giveTo_11 rfl (lv_at hl 0 rfl) ?_
      refine g_Blocks_2 hC hP hx hb hts hown hK mw_87 dX0_giveTo_12 ?_
      refine lv_iload_n hx hb dX0_giveTo_15 rfl (lv_at hl 1 rfl) ?_
      refine lv_iload_n hx hb dX0_giveTo_16 rfl (lv_at hl 2 rfl) ?_
      obtain ⟨hi3, hf⟩ := gdE hf
      obtain ⟨z4, ez4, hf⟩ := cx_letE hf
      refine pa_Blocks_2 hC hP hx hb hK hi3 dX0_giveTo_17 hL (fun H locs hP hL => ?_)
      replace hP : P z4 H := by rw [← ez4]; exact hP
      cases hf
      exact cx_vret hx hb hr hlocks hP hL dX0_giveTo_18
abbrev rm_X0_changeValue : Room := { frames := 0, cells := 0, slots := 0, locals := 0 }
theorem hd_X0_changeValue : yX0_changeValue.cls = RX0 ∧ yX0_changeValue.cls ≠ "java/lang/invoke/MethodHandle" ∧ yX0_changeValue.cls ≠ "java/lang/invoke/VarHandle" ∧ (parseMethodDescriptor yX0_changeValue.desc).map (fun d => d.parameters.length) = some 3 := by decide +kernel
def f_X0_changeValue (τ : ObjS) (p0 : Int32) (p1 : Int32) (p2 : Int32) : Option (ObjS) := if p0 < 0 then some τ else if 200 ≤ p0 then some τ else gd p0 200 (cx_let (oA τ 1 (Int32.toNatClampNeg p0) p1) fun z4 => gd p0 200 (if (z4.1 3 (Int32.toNatClampNeg p0)) = (-1) then gd p0 200 (cx_let (oA z4 3 (Int32.toNatClampNeg p0) p2) fun z8 => some z8) else some z4))
set_option maxHeartbeats 4000000 in
set_option maxRecDepth 100000 in
theorem c_X0_changeValue {l : Launch} {G : va_G} {cA : Nat → ClassId} {lo : Nat} {ad : Nat → Nat} {P : ObjS → Heap → Prop} (hC : cx G lo 7 ad (ceBlocks cA ad) P) {τ : ObjS} {p0 : Int32} {p1 : Int32} {p2 : Int32} {res : ObjS} (hf : f_X0_changeValue τ p0 p1 p2 = some res) : Met l yX0_changeValue (cW yX0_changeValue cX0_changeValue 4 none) rm_X0_changeValue (cP [.ref (ad 0), .int p0, .int p1, .int p2] (P τ) G cA) (cQ none (P res)) 0 0 (fun q => lo ≤ q) := by
  refine cx_met (by decide) (Nat.le_of_ble_eq_true rfl) (fun p e s m args below meth c ls C0 hP hl => ?_)
  have hl : lv_has ls 4 [(0, .ref (ad 0)), (1, .int p0), (2, .int p1), (3, .int p2)] := hl
  obtain ⟨⟨hx, hb, hml, hown, hts⟩, hr, hlocks, hK⟩ := id C0
  have hL : ∀ q ∈ ([] : List Loc), lo ≤ q.base := fun q h => nomatch h
  unfold f_X0_changeValue at hf
  refine lv_iload_n hx hb dX0_changeValue_0 rfl (lv_at hl 1 rfl) ?_
  refine lv_if_lt (tgt := 35) hx hb dX0_changeValue_1 (by decide) (fun c1 => ?_) (fun c1 => ?_)
  · have hf := cx_t hf c1
    cases hf
    exact cx_vret hx hb hr hlocks hP hL dX0_changeValue_35
  · have hf := cx_f hf c1
    refine lv_iload_n hx hb dX0_changeValue_4 rfl (lv_at hl 1 rfl) ?_
    refine lv_sipush (v := 200) hx hb dX0_changeValue_5 (by decide) ?_
    refine lv_icmp_ge (tgt := 35) hx hb dX0_changeValue_8 (by decide) (fun c2 => ?_) (fun c2 => ?_)
    · have hf := cx_t hf c2
      cases hf
      exact cx_vret hx hb hr hlocks hP hL dX0_changeValue_35
    · have hf := cx_f hf c2
      refine lv_aload_n hx hb dX0_changeValue_11 rfl (lv_at hl 0 rfl) ?_
      refine g_Blocks_1 hC hP hx hb hts hown hK mw_86 dX0_changeValue_12 ?_
      refine lv_iload_n hx hb dX0_changeValue_15 rfl (lv_at hl 1 rfl) ?_
      refine lv_iload_n hx hb dX0_changeValue_16 rfl (lv_at hl 2 rfl) ?_
      obtain ⟨hi3, hf⟩ := gdE hf
      obtain ⟨z4, ez4, hf⟩ := cx_letE hf
      refine pa_Blocks_1 hC hP hx hb hK hi3 dX0_changeValue_17 hL (fun H locs hP hL => ?_)
      replace hP : P z4 H := by rw [← ez4]; exact hP
      refine lv_aload_n hx hb dX0_changeValue_18 rfl (lv_at hl 0 rfl) ?_
      refine g_Blocks_3 hC hP hx hb hts hown hK mw_88 dX0_changeValue_19 ?_
      refine lv_iload_n hx hb dX0_changeValue_22 rfl (lv_at hl 1 rfl) ?_
      obtain ⟨hi5, hf⟩ := gdE hf
      refine ga_Blocks_3 hC hP hx hb hK hi5 dX0_changeValue_23 ?_
      refine lv_iconst (v := (-1)) hx hb dX0_changeValue_24 (by decide) ?_
      refine lv_icmp_ne (tgt := 35) hx hb dX0_changeValue_25 (by decide) (fun c6 => ?_) (fun c6 => ?_)
      · have hf := cx_f hf c6
        cases hf
        exact cx_vret hx hb hr hlocks hP hL dX0_changeValue_35
      · have hf := cx_t hf c6
        refine lv_aload_n hx hb dX0_changeValue_28 rfl (lv_at hl 0 rfl) ?_
        refine g_Blocks_3 hC hP hx hb hts hown hK mw_88 dX0_changeValue_29 ?_
        refine lv_iload_n hx hb dX0_changeValue_32 rfl (lv_at hl 1 rfl) ?_
        refine lv_iload_n hx hb dX0_changeValue_33 rfl (lv_at hl 3 rfl) ?_
        obtain ⟨hi7, hf⟩ := gdE hf
        obtain ⟨z8, ez8, hf⟩ := cx_letE hf
        refine pa_Blocks_3 hC hP hx hb hK hi7 dX0_changeValue_34 hL (fun H locs hP hL => ?_)
        replace hP : P z8 H := by rw [← ez8]; exact hP
        cases hf
        exact cx_vret hx hb hr hlocks hP hL dX0_changeValue_35
abbrev rm_X0_writeBack : Room := { frames := 0, cells := 0, slots := 0, locals := 0 }
theorem hd_X0_writeBack : yX0_writeBack.cls = RX0 ∧ yX0_writeBack.cls ≠ "java/lang/invoke/MethodHandle" ∧ yX0_writeBack.cls ≠ "java/lang/invoke/VarHandle" ∧ (parseMethodDescriptor yX0_writeBack.desc).map (fun d => d.parameters.length) = some 1 := by decide +kernel
def f_X0_writeBack (τ : ObjS) (p0 : Int32) : Option (ObjS) := if p0 < 0 then some τ else if 200 ≤ p0 then some τ else gd p0 200 (gd p0 200 (cx_let (oA τ 0 (Int32.toNatClampNeg p0) (τ.1 1 (Int32.toNatClampNeg p0))) fun z5 => gd p0 200 (cx_let (oA z5 3 (Int32.toNatClampNeg p0) (-1)) fun z7 => if (p0 + 1) = 200 then cx_let (oI z7 6 0) fun z11 => cx_let (oI z11 7 (z11.2 7 + 1)) fun z12 => some z12 else cx_let (oI z7 6 (p0 + 1)) fun z9 => cx_let (oI z9 7 (z9.2 7 + 1)) fun z10 => some z10)))
set_option maxHeartbeats 4000000 in
set_option maxRecDepth 100000 in
theorem c_X0_writeBack {l : Launch} {G : va_G} {cA : Nat → ClassId} {lo : Nat} {ad : Nat → Nat} {P : ObjS → Heap → Prop} (hC : cx G lo 7 ad (ceBlocks cA ad) P) {τ : ObjS} {p0 : Int32} {res : ObjS} (hf : f_X0_writeBack τ p0 = some res) : Met l yX0_writeBack (cW yX0_writeBack cX0_writeBack 2 none) rm_X0_writeBack (cP [.ref (ad 0), .int p0] (P τ) G cA) (cQ none (P res)) 0 0 (fun q => lo ≤ q) := by
  refine cx_met (by decide) (Nat.le_of_ble_eq_true rfl) (fun p e s m args below meth c ls C0 hP hl => ?_)
  have hl : lv_has ls 2 [(0, .ref (ad 0)), (1, .int p0)] := hl
  obtain ⟨⟨hx, hb, hml, hown, hts⟩, hr, hlocks, hK⟩ := id C0
  have hL : ∀ q ∈ ([] : List Loc), lo ≤ q.base := fun q h => nomatch h
  unfold f_X0_writeBack at hf
  refine lv_iload_n hx hb dX0_writeBack_0 rfl (lv_at hl 1 rfl) ?_
  refine lv_if_lt (tgt := 60) hx hb dX0_writeBack_1 (by decide) (fun c1 => ?_) (fun c1 => ?_)
  · have hf := cx_t hf c1
    cases hf
    exact cx_vret hx hb hr hlocks hP hL dX0_writeBack_60
  · have hf := cx_f hf c1
    refine lv_iload_n hx hb dX0_writeBack_4 rfl (lv_at hl 1 rfl) ?_
    refine lv_sipush (v := 200) hx hb dX0_writeBack_5 (by decide) ?_
    refine lv_icmp_ge (tgt := 60) hx hb dX0_writeBack_8 (by decide) (fun c2 => ?_) (fun c2 => ?_)
    · have hf := cx_t hf c2
      cases hf
      exact cx_vret hx hb hr hlocks hP hL dX0_writeBack_60
    · have hf := cx_f hf c2
      refine lv_aload_n hx hb dX0_writeBack_11 rfl (lv_at hl 0 rfl) ?_
      refine g_Blocks_0 hC hP hx hb hts hown hK mw_85 dX0_writeBack_12 ?_
      refine lv_iload_n hx hb dX0_writeBack_15 rfl (lv_at hl 1 rfl) ?_
      refine lv_aload_n hx hb dX0_writeBack_16 rfl (lv_at hl 0 rfl) ?_
      refine g_Blocks_1 hC hP hx hb hts hown hK mw_86 dX0_writeBack_17 ?_
      refine lv_iload_n hx hb dX0_writeBack_20 rfl (lv_at hl 1 rfl) ?_
      obtain ⟨hi3, hf⟩ := gdE hf
      refine ga_Blocks_1 hC hP hx hb hK hi3 dX0_writeBack_21 ?_
      obtain ⟨hi4, hf⟩ := gdE hf
      obtain ⟨z5, ez5, hf⟩ := cx_letE hf
      refine pa_Blocks_0 hC hP hx hb hK hi4 dX0_writeBack_22 hL (fun H locs hP hL => ?_)
      replace hP : P z5 H := by rw [← ez5]; exact hP
      refine lv_aload_n hx hb dX0_writeBack_23 rfl (lv_at hl 0 rfl) ?_
      refine g_Blocks_3 hC hP hx hb hts hown hK mw_88 dX0_writeBack_24 ?_
      refine lv_iload_n hx hb dX0_writeBack_27 rfl (lv_at hl 1 rfl) ?_
      refine lv_iconst (v := (-1)) hx hb dX0_writeBack_28 (by decide) ?_
      obtain ⟨hi6, hf⟩ := gdE hf
      obtain ⟨z7, ez7, hf⟩ := cx_letE hf
      refine pa_Blocks_3 hC hP hx hb hK hi6 dX0_writeBack_29 hL (fun H locs hP hL => ?_)
      replace hP : P z7 H := by rw [← ez7]; exact hP
      refine lv_aload_n hx hb dX0_writeBack_30 rfl (lv_at hl 0 rfl) ?_
      refine lv_iload_n hx hb dX0_writeBack_31 rfl (lv_at hl 1 rfl) ?_
      refine lv_iconst (v := 1) hx hb dX0_writeBack_32 (by decide) ?_
      refine lv_iadd hx hb dX0_writeBack_33 ?_
      refine lv_sipush (v := 200) hx hb dX0_writeBack_34 (by decide) ?_
      refine lv_icmp_ne (tgt := 44) hx hb dX0_writeBack_37 (by decide) (fun c8 => ?_) (fun c8 => ?_)
      · have hf := cx_f hf c8
        refine lv_iload_n hx hb dX0_writeBack_44 rfl (lv_at hl 1 rfl) ?_
        refine lv_iconst (v := 1) hx hb dX0_writeBack_45 (by decide) ?_
        refine lv_iadd hx hb dX0_writeBack_46 ?_
        obtain ⟨z9, ez9, hf⟩ := cx_letE hf
        refine p_Blocks_6 hC hP hx hb hts hown hK mw_181 dX0_writeBack_47 hL (fun H locs hP hL => ?_)
        replace hP : P z9 H := by rw [← ez9]; exact hP
        refine lv_aload_n hx hb dX0_writeBack_50 rfl (lv_at hl 0 rfl) ?_
        refine lv_dup hx hb dX0_writeBack_51 rfl ?_
        refine g_Blocks_7 hC hP hx hb hts hown hK mw_182 dX0_writeBack_52 ?_
        refine lv_iconst (v := 1) hx hb dX0_writeBack_55 (by decide) ?_
        refine lv_iadd hx hb dX0_writeBack_56 ?_
        obtain ⟨z10, ez10, hf⟩ := cx_letE hf
        refine p_Blocks_7 hC hP hx hb hts hown hK mw_182 dX0_writeBack_57 hL (fun H locs hP hL => ?_)
        replace hP : P z10 H := by rw [← ez10]; exact hP
        cases hf
        exact cx_vret hx hb hr hlocks hP hL dX0_writeBack_60
      · have hf := cx_t hf c8
        refine lv_iconst (v := 0) hx hb dX0_writeBack_40 (by decide) ?_
        refine lv_goto (tgt := 47) hx hb dX0_writeBack_41 (by decide) ?_
        obtain ⟨z11, ez11, hf⟩ := cx_letE hf
        refine p_Blocks_6 hC hP hx hb hts hown hK mw_181 dX0_writeBack_47 hL (fun H locs hP hL => ?_)
        replace hP : P z11 H := by rw [← ez11]; exact hP
        refine lv_aload_n hx hb dX0_writeBack_50 rfl (lv_at hl 0 rfl) ?_
        refine lv_dup hx hb dX0_writeBack_51 rfl ?_
        refine g_Blocks_7 hC hP hx hb hts hown hK mw_182 dX0_writeBack_52 ?_
        refine lv_iconst (v := 1) hx hb dX0_writeBack_55 (by decide) ?_
        refine lv_iadd hx hb dX0_writeBack_56 ?_
        obtain ⟨z12, ez12, hf⟩ := cx_letE hf
        refine p_Blocks_7 hC hP hx hb hts hown hK mw_182 dX0_writeBack_57 hL (fun H locs hP hL => ?_)
        replace hP : P z12 H := by rw [← ez12]; exact hP
        cases hf
        exact cx_vret hx hb hr hlocks hP hL dX0_writeBack_60
abbrev rm_X0_dirtyAt : Room := { frames := 1, cells := 0, slots := 0, locals := 21 }
theorem hd_X0_dirtyAt : yX0_dirtyAt.cls = RX0 ∧ yX0_dirtyAt.cls ≠ "java/lang/invoke/MethodHandle" ∧ yX0_dirtyAt.cls ≠ "java/lang/invoke/VarHandle" ∧ (parseMethodDescriptor yX0_dirtyAt.desc).map (fun d => d.parameters.length) = some 1 := by decide +kernel
def f_X0_dirtyAt_b4 (N : Nat) : Nat → ObjS → Int32 → Int32 → Int32 → Option (Int32)
  | 0, _, _, _, _ => none
  | n + 1, τ, x1, x2, x3 => if 200 ≤ x3 then some (-1) else (f_X0_isDirty τ ((τ.2 6 + x3) - (τ.2 6 + x3) / 200 * 200)).bind fun r2 => if r2 = 0 then f_X0_dirtyAt_b4 N n τ x1 x2 (x3 + 1) else if x2 = x1 then some ((τ.2 6 + x3) - (τ.2 6 + x3) / 200 * 200) else f_X0_dirtyAt_b4 N n τ x1 (x2 + 1) (x3 + 1)
set_option maxHeartbeats 4000000 in
set_option maxRecDepth 100000 in
theorem w_X0_dirtyAt_b4 {p : Program} {l : Launch} {e : Env} {s : State} {m : MethodId} {args : Array Value} {below : List Frame} {meth : Method} {c : Code} {G : va_G} {cA : Nat → ClassId} (C0 : cB p s m args meth c RX0 cX0_dirtyAt 5 (some .int) G cA) {lo : Nat} {ad : Nat → Nat} {P : ObjS → Heap → Prop} (hC : cx G lo 7 ad (ceBlocks cA ad) P) {N : Nat} {res : Int32} : ∀ (n : Nat) (τ : ObjS) (x1 : Int32) (x2 : Int32) (x3 : Int32) (H : Heap) (locs : List Loc) (ls : Array Slot), f_X0_dirtyAt_b4 N n τ x1 x2 x3 = some res → P τ H → (∀ q ∈ locs, lo ≤ q.base) → lv_has ls 5 [(0, .ref (ad 0)), (1, .int x1), (2, .int x2), (3, .int x3)] → W p l e rm_X0_dirtyAt s m args below meth c H locs 0 0 (MQ below (cQ (some (.int res)) (P τ)) args s 0 0 (fun q => lo ≤ q)) (F0 m 4 ls []) := by
  obtain ⟨⟨hx, hb, hml, hown, hts⟩, hr, hlocks, hK⟩ := id C0
  intro n
  induction n with
  | zero => intro τ x1 x2 x3 H locs ls
            exact fun hf => nomatch hf
  | succ n ih =>
    intro τ x1 x2 x3 H locs ls hf hP hL hl
    rw [f_X0_dirtyAt_b4] at hf
    refine lv_iload_n hx hb dX0_dirtyAt_4 rfl (lv_at hl 3 rfl) ?_
    refine lv_sipush (v := 200) hx hb dX0_dirtyAt_5 (by decide) ?_
    refine lv_icmp_ge (tgt := 49) hx hb dX0_dirtyAt_8 (by decide) (fun c1 => ?_) (fun c1 => ?_)
    · have hf := cx_t hf c1
      refine lv_iconst (v := (-1)) hx hb dX0_dirtyAt_49 (by decide) ?_
      cases hf
      exact cx_iret hx hb hr hlocks hP hL dX0_dirtyAt_50
    · have hf := cx_f hf c1
      refine lv_aload_n hx hb dX0_dirtyAt_11 rfl (lv_at hl 0 rfl) ?_
      refine g_Blocks_6 hC hP hx hb hts hown hK mw_181 dX0_dirtyAt_12 ?_
      refine lv_iload_n hx hb dX0_dirtyAt_15 rfl (lv_at hl 3 rfl) ?_
      refine lv_iadd hx hb dX0_dirtyAt_16 ?_
      refine lv_sipush (v := 200) hx hb dX0_dirtyAt_17 (by decide) ?_
      refine lv_irem hx hb dX0_dirtyAt_20 (by decide) ?_
      refine lv_istore (lv' := [(4, .int ((τ.2 6 + x3) - (τ.2 6 + x3) / 200 * 200)), (0, .ref (ad 0)), (1, .int x1), (2, .int x2), (3, .int x3)]) hx hb dX0_dirtyAt_21 hl (by decide) rfl (fun ls hl => ?_)
      refine lv_aload_n hx hb dX0_dirtyAt_23 rfl (lv_at hl 1 rfl) ?_
      refine lv_iload hx hb dX0_dirtyAt_24 (lv_at hl 0 rfl) ?_
      obtain ⟨r2, q3, hf⟩ := cx_b hf
      refine cx_callV (As := [.int ((τ.2 6 + x3) - (τ.2 6 + x3) / 200 * 200)]) (rest := []) ⟨hx, hb, hml, hown, hts⟩ (c_X0_isDirty hC q3) (cwV 1 hts (gV mw_248 mw_249 mw_250 mw_58 mw_251) rfl rfl rfl hd_X0_isDirty ⟨Nat.le_of_ble_eq_true rfl, Nat.le_of_ble_eq_true rfl⟩) hK hP rfl (at_Blocks hC hP) rfl hl.1 rfl (Nat.le_of_ble_eq_true rfl) dX0_dirtyAt_26 ⟨Nat.zero_le _, Nat.zero_le _⟩ hL (fun H locs hP hL => ?_)
      replace hP : P τ H := by first | exact hP | (simpa only [va_up_id] using hP)
      refine lv_if_eq (tgt := 43) hx hb dX0_dirtyAt_29 (by decide) (fun c4 => ?_) (fun c4 => ?_)
      · have hf := cx_t hf c4
        refine lv_iinc (v := (x3 + 1)) (lv' := [(3, .int (x3 + 1)), (4, .int ((τ.2 6 + x3) - (τ.2 6 + x3) / 200 * 200)), (0, .ref (ad 0)), (1, .int x1), (2, .int x2)]) hx hb dX0_dirtyAt_43 hl (k := 4) rfl rfl (by decide) rfl (fun ls hl => ?_)
        refine lv_goto (tgt := 4) hx hb dX0_dirtyAt_46 (by decide) ?_
        exact ih τ x1 x2 (x3 + 1) _ _ _ hf hP hL (lv_sub hl [2, 3, 4, 0] rfl)
      · have hf := cx_f hf c4
        refine lv_iload_n hx hb dX0_dirtyAt_32 rfl (lv_at hl 3 rfl) ?_
        refine lv_iload_n hx hb dX0_dirtyAt_33 rfl (lv_at hl 2 rfl) ?_
        refine lv_icmp_ne (tgt := 40) hx hb dX0_dirtyAt_34 (by decide) (fun c5 => ?_) (fun c5 => ?_)
        · have hf := cx_f hf c5
          refine lv_iinc (v := (x2 + 1)) (lv' := [(2, .int (x2 + 1)), (4, .int ((τ.2 6 + x3) - (τ.2 6 + x3) / 200 * 200)), (0, .ref (ad 0)), (1, .int x1), (3, .int x3)]) hx hb dX0_dirtyAt_40 hl (k := 3) rfl rfl (by decide) rfl (fun ls hl => ?_)
          refine lv_iinc (v := (x3 + 1)) (lv' := [(3, .int (x3 + 1)), (2, .int (x2 + 1)), (4, .int ((τ.2 6 + x3) - (τ.2 6 + x3) / 200 * 200)), (0, .ref (ad 0)), (1, .int x1)]) hx hb dX0_dirtyAt_43 hl (k := 4) rfl rfl (by decide) rfl (fun ls hl => ?_)
          refine lv_goto (tgt := 4) hx hb dX0_dirtyAt_46 (by decide) ?_
          exact ih τ x1 (x2 + 1) (x3 + 1) _ _ _ hf hP hL (lv_sub hl [3, 4, 1, 0] rfl)
        · have hf := cx_t hf c5
          refine lv_iload hx hb dX0_dirtyAt_37 (lv_at hl 0 rfl) ?_
          cases hf
          exact cx_iret hx hb hr hlocks hP hL dX0_dirtyAt_39
def f_X0_dirtyAt (N : Nat) (τ : ObjS) (p0 : Int32) : Option (Int32) := f_X0_dirtyAt_b4 N N τ p0 0 0
set_option maxHeartbeats 4000000 in
set_option maxRecDepth 100000 in
theorem c_X0_dirtyAt {l : Launch} {G : va_G} {cA : Nat → ClassId} {lo : Nat} {ad : Nat → Nat} {P : ObjS → Heap → Prop} (hC : cx G lo 7 ad (ceBlocks cA ad) P) {N : Nat} {τ : ObjS} {p0 : Int32} {res : Int32} (hf : f_X0_dirtyAt N τ p0 = some res) : Met l yX0_dirtyAt (cW yX0_dirtyAt cX0_dirtyAt 5 (some .int)) rm_X0_dirtyAt (cP [.ref (ad 0), .int p0] (P τ) G cA) (cQ (some (.int res)) (P τ)) 0 0 (fun q => lo ≤ q) := by
  refine cx_met (by decide) (Nat.le_of_ble_eq_true rfl) (fun p e s m args below meth c ls C0 hP hl => ?_)
  have hl : lv_has ls 5 [(0, .ref (ad 0)), (1, .int p0)] := hl
  obtain ⟨⟨hx, hb, hml, hown, hts⟩, hr, hlocks, hK⟩ := id C0
  have hL : ∀ q ∈ ([] : List Loc), lo ≤ q.base := fun q h => nomatch h
  unfold f_X0_dirtyAt at hf
  refine lv_iconst (v := 0) hx hb dX0_dirtyAt_0 (by decide) ?_
  refine lv_istore_n (lv' := [(2, .int 0), (0, .ref (ad 0)), (1, .int p0)]) hx hb dX0_dirtyAt_1 rfl hl (by decide) rfl (fun ls hl => ?_)
  refine lv_iconst (v := 0) hx hb dX0_dirtyAt_2 (by decide) ?_
  refine lv_istore_n (lv' := [(3, .int 0), (2, .int 0), (0, .ref (ad 0)), (1, .int p0)]) hx hb dX0_dirtyAt_3 rfl hl (by decide) rfl (fun ls hl => ?_)
  exact w_X0_dirtyAt_b4 C0 hC N τ p0 0 0 _ _ _ hf hP hL (lv_sub hl [2, 3, 1, 0] rfl)
abbrev rm_X0_writeBackSome : Room := { frames := 2, cells := 0, slots := 0, locals := 45 }
theorem hd_X0_writeBackSome : yX0_writeBackSome.cls = RX0 ∧ yX0_writeBackSome.cls ≠ "java/lang/invoke/MethodHandle" ∧ yX0_writeBackSome.cls ≠ "java/lang/invoke/VarHandle" ∧ (parseMethodDescriptor yX0_writeBackSome.desc).map (fun d => d.parameters.length) = some 1 := by decide +kernel
def f_X0_writeBackSome_b2 (N : Nat) : Nat → ObjS → Int32 → Int32 → Option (Int32 × ObjS)
  | 0, _, _, _ => none
  | n + 1, τ, x1, x2 => if x1 ≤ x2 then some (x2, τ) else if 200 ≤ x2 then some (x2, τ) else (f_X0_dirtyAt N τ 0).bind fun r3 => if r3 = (-1) then some (x2, τ) else (f_X0_writeBack τ r3).bind fun r6 => f_X0_writeBackSome_b2 N n r6 x1 (x2 + 1)
set_option maxHeartbeats 4000000 in
set_option maxRecDepth 100000 in
theorem w_X0_writeBackSome_b2 {p : Program} {l : Launch} {e : Env} {s : State} {m : MethodId} {args : Array Value} {below : List Frame} {meth : Method} {c : Code} {G : va_G} {cA : Nat → ClassId} (C0 : cB p s m args meth c RX0 cX0_writeBackSome 4 (some .int) G cA) {lo : Nat} {ad : Nat → Nat} {P : ObjS → Heap → Prop} (hC : cx G lo 7 ad (ceBlocks cA ad) P) {N : Nat} {res : Int32 × ObjS} : ∀ (n : Nat) (τ : ObjS) (x1 : Int32) (x2 : Int32) (H : Heap) (locs : List Loc) (ls : Array Slot), f_X0_writeBackSome_b2 N n τ x1 x2 = some res → P τ H → (∀ q ∈ locs, lo ≤ q.base) → lv_has ls 4 [(0, .ref (ad 0)), (1, .int x1), (2, .int x2)] → W p l e rm_X0_writeBackSome s m args below meth c H locs 0 0 (MQ below (cQ (some (.int res.1)) (P res.2)) args s 0 0 (fun q => lo ≤ q)) (F0 m 2 ls []) := by
  obtain ⟨⟨hx, hb, hml, hown, hts⟩, hr, hlocks, hK⟩ := id C0
  intro n
  induction n with
  | zero => intro τ x1 x2 H locs ls
            exact fun hf => nomatch hf
  | succ n ih =>
    intro τ x1 x2 H locs ls hf hP hL hl
    rw [f_X0_writeBackSome_b2] at hf
    refine lv_iload_n hx hb dX0_writeBackSome_2 rfl (lv_at hl 2 rfl) ?_
    refine lv_iload_n hx hb dX0_writeBackSome_3 rfl (lv_at hl 1 rfl) ?_
    refine lv_icmp_ge (tgt := 38) hx hb dX0_writeBackSome_4 (by decide) (fun c1 => ?_) (fun c1 => ?_)
    · have hf := cx_t hf c1
      refine lv_iload_n hx hb dX0_writeBackSome_38 rfl (lv_at hl 2 rfl) ?_
      cases hf
      exact cx_iret hx hb hr hlocks hP hL dX0_writeBackSome_39
    · have hf := cx_f hf c1
      refine lv_iload_n hx hb dX0_writeBackSome_7 rfl (lv_at hl 2 rfl) ?_
      refine lv_sipush (v := 200) hx hb dX0_writeBackSome_8 (by decide) ?_
      refine lv_icmp_ge (tgt := 38) hx hb dX0_writeBackSome_11 (by decide) (fun c2 => ?_) (fun c2 => ?_)
      · have hf := cx_t hf c2
        refine lv_iload_n hx hb dX0_writeBackSome_38 rfl (lv_at hl 2 rfl) ?_
        cases hf
        exact cx_iret hx hb hr hlocks hP hL dX0_writeBackSome_39
      · have hf := cx_f hf c2
        refine lv_aload_n hx hb dX0_writeBackSome_14 rfl (lv_at hl 0 rfl) ?_
        refine lv_iconst (v := 0) hx hb dX0_writeBackSome_15 (by decide) ?_
        obtain ⟨r3, q4, hf⟩ := cx_b hf
        refine cx_callV (As := [.int 0]) (rest := []) ⟨hx, hb, hml, hown, hts⟩ (c_X0_dirtyAt hC q4) (cwV 1 hts (gV mw_244 mw_245 mw_246 mw_58 mw_247) rfl rfl rfl hd_X0_dirtyAt ⟨Nat.le_of_ble_eq_true rfl, Nat.le_of_ble_eq_true rfl⟩) hK hP rfl (at_Blocks hC hP) rfl hl.1 rfl (Nat.le_of_ble_eq_true rfl) dX0_writeBackSome_16 ⟨Nat.zero_le _, Nat.zero_le _⟩ hL (fun H locs hP hL => ?_)
        replace hP : P τ H := by first | exact hP | (simpa only [va_up_id] using hP)
        refine lv_istore_n (lv' := [(3, .int r3), (0, .ref (ad 0)), (1, .int x1), (2, .int x2)]) hx hb dX0_writeBackSome_19 rfl hl (by decide) rfl (fun ls hl => ?_)
        refine lv_iload_n hx hb dX0_writeBackSome_20 rfl (lv_at hl 0 rfl) ?_
        refine lv_iconst (v := (-1)) hx hb dX0_writeBackSome_21 (by decide) ?_
        refine lv_icmp_ne (tgt := 27) hx hb dX0_writeBackSome_22 (by decide) (fun c5 => ?_) (fun c5 => ?_)
        · have hf := cx_f hf c5
          refine lv_aload_n hx hb dX0_writeBackSome_27 rfl (lv_at hl 1 rfl) ?_
          refine lv_iload_n hx hb dX0_writeBackSome_28 rfl (lv_at hl 0 rfl) ?_
          obtain ⟨r6, q7, hf⟩ := cx_b hf
          refine cx_callV (As := [.int r3]) (rest := []) ⟨hx, hb, hml, hown, hts⟩ (c_X0_writeBack hC q7) (cwV 1 hts (gV mw_252 mw_253 mw_254 mw_58 mw_255) rfl rfl rfl hd_X0_writeBack ⟨Nat.le_of_ble_eq_true rfl, Nat.le_of_ble_eq_true rfl⟩) hK hP rfl (at_Blocks hC hP) rfl hl.1 rfl (Nat.le_of_ble_eq_true rfl) dX0_writeBackSome_29 ⟨Nat.zero_le _, Nat.zero_le _⟩ hL (fun H locs hP hL => ?_)
          replace hP : P r6 H := by first | exact hP | (simpa only [va_up_id] using hP)
          refine lv_iinc (v := (x2 + 1)) (lv' := [(2, .int (x2 + 1)), (3, .int r3), (0, .ref (ad 0)), (1, .int x1)]) hx hb dX0_writeBackSome_32 hl (k := 3) rfl rfl (by decide) rfl (fun ls hl => ?_)
          refine lv_goto (tgt := 2) hx hb dX0_writeBackSome_35 (by decide) ?_
          exact ih r6 x1 (x2 + 1) _ _ _ hf hP hL (lv_sub hl [2, 3, 0] rfl)
        · have hf := cx_t hf c5
          refine lv_iload_n hx hb dX0_writeBackSome_25 rfl (lv_at hl 3 rfl) ?_
          cases hf
          exact cx_iret hx hb hr hlocks hP hL dX0_writeBackSome_26
def f_X0_writeBackSome (N : Nat) (τ : ObjS) (p0 : Int32) : Option (Int32 × ObjS) := f_X0_writeBackSome_b2 N N τ p0 0
set_option maxHeartbeats 4000000 in
set_option maxRecDepth 100000 in
theorem c_X0_writeBackSome {l : Launch} {G : va_G} {cA : Nat → ClassId} {lo : Nat} {ad : Nat → Nat} {P : ObjS → Heap → Prop} (hC : cx G lo 7 ad (ceBlocks cA ad) P) {N : Nat} {τ : ObjS} {p0 : Int32} {res : Int32 × ObjS} (hf : f_X0_writeBackSome N τ p0 = some res) : Met l yX0_writeBackSome (cW yX0_writeBackSome cX0_writeBackSome 4 (some .int)) rm_X0_writeBackSome (cP [.ref (ad 0), .int p0] (P τ) G cA) (cQ (some (.int res.1)) (P res.2)) 0 0 (fun q => lo ≤ q) := by
  refine cx_met (by decide) (Nat.le_of_ble_eq_true rfl) (fun p e s m args below meth c ls C0 hP hl => ?_)
  have hl : lv_has ls 4 [(0, .ref (ad 0)), (1, .int p0)] := hl
  obtain ⟨⟨hx, hb, hml, hown, hts⟩, hr, hlocks, hK⟩ := id C0
  have hL : ∀ q ∈ ([] : List Loc), lo ≤ q.base := fun q h => nomatch h
  unfold f_X0_writeBackSome at hf
  refine lv_iconst (v := 0) hx hb dX0_writeBackSome_0 (by decide) ?_
  refine lv_istore_n (lv' := [(2, .int 0), (0, .ref (ad 0)), (1, .int p0)]) hx hb dX0_writeBackSome_1 rfl hl (by decide) rfl (fun ls hl => ?_)
  exact w_X0_writeBackSome_b2 C0 hC N τ p0 0 _ _ _ hf hP hL (lv_sub hl [1, 2, 0] rfl)
abbrev rm_X0_howManyDirty : Room := { frames := 0, cells := 0, slots := 0, locals := 0 }
theorem hd_X0_howManyDirty : yX0_howManyDirty.cls = RX0 ∧ yX0_howManyDirty.cls ≠ "java/lang/invoke/MethodHandle" ∧ yX0_howManyDirty.cls ≠ "java/lang/invoke/VarHandle" ∧ (parseMethodDescriptor yX0_howManyDirty.desc).map (fun d => d.parameters.length) = some 0 := by decide +kernel
def f_X0_howManyDirty_b4 (N : Nat) : Nat → ObjS → Int32 → Int32 → Option (Int32)
  | 0, _, _, _ => none
  | n + 1, τ, x1, x2 => if 200 ≤ x2 then some x1 else gd x2 200 (if (τ.1 3 (Int32.toNatClampNeg x2)) = (-1) then f_X0_howManyDirty_b4 N n τ x1 (x2 + 1) else f_X0_howManyDirty_b4 N n τ (x1 + 1) (x2 + 1))
set_option maxHeartbeats 4000000 in
set_option maxRecDepth 100000 in
theorem w_X0_howManyDirty_b4 {p : Program} {l : Launch} {e : Env} {s : State} {m : MethodId} {args : Array Value} {below : List Frame} {meth : Method} {c : Code} {G : va_G} {cA : Nat → ClassId} (C0 : cB p s m args meth c RX0 cX0_howManyDirty 3 (some .int) G cA) {lo : Nat} {ad : Nat → Nat} {P : ObjS → Heap → Prop} (hC : cx G lo 7 ad (ceBlocks cA ad) P) {N : Nat} {res : Int32} : ∀ (n : Nat) (τ : ObjS) (x1 : Int32) (x2 : Int32) (H : Heap) (locs : List Loc) (ls : Array Slot), f_X0_howManyDirty_b4 N n τ x1 x2 = some res → P τ H → (∀ q ∈ locs, lo ≤ q.base) → lv_has ls 3 [(0, .ref (ad 0)), (1, .int x1), (2, .int x2)] → W p l e rm_X0_howManyDirty s m args below meth c H locs 0 0 (MQ below (cQ (some (.int res)) (P τ)) args s 0 0 (fun q => lo ≤ q)) (F0 m 4 ls []) := by
  obtain ⟨⟨hx, hb, hml, hown, hts⟩, hr, hlocks, hK⟩ := id C0
  intro n
  induction n with
  | zero => intro τ x1 x2 H locs ls
            exact fun hf => nomatch hf
  | succ n ih =>
    intro τ x1 x2 H locs ls hf hP hL hl
    rw [f_X0_howManyDirty_b4] at hf
    refine lv_iload_n hx hb dX0_howManyDirty_4 rfl (lv_at hl 2 rfl) ?_
    refine lv_sipush (v := 200) hx hb dX0_howManyDirty_5 (by decide) ?_
    refine lv_icmp_ge (tgt := 30) hx hb dX0_howManyDirty_8 (by decide) (fun c1 => ?_) (fun c1 => ?_)
    · have hf := cx_t hf c1
      refine lv_iload_n hx hb dX0_howManyDirty_30 rfl (lv_at hl 1 rfl) ?_
      cases hf
      exact cx_iret hx hb hr hlocks hP hL dX0_howManyDirty_31
    · have hf := cx_f hf c1
      refine lv_aload_n hx hb dX0_howManyDirty_11 rfl (lv_at hl 0 rfl) ?_
      refine g_Blocks_3 hC hP hx hb hts hown hK mw_88 dX0_howManyDirty_12 ?_
      refine lv_iload_n hx hb dX0_howManyDirty_15 rfl (lv_at hl 2 rfl) ?_
      obtain ⟨hi2, hf⟩ := gdE hf
      refine ga_Blocks_3 hC hP hx hb hK hi2 dX0_howManyDirty_16 ?_
      refine lv_iconst (v := (-1)) hx hb dX0_howManyDirty_17 (by decide) ?_
      refine lv_icmp_eq (tgt := 24) hx hb dX0_howManyDirty_18 (by decide) (fun c3 => ?_) (fun c3 => ?_)
      · have hf := cx_t hf c3
        refine lv_iinc (v := (x2 + 1)) (lv' := [(2, .int (x2 + 1)), (0, .ref (ad 0)), (1, .int x1)]) hx hb dX0_howManyDirty_24 hl (k := 2) rfl rfl (by decide) rfl (fun ls hl => ?_)
        refine lv_goto (tgt := 4) hx hb dX0_howManyDirty_27 (by decide) ?_
        exact ih τ x1 (x2 + 1) _ _ _ hf hP hL (lv_sub hl [1, 2, 0] rfl)
      · have hf := cx_f hf c3
        refine lv_iinc (v := (x1 + 1)) (lv' := [(1, .int (x1 + 1)), (0, .ref (ad 0)), (2, .int x2)]) hx hb dX0_howManyDirty_21 hl (k := 1) rfl rfl (by decide) rfl (fun ls hl => ?_)
        refine lv_iinc (v := (x2 + 1)) (lv' := [(2, .int (x2 + 1)), (1, .int (x1 + 1)), (0, .ref (ad 0))]) hx hb dX0_howManyDirty_24 hl (k := 2) rfl rfl (by decide) rfl (fun ls hl => ?_)
        refine lv_goto (tgt := 4) hx hb dX0_howManyDirty_27 (by decide) ?_
        exact ih τ (x1 + 1) (x2 + 1) _ _ _ hf hP hL (lv_sub hl [2, 1, 0] rfl)
def f_X0_howManyDirty (N : Nat) (τ : ObjS) : Option (Int32) := f_X0_howManyDirty_b4 N N τ 0 0
set_option maxHeartbeats 4000000 in
set_option maxRecDepth 100000 in
theorem c_X0_howManyDirty {l : Launch} {G : va_G} {cA : Nat → ClassId} {lo : Nat} {ad : Nat → Nat} {P : ObjS → Heap → Prop} (hC : cx G lo 7 ad (ceBlocks cA ad) P) {N : Nat} {τ : ObjS} {res : Int32} (hf : f_X0_howManyDirty N τ = some res) : Met l yX0_howManyDirty (cW yX0_howManyDirty cX0_howManyDirty 3 (some .int)) rm_X0_howManyDirty (cP [.ref (ad 0)] (P τ) G cA) (cQ (some (.int res)) (P τ)) 0 0 (fun q => lo ≤ q) := by
  refine cx_met (by decide) (Nat.le_of_ble_eq_true rfl) (fun p e s m args below meth c ls C0 hP hl => ?_)
  have hl : lv_has ls 3 [(0, .ref (ad 0))] := hl
  obtain ⟨⟨hx, hb, hml, hown, hts⟩, hr, hlocks, hK⟩ := id C0
  have hL : ∀ q ∈ ([] : List Loc), lo ≤ q.base := fun q h => nomatch h
  unfold f_X0_howManyDirty at hf
  refine lv_iconst (v := 0) hx hb dX0_howManyDirty_0 (by decide) ?_
  refine lv_istore_n (lv' := [(1, .int 0), (0, .ref (ad 0))]) hx hb dX0_howManyDirty_1 rfl hl (by decide) rfl (fun ls hl => ?_)
  refine lv_iconst (v := 0) hx hb dX0_howManyDirty_2 (by decide) ?_
  refine lv_istore_n (lv' := [(2, .int 0), (1, .int 0), (0, .ref (ad 0))]) hx hb dX0_howManyDirty_3 rfl hl (by decide) rfl (fun ls hl => ?_)
  exact w_X0_howManyDirty_b4 C0 hC N τ 0 0 _ _ _ hf hP hL (lv_sub hl [2, 1, 0] rfl)
abbrev rm_X0_rankOf : Room := { frames := 1, cells := 0, slots := 0, locals := 21 }
theorem hd_X0_rankOf : yX0_rankOf.cls = RX0 ∧ yX0_rankOf.cls ≠ "java/lang/invoke/MethodHandle" ∧ yX0_rankOf.cls ≠ "java/lang/invoke/VarHandle" ∧ (parseMethodDescriptor yX0_rankOf.desc).map (fun d => d.parameters.length) = some 1 := by decide +kernel
def f_X0_rankOf_b14 (N : Nat) : Nat → ObjS → Int32 → Int32 → Int32 → Option (Int32)
  | 0, _, _, _, _ => none
  | n + 1, τ, x1, x2, x3 => if 200 ≤ x3 then some (-1) else if ((τ.2 6 + x3) - (τ.2 6 + x3) / 200 * 200) = x1 then some x2 else (f_X0_isDirty τ ((τ.2 6 + x3) - (τ.2 6 + x3) / 200 * 200)).bind fun r3 => if r3 = 0 then f_X0_rankOf_b14 N n τ x1 x2 (x3 + 1) else f_X0_rankOf_b14 N n τ x1 (x2 + 1) (x3 + 1)
set_option maxHeartbeats 4000000 in
set_option maxRecDepth 100000 in
theorem w_X0_rankOf_b14 {p : Program} {l : Launch} {e : Env} {s : State} {m : MethodId} {args : Array Value} {below : List Frame} {meth : Method} {c : Code} {G : va_G} {cA : Nat → ClassId} (C0 : cB p s m args meth c RX0 cX0_rankOf 5 (some .int) G cA) {lo : Nat} {ad : Nat → Nat} {P : ObjS → Heap → Prop} (hC : cx G lo 7 ad (ceBlocks cA ad) P) {N : Nat} {res : Int32} : ∀ (n : Nat) (τ : ObjS) (x1 : Int32) (x2 : Int32) (x3 : Int32) (H : Heap) (locs : List Loc) (ls : Array Slot), f_X0_rankOf_b14 N n τ x1 x2 x3 = some res → P τ H → (∀ q ∈ locs, lo ≤ q.base) → lv_has ls 5 [(0, .ref (ad 0)), (1, .int x1), (2, .int x2), (3, .int x3)] → W p l e rm_X0_rankOf s m args below meth c H locs 0 0 (MQ below (cQ (some (.int res)) (P τ)) args s 0 0 (fun q => lo ≤ q)) (F0 m 14 ls []) := by
  obtain ⟨⟨hx, hb, hml, hown, hts⟩, hr, hlocks, hK⟩ := id C0
  intro n
  induction n with
  | zero => intro τ x1 x2 x3 H locs ls
            exact fun hf => nomatch hf
  | succ n ih =>
    intro τ x1 x2 x3 H locs ls hf hP hL hl
    rw [f_X0_rankOf_b14] at hf
    refine lv_iload_n hx hb dX0_rankOf_14 rfl (lv_at hl 3 rfl) ?_
    refine lv_sipush (v := 200) hx hb dX0_rankOf_15 (by decide) ?_
    refine lv_icmp_ge (tgt := 59) hx hb dX0_rankOf_18 (by decide) (fun c1 => ?_) (fun c1 => ?_)
    · have hf := cx_t hf c1
      refine lv_iconst (v := (-1)) hx hb dX0_rankOf_59 (by decide) ?_
      cases hf
      exact cx_iret hx hb hr hlocks hP hL dX0_rankOf_60
    · have hf := cx_f hf c1
      refine lv_aload_n hx hb dX0_rankOf_21 rfl (lv_at hl 0 rfl) ?_
      refine g_Blocks_6 hC hP hx hb hts hown hK mw_181 dX0_rankOf_22 ?_
      refine lv_iload_n hx hb dX0_rankOf_25 rfl (lv_at hl 3 rfl) ?_
      refine lv_iadd hx hb dX0_rankOf_26 ?_
      refine lv_sipush (v := 200) hx hb dX0_rankOf_27 (by decide) ?_
      refine lv_irem hx hb dX0_rankOf_30 (by decide) ?_
      refine lv_istore (lv' := [(4, .int ((τ.2 6 + x3) - (τ.2 6 + x3) / 200 * 200)), (0, .ref (ad 0)), (1, .int x1), (2, .int x2), (3, .int x3)]) hx hb dX0_rankOf_31 hl (by decide) rfl (fun ls hl => ?_)
      refine lv_iload hx hb dX0_rankOf_33 (lv_at hl 0 rfl) ?_
      refine lv_iload_n hx hb dX0_rankOf_35 rfl (lv_at hl 2 rfl) ?_
      refine lv_icmp_ne (tgt := 41) hx hb dX0_rankOf_36 (by decide) (fun c2 => ?_) (fun c2 => ?_)
      · have hf := cx_f hf c2
        refine lv_aload_n hx hb dX0_rankOf_41 rfl (lv_at hl 1 rfl) ?_
        refine lv_iload hx hb dX0_rankOf_42 (lv_at hl 0 rfl) ?_
        obtain ⟨r3, q4, hf⟩ := cx_b hf
        refine cx_callV (As := [.int ((τ.2 6 + x3) - (τ.2 6 + x3) / 200 * 200)]) (rest := []) ⟨hx, hb, hml, hown, hts⟩ (c_X0_isDirty hC q4) (cwV 1 hts (gV mw_248 mw_249 mw_250 mw_58 mw_251) rfl rfl rfl hd_X0_isDirty ⟨Nat.le_of_ble_eq_true rfl, Nat.le_of_ble_eq_true rfl⟩) hK hP rfl (at_Blocks hC hP) rfl hl.1 rfl (Nat.le_of_ble_eq_true rfl) dX0_rankOf_44 ⟨Nat.zero_le _, Nat.zero_le _⟩ hL (fun H locs hP hL => ?_)
        replace hP : P τ H := by first | exact hP | (simpa only [va_up_id] using hP)
        refine lv_if_eq (tgt := 53) hx hb dX0_rankOf_47 (by decide) (fun c5 => ?_) (fun c5 => ?_)
        · have hf := cx_t hf c5
          refine lv_iinc (v := (x3 + 1)) (lv' := [(3, .int (x3 + 1)), (4, .int ((τ.2 6 + x3) - (τ.2 6 + x3) / 200 * 200)), (0, .ref (ad 0)), (1, .int x1), (2, .int x2)]) hx hb dX0_rankOf_53 hl (k := 4) rfl rfl (by decide) rfl (fun ls hl => ?_)
          refine lv_goto (tgt := 14) hx hb dX0_rankOf_56 (by decide) ?_
          exact ih τ x1 x2 (x3 + 1) _ _ _ hf hP hL (lv_sub hl [2, 3, 4, 0] rfl)
        · have hf := cx_f hf c5
          refine lv_iinc (v := (x2 + 1)) (lv' := [(2, .int (x2 + 1)), (4, .int ((τ.2 6 + x3) - (τ.2 6 + x3) / 200 * 200)), (0, .ref (ad 0)), (1, .int x1), (3, .int x3)]) hx hb dX0_rankOf_50 hl (k := 3) rfl rfl (by decide) rfl (fun ls hl => ?_)
          refine lv_iinc (v := (x3 + 1)) (lv' := [(3, .int (x3 + 1)), (2, .int (x2 + 1)), (4, .int ((τ.2 6 + x3) - (τ.2 6 + x3) / 200 * 200)), (0, .ref (ad 0)), (1, .int x1)]) hx hb dX0_rankOf_53 hl (k := 4) rfl rfl (by decide) rfl (fun ls hl => ?_)
          refine lv_goto (tgt := 14) hx hb dX0_rankOf_56 (by decide) ?_
          exact ih τ x1 (x2 + 1) (x3 + 1) _ _ _ hf hP hL (lv_sub hl [3, 4, 1, 0] rfl)
      · have hf := cx_t hf c2
        refine lv_iload_n hx hb dX0_rankOf_39 rfl (lv_at hl 3 rfl) ?_
        cases hf
        exact cx_iret hx hb hr hlocks hP hL dX0_rankOf_40
def f_X0_rankOf (N : Nat) (τ : ObjS) (p0 : Int32) : Option (Int32) := (f_X0_isDirty τ p0).bind fun r1 => if r1 = 0 then some (-1) else f_X0_rankOf_b14 N N τ p0 0 0
set_option maxHeartbeats 4000000 in
set_option maxRecDepth 100000 in
theorem c_X0_rankOf {l : Launch} {G : va_G} {cA : Nat → ClassId} {lo : Nat} {ad : Nat → Nat} {P : ObjS → Heap → Prop} (hC : cx G lo 7 ad (ceBlocks cA ad) P) {N : Nat} {τ : ObjS} {p0 : Int32} {res : Int32} (hf : f_X0_rankOf N τ p0 = some res) : Met l yX0_rankOf (cW yX0_rankOf cX0_rankOf 5 (some .int)) rm_X0_rankOf (cP [.ref (ad 0), .int p0] (P τ) G cA) (cQ (some (.int res)) (P τ)) 0 0 (fun q => lo ≤ q) := by
  refine cx_met (by decide) (Nat.le_of_ble_eq_true rfl) (fun p e s m args below meth c ls C0 hP hl => ?_)
  have hl : lv_has ls 5 [(0, .ref (ad 0)), (1, .int p0)] := hl
  obtain ⟨⟨hx, hb, hml, hown, hts⟩, hr, hlocks, hK⟩ := id C0
  have hL : ∀ q ∈ ([] : List Loc), lo ≤ q.base := fun q h => nomatch h
  unfold f_X0_rankOf at hf
  refine lv_aload_n hx hb dX0_rankOf_0 rfl (lv_at hl 0 rfl) ?_
  refine lv_iload_n hx hb dX0_rankOf_1 rfl (lv_at hl 1 rfl) ?_
  obtain ⟨r1, q2, hf⟩ := cx_b hf
  refine cx_callV (As := [.int p0]) (rest := []) ⟨hx, hb, hml, hown, hts⟩ (c_X0_isDirty hC q2) (cwV 1 hts (gV mw_248 mw_249 mw_250 mw_58 mw_251) rfl rfl rfl hd_X0_isDirty ⟨Nat.le_of_ble_eq_true rfl, Nat.le_of_ble_eq_true rfl⟩) hK hP rfl (at_Blocks hC hP) rfl hl.1 rfl (Nat.le_of_ble_eq_true rfl) dX0_rankOf_2 ⟨Nat.zero_le _, Nat.zero_le _⟩ hL (fun H locs hP hL => ?_)
  replace hP : P τ H := by first | exact hP | (simpa only [va_up_id] using hP)
  refine lv_if_ne (tgt := 10) hx hb dX0_rankOf_5 (by decide) (fun c3 => ?_) (fun c3 => ?_)
  · have hf := cx_f hf c3
    refine lv_iconst (v := 0) hx hb dX0_rankOf_10 (by decide) ?_
    refine lv_istore_n (lv' := [(2, .int 0), (0, .ref (ad 0)), (1, .int p0)]) hx hb dX0_rankOf_11 rfl hl (by decide) rfl (fun ls hl => ?_)
    refine lv_iconst (v := 0) hx hb dX0_rankOf_12 (by decide) ?_
    refine lv_istore_n (lv' := [(3, .int 0), (2, .int 0), (0, .ref (ad 0)), (1, .int p0)]) hx hb dX0_rankOf_13 rfl hl (by decide) rfl (fun ls hl => ?_)
    exact w_X0_rankOf_b14 C0 hC N τ p0 0 0 _ _ _ hf hP hL (lv_sub hl [2, 3, 1, 0] rfl)
  · have hf := cx_t hf c3
    refine lv_iconst (v := (-1)) hx hb dX0_rankOf_8 (by decide) ?_
    cases hf
    exact cx_iret hx hb hr hlocks hP hL dX0_rankOf_9
abbrev rm_X0_dirtyLongest : Room := { frames := 1, cells := 0, slots := 0, locals := 21 }
theorem hd_X0_dirtyLongest : yX0_dirtyLongest.cls = RX0 ∧ yX0_dirtyLongest.cls ≠ "java/lang/invoke/MethodHandle" ∧ yX0_dirtyLongest.cls ≠ "java/lang/invoke/VarHandle" ∧ (parseMethodDescriptor yX0_dirtyLongest.desc).map (fun d => d.parameters.length) = some 0 := by decide +kernel
def f_X0_dirtyLongest_b4 (N : Nat) : Nat → ObjS → Int32 → Int32 → Option (Int32)
  | 0, _, _, _ => none
  | n + 1, τ, x1, x2 => if 200 ≤ x2 then some x1 else gd x2 200 (if (τ.1 3 (Int32.toNatClampNeg x2)) = (-1) then f_X0_dirtyLongest_b4 N n τ x1 (x2 + 1) else if x1 = (-1) then f_X0_dirtyLongest_b4 N n τ x2 (x2 + 1) else gd x2 200 ((f_X0_sinceOf τ x1).bind fun r6 => if r6 ≤ (τ.1 3 (Int32.toNatClampNeg x2)) then f_X0_dirtyLongest_b4 N n τ x1 (x2 + 1) else f_X0_dirtyLongest_b4 N n τ x2 (x2 + 1)))
set_option maxHeartbeats 4000000 in
set_option maxRecDepth 100000 in
theorem w_X0_dirtyLongest_b4 {p : Program} {l : Launch} {e : Env} {s : State} {m : MethodId} {args : Array Value} {below : List Frame} {meth : Method} {c : Code} {G : va_G} {cA : Nat → ClassId} (C0 : cB p s m args meth c RX0 cX0_dirtyLongest 3 (some .int) G cA) {lo : Nat} {ad : Nat → Nat} {P : ObjS → Heap → Prop} (hC : cx G lo 7 ad (ceBlocks cA ad) P) {N : Nat} {res : Int32} : ∀ (n : Nat) (τ : ObjS) (x1 : Int32) (x2 : Int32) (H : Heap) (locs : List Loc) (ls : Array Slot), f_X0_dirtyLongest_b4 N n τ x1 x2 = some res → P τ H → (∀ q ∈ locs, lo ≤ q.base) → lv_has ls 3 [(0, .ref (ad 0)), (1, .int x1), (2, .int x2)] → W p l e rm_X0_dirtyLongest s m args below meth c H locs 0 0 (MQ below (cQ (some (.int res)) (P τ)) args s 0 0 (fun q => lo ≤ q)) (F0 m 4 ls []) := by
  obtain ⟨⟨hx, hb, hml, hown, hts⟩, hr, hlocks, hK⟩ := id C0
  intro n
  induction n with
  | zero => intro τ x1 x2 H locs ls
            exact fun hf => nomatch hf
  | succ n ih =>
    intro τ x1 x2 H locs ls hf hP hL hl
    rw [f_X0_dirtyLongest_b4] at hf
    refine lv_iload_n hx hb dX0_dirtyLongest_4 rfl (lv_at hl 2 rfl) ?_
    refine lv_sipush (v := 200) hx hb dX0_dirtyLongest_5 (by decide) ?_
    refine lv_icmp_ge (tgt := 48) hx hb dX0_dirtyLongest_8 (by decide) (fun c1 => ?_) (fun c1 => ?_)
    · have hf := cx_t hf c1
      refine lv_iload_n hx hb dX0_dirtyLongest_48 rfl (lv_at hl 1 rfl) ?_
      cases hf
      exact cx_iret hx hb hr hlocks hP hL dX0_dirtyLongest_49
    · have hf := cx_f hf c1
      refine lv_aload_n hx hb dX0_dirtyLongest_11 rfl (lv_at hl 0 rfl) ?_
      refine g_Blocks_3 hC hP hx hb hts hown hK mw_88 dX0_dirtyLongest_12 ?_
      refine lv_iload_n hx hb dX0_dirtyLongest_15 rfl (lv_at hl 2 rfl) ?_
      obtain ⟨hi2, hf⟩ := gdE hf
      refine ga_Blocks_3 hC hP hx hb hK hi2 dX0_dirtyLongest_16 ?_
      refine lv_iconst (v := (-1)) hx hb dX0_dirtyLongest_17 (by decide) ?_
      refine lv_icmp_eq (tgt := 42) hx hb dX0_dirtyLongest_18 (by decide) (fun c3 => ?_) (fun c3 => ?_)
      · have hf := cx_t hf c3
        refine lv_iinc (v := (x2 + 1)) (lv' := [(2, .int (x2 + 1)), (0, .ref (ad 0)), (1, .int x1)]) hx hb dX0_dirtyLongest_42 hl (k := 2) rfl rfl (by decide) rfl (fun ls hl => ?_)
        refine lv_goto (tgt := 4) hx hb dX0_dirtyLongest_45 (by decide) ?_
        exact ih τ x1 (x2 + 1) _ _ _ hf hP hL (lv_sub hl [1, 2, 0] rfl)
      · have hf := cx_f hf c3
        refine lv_iload_n hx hb dX0_dirtyLongest_21 rfl (lv_at hl 1 rfl) ?_
        refine lv_iconst (v := (-1)) hx hb dX0_dirtyLongest_22 (by decide) ?_
        refine lv_icmp_eq (tgt := 40) hx hb dX0_dirtyLongest_23 (by decide) (fun c4 => ?_) (fun c4 => ?_)
        · have hf := cx_t hf c4
          refine lv_iload_n hx hb dX0_dirtyLongest_40 rfl (lv_at hl 2 rfl) ?_
          refine lv_istore_n (lv' := [(1, .int x2), (0, .ref (ad 0)), (2, .int x2)]) hx hb dX0_dirtyLongest_41 rfl hl (by decide) rfl (fun ls hl => ?_)
          refine lv_iinc (v := (x2 + 1)) (lv' := [(2, .int (x2 + 1)), (1, .int x2), (0, .ref (ad 0))]) hx hb dX0_dirtyLongest_42 hl (k := 2) rfl rfl (by decide) rfl (fun ls hl => ?_)
          refine lv_goto (tgt := 4) hx hb dX0_dirtyLongest_45 (by decide) ?_
          exact ih τ x2 (x2 + 1) _ _ _ hf hP hL (lv_sub hl [2, 1, 0] rfl)
        · have hf := cx_f hf c4
          refine lv_aload_n hx hb dX0_dirtyLongest_26 rfl (lv_at hl 0 rfl) ?_
          refine g_Blocks_3 hC hP hx hb hts hown hK mw_88 dX0_dirtyLongest_27 ?_
          refine lv_iload_n hx hb dX0_dirtyLongest_30 rfl (lv_at hl 2 rfl) ?_
          obtain ⟨hi5, hf⟩ := gdE hf
          refine ga_Blocks_3 hC hP hx hb hK hi5 dX0_dirtyLongest_31 ?_
          refine lv_aload_n hx hb dX0_dirtyLongest_32 rfl (lv_at hl 0 rfl) ?_
          refine lv_iload_n hx hb dX0_dirtyLongest_33 rfl (lv_at hl 1 rfl) ?_
          obtain ⟨r6, q7, hf⟩ := cx_b hf
          refine cx_callV (As := [.int x1]) (rest := [.int (τ.1 3 (Int32.toNatClampNeg x2))]) ⟨hx, hb, hml, hown, hts⟩ (c_X0_sinceOf hC q7) (cwV 1 hts (gV mw_707 mw_381 mw_382 mw_58 mw_383) rfl rfl rfl hd_X0_sinceOf ⟨Nat.le_of_ble_eq_true rfl, Nat.le_of_ble_eq_true rfl⟩) hK hP rfl (at_Blocks hC hP) rfl hl.1 rfl (Nat.le_of_ble_eq_true rfl) dX0_dirtyLongest_34 ⟨Nat.zero_le _, Nat.zero_le _⟩ hL (fun H locs hP hL => ?_)
          replace hP : P τ H := by first | exact hP | (simpa only [va_up_id] using hP)
          refine lv_icmp_ge (tgt := 42) hx hb dX0_dirtyLongest_37 (by decide) (fun c8 => ?_) (fun c8 => ?_)
          · have hf := cx_t hf c8
            refine lv_iinc (v := (x2 + 1)) (lv' := [(2, .int (x2 + 1)), (0, .ref (ad 0)), (1, .int x1)]) hx hb dX0_dirtyLongest_42 hl (k := 2) rfl rfl (by decide) rfl (fun ls hl => ?_)
            refine lv_goto (tgt := 4) hx hb dX0_dirtyLongest_45 (by decide) ?_
            exact ih τ x1 (x2 + 1) _ _ _ hf hP hL (lv_sub hl [1, 2, 0] rfl)
          · have hf := cx_f hf c8
            refine lv_iload_n hx hb dX0_dirtyLongest_40 rfl (lv_at hl 2 rfl) ?_
            refine lv_istore_n (lv' := [(1, .int x2), (0, .ref (ad 0)), (2, .int x2)]) hx hb dX0_dirtyLongest_41 rfl hl (by decide) rfl (fun ls hl => ?_)
            refine lv_iinc (v := (x2 + 1)) (lv' := [(2, .int (x2 + 1)), (1, .int x2), (0, .ref (ad 0))]) hx hb dX0_dirtyLongest_42 hl (k := 2) rfl rfl (by decide) rfl (fun ls hl => ?_)
            refine lv_goto (tgt := 4) hx hb dX0_dirtyLongest_45 (by decide) ?_
            exact ih τ x2 (x2 + 1) _ _ _ hf hP hL (lv_sub hl [2, 1, 0] rfl)
def f_X0_dirtyLongest (N : Nat) (τ : ObjS) : Option (Int32) := f_X0_dirtyLongest_b4 N N τ (-1) 0
set_option maxHeartbeats 4000000 in
set_option maxRecDepth 100000 in
theorem c_X0_dirtyLongest {l : Launch} {G : va_G} {cA : Nat → ClassId} {lo : Nat} {ad : Nat → Nat} {P : ObjS → Heap → Prop} (hC : cx G lo 7 ad (ceBlocks cA ad) P) {N : Nat} {τ : ObjS} {res : Int32} (hf : f_X0_dirtyLongest N τ = some res) : Met l yX0_dirtyLongest (cW yX0_dirtyLongest cX0_dirtyLongest 3 (some .int)) rm_X0_dirtyLongest (cP [.ref (ad 0)] (P τ) G cA) (cQ (some (.int res)) (P τ)) 0 0 (fun q => lo ≤ q) := by
  refine cx_met (by decide) (Nat.le_of_ble_eq_true rfl) (fun p e s m args below meth c ls C0 hP hl => ?_)
  have hl : lv_has ls 3 [(0, .ref (ad 0))] := hl
  obtain ⟨⟨hx, hb, hml, hown, hts⟩, hr, hlocks, hK⟩ := id C0
  have hL : ∀ q ∈ ([] : List Loc), lo ≤ q.base := fun q h => nomatch h
  unfold f_X0_dirtyLongest at hf
  refine lv_iconst (v := (-1)) hx hb dX0_dirtyLongest_0 (by decide) ?_
  refine lv_istore_n (lv' := [(1, .int (-1)), (0, .ref (ad 0))]) hx hb dX0_dirtyLongest_1 rfl hl (by decide) rfl (fun ls hl => ?_)
  refine lv_iconst (v := 0) hx hb dX0_dirtyLongest_2 (by decide) ?_
  refine lv_istore_n (lv' := [(2, .int 0), (1, .int (-1)), (0, .ref (ad 0))]) hx hb dX0_dirtyLongest_3 rfl hl (by decide) rfl (fun ls hl => ?_)
  exact w_X0_dirtyLongest_b4 C0 hC N τ (-1) 0 _ _ _ hf hP hL (lv_sub hl [2, 1, 0] rfl)
abbrev rm_X0_howManyDirtySince : Room := { frames := 0, cells := 0, slots := 0, locals := 0 }
theorem hd_X0_howManyDirtySince : yX0_howManyDirtySince.cls = RX0 ∧ yX0_howManyDirtySince.cls ≠ "java/lang/invoke/MethodHandle" ∧ yX0_howManyDirtySince.cls ≠ "java/lang/invoke/VarHandle" ∧ (parseMethodDescriptor yX0_howManyDirtySince.desc).map (fun d => d.parameters.length) = some 1 := by decide +kernel
def f_X0_howManyDirtySince_b4 (N : Nat) : Nat → ObjS → Int32 → Int32 → Int32 → Option (Int32)
  | 0, _, _, _, _ => none
  | n + 1, τ, x1, x2, x3 => if 200 ≤ x3 then some x2 else gd x3 200 (if (τ.1 3 (Int32.toNatClampNeg x3)) = (-1) then f_X0_howManyDirtySince_b4 N n τ x1 x2 (x3 + 1) else gd x3 200 (if x1 < (τ.1 3 (Int32.toNatClampNeg x3)) then f_X0_howManyDirtySince_b4 N n τ x1 x2 (x3 + 1) else f_X0_howManyDirtySince_b4 N n τ x1 (x2 + 1) (x3 + 1)))
set_option maxHeartbeats 4000000 in
set_option maxRecDepth 100000 in
theorem w_X0_howManyDirtySince_b4 {p : Program} {l : Launch} {e : Env} {s : State} {m : MethodId} {args : Array Value} {below : List Frame} {meth : Method} {c : Code} {G : va_G} {cA : Nat → ClassId} (C0 : cB p s m args meth c RX0 cX0_howManyDirtySince 4 (some .int) G cA) {lo : Nat} {ad : Nat → Nat} {P : ObjS → Heap → Prop} (hC : cx G lo 7 ad (ceBlocks cA ad) P) {N : Nat} {res : Int32} : ∀ (n : Nat) (τ : ObjS) (x1 : Int32) (x2 : Int32) (x3 : Int32) (H : Heap) (locs : List Loc) (ls : Array Slot), f_X0_howManyDirtySince_b4 N n τ x1 x2 x3 = some res → P τ H → (∀ q ∈ locs, lo ≤ q.base) → lv_has ls 4 [(0, .ref (ad 0)), (1, .int x1), (2, .int x2), (3, .int x3)] → W p l e rm_X0_howManyDirtySince s m args below meth c H locs 0 0 (MQ below (cQ (some (.int res)) (P τ)) args s 0 0 (fun q => lo ≤ q)) (F0 m 4 ls []) := by
  obtain ⟨⟨hx, hb, hml, hown, hts⟩, hr, hlocks, hK⟩ := id C0
  intro n
  induction n with
  | zero => intro τ x1 x2 x3 H locs ls
            exact fun hf => nomatch hf
  | succ n ih =>
    intro τ x1 x2 x3 H locs ls hf hP hL hl
    rw [f_X0_howManyDirtySince_b4] at hf
    refine lv_iload_n hx hb dX0_howManyDirtySince_4 rfl (lv_at hl 3 rfl) ?_
    refine lv_sipush (v := 200) hx hb dX0_howManyDirtySince_5 (by decide) ?_
    refine lv_icmp_ge (tgt := 40) hx hb dX0_howManyDirtySince_8 (by decide) (fun c1 => ?_) (fun c1 => ?_)
    · have hf := cx_t hf c1
      refine lv_iload_n hx hb dX0_howManyDirtySince_40 rfl (lv_at hl 2 rfl) ?_
      cases hf
      exact cx_iret hx hb hr hlocks hP hL dX0_howManyDirtySince_41
    · have hf := cx_f hf c1
      refine lv_aload_n hx hb dX0_howManyDirtySince_11 rfl (lv_at hl 0 rfl) ?_
      refine g_Blocks_3 hC hP hx hb hts hown hK mw_88 dX0_howManyDirtySince_12 ?_
      refine lv_iload_n hx hb dX0_howManyDirtySince_15 rfl (lv_at hl 3 rfl) ?_
      obtain ⟨hi2, hf⟩ := gdE hf
      refine ga_Blocks_3 hC hP hx hb hK hi2 dX0_howManyDirtySince_16 ?_
      refine lv_iconst (v := (-1)) hx hb dX0_howManyDirtySince_17 (by decide) ?_
      refine lv_icmp_eq (tgt := 34) hx hb dX0_howManyDirtySince_18 (by decide) (fun c3 => ?_) (fun c3 => ?_)
      · have hf := cx_t hf c3
        refine lv_iinc (v := (x3 + 1)) (lv' := [(3, .int (x3 + 1)), (0, .ref (ad 0)), (1, .int x1), (2, .int x2)]) hx hb dX0_howManyDirtySince_34 hl (k := 3) rfl rfl (by decide) rfl (fun ls hl => ?_)
        refine lv_goto (tgt := 4) hx hb dX0_howManyDirtySince_37 (by decide) ?_
        exact ih τ x1 x2 (x3 + 1) _ _ _ hf hP hL (lv_sub hl [1, 2, 3, 0] rfl)
      · have hf := cx_f hf c3
        refine lv_aload_n hx hb dX0_howManyDirtySince_21 rfl (lv_at hl 0 rfl) ?_
        refine g_Blocks_3 hC hP hx hb hts hown hK mw_88 dX0_howManyDirtySince_22 ?_
        refine lv_iload_n hx hb dX0_howManyDirtySince_25 rfl (lv_at hl 3 rfl) ?_
        obtain ⟨hi4, hf⟩ := gdE hf
        refine ga_Blocks_3 hC hP hx hb hK hi4 dX0_howManyDirtySince_26 ?_
        refine lv_iload_n hx hb dX0_howManyDirtySince_27 rfl (lv_at hl 1 rfl) ?_
        refine lv_icmp_gt (tgt := 34) hx hb dX0_howManyDirtySince_28 (by decide) (fun c5 => ?_) (fun c5 => ?_)
        · have hf := cx_t hf c5
          refine lv_iinc (v := (x3 + 1)) (lv' := [(3, .int (x3 + 1)), (0, .ref (ad 0)), (1, .int x1), (2, .int x2)]) hx hb dX0_howManyDirtySince_34 hl (k := 3) rfl rfl (by decide) rfl (fun ls hl => ?_)
          refine lv_goto (tgt := 4) hx hb dX0_howManyDirtySince_37 (by decide) ?_
          exact ih τ x1 x2 (x3 + 1) _ _ _ hf hP hL (lv_sub hl [1, 2, 3, 0] rfl)
        · have hf := cx_f hf c5
          refine lv_iinc (v := (x2 + 1)) (lv' := [(2, .int (x2 + 1)), (0, .ref (ad 0)), (1, .int x1), (3, .int x3)]) hx hb dX0_howManyDirtySince_31 hl (k := 2) rfl rfl (by decide) rfl (fun ls hl => ?_)
          refine lv_iinc (v := (x3 + 1)) (lv' := [(3, .int (x3 + 1)), (2, .int (x2 + 1)), (0, .ref (ad 0)), (1, .int x1)]) hx hb dX0_howManyDirtySince_34 hl (k := 3) rfl rfl (by decide) rfl (fun ls hl => ?_)
          refine lv_goto (tgt := 4) hx hb dX0_howManyDirtySince_37 (by decide) ?_
          exact ih τ x1 (x2 + 1) (x3 + 1) _ _ _ hf hP hL (lv_sub hl [2, 3, 1, 0] rfl)
def f_X0_howManyDirtySince (N : Nat) (τ : ObjS) (p0 : Int32) : Option (Int32) := f_X0_howManyDirtySince_b4 N N τ p0 0 0
set_option maxHeartbeats 4000000 in
set_option maxRecDepth 100000 in
theorem c_X0_howManyDirtySince {l : Launch} {G : va_G} {cA : Nat → ClassId} {lo : Nat} {ad : Nat → Nat} {P : ObjS → Heap → Prop} (hC : cx G lo 7 ad (ceBlocks cA ad) P) {N : Nat} {τ : ObjS} {p0 : Int32} {res : Int32} (hf : f_X0_howManyDirtySince N τ p0 = some res) : Met l yX0_howManyDirtySince (cW yX0_howManyDirtySince cX0_howManyDirtySince 4 (some .int)) rm_X0_howManyDirtySince (cP [.ref (ad 0), .int p0] (P τ) G cA) (cQ (some (.int res)) (P τ)) 0 0 (fun q => lo ≤ q) := by
  refine cx_met (by decide) (Nat.le_of_ble_eq_true rfl) (fun p e s m args below meth c ls C0 hP hl => ?_)
  have hl : lv_has ls 4 [(0, .ref (ad 0)), (1, .int p0)] := hl
  obtain ⟨⟨hx, hb, hml, hown, hts⟩, hr, hlocks, hK⟩ := id C0
  have hL : ∀ q ∈ ([] : List Loc), lo ≤ q.base := fun q h => nomatch h
  unfold f_X0_howManyDirtySince at hf
  refine lv_iconst (v := 0) hx hb dX0_howManyDirtySince_0 (by decide) ?_
  refine lv_istore_n (lv' := [(2, .int 0), (0, .ref (ad 0)), (1, .int p0)]) hx hb dX0_howManyDirtySince_1 rfl hl (by decide) rfl (fun ls hl => ?_)
  refine lv_iconst (v := 0) hx hb dX0_howManyDirtySince_2 (by decide) ?_
  refine lv_istore_n (lv' := [(3, .int 0), (2, .int 0), (0, .ref (ad 0)), (1, .int p0)]) hx hb dX0_howManyDirtySince_3 rfl hl (by decide) rfl (fun ls hl => ?_)
  exact w_X0_howManyDirtySince_b4 C0 hC N τ p0 0 0 _ _ _ hf hP hL (lv_sub hl [2, 3, 1, 0] rfl)
abbrev rm_X0_howManyDiffer : Room := { frames := 0, cells := 0, slots := 0, locals := 0 }
theorem hd_X0_howManyDiffer : yX0_howManyDiffer.cls = RX0 ∧ yX0_howManyDiffer.cls ≠ "java/lang/invoke/MethodHandle" ∧ yX0_howManyDiffer.cls ≠ "java/lang/invoke/VarHandle" ∧ (parseMethodDescriptor yX0_howManyDiffer.desc).map (fun d => d.parameters.length) = some 0 := by decide +kernel
def f_X0_howManyDiffer_b4 (N : Nat) : Nat → ObjS → Int32 → Int32 → Option (Int32)
  | 0, _, _, _ => none
  | n + 1, τ, x1, x2 => if 200 ≤ x2 then some x1 else gd x2 200 (if (τ.1 4 (Int32.toNatClampNeg x2)) = (-1) then f_X0_howManyDiffer_b4 N n τ x1 (x2 + 1) else gd x2 200 (gd x2 200 (if (τ.1 1 (Int32.toNatClampNeg x2)) = (τ.1 0 (Int32.toNatClampNeg x2)) then f_X0_howManyDiffer_b4 N n τ x1 (x2 + 1) else f_X0_howManyDiffer_b4 N n τ (x1 + 1) (x2 + 1))))
set_option maxHeartbeats 4000000 in
set_option maxRecDepth 100000 in
theorem w_X0_howManyDiffer_b4 {p : Program} {l : Launch} {e : Env} {s : State} {m : MethodId} {args : Array Value} {below : List Frame} {meth : Method} {c : Code} {G : va_G} {cA : Nat → ClassId} (C0 : cB p s m args meth c RX0 cX0_howManyDiffer 3 (some .int) G cA) {lo : Nat} {ad : Nat → Nat} {P : ObjS → Heap → Prop} (hC : cx G lo 7 ad (ceBlocks cA ad) P) {N : Nat} {res : Int32} : ∀ (n : Nat) (τ : ObjS) (x1 : Int32) (x2 : Int32) (H : Heap) (locs : List Loc) (ls : Array Slot), f_X0_howManyDiffer_b4 N n τ x1 x2 = some res → P τ H → (∀ q ∈ locs, lo ≤ q.base) → lv_has ls 3 [(0, .ref (ad 0)), (1, .int x1), (2, .int x2)] → W p l e rm_X0_howManyDiffer s m args below meth c H locs 0 0 (MQ below (cQ (some (.int res)) (P τ)) args s 0 0 (fun q => lo ≤ q)) (F0 m 4 ls []) := by
  obtain ⟨⟨hx, hb, hml, hown, hts⟩, hr, hlocks, hK⟩ := id C0
  intro n
  induction n with
  | zero => intro τ x1 x2 H locs ls
            exact fun hf => nomatch hf
  | succ n ih =>
    intro τ x1 x2 H locs ls hf hP hL hl
    rw [f_X0_howManyDiffer_b4] at hf
    refine lv_iload_n hx hb dX0_howManyDiffer_4 rfl (lv_at hl 2 rfl) ?_
    refine lv_sipush (v := 200) hx hb dX0_howManyDiffer_5 (by decide) ?_
    refine lv_icmp_ge (tgt := 45) hx hb dX0_howManyDiffer_8 (by decide) (fun c1 => ?_) (fun c1 => ?_)
    · have hf := cx_t hf c1
      refine lv_iload_n hx hb dX0_howManyDiffer_45 rfl (lv_at hl 1 rfl) ?_
      cases hf
      exact cx_iret hx hb hr hlocks hP hL dX0_howManyDiffer_46
    · have hf := cx_f hf c1
      refine lv_aload_n hx hb dX0_howManyDiffer_11 rfl (lv_at hl 0 rfl) ?_
      refine g_Blocks_4 hC hP hx hb hts hown hK mw_89 dX0_howManyDiffer_12 ?_
      refine lv_iload_n hx hb dX0_howManyDiffer_15 rfl (lv_at hl 2 rfl) ?_
      obtain ⟨hi2, hf⟩ := gdE hf
      refine ga_Blocks_4 hC hP hx hb hK hi2 dX0_howManyDiffer_16 ?_
      refine lv_iconst (v := (-1)) hx hb dX0_howManyDiffer_17 (by decide) ?_
      refine lv_icmp_eq (tgt := 39) hx hb dX0_howManyDiffer_18 (by decide) (fun c3 => ?_) (fun c3 => ?_)
      · have hf := cx_t hf c3
        refine lv_iinc (v := (x2 + 1)) (lv' := [(2, .int (x2 + 1)), (0, .ref (ad 0)), (1, .int x1)]) hx hb dX0_howManyDiffer_39 hl (k := 2) rfl rfl (by decide) rfl (fun ls hl => ?_)
        refine lv_goto (tgt := 4) hx hb dX0_howManyDiffer_42 (by decide) ?_
        exact ih τ x1 (x2 + 1) _ _ _ hf hP hL (lv_sub hl [1, 2, 0] rfl)
      · have hf := cx_f hf c3
        refine lv_aload_n hx hb dX0_howManyDiffer_21 rfl (lv_at hl 0 rfl) ?_
        refine g_Blocks_1 hC hP hx hb hts hown hK mw_86 dX0_howManyDiffer_22 ?_
        refine lv_iload_n hx hb dX0_howManyDiffer_25 rfl (lv_at hl 2 rfl) ?_
        obtain ⟨hi4, hf⟩ := gdE hf
        refine ga_Blocks_1 hC hP hx hb hK hi4 dX0_howManyDiffer_26 ?_
        refine lv_aload_n hx hb dX0_howManyDiffer_27 rfl (lv_at hl 0 rfl) ?_
        refine g_Blocks_0 hC hP hx hb hts hown hK mw_85 dX0_howManyDiffer_28 ?_
        refine lv_iload_n hx hb dX0_howManyDiffer_31 rfl (lv_at hl 2 rfl) ?_
        obtain ⟨hi5, hf⟩ := gdE hf
        refine ga_Blocks_0 hC hP hx hb hK hi5 dX0_howManyDiffer_32 ?_
        refine lv_icmp_eq (tgt := 39) hx hb dX0_howManyDiffer_33 (by decide) (fun c6 => ?_) (fun c6 => ?_)
        · have hf := cx_t hf c6
          refine lv_iinc (v := (x2 + 1)) (lv' := [(2, .int (x2 + 1)), (0, .ref (ad 0)), (1, .int x1)]) hx hb dX0_howManyDiffer_39 hl (k := 2) rfl rfl (by decide) rfl (fun ls hl => ?_)
          refine lv_goto (tgt := 4) hx hb dX0_howManyDiffer_42 (by decide) ?_
          exact ih τ x1 (x2 + 1) _ _ _ hf hP hL (lv_sub hl [1, 2, 0] rfl)
        · have hf := cx_f hf c6
          refine lv_iinc (v := (x1 + 1)) (lv' := [(1, .int (x1 + 1)), (0, .ref (ad 0)), (2, .int x2)]) hx hb dX0_howManyDiffer_36 hl (k := 1) rfl rfl (by decide) rfl (fun ls hl => ?_)
          refine lv_iinc (v := (x2 + 1)) (lv' := [(2, .int (x2 + 1)), (1, .int (x1 + 1)), (0, .ref (ad 0))]) hx hb dX0_howManyDiffer_39 hl (k := 2) rfl rfl (by decide) rfl (fun ls hl => ?_)
          refine lv_goto (tgt := 4) hx hb dX0_howManyDiffer_42 (by decide) ?_
          exact ih τ (x1 + 1) (x2 + 1) _ _ _ hf hP hL (lv_sub hl [2, 1, 0] rfl)
def f_X0_howManyDiffer (N : Nat) (τ : ObjS) : Option (Int32) := f_X0_howManyDiffer_b4 N N τ 0 0
set_option maxHeartbeats 4000000 in
set_option maxRecDepth 100000 in
theorem c_X0_howManyDiffer {l : Launch} {G : va_G} {cA : Nat → ClassId} {lo : Nat} {ad : Nat → Nat} {P : ObjS → Heap → Prop} (hC : cx G lo 7 ad (ceBlocks cA ad) P) {N : Nat} {τ : ObjS} {res : Int32} (hf : f_X0_howManyDiffer N τ = some res) : Met l yX0_howManyDiffer (cW yX0_howManyDiffer cX0_howManyDiffer 3 (some .int)) rm_X0_howManyDiffer (cP [.ref (ad 0)] (P τ) G cA) (cQ (some (.int res)) (P τ)) 0 0 (fun q => lo ≤ q) := by
  refine cx_met (by decide) (Nat.le_of_ble_eq_true rfl) (fun p e s m args below meth c ls C0 hP hl => ?_)
  have hl : lv_has ls 3 [(0, .ref (ad 0))] := hl
  obtain ⟨⟨hx, hb, hml, hown, hts⟩, hr, hlocks, hK⟩ := id C0
  have hL : ∀ q ∈ ([] : List Loc), lo ≤ q.base := fun q h => nomatch h
  unfold f_X0_howManyDiffer at hf
  refine lv_iconst (v := 0) hx hb dX0_howManyDiffer_0 (by decide) ?_
  refine lv_istore_n (lv' := [(1, .int 0), (0, .ref (ad 0))]) hx hb dX0_howManyDiffer_1 rfl hl (by decide) rfl (fun ls hl => ?_)
  refine lv_iconst (v := 0) hx hb dX0_howManyDiffer_2 (by decide) ?_
  refine lv_istore_n (lv' := [(2, .int 0), (1, .int 0), (0, .ref (ad 0))]) hx hb dX0_howManyDiffer_3 rfl hl (by decide) rfl (fun ls hl => ?_)
  exact w_X0_howManyDiffer_b4 C0 hC N τ 0 0 _ _ _ hf hP hL (lv_sub hl [2, 1, 0] rfl)
abbrev rm_X0_longestChain : Room := { frames := 1, cells := 0, slots := 0, locals := 21 }
theorem hd_X0_longestChain : yX0_longestChain.cls = RX0 ∧ yX0_longestChain.cls ≠ "java/lang/invoke/MethodHandle" ∧ yX0_longestChain.cls ≠ "java/lang/invoke/VarHandle" ∧ (parseMethodDescriptor yX0_longestChain.desc).map (fun d => d.parameters.length) = some 1 := by decide +kernel
def f_X0_longestChain_b42 (N : Nat) (k7 : ObjS → Int32 → Int32 → Int32 → Int32 → Option (Int32)) (τ : ObjS) (x1 : Int32) (x2 : Int32) (x3 : Int32) (x4 : Int32) (y0 : Int32) : Option (Int32) := if y0 = 0 then k7 τ x1 (if x2 < 0 then 0 else x2) 0 (x4 + 1) else k7 τ x1 (if x2 < (x3 + 1) then (x3 + 1) else x2) (x3 + 1) (x4 + 1)
set_option maxHeartbeats 4000000 in
set_option maxRecDepth 100000 in
theorem w_X0_longestChain_b42 {p : Program} {l : Launch} {e : Env} {s : State} {m : MethodId} {args : Array Value} {below : List Frame} {meth : Method} {c : Code} {G : va_G} {cA : Nat → ClassId} (C0 : cB p s m args meth c RX0 cX0_longestChain 6 (some .int) G cA) {lo : Nat} {ad : Nat → Nat} {P : ObjS → Heap → Prop} (hC : cx G lo 7 ad (ceBlocks cA ad) P) {N : Nat} {res : Int32} {k7 : ObjS → Int32 → Int32 → Int32 → Int32 → Option (Int32)} (hk7 : ∀ (τ : ObjS) (x1 : Int32) (x2 : Int32) (x3 : Int32) (x4 : Int32) (H : Heap) (locs : List Loc) (ls : Array Slot), k7 τ x1 x2 x3 x4 = some res → P τ H → (∀ q ∈ locs, lo ≤ q.base) → lv_has ls 6 [(0, .ref (ad 0)), (1, .int x1), (2, .int x2), (3, .int x3), (4, .int x4)] → W p l e rm_X0_longestChain s m args below meth c H locs 0 0 (MQ below (cQ (some (.int res)) (P τ)) args s 0 0 (fun q => lo ≤ q)) (F0 m 7 ls [])) : ∀ (τ : ObjS) (x1 : Int32) (x2 : Int32) (x3 : Int32) (x4 : Int32) (y0 : Int32) (H : Heap) (locs : List Loc) (ls : Array Slot), f_X0_longestChain_b42 N k7 τ x1 x2 x3 x4 y0 = some res → P τ H → (∀ q ∈ locs, lo ≤ q.base) → lv_has ls 6 [(0, .ref (ad 0)), (1, .int x1), (2, .int x2), (3, .int x3), (4, .int x4)] → W p l e rm_X0_longestChain s m args below meth c H locs 0 0 (MQ below (cQ (some (.int res)) (P τ)) args s 0 0 (fun q => lo ≤ q)) (F0 m 42 ls [.int y0]) := by
  obtain ⟨⟨hx, hb, hml, hown, hts⟩, hr, hlocks, hK⟩ := id C0
  intro τ x1 x2 x3 x4 y0 H locs ls hf hP hL hl
  unfold f_X0_longestChain_b42 at hf
  refine lv_istore (lv' := [(5, .int y0), (0, .ref (ad 0)), (1, .int x1), (2, .int x2), (3, .int x3), (4, .int x4)]) hx hb dX0_longestChain_42 hl (by decide) rfl (fun ls hl => ?_)
  refine lv_iload hx hb dX0_longestChain_44 (lv_at hl 0 rfl) ?_
  refine lv_if_eq (tgt := 55) hx hb dX0_longestChain_46 (by decide) (fun c1 => ?_) (fun c1 => ?_)
  · have hf := cx_t hf c1
    refine lv_iconst (v := 0) hx hb dX0_longestChain_55 (by decide) ?_
    refine lv_istore_n (lv' := [(3, .int 0), (5, .int y0), (0, .ref (ad 0)), (1, .int x1), (2, .int x2), (4, .int x4)]) hx hb dX0_longestChain_56 rfl hl (by decide) rfl (fun ls hl => ?_)
    refine lv_iload_n hx hb dX0_longestChain_57 rfl (lv_at hl 4 rfl) ?_
    refine lv_iload_n hx hb dX0_longestChain_58 rfl (lv_at hl 0 rfl) ?_
    refine va_mmax hx hb (hml.trans hl.1.symm) hown (hts _ mw_633) (hts _ mw_130) (hts _ mw_131) (hts _ mw_132) (Nat.le_of_ble_eq_true rfl) (Nat.le_of_ble_eq_true rfl) (Nat.zero_le _) (Nat.zero_le _) dX0_longestChain_59 ?_
    refine lv_istore_n (lv' := [(2, .int (if x2 < 0 then 0 else x2)), (3, .int 0), (5, .int y0), (0, .ref (ad 0)), (1, .int x1), (4, .int x4)]) hx hb dX0_longestChain_62 rfl hl (by decide) rfl (fun ls hl => ?_)
    refine lv_iinc (v := (x4 + 1)) (lv' := [(4, .int (x4 + 1)), (2, .int (if x2 < 0 then 0 else x2)), (3, .int 0), (5, .int y0), (0, .ref (ad 0)), (1, .int x1)]) hx hb dX0_longestChain_63 hl (k := 5) rfl rfl (by decide) rfl (fun ls hl => ?_)
    refine lv_goto (tgt := 7) hx hb dX0_longestChain_66 (by decide) ?_
    exact hk7 τ x1 (if x2 < 0 then 0 else x2) 0 (x4 + 1) _ _ _ hf hP hL (lv_sub hl [4, 5, 1, 2, 0] rfl)
  · have hf := cx_f hf c1
    refine lv_iload_n hx hb dX0_longestChain_49 rfl (lv_at hl 4 rfl) ?_
    refine lv_iconst (v := 1) hx hb dX0_longestChain_50 (by decide) ?_
    refine lv_iadd hx hb dX0_longestChain_51 ?_
    refine lv_goto (tgt := 56) hx hb dX0_longestChain_52 (by decide) ?_
    refine lv_istore_n (lv' := [(3, .int (x3 + 1)), (5, .int y0), (0, .ref (ad 0)), (1, .int x1), (2, .int x2), (4, .int x4)]) hx hb dX0_longestChain_56 rfl hl (by decide) rfl (fun ls hl => ?_)
    refine lv_iload_n hx hb dX0_longestChain_57 rfl (lv_at hl 4 rfl) ?_
    refine lv_iload_n hx hb dX0_longestChain_58 rfl (lv_at hl 0 rfl) ?_
    refine va_mmax hx hb (hml.trans hl.1.symm) hown (hts _ mw_633) (hts _ mw_130) (hts _ mw_131) (hts _ mw_132) (Nat.le_of_ble_eq_true rfl) (Nat.le_of_ble_eq_true rfl) (Nat.zero_le _) (Nat.zero_le _) dX0_longestChain_59 ?_
    refine lv_istore_n (lv' := [(2, .int (if x2 < (x3 + 1) then (x3 + 1) else x2)), (3, .int (x3 + 1)), (5, .int y0), (0, .ref (ad 0)), (1, .int x1), (4, .int x4)]) hx hb dX0_longestChain_62 rfl hl (by decide) rfl (fun ls hl => ?_)
    refine lv_iinc (v := (x4 + 1)) (lv' := [(4, .int (x4 + 1)), (2, .int (if x2 < (x3 + 1) then (x3 + 1) else x2)), (3, .int (x3 + 1)), (5, .int y0), (0, .ref (ad 0)), (1, .int x1)]) hx hb dX0_longestChain_63 hl (k := 5) rfl rfl (by decide) rfl (fun ls hl => ?_)
    refine lv_goto (tgt := 7) hx hb dX0_longestChain_66 (by decide) ?_
    exact hk7 τ x1 (if x2 < (x3 + 1) then (x3 + 1) else x2) (x3 + 1) (x4 + 1) _ _ _ hf hP hL (lv_sub hl [4, 5, 1, 2, 0] rfl)
def f_X0_longestChain_b7 (N : Nat) : Nat → ObjS → Int32 → Int32 → Int32 → Int32 → Option (Int32)
  | 0, _, _, _, _, _ => none
  | n + 1, τ, x1, x2, x3, x4 => if 200 ≤ x4 then some x2 else gd x4 200 (if (τ.1 4 (Int32.toNatClampNeg x4)) = x1 then f_X0_longestChain_b42 N (f_X0_longestChain_b7 N n) τ x1 x2 x3 x4 1 else gd x4 200 (if (τ.1 5 (Int32.toNatClampNeg x4)) = x1 then f_X0_longestChain_b42 N (f_X0_longestChain_b7 N n) τ x1 x2 x3 x4 1 else f_X0_longestChain_b42 N (f_X0_longestChain_b7 N n) τ x1 x2 x3 x4 0))
set_option maxHeartbeats 4000000 in
set_option maxRecDepth 100000 in
theorem w_X0_longestChain_b7 {p : Program} {l : Launch} {e : Env} {s : State} {m : MethodId} {args : Array Value} {below : List Frame} {meth : Method} {c : Code} {G : va_G} {cA : Nat → ClassId} (C0 : cB p s m args meth c RX0 cX0_longestChain 6 (some .int) G cA) {lo : Nat} {ad : Nat → Nat} {P : ObjS → Heap → Prop} (hC : cx G lo 7 ad (ceBlocks cA ad) P) {N : Nat} {res : Int32} : ∀ (n : Nat) (τ : ObjS) (x1 : Int32) (x2 : Int32) (x3 : Int32) (x4 : Int32) (H : Heap) (locs : List Loc) (ls : Array Slot), f_X0_longestChain_b7 N n τ x1 x2 x3 x4 = some res → P τ H → (∀ q ∈ locs, lo ≤ q.base) → lv_has ls 6 [(0, .ref (ad 0)), (1, .int x1), (2, .int x2), (3, .int x3), (4, .int x4)] → W p l e rm_X0_longestChain s m args below meth c H locs 0 0 (MQ below (cQ (some (.int res)) (P τ)) args s 0 0 (fun q => lo ≤ q)) (F0 m 7 ls []) := by
  obtain ⟨⟨hx, hb, hml, hown, hts⟩, hr, hlocks, hK⟩ := id C0
  intro n
  induction n with
  | zero => intro τ x1 x2 x3 x4 H locs ls
            exact fun hf => nomatch hf
  | succ n ih =>
    intro τ x1 x2 x3 x4 H locs ls hf hP hL hl
    rw [f_X0_longestChain_b7] at hf
    refine lv_iload hx hb dX0_longestChain_7 (lv_at hl 4 rfl) ?_
    refine lv_sipush (v := 200) hx hb dX0_longestChain_9 (by decide) ?_
    refine lv_icmp_ge (tgt := 69) hx hb dX0_longestChain_12 (by decide) (fun c1 => ?_) (fun c1 => ?_)
    · have hf := cx_t hf c1
      refine lv_iload_n hx hb dX0_longestChain_69 rfl (lv_at hl 2 rfl) ?_
      cases hf
      exact cx_iret hx hb hr hlocks hP hL dX0_longestChain_70
    · have hf := cx_f hf c1
      refine lv_aload_n hx hb dX0_longestChain_15 rfl (lv_at hl 0 rfl) ?_
      refine g_Blocks_4 hC hP hx hb hts hown hK mw_89 dX0_longestChain_16 ?_
      refine lv_iload hx hb dX0_longestChain_19 (lv_at hl 4 rfl) ?_
      obtain ⟨hi2, hf⟩ := gdE hf
      refine ga_Blocks_4 hC hP hx hb hK hi2 dX0_longestChain_21 ?_
      refine lv_iload_n hx hb dX0_longestChain_22 rfl (lv_at hl 1 rfl) ?_
      refine lv_icmp_eq (tgt := 37) hx hb dX0_longestChain_23 (by decide) (fun c3 => ?_) (fun c3 => ?_)
      · have hf := cx_t hf c3
        refine lv_iconst (v := 1) hx hb dX0_longestChain_37 (by decide) ?_
        refine lv_goto (tgt := 42) hx hb dX0_longestChain_38 (by decide) ?_
        exact w_X0_longestChain_b42 C0 hC ih τ x1 x2 x3 x4 1 _ _ _ hf hP hL (lv_sub hl [0, 1, 2, 3, 4] rfl)
      · have hf := cx_f hf c3
        refine lv_aload_n hx hb dX0_longestChain_26 rfl (lv_at hl 0 rfl) ?_
        refine g_Blocks_5 hC hP hx hb hts hown hK mw_90 dX0_longestChain_27 ?_
        refine lv_iload hx hb dX0_longestChain_30 (lv_at hl 4 rfl) ?_
        obtain ⟨hi4, hf⟩ := gdE hf
        refine ga_Blocks_5 hC hP hx hb hK hi4 dX0_longestChain_32 ?_
        refine lv_iload_n hx hb dX0_longestChain_33 rfl (lv_at hl 1 rfl) ?_
        refine lv_icmp_ne (tgt := 41) hx hb dX0_longestChain_34 (by decide) (fun c5 => ?_) (fun c5 => ?_)
        · have hf := cx_f hf c5
          refine lv_iconst (v := 0) hx hb dX0_longestChain_41 (by decide) ?_
          exact w_X0_longestChain_b42 C0 hC ih τ x1 x2 x3 x4 0 _ _ _ hf hP hL (lv_sub hl [0, 1, 2, 3, 4] rfl)
        · have hf := cx_t hf c5
          refine lv_iconst (v := 1) hx hb dX0_longestChain_37 (by decide) ?_
          refine lv_goto (tgt := 42) hx hb dX0_longestChain_38 (by decide) ?_
          exact w_X0_longestChain_b42 C0 hC ih τ x1 x2 x3 x4 1 _ _ _ hf hP hL (lv_sub hl [0, 1, 2, 3, 4] rfl)
def f_X0_longestChain (N : Nat) (τ : ObjS) (p0 : Int32) : Option (Int32) := f_X0_longestChain_b7 N N τ p0 0 0 0
set_option maxHeartbeats 4000000 in
set_option maxRecDepth 100000 in
theorem c_X0_longestChain {l : Launch} {G : va_G} {cA : Nat → ClassId} {lo : Nat} {ad : Nat → Nat} {P : ObjS → Heap → Prop} (hC : cx G lo 7 ad (ceBlocks cA ad) P) {N : Nat} {τ : ObjS} {p0 : Int32} {res : Int32} (hf : f_X0_longestChain N τ p0 = some res) : Met l yX0_longestChain (cW yX0_longestChain cX0_longestChain 6 (some .int)) rm_X0_longestChain (cP [.ref (ad 0), .int p0] (P τ) G cA) (cQ (some (.int res)) (P τ)) 0 0 (fun q => lo ≤ q) := by
  refine cx_met (by decide) (Nat.le_of_ble_eq_true rfl) (fun p e s m args below meth c ls C0 hP hl => ?_)
  have hl : lv_has ls 6 [(0, .ref (ad 0)), (1, .int p0)] := hl
  obtain ⟨⟨hx, hb, hml, hown, hts⟩, hr, hlocks, hK⟩ := id C0
  have hL : ∀ q ∈ ([] : List Loc), lo ≤ q.base := fun q h => nomatch h
  unfold f_X0_longestChain at hf
  refine lv_iconst (v := 0) hx hb dX0_longestChain_0 (by decide) ?_
  refine lv_istore_n (lv' := [(2, .int 0), (0, .ref (ad 0)), (1, .int p0)]) hx hb dX0_longestChain_1 rfl hl (by decide) rfl (fun ls hl => ?_)
  refine lv_iconst (v := 0) hx hb dX0_longestChain_2 (by decide) ?_
  refine lv_istore_n (lv' := [(3, .int 0), (2, .int 0), (0, .ref (ad 0)), (1, .int p0)]) hx hb dX0_longestChain_3 rfl hl (by decide) rfl (fun ls hl => ?_)
  refine lv_iconst (v := 0) hx hb dX0_longestChain_4 (by decide) ?_
  refine lv_istore (lv' := [(4, .int 0), (3, .int 0), (2, .int 0), (0, .ref (ad 0)), (1, .int p0)]) hx hb dX0_longestChain_5 hl (by decide) rfl (fun ls hl => ?_)
  exact w_X0_longestChain_b7 C0 hC N τ p0 0 0 0 _ _ _ hf hP hL (lv_sub hl [3, 4, 2, 1, 0] rfl)
