abbrev rm_X5_blockAt : Room := { frames := 0, cells := 0, slots := 0, locals := 0 }
theorem hd_X5_blockAt : yX5_blockAt.cls = RX5 ∧ yX5_blockAt.cls ≠ "java/lang/invoke/MethodHandle" ∧ yX5_blockAt.cls ≠ "java/lang/invoke/VarHandle" ∧ (parseMethodDescriptor yX5_blockAt.desc).map (fun d => d.parameters.length) = some 1 := by decide +kernel
def f_X5_blockAt (τ : ObjS) (p0 : Int32) : Option (Int32) := if p0 < 0 then some (-1) else if τ.2 1 ≤ p0 then some (-1) else if 24 ≤ p0 then some (-1) else gd p0 24 (some (τ.1 0 (Int32.toNatClampNeg p0)))
set_option maxHeartbeats 4000000 in
set_option maxRecDepth 100000 in
theorem c_X5_blockAt {l : Launch} {G : va_G} {cA : Nat → ClassId} {lo : Nat} {ad : Nat → Nat} {P : ObjS → Heap → Prop} (hC : cx G lo 2 ad (ceRow cA ad) P) {τ : ObjS} {p0 : Int32} {res : Int32} (hf : f_X5_blockAt τ p0 = some res) : Met l yX5_blockAt (cW yX5_blockAt cX5_blockAt 2 (some .int)) rm_X5_blockAt (cP [.ref (ad 0), .int p0] (P τ) G cA) (cQ (some (.int res)) (P τ)) 0 0 (fun q => lo ≤ q) := by
  refine cx_met (by decide) (Nat.le_of_ble_eq_true rfl) (fun p e s m args below meth c ls C0 hP hl => ?_)
  have hl : lv_has ls 2 [(0, .ref (ad 0)), (1, .int p0)] := hl
  obtain ⟨⟨hx, hb, hml, hown, hts⟩, hr, hlocks, hK⟩ := id C0
  have hL : ∀ q ∈ ([] : List Loc), lo ≤ q.base := fun q h => nomatch h
  unfold f_X5_blockAt at hf
  refine lv_iload_n hx hb dX5_blockAt_0 rfl (lv_at hl 1 rfl) ?_
  refine lv_if_lt (tgt := 30) hx hb dX5_blockAt_1 (by decide) (fun c1 => ?_) (fun c1 => ?_)
  · have hf := cx_t hf c1
    refine lv_iconst (v := (-1)) hx hb dX5_blockAt_30 (by decide) ?_
    cases hf
    exact cx_iret hx hb hr hlocks hP hL dX5_blockAt_31
  · have hf := cx_f hf c1
    refine lv_iload_n hx hb dX5_blockAt_4 rfl (lv_at hl 1 rfl) ?_
    refine lv_aload_n hx hb dX5_blockAt_5 rfl (lv_at hl 0 rfl) ?_
    refine g_Row_1 hC hP hx hb hts hown hK mw_200 dX5_blockAt_6 ?_
    refine lv_icmp_ge (tgt := 30) hx hb dX5_blockAt_9 (by decide) (fun c2 => ?_) (fun c2 => ?_)
    · have hf := cx_t hf c2
      refine lv_iconst (v := (-1)) hx hb dX5_blockAt_30 (by decide) ?_
      cases hf
      exact cx_iret hx hb hr hlocks hP hL dX5_blockAt_31
    · have hf := cx_f hf c2
      refine lv_iload_n hx hb dX5_blockAt_12 rfl (lv_at hl 1 rfl) ?_
      refine lv_aload_n hx hb dX5_blockAt_13 rfl (lv_at hl 0 rfl) ?_
      refine g_Row_0 hC hP hx hb hts hown hK mw_101 dX5_blockAt_14 ?_
      refine la_Row_0 hC hP hx hb hK dX5_blockAt_17 ?_
      refine lv_icmp_ge (tgt := 30) hx hb dX5_blockAt_18 (by decide) (fun c3 => ?_) (fun c3 => ?_)
      · have hf := cx_t hf c3
        refine lv_iconst (v := (-1)) hx hb dX5_blockAt_30 (by decide) ?_
        cases hf
        exact cx_iret hx hb hr hlocks hP hL dX5_blockAt_31
      · have hf := cx_f hf c3
        refine lv_aload_n hx hb dX5_blockAt_21 rfl (lv_at hl 0 rfl) ?_
        refine g_Row_0 hC hP hx hb hts hown hK mw_101 dX5_blockAt_22 ?_
        refine lv_iload_n hx hb dX5_blockAt_25 rfl (lv_at hl 1 rfl) ?_
        obtain ⟨hi4, hf⟩ := gdE hf
        refine ga_Row_0 hC hP hx hb hK hi4 dX5_blockAt_26 ?_
        refine lv_goto (tgt := 31) hx hb dX5_blockAt_27 (by decide) ?_
        cases hf
        exact cx_iret hx hb hr hlocks hP hL dX5_blockAt_31
abbrev rm_X5_placeOf : Room := { frames := 0, cells := 0, slots := 0, locals := 0 }
theorem hd_X5_placeOf : yX5_placeOf.cls = RX5 ∧ yX5_placeOf.cls ≠ "java/lang/invoke/MethodHandle" ∧ yX5_placeOf.cls ≠ "java/lang/invoke/VarHandle" ∧ (parseMethodDescriptor yX5_placeOf.desc).map (fun d => d.parameters.length) = some 1 := by decide +kernel
def f_X5_placeOf_b2 (N : Nat) : Nat → ObjS → Int32 → Int32 → Option (Int32)
  | 0, _, _, _ => none
  | n + 1, τ, x1, x2 => if τ.2 1 ≤ x2 then some (-1) else if 24 ≤ x2 then some (-1) else gd x2 24 (if (τ.1 0 (Int32.toNatClampNeg x2)) = x1 then some x2 else f_X5_placeOf_b2 N n τ x1 (x2 + 1))
set_option maxHeartbeats 4000000 in
set_option maxRecDepth 100000 in
theorem w_X5_placeOf_b2 {p : Program} {l : Launch} {e : Env} {s : State} {m : MethodId} {args : Array Value} {below : List Frame} {meth : Method} {c : Code} {G : va_G} {cA : Nat → ClassId} (C0 : cB p s m args meth c RX5 cX5_placeOf 3 (some .int) G cA) {lo : Nat} {ad : Nat → Nat} {P : ObjS → Heap → Prop} (hC : cx G lo 2 ad (ceRow cA ad) P) {N : Nat} {res : Int32} : ∀ (n : Nat) (τ : ObjS) (x1 : Int32) (x2 : Int32) (H : Heap) (locs : List Loc) (ls : Array Slot), f_X5_placeOf_b2 N n τ x1 x2 = some res → P τ H → (∀ q ∈ locs, lo ≤ q.base) → lv_has ls 3 [(0, .ref (ad 0)), (1, .int x1), (2, .int x2)] → W p l e rm_X5_placeOf s m args below meth c H locs 0 0 (MQ below (cQ (some (.int res)) (P τ)) args s 0 0 (fun q => lo ≤ q)) (F0 m 2 ls []) := by
  obtain ⟨⟨hx, hb, hml, hown, hts⟩, hr, hlocks, hK⟩ := id C0
  intro n
  induction n with
  | zero => intro τ x1 x2 H locs ls
            exact fun hf => nomatch hf
  | succ n ih =>
    intro τ x1 x2 H locs ls hf hP hL hl
    rw [f_X5_placeOf_b2] at hf
    refine lv_iload_n hx hb dX5_placeOf_2 rfl (lv_at hl 2 rfl) ?_
    refine lv_aload_n hx hb dX5_placeOf_3 rfl (lv_at hl 0 rfl) ?_
    refine g_Row_1 hC hP hx hb hts hown hK mw_200 dX5_placeOf_4 ?_
    refine lv_icmp_ge (tgt := 37) hx hb dX5_placeOf_7 (by decide) (fun c1 => ?_) (fun c1 => ?_)
    · have hf := cx_t hf c1
      refine lv_iconst (v := (-1)) hx hb dX5_placeOf_37 (by decide) ?_
      cases hf
      exact cx_iret hx hb hr hlocks hP hL dX5_placeOf_38
    · have hf := cx_f hf c1
      refine lv_iload_n hx hb dX5_placeOf_10 rfl (lv_at hl 2 rfl) ?_
      refine lv_aload_n hx hb dX5_placeOf_11 rfl (lv_at hl 0 rfl) ?_
      refine g_Row_0 hC hP hx hb hts hown hK mw_101 dX5_placeOf_12 ?_
      refine la_Row_0 hC hP hx hb hK dX5_placeOf_15 ?_
      refine lv_icmp_ge (tgt := 37) hx hb dX5_placeOf_16 (by decide) (fun c2 => ?_) (fun c2 => ?_)
      · have hf := cx_t hf c2
        refine lv_iconst (v := (-1)) hx hb dX5_placeOf_37 (by decide) ?_
        cases hf
        exact cx_iret hx hb hr hlocks hP hL dX5_placeOf_38
      · have hf := cx_f hf c2
        refine lv_aload_n hx hb dX5_placeOf_19 rfl (lv_at hl 0 rfl) ?_
        refine g_Row_0 hC hP hx hb hts hown hK mw_101 dX5_placeOf_20 ?_
        refine lv_iload_n hx hb dX5_placeOf_23 rfl (lv_at hl 2 rfl) ?_
        obtain ⟨hi3, hf⟩ := gdE hf
        refine ga_Row_0 hC hP hx hb hK hi3 dX5_placeOf_24 ?_
        refine lv_iload_n hx hb dX5_placeOf_25 rfl (lv_at hl 1 rfl) ?_
        refine lv_icmp_ne (tgt := 31) hx hb dX5_placeOf_26 (by decide) (fun c4 => ?_) (fun c4 => ?_)
        · have hf := cx_f hf c4
          refine lv_iinc (v := (x2 + 1)) (lv' := [(2, .int (x2 + 1)), (0, .ref (ad 0)), (1, .int x1)]) hx hb dX5_placeOf_31 hl (k := 2) rfl rfl (by decide) rfl (fun ls hl => ?_)
          refine lv_goto (tgt := 2) hx hb dX5_placeOf_34 (by decide) ?_
          exact ih τ x1 (x2 + 1) _ _ _ hf hP hL (lv_sub hl [1, 2, 0] rfl)
        · have hf := cx_t hf c4
          refine lv_iload_n hx hb dX5_placeOf_29 rfl (lv_at hl 2 rfl) ?_
          cases hf
          exact cx_iret hx hb hr hlocks hP hL dX5_placeOf_30
def f_X5_placeOf (N : Nat) (τ : ObjS) (p0 : Int32) : Option (Int32) := f_X5_placeOf_b2 N N τ p0 0
set_option maxHeartbeats 4000000 in
set_option maxRecDepth 100000 in
theorem c_X5_placeOf {l : Launch} {G : va_G} {cA : Nat → ClassId} {lo : Nat} {ad : Nat → Nat} {P : ObjS → Heap → Prop} (hC : cx G lo 2 ad (ceRow cA ad) P) {N : Nat} {τ : ObjS} {p0 : Int32} {res : Int32} (hf : f_X5_placeOf N τ p0 = some res) : Met l yX5_placeOf (cW yX5_placeOf cX5_placeOf 3 (some .int)) rm_X5_placeOf (cP [.ref (ad 0), .int p0] (P τ) G cA) (cQ (some (.int res)) (P τ)) 0 0 (fun q => lo ≤ q) := by
  refine cx_met (by decide) (Nat.le_of_ble_eq_true rfl) (fun p e s m args below meth c ls C0 hP hl => ?_)
  have hl : lv_has ls 3 [(0, .ref (ad 0)), (1, .int p0)] := hl
  obtain ⟨⟨hx, hb, hml, hown, hts⟩, hr, hlocks, hK⟩ := id C0
  have hL : ∀ q ∈ ([] : List Loc), lo ≤ q.base := fun q h => nomatch h
  unfold f_X5_placeOf at hf
  refine lv_iconst (v := 0) hx hb dX5_placeOf_0 (by decide) ?_
  refine lv_istore_n (lv' := [(2, .int 0), (0, .ref (ad 0)), (1, .int p0)]) hx hb dX5_placeOf_1 rfl hl (by decide) rfl (fun ls hl => ?_)
  exact w_X5_placeOf_b2 C0 hC N τ p0 0 _ _ _ hf hP hL (lv_sub hl [1, 2, 0] rfl)
abbrev rm_X5_howManyIn : Room := { frames := 0, cells := 0, slots := 0, locals := 0 }
theorem hd_X5_howManyIn : yX5_howManyIn.cls = RX5 ∧ yX5_howManyIn.cls ≠ "java/lang/invoke/MethodHandle" ∧ yX5_howManyIn.cls ≠ "java/lang/invoke/VarHandle" ∧ (parseMethodDescriptor yX5_howManyIn.desc).map (fun d => d.parameters.length) = some 2 := by decide +kernel
def f_X5_howManyIn_b5 (N : Nat) : Nat → ObjS → Int32 → Int32 → Int32 → Int32 → Option (Int32)
  | 0, _, _, _, _, _ => none
  | n + 1, τ, x1, x2, x3, x4 => if τ.2 1 ≤ x4 then some x3 else if 24 ≤ x4 then some x3 else gd x4 24 (if (τ.1 0 (Int32.toNatClampNeg x4)) < x1 then f_X5_howManyIn_b5 N n τ x1 x2 x3 (x4 + 1) else gd x4 24 (if x2 < (τ.1 0 (Int32.toNatClampNeg x4)) then f_X5_howManyIn_b5 N n τ x1 x2 x3 (x4 + 1) else f_X5_howManyIn_b5 N n τ x1 x2 (x3 + 1) (x4 + 1)))
set_option maxHeartbeats 4000000 in
set_option maxRecDepth 100000 in
theorem w_X5_howManyIn_b5 {p : Program} {l : Launch} {e : Env} {s : State} {m : MethodId} {args : Array Value} {below : List Frame} {meth : Method} {c : Code} {G : va_G} {cA : Nat → ClassId} (C0 : cB p s m args meth c RX5 cX5_howManyIn 5 (some .int) G cA) {lo : Nat} {ad : Nat → Nat} {P : ObjS → Heap → Prop} (hC : cx G lo 2 ad (ceRow cA ad) P) {N : Nat} {res : Int32} : ∀ (n : Nat) (τ : ObjS) (x1 : Int32) (x2 : Int32) (x3 : Int32) (x4 : Int32) (H : Heap) (locs : List Loc) (ls : Array Slot), f_X5_howManyIn_b5 N n τ x1 x2 x3 x4 = some res → P τ H → (∀ q ∈ locs, lo ≤ q.base) → lv_has ls 5 [(0, .ref (ad 0)), (1, .int x1), (2, .int x2), (3, .int x3), (4, .int x4)] → W p l e rm_X5_howManyIn s m args below meth c H locs 0 0 (MQ below (cQ (some (.int res)) (P τ)) args s 0 0 (fun q => lo ≤ q)) (F0 m 5 ls []) := by
  obtain ⟨⟨hx, hb, hml, hown, hts⟩, hr, hlocks, hK⟩ := id C0
  intro n
  induction n with
  | zero => intro τ x1 x2 x3 x4 H locs ls
            exact fun hf => nomatch hf
  | succ n ih =>
    intro τ x1 x2 x3 x4 H locs ls hf hP hL hl
    rw [f_X5_howManyIn_b5] at hf
    refine lv_iload hx hb dX5_howManyIn_5 (lv_at hl 4 rfl) ?_
    refine lv_aload_n hx hb dX5_howManyIn_7 rfl (lv_at hl 0 rfl) ?_
    refine g_Row_1 hC hP hx hb hts hown hK mw_200 dX5_howManyIn_8 ?_
    refine lv_icmp_ge (tgt := 55) hx hb dX5_howManyIn_11 (by decide) (fun c1 => ?_) (fun c1 => ?_)
    · have hf := cx_t hf c1
      refine lv_iload_n hx hb dX5_howManyIn_55 rfl (lv_at hl 3 rfl) ?_
      cases hf
      exact cx_iret hx hb hr hlocks hP hL dX5_howManyIn_56
    · have hf := cx_f hf c1
      refine lv_iload hx hb dX5_howManyIn_14 (lv_at hl 4 rfl) ?_
      refine lv_aload_n hx hb dX5_howManyIn_16 rfl (lv_at hl 0 rfl) ?_
      refine g_Row_0 hC hP hx hb hts hown hK mw_101 dX5_howManyIn_17 ?_
      refine la_Row_0 hC hP hx hb hK dX5_howManyIn_20 ?_
      refine lv_icmp_ge (tgt := 55) hx hb dX5_howManyIn_21 (by decide) (fun c2 => ?_) (fun c2 => ?_)
      · have hf := cx_t hf c2
        refine lv_iload_n hx hb dX5_howManyIn_55 rfl (lv_at hl 3 rfl) ?_
        cases hf
        exact cx_iret hx hb hr hlocks hP hL dX5_howManyIn_56
      · have hf := cx_f hf c2
        refine lv_aload_n hx hb dX5_howManyIn_24 rfl (lv_at hl 0 rfl) ?_
        refine g_Row_0 hC hP hx hb hts hown hK mw_101 dX5_howManyIn_25 ?_
        refine lv_iload hx hb dX5_howManyIn_28 (lv_at hl 4 rfl) ?_
        obtain ⟨hi3, hf⟩ := gdE hf
        refine ga_Row_0 hC hP hx hb hK hi3 dX5_howManyIn_30 ?_
        refine lv_iload_n hx hb dX5_howManyIn_31 rfl (lv_at hl 1 rfl) ?_
        refine lv_icmp_lt (tgt := 49) hx hb dX5_howManyIn_32 (by decide) (fun c4 => ?_) (fun c4 => ?_)
        · have hf := cx_t hf c4
          refine lv_iinc (v := (x4 + 1)) (lv' := [(4, .int (x4 + 1)), (0, .ref (ad 0)), (1, .int x1), (2, .int x2), (3, .int x3)]) hx hb dX5_howManyIn_49 hl (k := 4) rfl rfl (by decide) rfl (fun ls hl => ?_)
          refine lv_goto (tgt := 5) hx hb dX5_howManyIn_52 (by decide) ?_
          exact ih τ x1 x2 x3 (x4 + 1) _ _ _ hf hP hL (lv_sub hl [1, 2, 3, 4, 0] rfl)
        · have hf := cx_f hf c4
          refine lv_aload_n hx hb dX5_howManyIn_35 rfl (lv_at hl 0 rfl) ?_
          refine g_Row_0 hC hP hx hb hts hown hK mw_101 dX5_howManyIn_36 ?_
          refine lv_iload hx hb dX5_howManyIn_39 (lv_at hl 4 rfl) ?_
          obtain ⟨hi5, hf⟩ := gdE hf
          refine ga_Row_0 hC hP hx hb hK hi5 dX5_howManyIn_41 ?_
          refine lv_iload_n hx hb dX5_howManyIn_42 rfl (lv_at hl 2 rfl) ?_
          refine lv_icmp_gt (tgt := 49) hx hb dX5_howManyIn_43 (by decide) (fun c6 => ?_) (fun c6 => ?_)
          · have hf := cx_t hf c6
            refine lv_iinc (v := (x4 + 1)) (lv' := [(4, .int (x4 + 1)), (0, .ref (ad 0)), (1, .int x1), (2, .int x2), (3, .int x3)]) hx hb dX5_howManyIn_49 hl (k := 4) rfl rfl (by decide) rfl (fun ls hl => ?_)
            refine lv_goto (tgt := 5) hx hb dX5_howManyIn_52 (by decide) ?_
            exact ih τ x1 x2 x3 (x4 + 1) _ _ _ hf hP hL (lv_sub hl [1, 2, 3, 4, 0] rfl)
          · have hf := cx_f hf c6
            refine lv_iinc (v := (x3 + 1)) (lv' := [(3, .int (x3 + 1)), (0, .ref (ad 0)), (1, .int x1), (2, .int x2), (4, .int x4)]) hx hb dX5_howManyIn_46 hl (k := 3) rfl rfl (by decide) rfl (fun ls hl => ?_)
            refine lv_iinc (v := (x4 + 1)) (lv' := [(4, .int (x4 + 1)), (3, .int (x3 + 1)), (0, .ref (ad 0)), (1, .int x1), (2, .int x2)]) hx hb dX5_howManyIn_49 hl (k := 4) rfl rfl (by decide) rfl (fun ls hl => ?_)
            refine lv_goto (tgt := 5) hx hb dX5_howManyIn_52 (by decide) ?_
            exact ih τ x1 x2 (x3 + 1) (x4 + 1) _ _ _ hf hP hL (lv_sub hl [2, 3, 4, 1, 0] rfl)
def f_X5_howManyIn (N : Nat) (τ : ObjS) (p0 : Int32) (p1 : Int32) : Option (Int32) := f_X5_howManyIn_b5 N N τ p0 p1 0 0
set_option maxHeartbeats 4000000 in
set_option maxRecDepth 100000 in
theorem c_X5_howManyIn {l : Launch} {G : va_G} {cA : Nat → ClassId} {lo : Nat} {ad : Nat → Nat} {P : ObjS → Heap → Prop} (hC : cx G lo 2 ad (ceRow cA ad) P) {N : Nat} {τ : ObjS} {p0 : Int32} {p1 : Int32} {res : Int32} (hf : f_X5_howManyIn N τ p0 p1 = some res) : Met l yX5_howManyIn (cW yX5_howManyIn cX5_howManyIn 5 (some .int)) rm_X5_howManyIn (cP [.ref (ad 0), .int p0, .int p1] (P τ) G cA) (cQ (some (.int res)) (P τ)) 0 0 (fun q => lo ≤ q) := by
  refine cx_met (by decide) (Nat.le_of_ble_eq_true rfl) (fun p e s m args below meth c ls C0 hP hl => ?_)
  have hl : lv_has ls 5 [(0, .ref (ad 0)), (1, .int p0), (2, .int p1)] := hl
  obtain ⟨⟨hx, hb, hml, hown, hts⟩, hr, hlocks, hK⟩ := id C0
  have hL : ∀ q ∈ ([] : List Loc), lo ≤ q.base := fun q h => nomatch h
  unfold f_X5_howManyIn at hf
  refine lv_iconst (v := 0) hx hb dX5_howManyIn_0 (by decide) ?_
  refine lv_istore_n (lv' := [(3, .int 0), (0, .ref (ad 0)), (1, .int p0), (2, .int p1)]) hx hb dX5_howManyIn_1 rfl hl (by decide) rfl (fun ls hl => ?_)
  refine lv_iconst (v := 0) hx hb dX5_howManyIn_2 (by decide) ?_
  refine lv_istore (lv' := [(4, .int 0), (3, .int 0), (0, .ref (ad 0)), (1, .int p0), (2, .int p1)]) hx hb dX5_howManyIn_3 hl (by decide) rfl (fun ls hl => ?_)
  exact w_X5_howManyIn_b5 C0 hC N τ p0 p1 0 0 _ _ _ hf hP hL (lv_sub hl [2, 3, 4, 1, 0] rfl)
abbrev rm_X5_putFirst : Room := { frames := 0, cells := 0, slots := 0, locals := 0 }
theorem hd_X5_putFirst : yX5_putFirst.cls = RX5 ∧ yX5_putFirst.cls ≠ "java/lang/invoke/MethodHandle" ∧ yX5_putFirst.cls ≠ "java/lang/invoke/VarHandle" ∧ (parseMethodDescriptor yX5_putFirst.desc).map (fun d => d.parameters.length) = some 1 := by decide +kernel
def f_X5_putFirst_b18 (N : Nat) : Nat → ObjS → Int32 → Int32 → Option (ObjS)
  | 0, _, _, _ => none
  | n + 1, τ, x1, x2 => if x2 ≤ 0 then gd 0 24 (cx_let (oA τ 0 (Int32.toNatClampNeg 0) x1) fun z3 => cx_let (oI z3 1 (z3.2 1 + 1)) fun z4 => some z4) else gd (x2 - 1) 24 (gd x2 24 (cx_let (oA τ 0 (Int32.toNatClampNeg x2) (τ.1 0 (Int32.toNatClampNeg (x2 - 1)))) fun z7 => f_X5_putFirst_b18 N n z7 x1 (x2 + (-1))))
set_option maxHeartbeats 4000000 in
set_option maxRecDepth 100000 in
theorem w_X5_putFirst_b18 {p : Program} {l : Launch} {e : Env} {s : State} {m : MethodId} {args : Array Value} {below : List Frame} {meth : Method} {c : Code} {G : va_G} {cA : Nat → ClassId} (C0 : cB p s m args meth c RX5 cX5_putFirst 3 none G cA) {lo : Nat} {ad : Nat → Nat} {P : ObjS → Heap → Prop} (hC : cx G lo 2 ad (ceRow cA ad) P) {N : Nat} {res : ObjS} : ∀ (n : Nat) (τ : ObjS) (x1 : Int32) (x2 : Int32) (H : Heap) (locs : List Loc) (ls : Array Slot), f_X5_putFirst_b18 N n τ x1 x2 = some res → P τ H → (∀ q ∈ locs, lo ≤ q.base) → lv_has ls 3 [(0, .ref (ad 0)), (1, .int x1), (2, .int x2)] → W p l e rm_X5_putFirst s m args below meth c H locs 0 0 (MQ below (cQ none (P res)) args s 0 0 (fun q => lo ≤ q)) (F0 m 18 ls []) := by
  obtain ⟨⟨hx, hb, hml, hown, hts⟩, hr, hlocks, hK⟩ := id C0
  intro n
  induction n with
  | zero => intro τ x1 x2 H locs ls
            exact fun hf => nomatch hf
  | succ n ih =>
    intro τ x1 x2 H locs ls hf hP hL hl
    rw [f_X5_putFirst_b18] at hf
    refine lv_iload_n hx hb dX5_putFirst_18 rfl (lv_at hl 2 rfl) ?_
    refine lv_if_le (tgt := 42) hx hb dX5_putFirst_19 (by decide) (fun c1 => ?_) (fun c1 => ?_)
    · have hf := cx_t hf c1
      refine lv_aload_n hx hb dX5_putFirst_42 rfl (lv_at hl 0 rfl) ?_
      refine g_Row_0 hC hP hx hb hts hown hK mw_101 dX5_putFirst_43 ?_
      refine lv_iconst (v := 0) hx hb dX5_putFirst_46 (by decide) ?_
      refine lv_iload_n hx hb dX5_putFirst_47 rfl (lv_at hl 1 rfl) ?_
      obtain ⟨hi2, hf⟩ := gdE hf
      obtain ⟨z3, ez3, hf⟩ := cx_letE hf
      refine pa_Row_0 hC hP hx hb hK hi2 dX5_putFirst_48 hL (fun H locs hP hL => ?_)
      replace hP : P z3 H := by rw [← ez3]; exact hP
      refine lv_aload_n hx hb dX5_putFirst_49 rfl (lv_at hl 0 rfl) ?_
      refine lv_dup hx hb dX5_putFirst_50 rfl ?_
      refine g_Row_1 hC hP hx hb hts hown hK mw_200 dX5_putFirst_51 ?_
      refine lv_iconst (v := 1) hx hb dX5_putFirst_54 (by decide) ?_
      refine lv_iadd hx hb dX5_putFirst_55 ?_
      obtain ⟨z4, ez4, hf⟩ := cx_letE hf
      refine p_Row_1 hC hP hx hb hts hown hK mw_200 dX5_putFirst_56 hL (fun H locs hP hL => ?_)
      replace hP : P z4 H := by rw [← ez4]; exact hP
      cases hf
      exact cx_vret hx hb hr hlocks hP hL dX5_putFirst_59
    · have hf := cx_f hf c1
      refine lv_aload_n hx hb dX5_putFirst_22 rfl (lv_at hl 0 rfl) ?_
      refine g_Row_0 hC hP hx hb hts hown hK mw_101 dX5_putFirst_23 ?_
      refine lv_iload_n hx hb dX5_putFirst_26 rfl (lv_at hl 2 rfl) ?_
      refine lv_aload_n hx hb dX5_putFirst_27 rfl (lv_at hl 0 rfl) ?_
      refine g_Row_0 hC hP hx hb hts hown hK mw_101 dX5_putFirst_28 ?_
      refine lv_iload_n hx hb dX5_putFirst_31 rfl (lv_at hl 2 rfl) ?_
      refine lv_iconst (v := 1) hx hb dX5_putFirst_32 (by decide) ?_
      refine lv_isub hx hb dX5_putFirst_33 ?_
      obtain ⟨hi5, hf⟩ := gdE hf
      refine ga_Row_0 hC hP hx hb hK hi5 dX5_putFirst_34 ?_
      obtain ⟨hi6, hf⟩ := gdE hf
      obtain ⟨z7, ez7, hf⟩ := cx_letE hf
      refine pa_Row_0 hC hP hx hb hK hi6 dX5_putFirst_35 hL (fun H locs hP hL => ?_)
      replace hP : P z7 H := by rw [← ez7]; exact hP
      refine lv_iinc (v := (x2 + (-1))) (lv' := [(2, .int (x2 + (-1))), (0, .ref (ad 0)), (1, .int x1)]) hx hb dX5_putFirst_36 hl (k := 2) rfl rfl (by decide) rfl (fun ls hl => ?_)
      refine lv_goto (tgt := 18) hx hb dX5_putFirst_39 (by decide) ?_
      exact ih z7 x1 (x2 + (-1)) _ _ _ hf hP hL (lv_sub hl [1, 2, 0] rfl)
def f_X5_putFirst (N : Nat) (τ : ObjS) (p0 : Int32) : Option (ObjS) := if τ.2 1 < 24 then f_X5_putFirst_b18 N N τ p0 (τ.2 1) else some τ
set_option maxHeartbeats 4000000 in
set_option maxRecDepth 100000 in
theorem c_X5_putFirst {l : Launch} {G : va_G} {cA : Nat → ClassId} {lo : Nat} {ad : Nat → Nat} {P : ObjS → Heap → Prop} (hC : cx G lo 2 ad (ceRow cA ad) P) {N : Nat} {τ : ObjS} {p0 : Int32} {res : ObjS} (hf : f_X5_putFirst N τ p0 = some res) : Met l yX5_putFirst (cW yX5_putFirst cX5_putFirst 3 none) rm_X5_putFirst (cP [.ref (ad 0), .int p0] (P τ) G cA) (cQ none (P res)) 0 0 (fun q => lo ≤ q) := by
  refine cx_met (by decide) (Nat.le_of_ble_eq_true rfl) (fun p e s m args below meth c ls C0 hP hl => ?_)
  have hl : lv_has ls 3 [(0, .ref (ad 0)), (1, .int p0)] := hl
  obtain ⟨⟨hx, hb, hml, hown, hts⟩, hr, hlocks, hK⟩ := id C0
  have hL : ∀ q ∈ ([] : List Loc), lo ≤ q.base := fun q h => nomatch h
  unfold f_X5_putFirst at hf
  refine lv_aload_n hx hb dX5_putFirst_0 rfl (lv_at hl 0 rfl) ?_
  refine g_Row_1 hC hP hx hb hts hown hK mw_200 dX5_putFirst_1 ?_
  refine lv_aload_n hx hb dX5_putFirst_4 rfl (lv_at hl 0 rfl) ?_
  refine g_Row_0 hC hP hx hb hts hown hK mw_101 dX5_putFirst_5 ?_
  refine la_Row_0 hC hP hx hb hK dX5_putFirst_8 ?_
  refine lv_icmp_lt (tgt := 13) hx hb dX5_putFirst_9 (by decide) (fun c1 => ?_) (fun c1 => ?_)
  · have hf := cx_t hf c1
    refine lv_aload_n hx hb dX5_putFirst_13 rfl (lv_at hl 0 rfl) ?_
    refine g_Row_1 hC hP hx hb hts hown hK mw_200 dX5_putFirst_14 ?_
    refine lv_istore_n (lv' := [(2, .int (τ.2 1)), (0, .ref (ad 0)), (1, .int p0)]) hx hb dX5_putFirst_17 rfl hl (by decide) rfl (fun ls hl => ?_)
    exact w_X5_putFirst_b18 C0 hC N τ p0 (τ.2 1) _ _ _ hf hP hL (lv_sub hl [1, 2, 0] rfl)
  · have hf := cx_f hf c1
    cases hf
    exact cx_vret hx hb hr hlocks hP hL dX5_putFirst_12
abbrev rm_X5_takeOut : Room := { frames := 0, cells := 0, slots := 0, locals := 0 }
theorem hd_X5_takeOut : yX5_takeOut.cls = RX5 ∧ yX5_takeOut.cls ≠ "java/lang/invoke/MethodHandle" ∧ yX5_takeOut.cls ≠ "java/lang/invoke/VarHandle" ∧ (parseMethodDescriptor yX5_takeOut.desc).map (fun d => d.parameters.length) = some 1 := by decide +kernel
def f_X5_takeOut_b4 (N : Nat) : Nat → ObjS → Int32 → Int32 → Int32 → Option (ObjS)
  | 0, _, _, _, _ => none
  | n + 1, τ, x1, x2, x3 => if τ.2 1 ≤ x3 then cx_let (oI τ 1 x2) fun z2 => some z2 else if 24 ≤ x3 then cx_let (oI τ 1 x2) fun z4 => some z4 else gd x3 24 (if (τ.1 0 (Int32.toNatClampNeg x3)) = x1 then f_X5_takeOut_b4 N n τ x1 x2 (x3 + 1) else gd x3 24 (gd x2 24 (cx_let (oA τ 0 (Int32.toNatClampNeg x2) (τ.1 0 (Int32.toNatClampNeg x3))) fun z9 => f_X5_takeOut_b4 N n z9 x1 (x2 + 1) (x3 + 1))))
set_option maxHeartbeats 4000000 in
set_option maxRecDepth 100000 in
theorem w_X5_takeOut_b4 {p : Program} {l : Launch} {e : Env} {s : State} {m : MethodId} {args : Array Value} {below : List Frame} {meth : Method} {c : Code} {G : va_G} {cA : Nat → ClassId} (C0 : cB p s m args meth c RX5 cX5_takeOut 4 none G cA) {lo : Nat} {ad : Nat → Nat} {P : ObjS → Heap → Prop} (hC : cx G lo 2 ad (ceRow cA ad) P) {N : Nat} {res : ObjS} : ∀ (n : Nat) (τ : ObjS) (x1 : Int32) (x2 : Int32) (x3 : Int32) (H : Heap) (locs : List Loc) (ls : Array Slot), f_X5_takeOut_b4 N n τ x1 x2 x3 = some res → P τ H → (∀ q ∈ locs, lo ≤ q.base) → lv_has ls 4 [(0, .ref (ad 0)), (1, .int x1), (2, .int x2), (3, .int x3)] → W p l e rm_X5_takeOut s m args below meth c H locs 0 0 (MQ below (cQ none (P res)) args s 0 0 (fun q => lo ≤ q)) (F0 m 4 ls []) := by
  obtain ⟨⟨hx, hb, hml, hown, hts⟩, hr, hlocks, hK⟩ := id C0
  intro n
  induction n with
  | zero => intro τ x1 x2 x3 H locs ls
            exact fun hf => nomatch hf
  | succ n ih =>
    intro τ x1 x2 x3 H locs ls hf hP hL hl
    rw [f_X5_takeOut_b4] at hf
    refine lv_iload_n hx hb dX5_takeOut_4 rfl (lv_at hl 3 rfl) ?_
    refine lv_aload_n hx hb dX5_takeOut_5 rfl (lv_at hl 0 rfl) ?_
    refine g_Row_1 hC hP hx hb hts hown hK mw_200 dX5_takeOut_6 ?_
    refine lv_icmp_ge (tgt := 52) hx hb dX5_takeOut_9 (by decide) (fun c1 => ?_) (fun c1 => ?_)
    · have hf := cx_t hf c1
      refine lv_aload_n hx hb dX5_takeOut_52 rfl (lv_at hl 0 rfl) ?_
      refine lv_iload_n hx hb dX5_takeOut_53 rfl (lv_at hl 2 rfl) ?_
      obtain ⟨z2, ez2, hf⟩ := cx_letE hf
      refine p_Row_1 hC hP hx hb hts hown hK mw_200 dX5_takeOut_54 hL (fun H locs hP hL => ?_)
      replace hP : P z2 H := by rw [← ez2]; exact hP
      cases hf
      exact cx_vret hx hb hr hlocks hP hL dX5_takeOut_57
    · have hf := cx_f hf c1
      refine lv_iload_n hx hb dX5_takeOut_12 rfl (lv_at hl 3 rfl) ?_
      refine lv_aload_n hx hb dX5_takeOut_13 rfl (lv_at hl 0 rfl) ?_
      refine g_Row_0 hC hP hx hb hts hown hK mw_101 dX5_takeOut_14 ?_
      refine la_Row_0 hC hP hx hb hK dX5_takeOut_17 ?_
      refine lv_icmp_ge (tgt := 52) hx hb dX5_takeOut_18 (by decide) (fun c3 => ?_) (fun c3 => ?_)
      · have hf := cx_t hf c3
        refine lv_aload_n hx hb dX5_takeOut_52 rfl (lv_at hl 0 rfl) ?_
        refine lv_iload_n hx hb dX5_takeOut_53 rfl (lv_at hl 2 rfl) ?_
        obtain ⟨z4, ez4, hf⟩ := cx_letE hf
        refine p_Row_1 hC hP hx hb hts hown hK mw_200 dX5_takeOut_54 hL (fun H locs hP hL => ?_)
        replace hP : P z4 H := by rw [← ez4]; exact hP
        cases hf
        exact cx_vret hx hb hr hlocks hP hL dX5_takeOut_57
      · have hf := cx_f hf c3
        refine lv_aload_n hx hb dX5_takeOut_21 rfl (lv_at hl 0 rfl) ?_
        refine g_Row_0 hC hP hx hb hts hown hK mw_101 dX5_takeOut_22 ?_
        refine lv_iload_n hx hb dX5_takeOut_25 rfl (lv_at hl 3 rfl) ?_
        obtain ⟨hi5, hf⟩ := gdE hf
        refine ga_Row_0 hC hP hx hb hK hi5 dX5_takeOut_26 ?_
        refine lv_iload_n hx hb dX5_takeOut_27 rfl (lv_at hl 1 rfl) ?_
        refine lv_icmp_eq (tgt := 46) hx hb dX5_takeOut_28 (by decide) (fun c6 => ?_) (fun c6 => ?_)
        · have hf := cx_t hf c6
          refine lv_iinc (v := (x3 + 1)) (lv' := [(3, .int (x3 + 1)), (0, .ref (ad 0)), (1, .int x1), (2, .int x2)]) hx hb dX5_takeOut_46 hl (k := 3) rfl rfl (by decide) rfl (fun ls hl => ?_)
          refine lv_goto (tgt := 4) hx hb dX5_takeOut_49 (by decide) ?_
          exact ih τ x1 x2 (x3 + 1) _ _ _ hf hP hL (lv_sub hl [1, 2, 3, 0] rfl)
        · have hf := cx_f hf c6
          refine lv_aload_n hx hb dX5_takeOut_31 rfl (lv_at hl 0 rfl) ?_
          refine g_Row_0 hC hP hx hb hts hown hK mw_101 dX5_takeOut_32 ?_
          refine lv_iload_n hx hb dX5_takeOut_35 rfl (lv_at hl 2 rfl) ?_
          refine lv_aload_n hx hb dX5_takeOut_36 rfl (lv_at hl 0 rfl) ?_
          refine g_Row_0 hC hP hx hb hts hown hK mw_101 dX5_takeOut_37 ?_
          refine lv_iload_n hx hb dX5_takeOut_40 rfl (lv_at hl 3 rfl) ?_
          obtain ⟨hi7, hf⟩ := gdE hf
          refine ga_Row_0 hC hP hx hb hK hi7 dX5_takeOut_41 ?_
          obtain ⟨hi8, hf⟩ := gdE hf
          obtain ⟨z9, ez9, hf⟩ := cx_letE hf
          refine pa_Row_0 hC hP hx hb hK hi8 dX5_takeOut_42 hL (fun H locs hP hL => ?_)
          replace hP : P z9 H := by rw [← ez9]; exact hP
          refine lv_iinc (v := (x2 + 1)) (lv' := [(2, .int (x2 + 1)), (0, .ref (ad 0)), (1, .int x1), (3, .int x3)]) hx hb dX5_takeOut_43 hl (k := 2) rfl rfl (by decide) rfl (fun ls hl => ?_)
          refine lv_iinc (v := (x3 + 1)) (lv' := [(3, .int (x3 + 1)), (2, .int (x2 + 1)), (0, .ref (ad 0)), (1, .int x1)]) hx hb dX5_takeOut_46 hl (k := 3) rfl rfl (by decide) rfl (fun ls hl => ?_)
          refine lv_goto (tgt := 4) hx hb dX5_takeOut_49 (by decide) ?_
          exact ih z9 x1 (x2 + 1) (x3 + 1) _ _ _ hf hP hL (lv_sub hl [2, 3, 1, 0] rfl)
def f_X5_takeOut (N : Nat) (τ : ObjS) (p0 : Int32) : Option (ObjS) := f_X5_takeOut_b4 N N τ p0 0 0
set_option maxHeartbeats 4000000 in
set_option maxRecDepth 100000 in
theorem c_X5_takeOut {l : Launch} {G : va_G} {cA : Nat → ClassId} {lo : Nat} {ad : Nat → Nat} {P : ObjS → Heap → Prop} (hC : cx G lo 2 ad (ceRow cA ad) P) {N : Nat} {τ : ObjS} {p0 : Int32} {res : ObjS} (hf : f_X5_takeOut N τ p0 = some res) : Met l yX5_takeOut (cW yX5_takeOut cX5_takeOut 4 none) rm_X5_takeOut (cP [.ref (ad 0), .int p0] (P τ) G cA) (cQ none (P res)) 0 0 (fun q => lo ≤ q) := by
  refine cx_met (by decide) (Nat.le_of_ble_eq_true rfl) (fun p e s m args below meth c ls C0 hP hl => ?_)
  have hl : lv_has ls 4 [(0, .ref (ad 0)), (1, .int p0)] := hl
  obtain ⟨⟨hx, hb, hml, hown, hts⟩, hr, hlocks, hK⟩ := id C0
  have hL : ∀ q ∈ ([] : List Loc), lo ≤ q.base := fun q h => nomatch h
  unfold f_X5_takeOut at hf
  refine lv_iconst (v := 0) hx hb dX5_takeOut_0 (by decide) ?_
  refine lv_istore_n (lv' := [(2, .int 0), (0, .ref (ad 0)), (1, .int p0)]) hx hb dX5_takeOut_1 rfl hl (by decide) rfl (fun ls hl => ?_)
  refine lv_iconst (v := 0) hx hb dX5_takeOut_2 (by decide) ?_
  refine lv_istore_n (lv' := [(3, .int 0), (2, .int 0), (0, .ref (ad 0)), (1, .int p0)]) hx hb dX5_takeOut_3 rfl hl (by decide) rfl (fun ls hl => ?_)
  exact w_X5_takeOut_b4 C0 hC N τ p0 0 0 _ _ _ hf hP hL (lv_sub hl [2, 3, 1, 0] rfl)
abbrev rm_X5_copyFrom : Room := { frames := 1, cells := 0, slots := 0, locals := 21 }
theorem hd_X5_copyFrom : yX5_copyFrom.cls = RX5 ∧ yX5_copyFrom.cls ≠ "java/lang/invoke/MethodHandle" ∧ yX5_copyFrom.cls ≠ "java/lang/invoke/VarHandle" ∧ (parseMethodDescriptor yX5_copyFrom.desc).map (fun d => d.parameters.length) = some 1 := by decide +kernel
def f_X5_copyFrom_b10 (N : Nat) : Nat → ObjS → ObjS → Int32 → Option (ObjS)
  | 0, _, _, _ => none
  | n + 1, τ, υ, x2 => if τ.2 1 ≤ x2 then some τ else if 24 ≤ x2 then some τ else (f_X5_blockAt υ x2).bind fun r3 => gd x2 24 (cx_let (oA τ 0 (Int32.toNatClampNeg x2) r3) fun z6 => f_X5_copyFrom_b10 N n z6 υ (x2 + 1))
set_option maxHeartbeats 4000000 in
set_option maxRecDepth 100000 in
theorem w_X5_copyFrom_b10 {p : Program} {l : Launch} {e : Env} {s : State} {m : MethodId} {args : Array Value} {below : List Frame} {meth : Method} {c : Code} {G : va_G} {cA : Nat → ClassId} (C0 : cB p s m args meth c RX5 cX5_copyFrom 3 none G cA) {lo : Nat} {ad : Nat → Nat} {adother : Nat → Nat} {P : ObjS → ObjS → Heap → Prop} (hC : ∀ z0 : ObjS, cx G lo 2 ad (ceRow cA ad) (fun x => P x z0)) (hCother : ∀ z0 : ObjS, cx G lo 2 adother (ceRow cA adother) (fun x => P z0 x)) {N : Nat} {res : ObjS} : ∀ (n : Nat) (τ : ObjS) (υ : ObjS) (x2 : Int32) (H : Heap) (locs : List Loc) (ls : Array Slot), f_X5_copyFrom_b10 N n τ υ x2 = some res → P τ υ H → (∀ q ∈ locs, lo ≤ q.base) → lv_has ls 3 [(0, .ref (ad 0)), (1, .ref (adother 0)), (2, .int x2)] → W p l e rm_X5_copyFrom s m args below meth c H locs 0 0 (MQ below (cQ none (P res υ)) args s 0 0 (fun q => lo ≤ q)) (F0 m 10 ls []) := by
  obtain ⟨⟨hx, hb, hml, hown, hts⟩, hr, hlocks, hK⟩ := id C0
  intro n
  induction n with
  | zero => intro τ υ x2 H locs ls
            exact fun hf => nomatch hf
  | succ n ih =>
    intro τ υ x2 H locs ls hf hP hL hl
    rw [f_X5_copyFrom_b10] at hf
    refine lv_iload_n hx hb dX5_copyFrom_10 rfl (lv_at hl 2 rfl) ?_
    refine lv_aload_n hx hb dX5_copyFrom_11 rfl (lv_at hl 0 rfl) ?_
    refine g_Row_1 (hC υ) hP hx hb hts hown hK mw_200 dX5_copyFrom_12 ?_
    refine lv_icmp_ge (tgt := 44) hx hb dX5_copyFrom_15 (by decide) (fun c1 => ?_) (fun c1 => ?_)
    · have hf := cx_t hf c1
      cases hf
      exact cx_vret hx hb hr hlocks hP hL dX5_copyFrom_44
    · have hf := cx_f hf c1
      refine lv_iload_n hx hb dX5_copyFrom_18 rfl (lv_at hl 2 rfl) ?_
      refine lv_aload_n hx hb dX5_copyFrom_19 rfl (lv_at hl 0 rfl) ?_
      refine g_Row_0 (hC υ) hP hx hb hts hown hK mw_101 dX5_copyFrom_20 ?_
      refine la_Row_0 (hC υ) hP hx hb hK dX5_copyFrom_23 ?_
      refine lv_icmp_ge (tgt := 44) hx hb dX5_copyFrom_24 (by decide) (fun c2 => ?_) (fun c2 => ?_)
      · have hf := cx_t hf c2
        cases hf
        exact cx_vret hx hb hr hlocks hP hL dX5_copyFrom_44
      · have hf := cx_f hf c2
        refine lv_aload_n hx hb dX5_copyFrom_27 rfl (lv_at hl 0 rfl) ?_
        refine g_Row_0 (hC υ) hP hx hb hts hown hK mw_101 dX5_copyFrom_28 ?_
        refine lv_iload_n hx hb dX5_copyFrom_31 rfl (lv_at hl 2 rfl) ?_
        refine lv_aload_n hx hb dX5_copyFrom_32 rfl (lv_at hl 1 rfl) ?_
        refine lv_iload_n hx hb dX5_copyFrom_33 rfl (lv_at hl 2 rfl) ?_
        obtain ⟨r3, q4, hf⟩ := cx_b hf
        refine cx_callV (As := [.int x2]) (rest := [.int x2, .ref (ad 1)]) ⟨hx, hb, hml, hown, hts⟩ (c_X5_blockAt (hCother τ) q4) (cwV 1 hts (gV mw_201 mw_202 mw_203 mw_66 mw_204) rfl rfl rfl hd_X5_blockAt ⟨Nat.le_of_ble_eq_true rfl, Nat.le_of_ble_eq_true rfl⟩) hK hP rfl (at_Row (hCother τ) hP) rfl hl.1 rfl (Nat.le_of_ble_eq_true rfl) dX5_copyFrom_34 ⟨Nat.zero_le _, Nat.zero_le _⟩ hL (fun H locs hP hL => ?_)
        replace hP : P τ υ H := by first | exact hP | (simpa only [va_up_id] using hP)
        obtain ⟨hi5, hf⟩ := gdE hf
        obtain ⟨z6, ez6, hf⟩ := cx_letE hf
        refine pa_Row_0 (hC υ) hP hx hb hK hi5 dX5_copyFrom_37 hL (fun H locs hP hL => ?_)
        replace hP : P z6 υ H := by rw [← ez6]; exact hP
        refine lv_iinc (v := (x2 + 1)) (lv' := [(2, .int (x2 + 1)), (0, .ref (ad 0)), (1, .ref (adother 0))]) hx hb dX5_copyFrom_38 hl (k := 2) rfl rfl (by decide) rfl (fun ls hl => ?_)
        refine lv_goto (tgt := 10) hx hb dX5_copyFrom_41 (by decide) ?_
        exact ih z6 υ (x2 + 1) _ _ _ hf hP hL (lv_sub hl [1, 2, 0] rfl)
def f_X5_copyFrom (N : Nat) (τ : ObjS) (υ : ObjS) : Option (ObjS) := cx_let (oI τ 1 (υ.2 1)) fun z1 => f_X5_copyFrom_b10 N N z1 υ 0
set_option maxHeartbeats 4000000 in
set_option maxRecDepth 100000 in
theorem c_X5_copyFrom {l : Launch} {G : va_G} {cA : Nat → ClassId} {lo : Nat} {ad : Nat → Nat} {adother : Nat → Nat} {P : ObjS → ObjS → Heap → Prop} (hC : ∀ z0 : ObjS, cx G lo 2 ad (ceRow cA ad) (fun x => P x z0)) (hCother : ∀ z0 : ObjS, cx G lo 2 adother (ceRow cA adother) (fun x => P z0 x)) {N : Nat} {τ : ObjS} {υ : ObjS} {res : ObjS} (hf : f_X5_copyFrom N τ υ = some res) : Met l yX5_copyFrom (cW yX5_copyFrom cX5_copyFrom 3 none) rm_X5_copyFrom (cP [.ref (ad 0), .ref (adother 0)] (P τ υ) G cA) (cQ none (P res υ)) 0 0 (fun q => lo ≤ q) := by
  refine cx_met (by decide) (Nat.le_of_ble_eq_true rfl) (fun p e s m args below meth c ls C0 hP hl => ?_)
  have hl : lv_has ls 3 [(0, .ref (ad 0)), (1, .ref (adother 0))] := hl
  obtain ⟨⟨hx, hb, hml, hown, hts⟩, hr, hlocks, hK⟩ := id C0
  have hL : ∀ q ∈ ([] : List Loc), lo ≤ q.base := fun q h => nomatch h
  unfold f_X5_copyFrom at hf
  refine lv_aload_n hx hb dX5_copyFrom_0 rfl (lv_at hl 0 rfl) ?_
  refine lv_aload_n hx hb dX5_copyFrom_1 rfl (lv_at hl 1 rfl) ?_
  refine g_Row_1 (hCother τ) hP hx hb hts hown hK mw_200 dX5_copyFrom_2 ?_
  obtain ⟨z1, ez1, hf⟩ := cx_letE hf
  refine p_Row_1 (hC υ) hP hx hb hts hown hK mw_200 dX5_copyFrom_5 hL (fun H locs hP hL => ?_)
  replace hP : P z1 υ H := by rw [← ez1]; exact hP
  refine lv_iconst (v := 0) hx hb dX5_copyFrom_8 (by decide) ?_
  refine lv_istore_n (lv' := [(2, .int 0), (0, .ref (ad 0)), (1, .ref (adother 0))]) hx hb dX5_copyFrom_9 rfl hl (by decide) rfl (fun ls hl => ?_)
  exact w_X5_copyFrom_b10 C0 hC hCother N z1 υ 0 _ _ _ hf hP hL (lv_sub hl [1, 2, 0] rfl)
