abbrev rm_X2_startAfresh : Room := { frames := 0, cells := 0, slots := 0, locals := 0 }
theorem hd_X2_startAfresh : yX2_startAfresh.cls = RX2 ∧ yX2_startAfresh.cls ≠ "java/lang/invoke/MethodHandle" ∧ yX2_startAfresh.cls ≠ "java/lang/invoke/VarHandle" ∧ (parseMethodDescriptor yX2_startAfresh.desc).map (fun d => d.parameters.length) = some 1 := by decide +kernel
def f_X2_startAfresh (τ : ObjS) (p0 : Int32) : Option (ObjS) := cx_let (oI τ 0 p0) fun z1 => cx_let (oI z1 1 0) fun z2 => cx_let (oI z2 2 (-1)) fun z3 => cx_let (oI z3 3 0) fun z4 => cx_let (oI z4 4 0) fun z5 => cx_let (oI z5 5 0) fun z6 => cx_let (oI z6 6 0) fun z7 => cx_let (oI z7 7 0) fun z8 => some z8
set_option maxHeartbeats 4000000 in
set_option maxRecDepth 100000 in
theorem c_X2_startAfresh {l : Launch} {G : va_G} {cA : Nat → ClassId} {lo : Nat} {ad : Nat → Nat} {P : ObjS → Heap → Prop} (hC : cx G lo 1 ad (ceClient cA ad) P) {τ : ObjS} {p0 : Int32} {res : ObjS} (hf : f_X2_startAfresh τ p0 = some res) : Met l yX2_startAfresh (cW yX2_startAfresh cX2_startAfresh 2 none) rm_X2_startAfresh (cP [.ref (ad 0), .int p0] (P τ) G cA) (cQ none (P res)) 0 0 (fun q => lo ≤ q) := by
  refine cx_met (by decide) (Nat.le_of_ble_eq_true rfl) (fun p e s m args below meth c ls C0 hP hl => ?_)
  have hl : lv_has ls 2 [(0, .ref (ad 0)), (1, .int p0)] := hl
  obtain ⟨⟨hx, hb, hml, hown, hts⟩, hr, hlocks, hK⟩ := id C0
  have hL : ∀ q ∈ ([] : List Loc), lo ≤ q.base := fun q h => nomatch h
  unfold f_X2_startAfresh at hf
  refine lv_aload_n hx hb dX2_startAfresh_0 rfl (lv_at hl 0 rfl) ?_
  refine lv_iload_n hx hb dX2_startAfresh_1 rfl (lv_at hl 1 rfl) ?_
  obtain ⟨z1, ez1, hf⟩ := cx_letE hf
  refine p_Client_0 hC hP hx hb hts hown hK mw_213 dX2_startAfresh_2 hL (fun H locs hP hL => ?_)
  replace hP : P z1 H := by rw [← ez1]; exact hP
  refine lv_aload_n hx hb dX2_startAfresh_5 rfl (lv_at hl 0 rfl) ?_
  refine lv_iconst (v := 0) hx hb dX2_startAfresh_6 (by decide) ?_
  obtain ⟨z2, ez2, hf⟩ := cx_letE hf
  refine p_Client_1 hC hP hx hb hts hown hK mw_214 dX2_startAfresh_7 hL (fun H locs hP hL => ?_)
  replace hP : P z2 H := by rw [← ez2]; exact hP
  refine lv_aload_n hx hb dX2_startAfresh_10 rfl (lv_at hl 0 rfl) ?_
  refine lv_iconst (v := (-1)) hx hb dX2_startAfresh_11 (by decide) ?_
  obtain ⟨z3, ez3, hf⟩ := cx_letE hf
  refine p_Client_2 hC hP hx hb hts hown hK mw_106 dX2_startAfresh_12 hL (fun H locs hP hL => ?_)
  replace hP : P z3 H := by rw [← ez3]; exact hP
  refine lv_aload_n hx hb dX2_startAfresh_15 rfl (lv_at hl 0 rfl) ?_
  refine lv_iconst (v := 0) hx hb dX2_startAfresh_16 (by decide) ?_
  obtain ⟨z4, ez4, hf⟩ := cx_letE hf
  refine p_Client_3 hC hP hx hb hts hown hK mw_215 dX2_startAfresh_17 hL (fun H locs hP hL => ?_)
  replace hP : P z4 H := by rw [← ez4]; exact hP
  refine lv_aload_n hx hb dX2_startAfresh_20 rfl (lv_at hl 0 rfl) ?_
  refine lv_iconst (v := 0) hx hb dX2_startAfresh_21 (by decide) ?_
  obtain ⟨z5, ez5, hf⟩ := cx_letE hf
  refine p_Client_4 hC hP hx hb hts hown hK mw_216 dX2_startAfresh_22 hL (fun H locs hP hL => ?_)
  replace hP : P z5 H := by rw [← ez5]; exact hP
  refine lv_aload_n hx hb dX2_startAfresh_25 rfl (lv_at hl 0 rfl) ?_
  refine lv_iconst (v := 0) hx hb dX2_startAfresh_26 (by decide) ?_
  obtain ⟨z6, ez6, hf⟩ := cx_letE hf
  refine p_Client_5 hC hP hx hb hts hown hK mw_217 dX2_startAfresh_27 hL (fun H locs hP hL => ?_)
  replace hP : P z6 H := by rw [← ez6]; exact hP
  refine lv_aload_n hx hb dX2_startAfresh_30 rfl (lv_at hl 0 rfl) ?_
  refine lv_iconst (v := 0) hx hb dX2_startAfresh_31 (by decide) ?_
  obtain ⟨z7, ez7, hf⟩ := cx_letE hf
  refine p_Client_6 hC hP hx hb hts hown hK mw_218 dX2_startAfresh_32 hL (fun H locs hP hL => ?_)
  replace hP : P z7 H := by rw [← ez7]; exact hP
  refine lv_aload_n hx hb dX2_startAfresh_35 rfl (lv_at hl 0 rfl) ?_
  refine lv_iconst (v := 0) hx hb dX2_startAfresh_36 (by decide) ?_
  obtain ⟨z8, ez8, hf⟩ := cx_letE hf
  refine p_Client_7 hC hP hx hb hts hown hK mw_219 dX2_startAfresh_37 hL (fun H locs hP hL => ?_)
  replace hP : P z8 H := by rw [← ez8]; exact hP
  cases hf
  exact cx_vret hx hb hr hlocks hP hL dX2_startAfresh_40
abbrev rm_X2_runWith : Room := { frames := 0, cells := 0, slots := 0, locals := 0 }
theorem hd_X2_runWith : yX2_runWith.cls = RX2 ∧ yX2_runWith.cls ≠ "java/lang/invoke/MethodHandle" ∧ yX2_runWith.cls ≠ "java/lang/invoke/VarHandle" ∧ (parseMethodDescriptor yX2_runWith.desc).map (fun d => d.parameters.length) = some 1 := by decide +kernel
def f_X2_runWith (τ : ObjS) (p0 : Int32) : Option (Int32) := if τ.2 2 = (-1) then some 1 else if p0 = (τ.2 2 + 1) then some (τ.2 1 + 1) else some 1
set_option maxHeartbeats 4000000 in
set_option maxRecDepth 100000 in
theorem c_X2_runWith {l : Launch} {G : va_G} {cA : Nat → ClassId} {lo : Nat} {ad : Nat → Nat} {P : ObjS → Heap → Prop} (hC : cx G lo 1 ad (ceClient cA ad) P) {τ : ObjS} {p0 : Int32} {res : Int32} (hf : f_X2_runWith τ p0 = some res) : Met l yX2_runWith (cW yX2_runWith cX2_runWith 2 (some .int)) rm_X2_runWith (cP [.ref (ad 0), .int p0] (P τ) G cA) (cQ (some (.int res)) (P τ)) 0 0 (fun q => lo ≤ q) := by
  refine cx_met (by decide) (Nat.le_of_ble_eq_true rfl) (fun p e s m args below meth c ls C0 hP hl => ?_)
  have hl : lv_has ls 2 [(0, .ref (ad 0)), (1, .int p0)] := hl
  obtain ⟨⟨hx, hb, hml, hown, hts⟩, hr, hlocks, hK⟩ := id C0
  have hL : ∀ q ∈ ([] : List Loc), lo ≤ q.base := fun q h => nomatch h
  unfold f_X2_runWith at hf
  refine lv_aload_n hx hb dX2_runWith_0 rfl (lv_at hl 0 rfl) ?_
  refine g_Client_2 hC hP hx hb hts hown hK mw_106 dX2_runWith_1 ?_
  refine lv_iconst (v := (-1)) hx hb dX2_runWith_4 (by decide) ?_
  refine lv_icmp_eq (tgt := 27) hx hb dX2_runWith_5 (by decide) (fun c1 => ?_) (fun c1 => ?_)
  · have hf := cx_t hf c1
    refine lv_iconst (v := 1) hx hb dX2_runWith_27 (by decide) ?_
    cases hf
    exact cx_iret hx hb hr hlocks hP hL dX2_runWith_28
  · have hf := cx_f hf c1
    refine lv_iload_n hx hb dX2_runWith_8 rfl (lv_at hl 1 rfl) ?_
    refine lv_aload_n hx hb dX2_runWith_9 rfl (lv_at hl 0 rfl) ?_
    refine g_Client_2 hC hP hx hb hts hown hK mw_106 dX2_runWith_10 ?_
    refine lv_iconst (v := 1) hx hb dX2_runWith_13 (by decide) ?_
    refine lv_iadd hx hb dX2_runWith_14 ?_
    refine lv_icmp_ne (tgt := 27) hx hb dX2_runWith_15 (by decide) (fun c2 => ?_) (fun c2 => ?_)
    · have hf := cx_f hf c2
      refine lv_iconst (v := 1) hx hb dX2_runWith_27 (by decide) ?_
      cases hf
      exact cx_iret hx hb hr hlocks hP hL dX2_runWith_28
    · have hf := cx_t hf c2
      refine lv_aload_n hx hb dX2_runWith_18 rfl (lv_at hl 0 rfl) ?_
      refine g_Client_1 hC hP hx hb hts hown hK mw_214 dX2_runWith_19 ?_
      refine lv_iconst (v := 1) hx hb dX2_runWith_22 (by decide) ?_
      refine lv_iadd hx hb dX2_runWith_23 ?_
      refine lv_goto (tgt := 28) hx hb dX2_runWith_24 (by decide) ?_
      cases hf
      exact cx_iret hx hb hr hlocks hP hL dX2_runWith_28
abbrev rm_X2_countAccess : Room := { frames := 0, cells := 0, slots := 0, locals := 0 }
theorem hd_X2_countAccess : yX2_countAccess.cls = RX2 ∧ yX2_countAccess.cls ≠ "java/lang/invoke/MethodHandle" ∧ yX2_countAccess.cls ≠ "java/lang/invoke/VarHandle" ∧ (parseMethodDescriptor yX2_countAccess.desc).map (fun d => d.parameters.length) = some 2 := by decide +kernel
def f_X2_countAccess_b27 (τ : ObjS) (x1 : Int32) : Option (ObjS) := if x1 = 0 then cx_let (oI τ 5 (τ.2 5 + 1)) fun z5 => some z5 else if x1 = 1 then cx_let (oI τ 6 (τ.2 6 + 1)) fun z4 => some z4 else cx_let (oI τ 7 (τ.2 7 + 1)) fun z3 => some z3
set_option maxHeartbeats 4000000 in
set_option maxRecDepth 100000 in
theorem w_X2_countAccess_b27 {p : Program} {l : Launch} {e : Env} {s : State} {m : MethodId} {args : Array Value} {below : List Frame} {meth : Method} {c : Code} {G : va_G} {cA : Nat → ClassId} (C0 : cB p s m args meth c RX2 cX2_countAccess 3 none G cA) {lo : Nat} {ad : Nat → Nat} {P : ObjS → Heap → Prop} (hC : cx G lo 1 ad (ceClient cA ad) P) {res : ObjS} : ∀ (τ : ObjS) (x1 : Int32) (H : Heap) (locs : List Loc) (ls : Array Slot), f_X2_countAccess_b27 τ x1 = some res → P τ H → (∀ q ∈ locs, lo ≤ q.base) → lv_has ls 3 [(0, .ref (ad 0)), (1, .int x1)] → W p l e rm_X2_countAccess s m args below meth c H locs 0 0 (MQ below (cQ none (P res)) args s 0 0 (fun q => lo ≤ q)) (F0 m 27 ls []) := by
  obtain ⟨⟨hx, hb, hml, hown, hts⟩, hr, hlocks, hK⟩ := id C0
  intro τ x1 H locs ls hf hP hL hl
  unfold f_X2_countAccess_b27 at hf
  refine lv_iload_n hx hb dX2_countAccess_27 rfl (lv_at hl 1 rfl) ?_
  refine lv_if_ne (tgt := 44) hx hb dX2_countAccess_28 (by decide) (fun c1 => ?_) (fun c1 => ?_)
  · have hf := cx_f hf c1
    refine lv_iload_n hx hb dX2_countAccess_44 rfl (lv_at hl 1 rfl) ?_
    refine lv_iconst (v := 1) hx hb dX2_countAccess_45 (by decide) ?_
    refine lv_icmp_ne (tgt := 62) hx hb dX2_countAccess_46 (by decide) (fun c2 => ?_) (fun c2 => ?_)
    · have hf := cx_f hf c2
      refine lv_aload_n hx hb dX2_countAccess_62 rfl (lv_at hl 0 rfl) ?_
      refine lv_dup hx hb dX2_countAccess_63 rfl ?_
      refine g_Client_7 hC hP hx hb hts hown hK mw_219 dX2_countAccess_64 ?_
      refine lv_iconst (v := 1) hx hb dX2_countAccess_67 (by decide) ?_
      refine lv_iadd hx hb dX2_countAccess_68 ?_
      obtain ⟨z3, ez3, hf⟩ := cx_letE hf
      refine p_Client_7 hC hP hx hb hts hown hK mw_219 dX2_countAccess_69 hL (fun H locs hP hL => ?_)
      replace hP : P z3 H := by rw [← ez3]; exact hP
      cases hf
      exact cx_vret hx hb hr hlocks hP hL dX2_countAccess_72
    · have hf := cx_t hf c2
      refine lv_aload_n hx hb dX2_countAccess_49 rfl (lv_at hl 0 rfl) ?_
      refine lv_dup hx hb dX2_countAccess_50 rfl ?_
      refine g_Client_6 hC hP hx hb hts hown hK mw_218 dX2_countAccess_51 ?_
      refine lv_iconst (v := 1) hx hb dX2_countAccess_54 (by decide) ?_
      refine lv_iadd hx hb dX2_countAccess_55 ?_
      obtain ⟨z4, ez4, hf⟩ := cx_letE hf
      refine p_Client_6 hC hP hx hb hts hown hK mw_218 dX2_countAccess_56 hL (fun H locs hP hL => ?_)
      replace hP : P z4 H := by rw [← ez4]; exact hP
      refine lv_goto (tgt := 72) hx hb dX2_countAccess_59 (by decide) ?_
      cases hf
      exact cx_vret hx hb hr hlocks hP hL dX2_countAccess_72
  · have hf := cx_t hf c1
    refine lv_aload_n hx hb dX2_countAccess_31 rfl (lv_at hl 0 rfl) ?_
    refine lv_dup hx hb dX2_countAccess_32 rfl ?_
    refine g_Client_5 hC hP hx hb hts hown hK mw_217 dX2_countAccess_33 ?_
    refine lv_iconst (v := 1) hx hb dX2_countAccess_36 (by decide) ?_
    refine lv_iadd hx hb dX2_countAccess_37 ?_
    obtain ⟨z5, ez5, hf⟩ := cx_letE hf
    refine p_Client_5 hC hP hx hb hts hown hK mw_217 dX2_countAccess_38 hL (fun H locs hP hL => ?_)
    replace hP : P z5 H := by rw [← ez5]; exact hP
    refine lv_goto (tgt := 72) hx hb dX2_countAccess_41 (by decide) ?_
    cases hf
    exact cx_vret hx hb hr hlocks hP hL dX2_countAccess_72
def f_X2_countAccess (τ : ObjS) (p0 : Int32) (p1 : Int32) : Option (ObjS) := if p1 = 0 then cx_let (oI τ 3 (τ.2 3 + 1)) fun z2 => f_X2_countAccess_b27 z2 p0 else cx_let (oI τ 4 (τ.2 4 + 1)) fun z3 => f_X2_countAccess_b27 z3 p0
set_option maxHeartbeats 4000000 in
set_option maxRecDepth 100000 in
theorem c_X2_countAccess {l : Launch} {G : va_G} {cA : Nat → ClassId} {lo : Nat} {ad : Nat → Nat} {P : ObjS → Heap → Prop} (hC : cx G lo 1 ad (ceClient cA ad) P) {τ : ObjS} {p0 : Int32} {p1 : Int32} {res : ObjS} (hf : f_X2_countAccess τ p0 p1 = some res) : Met l yX2_countAccess (cW yX2_countAccess cX2_countAccess 3 none) rm_X2_countAccess (cP [.ref (ad 0), .int p0, .int p1] (P τ) G cA) (cQ none (P res)) 0 0 (fun q => lo ≤ q) := by
  refine cx_met (by decide) (Nat.le_of_ble_eq_true rfl) (fun p e s m args below meth c ls C0 hP hl => ?_)
  have hl : lv_has ls 3 [(0, .ref (ad 0)), (1, .int p0), (2, .int p1)] := hl
  obtain ⟨⟨hx, hb, hml, hown, hts⟩, hr, hlocks, hK⟩ := id C0
  have hL : ∀ q ∈ ([] : List Loc), lo ≤ q.base := fun q h => nomatch h
  unfold f_X2_countAccess at hf
  refine lv_iload_n hx hb dX2_countAccess_0 rfl (lv_at hl 2 rfl) ?_
  refine lv_if_eq (tgt := 17) hx hb dX2_countAccess_1 (by decide) (fun c1 => ?_) (fun c1 => ?_)
  · have hf := cx_t hf c1
    refine lv_aload_n hx hb dX2_countAccess_17 rfl (lv_at hl 0 rfl) ?_
    refine lv_dup hx hb dX2_countAccess_18 rfl ?_
    refine g_Client_3 hC hP hx hb hts hown hK mw_215 dX2_countAccess_19 ?_
    refine lv_iconst (v := 1) hx hb dX2_countAccess_22 (by decide) ?_
    refine lv_iadd hx hb dX2_countAccess_23 ?_
    obtain ⟨z2, ez2, hf⟩ := cx_letE hf
    refine p_Client_3 hC hP hx hb hts hown hK mw_215 dX2_countAccess_24 hL (fun H locs hP hL => ?_)
    replace hP : P z2 H := by rw [← ez2]; exact hP
    exact w_X2_countAccess_b27 C0 hC z2 p0 _ _ _ hf hP hL (lv_sub hl [0, 1] rfl)
  · have hf := cx_f hf c1
    refine lv_aload_n hx hb dX2_countAccess_4 rfl (lv_at hl 0 rfl) ?_
    refine lv_dup hx hb dX2_countAccess_5 rfl ?_
    refine g_Client_4 hC hP hx hb hts hown hK mw_216 dX2_countAccess_6 ?_
    refine lv_iconst (v := 1) hx hb dX2_countAccess_9 (by decide) ?_
    refine lv_iadd hx hb dX2_countAccess_10 ?_
    obtain ⟨z3, ez3, hf⟩ := cx_letE hf
    refine p_Client_4 hC hP hx hb hts hown hK mw_216 dX2_countAccess_11 hL (fun H locs hP hL => ?_)
    replace hP : P z3 H := by rw [← ez3]; exact hP
    refine lv_goto (tgt := 27) hx hb dX2_countAccess_14 (by decide) ?_
    exact w_X2_countAccess_b27 C0 hC z3 p0 _ _ _ hf hP hL (lv_sub hl [0, 1] rfl)
abbrev rm_X2_numberOf : Room := { frames := 0, cells := 0, slots := 0, locals := 0 }
theorem hd_X2_numberOf : yX2_numberOf.cls = RX2 ∧ yX2_numberOf.cls ≠ "java/lang/invoke/MethodHandle" ∧ yX2_numberOf.cls ≠ "java/lang/invoke/VarHandle" ∧ (parseMethodDescriptor yX2_numberOf.desc).map (fun d => d.parameters.length) = some 1 := by decide +kernel
def f_X2_numberOf (τ : ObjS) (p0 : Int32) : Option (Int32) := if p0 = 0 then some (τ.2 0) else if p0 = 1 then some (τ.2 7) else if p0 = 2 then some (τ.2 7) else if p0 = 3 then some (τ.2 1) else if p0 = 4 then some (τ.2 2) else if p0 = 5 then some (τ.2 3) else if p0 = 6 then some (τ.2 4) else if p0 = 7 then some (τ.2 5) else if p0 = 8 then some (τ.2 6) else some (τ.2 7)
set_option maxHeartbeats 4000000 in
set_option maxRecDepth 100000 in
theorem c_X2_numberOf {l : Launch} {G : va_G} {cA : Nat → ClassId} {lo : Nat} {ad : Nat → Nat} {P : ObjS → Heap → Prop} (hC : cx G lo 1 ad (ceClient cA ad) P) {τ : ObjS} {p0 : Int32} {res : Int32} (hf : f_X2_numberOf τ p0 = some res) : Met l yX2_numberOf (cW yX2_numberOf cX2_numberOf 2 (some .int)) rm_X2_numberOf (cP [.ref (ad 0), .int p0] (P τ) G cA) (cQ (some (.int res)) (P τ)) 0 0 (fun q => lo ≤ q) := by
  refine cx_met (by decide) (Nat.le_of_ble_eq_true rfl) (fun p e s m args below meth c ls C0 hP hl => ?_)
  have hl : lv_has ls 2 [(0, .ref (ad 0)), (1, .int p0)] := hl
  obtain ⟨⟨hx, hb, hml, hown, hts⟩, hr, hlocks, hK⟩ := id C0
  have hL : ∀ q ∈ ([] : List Loc), lo ≤ q.base := fun q h => nomatch h
  unfold f_X2_numberOf at hf
  refine lv_iload_n hx hb dX2_numberOf_0 rfl (lv_at hl 1 rfl) ?_
  by_cases c1 : p0 = 0
  · have hf := cx_t hf c1
    refine lv_tableIn (off := 51) (tgt := 52) hx hb dX2_numberOf_1 (by rw [c1]; decide) (by rw [c1]; decide) (by rw [c1]; rfl) (by decide) ?_
    refine lv_aload_n hx hb dX2_numberOf_52 rfl (lv_at hl 0 rfl) ?_
    refine g_Client_0 hC hP hx hb hts hown hK mw_213 dX2_numberOf_53 ?_
    cases hf
    exact cx_iret hx hb hr hlocks hP hL dX2_numberOf_56
  · have hf := cx_f hf c1
    by_cases c2 : p0 = 1
    · have hf := cx_t hf c2
      refine lv_tableIn (off := 86) (tgt := 87) hx hb dX2_numberOf_1 (by rw [c2]; decide) (by rw [c2]; decide) (by rw [c2]; rfl) (by decide) ?_
      refine lv_aload_n hx hb dX2_numberOf_87 rfl (lv_at hl 0 rfl) ?_
      refine g_Client_7 hC hP hx hb hts hown hK mw_219 dX2_numberOf_88 ?_
      cases hf
      exact cx_iret hx hb hr hlocks hP hL dX2_numberOf_91
    · have hf := cx_f hf c2
      by_cases c3 : p0 = 2
      · have hf := cx_t hf c3
        refine lv_tableIn (off := 86) (tgt := 87) hx hb dX2_numberOf_1 (by rw [c3]; decide) (by rw [c3]; decide) (by rw [c3]; rfl) (by decide) ?_
        refine lv_aload_n hx hb dX2_numberOf_87 rfl (lv_at hl 0 rfl) ?_
        refine g_Client_7 hC hP hx hb hts hown hK mw_219 dX2_numberOf_88 ?_
        cases hf
        exact cx_iret hx hb hr hlocks hP hL dX2_numberOf_91
      · have hf := cx_f hf c3
        by_cases c4 : p0 = 3
        · have hf := cx_t hf c4
          refine lv_tableIn (off := 56) (tgt := 57) hx hb dX2_numberOf_1 (by rw [c4]; decide) (by rw [c4]; decide) (by rw [c4]; rfl) (by decide) ?_
          refine lv_aload_n hx hb dX2_numberOf_57 rfl (lv_at hl 0 rfl) ?_
          refine g_Client_1 hC hP hx hb hts hown hK mw_214 dX2_numberOf_58 ?_
          cases hf
          exact cx_iret hx hb hr hlocks hP hL dX2_numberOf_61
        · have hf := cx_f hf c4
          by_cases c5 : p0 = 4
          · have hf := cx_t hf c5
            refine lv_tableIn (off := 61) (tgt := 62) hx hb dX2_numberOf_1 (by rw [c5]; decide) (by rw [c5]; decide) (by rw [c5]; rfl) (by decide) ?_
            refine lv_aload_n hx hb dX2_numberOf_62 rfl (lv_at hl 0 rfl) ?_
            refine g_Client_2 hC hP hx hb hts hown hK mw_106 dX2_numberOf_63 ?_
            cases hf
            exact cx_iret hx hb hr hlocks hP hL dX2_numberOf_66
          · have hf := cx_f hf c5
            by_cases c6 : p0 = 5
            · have hf := cx_t hf c6
              refine lv_tableIn (off := 66) (tgt := 67) hx hb dX2_numberOf_1 (by rw [c6]; decide) (by rw [c6]; decide) (by rw [c6]; rfl) (by decide) ?_
              refine lv_aload_n hx hb dX2_numberOf_67 rfl (lv_at hl 0 rfl) ?_
              refine g_Client_3 hC hP hx hb hts hown hK mw_215 dX2_numberOf_68 ?_
              cases hf
              exact cx_iret hx hb hr hlocks hP hL dX2_numberOf_71
            · have hf := cx_f hf c6
              by_cases c7 : p0 = 6
              · have hf := cx_t hf c7
                refine lv_tableIn (off := 71) (tgt := 72) hx hb dX2_numberOf_1 (by rw [c7]; decide) (by rw [c7]; decide) (by rw [c7]; rfl) (by decide) ?_
                refine lv_aload_n hx hb dX2_numberOf_72 rfl (lv_at hl 0 rfl) ?_
                refine g_Client_4 hC hP hx hb hts hown hK mw_216 dX2_numberOf_73 ?_
                cases hf
                exact cx_iret hx hb hr hlocks hP hL dX2_numberOf_76
              · have hf := cx_f hf c7
                by_cases c8 : p0 = 7
                · have hf := cx_t hf c8
                  refine lv_tableIn (off := 76) (tgt := 77) hx hb dX2_numberOf_1 (by rw [c8]; decide) (by rw [c8]; decide) (by rw [c8]; rfl) (by decide) ?_
                  refine lv_aload_n hx hb dX2_numberOf_77 rfl (lv_at hl 0 rfl) ?_
                  refine g_Client_5 hC hP hx hb hts hown hK mw_217 dX2_numberOf_78 ?_
                  cases hf
                  exact cx_iret hx hb hr hlocks hP hL dX2_numberOf_81
                · have hf := cx_f hf c8
                  by_cases c9 : p0 = 8
                  · have hf := cx_t hf c9
                    refine lv_tableIn (off := 81) (tgt := 82) hx hb dX2_numberOf_1 (by rw [c9]; decide) (by rw [c9]; decide) (by rw [c9]; rfl) (by decide) ?_
                    refine lv_aload_n hx hb dX2_numberOf_82 rfl (lv_at hl 0 rfl) ?_
                    refine g_Client_6 hC hP hx hb hts hown hK mw_218 dX2_numberOf_83 ?_
                    cases hf
                    exact cx_iret hx hb hr hlocks hP hL dX2_numberOf_86
                  · have hf := cx_f hf c9
                    refine lv_tableOut (tgt := 87) hx hb dX2_numberOf_1 (by have := lv_neT (a := 0) c1 (by decide); have := lv_neT (a := 1) c2 (by decide); have := lv_neT (a := 2) c3 (by decide); have := lv_neT (a := 3) c4 (by decide); have := lv_neT (a := 4) c5 (by decide); have := lv_neT (a := 5) c6 (by decide); have := lv_neT (a := 6) c7 (by decide); have := lv_neT (a := 7) c8 (by decide); have := lv_neT (a := 8) c9 (by decide); omega) (by decide) ?_
                    refine lv_aload_n hx hb dX2_numberOf_87 rfl (lv_at hl 0 rfl) ?_
                    refine g_Client_7 hC hP hx hb hts hown hK mw_219 dX2_numberOf_88 ?_
                    cases hf
                    exact cx_iret hx hb hr hlocks hP hL dX2_numberOf_91
abbrev rm_X2_copyFrom : Room := { frames := 0, cells := 0, slots := 0, locals := 0 }
theorem hd_X2_copyFrom : yX2_copyFrom.cls = RX2 ∧ yX2_copyFrom.cls ≠ "java/lang/invoke/MethodHandle" ∧ yX2_copyFrom.cls ≠ "java/lang/invoke/VarHandle" ∧ (parseMethodDescriptor yX2_copyFrom.desc).map (fun d => d.parameters.length) = some 1 := by decide +kernel
def f_X2_copyFrom (τ : ObjS) (υ : ObjS) : Option (ObjS) := cx_let (oI τ 0 (υ.2 0)) fun z1 => cx_let (oI z1 1 (υ.2 1)) fun z2 => cx_let (oI z2 2 (υ.2 2)) fun z3 => cx_let (oI z3 3 (υ.2 3)) fun z4 => cx_let (oI z4 4 (υ.2 4)) fun z5 => cx_let (oI z5 5 (υ.2 5)) fun z6 => cx_let (oI z6 6 (υ.2 6)) fun z7 => cx_let (oI z7 7 (υ.2 7)) fun z8 => some z8
set_option maxHeartbeats 4000000 in
set_option maxRecDepth 100000 in
theorem c_X2_copyFrom {l : Launch} {G : va_G} {cA : Nat → ClassId} {lo : Nat} {ad : Nat → Nat} {adother : Nat → Nat} {P : ObjS → ObjS → Heap → Prop} (hC : ∀ z0 : ObjS, cx G lo 1 ad (ceClient cA ad) (fun x => P x z0)) (hCother : ∀ z0 : ObjS, cx G lo 1 adother (ceClient cA adother) (fun x => P z0 x)) {τ : ObjS} {υ : ObjS} {res : ObjS} (hf : f_X2_copyFrom τ υ = some res) : Met l yX2_copyFrom (cW yX2_copyFrom cX2_copyFrom 2 none) rm_X2_copyFrom (cP [.ref (ad 0), .ref (adother 0)] (P τ υ) G cA) (cQ none (P res υ)) 0 0 (fun q => lo ≤ q) := by
  refine cx_met (by decide) (Nat.le_of_ble_eq_true rfl) (fun p e s m args below meth c ls C0 hP hl => ?_)
  have hl : lv_has ls 2 [(0, .ref (ad 0)), (1, .ref (adother 0))] := hl
  obtain ⟨⟨hx, hb, hml, hown, hts⟩, hr, hlocks, hK⟩ := id C0
  have hL : ∀ q ∈ ([] : List Loc), lo ≤ q.base := fun q h => nomatch h
  unfold f_X2_copyFrom at hf
  refine lv_aload_n hx hb dX2_copyFrom_0 rfl (lv_at hl 0 rfl) ?_
  refine lv_aload_n hx hb dX2_copyFrom_1 rfl (lv_at hl 1 rfl) ?_
  refine g_Client_0 (hCother τ) hP hx hb hts hown hK mw_213 dX2_copyFrom_2 ?_
  obtain ⟨z1, ez1, hf⟩ := cx_letE hf
  refine p_Client_0 (hC υ) hP hx hb hts hown hK mw_213 dX2_copyFrom_5 hL (fun H locs hP hL => ?_)
  replace hP : P z1 υ H := by rw [← ez1]; exact hP
  refine lv_aload_n hx hb dX2_copyFrom_8 rfl (lv_at hl 0 rfl) ?_
  refine lv_aload_n hx hb dX2_copyFrom_9 rfl (lv_at hl 1 rfl) ?_
  refine g_Client_1 (hCother z1) hP hx hb hts hown hK mw_214 dX2_copyFrom_10 ?_
  obtain ⟨z2, ez2, hf⟩ := cx_letE hf
  refine p_Client_1 (hC υ) hP hx hb hts hown hK mw_214 dX2_copyFrom_13 hL (fun H locs hP hL => ?_)
  replace hP : P z2 υ H := by rw [← ez2]; exact hP
  refine lv_aload_n hx hb dX2_copyFrom_16 rfl (lv_at hl 0 rfl) ?_
  refine lv_aload_n hx hb dX2_copyFrom_17 rfl (lv_at hl 1 rfl) ?_
  refine g_Client_2 (hCother z2) hP hx hb hts hown hK mw_106 dX2_copyFrom_18 ?_
  obtain ⟨z3, ez3, hf⟩ := cx_letE hf
  refine p_Client_2 (hC υ) hP hx hb hts hown hK mw_106 dX2_copyFrom_21 hL (fun H locs hP hL => ?_)
  replace hP : P z3 υ H := by rw [← ez3]; exact hP
  refine lv_aload_n hx hb dX2_copyFrom_24 rfl (lv_at hl 0 rfl) ?_
  refine lv_aload_n hx hb dX2_copyFrom_25 rfl (lv_at hl 1 rfl) ?_
  refine g_Client_3 (hCother z3) hP hx hb hts hown hK mw_215 dX2_copyFrom_26 ?_
  obtain ⟨z4, ez4, hf⟩ := cx_letE hf
  refine p_Client_3 (hC υ) hP hx hb hts hown hK mw_215 dX2_copyFrom_29 hL (fun H locs hP hL => ?_)
  replace hP : P z4 υ H := by rw [← ez4]; exact hP
  refine lv_aload_n hx hb dX2_copyFrom_32 rfl (lv_at hl 0 rfl) ?_
  refine lv_aload_n hx hb dX2_copyFrom_33 rfl (lv_at hl 1 rfl) ?_
  refine g_Client_4 (hCother z4) hP hx hb hts hown hK mw_216 dX2_copyFrom_34 ?_
  obtain ⟨z5, ez5, hf⟩ := cx_letE hf
  refine p_Client_4 (hC υ) hP hx hb hts hown hK mw_216 dX2_copyFrom_37 hL (fun H locs hP hL => ?_)
  replace hP : P z5 υ H := by rw [← ez5]; exact hP
  refine lv_aload_n hx hb dX2_copyFrom_40 rfl (lv_at hl 0 rfl) ?_
  refine lv_aload_n hx hb dX2_copyFrom_41 rfl (lv_at hl 1 rfl) ?_
  refine g_Client_5 (hCother z5) hP hx hb hts hown hK mw_217 dX2_copyFrom_42 ?_
  obtain ⟨z6, ez6, hf⟩ := cx_letE hf
  refine p_Client_5 (hC υ) hP hx hb hts hown hK mw_217 dX2_copyFrom_45 hL (fun H locs hP hL => ?_)
  replace hP : P z6 υ H := by rw [← ez6]; exact hP
  refine lv_aload_n hx hb dX2_copyFrom_48 rfl (lv_at hl 0 rfl) ?_
  refine lv_aload_n hx hb dX2_copyFrom_49 rfl (lv_at hl 1 rfl) ?_
  refine g_Client_6 (hCother z6) hP hx hb hts hown hK mw_218 dX2_copyFrom_50 ?_
  obtain ⟨z7, ez7, hf⟩ := cx_letE hf
  refine p_Client_6 (hC υ) hP hx hb hts hown hK mw_218 dX2_copyFrom_53 hL (fun H locs hP hL => ?_)
  replace hP : P z7 υ H := by rw [← ez7]; exact hP
  refine lv_aload_n hx hb dX2_copyFrom_56 rfl (lv_at hl 0 rfl) ?_
  refine lv_aload_n hx hb dX2_copyFrom_57 rfl (lv_at hl 1 rfl) ?_
  refine g_Client_7 (hCother z7) hP hx hb hts hown hK mw_219 dX2_copyFrom_58 ?_
  obtain ⟨z8, ez8, hf⟩ := cx_letE hf
  refine p_Client_7 (hC υ) hP hx hb hts hown hK mw_219 dX2_copyFrom_61 hL (fun H locs hP hL => ?_)
  replace hP : P z8 υ H := by rw [← ez8]; exact hP
  cases hf
  exact cx_vret hx hb hr hlocks hP hL dX2_copyFrom_64
abbrev rm_X6_countAccess : Room := { frames := 0, cells := 0, slots := 0, locals := 0 }
theorem hd_X6_countAccess : yX6_countAccess.cls = RX6 ∧ yX6_countAccess.cls ≠ "java/lang/invoke/MethodHandle" ∧ yX6_countAccess.cls ≠ "java/lang/invoke/VarHandle" ∧ (parseMethodDescriptor yX6_countAccess.desc).map (fun d => d.parameters.length) = some 2 := by decide +kernel
def f_X6_countAccess_b34 (τ : ObjS) (x1 : Int32) : Option (ObjS) := if x1 = 0 then cx_let (oI τ 1 (τ.2 1 + 1)) fun z5 => some z5 else if x1 = 1 then cx_let (oI τ 2 (τ.2 2 + 1)) fun z4 => some z4 else cx_let (oI τ 3 (τ.2 3 + 1)) fun z3 => some z3
set_option maxHeartbeats 4000000 in
set_option maxRecDepth 100000 in
theorem w_X6_countAccess_b34 {p : Program} {l : Launch} {e : Env} {s : State} {m : MethodId} {args : Array Value} {below : List Frame} {meth : Method} {c : Code} {G : va_G} {cA : Nat → ClassId} (C0 : cB p s m args meth c RX6 cX6_countAccess 3 none G cA) {lo : Nat} {ad : Nat → Nat} {P : ObjS → Heap → Prop} (hC : cx G lo 1 ad (ceTally cA ad) P) {res : ObjS} : ∀ (τ : ObjS) (x1 : Int32) (H : Heap) (locs : List Loc) (ls : Array Slot), f_X6_countAccess_b34 τ x1 = some res → P τ H → (∀ q ∈ locs, lo ≤ q.base) → lv_has ls 3 [(0, .ref (ad 0)), (1, .int x1)] → W p l e rm_X6_countAccess s m args below meth c H locs 0 0 (MQ below (cQ none (P res)) args s 0 0 (fun q => lo ≤ q)) (F0 m 34 ls []) := by
  obtain ⟨⟨hx, hb, hml, hown, hts⟩, hr, hlocks, hK⟩ := id C0
  intro τ x1 H locs ls hf hP hL hl
  unfold f_X6_countAccess_b34 at hf
  refine lv_iload_n hx hb dX6_countAccess_34 rfl (lv_at hl 1 rfl) ?_
  refine lv_if_ne (tgt := 51) hx hb dX6_countAccess_35 (by decide) (fun c1 => ?_) (fun c1 => ?_)
  · have hf := cx_f hf c1
    refine lv_iload_n hx hb dX6_countAccess_51 rfl (lv_at hl 1 rfl) ?_
    refine lv_iconst (v := 1) hx hb dX6_countAccess_52 (by decide) ?_
    refine lv_icmp_ne (tgt := 69) hx hb dX6_countAccess_53 (by decide) (fun c2 => ?_) (fun c2 => ?_)
    · have hf := cx_f hf c2
      refine lv_aload_n hx hb dX6_countAccess_69 rfl (lv_at hl 0 rfl) ?_
      refine lv_dup hx hb dX6_countAccess_70 rfl ?_
      refine g_Tally_3 hC hP hx hb hts hown hK mw_190 dX6_countAccess_71 ?_
      refine lv_iconst (v := 1) hx hb dX6_countAccess_74 (by decide) ?_
      refine lv_iadd hx hb dX6_countAccess_75 ?_
      obtain ⟨z3, ez3, hf⟩ := cx_letE hf
      refine p_Tally_3 hC hP hx hb hts hown hK mw_190 dX6_countAccess_76 hL (fun H locs hP hL => ?_)
      replace hP : P z3 H := by rw [← ez3]; exact hP
      cases hf
      exact cx_vret hx hb hr hlocks hP hL dX6_countAccess_79
    · have hf := cx_t hf c2
      refine lv_aload_n hx hb dX6_countAccess_56 rfl (lv_at hl 0 rfl) ?_
      refine lv_dup hx hb dX6_countAccess_57 rfl ?_
      refine g_Tally_2 hC hP hx hb hts hown hK mw_189 dX6_countAccess_58 ?_
      refine lv_iconst (v := 1) hx hb dX6_countAccess_61 (by decide) ?_
      refine lv_iadd hx hb dX6_countAccess_62 ?_
      obtain ⟨z4, ez4, hf⟩ := cx_letE hf
      refine p_Tally_2 hC hP hx hb hts hown hK mw_189 dX6_countAccess_63 hL (fun H locs hP hL => ?_)
      replace hP : P z4 H := by rw [← ez4]; exact hP
      refine lv_goto (tgt := 79) hx hb dX6_countAccess_66 (by decide) ?_
      cases hf
      exact cx_vret hx hb hr hlocks hP hL dX6_countAccess_79
  · have hf := cx_t hf c1
    refine lv_aload_n hx hb dX6_countAccess_38 rfl (lv_at hl 0 rfl) ?_
    refine lv_dup hx hb dX6_countAccess_39 rfl ?_
    refine g_Tally_1 hC hP hx hb hts hown hK mw_188 dX6_countAccess_40 ?_
    refine lv_iconst (v := 1) hx hb dX6_countAccess_43 (by decide) ?_
    refine lv_iadd hx hb dX6_countAccess_44 ?_
    obtain ⟨z5, ez5, hf⟩ := cx_letE hf
    refine p_Tally_1 hC hP hx hb hts hown hK mw_188 dX6_countAccess_45 hL (fun H locs hP hL => ?_)
    replace hP : P z5 H := by rw [← ez5]; exact hP
    refine lv_goto (tgt := 79) hx hb dX6_countAccess_48 (by decide) ?_
    cases hf
    exact cx_vret hx hb hr hlocks hP hL dX6_countAccess_79
def f_X6_countAccess (τ : ObjS) (p0 : Int32) (p1 : Int32) : Option (ObjS) := cx_let (oI τ 0 (τ.2 0 + 1)) fun z1 => cx_let (oI z1 9 (-1)) fun z2 => cx_let (oI z2 10 (-1)) fun z3 => if p1 = 0 then f_X6_countAccess_b34 z3 p0 else cx_let (oI z3 8 (z3.2 8 + 1)) fun z5 => f_X6_countAccess_b34 z5 p0
set_option maxHeartbeats 4000000 in
set_option maxRecDepth 100000 in
theorem c_X6_countAccess {l : Launch} {G : va_G} {cA : Nat → ClassId} {lo : Nat} {ad : Nat → Nat} {P : ObjS → Heap → Prop} (hC : cx G lo 1 ad (ceTally cA ad) P) {τ : ObjS} {p0 : Int32} {p1 : Int32} {res : ObjS} (hf : f_X6_countAccess τ p0 p1 = some res) : Met l yX6_countAccess (cW yX6_countAccess cX6_countAccess 3 none) rm_X6_countAccess (cP [.ref (ad 0), .int p0, .int p1] (P τ) G cA) (cQ none (P res)) 0 0 (fun q => lo ≤ q) := by
  refine cx_met (by decide) (Nat.le_of_ble_eq_true rfl) (fun p e s m args below meth c ls C0 hP hl => ?_)
  have hl : lv_has ls 3 [(0, .ref (ad 0)), (1, .int p0), (2, .int p1)] := hl
  obtain ⟨⟨hx, hb, hml, hown, hts⟩, hr, hlocks, hK⟩ := id C0
  have hL : ∀ q ∈ ([] : List Loc), lo ≤ q.base := fun q h => nomatch h
  unfold f_X6_countAccess at hf
  refine lv_aload_n hx hb dX6_countAccess_0 rfl (lv_at hl 0 rfl) ?_
  refine lv_dup hx hb dX6_countAccess_1 rfl ?_
  refine g_Tally_0 hC hP hx hb hts hown hK mw_187 dX6_countAccess_2 ?_
  refine lv_iconst (v := 1) hx hb dX6_countAccess_5 (by decide) ?_
  refine lv_iadd hx hb dX6_countAccess_6 ?_
  obtain ⟨z1, ez1, hf⟩ := cx_letE hf
  refine p_Tally_0 hC hP hx hb hts hown hK mw_187 dX6_countAccess_7 hL (fun H locs hP hL => ?_)
  replace hP : P z1 H := by rw [← ez1]; exact hP
  refine lv_aload_n hx hb dX6_countAccess_10 rfl (lv_at hl 0 rfl) ?_
  refine lv_iconst (v := (-1)) hx hb dX6_countAccess_11 (by decide) ?_
  obtain ⟨z2, ez2, hf⟩ := cx_letE hf
  refine p_Tally_9 hC hP hx hb hts hown hK mw_95 dX6_countAccess_12 hL (fun H locs hP hL => ?_)
  replace hP : P z2 H := by rw [← ez2]; exact hP
  refine lv_aload_n hx hb dX6_countAccess_15 rfl (lv_at hl 0 rfl) ?_
  refine lv_iconst (v := (-1)) hx hb dX6_countAccess_16 (by decide) ?_
  obtain ⟨z3, ez3, hf⟩ := cx_letE hf
  refine p_Tally_10 hC hP hx hb hts hown hK mw_96 dX6_countAccess_17 hL (fun H locs hP hL => ?_)
  replace hP : P z3 H := by rw [← ez3]; exact hP
  refine lv_iload_n hx hb dX6_countAccess_20 rfl (lv_at hl 2 rfl) ?_
  refine lv_if_eq (tgt := 34) hx hb dX6_countAccess_21 (by decide) (fun c4 => ?_) (fun c4 => ?_)
  · have hf := cx_t hf c4
    exact w_X6_countAccess_b34 C0 hC z3 p0 _ _ _ hf hP hL (lv_sub hl [0, 1] rfl)
  · have hf := cx_f hf c4
    refine lv_aload_n hx hb dX6_countAccess_24 rfl (lv_at hl 0 rfl) ?_
    refine lv_dup hx hb dX6_countAccess_25 rfl ?_
    refine g_Tally_8 hC hP hx hb hts hown hK mw_195 dX6_countAccess_26 ?_
    refine lv_iconst (v := 1) hx hb dX6_countAccess_29 (by decide) ?_
    refine lv_iadd hx hb dX6_countAccess_30 ?_
    obtain ⟨z5, ez5, hf⟩ := cx_letE hf
    refine p_Tally_8 hC hP hx hb hts hown hK mw_195 dX6_countAccess_31 hL (fun H locs hP hL => ?_)
    replace hP : P z5 H := by rw [← ez5]; exact hP
    exact w_X6_countAccess_b34 C0 hC z5 p0 _ _ _ hf hP hL (lv_sub hl [0, 1] rfl)
abbrev rm_X6_numberOf : Room := { frames := 0, cells := 0, slots := 0, locals := 0 }
theorem hd_X6_numberOf : yX6_numberOf.cls = RX6 ∧ yX6_numberOf.cls ≠ "java/lang/invoke/MethodHandle" ∧ yX6_numberOf.cls ≠ "java/lang/invoke/VarHandle" ∧ (parseMethodDescriptor yX6_numberOf.desc).map (fun d => d.parameters.length) = some 1 := by decide +kernel
def f_X6_numberOf (τ : ObjS) (p0 : Int32) : Option (Int32) := if p0 = 5 then some (τ.2 0) else if p0 = 6 then some (τ.2 8) else if p0 = 7 then some (τ.2 8) else if p0 = 8 then some (τ.2 8) else if p0 = 9 then some (τ.2 8) else if p0 = 10 then some (τ.2 8) else if p0 = 11 then some (τ.2 8) else if p0 = 12 then some (τ.2 8) else if p0 = 13 then some (τ.2 8) else if p0 = 14 then some (τ.2 1) else if p0 = 15 then some (τ.2 2) else if p0 = 16 then some (τ.2 3) else if p0 = 17 then some (τ.2 4) else if p0 = 18 then some (τ.2 5) else if p0 = 19 then some (τ.2 6) else if p0 = 20 then some (τ.2 7) else some (τ.2 8)
set_option maxHeartbeats 4000000 in
set_option maxRecDepth 100000 in
theorem c_X6_numberOf {l : Launch} {G : va_G} {cA : Nat → ClassId} {lo : Nat} {ad : Nat → Nat} {P : ObjS → Heap → Prop} (hC : cx G lo 1 ad (ceTally cA ad) P) {τ : ObjS} {p0 : Int32} {res : Int32} (hf : f_X6_numberOf τ p0 = some res) : Met l yX6_numberOf (cW yX6_numberOf cX6_numberOf 2 (some .int)) rm_X6_numberOf (cP [.ref (ad 0), .int p0] (P τ) G cA) (cQ (some (.int res)) (P τ)) 0 0 (fun q => lo ≤ q) := by
  refine cx_met (by decide) (Nat.le_of_ble_eq_true rfl) (fun p e s m args below meth c ls C0 hP hl => ?_)
  have hl : lv_has ls 2 [(0, .ref (ad 0)), (1, .int p0)] := hl
  obtain ⟨⟨hx, hb, hml, hown, hts⟩, hr, hlocks, hK⟩ := id C0
  have hL : ∀ q ∈ ([] : List Loc), lo ≤ q.base := fun q h => nomatch h
  unfold f_X6_numberOf at hf
  refine lv_iload_n hx hb dX6_numberOf_0 rfl (lv_at hl 1 rfl) ?_
  by_cases c1 : p0 = 5
  · have hf := cx_t hf c1
    refine lv_tableIn (off := 79) (tgt := 80) hx hb dX6_numberOf_1 (by rw [c1]; decide) (by rw [c1]; decide) (by rw [c1]; rfl) (by decide) ?_
    refine lv_aload_n hx hb dX6_numberOf_80 rfl (lv_at hl 0 rfl) ?_
    refine g_Tally_0 hC hP hx hb hts hown hK mw_187 dX6_numberOf_81 ?_
    cases hf
    exact cx_iret hx hb hr hlocks hP hL dX6_numberOf_84
  · have hf := cx_f hf c1
    by_cases c2 : p0 = 6
    · have hf := cx_t hf c2
      refine lv_tableIn (off := 119) (tgt := 120) hx hb dX6_numberOf_1 (by rw [c2]; decide) (by rw [c2]; decide) (by rw [c2]; rfl) (by decide) ?_
      refine lv_aload_n hx hb dX6_numberOf_120 rfl (lv_at hl 0 rfl) ?_
      refine g_Tally_8 hC hP hx hb hts hown hK mw_195 dX6_numberOf_121 ?_
      cases hf
      exact cx_iret hx hb hr hlocks hP hL dX6_numberOf_124
    · have hf := cx_f hf c2
      by_cases c3 : p0 = 7
      · have hf := cx_t hf c3
        refine lv_tableIn (off := 119) (tgt := 120) hx hb dX6_numberOf_1 (by rw [c3]; decide) (by rw [c3]; decide) (by rw [c3]; rfl) (by decide) ?_
        refine lv_aload_n hx hb dX6_numberOf_120 rfl (lv_at hl 0 rfl) ?_
        refine g_Tally_8 hC hP hx hb hts hown hK mw_195 dX6_numberOf_121 ?_
        cases hf
        exact cx_iret hx hb hr hlocks hP hL dX6_numberOf_124
      · have hf := cx_f hf c3
        by_cases c4 : p0 = 8
        · have hf := cx_t hf c4
          refine lv_tableIn (off := 119) (tgt := 120) hx hb dX6_numberOf_1 (by rw [c4]; decide) (by rw [c4]; decide) (by rw [c4]; rfl) (by decide) ?_
          refine lv_aload_n hx hb dX6_numberOf_120 rfl (lv_at hl 0 rfl) ?_
          refine g_Tally_8 hC hP hx hb hts hown hK mw_195 dX6_numberOf_121 ?_
          cases hf
          exact cx_iret hx hb hr hlocks hP hL dX6_numberOf_124
        · have hf := cx_f hf c4
          by_cases c5 : p0 = 9
          · have hf := cx_t hf c5
            refine lv_tableIn (off := 119) (tgt := 120) hx hb dX6_numberOf_1 (by rw [c5]; decide) (by rw [c5]; decide) (by rw [c5]; rfl) (by decide) ?_
            refine lv_aload_n hx hb dX6_numberOf_120 rfl (lv_at hl 0 rfl) ?_
            refine g_Tally_8 hC hP hx hb hts hown hK mw_195 dX6_numberOf_121 ?_
            cases hf
            exact cx_iret hx hb hr hlocks hP hL dX6_numberOf_124
          · have hf := cx_f hf c5
            by_cases c6 : p0 = 10
            · have hf := cx_t hf c6
              refine lv_tableIn (off := 119) (tgt := 120) hx hb dX6_numberOf_1 (by rw [c6]; decide) (by rw [c6]; decide) (by rw [c6]; rfl) (by decide) ?_
              refine lv_aload_n hx hb dX6_numberOf_120 rfl (lv_at hl 0 rfl) ?_
              refine g_Tally_8 hC hP hx hb hts hown hK mw_195 dX6_numberOf_121 ?_
              cases hf
              exact cx_iret hx hb hr hlocks hP hL dX6_numberOf_124
            · have hf := cx_f hf c6
              by_cases c7 : p0 = 11
              · have hf := cx_t hf c7
                refine lv_tableIn (off := 119) (tgt := 120) hx hb dX6_numberOf_1 (by rw [c7]; decide) (by rw [c7]; decide) (by rw [c7]; rfl) (by decide) ?_
                refine lv_aload_n hx hb dX6_numberOf_120 rfl (lv_at hl 0 rfl) ?_
                refine g_Tally_8 hC hP hx hb hts hown hK mw_195 dX6_numberOf_121 ?_
                cases hf
                exact cx_iret hx hb hr hlocks hP hL dX6_numberOf_124
              · have hf := cx_f hf c7
                by_cases c8 : p0 = 12
                · have hf := cx_t hf c8
                  refine lv_tableIn (off := 119) (tgt := 120) hx hb dX6_numberOf_1 (by rw [c8]; decide) (by rw [c8]; decide) (by rw [c8]; rfl) (by decide) ?_
                  refine lv_aload_n hx hb dX6_numberOf_120 rfl (lv_at hl 0 rfl) ?_
                  refine g_Tally_8 hC hP hx hb hts hown hK mw_195 dX6_numberOf_121 ?_
                  cases hf
                  exact cx_iret hx hb hr hlocks hP hL dX6_numberOf_124
                · have hf := cx_f hf c8
                  by_cases c9 : p0 = 13
                  · have hf := cx_t hf c9
                    refine lv_tableIn (off := 119) (tgt := 120) hx hb dX6_numberOf_1 (by rw [c9]; decide) (by rw [c9]; decide) (by rw [c9]; rfl) (by decide) ?_
                    refine lv_aload_n hx hb dX6_numberOf_120 rfl (lv_at hl 0 rfl) ?_
                    refine g_Tally_8 hC hP hx hb hts hown hK mw_195 dX6_numberOf_121 ?_
                    cases hf
                    exact cx_iret hx hb hr hlocks hP hL dX6_numberOf_124
                  · have hf := cx_f hf c9
                    by_cases c10 : p0 = 14
                    · have hf := cx_t hf c10
                      refine lv_tableIn (off := 84) (tgt := 85) hx hb dX6_numberOf_1 (by rw [c10]; decide) (by rw [c10]; decide) (by rw [c10]; rfl) (by decide) ?_
                      refine lv_aload_n hx hb dX6_numberOf_85 rfl (lv_at hl 0 rfl) ?_
                      refine g_Tally_1 hC hP hx hb hts hown hK mw_188 dX6_numberOf_86 ?_
                      cases hf
                      exact cx_iret hx hb hr hlocks hP hL dX6_numberOf_89
                    · have hf := cx_f hf c10
                      by_cases c11 : p0 = 15
                      · have hf := cx_t hf c11
                        refine lv_tableIn (off := 89) (tgt := 90) hx hb dX6_numberOf_1 (by rw [c11]; decide) (by rw [c11]; decide) (by rw [c11]; rfl) (by decide) ?_
                        refine lv_aload_n hx hb dX6_numberOf_90 rfl (lv_at hl 0 rfl) ?_
                        refine g_Tally_2 hC hP hx hb hts hown hK mw_189 dX6_numberOf_91 ?_
                        cases hf
                        exact cx_iret hx hb hr hlocks hP hL dX6_numberOf_94
                      · have hf := cx_f hf c11
                        by_cases c12 : p0 = 16
                        · have hf := cx_t hf c12
                          refine lv_tableIn (off := 94) (tgt := 95) hx hb dX6_numberOf_1 (by rw [c12]; decide) (by rw [c12]; decide) (by rw [c12]; rfl) (by decide) ?_
                          refine lv_aload_n hx hb dX6_numberOf_95 rfl (lv_at hl 0 rfl) ?_
                          refine g_Tally_3 hC hP hx hb hts hown hK mw_190 dX6_numberOf_96 ?_
                          cases hf
                          exact cx_iret hx hb hr hlocks hP hL dX6_numberOf_99
                        · have hf := cx_f hf c12
                          by_cases c13 : p0 = 17
                          · have hf := cx_t hf c13
                            refine lv_tableIn (off := 99) (tgt := 100) hx hb dX6_numberOf_1 (by rw [c13]; decide) (by rw [c13]; decide) (by rw [c13]; rfl) (by decide) ?_
                            refine lv_aload_n hx hb dX6_numberOf_100 rfl (lv_at hl 0 rfl) ?_
                            refine g_Tally_4 hC hP hx hb hts hown hK mw_191 dX6_numberOf_101 ?_
                            cases hf
                            exact cx_iret hx hb hr hlocks hP hL dX6_numberOf_104
                          · have hf := cx_f hf c13
                            by_cases c14 : p0 = 18
                            · have hf := cx_t hf c14
                              refine lv_tableIn (off := 104) (tgt := 105) hx hb dX6_numberOf_1 (by rw [c14]; decide) (by rw [c14]; decide) (by rw [c14]; rfl) (by decide) ?_
                              refine lv_aload_n hx hb dX6_numberOf_105 rfl (lv_at hl 0 rfl) ?_
                              refine g_Tally_5 hC hP hx hb hts hown hK mw_192 dX6_numberOf_106 ?_
                              cases hf
                              exact cx_iret hx hb hr hlocks hP hL dX6_numberOf_109
                            · have hf := cx_f hf c14
                              by_cases c15 : p0 = 19
                              · have hf := cx_t hf c15
                                refine lv_tableIn (off := 109) (tgt := 110) hx hb dX6_numberOf_1 (by rw [c15]; decide) (by rw [c15]; decide) (by rw [c15]; rfl) (by decide) ?_
                                refine lv_aload_n hx hb dX6_numberOf_110 rfl (lv_at hl 0 rfl) ?_
                                refine g_Tally_6 hC hP hx hb hts hown hK mw_193 dX6_numberOf_111 ?_
                                cases hf
                                exact cx_iret hx hb hr hlocks hP hL dX6_numberOf_114
                              · have hf := cx_f hf c15
                                by_cases c16 : p0 = 20
                                · have hf := cx_t hf c16
                                  refine lv_tableIn (off := 114) (tgt := 115) hx hb dX6_numberOf_1 (by rw [c16]; decide) (by rw [c16]; decide) (by rw [c16]; rfl) (by decide) ?_
                                  refine lv_aload_n hx hb dX6_numberOf_115 rfl (lv_at hl 0 rfl) ?_
                                  refine g_Tally_7 hC hP hx hb hts hown hK mw_194 dX6_numberOf_116 ?_
                                  cases hf
                                  exact cx_iret hx hb hr hlocks hP hL dX6_numberOf_119
                                · have hf := cx_f hf c16
                                  refine lv_tableOut (tgt := 120) hx hb dX6_numberOf_1 (by have := lv_neT (a := 5) c1 (by decide); have := lv_neT (a := 6) c2 (by decide); have := lv_neT (a := 7) c3 (by decide); have := lv_neT (a := 8) c4 (by decide); have := lv_neT (a := 9) c5 (by decide); have := lv_neT (a := 10) c6 (by decide); have := lv_neT (a := 11) c7 (by decide); have := lv_neT (a := 12) c8 (by decide); have := lv_neT (a := 13) c9 (by decide); have := lv_neT (a := 14) c10 (by decide); have := lv_neT (a := 15) c11 (by decide); have := lv_neT (a := 16) c12 (by decide); have := lv_neT (a := 17) c13 (by decide); have := lv_neT (a := 18) c14 (by decide); have := lv_neT (a := 19) c15 (by decide); have := lv_neT (a := 20) c16 (by decide); omega) (by decide) ?_
                                  refine lv_aload_n hx hb dX6_numberOf_120 rfl (lv_at hl 0 rfl) ?_
                                  refine g_Tally_8 hC hP hx hb hts hown hK mw_195 dX6_numberOf_121 ?_
                                  cases hf
                                  exact cx_iret hx hb hr hlocks hP hL dX6_numberOf_124
abbrev rm_X6_copyFrom : Room := { frames := 0, cells := 0, slots := 0, locals := 0 }
theorem hd_X6_copyFrom : yX6_copyFrom.cls = RX6 ∧ yX6_copyFrom.cls ≠ "java/lang/invoke/MethodHandle" ∧ yX6_copyFrom.cls ≠ "java/lang/invoke/VarHandle" ∧ (parseMethodDescriptor yX6_copyFrom.desc).map (fun d => d.parameters.length) = some 1 := by decide +kernel
def f_X6_copyFrom (τ : ObjS) (υ : ObjS) : Option (ObjS) := cx_let (oI τ 0 (υ.2 0)) fun z1 => cx_let (oI z1 1 (υ.2 1)) fun z2 => cx_let (oI z2 2 (υ.2 2)) fun z3 => cx_let (oI z3 3 (υ.2 3)) fun z4 => cx_let (oI z4 4 (υ.2 4)) fun z5 => cx_let (oI z5 5 (υ.2 5)) fun z6 => cx_let (oI z6 6 (υ.2 6)) fun z7 => cx_let (oI z7 7 (υ.2 7)) fun z8 => cx_let (oI z8 8 (υ.2 8)) fun z9 => cx_let (oI z9 9 (υ.2 9)) fun z10 => cx_let (oI z10 10 (υ.2 10)) fun z11 => some z11
set_option maxHeartbeats 4000000 in
set_option maxRecDepth 100000 in
theorem c_X6_copyFrom {l : Launch} {G : va_G} {cA : Nat → ClassId} {lo : Nat} {ad : Nat → Nat} {adother : Nat → Nat} {P : ObjS → ObjS → Heap → Prop} (hC : ∀ z0 : ObjS, cx G lo 1 ad (ceTally cA ad) (fun x => P x z0)) (hCother : ∀ z0 : ObjS, cx G lo 1 adother (ceTally cA adother) (fun x => P z0 x)) {τ : ObjS} {υ : ObjS} {res : ObjS} (hf : f_X6_copyFrom τ υ = some res) : Met l yX6_copyFrom (cW yX6_copyFrom cX6_copyFrom 2 none) rm_X6_copyFrom (cP [.ref (ad 0), .ref (adother 0)] (P τ υ) G cA) (cQ none (P res υ)) 0 0 (fun q => lo ≤ q) := by
  refine cx_met (by decide) (Nat.le_of_ble_eq_true rfl) (fun p e s m args below meth c ls C0 hP hl => ?_)
  have hl : lv_has ls 2 [(0, .ref (ad 0)), (1, .ref (adother 0))] := hl
  obtain ⟨⟨hx, hb, hml, hown, hts⟩, hr, hlocks, hK⟩ := id C0
  have hL : ∀ q ∈ ([] : List Loc), lo ≤ q.base := fun q h => nomatch h
  unfold f_X6_copyFrom at hf
  refine lv_aload_n hx hb dX6_copyFrom_0 rfl (lv_at hl 0 rfl) ?_
  refine lv_aload_n hx hb dX6_copyFrom_1 rfl (lv_at hl 1 rfl) ?_
  refine g_Tally_0 (hCother τ) hP hx hb hts hown hK mw_187 dX6_copyFrom_2 ?_
  obtain ⟨z1, ez1, hf⟩ := cx_letE hf
  refine p_Tally_0 (hC υ) hP hx hb hts hown hK mw_187 dX6_copyFrom_5 hL (fun H locs hP hL => ?_)
  replace hP : P z1 υ H := by rw [← ez1]; exact hP
  refine lv_aload_n hx hb dX6_copyFrom_8 rfl (lv_at hl 0 rfl) ?_
  refine lv_aload_n hx hb dX6_copyFrom_9 rfl (lv_at hl 1 rfl) ?_
  refine g_Tally_1 (hCother z1) hP hx hb hts hown hK mw_188 dX6_copyFrom_10 ?_
  obtain ⟨z2, ez2, hf⟩ := cx_letE hf
  refine p_Tally_1 (hC υ) hP hx hb hts hown hK mw_188 dX6_copyFrom_13 hL (fun H locs hP hL => ?_)
  replace hP : P z2 υ H := by rw [← ez2]; exact hP
  refine lv_aload_n hx hb dX6_copyFrom_16 rfl (lv_at hl 0 rfl) ?_
  refine lv_aload_n hx hb dX6_copyFrom_17 rfl (lv_at hl 1 rfl) ?_
  refine g_Tally_2 (hCother z2) hP hx hb hts hown hK mw_189 dX6_copyFrom_18 ?_
  obtain ⟨z3, ez3, hf⟩ := cx_letE hf
  refine p_Tally_2 (hC υ) hP hx hb hts hown hK mw_189 dX6_copyFrom_21 hL (fun H locs hP hL => ?_)
  replace hP : P z3 υ H := by rw [← ez3]; exact hP
  refine lv_aload_n hx hb dX6_copyFrom_24 rfl (lv_at hl 0 rfl) ?_
  refine lv_aload_n hx hb dX6_copyFrom_25 rfl (lv_at hl 1 rfl) ?_
  refine g_Tally_3 (hCother z3) hP hx hb hts hown hK mw_190 dX6_copyFrom_26 ?_
  obtain ⟨z4, ez4, hf⟩ := cx_letE hf
  refine p_Tally_3 (hC υ) hP hx hb hts hown hK mw_190 dX6_copyFrom_29 hL (fun H locs hP hL => ?_)
  replace hP : P z4 υ H := by rw [← ez4]; exact hP
  refine lv_aload_n hx hb dX6_copyFrom_32 rfl (lv_at hl 0 rfl) ?_
  refine lv_aload_n hx hb dX6_copyFrom_33 rfl (lv_at hl 1 rfl) ?_
  refine g_Tally_4 (hCother z4) hP hx hb hts hown hK mw_191 dX6_copyFrom_34 ?_
  obtain ⟨z5, ez5, hf⟩ := cx_letE hf
  refine p_Tally_4 (hC υ) hP hx hb hts hown hK mw_191 dX6_copyFrom_37 hL (fun H locs hP hL => ?_)
  replace hP : P z5 υ H := by rw [← ez5]; exact hP
  refine lv_aload_n hx hb dX6_copyFrom_40 rfl (lv_at hl 0 rfl) ?_
  refine lv_aload_n hx hb dX6_copyFrom_41 rfl (lv_at hl 1 rfl) ?_
  refine g_Tally_5 (hCother z5) hP hx hb hts hown hK mw_192 dX6_copyFrom_42 ?_
  obtain ⟨z6, ez6, hf⟩ := cx_letE hf
  refine p_Tally_5 (hC υ) hP hx hb hts hown hK mw_192 dX6_copyFrom_45 hL (fun H locs hP hL => ?_)
  replace hP : P z6 υ H := by rw [← ez6]; exact hP
  refine lv_aload_n hx hb dX6_copyFrom_48 rfl (lv_at hl 0 rfl) ?_
  refine lv_aload_n hx hb dX6_copyFrom_49 rfl (lv_at hl 1 rfl) ?_
  refine g_Tally_6 (hCother z6) hP hx hb hts hown hK mw_193 dX6_copyFrom_50 ?_
  obtain ⟨z7, ez7, hf⟩ := cx_letE hf
  refine p_Tally_6 (hC υ) hP hx hb hts hown hK mw_193 dX6_copyFrom_53 hL (fun H locs hP hL => ?_)
  replace hP : P z7 υ H := by rw [← ez7]; exact hP
  refine lv_aload_n hx hb dX6_copyFrom_56 rfl (lv_at hl 0 rfl) ?_
  refine lv_aload_n hx hb dX6_copyFrom_57 rfl (lv_at hl 1 rfl) ?_
  refine g_Tally_7 (hCother z7) hP hx hb hts hown hK mw_194 dX6_copyFrom_58 ?_
  obtain ⟨z8, ez8, hf⟩ := cx_letE hf
  refine p_Tally_7 (hC υ) hP hx hb hts hown hK mw_194 dX6_copyFrom_61 hL (fun H locs hP hL => ?_)
  replace hP : P z8 υ H := by rw [← ez8]; exact hP
  refine lv_aload_n hx hb dX6_copyFrom_64 rfl (lv_at hl 0 rfl) ?_
  refine lv_aload_n hx hb dX6_copyFrom_65 rfl (lv_at hl 1 rfl) ?_
  refine g_Tally_8 (hCother z8) hP hx hb hts hown hK mw_195 dX6_copyFrom_66 ?_
  obtain ⟨z9, ez9, hf⟩ := cx_letE hf
  refine p_Tally_8 (hC υ) hP hx hb hts hown hK mw_195 dX6_copyFrom_69 hL (fun H locs hP hL => ?_)
  replace hP : P z9 υ H := by rw [← ez9]; exact hP
  refine lv_aload_n hx hb dX6_copyFrom_72 rfl (lv_at hl 0 rfl) ?_
  refine lv_aload_n hx hb dX6_copyFrom_73 rfl (lv_at hl 1 rfl) ?_
  refine g_Tally_9 (hCother z9) hP hx hb hts hown hK mw_95 dX6_copyFrom_74 ?_
  obtain ⟨z10, ez10, hf⟩ := cx_letE hf
  refine p_Tally_9 (hC υ) hP hx hb hts hown hK mw_95 dX6_copyFrom_77 hL (fun H locs hP hL => ?_)
  replace hP : P z10 υ H := by rw [← ez10]; exact hP
  refine lv_aload_n hx hb dX6_copyFrom_80 rfl (lv_at hl 0 rfl) ?_
  refine lv_aload_n hx hb dX6_copyFrom_81 rfl (lv_at hl 1 rfl) ?_
  refine g_Tally_10 (hCother z10) hP hx hb hts hown hK mw_96 dX6_copyFrom_82 ?_
  obtain ⟨z11, ez11, hf⟩ := cx_letE hf
  refine p_Tally_10 (hC υ) hP hx hb hts hown hK mw_96 dX6_copyFrom_85 hL (fun H locs hP hL => ?_)
  replace hP : P z11 υ H := by rw [← ez11]; exact hP
  cases hf
  exact cx_vret hx hb hr hlocks hP hL dX6_copyFrom_88
