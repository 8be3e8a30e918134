/-! the methods of the class itself -/
abbrev rm_X8_needRange : Room := { frames := 0, cells := 0, slots := 0, locals := 0 }
theorem hd_X8_needRange : yX8_needRange.cls = RX8 ∧ yX8_needRange.cls ≠ "java/lang/invoke/MethodHandle" ∧ yX8_needRange.cls ≠ "java/lang/invoke/VarHandle" ∧ (parseMethodDescriptor yX8_needRange.desc).map (fun d => d.parameters.length) = some 3 := by decide +kernel
def f_X8_needRange (p0 : Int32) (p1 : Int32) (p2 : Int32) : Option (Unit) := if p0 < p1 then none else if p0 ≤ p2 then some () else none
set_option maxHeartbeats 4000000 in
set_option maxRecDepth 100000 in
theorem c_X8_needRange {l : Launch} {G : va_G} {cA : Nat → ClassId} {lo : Nat} {PH : Heap → Prop} {p0 : Int32} {p1 : Int32} {p2 : Int32} {res : Unit} (hf : f_X8_needRange p0 p1 p2 = some res) : Met l yX8_needRange (cW yX8_needRange cX8_needRange 3 none) rm_X8_needRange (cP [.int p0, .int p1, .int p2] (PH) G cA) (cQ none (PH)) 0 0 (fun q => lo ≤ q) := by
  refine cx_met (by decide) (Nat.le_of_ble_eq_true rfl) (fun p e s m args below meth c ls C0 hP hl => ?_)
  have hl : lv_has ls 3 [(0, .int p0), (1, .int p1), (2, .int p2)] := hl
  obtain ⟨⟨hx, hb, hml, hown, hts⟩, hr, hlocks, hK⟩ := id C0
  have hL : ∀ q ∈ ([] : List Loc), lo ≤ q.base := fun q h => nomatch h
  unfold f_X8_needRange at hf
  refine lv_iload_n hx hb dX8_needRange_0 rfl (lv_at hl 0 rfl) ?_
  refine lv_iload_n hx hb dX8_needRange_1 rfl (lv_at hl 1 rfl) ?_
  refine lv_icmp_lt (tgt := 10) hx hb dX8_needRange_2 (by decide) (fun c1 => ?_) (fun c1 => ?_)
  · have hf := cx_t hf c1
    cases hf
  · have hf := cx_f hf c1
    refine lv_iload_n hx hb dX8_needRange_5 rfl (lv_at hl 0 rfl) ?_
    refine lv_iload_n hx hb dX8_needRange_6 rfl (lv_at hl 2 rfl) ?_
    refine lv_icmp_le (tgt := 21) hx hb dX8_needRange_7 (by decide) (fun c2 => ?_) (fun c2 => ?_)
    · have hf := cx_t hf c2
      cases hf
      exact cx_vret hx hb hr hlocks hP hL dX8_needRange_21
    · have hf := cx_f hf c2
      cases hf
abbrev rm_X8_addClient : Room := { frames := 4, cells := 0, slots := 0, locals := 127 }
theorem hd_X8_addClient : yX8_addClient.cls = RX8 ∧ yX8_addClient.cls ≠ "java/lang/invoke/MethodHandle" ∧ yX8_addClient.cls ≠ "java/lang/invoke/VarHandle" ∧ (parseMethodDescriptor yX8_addClient.desc).map (fun d => d.parameters.length) = some 1 := by decide +kernel
def f_X8_addClient (N : Nat) (γ : GLS) (p0 : Int32) : Option (Int32 × GLS) := (f_X8_needRange p0 1 9).bind fun r1 => if (γ.2.2.1 0).2 9 < 4 then (f_X3_keep N γ.2.2.2.2 γ.2.2.1).bind fun r4 => cx_let ((γ.1, γ.2.1, γ.2.2.1, γ.2.2.2.1, r4)) fun z6 => (f_X1_addOne z6.2.2.1 p0).bind fun r7 => cx_let ((z6.1, z6.2.1, r7.2, z6.2.2.2)) fun z9 => some (r7.1, z9) else none
set_option maxHeartbeats 4000000 in
set_option maxRecDepth 100000 in
theorem c_X8_addClient {l : Launch} {G : va_G} {cA : Nat → ClassId} {lo : Nat} {ad : Nat → Nat} {sv : Nat → Option Nat} {P : GLS → Heap → Prop} (hC : cx G lo 262 ad (ceGL sv cA ad) P) {N : Nat} {γ : GLS} {p0 : Int32} {res : Int32 × GLS} (hf : f_X8_addClient N γ p0 = some res) : Met l yX8_addClient (cW yX8_addClient cX8_addClient 2 (some .int)) rm_X8_addClient (cP [.ref (ad 0), .int p0] (P γ) G cA) (cQ (some (.int res.1)) (P res.2)) 0 0 (fun q => lo ≤ q) := by
  refine cx_met (by decide) (Nat.le_of_ble_eq_true rfl) (fun p e s m args below meth c ls C0 hP hl => ?_)
  have hl : lv_has ls 2 [(0, .ref (ad 0)), (1, .int p0)] := hl
  obtain ⟨⟨hx, hb, hml, hown, hts⟩, hr, hlocks, hK⟩ := id C0
  have hL : ∀ q ∈ ([] : List Loc), lo ≤ q.base := fun q h => nomatch h
  unfold f_X8_addClient at hf
  refine lv_iload_n hx hb dX8_addClient_0 rfl (lv_at hl 1 rfl) ?_
  refine lv_iconst (v := 1) hx hb dX8_addClient_1 (by decide) ?_
  refine lv_bipush (v := 9) hx hb dX8_addClient_2 (by decide) ?_
  obtain ⟨r1, q2, hf⟩ := cx_b hf
  refine cx_callS (As := [.int p0, .int 1, .int 9]) (rest := []) ⟨hx, hb, hml, hown, hts⟩ (c_X8_needRange (PH := P γ) q2) (cwS 3 hts (gS mw_153 mw_154 mw_11 mw_155) rfl rfl rfl hd_X8_needRange ⟨Nat.le_of_ble_eq_true rfl, Nat.le_of_ble_eq_true rfl⟩) hK hP rfl hl.1 rfl (Nat.le_of_ble_eq_true rfl) dX8_addClient_4 ⟨Nat.zero_le _, Nat.zero_le _⟩ hL (fun H locs hP hL => ?_)
  refine lv_aload_n hx hb dX8_addClient_7 rfl (lv_at hl 0 rfl) ?_
  refine g_GL_2 hC hP hx hb hts hown hK mw_30 dX8_addClient_8 ?_
  refine g_Cache_9 (cx_glN hC γ) (show P (γ.1, γ.2.1, γ.2.2.1, γ.2.2.2) _ by (repeat rw [va_up_id]); exact hP) hx hb hts hown hK mw_152 dX8_addClient_11 ?_
  refine lv_iconst (v := 4) hx hb dX8_addClient_14 (by decide) ?_
  refine lv_icmp_lt (tgt := 28) hx hb dX8_addClient_15 (by decide) (fun c3 => ?_) (fun c3 => ?_)
  · have hf := cx_t hf c3
    refine lv_aload_n hx hb dX8_addClient_28 rfl (lv_at hl 0 rfl) ?_
    refine g_GL_4 hC hP hx hb hts hown hK mw_35 dX8_addClient_29 ?_
    refine lv_aload_n hx hb dX8_addClient_32 rfl (lv_at hl 0 rfl) ?_
    refine g_GL_2 hC hP hx hb hts hown hK mw_30 dX8_addClient_33 ?_
    obtain ⟨r4, q5, hf⟩ := cx_b hf
    refine cx_callV (As := [.ref ((adN ad) 0)]) (rest := []) ⟨hx, hb, hml, hown, hts⟩ (c_X3_keep (fun z : CacS => cx_glH hC (γ.1, γ.2.1, z, γ.2.2.2)) (fun z : HisS => cx_glN hC (γ.1, γ.2.1, γ.2.2.1, γ.2.2.2.1, z)) q5) (cwV 1 hts (gV mw_158 mw_159 mw_160 mw_34 mw_161) rfl rfl rfl hd_X3_keep ⟨Nat.le_of_ble_eq_true rfl, Nat.le_of_ble_eq_true rfl⟩) hK (show P ((γ.1, γ.2.1, γ.2.2.1, γ.2.2.2.1, γ.2.2.2.2).1, (γ.1, γ.2.1, γ.2.2.1, γ.2.2.2.1, γ.2.2.2.2).2.1, γ.2.2.1, (γ.1, γ.2.1, γ.2.2.1, γ.2.2.2.1, γ.2.2.2.2).2.2.2) _ by (repeat rw [va_up_id]); exact hP) rfl (at_History (cx_glH hC γ) (show P (γ.1, γ.2.1, γ.2.2.1, γ.2.2.2.1, γ.2.2.2.2) _ by (repeat rw [va_up_id]); exact hP)) rfl hl.1 rfl (Nat.le_of_ble_eq_true rfl) dX8_addClient_36 ⟨Nat.zero_le _, Nat.zero_le _⟩ hL (fun H locs hP hL => ?_)
    obtain ⟨z6, ez6, hf⟩ := cx_letE hf
    replace hP : P z6 H := by rw [← ez6]; (first | exact hP | (simpa only [va_up_id] using hP))
    replace hP : P z6 H := by first | exact hP | (simpa only [va_up_id] using hP)
    refine lv_aload_n hx hb dX8_addClient_39 rfl (lv_at hl 0 rfl) ?_
    refine g_GL_2 hC hP hx hb hts hown hK mw_30 dX8_addClient_40 ?_
    refine lv_iload_n hx hb dX8_addClient_43 rfl (lv_at hl 1 rfl) ?_
    obtain ⟨r7, q8, hf⟩ := cx_b hf
    refine cx_callV (As := [.int p0]) (rest := []) ⟨hx, hb, hml, hown, hts⟩ (c_X1_addOne (cx_glN hC z6) q8) (cwV 1 hts (gV mw_220 mw_221 mw_222 mw_29 mw_223) rfl rfl rfl hd_X1_addOne ⟨Nat.le_of_ble_eq_true rfl, Nat.le_of_ble_eq_true rfl⟩) hK (show P (z6.1, z6.2.1, z6.2.2.1, z6.2.2.2) _ by (repeat rw [va_up_id]); exact hP) rfl (at_Cache (cx_glN hC z6) (show P (z6.1, z6.2.1, z6.2.2.1, z6.2.2.2) _ by (repeat rw [va_up_id]); exact hP)) rfl hl.1 rfl (Nat.le_of_ble_eq_true rfl) dX8_addClient_44 ⟨Nat.zero_le _, Nat.zero_le _⟩ hL (fun H locs hP hL => ?_)
    obtain ⟨z9, ez9, hf⟩ := cx_letE hf
    replace hP : P z9 H := by rw [← ez9]; exact hP
    cases hf
    exact cx_iret hx hb hr hlocks hP hL dX8_addClient_47
  · have hf := cx_f hf c3
    cases hf
abbrev rm_X8_needIndex : Room := { frames := 0, cells := 0, slots := 0, locals := 0 }
theorem hd_X8_needIndex : yX8_needIndex.cls = RX8 ∧ yX8_needIndex.cls ≠ "java/lang/invoke/MethodHandle" ∧ yX8_needIndex.cls ≠ "java/lang/invoke/VarHandle" ∧ (parseMethodDescriptor yX8_needIndex.desc).map (fun d => d.parameters.length) = some 2 := by decide +kernel
def f_X8_needIndex (p0 : Int32) (p1 : Int32) : Option (Unit) := if p0 < 0 then none else if p0 < p1 then some () else none
set_option maxHeartbeats 4000000 in
set_option maxRecDepth 100000 in
theorem c_X8_needIndex {l : Launch} {G : va_G} {cA : Nat → ClassId} {lo : Nat} {PH : Heap → Prop} {p0 : Int32} {p1 : Int32} {res : Unit} (hf : f_X8_needIndex p0 p1 = some res) : Met l yX8_needIndex (cW yX8_needIndex cX8_needIndex 2 none) rm_X8_needIndex (cP [.int p0, .int p1] (PH) G cA) (cQ none (PH)) 0 0 (fun q => lo ≤ q) := by
  refine cx_met (by decide) (Nat.le_of_ble_eq_true rfl) (fun p e s m args below meth c ls C0 hP hl => ?_)
  have hl : lv_has ls 2 [(0, .int p0), (1, .int p1)] := hl
  obtain ⟨⟨hx, hb, hml, hown, hts⟩, hr, hlocks, hK⟩ := id C0
  have hL : ∀ q ∈ ([] : List Loc), lo ≤ q.base := fun q h => nomatch h
  unfold f_X8_needIndex at hf
  refine lv_iload_n hx hb dX8_needIndex_0 rfl (lv_at hl 0 rfl) ?_
  refine lv_if_lt (tgt := 9) hx hb dX8_needIndex_1 (by decide) (fun c1 => ?_) (fun c1 => ?_)
  · have hf := cx_t hf c1
    cases hf
  · have hf := cx_f hf c1
    refine lv_iload_n hx hb dX8_needIndex_4 rfl (lv_at hl 0 rfl) ?_
    refine lv_iload_n hx hb dX8_needIndex_5 rfl (lv_at hl 1 rfl) ?_
    refine lv_icmp_lt (tgt := 20) hx hb dX8_needIndex_6 (by decide) (fun c2 => ?_) (fun c2 => ?_)
    · have hf := cx_t hf c2
      cases hf
      exact cx_vret hx hb hr hlocks hP hL dX8_needIndex_20
    · have hf := cx_f hf c2
      cases hf
abbrev rm_X8_needClient : Room := { frames := 1, cells := 0, slots := 0, locals := 21 }
theorem hd_X8_needClient : yX8_needClient.cls = RX8 ∧ yX8_needClient.cls ≠ "java/lang/invoke/MethodHandle" ∧ yX8_needClient.cls ≠ "java/lang/invoke/VarHandle" ∧ (parseMethodDescriptor yX8_needClient.desc).map (fun d => d.parameters.length) = some 1 := by decide +kernel
def f_X8_needClient (γ : GLS) (p0 : Int32) : Option (Unit) := (f_X8_needIndex p0 ((γ.2.2.1 0).2 9)).bind fun r1 => some ()
set_option maxHeartbeats 4000000 in
set_option maxRecDepth 100000 in
theorem c_X8_needClient {l : Launch} {G : va_G} {cA : Nat → ClassId} {lo : Nat} {ad : Nat → Nat} {sv : Nat → Option Nat} {P : GLS → Heap → Prop} (hC : cx G lo 262 ad (ceGL sv cA ad) P) {γ : GLS} {p0 : Int32} {res : Unit} (hf : f_X8_needClient γ p0 = some res) : Met l yX8_needClient (cW yX8_needClient cX8_needClient 2 none) rm_X8_needClient (cP [.ref (ad 0), .int p0] (P γ) G cA) (cQ none (P γ)) 0 0 (fun q => lo ≤ q) := by
  refine cx_met (by decide) (Nat.le_of_ble_eq_true rfl) (fun p e s m args below meth c ls C0 hP hl => ?_)
  have hl : lv_has ls 2 [(0, .ref (ad 0)), (1, .int p0)] := hl
  obtain ⟨⟨hx, hb, hml, hown, hts⟩, hr, hlocks, hK⟩ := id C0
  have hL : ∀ q ∈ ([] : List Loc), lo ≤ q.base := fun q h => nomatch h
  unfold f_X8_needClient at hf
  refine lv_iload_n hx hb dX8_needClient_0 rfl (lv_at hl 1 rfl) ?_
  refine lv_aload_n hx hb dX8_needClient_1 rfl (lv_at hl 0 rfl) ?_
  refine g_GL_2 hC hP hx hb hts hown hK mw_30 dX8_needClient_2 ?_
  refine g_Cache_9 (cx_glN hC γ) (show P (γ.1, γ.2.1, γ.2.2.1, γ.2.2.2) _ by (repeat rw [va_up_id]); exact hP) hx hb hts hown hK mw_152 dX8_needClient_5 ?_
  obtain ⟨r1, q2, hf⟩ := cx_b hf
  refine cx_callS (As := [.int p0, .int ((γ.2.2.1 0).2 9)]) (rest := []) ⟨hx, hb, hml, hown, hts⟩ (c_X8_needIndex (PH := P γ) q2) (cwS 2 hts (gS mw_313 mw_314 mw_11 mw_315) rfl rfl rfl hd_X8_needIndex ⟨Nat.le_of_ble_eq_true rfl, Nat.le_of_ble_eq_true rfl⟩) hK hP rfl hl.1 rfl (Nat.le_of_ble_eq_true rfl) dX8_needClient_8 ⟨Nat.zero_le _, Nat.zero_le _⟩ hL (fun H locs hP hL => ?_)
  cases hf
  exact cx_vret hx hb hr hlocks hP hL dX8_needClient_11
abbrev rm_X8_setWeight : Room := { frames := 4, cells := 0, slots := 0, locals := 127 }
theorem hd_X8_setWeight : yX8_setWeight.cls = RX8 ∧ yX8_setWeight.cls ≠ "java/lang/invoke/MethodHandle" ∧ yX8_setWeight.cls ≠ "java/lang/invoke/VarHandle" ∧ (parseMethodDescriptor yX8_setWeight.desc).map (fun d => d.parameters.length) = some 2 := by decide +kernel
def f_X8_setWeight (N : Nat) (γ : GLS) (p0 : Int32) (p1 : Int32) : Option (Int32 × GLS) := (f_X8_needClient γ p0).bind fun r1 => (f_X8_needRange p1 1 9).bind fun r3 => (f_X3_keep N γ.2.2.2.2 γ.2.2.1).bind fun r5 => cx_let ((γ.1, γ.2.1, γ.2.2.1, γ.2.2.2.1, r5)) fun z7 => (f_X1_changeWeight z7.2.2.1 p0 p1).bind fun r8 => cx_let ((z7.1, z7.2.1, r8.2, z7.2.2.2)) fun z10 => some (r8.1, z10)
set_option maxHeartbeats 4000000 in
set_option maxRecDepth 100000 in
theorem c_X8_setWeight {l : Launch} {G : va_G} {cA : Nat → ClassId} {lo : Nat} {ad : Nat → Nat} {sv : Nat → Option Nat} {P : GLS → Heap → Prop} (hC : cx G lo 262 ad (ceGL sv cA ad) P) {N : Nat} {γ : GLS} {p0 : Int32} {p1 : Int32} {res : Int32 × GLS} (hf : f_X8_setWeight N γ p0 p1 = some res) : Met l yX8_setWeight (cW yX8_setWeight cX8_setWeight 3 (some .int)) rm_X8_setWeight (cP [.ref (ad 0), .int p0, .int p1] (P γ) G cA) (cQ (some (.int res.1)) (P res.2)) 0 0 (fun q => lo ≤ q) := by
  refine cx_met (by decide) (Nat.le_of_ble_eq_true rfl) (fun p e s m args below meth c ls C0 hP hl => ?_)
  have hl : lv_has ls 3 [(0, .ref (ad 0)), (1, .int p0), (2, .int p1)] := hl
  obtain ⟨⟨hx, hb, hml, hown, hts⟩, hr, hlocks, hK⟩ := id C0
  have hL : ∀ q ∈ ([] : List Loc), lo ≤ q.base := fun q h => nomatch h
  unfold f_X8_setWeight at hf
  refine lv_aload_n hx hb dX8_setWeight_0 rfl (lv_at hl 0 rfl) ?_
  refine lv_iload_n hx hb dX8_setWeight_1 rfl (lv_at hl 1 rfl) ?_
  obtain ⟨r1, q2, hf⟩ := cx_b hf
  refine cx_callV (As := [.int p0]) (rest := []) ⟨hx, hb, hml, hown, hts⟩ (c_X8_needClient hC q2) (cwV 1 hts (gV mw_309 mw_310 mw_311 mw_11 mw_312) rfl rfl rfl hd_X8_needClient ⟨Nat.le_of_ble_eq_true rfl, Nat.le_of_ble_eq_true rfl⟩) hK hP rfl (at_GL hC hP) rfl hl.1 rfl (Nat.le_of_ble_eq_true rfl) dX8_setWeight_2 ⟨Nat.zero_le _, Nat.zero_le _⟩ hL (fun H locs hP hL => ?_)
  replace hP : P γ H := by first | exact hP | (simpa only [va_up_id] using hP)
  refine lv_iload_n hx hb dX8_setWeight_5 rfl (lv_at hl 2 rfl) ?_
  refine lv_iconst (v := 1) hx hb dX8_setWeight_6 (by decide) ?_
  refine lv_bipush (v := 9) hx hb dX8_setWeight_7 (by decide) ?_
  obtain ⟨r3, q4, hf⟩ := cx_b hf
  refine cx_callS (As := [.int p1, .int 1, .int 9]) (rest := []) ⟨hx, hb, hml, hown, hts⟩ (c_X8_needRange (PH := P γ) q4) (cwS 3 hts (gS mw_153 mw_154 mw_11 mw_155) rfl rfl rfl hd_X8_needRange ⟨Nat.le_of_ble_eq_true rfl, Nat.le_of_ble_eq_true rfl⟩) hK hP rfl hl.1 rfl (Nat.le_of_ble_eq_true rfl) dX8_setWeight_9 ⟨Nat.zero_le _, Nat.zero_le _⟩ hL (fun H locs hP hL => ?_)
  refine lv_aload_n hx hb dX8_setWeight_12 rfl (lv_at hl 0 rfl) ?_
  refine g_GL_4 hC hP hx hb hts hown hK mw_35 dX8_setWeight_13 ?_
  refine lv_aload_n hx hb dX8_setWeight_16 rfl (lv_at hl 0 rfl) ?_
  refine g_GL_2 hC hP hx hb hts hown hK mw_30 dX8_setWeight_17 ?_
  obtain ⟨r5, q6, hf⟩ := cx_b hf
  refine cx_callV (As := [.ref ((adN ad) 0)]) (rest := []) ⟨hx, hb, hml, hown, hts⟩ (c_X3_keep (fun z : CacS => cx_glH hC (γ.1, γ.2.1, z, γ.2.2.2)) (fun z : HisS => cx_glN hC (γ.1, γ.2.1, γ.2.2.1, γ.2.2.2.1, z)) q6) (cwV 1 hts (gV mw_158 mw_159 mw_160 mw_34 mw_161) rfl rfl rfl hd_X3_keep ⟨Nat.le_of_ble_eq_true rfl, Nat.le_of_ble_eq_true rfl⟩) hK (show P ((γ.1, γ.2.1, γ.2.2.1, γ.2.2.2.1, γ.2.2.2.2).1, (γ.1, γ.2.1, γ.2.2.1, γ.2.2.2.1, γ.2.2.2.2).2.1, γ.2.2.1, (γ.1, γ.2.1, γ.2.2.1, γ.2.2.2.1, γ.2.2.2.2).2.2.2) _ by (repeat rw [va_up_id]); exact hP) rfl (at_History (cx_glH hC γ) (show P (γ.1, γ.2.1, γ.2.2.1, γ.2.2.2.1, γ.2.2.2.2) _ by (repeat rw [va_up_id]); exact hP)) rfl hl.1 rfl (Nat.le_of_ble_eq_true rfl) dX8_setWeight_20 ⟨Nat.zero_le _, Nat.zero_le _⟩ hL (fun H locs hP hL => ?_)
  obtain ⟨z7, ez7, hf⟩ := cx_letE hf
  replace hP : P z7 H := by rw [← ez7]; (first | exact hP | (simpa only [va_up_id] using hP))
  replace hP : P z7 H := by first | exact hP | (simpa only [va_up_id] using hP)
  refine lv_aload_n hx hb dX8_setWeight_23 rfl (lv_at hl 0 rfl) ?_
  refine g_GL_2 hC hP hx hb hts hown hK mw_30 dX8_setWeight_24 ?_
  refine lv_iload_n hx hb dX8_setWeight_27 rfl (lv_at hl 1 rfl) ?_
  refine lv_iload_n hx hb dX8_setWeight_28 rfl (lv_at hl 2 rfl) ?_
  obtain ⟨r8, q9, hf⟩ := cx_b hf
  refine cx_callV (As := [.int p0, .int p1]) (rest := []) ⟨hx, hb, hml, hown, hts⟩ (c_X1_changeWeight (cx_glN hC z7) q9) (cwV 2 hts (gV mw_591 mw_592 mw_593 mw_29 mw_594) rfl rfl rfl hd_X1_changeWeight ⟨Nat.le_of_ble_eq_true rfl, Nat.le_of_ble_eq_true rfl⟩) hK (show P (z7.1, z7.2.1, z7.2.2.1, z7.2.2.2) _ by (repeat rw [va_up_id]); exact hP) rfl (at_Cache (cx_glN hC z7) (show P (z7.1, z7.2.1, z7.2.2.1, z7.2.2.2) _ by (repeat rw [va_up_id]); exact hP)) rfl hl.1 rfl (Nat.le_of_ble_eq_true rfl) dX8_setWeight_29 ⟨Nat.zero_le _, Nat.zero_le _⟩ hL (fun H locs hP hL => ?_)
  obtain ⟨z10, ez10, hf⟩ := cx_letE hf
  replace hP : P z10 H := by rw [← ez10]; exact hP
  cases hf
  exact cx_iret hx hb hr hlocks hP hL dX8_setWeight_32
abbrev rm_X8_set : Room := { frames := 4, cells := 0, slots := 0, locals := 127 }
theorem hd_X8_set : yX8_set.cls = RX8 ∧ yX8_set.cls ≠ "java/lang/invoke/MethodHandle" ∧ yX8_set.cls ≠ "java/lang/invoke/VarHandle" ∧ (parseMethodDescriptor yX8_set.desc).map (fun d => d.parameters.length) = some 2 := by decide +kernel
def f_X8_set_b27 (N : Nat) (γ : GLS) (x1 : Int32) (x2 : Int32) : Option (Int32 × GLS) := (f_X3_keep N γ.2.2.2.2 γ.2.2.1).bind fun r1 => cx_let ((γ.1, γ.2.1, γ.2.2.1, γ.2.2.2.1, r1)) fun z3 => (f_X1_changeSetting z3.2.2.1 x1 x2).bind fun r4 => cx_let ((z3.1, z3.2.1, r4.2, z3.2.2.2)) fun z6 => some (r4.1, z6)
set_option maxHeartbeats 4000000 in
set_option maxRecDepth 100000 in
theorem w_X8_set_b27 {p : Program} {l : Launch} {e : Env} {s : State} {m : MethodId} {args : Array Value} {below : List Frame} {meth : Method} {c : Code} {G : va_G} {cA : Nat → ClassId} (C0 : cB p s m args meth c RX8 cX8_set 3 (some .int) G cA) {lo : Nat} {ad : Nat → Nat} {sv : Nat → Option Nat} {P : GLS → Heap → Prop} (hC : cx G lo 262 ad (ceGL sv cA ad) P) {N : Nat} {res : Int32 × GLS} : ∀ (γ : GLS) (x1 : Int32) (x2 : Int32) (H : Heap) (locs : List Loc) (ls : Array Slot), f_X8_set_b27 N γ x1 x2 = some res → P γ H → (∀ q ∈ locs, lo ≤ q.base) → lv_has ls 3 [(0, .ref (ad 0)), (1, .int x1), (2, .int x2)] → W p l e rm_X8_set s m args below meth c H locs 0 0 (MQ below (cQ (some (.int res.1)) (P res.2)) args s 0 0 (fun q => lo ≤ q)) (F0 m 27 ls []) := by
  obtain ⟨⟨hx, hb, hml, hown, hts⟩, hr, hlocks, hK⟩ := id C0
  intro γ x1 x2 H locs ls hf hP hL hl
  unfold f_X8_set_b27 at hf
  refine lv_aload_n hx hb dX8_set_27 rfl (lv_at hl 0 rfl) ?_
  refine g_GL_4 hC hP hx hb hts hown hK mw_35 dX8_set_28 ?_
  refine lv_aload_n hx hb dX8_set_31 rfl (lv_at hl 0 rfl) ?_
  refine g_GL_2 hC hP hx hb hts hown hK mw_30 dX8_set_32 ?_
  obtain ⟨r1, q2, hf⟩ := cx_b hf
  refine cx_callV (As := [.ref ((adN ad) 0)]) (rest := []) ⟨hx, hb, hml, hown, hts⟩ (c_X3_keep (fun z : CacS => cx_glH hC (γ.1, γ.2.1, z, γ.2.2.2)) (fun z : HisS => cx_glN hC (γ.1, γ.2.1, γ.2.2.1, γ.2.2.2.1, z)) q2) (cwV 1 hts (gV mw_158 mw_159 mw_160 mw_34 mw_161) rfl rfl rfl hd_X3_keep ⟨Nat.le_of_ble_eq_true rfl, Nat.le_of_ble_eq_true rfl⟩) hK (show P ((γ.1, γ.2.1, γ.2.2.1, γ.2.2.2.1, γ.2.2.2.2).1, (γ.1, γ.2.1, γ.2.2.1, γ.2.2.2.1, γ.2.2.2.2).2.1, γ.2.2.1, (γ.1, γ.2.1, γ.2.2.1, γ.2.2.2.1, γ.2.2.2.2).2.2.2) _ by (repeat rw [va_up_id]); exact hP) rfl (at_History (cx_glH hC γ) (show P (γ.1, γ.2.1, γ.2.2.1, γ.2.2.2.1, γ.2.2.2.2) _ by (repeat rw [va_up_id]); exact hP)) rfl hl.1 rfl (Nat.le_of_ble_eq_true rfl) dX8_set_35 ⟨Nat.zero_le _, Nat.zero_le _⟩ hL (fun H locs hP hL => ?_)
  obtain ⟨z3, ez3, hf⟩ := cx_letE hf
  replace hP : P z3 H := by rw [← ez3]; (first | exact hP | (simpa only [va_up_id] using hP))
  replace hP : P z3 H := by first | exact hP | (simpa only [va_up_id] using hP)
  refine lv_aload_n hx hb dX8_set_38 rfl (lv_at hl 0 rfl) ?_
  refine g_GL_2 hC hP hx hb hts hown hK mw_30 dX8_set_39 ?_
  refine lv_iload_n hx hb dX8_set_42 rfl (lv_at hl 1 rfl) ?_
  refine lv_iload_n hx hb dX8_set_43 rfl (lv_at hl 2 rfl) ?_
  obtain ⟨r4, q5, hf⟩ := cx_b hf
  refine cx_callV (As := [.int x1, .int x2]) (rest := []) ⟨hx, hb, hml, hown, hts⟩ (c_X1_changeSetting (cx_glN hC z3) q5) (cwV 2 hts (gV mw_267 mw_268 mw_269 mw_29 mw_270) rfl rfl rfl hd_X1_changeSetting ⟨Nat.le_of_ble_eq_true rfl, Nat.le_of_ble_eq_true rfl⟩) hK (show P (z3.1, z3.2.1, z3.2.2.1, z3.2.2.2) _ by (repeat rw [va_up_id]); exact hP) rfl (at_Cache (cx_glN hC z3) (show P (z3.1, z3.2.1, z3.2.2.1, z3.2.2.2) _ by (repeat rw [va_up_id]); exact hP)) rfl hl.1 rfl (Nat.le_of_ble_eq_true rfl) dX8_set_44 ⟨Nat.zero_le _, Nat.zero_le _⟩ hL (fun H locs hP hL => ?_)
  obtain ⟨z6, ez6, hf⟩ := cx_letE hf
  replace hP : P z6 H := by rw [← ez6]; exact hP
  cases hf
  exact cx_iret hx hb hr hlocks hP hL dX8_set_47
def f_X8_set (N : Nat) (γ : GLS) (p0 : Int32) (p1 : Int32) : Option (Int32 × GLS) := (f_X8_needRange p0 0 1).bind fun r1 => if p0 = 0 then (f_X8_needRange p1 2 20).bind fun r6 => f_X8_set_b27 N γ p0 p1 else (f_X8_needRange p1 0 40).bind fun r4 => f_X8_set_b27 N γ p0 p1
set_option maxHeartbeats 4000000 in
set_option maxRecDepth 100000 in
theorem c_X8_set {l : Launch} {G : va_G} {cA : Nat → ClassId} {lo : Nat} {ad : Nat → Nat} {sv : Nat → Option Nat} {P : GLS → Heap → Prop} (hC : cx G lo 262 ad (ceGL sv cA ad) P) {N : Nat} {γ : GLS} {p0 : Int32} {p1 : Int32} {res : Int32 × GLS} (hf : f_X8_set N γ p0 p1 = some res) : Met l yX8_set (cW yX8_set cX8_set 3 (some .int)) rm_X8_set (cP [.ref (ad 0), .int p0, .int p1] (P γ) G cA) (cQ (some (.int res.1)) (P res.2)) 0 0 (fun q => lo ≤ q) := by
  refine cx_met (by decide) (Nat.le_of_ble_eq_true rfl) (fun p e s m args below meth c ls C0 hP hl => ?_)
  have hl : lv_has ls 3 [(0, .ref (ad 0)), (1, .int p0), (2, .int p1)] := hl
  obtain ⟨⟨hx, hb, hml, hown, hts⟩, hr, hlocks, hK⟩ := id C0
  have hL : ∀ q ∈ ([] : List Loc), lo ≤ q.base := fun q h => nomatch h
  unfold f_X8_set at hf
  refine lv_iload_n hx hb dX8_set_0 rfl (lv_at hl 1 rfl) ?_
  refine lv_iconst (v := 0) hx hb dX8_set_1 (by decide) ?_
  refine lv_iconst (v := 1) hx hb dX8_set_2 (by decide) ?_
  obtain ⟨r1, q2, hf⟩ := cx_b hf
  refine cx_callS (As := [.int p0, .int 0, .int 1]) (rest := []) ⟨hx, hb, hml, hown, hts⟩ (c_X8_needRange (PH := P γ) q2) (cwS 3 hts (gS mw_153 mw_154 mw_11 mw_155) rfl rfl rfl hd_X8_needRange ⟨Nat.le_of_ble_eq_true rfl, Nat.le_of_ble_eq_true rfl⟩) hK hP rfl hl.1 rfl (Nat.le_of_ble_eq_true rfl) dX8_set_3 ⟨Nat.zero_le _, Nat.zero_le _⟩ hL (fun H locs hP hL => ?_)
  refine lv_iload_n hx hb dX8_set_6 rfl (lv_at hl 1 rfl) ?_
  refine lv_if_ne (tgt := 20) hx hb dX8_set_7 (by decide) (fun c3 => ?_) (fun c3 => ?_)
  · have hf := cx_f hf c3
    refine lv_iload_n hx hb dX8_set_20 rfl (lv_at hl 2 rfl) ?_
    refine lv_iconst (v := 0) hx hb dX8_set_21 (by decide) ?_
    refine lv_bipush (v := 40) hx hb dX8_set_22 (by decide) ?_
    obtain ⟨r4, q5, hf⟩ := cx_b hf
    refine cx_callS (As := [.int p1, .int 0, .int 40]) (rest := []) ⟨hx, hb, hml, hown, hts⟩ (c_X8_needRange (PH := P γ) q5) (cwS 3 hts (gS mw_153 mw_154 mw_11 mw_155) rfl rfl rfl hd_X8_needRange ⟨Nat.le_of_ble_eq_true rfl, Nat.le_of_ble_eq_true rfl⟩) hK hP rfl hl.1 rfl (Nat.le_of_ble_eq_true rfl) dX8_set_24 ⟨Nat.zero_le _, Nat.zero_le _⟩ hL (fun H locs hP hL => ?_)
    exact w_X8_set_b27 C0 hC γ p0 p1 _ _ _ hf hP hL (lv_sub hl [0, 1, 2] rfl)
  · have hf := cx_t hf c3
    refine lv_iload_n hx hb dX8_set_10 rfl (lv_at hl 2 rfl) ?_
    refine lv_iconst (v := 2) hx hb dX8_set_11 (by decide) ?_
    refine lv_bipush (v := 20) hx hb dX8_set_12 (by decide) ?_
    obtain ⟨r6, q7, hf⟩ := cx_b hf
    refine cx_callS (As := [.int p1, .int 2, .int 20]) (rest := []) ⟨hx, hb, hml, hown, hts⟩ (c_X8_needRange (PH := P γ) q7) (cwS 3 hts (gS mw_153 mw_154 mw_11 mw_155) rfl rfl rfl hd_X8_needRange ⟨Nat.le_of_ble_eq_true rfl, Nat.le_of_ble_eq_true rfl⟩) hK hP rfl hl.1 rfl (Nat.le_of_ble_eq_true rfl) dX8_set_14 ⟨Nat.zero_le _, Nat.zero_le _⟩ hL (fun H locs hP hL => ?_)
    refine lv_goto (tgt := 27) hx hb dX8_set_17 (by decide) ?_
    exact w_X8_set_b27 C0 hC γ p0 p1 _ _ _ hf hP hL (lv_sub hl [0, 1, 2] rfl)
abbrev rm_X8_shape : Room := { frames := 4, cells := 0, slots := 0, locals := 127 }
theorem hd_X8_shape : yX8_shape.cls = RX8 ∧ yX8_shape.cls ≠ "java/lang/invoke/MethodHandle" ∧ yX8_shape.cls ≠ "java/lang/invoke/VarHandle" ∧ (parseMethodDescriptor yX8_shape.desc).map (fun d => d.parameters.length) = some 2 := by decide +kernel
def f_X8_shape (N : Nat) (γ : GLS) (p0 : Int32) (p1 : Int32) : Option (Int32 × GLS) := (f_X8_needRange p0 2 16).bind fun r1 => (f_X8_needRange p1 2 24).bind fun r3 => (f_X3_keep N γ.2.2.2.2 γ.2.2.1).bind fun r5 => cx_let ((γ.1, γ.2.1, γ.2.2.1, γ.2.2.2.1, r5)) fun z7 => (f_X1_reshape N z7.2.2.1 p0 p1).bind fun r8 => cx_let ((z7.1, z7.2.1, r8.2, z7.2.2.2)) fun z10 => some (r8.1, z10)
set_option maxHeartbeats 4000000 in
set_option maxRecDepth 100000 in
theorem c_X8_shape {l : Launch} {G : va_G} {cA : Nat → ClassId} {lo : Nat} {ad : Nat → Nat} {sv : Nat → Option Nat} {P : GLS → Heap → Prop} (hC : cx G lo 262 ad (ceGL sv cA ad) P) {N : Nat} {γ : GLS} {p0 : Int32} {p1 : Int32} {res : Int32 × GLS} (hf : f_X8_shape N γ p0 p1 = some res) : Met l yX8_shape (cW yX8_shape cX8_shape 3 (some .int)) rm_X8_shape (cP [.ref (ad 0), .int p0, .int p1] (P γ) G cA) (cQ (some (.int res.1)) (P res.2)) 0 0 (fun q => lo ≤ q) := by
  refine cx_met (by decide) (Nat.le_of_ble_eq_true rfl) (fun p e s m args below meth c ls C0 hP hl => ?_)
  have hl : lv_has ls 3 [(0, .ref (ad 0)), (1, .int p0), (2, .int p1)] := hl
  obtain ⟨⟨hx, hb, hml, hown, hts⟩, hr, hlocks, hK⟩ := id C0
  have hL : ∀ q ∈ ([] : List Loc), lo ≤ q.base := fun q h => nomatch h
  unfold f_X8_shape at hf
  refine lv_iload_n hx hb dX8_shape_0 rfl (lv_at hl 1 rfl) ?_
  refine lv_iconst (v := 2) hx hb dX8_shape_1 (by decide) ?_
  refine lv_bipush (v := 16) hx hb dX8_shape_2 (by decide) ?_
  obtain ⟨r1, q2, hf⟩ := cx_b hf
  refine cx_callS (As := [.int p0, .int 2, .int 16]) (rest := []) ⟨hx, hb, hml, hown, hts⟩ (c_X8_needRange (PH := P γ) q2) (cwS 3 hts (gS mw_153 mw_154 mw_11 mw_155) rfl rfl rfl hd_X8_needRange ⟨Nat.le_of_ble_eq_true rfl, Nat.le_of_ble_eq_true rfl⟩) hK hP rfl hl.1 rfl (Nat.le_of_ble_eq_true rfl) dX8_shape_4 ⟨Nat.zero_le _, Nat.zero_le _⟩ hL (fun H locs hP hL => ?_)
  refine lv_iload_n hx hb dX8_shape_7 rfl (lv_at hl 2 rfl) ?_
  refine lv_iconst (v := 2) hx hb dX8_shape_8 (by decide) ?_
  refine lv_bipush (v := 24) hx hb dX8_shape_9 (by decide) ?_
  obtain ⟨r3, q4, hf⟩ := cx_b hf
  refine cx_callS (As := [.int p1, .int 2, .int 24]) (rest := []) ⟨hx, hb, hml, hown, hts⟩ (c_X8_needRange (PH := P γ) q4) (cwS 3 hts (gS mw_153 mw_154 mw_11 mw_155) rfl rfl rfl hd_X8_needRange ⟨Nat.le_of_ble_eq_true rfl, Nat.le_of_ble_eq_true rfl⟩) hK hP rfl hl.1 rfl (Nat.le_of_ble_eq_true rfl) dX8_shape_11 ⟨Nat.zero_le _, Nat.zero_le _⟩ hL (fun H locs hP hL => ?_)
  refine lv_aload_n hx hb dX8_shape_14 rfl (lv_at hl 0 rfl) ?_
  refine g_GL_4 hC hP hx hb hts hown hK mw_35 dX8_shape_15 ?_
  refine lv_aload_n hx hb dX8_shape_18 rfl (lv_at hl 0 rfl) ?_
  refine g_GL_2 hC hP hx hb hts hown hK mw_30 dX8_shape_19 ?_
  obtain ⟨r5, q6, hf⟩ := cx_b hf
  refine cx_callV (As := [.ref ((adN ad) 0)]) (rest := []) ⟨hx, hb, hml, hown, hts⟩ (c_X3_keep (fun z : CacS => cx_glH hC (γ.1, γ.2.1, z, γ.2.2.2)) (fun z : HisS => cx_glN hC (γ.1, γ.2.1, γ.2.2.1, γ.2.2.2.1, z)) q6) (cwV 1 hts (gV mw_158 mw_159 mw_160 mw_34 mw_161) rfl rfl rfl hd_X3_keep ⟨Nat.le_of_ble_eq_true rfl, Nat.le_of_ble_eq_true rfl⟩) hK (show P ((γ.1, γ.2.1, γ.2.2.1, γ.2.2.2.1, γ.2.2.2.2).1, (γ.1, γ.2.1, γ.2.2.1, γ.2.2.2.1, γ.2.2.2.2).2.1, γ.2.2.1, (γ.1, γ.2.1, γ.2.2.1, γ.2.2.2.1, γ.2.2.2.2).2.2.2) _ by (repeat rw [va_up_id]); exact hP) rfl (at_History (cx_glH hC γ) (show P (γ.1, γ.2.1, γ.2.2.1, γ.2.2.2.1, γ.2.2.2.2) _ by (repeat rw [va_up_id]); exact hP)) rfl hl.1 rfl (Nat.le_of_ble_eq_true rfl) dX8_shape_22 ⟨Nat.zero_le _, Nat.zero_le _⟩ hL (fun H locs hP hL => ?_)
  obtain ⟨z7, ez7, hf⟩ := cx_letE hf
  replace hP : P z7 H := by rw [← ez7]; (first | exact hP | (simpa only [va_up_id] using hP))
  replace hP : P z7 H := by first | exact hP | (simpa only [va_up_id] using hP)
  refine lv_aload_n hx hb dX8_shape_25 rfl (lv_at hl 0 rfl) ?_
  refine g_GL_2 hC hP hx hb hts hown hK mw_30 dX8_shape_26 ?_
  refine lv_iload_n hx hb dX8_shape_29 rfl (lv_at hl 1 rfl) ?_
  refine lv_iload_n hx hb dX8_shape_30 rfl (lv_at hl 2 rfl) ?_
  obtain ⟨r8, q9, hf⟩ := cx_b hf
  refine cx_callV (As := [.int p0, .int p1]) (rest := []) ⟨hx, hb, hml, hown, hts⟩ (c_X1_reshape (cx_glN hC z7) q9) (cwV 2 hts (gV mw_235 mw_236 mw_237 mw_29 mw_238) rfl rfl rfl hd_X1_reshape ⟨Nat.le_of_ble_eq_true rfl, Nat.le_of_ble_eq_true rfl⟩) hK (show P (z7.1, z7.2.1, z7.2.2.1, z7.2.2.2) _ by (repeat rw [va_up_id]); exact hP) rfl (at_Cache (cx_glN hC z7) (show P (z7.1, z7.2.1, z7.2.2.1, z7.2.2.2) _ by (repeat rw [va_up_id]); exact hP)) rfl hl.1 rfl (Nat.le_of_ble_eq_true rfl) dX8_shape_31 ⟨Nat.zero_le _, Nat.zero_le _⟩ hL (fun H locs hP hL => ?_)
  obtain ⟨z10, ez10, hf⟩ := cx_letE hf
  replace hP : P z10 H := by rw [← ez10]; exact hP
  cases hf
  exact cx_iret hx hb hr hlocks hP hL dX8_shape_34
abbrev rm_X8_count : Room := { frames := 2, cells := 0, slots := 0, locals := 43 }
theorem hd_X8_count : yX8_count.cls = RX8 ∧ yX8_count.cls ≠ "java/lang/invoke/MethodHandle" ∧ yX8_count.cls ≠ "java/lang/invoke/VarHandle" ∧ (parseMethodDescriptor yX8_count.desc).map (fun d => d.parameters.length) = some 1 := by decide +kernel
def f_X8_count (N : Nat) (γ : GLS) (p0 : Int32) : Option (Int32) := (f_X8_needRange p0 0 23).bind fun r1 => if p0 = 23 then some (γ.2.2.2.2.1.2 2) else (f_X1_numberOf N γ.2.2.1 p0).bind fun r4 => some r4
set_option maxHeartbeats 4000000 in
set_option maxRecDepth 100000 in
theorem c_X8_count {l : Launch} {G : va_G} {cA : Nat → ClassId} {lo : Nat} {ad : Nat → Nat} {sv : Nat → Option Nat} {P : GLS → Heap → Prop} (hC : cx G lo 262 ad (ceGL sv cA ad) P) {N : Nat} {γ : GLS} {p0 : Int32} {res : Int32} (hf : f_X8_count N γ p0 = some res) : Met l yX8_count (cW yX8_count cX8_count 2 (some .int)) rm_X8_count (cP [.ref (ad 0), .int p0] (P γ) G cA) (cQ (some (.int res)) (P γ)) 0 0 (fun q => lo ≤ q) := by
  refine cx_met (by decide) (Nat.le_of_ble_eq_true rfl) (fun p e s m args below meth c ls C0 hP hl => ?_)
  have hl : lv_has ls 2 [(0, .ref (ad 0)), (1, .int p0)] := hl
  obtain ⟨⟨hx, hb, hml, hown, hts⟩, hr, hlocks, hK⟩ := id C0
  have hL : ∀ q ∈ ([] : List Loc), lo ≤ q.base := fun q h => nomatch h
  unfold f_X8_count at hf
  refine lv_iload_n hx hb dX8_count_0 rfl (lv_at hl 1 rfl) ?_
  refine lv_iconst (v := 0) hx hb dX8_count_1 (by decide) ?_
  refine lv_bipush (v := 23) hx hb dX8_count_2 (by decide) ?_
  obtain ⟨r1, q2, hf⟩ := cx_b hf
  refine cx_callS (As := [.int p0, .int 0, .int 23]) (rest := []) ⟨hx, hb, hml, hown, hts⟩ (c_X8_needRange (PH := P γ) q2) (cwS 3 hts (gS mw_153 mw_154 mw_11 mw_155) rfl rfl rfl hd_X8_needRange ⟨Nat.le_of_ble_eq_true rfl, Nat.le_of_ble_eq_true rfl⟩) hK hP rfl hl.1 rfl (Nat.le_of_ble_eq_true rfl) dX8_count_4 ⟨Nat.zero_le _, Nat.zero_le _⟩ hL (fun H locs hP hL => ?_)
  refine lv_iload_n hx hb dX8_count_7 rfl (lv_at hl 1 rfl) ?_
  refine lv_bipush (v := 23) hx hb dX8_count_8 (by decide) ?_
  refine lv_icmp_ne (tgt := 23) hx hb dX8_count_10 (by decide) (fun c3 => ?_) (fun c3 => ?_)
  · have hf := cx_f hf c3
    refine lv_aload_n hx hb dX8_count_23 rfl (lv_at hl 0 rfl) ?_
    refine g_GL_2 hC hP hx hb hts hown hK mw_30 dX8_count_24 ?_
    refine lv_iload_n hx hb dX8_count_27 rfl (lv_at hl 1 rfl) ?_
    obtain ⟨r4, q5, hf⟩ := cx_b hf
    refine cx_callV (As := [.int p0]) (rest := []) ⟨hx, hb, hml, hown, hts⟩ (c_X1_numberOf (cx_glN hC γ) q5) (cwV 1 hts (gV mw_283 mw_284 mw_285 mw_29 mw_286) rfl rfl rfl hd_X1_numberOf ⟨Nat.le_of_ble_eq_true rfl, Nat.le_of_ble_eq_true rfl⟩) hK (show P (γ.1, γ.2.1, γ.2.2.1, γ.2.2.2) _ by (repeat rw [va_up_id]); exact hP) rfl (at_Cache (cx_glN hC γ) (show P (γ.1, γ.2.1, γ.2.2.1, γ.2.2.2) _ by (repeat rw [va_up_id]); exact hP)) rfl hl.1 rfl (Nat.le_of_ble_eq_true rfl) dX8_count_28 ⟨Nat.zero_le _, Nat.zero_le _⟩ hL (fun H locs hP hL => ?_)
    replace hP : P γ H := by first | exact hP | (simpa only [va_up_id] using hP)
    cases hf
    exact cx_iret hx hb hr hlocks hP hL dX8_count_31
  · have hf := cx_t hf c3
    refine lv_aload_n hx hb dX8_count_13 rfl (lv_at hl 0 rfl) ?_
    refine g_GL_4 hC hP hx hb hts hown hK mw_35 dX8_count_14 ?_
    refine g_History_2 (cx_glH hC γ) (show P (γ.1, γ.2.1, γ.2.2.1, γ.2.2.2.1, γ.2.2.2.2) _ by (repeat rw [va_up_id]); exact hP) hx hb hts hown hK mw_282 dX8_count_17 ?_
    refine lv_goto (tgt := 31) hx hb dX8_count_20 (by decide) ?_
    cases hf
    exact cx_iret hx hb hr hlocks hP hL dX8_count_31
abbrev rm_X8_client : Room := { frames := 4, cells := 0, slots := 0, locals := 89 }
theorem hd_X8_client : yX8_client.cls = RX8 ∧ yX8_client.cls ≠ "java/lang/invoke/MethodHandle" ∧ yX8_client.cls ≠ "java/lang/invoke/VarHandle" ∧ (parseMethodDescriptor yX8_client.desc).map (fun d => d.parameters.length) = some 2 := by decide +kernel
def f_X8_client (N : Nat) (γ : GLS) (p0 : Int32) (p1 : Int32) : Option (Int32) := (f_X8_needClient γ p0).bind fun r1 => (f_X8_needRange p1 0 10).bind fun r3 => (f_X1_numberOfClient N γ.2.2.1 p0 p1).bind fun r5 => some r5
set_option maxHeartbeats 4000000 in
set_option maxRecDepth 100000 in
theorem c_X8_client {l : Launch} {G : va_G} {cA : Nat → ClassId} {lo : Nat} {ad : Nat → Nat} {sv : Nat → Option Nat} {P : GLS → Heap → Prop} (hC : cx G lo 262 ad (ceGL sv cA ad) P) {N : Nat} {γ : GLS} {p0 : Int32} {p1 : Int32} {res : Int32} (hf : f_X8_client N γ p0 p1 = some res) : Met l yX8_client (cW yX8_client cX8_client 3 (some .int)) rm_X8_client (cP [.ref (ad 0), .int p0, .int p1] (P γ) G cA) (cQ (some (.int res)) (P γ)) 0 0 (fun q => lo ≤ q) := by
  refine cx_met (by decide) (Nat.le_of_ble_eq_true rfl) (fun p e s m args below meth c ls C0 hP hl => ?_)
  have hl : lv_has ls 3 [(0, .ref (ad 0)), (1, .int p0), (2, .int p1)] := hl
  obtain ⟨⟨hx, hb, hml, hown, hts⟩, hr, hlocks, hK⟩ := id C0
  have hL : ∀ q ∈ ([] : List Loc), lo ≤ q.base := fun q h => nomatch h
  unfold f_X8_client at hf
  refine lv_aload_n hx hb dX8_client_0 rfl (lv_at hl 0 rfl) ?_
  refine lv_iload_n hx hb dX8_client_1 rfl (lv_at hl 1 rfl) ?_
  obtain ⟨r1, q2, hf⟩ := cx_b hf
  refine cx_callV (As := [.int p0]) (rest := []) ⟨hx, hb, hml, hown, hts⟩ (c_X8_needClient hC q2) (cwV 1 hts (gV mw_309 mw_310 mw_311 mw_11 mw_312) rfl rfl rfl hd_X8_needClient ⟨Nat.le_of_ble_eq_true rfl, Nat.le_of_ble_eq_true rfl⟩) hK hP rfl (at_GL hC hP) rfl hl.1 rfl (Nat.le_of_ble_eq_true rfl) dX8_client_2 ⟨Nat.zero_le _, Nat.zero_le _⟩ hL (fun H locs hP hL => ?_)
  replace hP : P γ H := by first | exact hP | (simpa only [va_up_id] using hP)
  refine lv_iload_n hx hb dX8_client_5 rfl (lv_at hl 2 rfl) ?_
  refine lv_iconst (v := 0) hx hb dX8_client_6 (by decide) ?_
  refine lv_bipush (v := 10) hx hb dX8_client_7 (by decide) ?_
  obtain ⟨r3, q4, hf⟩ := cx_b hf
  refine cx_callS (As := [.int p1, .int 0, .int 10]) (rest := []) ⟨hx, hb, hml, hown, hts⟩ (c_X8_needRange (PH := P γ) q4) (cwS 3 hts (gS mw_153 mw_154 mw_11 mw_155) rfl rfl rfl hd_X8_needRange ⟨Nat.le_of_ble_eq_true rfl, Nat.le_of_ble_eq_true rfl⟩) hK hP rfl hl.1 rfl (Nat.le_of_ble_eq_true rfl) dX8_client_9 ⟨Nat.zero_le _, Nat.zero_le _⟩ hL (fun H locs hP hL => ?_)
  refine lv_aload_n hx hb dX8_client_12 rfl (lv_at hl 0 rfl) ?_
  refine g_GL_2 hC hP hx hb hts hown hK mw_30 dX8_client_13 ?_
  refine lv_iload_n hx hb dX8_client_16 rfl (lv_at hl 1 rfl) ?_
  refine lv_iload_n hx hb dX8_client_17 rfl (lv_at hl 2 rfl) ?_
  obtain ⟨r5, q6, hf⟩ := cx_b hf
  refine cx_callV (As := [.int p0, .int p1]) (rest := []) ⟨hx, hb, hml, hown, hts⟩ (c_X1_numberOfClient (cx_glN hC γ) q6) (cwV 2 hts (gV mw_318 mw_319 mw_320 mw_29 mw_321) rfl rfl rfl hd_X1_numberOfClient ⟨Nat.le_of_ble_eq_true rfl, Nat.le_of_ble_eq_true rfl⟩) hK (show P (γ.1, γ.2.1, γ.2.2.1, γ.2.2.2) _ by (repeat rw [va_up_id]); exact hP) rfl (at_Cache (cx_glN hC γ) (show P (γ.1, γ.2.1, γ.2.2.1, γ.2.2.2) _ by (repeat rw [va_up_id]); exact hP)) rfl hl.1 rfl (Nat.le_of_ble_eq_true rfl) dX8_client_18 ⟨Nat.zero_le _, Nat.zero_le _⟩ hL (fun H locs hP hL => ?_)
  replace hP : P γ H := by first | exact hP | (simpa only [va_up_id] using hP)
  cases hf
  exact cx_iret hx hb hr hlocks hP hL dX8_client_21
abbrev rm_X8_block : Room := { frames := 3, cells := 0, slots := 0, locals := 66 }
theorem hd_X8_block : yX8_block.cls = RX8 ∧ yX8_block.cls ≠ "java/lang/invoke/MethodHandle" ∧ yX8_block.cls ≠ "java/lang/invoke/VarHandle" ∧ (parseMethodDescriptor yX8_block.desc).map (fun d => d.parameters.length) = some 2 := by decide +kernel
def f_X8_block (N : Nat) (γ : GLS) (p0 : Int32) (p1 : Int32) : Option (Int32) := (f_X8_needRange p0 0 199).bind fun r1 => (f_X8_needRange p1 0 6).bind fun r3 => (f_X1_numberOfBlock N γ.2.2.1 p0 p1).bind fun r5 => some r5
set_option maxHeartbeats 4000000 in
set_option maxRecDepth 100000 in
theorem c_X8_block {l : Launch} {G : va_G} {cA : Nat → ClassId} {lo : Nat} {ad : Nat → Nat} {sv : Nat → Option Nat} {P : GLS → Heap → Prop} (hC : cx G lo 262 ad (ceGL sv cA ad) P) {N : Nat} {γ : GLS} {p0 : Int32} {p1 : Int32} {res : Int32} (hf : f_X8_block N γ p0 p1 = some res) : Met l yX8_block (cW yX8_block cX8_block 3 (some .int)) rm_X8_block (cP [.ref (ad 0), .int p0, .int p1] (P γ) G cA) (cQ (some (.int res)) (P γ)) 0 0 (fun q => lo ≤ q) := by
  refine cx_met (by decide) (Nat.le_of_ble_eq_true rfl) (fun p e s m args below meth c ls C0 hP hl => ?_)
  have hl : lv_has ls 3 [(0, .ref (ad 0)), (1, .int p0), (2, .int p1)] := hl
  obtain ⟨⟨hx, hb, hml, hown, hts⟩, hr, hlocks, hK⟩ := id C0
  have hL : ∀ q ∈ ([] : List Loc), lo ≤ q.base := fun q h => nomatch h
  unfold f_X8_block at hf
  refine lv_iload_n hx hb dX8_block_0 rfl (lv_at hl 1 rfl) ?_
  refine lv_iconst (v := 0) hx hb dX8_block_1 (by decide) ?_
  refine lv_sipush (v := 199) hx hb dX8_block_2 (by decide) ?_
  obtain ⟨r1, q2, hf⟩ := cx_b hf
  refine cx_callS (As := [.int p0, .int 0, .int 199]) (rest := []) ⟨hx, hb, hml, hown, hts⟩ (c_X8_needRange (PH := P γ) q2) (cwS 3 hts (gS mw_153 mw_154 mw_11 mw_155) rfl rfl rfl hd_X8_needRange ⟨Nat.le_of_ble_eq_true rfl, Nat.le_of_ble_eq_true rfl⟩) hK hP rfl hl.1 rfl (Nat.le_of_ble_eq_true rfl) dX8_block_5 ⟨Nat.zero_le _, Nat.zero_le _⟩ hL (fun H locs hP hL => ?_)
  refine lv_iload_n hx hb dX8_block_8 rfl (lv_at hl 2 rfl) ?_
  refine lv_iconst (v := 0) hx hb dX8_block_9 (by decide) ?_
  refine lv_bipush (v := 6) hx hb dX8_block_10 (by decide) ?_
  obtain ⟨r3, q4, hf⟩ := cx_b hf
  refine cx_callS (As := [.int p1, .int 0, .int 6]) (rest := []) ⟨hx, hb, hml, hown, hts⟩ (c_X8_needRange (PH := P γ) q4) (cwS 3 hts (gS mw_153 mw_154 mw_11 mw_155) rfl rfl rfl hd_X8_needRange ⟨Nat.le_of_ble_eq_true rfl, Nat.le_of_ble_eq_true rfl⟩) hK hP rfl hl.1 rfl (Nat.le_of_ble_eq_true rfl) dX8_block_12 ⟨Nat.zero_le _, Nat.zero_le _⟩ hL (fun H locs hP hL => ?_)
  refine lv_aload_n hx hb dX8_block_15 rfl (lv_at hl 0 rfl) ?_
  refine g_GL_2 hC hP hx hb hts hown hK mw_30 dX8_block_16 ?_
  refine lv_iload_n hx hb dX8_block_19 rfl (lv_at hl 1 rfl) ?_
  refine lv_iload_n hx hb dX8_block_20 rfl (lv_at hl 2 rfl) ?_
  obtain ⟨r5, q6, hf⟩ := cx_b hf
  refine cx_callV (As := [.int p0, .int p1]) (rest := []) ⟨hx, hb, hml, hown, hts⟩ (c_X1_numberOfBlock (cx_glN hC γ) q6) (cwV 2 hts (gV mw_360 mw_361 mw_362 mw_29 mw_363) rfl rfl rfl hd_X1_numberOfBlock ⟨Nat.le_of_ble_eq_true rfl, Nat.le_of_ble_eq_true rfl⟩) hK (show P (γ.1, γ.2.1, γ.2.2.1, γ.2.2.2) _ by (repeat rw [va_up_id]); exact hP) rfl (at_Cache (cx_glN hC γ) (show P (γ.1, γ.2.1, γ.2.2.1, γ.2.2.2) _ by (repeat rw [va_up_id]); exact hP)) rfl hl.1 rfl (Nat.le_of_ble_eq_true rfl) dX8_block_21 ⟨Nat.zero_le _, Nat.zero_le _⟩ hL (fun H locs hP hL => ?_)
  replace hP : P γ H := by first | exact hP | (simpa only [va_up_id] using hP)
  cases hf
  exact cx_iret hx hb hr hlocks hP hL dX8_block_24
abbrev rm_X8_needNoLessThanZero : Room := { frames := 0, cells := 0, slots := 0, locals := 0 }
theorem hd_X8_needNoLessThanZero : yX8_needNoLessThanZero.cls = RX8 ∧ yX8_needNoLessThanZero.cls ≠ "java/lang/invoke/MethodHandle" ∧ yX8_needNoLessThanZero.cls ≠ "java/lang/invoke/VarHandle" ∧ (parseMethodDescriptor yX8_needNoLessThanZero.desc).map (fun d => d.parameters.length) = some 1 := by decide +kernel
def f_X8_needNoLessThanZero (p0 : Int32) : Option (Unit) := if 0 ≤ p0 then some () else none
set_option maxHeartbeats 4000000 in
set_option maxRecDepth 100000 in
theorem c_X8_needNoLessThanZero {l : Launch} {G : va_G} {cA : Nat → ClassId} {lo : Nat} {PH : Heap → Prop} {p0 : Int32} {res : Unit} (hf : f_X8_needNoLessThanZero p0 = some res) : Met l yX8_needNoLessThanZero (cW yX8_needNoLessThanZero cX8_needNoLessThanZero 1 none) rm_X8_needNoLessThanZero (cP [.int p0] (PH) G cA) (cQ none (PH)) 0 0 (fun q => lo ≤ q) := by
  refine cx_met (by decide) (Nat.le_of_ble_eq_true rfl) (fun p e s m args below meth c ls C0 hP hl => ?_)
  have hl : lv_has ls 1 [(0, .int p0)] := hl
  obtain ⟨⟨hx, hb, hml, hown, hts⟩, hr, hlocks, hK⟩ := id C0
  have hL : ∀ q ∈ ([] : List Loc), lo ≤ q.base := fun q h => nomatch h
  unfold f_X8_needNoLessThanZero at hf
  refine lv_iload_n hx hb dX8_needNoLessThanZero_0 rfl (lv_at hl 0 rfl) ?_
  refine lv_if_ge (tgt := 14) hx hb dX8_needNoLessThanZero_1 (by decide) (fun c1 => ?_) (fun c1 => ?_)
  · have hf := cx_t hf c1
    cases hf
    exact cx_vret hx hb hr hlocks hP hL dX8_needNoLessThanZero_14
  · have hf := cx_f hf c1
    cases hf
abbrev rm_X8_at : Room := { frames := 1, cells := 0, slots := 0, locals := 21 }
theorem hd_X8_at : yX8_at.cls = RX8 ∧ yX8_at.cls ≠ "java/lang/invoke/MethodHandle" ∧ yX8_at.cls ≠ "java/lang/invoke/VarHandle" ∧ (parseMethodDescriptor yX8_at.desc).map (fun d => d.parameters.length) = some 2 := by decide +kernel
def f_X8_at (γ : GLS) (p0 : Int32) (p1 : Int32) : Option (Int32) := (f_X8_needIndex p0 5).bind fun r1 => (f_X8_needNoLessThanZero p1).bind fun r3 => (f_X1_rowOf γ.2.2.1 p0).bind fun r5 => (f_X5_blockAt (γ.2.2.1 (3 + r5)) p1).bind fun r7 => some r7
set_option maxHeartbeats 4000000 in
set_option maxRecDepth 100000 in
theorem c_X8_at {l : Launch} {G : va_G} {cA : Nat → ClassId} {lo : Nat} {ad : Nat → Nat} {sv : Nat → Option Nat} {P : GLS → Heap → Prop} (hC : cx G lo 262 ad (ceGL sv cA ad) P) {γ : GLS} {p0 : Int32} {p1 : Int32} {res : Int32} (hf : f_X8_at γ p0 p1 = some res) : Met l yX8_at (cW yX8_at cX8_at 3 (some .int)) rm_X8_at (cP [.ref (ad 0), .int p0, .int p1] (P γ) G cA) (cQ (some (.int res)) (P γ)) 0 0 (fun q => lo ≤ q) := by
  refine cx_met (by decide) (Nat.le_of_ble_eq_true rfl) (fun p e s m args below meth c ls C0 hP hl => ?_)
  have hl : lv_has ls 3 [(0, .ref (ad 0)), (1, .int p0), (2, .int p1)] := hl
  obtain ⟨⟨hx, hb, hml, hown, hts⟩, hr, hlocks, hK⟩ := id C0
  have hL : ∀ q ∈ ([] : List Loc), lo ≤ q.base := fun q h => nomatch h
  unfold f_X8_at at hf
  refine lv_iload_n hx hb dX8_at_0 rfl (lv_at hl 1 rfl) ?_
  refine lv_iconst (v := 5) hx hb dX8_at_1 (by decide) ?_
  obtain ⟨r1, q2, hf⟩ := cx_b hf
  refine cx_callS (As := [.int p0, .int 5]) (rest := []) ⟨hx, hb, hml, hown, hts⟩ (c_X8_needIndex (PH := P γ) q2) (cwS 2 hts (gS mw_313 mw_314 mw_11 mw_315) rfl rfl rfl hd_X8_needIndex ⟨Nat.le_of_ble_eq_true rfl, Nat.le_of_ble_eq_true rfl⟩) hK hP rfl hl.1 rfl (Nat.le_of_ble_eq_true rfl) dX8_at_2 ⟨Nat.zero_le _, Nat.zero_le _⟩ hL (fun H locs hP hL => ?_)
  refine lv_iload_n hx hb dX8_at_5 rfl (lv_at hl 2 rfl) ?_
  obtain ⟨r3, q4, hf⟩ := cx_b hf
  refine cx_callS (As := [.int p1]) (rest := []) ⟨hx, hb, hml, hown, hts⟩ (c_X8_needNoLessThanZero (PH := P γ) q4) (cwS 1 hts (gS mw_606 mw_607 mw_11 mw_608) rfl rfl rfl hd_X8_needNoLessThanZero ⟨Nat.le_of_ble_eq_true rfl, Nat.le_of_ble_eq_true rfl⟩) hK hP rfl hl.1 rfl (Nat.le_of_ble_eq_true rfl) dX8_at_6 ⟨Nat.zero_le _, Nat.zero_le _⟩ hL (fun H locs hP hL => ?_)
  refine lv_aload_n hx hb dX8_at_9 rfl (lv_at hl 0 rfl) ?_
  refine g_GL_2 hC hP hx hb hts hown hK mw_30 dX8_at_10 ?_
  refine lv_iload_n hx hb dX8_at_13 rfl (lv_at hl 1 rfl) ?_
  obtain ⟨r5, q6, hf⟩ := cx_b hf
  refine cx_callV (As := [.int p0]) (rest := []) ⟨hx, hb, hml, hown, hts⟩ (c_X1_rowOf (cx_glN hC γ) q6) (cwV 1 hts (gV mw_609 mw_290 mw_291 mw_29 mw_292) rfl rfl rfl hd_X1_rowOf ⟨Nat.le_of_ble_eq_true rfl, Nat.le_of_ble_eq_true rfl⟩) hK (show P (γ.1, γ.2.1, γ.2.2.1, γ.2.2.2) _ by (repeat rw [va_up_id]); exact hP) rfl (at_Cache (cx_glN hC γ) (show P (γ.1, γ.2.1, γ.2.2.1, γ.2.2.2) _ by (repeat rw [va_up_id]); exact hP)) rfl hl.1 rfl (Nat.le_of_ble_eq_true rfl) dX8_at_14 ⟨Nat.zero_le _, Nat.zero_le _⟩ hL (fun H locs hP hL => ?_)
  replace hP : P γ H := by first | exact hP | (simpa only [va_up_id] using hP)
  have hr5 := f_X1_rowOf_lt q6
  refine lv_iload_n hx hb dX8_at_17 rfl (lv_at hl 2 rfl) ?_
  obtain ⟨r7, q8, hf⟩ := cx_b hf
  refine cx_callV (As := [.int p1]) (rest := []) ⟨hx, hb, hml, hown, hts⟩ (c_X5_blockAt (cx_row (cx_glN hC γ) (γ.2.2.1) r5 (3 + r5) hr5 rfl) q8) (cwV 1 hts (gV mw_610 mw_202 mw_203 mw_66 mw_204) rfl rfl rfl hd_X5_blockAt ⟨Nat.le_of_ble_eq_true rfl, Nat.le_of_ble_eq_true rfl⟩) hK (show P (γ.1, γ.2.1, (va_up (γ.2.2.1) (3 + r5) (γ.2.2.1 (3 + r5))), γ.2.2.2) _ by (repeat rw [va_up_id]); exact hP) rfl (at_Row (cx_row (cx_glN hC γ) (γ.2.2.1) r5 (3 + r5) hr5 rfl) (show P (γ.1, γ.2.1, (va_up (γ.2.2.1) (3 + r5) (γ.2.2.1 (3 + r5))), γ.2.2.2) _ by (repeat rw [va_up_id]); exact hP)) rfl hl.1 rfl (Nat.le_of_ble_eq_true rfl) dX8_at_18 ⟨Nat.zero_le _, Nat.zero_le _⟩ hL (fun H locs hP hL => ?_)
  replace hP : P γ H := by first | exact hP | (simpa only [va_up_id] using hP)
  cases hf
  exact cx_iret hx hb hr hlocks hP hL dX8_at_21
abbrev rm_X8_read : Room := { frames := 5, cells := 0, slots := 0, locals := 127 }
theorem hd_X8_read : yX8_read.cls = RX8 ∧ yX8_read.cls ≠ "java/lang/invoke/MethodHandle" ∧ yX8_read.cls ≠ "java/lang/invoke/VarHandle" ∧ (parseMethodDescriptor yX8_read.desc).map (fun d => d.parameters.length) = some 2 := by decide +kernel
def f_X8_read (N : Nat) (γ : GLS) (p0 : Int32) (p1 : Int32) : Option (Int32 × GLS) := (f_X8_needClient γ p0).bind fun r1 => (f_X8_needRange p1 0 199).bind fun r3 => (f_X3_keep N γ.2.2.2.2 γ.2.2.1).bind fun r5 => cx_let ((γ.1, γ.2.1, γ.2.2.1, γ.2.2.2.1, r5)) fun z7 => (f_X1_access N z7.2.2.1 p0 p1 0).bind fun r8 => cx_let ((z7.1, z7.2.1, r8.2, z7.2.2.2)) fun z10 => (f_X0_valueOf (z10.2.2.1 1) p1).bind fun r11 => some (r11, z10)
set_option maxHeartbeats 4000000 in
set_option maxRecDepth 100000 in
theorem c_X8_read {l : Launch} {G : va_G} {cA : Nat → ClassId} {lo : Nat} {ad : Nat → Nat} {sv : Nat → Option Nat} {P : GLS → Heap → Prop} (hC : cx G lo 262 ad (ceGL sv cA ad) P) {N : Nat} {γ : GLS} {p0 : Int32} {p1 : Int32} {res : Int32 × GLS} (hf : f_X8_read N γ p0 p1 = some res) : Met l yX8_read (cW yX8_read cX8_read 3 (some .int)) rm_X8_read (cP [.ref (ad 0), .int p0, .int p1] (P γ) G cA) (cQ (some (.int res.1)) (P res.2)) 0 0 (fun q => lo ≤ q) := by
  refine cx_met (by decide) (Nat.le_of_ble_eq_true rfl) (fun p e s m args below meth c ls C0 hP hl => ?_)
  have hl : lv_has ls 3 [(0, .ref (ad 0)), (1, .int p0), (2, .int p1)] := hl
  obtain ⟨⟨hx, hb, hml, hown, hts⟩, hr, hlocks, hK⟩ := id C0
  have hL : ∀ q ∈ ([] : List Loc), lo ≤ q.base := fun q h => nomatch h
  unfold f_X8_read at hf
  refine lv_aload_n hx hb dX8_read_0 rfl (lv_at hl 0 rfl) ?_
  refine lv_iload_n hx hb dX8_read_1 rfl (lv_at hl 1 rfl) ?_
  obtain ⟨r1, q2, hf⟩ := cx_b hf
  refine cx_callV (As := [.int p0]) (rest := []) ⟨hx, hb, hml, hown, hts⟩ (c_X8_needClient hC q2) (cwV 1 hts (gV mw_309 mw_310 mw_311 mw_11 mw_312) rfl rfl rfl hd_X8_needClient ⟨Nat.le_of_ble_eq_true rfl, Nat.le_of_ble_eq_true rfl⟩) hK hP rfl (at_GL hC hP) rfl hl.1 rfl (Nat.le_of_ble_eq_true rfl) dX8_read_2 ⟨Nat.zero_le _, Nat.zero_le _⟩ hL (fun H locs hP hL => ?_)
  replace hP : P γ H := by first | exact hP | (simpa only [va_up_id] using hP)
  refine lv_iload_n hx hb dX8_read_5 rfl (lv_at hl 2 rfl) ?_
  refine lv_iconst (v := 0) hx hb dX8_read_6 (by decide) ?_
  refine lv_sipush (v := 199) hx hb dX8_read_7 (by decide) ?_
  obtain ⟨r3, q4, hf⟩ := cx_b hf
  refine cx_callS (As := [.int p1, .int 0, .int 199]) (rest := []) ⟨hx, hb, hml, hown, hts⟩ (c_X8_needRange (PH := P γ) q4) (cwS 3 hts (gS mw_153 mw_154 mw_11 mw_155) rfl rfl rfl hd_X8_needRange ⟨Nat.le_of_ble_eq_true rfl, Nat.le_of_ble_eq_true rfl⟩) hK hP rfl hl.1 rfl (Nat.le_of_ble_eq_true rfl) dX8_read_10 ⟨Nat.zero_le _, Nat.zero_le _⟩ hL (fun H locs hP hL => ?_)
  refine lv_aload_n hx hb dX8_read_13 rfl (lv_at hl 0 rfl) ?_
  refine g_GL_4 hC hP hx hb hts hown hK mw_35 dX8_read_14 ?_
  refine lv_aload_n hx hb dX8_read_17 rfl (lv_at hl 0 rfl) ?_
  refine g_GL_2 hC hP hx hb hts hown hK mw_30 dX8_read_18 ?_
  obtain ⟨r5, q6, hf⟩ := cx_b hf
  refine cx_callV (As := [.ref ((adN ad) 0)]) (rest := []) ⟨hx, hb, hml, hown, hts⟩ (c_X3_keep (fun z : CacS => cx_glH hC (γ.1, γ.2.1, z, γ.2.2.2)) (fun z : HisS => cx_glN hC (γ.1, γ.2.1, γ.2.2.1, γ.2.2.2.1, z)) q6) (cwV 1 hts (gV mw_158 mw_159 mw_160 mw_34 mw_161) rfl rfl rfl hd_X3_keep ⟨Nat.le_of_ble_eq_true rfl, Nat.le_of_ble_eq_true rfl⟩) hK (show P ((γ.1, γ.2.1, γ.2.2.1, γ.2.2.2.1, γ.2.2.2.2).1, (γ.1, γ.2.1, γ.2.2.1, γ.2.2.2.1, γ.2.2.2.2).2.1, γ.2.2.1, (γ.1, γ.2.1, γ.2.2.1, γ.2.2.2.1, γ.2.2.2.2).2.2.2) _ by (repeat rw [va_up_id]); exact hP) rfl (at_History (cx_glH hC γ) (show P (γ.1, γ.2.1, γ.2.2.1, γ.2.2.2.1, γ.2.2.2.2) _ by (repeat rw [va_up_id]); exact hP)) rfl hl.1 rfl (Nat.le_of_ble_eq_true rfl) dX8_read_21 ⟨Nat.zero_le _, Nat.zero_le _⟩ hL (fun H locs hP hL => ?_)
  obtain ⟨z7, ez7, hf⟩ := cx_letE hf
  replace hP : P z7 H := by rw [← ez7]; (first | exact hP | (simpa only [va_up_id] using hP))
  replace hP : P z7 H := by first | exact hP | (simpa only [va_up_id] using hP)
  refine lv_aload_n hx hb dX8_read_24 rfl (lv_at hl 0 rfl) ?_
  refine g_GL_2 hC hP hx hb hts hown hK mw_30 dX8_read_25 ?_
  refine lv_iload_n hx hb dX8_read_28 rfl (lv_at hl 1 rfl) ?_
  refine lv_iload_n hx hb dX8_read_29 rfl (lv_at hl 2 rfl) ?_
  refine lv_iconst (v := 0) hx hb dX8_read_30 (by decide) ?_
  obtain ⟨r8, q9, hf⟩ := cx_b hf
  refine cx_callV (As := [.int p0, .int p1, .int 0]) (rest := []) ⟨hx, hb, hml, hown, hts⟩ (c_X1_access (cx_glN hC z7) q9) (cwV 3 hts (gV mw_417 mw_418 mw_419 mw_29 mw_420) rfl rfl rfl hd_X1_access ⟨Nat.le_of_ble_eq_true rfl, Nat.le_of_ble_eq_true rfl⟩) hK (show P (z7.1, z7.2.1, z7.2.2.1, z7.2.2.2) _ by (repeat rw [va_up_id]); exact hP) rfl (at_Cache (cx_glN hC z7) (show P (z7.1, z7.2.1, z7.2.2.1, z7.2.2.2) _ by (repeat rw [va_up_id]); exact hP)) rfl hl.1 rfl (Nat.le_of_ble_eq_true rfl) dX8_read_31 ⟨Nat.zero_le _, Nat.zero_le _⟩ hL (fun H locs hP hL => ?_)
  obtain ⟨z10, ez10, hf⟩ := cx_letE hf
  replace hP : P z10 H := by rw [← ez10]; exact hP
  refine lv_pop hx hb dX8_read_34 rfl ?_
  refine lv_aload_n hx hb dX8_read_35 rfl (lv_at hl 0 rfl) ?_
  refine g_GL_2 hC hP hx hb hts hown hK mw_30 dX8_read_36 ?_
  refine g_Cache_0 (cx_glN hC z10) (show P (z10.1, z10.2.1, z10.2.2.1, z10.2.2.2) _ by (repeat rw [va_up_id]); exact hP) hx hb hts hown hK mw_523 dX8_read_39 ?_
  refine lv_iload_n hx hb dX8_read_42 rfl (lv_at hl 2 rfl) ?_
  obtain ⟨r11, q12, hf⟩ := cx_b hf
  refine cx_callV (As := [.int p1]) (rest := []) ⟨hx, hb, hml, hown, hts⟩ (c_X0_valueOf (cx_blk (cx_glN hC z10) (z10.2.2.1)) q12) (cwV 1 hts (gV mw_552 mw_377 mw_378 mw_58 mw_379) rfl rfl rfl hd_X0_valueOf ⟨Nat.le_of_ble_eq_true rfl, Nat.le_of_ble_eq_true rfl⟩) hK (show P (z10.1, z10.2.1, (va_up (z10.2.2.1) 1 (z10.2.2.1 1)), z10.2.2.2) _ by (repeat rw [va_up_id]); exact hP) rfl (at_Blocks (cx_blk (cx_glN hC z10) (z10.2.2.1)) (show P (z10.1, z10.2.1, (va_up (z10.2.2.1) 1 (z10.2.2.1 1)), z10.2.2.2) _ by (repeat rw [va_up_id]); exact hP)) rfl hl.1 rfl (Nat.le_of_ble_eq_true rfl) dX8_read_43 ⟨Nat.zero_le _, Nat.zero_le _⟩ hL (fun H locs hP hL => ?_)
  replace hP : P z10 H := by first | exact hP | (simpa only [va_up_id] using hP)
  cases hf
  exact cx_iret hx hb hr hlocks hP hL dX8_read_46
abbrev rm_X8_write : Room := { frames := 5, cells := 0, slots := 0, locals := 127 }
theorem hd_X8_write : yX8_write.cls = RX8 ∧ yX8_write.cls ≠ "java/lang/invoke/MethodHandle" ∧ yX8_write.cls ≠ "java/lang/invoke/VarHandle" ∧ (parseMethodDescriptor yX8_write.desc).map (fun d => d.parameters.length) = some 3 := by decide +kernel
def f_X8_write (N : Nat) (γ : GLS) (p0 : Int32) (p1 : Int32) (p2 : Int32) : Option (Int32 × GLS) := (f_X8_needClient γ p0).bind fun r1 => (f_X8_needRange p1 0 199).bind fun r3 => (f_X8_needRange p2 0 999).bind fun r5 => (f_X3_keep N γ.2.2.2.2 γ.2.2.1).bind fun r7 => cx_let ((γ.1, γ.2.1, γ.2.2.1, γ.2.2.2.1, r7)) fun z9 => (f_X1_access N z9.2.2.1 p0 p1 1).bind fun r10 => cx_let ((z9.1, z9.2.1, r10.2, z9.2.2.2)) fun z12 => (f_X1_finishWrite N z12.2.2.1 p1 p2).bind fun r13 => cx_let ((z12.1, z12.2.1, r13, z12.2.2.2)) fun z15 => some (((z15.2.2.1 1).2 7 - (z9.2.2.1 1).2 7), z15)
set_option maxHeartbeats 4000000 in
set_option maxRecDepth 100000 in
theorem c_X8_write {l : Launch} {G : va_G} {cA : Nat → ClassId} {lo : Nat} {ad : Nat → Nat} {sv : Nat → Option Nat} {P : GLS → Heap → Prop} (hC : cx G lo 262 ad (ceGL sv cA ad) P) {N : Nat} {γ : GLS} {p0 : Int32} {p1 : Int32} {p2 : Int32} {res : Int32 × GLS} (hf : f_X8_write N γ p0 p1 p2 = some res) : Met l yX8_write (cW yX8_write cX8_write 5 (some .int)) rm_X8_write (cP [.ref (ad 0), .int p0, .int p1, .int p2] (P γ) G cA) (cQ (some (.int res.1)) (P res.2)) 0 0 (fun q => lo ≤ q) := by
  refine cx_met (by decide) (Nat.le_of_ble_eq_true rfl) (fun p e s m args below meth c ls C0 hP hl => ?_)
  have hl : lv_has ls 5 [(0, .ref (ad 0)), (1, .int p0), (2, .int p1), (3, .int p2)] := hl
  obtain ⟨⟨hx, hb, hml, hown, hts⟩, hr, hlocks, hK⟩ := id C0
  have hL : ∀ q ∈ ([] : List Loc), lo ≤ q.base := fun q h => nomatch h
  unfold f_X8_write at hf
  refine lv_aload_n hx hb dX8_write_0 rfl (lv_at hl 0 rfl) ?_
  refine lv_iload_n hx hb dX8_write_1 rfl (lv_at hl 1 rfl) ?_
  obtain ⟨r1, q2, hf⟩ := cx_b hf
  refine cx_callV (As := [.int p0]) (rest := []) ⟨hx, hb, hml, hown, hts⟩ (c_X8_needClient hC q2) (cwV 1 hts (gV mw_309 mw_310 mw_311 mw_11 mw_312) rfl rfl rfl hd_X8_needClient ⟨Nat.le_of_ble_eq_true rfl, Nat.le_of_ble_eq_true rfl⟩) hK hP rfl (at_GL hC hP) rfl hl.1 rfl (Nat.le_of_ble_eq_true rfl) dX8_write_2 ⟨Nat.zero_le _, Nat.zero_le _⟩ hL (fun H locs hP hL => ?_)
  replace hP : P γ H := by first | exact hP | (simpa only [va_up_id] using hP)
  refine lv_iload_n hx hb dX8_write_5 rfl (lv_at hl 2 rfl) ?_
  refine lv_iconst (v := 0) hx hb dX8_write_6 (by decide) ?_
  refine lv_sipush (v := 199) hx hb dX8_write_7 (by decide) ?_
  obtain ⟨r3, q4, hf⟩ := cx_b hf
  refine cx_callS (As := [.int p1, .int 0, .int 199]) (rest := []) ⟨hx, hb, hml, hown, hts⟩ (c_X8_needRange (PH := P γ) q4) (cwS 3 hts (gS mw_153 mw_154 mw_11 mw_155) rfl rfl rfl hd_X8_needRange ⟨Nat.le_of_ble_eq_true rfl, Nat.le_of_ble_eq_true rfl⟩) hK hP rfl hl.1 rfl (Nat.le_of_ble_eq_true rfl) dX8_write_10 ⟨Nat.zero_le _, Nat.zero_le _⟩ hL (fun H locs hP hL => ?_)
  refine lv_iload_n hx hb dX8_write_13 rfl (lv_at hl 3 rfl) ?_
  refine lv_iconst (v := 0) hx hb dX8_write_14 (by decide) ?_
  refine lv_sipush (v := 999) hx hb dX8_write_15 (by decide) ?_
  obtain ⟨r5, q6, hf⟩ := cx_b hf
  refine cx_callS (As := [.int p2, .int 0, .int 999]) (rest := []) ⟨hx, hb, hml, hown, hts⟩ (c_X8_needRange (PH := P γ) q6) (cwS 3 hts (gS mw_153 mw_154 mw_11 mw_155) rfl rfl rfl hd_X8_needRange ⟨Nat.le_of_ble_eq_true rfl, Nat.le_of_ble_eq_true rfl⟩) hK hP rfl hl.1 rfl (Nat.le_of_ble_eq_true rfl) dX8_write_18 ⟨Nat.zero_le _, Nat.zero_le _⟩ hL (fun H locs hP hL => ?_)
  refine lv_aload_n hx hb dX8_write_21 rfl (lv_at hl 0 rfl) ?_
  refine g_GL_4 hC hP hx hb hts hown hK mw_35 dX8_write_22 ?_
  refine lv_aload_n hx hb dX8_write_25 rfl (lv_at hl 0 rfl) ?_
  refine g_GL_2 hC hP hx hb hts hown hK mw_30 dX8_write_26 ?_
  obtain ⟨r7, q8, hf⟩ := cx_b hf
  refine cx_callV (As := [.ref ((adN ad) 0)]) (rest := []) ⟨hx, hb, hml, hown, hts⟩ (c_X3_keep (fun z : CacS => cx_glH hC (γ.1, γ.2.1, z, γ.2.2.2)) (fun z : HisS => cx_glN hC (γ.1, γ.2.1, γ.2.2.1, γ.2.2.2.1, z)) q8) (cwV 1 hts (gV mw_158 mw_159 mw_160 mw_34 mw_161) rfl rfl rfl hd_X3_keep ⟨Nat.le_of_ble_eq_true rfl, Nat.le_of_ble_eq_true rfl⟩) hK (show P ((γ.1, γ.2.1, γ.2.2.1, γ.2.2.2.1, γ.2.2.2.2).1, (γ.1, γ.2.1, γ.2.2.1, γ.2.2.2.1, γ.2.2.2.2).2.1, γ.2.2.1, (γ.1, γ.2.1, γ.2.2.1, γ.2.2.2.1, γ.2.2.2.2).2.2.2) _ by (repeat rw [va_up_id]); exact hP) rfl (at_History (cx_glH hC γ) (show P (γ.1, γ.2.1, γ.2.2.1, γ.2.2.2.1, γ.2.2.2.2) _ by (repeat rw [va_up_id]); exact hP)) rfl hl.1 rfl (Nat.le_of_ble_eq_true rfl) dX8_write_29 ⟨Nat.zero_le _, Nat.zero_le _⟩ hL (fun H locs hP hL => ?_)
  obtain ⟨z9, ez9, hf⟩ := cx_letE hf
  replace hP : P z9 H := by rw [← ez9]; (first | exact hP | (simpa only [va_up_id] using hP))
  replace hP : P z9 H := by first | exact hP | (simpa only [va_up_id] using hP)
  refine lv_aload_n hx hb dX8_write_32 rfl (lv_at hl 0 rfl) ?_
  refine g_GL_2 hC hP hx hb hts hown hK mw_30 dX8_write_33 ?_
  refine g_Cache_0 (cx_glN hC z9) (show P (z9.1, z9.2.1, z9.2.2.1, z9.2.2.2) _ by (repeat rw [va_up_id]); exact hP) hx hb hts hown hK mw_523 dX8_write_36 ?_
  refine g_Blocks_7 (cx_blk (cx_glN hC z9) (z9.2.2.1)) (show P (z9.1, z9.2.1, (va_up (z9.2.2.1) 1 (z9.2.2.1 1)), z9.2.2.2) _ by (repeat rw [va_up_id]); exact hP) hx hb hts hown hK mw_526 dX8_write_39 ?_
  refine lv_istore (lv' := [(4, .int ((z9.2.2.1 1).2 7)), (0, .ref (ad 0)), (1, .int p0), (2, .int p1), (3, .int p2)]) hx hb dX8_write_42 hl (by decide) rfl (fun ls hl => ?_)
  refine lv_aload_n hx hb dX8_write_44 rfl (lv_at hl 1 rfl) ?_
  refine g_GL_2 hC hP hx hb hts hown hK mw_30 dX8_write_45 ?_
  refine lv_iload_n hx hb dX8_write_48 rfl (lv_at hl 2 rfl) ?_
  refine lv_iload_n hx hb dX8_write_49 rfl (lv_at hl 3 rfl) ?_
  refine lv_iconst (v := 1) hx hb dX8_write_50 (by decide) ?_
  obtain ⟨r10, q11, hf⟩ := cx_b hf
  refine cx_callV (As := [.int p0, .int p1, .int 1]) (rest := []) ⟨hx, hb, hml, hown, hts⟩ (c_X1_access (cx_glN hC z9) q11) (cwV 3 hts (gV mw_417 mw_418 mw_419 mw_29 mw_420) rfl rfl rfl hd_X1_access ⟨Nat.le_of_ble_eq_true rfl, Nat.le_of_ble_eq_true rfl⟩) hK (show P (z9.1, z9.2.1, z9.2.2.1, z9.2.2.2) _ by (repeat rw [va_up_id]); exact hP) rfl (at_Cache (cx_glN hC z9) (show P (z9.1, z9.2.1, z9.2.2.1, z9.2.2.2) _ by (repeat rw [va_up_id]); exact hP)) rfl hl.1 rfl (Nat.le_of_ble_eq_true rfl) dX8_write_51 ⟨Nat.zero_le _, Nat.zero_le _⟩ hL (fun H locs hP hL => ?_)
  obtain ⟨z12, ez12, hf⟩ := cx_letE hf
  replace hP : P z12 H := by rw [← ez12]; exact hP
  refine lv_pop hx hb dX8_write_54 rfl ?_
  refine lv_aload_n hx hb dX8_write_55 rfl (lv_at hl 1 rfl) ?_
  refine g_GL_2 hC hP hx hb hts hown hK mw_30 dX8_write_56 ?_
  refine lv_iload_n hx hb dX8_write_59 rfl (lv_at hl 3 rfl) ?_
  refine lv_iload_n hx hb dX8_write_60 rfl (lv_at hl 4 rfl) ?_
  obtain ⟨r13, q14, hf⟩ := cx_b hf
  refine cx_callV (As := [.int p1, .int p2]) (rest := []) ⟨hx, hb, hml, hown, hts⟩ (c_X1_finishWrite (cx_glN hC z12) q14) (cwV 2 hts (gV mw_536 mw_537 mw_538 mw_29 mw_539) rfl rfl rfl hd_X1_finishWrite ⟨Nat.le_of_ble_eq_true rfl, Nat.le_of_ble_eq_true rfl⟩) hK (show P (z12.1, z12.2.1, z12.2.2.1, z12.2.2.2) _ by (repeat rw [va_up_id]); exact hP) rfl (at_Cache (cx_glN hC z12) (show P (z12.1, z12.2.1, z12.2.2.1, z12.2.2.2) _ by (repeat rw [va_up_id]); exact hP)) rfl hl.1 rfl (Nat.le_of_ble_eq_true rfl) dX8_write_61 ⟨Nat.zero_le _, Nat.zero_le _⟩ hL (fun H locs hP hL => ?_)
  obtain ⟨z15, ez15, hf⟩ := cx_letE hf
  replace hP : P z15 H := by rw [← ez15]; exact hP
  refine lv_aload_n hx hb dX8_write_64 rfl (lv_at hl 1 rfl) ?_
  refine g_GL_2 hC hP hx hb hts hown hK mw_30 dX8_write_65 ?_
  refine g_Cache_0 (cx_glN hC z15) (show P (z15.1, z15.2.1, z15.2.2.1, z15.2.2.2) _ by (repeat rw [va_up_id]); exact hP) hx hb hts hown hK mw_523 dX8_write_68 ?_
  refine g_Blocks_7 (cx_blk (cx_glN hC z15) (z15.2.2.1)) (show P (z15.1, z15.2.1, (va_up (z15.2.2.1) 1 (z15.2.2.1 1)), z15.2.2.2) _ by (repeat rw [va_up_id]); exact hP) hx hb hts hown hK mw_526 dX8_write_71 ?_
  refine lv_iload hx hb dX8_write_74 (lv_at hl 0 rfl) ?_
  refine lv_isub hx hb dX8_write_76 ?_
  cases hf
  exact cx_iret hx hb hr hlocks hP hL dX8_write_77
abbrev rm_X8_flush : Room := { frames := 4, cells := 0, slots := 0, locals := 127 }
theorem hd_X8_flush : yX8_flush.cls = RX8 ∧ yX8_flush.cls ≠ "java/lang/invoke/MethodHandle" ∧ yX8_flush.cls ≠ "java/lang/invoke/VarHandle" ∧ (parseMethodDescriptor yX8_flush.desc).map (fun d => d.parameters.length) = some 1 := by decide +kernel
def f_X8_flush (N : Nat) (γ : GLS) (p0 : Int32) : Option (Int32 × GLS) := (f_X8_needRange p0 1 40).bind fun r1 => (f_X3_keep N γ.2.2.2.2 γ.2.2.1).bind fun r3 => cx_let ((γ.1, γ.2.1, γ.2.2.1, γ.2.2.2.1, r3)) fun z5 => (f_X0_writeBackSome N (z5.2.2.1 1) p0).bind fun r6 => cx_let ((z5.1, z5.2.1, (va_up (z5.2.2.1) 1 r6.2), z5.2.2.2)) fun z8 => some (r6.1, z8)
set_option maxHeartbeats 4000000 in
set_option maxRecDepth 100000 in
theorem c_X8_flush {l : Launch} {G : va_G} {cA : Nat → ClassId} {lo : Nat} {ad : Nat → Nat} {sv : Nat → Option Nat} {P : GLS → Heap → Prop} (hC : cx G lo 262 ad (ceGL sv cA ad) P) {N : Nat} {γ : GLS} {p0 : Int32} {res : Int32 × GLS} (hf : f_X8_flush N γ p0 = some res) : Met l yX8_flush (cW yX8_flush cX8_flush 2 (some .int)) rm_X8_flush (cP [.ref (ad 0), .int p0] (P γ) G cA) (cQ (some (.int res.1)) (P res.2)) 0 0 (fun q => lo ≤ q) := by
  refine cx_met (by decide) (Nat.le_of_ble_eq_true rfl) (fun p e s m args below meth c ls C0 hP hl => ?_)
  have hl : lv_has ls 2 [(0, .ref (ad 0)), (1, .int p0)] := hl
  obtain ⟨⟨hx, hb, hml, hown, hts⟩, hr, hlocks, hK⟩ := id C0
  have hL : ∀ q ∈ ([] : List Loc), lo ≤ q.base := fun q h => nomatch h
  unfold f_X8_flush at hf
  refine lv_iload_n hx hb dX8_flush_0 rfl (lv_at hl 1 rfl) ?_
  refine lv_iconst (v := 1) hx hb dX8_flush_1 (by decide) ?_
  refine lv_bipush (v := 40) hx hb dX8_flush_2 (by decide) ?_
  obtain ⟨r1, q2, hf⟩ := cx_b hf
  refine cx_callS (As := [.int p0, .int 1, .int 40]) (rest := []) ⟨hx, hb, hml, hown, hts⟩ (c_X8_needRange (PH := P γ) q2) (cwS 3 hts (gS mw_153 mw_154 mw_11 mw_155) rfl rfl rfl hd_X8_needRange ⟨Nat.le_of_ble_eq_true rfl, Nat.le_of_ble_eq_true rfl⟩) hK hP rfl hl.1 rfl (Nat.le_of_ble_eq_true rfl) dX8_flush_4 ⟨Nat.zero_le _, Nat.zero_le _⟩ hL (fun H locs hP hL => ?_)
  refine lv_aload_n hx hb dX8_flush_7 rfl (lv_at hl 0 rfl) ?_
  refine g_GL_4 hC hP hx hb hts hown hK mw_35 dX8_flush_8 ?_
  refine lv_aload_n hx hb dX8_flush_11 rfl (lv_at hl 0 rfl) ?_
  refine g_GL_2 hC hP hx hb hts hown hK mw_30 dX8_flush_12 ?_
  obtain ⟨r3, q4, hf⟩ := cx_b hf
  refine cx_callV (As := [.ref ((adN ad) 0)]) (rest := []) ⟨hx, hb, hml, hown, hts⟩ (c_X3_keep (fun z : CacS => cx_glH hC (γ.1, γ.2.1, z, γ.2.2.2)) (fun z : HisS => cx_glN hC (γ.1, γ.2.1, γ.2.2.1, γ.2.2.2.1, z)) q4) (cwV 1 hts (gV mw_158 mw_159 mw_160 mw_34 mw_161) rfl rfl rfl hd_X3_keep ⟨Nat.le_of_ble_eq_true rfl, Nat.le_of_ble_eq_true rfl⟩) hK (show P ((γ.1, γ.2.1, γ.2.2.1, γ.2.2.2.1, γ.2.2.2.2).1, (γ.1, γ.2.1, γ.2.2.1, γ.2.2.2.1, γ.2.2.2.2).2.1, γ.2.2.1, (γ.1, γ.2.1, γ.2.2.1, γ.2.2.2.1, γ.2.2.2.2).2.2.2) _ by (repeat rw [va_up_id]); exact hP) rfl (at_History (cx_glH hC γ) (show P (γ.1, γ.2.1, γ.2.2.1, γ.2.2.2.1, γ.2.2.2.2) _ by (repeat rw [va_up_id]); exact hP)) rfl hl.1 rfl (Nat.le_of_ble_eq_true rfl) dX8_flush_15 ⟨Nat.zero_le _, Nat.zero_le _⟩ hL (fun H locs hP hL => ?_)
  obtain ⟨z5, ez5, hf⟩ := cx_letE hf
  replace hP : P z5 H := by rw [← ez5]; (first | exact hP | (simpa only [va_up_id] using hP))
  replace hP : P z5 H := by first | exact hP | (simpa only [va_up_id] using hP)
  refine lv_aload_n hx hb dX8_flush_18 rfl (lv_at hl 0 rfl) ?_
  refine g_GL_2 hC hP hx hb hts hown hK mw_30 dX8_flush_19 ?_
  refine g_Cache_0 (cx_glN hC z5) (show P (z5.1, z5.2.1, z5.2.2.1, z5.2.2.2) _ by (repeat rw [va_up_id]); exact hP) hx hb hts hown hK mw_523 dX8_flush_22 ?_
  refine lv_iload_n hx hb dX8_flush_25 rfl (lv_at hl 1 rfl) ?_
  obtain ⟨r6, q7, hf⟩ := cx_b hf
  refine cx_callV (As := [.int p0]) (rest := []) ⟨hx, hb, hml, hown, hts⟩ (c_X0_writeBackSome (cx_blk (cx_glN hC z5) (z5.2.2.1)) q7) (cwV 1 hts (gV mw_564 mw_241 mw_242 mw_58 mw_243) rfl rfl rfl hd_X0_writeBackSome ⟨Nat.le_of_ble_eq_true rfl, Nat.le_of_ble_eq_true rfl⟩) hK (show P (z5.1, z5.2.1, (va_up (z5.2.2.1) 1 (z5.2.2.1 1)), z5.2.2.2) _ by (repeat rw [va_up_id]); exact hP) rfl (at_Blocks (cx_blk (cx_glN hC z5) (z5.2.2.1)) (show P (z5.1, z5.2.1, (va_up (z5.2.2.1) 1 (z5.2.2.1 1)), z5.2.2.2) _ by (repeat rw [va_up_id]); exact hP)) rfl hl.1 rfl (Nat.le_of_ble_eq_true rfl) dX8_flush_26 ⟨Nat.zero_le _, Nat.zero_le _⟩ hL (fun H locs hP hL => ?_)
  obtain ⟨z8, ez8, hf⟩ := cx_letE hf
  replace hP : P z8 H := by rw [← ez8]; exact hP
  cases hf
  exact cx_iret hx hb hr hlocks hP hL dX8_flush_29
abbrev rm_X8_forget : Room := { frames := 4, cells := 0, slots := 0, locals := 127 }
theorem hd_X8_forget : yX8_forget.cls = RX8 ∧ yX8_forget.cls ≠ "java/lang/invoke/MethodHandle" ∧ yX8_forget.cls ≠ "java/lang/invoke/VarHandle" ∧ (parseMethodDescriptor yX8_forget.desc).map (fun d => d.parameters.length) = some 1 := by decide +kernel
def f_X8_forget (N : Nat) (γ : GLS) (p0 : Int32) : Option (Int32 × GLS) := (f_X8_needRange p0 0 199).bind fun r1 => (f_X3_keep N γ.2.2.2.2 γ.2.2.1).bind fun r3 => cx_let ((γ.1, γ.2.1, γ.2.2.1, γ.2.2.2.1, r3)) fun z5 => (f_X1_loseBlock N z5.2.2.1 p0).bind fun r6 => cx_let ((z5.1, z5.2.1, r6.2, z5.2.2.2)) fun z8 => zb r6.1 (some (r6.1, z8))
set_option maxHeartbeats 4000000 in
set_option maxRecDepth 100000 in
theorem c_X8_forget {l : Launch} {G : va_G} {cA : Nat → ClassId} {lo : Nat} {ad : Nat → Nat} {sv : Nat → Option Nat} {P : GLS → Heap → Prop} (hC : cx G lo 262 ad (ceGL sv cA ad) P) {N : Nat} {γ : GLS} {p0 : Int32} {res : Int32 × GLS} (hf : f_X8_forget N γ p0 = some res) : Met l yX8_forget (cW yX8_forget cX8_forget 2 (some .boolean)) rm_X8_forget (cP [.ref (ad 0), .int p0] (P γ) G cA) (cQ (some (.int res.1)) (P res.2)) 0 0 (fun q => lo ≤ q) := by
  refine cx_met (by decide) (Nat.le_of_ble_eq_true rfl) (fun p e s m args below meth c ls C0 hP hl => ?_)
  have hl : lv_has ls 2 [(0, .ref (ad 0)), (1, .int p0)] := hl
  obtain ⟨⟨hx, hb, hml, hown, hts⟩, hr, hlocks, hK⟩ := id C0
  have hL : ∀ q ∈ ([] : List Loc), lo ≤ q.base := fun q h => nomatch h
  unfold f_X8_forget at hf
  refine lv_iload_n hx hb dX8_forget_0 rfl (lv_at hl 1 rfl) ?_
  refine lv_iconst (v := 0) hx hb dX8_forget_1 (by decide) ?_
  refine lv_sipush (v := 199) hx hb dX8_forget_2 (by decide) ?_
  obtain ⟨r1, q2, hf⟩ := cx_b hf
  refine cx_callS (As := [.int p0, .int 0, .int 199]) (rest := []) ⟨hx, hb, hml, hown, hts⟩ (c_X8_needRange (PH := P γ) q2) (cwS 3 hts (gS mw_153 mw_154 mw_11 mw_155) rfl rfl rfl hd_X8_needRange ⟨Nat.le_of_ble_eq_true rfl, Nat.le_of_ble_eq_true rfl⟩) hK hP rfl hl.1 rfl (Nat.le_of_ble_eq_true rfl) dX8_forget_5 ⟨Nat.zero_le _, Nat.zero_le _⟩ hL (fun H locs hP hL => ?_)
  refine lv_aload_n hx hb dX8_forget_8 rfl (lv_at hl 0 rfl) ?_
  refine g_GL_4 hC hP hx hb hts hown hK mw_35 dX8_forget_9 ?_
  refine lv_aload_n hx hb dX8_forget_12 rfl (lv_at hl 0 rfl) ?_
  refine g_GL_2 hC hP hx hb hts hown hK mw_30 dX8_forget_13 ?_
  obtain ⟨r3, q4, hf⟩ := cx_b hf
  refine cx_callV (As := [.ref ((adN ad) 0)]) (rest := []) ⟨hx, hb, hml, hown, hts⟩ (c_X3_keep (fun z : CacS => cx_glH hC (γ.1, γ.2.1, z, γ.2.2.2)) (fun z : HisS => cx_glN hC (γ.1, γ.2.1, γ.2.2.1, γ.2.2.2.1, z)) q4) (cwV 1 hts (gV mw_158 mw_159 mw_160 mw_34 mw_161) rfl rfl rfl hd_X3_keep ⟨Nat.le_of_ble_eq_true rfl, Nat.le_of_ble_eq_true rfl⟩) hK (show P ((γ.1, γ.2.1, γ.2.2.1, γ.2.2.2.1, γ.2.2.2.2).1, (γ.1, γ.2.1, γ.2.2.1, γ.2.2.2.1, γ.2.2.2.2).2.1, γ.2.2.1, (γ.1, γ.2.1, γ.2.2.1, γ.2.2.2.1, γ.2.2.2.2).2.2.2) _ by (repeat rw [va_up_id]); exact hP) rfl (at_History (cx_glH hC γ) (show P (γ.1, γ.2.1, γ.2.2.1, γ.2.2.2.1, γ.2.2.2.2) _ by (repeat rw [va_up_id]); exact hP)) rfl hl.1 rfl (Nat.le_of_ble_eq_true rfl) dX8_forget_16 ⟨Nat.zero_le _, Nat.zero_le _⟩ hL (fun H locs hP hL => ?_)
  obtain ⟨z5, ez5, hf⟩ := cx_letE hf
  replace hP : P z5 H := by rw [← ez5]; (first | exact hP | (simpa only [va_up_id] using hP))
  replace hP : P z5 H := by first | exact hP | (simpa only [va_up_id] using hP)
  refine lv_aload_n hx hb dX8_forget_19 rfl (lv_at hl 0 rfl) ?_
  refine g_GL_2 hC hP hx hb hts hown hK mw_30 dX8_forget_20 ?_
  refine lv_iload_n hx hb dX8_forget_23 rfl (lv_at hl 1 rfl) ?_
  obtain ⟨r6, q7, hf⟩ := cx_b hf
  refine cx_callV (As := [.int p0]) (rest := []) ⟨hx, hb, hml, hown, hts⟩ (c_X1_loseBlock (cx_glN hC z5) q7) (cwV 1 hts (gV mw_572 mw_573 mw_574 mw_29 mw_575) rfl rfl rfl hd_X1_loseBlock ⟨Nat.le_of_ble_eq_true rfl, Nat.le_of_ble_eq_true rfl⟩) hK (show P (z5.1, z5.2.1, z5.2.2.1, z5.2.2.2) _ by (repeat rw [va_up_id]); exact hP) rfl (at_Cache (cx_glN hC z5) (show P (z5.1, z5.2.1, z5.2.2.1, z5.2.2.2) _ by (repeat rw [va_up_id]); exact hP)) rfl hl.1 rfl (Nat.le_of_ble_eq_true rfl) dX8_forget_24 ⟨Nat.zero_le _, Nat.zero_le _⟩ hL (fun H locs hP hL => ?_)
  obtain ⟨z8, ez8, hf⟩ := cx_letE hf
  replace hP : P z8 H := by rw [← ez8]; exact hP
  obtain ⟨hz9, hf⟩ := zbE hf
  cases hf
  exact cx_zret hx hb hr hlocks hz9 hP hL dX8_forget_27
abbrev rm_X8_order : Room := { frames := 2, cells := 0, slots := 0, locals := 45 }
theorem hd_X8_order : yX8_order.cls = RX8 ∧ yX8_order.cls ≠ "java/lang/invoke/MethodHandle" ∧ yX8_order.cls ≠ "java/lang/invoke/VarHandle" ∧ (parseMethodDescriptor yX8_order.desc).map (fun d => d.parameters.length) = some 1 := by decide +kernel
def f_X8_order (N : Nat) (γ : GLS) (p0 : Int32) : Option (Int32) := (f_X8_needNoLessThanZero p0).bind fun r1 => (f_X0_dirtyAt N (γ.2.2.1 1) p0).bind fun r3 => some r3
set_option maxHeartbeats 4000000 in
set_option maxRecDepth 100000 in
theorem c_X8_order {l : Launch} {G : va_G} {cA : Nat → ClassId} {lo : Nat} {ad : Nat → Nat} {sv : Nat → Option Nat} {P : GLS → Heap → Prop} (hC : cx G lo 262 ad (ceGL sv cA ad) P) {N : Nat} {γ : GLS} {p0 : Int32} {res : Int32} (hf : f_X8_order N γ p0 = some res) : Met l yX8_order (cW yX8_order cX8_order 2 (some .int)) rm_X8_order (cP [.ref (ad 0), .int p0] (P γ) G cA) (cQ (some (.int res)) (P γ)) 0 0 (fun q => lo ≤ q) := by
  refine cx_met (by decide) (Nat.le_of_ble_eq_true rfl) (fun p e s m args below meth c ls C0 hP hl => ?_)
  have hl : lv_has ls 2 [(0, .ref (ad 0)), (1, .int p0)] := hl
  obtain ⟨⟨hx, hb, hml, hown, hts⟩, hr, hlocks, hK⟩ := id C0
  have hL : ∀ q ∈ ([] : List Loc), lo ≤ q.base := fun q h => nomatch h
  unfold f_X8_order at hf
  refine lv_iload_n hx hb dX8_order_0 rfl (lv_at hl 1 rfl) ?_
  obtain ⟨r1, q2, hf⟩ := cx_b hf
  refine cx_callS (As := [.int p0]) (rest := []) ⟨hx, hb, hml, hown, hts⟩ (c_X8_needNoLessThanZero (PH := P γ) q2) (cwS 1 hts (gS mw_606 mw_607 mw_11 mw_608) rfl rfl rfl hd_X8_needNoLessThanZero ⟨Nat.le_of_ble_eq_true rfl, Nat.le_of_ble_eq_true rfl⟩) hK hP rfl hl.1 rfl (Nat.le_of_ble_eq_true rfl) dX8_order_1 ⟨Nat.zero_le _, Nat.zero_le _⟩ hL (fun H locs hP hL => ?_)
  refine lv_aload_n hx hb dX8_order_4 rfl (lv_at hl 0 rfl) ?_
  refine g_GL_2 hC hP hx hb hts hown hK mw_30 dX8_order_5 ?_
  refine g_Cache_0 (cx_glN hC γ) (show P (γ.1, γ.2.1, γ.2.2.1, γ.2.2.2) _ by (repeat rw [va_up_id]); exact hP) hx hb hts hown hK mw_523 dX8_order_8 ?_
  refine lv_iload_n hx hb dX8_order_11 rfl (lv_at hl 1 rfl) ?_
  obtain ⟨r3, q4, hf⟩ := cx_b hf
  refine cx_callV (As := [.int p0]) (rest := []) ⟨hx, hb, hml, hown, hts⟩ (c_X0_dirtyAt (cx_blk (cx_glN hC γ) (γ.2.2.1)) q4) (cwV 1 hts (gV mw_687 mw_245 mw_246 mw_58 mw_247) rfl rfl rfl hd_X0_dirtyAt ⟨Nat.le_of_ble_eq_true rfl, Nat.le_of_ble_eq_true rfl⟩) hK (show P (γ.1, γ.2.1, (va_up (γ.2.2.1) 1 (γ.2.2.1 1)), γ.2.2.2) _ by (repeat rw [va_up_id]); exact hP) rfl (at_Blocks (cx_blk (cx_glN hC γ) (γ.2.2.1)) (show P (γ.1, γ.2.1, (va_up (γ.2.2.1) 1 (γ.2.2.1 1)), γ.2.2.2) _ by (repeat rw [va_up_id]); exact hP)) rfl hl.1 rfl (Nat.le_of_ble_eq_true rfl) dX8_order_12 ⟨Nat.zero_le _, Nat.zero_le _⟩ hL (fun H locs hP hL => ?_)
  replace hP : P γ H := by first | exact hP | (simpa only [va_up_id] using hP)
  cases hf
  exact cx_iret hx hb hr hlocks hP hL dX8_order_15
abbrev rm_X8_oldest : Room := { frames := 2, cells := 0, slots := 0, locals := 43 }
theorem hd_X8_oldest : yX8_oldest.cls = RX8 ∧ yX8_oldest.cls ≠ "java/lang/invoke/MethodHandle" ∧ yX8_oldest.cls ≠ "java/lang/invoke/VarHandle" ∧ (parseMethodDescriptor yX8_oldest.desc).map (fun d => d.parameters.length) = some 0 := by decide +kernel
def f_X8_oldest (N : Nat) (γ : GLS) : Option (Int32) := (f_X0_dirtyLongest N (γ.2.2.1 1)).bind fun r1 => some r1
set_option maxHeartbeats 4000000 in
set_option maxRecDepth 100000 in
theorem c_X8_oldest {l : Launch} {G : va_G} {cA : Nat → ClassId} {lo : Nat} {ad : Nat → Nat} {sv : Nat → Option Nat} {P : GLS → Heap → Prop} (hC : cx G lo 262 ad (ceGL sv cA ad) P) {N : Nat} {γ : GLS} {res : Int32} (hf : f_X8_oldest N γ = some res) : Met l yX8_oldest (cW yX8_oldest cX8_oldest 1 (some .int)) rm_X8_oldest (cP [.ref (ad 0)] (P γ) G cA) (cQ (some (.int res)) (P γ)) 0 0 (fun q => lo ≤ q) := by
  refine cx_met (by decide) (Nat.le_of_ble_eq_true rfl) (fun p e s m args below meth c ls C0 hP hl => ?_)
  have hl : lv_has ls 1 [(0, .ref (ad 0))] := hl
  obtain ⟨⟨hx, hb, hml, hown, hts⟩, hr, hlocks, hK⟩ := id C0
  have hL : ∀ q ∈ ([] : List Loc), lo ≤ q.base := fun q h => nomatch h
  unfold f_X8_oldest at hf
  refine lv_aload_n hx hb dX8_oldest_0 rfl (lv_at hl 0 rfl) ?_
  refine g_GL_2 hC hP hx hb hts hown hK mw_30 dX8_oldest_1 ?_
  refine g_Cache_0 (cx_glN hC γ) (show P (γ.1, γ.2.1, γ.2.2.1, γ.2.2.2) _ by (repeat rw [va_up_id]); exact hP) hx hb hts hown hK mw_523 dX8_oldest_4 ?_
  obtain ⟨r1, q2, hf⟩ := cx_b hf
  refine cx_callV (As := []) (rest := []) ⟨hx, hb, hml, hown, hts⟩ (c_X0_dirtyLongest (cx_blk (cx_glN hC γ) (γ.2.2.1)) q2) (cwV 0 hts (gV mw_703 mw_704 mw_705 mw_58 mw_706) rfl rfl rfl hd_X0_dirtyLongest ⟨Nat.le_of_ble_eq_true rfl, Nat.le_of_ble_eq_true rfl⟩) hK (show P (γ.1, γ.2.1, (va_up (γ.2.2.1) 1 (γ.2.2.1 1)), γ.2.2.2) _ by (repeat rw [va_up_id]); exact hP) rfl (at_Blocks (cx_blk (cx_glN hC γ) (γ.2.2.1)) (show P (γ.1, γ.2.1, (va_up (γ.2.2.1) 1 (γ.2.2.1 1)), γ.2.2.2) _ by (repeat rw [va_up_id]); exact hP)) rfl hl.1 rfl (Nat.le_of_ble_eq_true rfl) dX8_oldest_7 ⟨Nat.zero_le _, Nat.zero_le _⟩ hL (fun H locs hP hL => ?_)
  replace hP : P γ H := by first | exact hP | (simpa only [va_up_id] using hP)
  cases hf
  exact cx_iret hx hb hr hlocks hP hL dX8_oldest_10
abbrev rm_X8_ownedAt : Room := { frames := 2, cells := 0, slots := 0, locals := 48 }
theorem hd_X8_ownedAt : yX8_ownedAt.cls = RX8 ∧ yX8_ownedAt.cls ≠ "java/lang/invoke/MethodHandle" ∧ yX8_ownedAt.cls ≠ "java/lang/invoke/VarHandle" ∧ (parseMethodDescriptor yX8_ownedAt.desc).map (fun d => d.parameters.length) = some 3 := by decide +kernel
def f_X8_ownedAt (N : Nat) (γ : GLS) (p0 : Int32) (p1 : Int32) (p2 : Int32) : Option (Int32) := (f_X8_needClient γ p0).bind fun r1 => (f_X8_needIndex p1 3).bind fun r3 => (f_X8_needNoLessThanZero p2).bind fun r5 => (f_X1_ownedBlock N γ.2.2.1 p0 p1 p2).bind fun r7 => some r7
set_option maxHeartbeats 4000000 in
set_option maxRecDepth 100000 in
theorem c_X8_ownedAt {l : Launch} {G : va_G} {cA : Nat → ClassId} {lo : Nat} {ad : Nat → Nat} {sv : Nat → Option Nat} {P : GLS → Heap → Prop} (hC : cx G lo 262 ad (ceGL sv cA ad) P) {N : Nat} {γ : GLS} {p0 : Int32} {p1 : Int32} {p2 : Int32} {res : Int32} (hf : f_X8_ownedAt N γ p0 p1 p2 = some res) : Met l yX8_ownedAt (cW yX8_ownedAt cX8_ownedAt 4 (some .int)) rm_X8_ownedAt (cP [.ref (ad 0), .int p0, .int p1, .int p2] (P γ) G cA) (cQ (some (.int res)) (P γ)) 0 0 (fun q => lo ≤ q) := by
  refine cx_met (by decide) (Nat.le_of_ble_eq_true rfl) (fun p e s m args below meth c ls C0 hP hl => ?_)
  have hl : lv_has ls 4 [(0, .ref (ad 0)), (1, .int p0), (2, .int p1), (3, .int p2)] := hl
  obtain ⟨⟨hx, hb, hml, hown, hts⟩, hr, hlocks, hK⟩ := id C0
  have hL : ∀ q ∈ ([] : List Loc), lo ≤ q.base := fun q h => nomatch h
  unfold f_X8_ownedAt at hf
  refine lv_aload_n hx hb dX8_ownedAt_0 rfl (lv_at hl 0 rfl) ?_
  refine lv_iload_n hx hb dX8_ownedAt_1 rfl (lv_at hl 1 rfl) ?_
  obtain ⟨r1, q2, hf⟩ := cx_b hf
  refine cx_callV (As := [.int p0]) (rest := []) ⟨hx, hb, hml, hown, hts⟩ (c_X8_needClient hC q2) (cwV 1 hts (gV mw_309 mw_310 mw_311 mw_11 mw_312) rfl rfl rfl hd_X8_needClient ⟨Nat.le_of_ble_eq_true rfl, Nat.le_of_ble_eq_true rfl⟩) hK hP rfl (at_GL hC hP) rfl hl.1 rfl (Nat.le_of_ble_eq_true rfl) dX8_ownedAt_2 ⟨Nat.zero_le _, Nat.zero_le _⟩ hL (fun H locs hP hL => ?_)
  replace hP : P γ H := by first | exact hP | (simpa only [va_up_id] using hP)
  refine lv_iload_n hx hb dX8_ownedAt_5 rfl (lv_at hl 2 rfl) ?_
  refine lv_iconst (v := 3) hx hb dX8_ownedAt_6 (by decide) ?_
  obtain ⟨r3, q4, hf⟩ := cx_b hf
  refine cx_callS (As := [.int p1, .int 3]) (rest := []) ⟨hx, hb, hml, hown, hts⟩ (c_X8_needIndex (PH := P γ) q4) (cwS 2 hts (gS mw_313 mw_314 mw_11 mw_315) rfl rfl rfl hd_X8_needIndex ⟨Nat.le_of_ble_eq_true rfl, Nat.le_of_ble_eq_true rfl⟩) hK hP rfl hl.1 rfl (Nat.le_of_ble_eq_true rfl) dX8_ownedAt_7 ⟨Nat.zero_le _, Nat.zero_le _⟩ hL (fun H locs hP hL => ?_)
  refine lv_iload_n hx hb dX8_ownedAt_10 rfl (lv_at hl 3 rfl) ?_
  obtain ⟨r5, q6, hf⟩ := cx_b hf
  refine cx_callS (As := [.int p2]) (rest := []) ⟨hx, hb, hml, hown, hts⟩ (c_X8_needNoLessThanZero (PH := P γ) q6) (cwS 1 hts (gS mw_606 mw_607 mw_11 mw_608) rfl rfl rfl hd_X8_needNoLessThanZero ⟨Nat.le_of_ble_eq_true rfl, Nat.le_of_ble_eq_true rfl⟩) hK hP rfl hl.1 rfl (Nat.le_of_ble_eq_true rfl) dX8_ownedAt_11 ⟨Nat.zero_le _, Nat.zero_le _⟩ hL (fun H locs hP hL => ?_)
  refine lv_aload_n hx hb dX8_ownedAt_14 rfl (lv_at hl 0 rfl) ?_
  refine g_GL_2 hC hP hx hb hts hown hK mw_30 dX8_ownedAt_15 ?_
  refine lv_iload_n hx hb dX8_ownedAt_18 rfl (lv_at hl 1 rfl) ?_
  refine lv_iload_n hx hb dX8_ownedAt_19 rfl (lv_at hl 2 rfl) ?_
  refine lv_iload_n hx hb dX8_ownedAt_20 rfl (lv_at hl 3 rfl) ?_
  obtain ⟨r7, q8, hf⟩ := cx_b hf
  refine cx_callV (As := [.int p0, .int p1, .int p2]) (rest := []) ⟨hx, hb, hml, hown, hts⟩ (c_X1_ownedBlock (cx_glN hC γ) q8) (cwV 3 hts (gV mw_641 mw_642 mw_643 mw_29 mw_644) rfl rfl rfl hd_X1_ownedBlock ⟨Nat.le_of_ble_eq_true rfl, Nat.le_of_ble_eq_true rfl⟩) hK (show P (γ.1, γ.2.1, γ.2.2.1, γ.2.2.2) _ by (repeat rw [va_up_id]); exact hP) rfl (at_Cache (cx_glN hC γ) (show P (γ.1, γ.2.1, γ.2.2.1, γ.2.2.2) _ by (repeat rw [va_up_id]); exact hP)) rfl hl.1 rfl (Nat.le_of_ble_eq_true rfl) dX8_ownedAt_21 ⟨Nat.zero_le _, Nat.zero_le _⟩ hL (fun H locs hP hL => ?_)
  replace hP : P γ H := by first | exact hP | (simpa only [va_up_id] using hP)
  cases hf
  exact cx_iret hx hb hr hlocks hP hL dX8_ownedAt_24
abbrev rm_X8_excess : Room := { frames := 3, cells := 0, slots := 0, locals := 66 }
theorem hd_X8_excess : yX8_excess.cls = RX8 ∧ yX8_excess.cls ≠ "java/lang/invoke/MethodHandle" ∧ yX8_excess.cls ≠ "java/lang/invoke/VarHandle" ∧ (parseMethodDescriptor yX8_excess.desc).map (fun d => d.parameters.length) = some 1 := by decide +kernel
def f_X8_excess (N : Nat) (γ : GLS) (p0 : Int32) : Option (UInt32) := (f_X8_needClient γ p0).bind fun r1 => (f_X1_sumOfWeights N γ.2.2.1).bind fun r3 => (f_X1_upperUnitsOf N γ.2.2.1 p0).bind fun r5 => (f_X1_unitsAbove γ.2.2.1 p0 r5 r3).bind fun r7 => if r3 = 0 then some FP.fconst0 else gn32 (FP.fdiv (FP.i2f r7) (FP.i2f r3)) (some (FP.fdiv (FP.i2f r7) (FP.i2f r3)))
set_option maxHeartbeats 4000000 in
set_option maxRecDepth 100000 in
theorem c_X8_excess {l : Launch} {G : va_G} {cA : Nat → ClassId} {lo : Nat} {ad : Nat → Nat} {sv : Nat → Option Nat} {P : GLS → Heap → Prop} (hC : cx G lo 262 ad (ceGL sv cA ad) P) {N : Nat} {γ : GLS} {p0 : Int32} {res : UInt32} (hf : f_X8_excess N γ p0 = some res) : Met l yX8_excess (cW yX8_excess cX8_excess 4 (some .float)) rm_X8_excess (cP [.ref (ad 0), .int p0] (P γ) G cA) (cQ (some (.float res)) (P γ)) 0 0 (fun q => lo ≤ q) := by
  refine cx_met (by decide) (Nat.le_of_ble_eq_true rfl) (fun p e s m args below meth c ls C0 hP hl => ?_)
  have hl : lv_has ls 4 [(0, .ref (ad 0)), (1, .int p0)] := hl
  obtain ⟨⟨hx, hb, hml, hown, hts⟩, hr, hlocks, hK⟩ := id C0
  have hL : ∀ q ∈ ([] : List Loc), lo ≤ q.base := fun q h => nomatch h
  unfold f_X8_excess at hf
  refine lv_aload_n hx hb dX8_excess_0 rfl (lv_at hl 0 rfl) ?_
  refine lv_iload_n hx hb dX8_excess_1 rfl (lv_at hl 1 rfl) ?_
  obtain ⟨r1, q2, hf⟩ := cx_b hf
  refine cx_callV (As := [.int p0]) (rest := []) ⟨hx, hb, hml, hown, hts⟩ (c_X8_needClient hC q2) (cwV 1 hts (gV mw_309 mw_310 mw_311 mw_11 mw_312) rfl rfl rfl hd_X8_needClient ⟨Nat.le_of_ble_eq_true rfl, Nat.le_of_ble_eq_true rfl⟩) hK hP rfl (at_GL hC hP) rfl hl.1 rfl (Nat.le_of_ble_eq_true rfl) dX8_excess_2 ⟨Nat.zero_le _, Nat.zero_le _⟩ hL (fun H locs hP hL => ?_)
  replace hP : P γ H := by first | exact hP | (simpa only [va_up_id] using hP)
  refine lv_aload_n hx hb dX8_excess_5 rfl (lv_at hl 0 rfl) ?_
  refine g_GL_2 hC hP hx hb hts hown hK mw_30 dX8_excess_6 ?_
  obtain ⟨r3, q4, hf⟩ := cx_b hf
  refine cx_callV (As := []) (rest := []) ⟨hx, hb, hml, hown, hts⟩ (c_X1_sumOfWeights (cx_glN hC γ) q4) (cwV 0 hts (gV mw_653 mw_336 mw_337 mw_29 mw_338) rfl rfl rfl hd_X1_sumOfWeights ⟨Nat.le_of_ble_eq_true rfl, Nat.le_of_ble_eq_true rfl⟩) hK (show P (γ.1, γ.2.1, γ.2.2.1, γ.2.2.2) _ by (repeat rw [va_up_id]); exact hP) rfl (at_Cache (cx_glN hC γ) (show P (γ.1, γ.2.1, γ.2.2.1, γ.2.2.2) _ by (repeat rw [va_up_id]); exact hP)) rfl hl.1 rfl (Nat.le_of_ble_eq_true rfl) dX8_excess_9 ⟨Nat.zero_le _, Nat.zero_le _⟩ hL (fun H locs hP hL => ?_)
  replace hP : P γ H := by first | exact hP | (simpa only [va_up_id] using hP)
  refine lv_istore_n (lv' := [(2, .int r3), (0, .ref (ad 0)), (1, .int p0)]) hx hb dX8_excess_12 rfl hl (by decide) rfl (fun ls hl => ?_)
  refine lv_aload_n hx hb dX8_excess_13 rfl (lv_at hl 1 rfl) ?_
  refine g_GL_2 hC hP hx hb hts hown hK mw_30 dX8_excess_14 ?_
  refine lv_iload_n hx hb dX8_excess_17 rfl (lv_at hl 2 rfl) ?_
  refine lv_aload_n hx hb dX8_excess_18 rfl (lv_at hl 1 rfl) ?_
  refine g_GL_2 hC hP hx hb hts hown hK mw_30 dX8_excess_19 ?_
  refine lv_iload_n hx hb dX8_excess_22 rfl (lv_at hl 2 rfl) ?_
  obtain ⟨r5, q6, hf⟩ := cx_b hf
  refine cx_callV (As := [.int p0]) (rest := [.int p0, .ref ((adN ad) 0)]) ⟨hx, hb, hml, hown, hts⟩ (c_X1_upperUnitsOf (cx_glN hC γ) q6) (cwV 1 hts (gV mw_654 mw_323 mw_324 mw_29 mw_325) rfl rfl rfl hd_X1_upperUnitsOf ⟨Nat.le_of_ble_eq_true rfl, Nat.le_of_ble_eq_true rfl⟩) hK (show P (γ.1, γ.2.1, γ.2.2.1, γ.2.2.2) _ by (repeat rw [va_up_id]); exact hP) rfl (at_Cache (cx_glN hC γ) (show P (γ.1, γ.2.1, γ.2.2.1, γ.2.2.2) _ by (repeat rw [va_up_id]); exact hP)) rfl hl.1 rfl (Nat.le_of_ble_eq_true rfl) dX8_excess_23 ⟨Nat.zero_le _, Nat.zero_le _⟩ hL (fun H locs hP hL => ?_)
  replace hP : P γ H := by first | exact hP | (simpa only [va_up_id] using hP)
  refine lv_iload_n hx hb dX8_excess_26 rfl (lv_at hl 0 rfl) ?_
  obtain ⟨r7, q8, hf⟩ := cx_b hf
  refine cx_callV (As := [.int p0, .int r5, .int r3]) (rest := []) ⟨hx, hb, hml, hown, hts⟩ (c_X1_unitsAbove (cx_glN hC γ) q8) (cwV 3 hts (gV mw_655 mw_341 mw_342 mw_29 mw_343) rfl rfl rfl hd_X1_unitsAbove ⟨Nat.le_of_ble_eq_true rfl, Nat.le_of_ble_eq_true rfl⟩) hK (show P (γ.1, γ.2.1, γ.2.2.1, γ.2.2.2) _ by (repeat rw [va_up_id]); exact hP) rfl (at_Cache (cx_glN hC γ) (show P (γ.1, γ.2.1, γ.2.2.1, γ.2.2.2) _ by (repeat rw [va_up_id]); exact hP)) rfl hl.1 rfl (Nat.le_of_ble_eq_true rfl) dX8_excess_27 ⟨Nat.zero_le _, Nat.zero_le _⟩ hL (fun H locs hP hL => ?_)
  replace hP : P γ H := by first | exact hP | (simpa only [va_up_id] using hP)
  refine lv_istore_n (lv' := [(3, .int r7), (2, .int r3), (0, .ref (ad 0)), (1, .int p0)]) hx hb dX8_excess_30 rfl hl (by decide) rfl (fun ls hl => ?_)
  refine lv_iload_n hx hb dX8_excess_31 rfl (lv_at hl 1 rfl) ?_
  refine lv_if_ne (tgt := 39) hx hb dX8_excess_32 (by decide) (fun c9 => ?_) (fun c9 => ?_)
  · have hf := cx_f hf c9
    refine lv_iload_n hx hb dX8_excess_39 rfl (lv_at hl 0 rfl) ?_
    refine lv_i2f hx hb dX8_excess_40 ?_
    refine lv_iload_n hx hb dX8_excess_41 rfl (lv_at hl 1 rfl) ?_
    refine lv_i2f hx hb dX8_excess_42 ?_
    obtain ⟨hn10, hf⟩ := gn32E hf
    refine lv_fdiv hx hb dX8_excess_43 hn10 ?_
    cases hf
    exact cx_fret hx hb hr hlocks hP hL dX8_excess_44
  · have hf := cx_t hf c9
    refine lv_fconst0 hx hb dX8_excess_35 ?_
    refine lv_goto (tgt := 44) hx hb dX8_excess_36 (by decide) ?_
    cases hf
    exact cx_fret hx hb hr hlocks hP hL dX8_excess_44
abbrev rm_X8_toScan : Room := { frames := 2, cells := 0, slots := 0, locals := 45 }
theorem hd_X8_toScan : yX8_toScan.cls = RX8 ∧ yX8_toScan.cls ≠ "java/lang/invoke/MethodHandle" ∧ yX8_toScan.cls ≠ "java/lang/invoke/VarHandle" ∧ (parseMethodDescriptor yX8_toScan.desc).map (fun d => d.parameters.length) = some 2 := by decide +kernel
def f_X8_toScan (γ : GLS) (p0 : Int32) (p1 : Int32) : Option (Int32) := (f_X8_needClient γ p0).bind fun r1 => (f_X8_needRange p1 0 199).bind fun r3 => (f_X1_runAt γ.2.2.1 p0 p1).bind fun r5 => if (p1 + (if 1 < (((γ.2.2.1 0).2 10 - r5) + 1) then (((γ.2.2.1 0).2 10 - r5) + 1) else 1)) ≤ 200 then some (if 1 < (((γ.2.2.1 0).2 10 - r5) + 1) then (((γ.2.2.1 0).2 10 - r5) + 1) else 1) else some (-1)
set_option maxHeartbeats 4000000 in
set_option maxRecDepth 100000 in
theorem c_X8_toScan {l : Launch} {G : va_G} {cA : Nat → ClassId} {lo : Nat} {ad : Nat → Nat} {sv : Nat → Option Nat} {P : GLS → Heap → Prop} (hC : cx G lo 262 ad (ceGL sv cA ad) P) {γ : GLS} {p0 : Int32} {p1 : Int32} {res : Int32} (hf : f_X8_toScan γ p0 p1 = some res) : Met l yX8_toScan (cW yX8_toScan cX8_toScan 4 (some .int)) rm_X8_toScan (cP [.ref (ad 0), .int p0, .int p1] (P γ) G cA) (cQ (some (.int res)) (P γ)) 0 0 (fun q => lo ≤ q) := by
  refine cx_met (by decide) (Nat.le_of_ble_eq_true rfl) (fun p e s m args below meth c ls C0 hP hl => ?_)
  have hl : lv_has ls 4 [(0, .ref (ad 0)), (1, .int p0), (2, .int p1)] := hl
  obtain ⟨⟨hx, hb, hml, hown, hts⟩, hr, hlocks, hK⟩ := id C0
  have hL : ∀ q ∈ ([] : List Loc), lo ≤ q.base := fun q h => nomatch h
  unfold f_X8_toScan at hf
  refine lv_aload_n hx hb dX8_toScan_0 rfl (lv_at hl 0 rfl) ?_
  refine lv_iload_n hx hb dX8_toScan_1 rfl (lv_at hl 1 rfl) ?_
  obtain ⟨r1, q2, hf⟩ := cx_b hf
  refine cx_callV (As := [.int p0]) (rest := []) ⟨hx, hb, hml, hown, hts⟩ (c_X8_needClient hC q2) (cwV 1 hts (gV mw_309 mw_310 mw_311 mw_11 mw_312) rfl rfl rfl hd_X8_needClient ⟨Nat.le_of_ble_eq_true rfl, Nat.le_of_ble_eq_true rfl⟩) hK hP rfl (at_GL hC hP) rfl hl.1 rfl (Nat.le_of_ble_eq_true rfl) dX8_toScan_2 ⟨Nat.zero_le _, Nat.zero_le _⟩ hL (fun H locs hP hL => ?_)
  replace hP : P γ H := by first | exact hP | (simpa only [va_up_id] using hP)
  refine lv_iload_n hx hb dX8_toScan_5 rfl (lv_at hl 2 rfl) ?_
  refine lv_iconst (v := 0) hx hb dX8_toScan_6 (by decide) ?_
  refine lv_sipush (v := 199) hx hb dX8_toScan_7 (by decide) ?_
  obtain ⟨r3, q4, hf⟩ := cx_b hf
  refine cx_callS (As := [.int p1, .int 0, .int 199]) (rest := []) ⟨hx, hb, hml, hown, hts⟩ (c_X8_needRange (PH := P γ) q4) (cwS 3 hts (gS mw_153 mw_154 mw_11 mw_155) rfl rfl rfl hd_X8_needRange ⟨Nat.le_of_ble_eq_true rfl, Nat.le_of_ble_eq_true rfl⟩) hK hP rfl hl.1 rfl (Nat.le_of_ble_eq_true rfl) dX8_toScan_10 ⟨Nat.zero_le _, Nat.zero_le _⟩ hL (fun H locs hP hL => ?_)
  refine lv_iconst (v := 1) hx hb dX8_toScan_13 (by decide) ?_
  refine lv_aload_n hx hb dX8_toScan_14 rfl (lv_at hl 0 rfl) ?_
  refine g_GL_2 hC hP hx hb hts hown hK mw_30 dX8_toScan_15 ?_
  refine g_Cache_10 (cx_glN hC γ) (show P (γ.1, γ.2.1, γ.2.2.1, γ.2.2.2) _ by (repeat rw [va_up_id]); exact hP) hx hb hts hown hK mw_399 dX8_toScan_18 ?_
  refine lv_aload_n hx hb dX8_toScan_21 rfl (lv_at hl 0 rfl) ?_
  refine g_GL_2 hC hP hx hb hts hown hK mw_30 dX8_toScan_22 ?_
  refine lv_iload_n hx hb dX8_toScan_25 rfl (lv_at hl 1 rfl) ?_
  refine lv_iload_n hx hb dX8_toScan_26 rfl (lv_at hl 2 rfl) ?_
  obtain ⟨r5, q6, hf⟩ := cx_b hf
  refine cx_callV (As := [.int p0, .int p1]) (rest := [.int ((γ.2.2.1 0).2 10), .int 1]) ⟨hx, hb, hml, hown, hts⟩ (c_X1_runAt (cx_glN hC γ) q6) (cwV 2 hts (gV mw_401 mw_402 mw_403 mw_29 mw_404) rfl rfl rfl hd_X1_runAt ⟨Nat.le_of_ble_eq_true rfl, Nat.le_of_ble_eq_true rfl⟩) hK (show P (γ.1, γ.2.1, γ.2.2.1, γ.2.2.2) _ by (repeat rw [va_up_id]); exact hP) rfl (at_Cache (cx_glN hC γ) (show P (γ.1, γ.2.1, γ.2.2.1, γ.2.2.2) _ by (repeat rw [va_up_id]); exact hP)) rfl hl.1 rfl (Nat.le_of_ble_eq_true rfl) dX8_toScan_27 ⟨Nat.zero_le _, Nat.zero_le _⟩ hL (fun H locs hP hL => ?_)
  replace hP : P γ H := by first | exact hP | (simpa only [va_up_id] using hP)
  refine lv_isub hx hb dX8_toScan_30 ?_
  refine lv_iconst (v := 1) hx hb dX8_toScan_31 (by decide) ?_
  refine lv_iadd hx hb dX8_toScan_32 ?_
  refine va_mmax hx hb (hml.trans hl.1.symm) hown (hts _ mw_400) (hts _ mw_130) (hts _ mw_131) (hts _ mw_132) (Nat.le_of_ble_eq_true rfl) (Nat.le_of_ble_eq_true rfl) (Nat.zero_le _) (Nat.zero_le _) dX8_toScan_33 ?_
  refine lv_istore_n (lv' := [(3, .int (if 1 < (((γ.2.2.1 0).2 10 - r5) + 1) then (((γ.2.2.1 0).2 10 - r5) + 1) else 1)), (0, .ref (ad 0)), (1, .int p0), (2, .int p1)]) hx hb dX8_toScan_36 rfl hl (by decide) rfl (fun ls hl => ?_)
  refine lv_iload_n hx hb dX8_toScan_37 rfl (lv_at hl 3 rfl) ?_
  refine lv_iload_n hx hb dX8_toScan_38 rfl (lv_at hl 0 rfl) ?_
  refine lv_iadd hx hb dX8_toScan_39 ?_
  refine lv_sipush (v := 200) hx hb dX8_toScan_40 (by decide) ?_
  refine lv_icmp_le (tgt := 50) hx hb dX8_toScan_43 (by decide) (fun c7 => ?_) (fun c7 => ?_)
  · have hf := cx_t hf c7
    refine lv_iload_n hx hb dX8_toScan_50 rfl (lv_at hl 0 rfl) ?_
    cases hf
    exact cx_iret hx hb hr hlocks hP hL dX8_toScan_51
  · have hf := cx_f hf c7
    refine lv_iconst (v := (-1)) hx hb dX8_toScan_46 (by decide) ?_
    refine lv_goto (tgt := 51) hx hb dX8_toScan_47 (by decide) ?_
    cases hf
    exact cx_iret hx hb hr hlocks hP hL dX8_toScan_51
abbrev rm_X8_rank : Room := { frames := 2, cells := 0, slots := 0, locals := 45 }
theorem hd_X8_rank : yX8_rank.cls = RX8 ∧ yX8_rank.cls ≠ "java/lang/invoke/MethodHandle" ∧ yX8_rank.cls ≠ "java/lang/invoke/VarHandle" ∧ (parseMethodDescriptor yX8_rank.desc).map (fun d => d.parameters.length) = some 1 := by decide +kernel
def f_X8_rank (N : Nat) (γ : GLS) (p0 : Int32) : Option (Int32) := (f_X8_needRange p0 0 199).bind fun r1 => (f_X0_rankOf N (γ.2.2.1 1) p0).bind fun r3 => some r3
set_option maxHeartbeats 4000000 in
set_option maxRecDepth 100000 in
theorem c_X8_rank {l : Launch} {G : va_G} {cA : Nat → ClassId} {lo : Nat} {ad : Nat → Nat} {sv : Nat → Option Nat} {P : GLS → Heap → Prop} (hC : cx G lo 262 ad (ceGL sv cA ad) P) {N : Nat} {γ : GLS} {p0 : Int32} {res : Int32} (hf : f_X8_rank N γ p0 = some res) : Met l yX8_rank (cW yX8_rank cX8_rank 2 (some .int)) rm_X8_rank (cP [.ref (ad 0), .int p0] (P γ) G cA) (cQ (some (.int res)) (P γ)) 0 0 (fun q => lo ≤ q) := by
  refine cx_met (by decide) (Nat.le_of_ble_eq_true rfl) (fun p e s m args below meth c ls C0 hP hl => ?_)
  have hl : lv_has ls 2 [(0, .ref (ad 0)), (1, .int p0)] := hl
  obtain ⟨⟨hx, hb, hml, hown, hts⟩, hr, hlocks, hK⟩ := id C0
  have hL : ∀ q ∈ ([] : List Loc), lo ≤ q.base := fun q h => nomatch h
  unfold f_X8_rank at hf
  refine lv_iload_n hx hb dX8_rank_0 rfl (lv_at hl 1 rfl) ?_
  refine lv_iconst (v := 0) hx hb dX8_rank_1 (by decide) ?_
  refine lv_sipush (v := 199) hx hb dX8_rank_2 (by decide) ?_
  obtain ⟨r1, q2, hf⟩ := cx_b hf
  refine cx_callS (As := [.int p0, .int 0, .int 199]) (rest := []) ⟨hx, hb, hml, hown, hts⟩ (c_X8_needRange (PH := P γ) q2) (cwS 3 hts (gS mw_153 mw_154 mw_11 mw_155) rfl rfl rfl hd_X8_needRange ⟨Nat.le_of_ble_eq_true rfl, Nat.le_of_ble_eq_true rfl⟩) hK hP rfl hl.1 rfl (Nat.le_of_ble_eq_true rfl) dX8_rank_5 ⟨Nat.zero_le _, Nat.zero_le _⟩ hL (fun H locs hP hL => ?_)
  refine lv_aload_n hx hb dX8_rank_8 rfl (lv_at hl 0 rfl) ?_
  refine g_GL_2 hC hP hx hb hts hown hK mw_30 dX8_rank_9 ?_
  refine g_Cache_0 (cx_glN hC γ) (show P (γ.1, γ.2.1, γ.2.2.1, γ.2.2.2) _ by (repeat rw [va_up_id]); exact hP) hx hb hts hown hK mw_523 dX8_rank_12 ?_
  refine lv_iload_n hx hb dX8_rank_15 rfl (lv_at hl 1 rfl) ?_
  obtain ⟨r3, q4, hf⟩ := cx_b hf
  refine cx_callV (As := [.int p0]) (rest := []) ⟨hx, hb, hml, hown, hts⟩ (c_X0_rankOf (cx_blk (cx_glN hC γ) (γ.2.2.1)) q4) (cwV 1 hts (gV mw_695 mw_696 mw_697 mw_58 mw_698) rfl rfl rfl hd_X0_rankOf ⟨Nat.le_of_ble_eq_true rfl, Nat.le_of_ble_eq_true rfl⟩) hK (show P (γ.1, γ.2.1, (va_up (γ.2.2.1) 1 (γ.2.2.1 1)), γ.2.2.2) _ by (repeat rw [va_up_id]); exact hP) rfl (at_Blocks (cx_blk (cx_glN hC γ) (γ.2.2.1)) (show P (γ.1, γ.2.1, (va_up (γ.2.2.1) 1 (γ.2.2.1 1)), γ.2.2.2) _ by (repeat rw [va_up_id]); exact hP)) rfl hl.1 rfl (Nat.le_of_ble_eq_true rfl) dX8_rank_16 ⟨Nat.zero_le _, Nat.zero_le _⟩ hL (fun H locs hP hL => ?_)
  replace hP : P γ H := by first | exact hP | (simpa only [va_up_id] using hP)
  cases hf
  exact cx_iret hx hb hr hlocks hP hL dX8_rank_19
abbrev rm_X8_between : Room := { frames := 1, cells := 0, slots := 0, locals := 24 }
theorem hd_X8_between : yX8_between.cls = RX8 ∧ yX8_between.cls ≠ "java/lang/invoke/MethodHandle" ∧ yX8_between.cls ≠ "java/lang/invoke/VarHandle" ∧ (parseMethodDescriptor yX8_between.desc).map (fun d => d.parameters.length) = some 3 := by decide +kernel
def f_X8_between (N : Nat) (γ : GLS) (p0 : Int32) (p1 : Int32) (p2 : Int32) : Option (Int32) := (f_X8_needIndex p0 5).bind fun r1 => (f_X8_needRange p1 0 199).bind fun r3 => (f_X8_needRange p2 p1 199).bind fun r5 => (f_X1_rowOf γ.2.2.1 p0).bind fun r7 => (f_X5_howManyIn N (γ.2.2.1 (3 + r7)) p1 p2).bind fun r9 => some r9
set_option maxHeartbeats 4000000 in
set_option maxRecDepth 100000 in
theorem c_X8_between {l : Launch} {G : va_G} {cA : Nat → ClassId} {lo : Nat} {ad : Nat → Nat} {sv : Nat → Option Nat} {P : GLS → Heap → Prop} (hC : cx G lo 262 ad (ceGL sv cA ad) P) {N : Nat} {γ : GLS} {p0 : Int32} {p1 : Int32} {p2 : Int32} {res : Int32} (hf : f_X8_between N γ p0 p1 p2 = some res) : Met l yX8_between (cW yX8_between cX8_between 4 (some .int)) rm_X8_between (cP [.ref (ad 0), .int p0, .int p1, .int p2] (P γ) G cA) (cQ (some (.int res)) (P γ)) 0 0 (fun q => lo ≤ q) := by
  refine cx_met (by decide) (Nat.le_of_ble_eq_true rfl) (fun p e s m args below meth c ls C0 hP hl => ?_)
  have hl : lv_has ls 4 [(0, .ref (ad 0)), (1, .int p0), (2, .int p1), (3, .int p2)] := hl
  obtain ⟨⟨hx, hb, hml, hown, hts⟩, hr, hlocks, hK⟩ := id C0
  have hL : ∀ q ∈ ([] : List Loc), lo ≤ q.base := fun q h => nomatch h
  unfold f_X8_between at hf
  refine lv_iload_n hx hb dX8_between_0 rfl (lv_at hl 1 rfl) ?_
  refine lv_iconst (v := 5) hx hb dX8_between_1 (by decide) ?_
  obtain ⟨r1, q2, hf⟩ := cx_b hf
  refine cx_callS (As := [.int p0, .int 5]) (rest := []) ⟨hx, hb, hml, hown, hts⟩ (c_X8_needIndex (PH := P γ) q2) (cwS 2 hts (gS mw_313 mw_314 mw_11 mw_315) rfl rfl rfl hd_X8_needIndex ⟨Nat.le_of_ble_eq_true rfl, Nat.le_of_ble_eq_true rfl⟩) hK hP rfl hl.1 rfl (Nat.le_of_ble_eq_true rfl) dX8_between_2 ⟨Nat.zero_le _, Nat.zero_le _⟩ hL (fun H locs hP hL => ?_)
  refine lv_iload_n hx hb dX8_between_5 rfl (lv_at hl 2 rfl) ?_
  refine lv_iconst (v := 0) hx hb dX8_between_6 (by decide) ?_
  refine lv_sipush (v := 199) hx hb dX8_between_7 (by decide) ?_
  obtain ⟨r3, q4, hf⟩ := cx_b hf
  refine cx_callS (As := [.int p1, .int 0, .int 199]) (rest := []) ⟨hx, hb, hml, hown, hts⟩ (c_X8_needRange (PH := P γ) q4) (cwS 3 hts (gS mw_153 mw_154 mw_11 mw_155) rfl rfl rfl hd_X8_needRange ⟨Nat.le_of_ble_eq_true rfl, Nat.le_of_ble_eq_true rfl⟩) hK hP rfl hl.1 rfl (Nat.le_of_ble_eq_true rfl) dX8_between_10 ⟨Nat.zero_le _, Nat.zero_le _⟩ hL (fun H locs hP hL => ?_)
  refine lv_iload_n hx hb dX8_between_13 rfl (lv_at hl 3 rfl) ?_
  refine lv_iload_n hx hb dX8_between_14 rfl (lv_at hl 2 rfl) ?_
  refine lv_sipush (v := 199) hx hb dX8_between_15 (by decide) ?_
  obtain ⟨r5, q6, hf⟩ := cx_b hf
  refine cx_callS (As := [.int p2, .int p1, .int 199]) (rest := []) ⟨hx, hb, hml, hown, hts⟩ (c_X8_needRange (PH := P γ) q6) (cwS 3 hts (gS mw_153 mw_154 mw_11 mw_155) rfl rfl rfl hd_X8_needRange ⟨Nat.le_of_ble_eq_true rfl, Nat.le_of_ble_eq_true rfl⟩) hK hP rfl hl.1 rfl (Nat.le_of_ble_eq_true rfl) dX8_between_18 ⟨Nat.zero_le _, Nat.zero_le _⟩ hL (fun H locs hP hL => ?_)
  refine lv_aload_n hx hb dX8_between_21 rfl (lv_at hl 0 rfl) ?_
  refine g_GL_2 hC hP hx hb hts hown hK mw_30 dX8_between_22 ?_
  refine lv_iload_n hx hb dX8_between_25 rfl (lv_at hl 1 rfl) ?_
  obtain ⟨r7, q8, hf⟩ := cx_b hf
  refine cx_callV (As := [.int p0]) (rest := []) ⟨hx, hb, hml, hown, hts⟩ (c_X1_rowOf (cx_glN hC γ) q8) (cwV 1 hts (gV mw_609 mw_290 mw_291 mw_29 mw_292) rfl rfl rfl hd_X1_rowOf ⟨Nat.le_of_ble_eq_true rfl, Nat.le_of_ble_eq_true rfl⟩) hK (show P (γ.1, γ.2.1, γ.2.2.1, γ.2.2.2) _ by (repeat rw [va_up_id]); exact hP) rfl (at_Cache (cx_glN hC γ) (show P (γ.1, γ.2.1, γ.2.2.1, γ.2.2.2) _ by (repeat rw [va_up_id]); exact hP)) rfl hl.1 rfl (Nat.le_of_ble_eq_true rfl) dX8_between_26 ⟨Nat.zero_le _, Nat.zero_le _⟩ hL (fun H locs hP hL => ?_)
  replace hP : P γ H := by first | exact hP | (simpa only [va_up_id] using hP)
  have hr7 := f_X1_rowOf_lt q8
  refine lv_iload_n hx hb dX8_between_29 rfl (lv_at hl 2 rfl) ?_
  refine lv_iload_n hx hb dX8_between_30 rfl (lv_at hl 3 rfl) ?_
  obtain ⟨r9, q10, hf⟩ := cx_b hf
  refine cx_callV (As := [.int p1, .int p2]) (rest := []) ⟨hx, hb, hml, hown, hts⟩ (c_X5_howManyIn (cx_row (cx_glN hC γ) (γ.2.2.1) r7 (3 + r7) hr7 rfl) q10) (cwV 2 hts (gV mw_618 mw_619 mw_620 mw_66 mw_621) rfl rfl rfl hd_X5_howManyIn ⟨Nat.le_of_ble_eq_true rfl, Nat.le_of_ble_eq_true rfl⟩) hK (show P (γ.1, γ.2.1, (va_up (γ.2.2.1) (3 + r7) (γ.2.2.1 (3 + r7))), γ.2.2.2) _ by (repeat rw [va_up_id]); exact hP) rfl (at_Row (cx_row (cx_glN hC γ) (γ.2.2.1) r7 (3 + r7) hr7 rfl) (show P (γ.1, γ.2.1, (va_up (γ.2.2.1) (3 + r7) (γ.2.2.1 (3 + r7))), γ.2.2.2) _ by (repeat rw [va_up_id]); exact hP)) rfl hl.1 rfl (Nat.le_of_ble_eq_true rfl) dX8_between_31 ⟨Nat.zero_le _, Nat.zero_le _⟩ hL (fun H locs hP hL => ?_)
  replace hP : P γ H := by first | exact hP | (simpa only [va_up_id] using hP)
  cases hf
  exact cx_iret hx hb hr hlocks hP hL dX8_between_34
abbrev rm_X8_longest : Room := { frames := 2, cells := 0, slots := 0, locals := 46 }
theorem hd_X8_longest : yX8_longest.cls = RX8 ∧ yX8_longest.cls ≠ "java/lang/invoke/MethodHandle" ∧ yX8_longest.cls ≠ "java/lang/invoke/VarHandle" ∧ (parseMethodDescriptor yX8_longest.desc).map (fun d => d.parameters.length) = some 1 := by decide +kernel
def f_X8_longest (N : Nat) (γ : GLS) (p0 : Int32) : Option (Int32) := (f_X8_needIndex p0 5).bind fun r1 => (f_X0_longestChain N (γ.2.2.1 1) p0).bind fun r3 => some r3
set_option maxHeartbeats 4000000 in
set_option maxRecDepth 100000 in
theorem c_X8_longest {l : Launch} {G : va_G} {cA : Nat → ClassId} {lo : Nat} {ad : Nat → Nat} {sv : Nat → Option Nat} {P : GLS → Heap → Prop} (hC : cx G lo 262 ad (ceGL sv cA ad) P) {N : Nat} {γ : GLS} {p0 : Int32} {res : Int32} (hf : f_X8_longest N γ p0 = some res) : Met l yX8_longest (cW yX8_longest cX8_longest 2 (some .int)) rm_X8_longest (cP [.ref (ad 0), .int p0] (P γ) G cA) (cQ (some (.int res)) (P γ)) 0 0 (fun q => lo ≤ q) := by
  refine cx_met (by decide) (Nat.le_of_ble_eq_true rfl) (fun p e s m args below meth c ls C0 hP hl => ?_)
  have hl : lv_has ls 2 [(0, .ref (ad 0)), (1, .int p0)] := hl
  obtain ⟨⟨hx, hb, hml, hown, hts⟩, hr, hlocks, hK⟩ := id C0
  have hL : ∀ q ∈ ([] : List Loc), lo ≤ q.base := fun q h => nomatch h
  unfold f_X8_longest at hf
  refine lv_iload_n hx hb dX8_longest_0 rfl (lv_at hl 1 rfl) ?_
  refine lv_iconst (v := 5) hx hb dX8_longest_1 (by decide) ?_
  obtain ⟨r1, q2, hf⟩ := cx_b hf
  refine cx_callS (As := [.int p0, .int 5]) (rest := []) ⟨hx, hb, hml, hown, hts⟩ (c_X8_needIndex (PH := P γ) q2) (cwS 2 hts (gS mw_313 mw_314 mw_11 mw_315) rfl rfl rfl hd_X8_needIndex ⟨Nat.le_of_ble_eq_true rfl, Nat.le_of_ble_eq_true rfl⟩) hK hP rfl hl.1 rfl (Nat.le_of_ble_eq_true rfl) dX8_longest_2 ⟨Nat.zero_le _, Nat.zero_le _⟩ hL (fun H locs hP hL => ?_)
  refine lv_aload_n hx hb dX8_longest_5 rfl (lv_at hl 0 rfl) ?_
  refine g_GL_2 hC hP hx hb hts hown hK mw_30 dX8_longest_6 ?_
  refine g_Cache_0 (cx_glN hC γ) (show P (γ.1, γ.2.1, γ.2.2.1, γ.2.2.2) _ by (repeat rw [va_up_id]); exact hP) hx hb hts hown hK mw_523 dX8_longest_9 ?_
  refine lv_iload_n hx hb dX8_longest_12 rfl (lv_at hl 1 rfl) ?_
  obtain ⟨r3, q4, hf⟩ := cx_b hf
  refine cx_callV (As := [.int p0]) (rest := []) ⟨hx, hb, hml, hown, hts⟩ (c_X0_longestChain (cx_blk (cx_glN hC γ) (γ.2.2.1)) q4) (cwV 1 hts (gV mw_629 mw_630 mw_631 mw_58 mw_632) rfl rfl rfl hd_X0_longestChain ⟨Nat.le_of_ble_eq_true rfl, Nat.le_of_ble_eq_true rfl⟩) hK (show P (γ.1, γ.2.1, (va_up (γ.2.2.1) 1 (γ.2.2.1 1)), γ.2.2.2) _ by (repeat rw [va_up_id]); exact hP) rfl (at_Blocks (cx_blk (cx_glN hC γ) (γ.2.2.1)) (show P (γ.1, γ.2.1, (va_up (γ.2.2.1) 1 (γ.2.2.1 1)), γ.2.2.2) _ by (repeat rw [va_up_id]); exact hP)) rfl hl.1 rfl (Nat.le_of_ble_eq_true rfl) dX8_longest_13 ⟨Nat.zero_le _, Nat.zero_le _⟩ hL (fun H locs hP hL => ?_)
  replace hP : P γ H := by first | exact hP | (simpa only [va_up_id] using hP)
  cases hf
  exact cx_iret hx hb hr hlocks hP hL dX8_longest_16
abbrev rm_X8_differing : Room := { frames := 1, cells := 0, slots := 0, locals := 22 }
theorem hd_X8_differing : yX8_differing.cls = RX8 ∧ yX8_differing.cls ≠ "java/lang/invoke/MethodHandle" ∧ yX8_differing.cls ≠ "java/lang/invoke/VarHandle" ∧ (parseMethodDescriptor yX8_differing.desc).map (fun d => d.parameters.length) = some 0 := by decide +kernel
def f_X8_differing (N : Nat) (γ : GLS) : Option (Int32) := (f_X0_howManyDiffer N (γ.2.2.1 1)).bind fun r1 => some r1
set_option maxHeartbeats 4000000 in
set_option maxRecDepth 100000 in
theorem c_X8_differing {l : Launch} {G : va_G} {cA : Nat → ClassId} {lo : Nat} {ad : Nat → Nat} {sv : Nat → Option Nat} {P : GLS → Heap → Prop} (hC : cx G lo 262 ad (ceGL sv cA ad) P) {N : Nat} {γ : GLS} {res : Int32} (hf : f_X8_differing N γ = some res) : Met l yX8_differing (cW yX8_differing cX8_differing 1 (some .int)) rm_X8_differing (cP [.ref (ad 0)] (P γ) G cA) (cQ (some (.int res)) (P γ)) 0 0 (fun q => lo ≤ q) := by
  refine cx_met (by decide) (Nat.le_of_ble_eq_true rfl) (fun p e s m args below meth c ls C0 hP hl => ?_)
  have hl : lv_has ls 1 [(0, .ref (ad 0))] := hl
  obtain ⟨⟨hx, hb, hml, hown, hts⟩, hr, hlocks, hK⟩ := id C0
  have hL : ∀ q ∈ ([] : List Loc), lo ≤ q.base := fun q h => nomatch h
  unfold f_X8_differing at hf
  refine lv_aload_n hx hb dX8_differing_0 rfl (lv_at hl 0 rfl) ?_
  refine g_GL_2 hC hP hx hb hts hown hK mw_30 dX8_differing_1 ?_
  refine g_Cache_0 (cx_glN hC γ) (show P (γ.1, γ.2.1, γ.2.2.1, γ.2.2.2) _ by (repeat rw [va_up_id]); exact hP) hx hb hts hown hK mw_523 dX8_differing_4 ?_
  obtain ⟨r1, q2, hf⟩ := cx_b hf
  refine cx_callV (As := []) (rest := []) ⟨hx, hb, hml, hown, hts⟩ (c_X0_howManyDiffer (cx_blk (cx_glN hC γ) (γ.2.2.1)) q2) (cwV 0 hts (gV mw_672 mw_673 mw_674 mw_58 mw_675) rfl rfl rfl hd_X0_howManyDiffer ⟨Nat.le_of_ble_eq_true rfl, Nat.le_of_ble_eq_true rfl⟩) hK (show P (γ.1, γ.2.1, (va_up (γ.2.2.1) 1 (γ.2.2.1 1)), γ.2.2.2) _ by (repeat rw [va_up_id]); exact hP) rfl (at_Blocks (cx_blk (cx_glN hC γ) (γ.2.2.1)) (show P (γ.1, γ.2.1, (va_up (γ.2.2.1) 1 (γ.2.2.1 1)), γ.2.2.2) _ by (repeat rw [va_up_id]); exact hP)) rfl hl.1 rfl (Nat.le_of_ble_eq_true rfl) dX8_differing_7 ⟨Nat.zero_le _, Nat.zero_le _⟩ hL (fun H locs hP hL => ?_)
  replace hP : P γ H := by first | exact hP | (simpa only [va_up_id] using hP)
  cases hf
  exact cx_iret hx hb hr hlocks hP hL dX8_differing_10
abbrev rm_X8_stale : Room := { frames := 1, cells := 0, slots := 0, locals := 23 }
theorem hd_X8_stale : yX8_stale.cls = RX8 ∧ yX8_stale.cls ≠ "java/lang/invoke/MethodHandle" ∧ yX8_stale.cls ≠ "java/lang/invoke/VarHandle" ∧ (parseMethodDescriptor yX8_stale.desc).map (fun d => d.parameters.length) = some 1 := by decide +kernel
def f_X8_stale (N : Nat) (γ : GLS) (p0 : Int32) : Option (Int32) := if 0 ≤ p0 then (f_X0_howManyDirtySince N (γ.2.2.1 1) ((γ.2.2.1 2).2 0 - p0)).bind fun r2 => some r2 else none
set_option maxHeartbeats 4000000 in
set_option maxRecDepth 100000 in
theorem c_X8_stale {l : Launch} {G : va_G} {cA : Nat → ClassId} {lo : Nat} {ad : Nat → Nat} {sv : Nat → Option Nat} {P : GLS → Heap → Prop} (hC : cx G lo 262 ad (ceGL sv cA ad) P) {N : Nat} {γ : GLS} {p0 : Int32} {res : Int32} (hf : f_X8_stale N γ p0 = some res) : Met l yX8_stale (cW yX8_stale cX8_stale 2 (some .int)) rm_X8_stale (cP [.ref (ad 0), .int p0] (P γ) G cA) (cQ (some (.int res)) (P γ)) 0 0 (fun q => lo ≤ q) := by
  refine cx_met (by decide) (Nat.le_of_ble_eq_true rfl) (fun p e s m args below meth c ls C0 hP hl => ?_)
  have hl : lv_has ls 2 [(0, .ref (ad 0)), (1, .int p0)] := hl
  obtain ⟨⟨hx, hb, hml, hown, hts⟩, hr, hlocks, hK⟩ := id C0
  have hL : ∀ q ∈ ([] : List Loc), lo ≤ q.base := fun q h => nomatch h
  unfold f_X8_stale at hf
  refine lv_iload_n hx hb dX8_stale_0 rfl (lv_at hl 1 rfl) ?_
  refine lv_if_ge (tgt := 14) hx hb dX8_stale_1 (by decide) (fun c1 => ?_) (fun c1 => ?_)
  · have hf := cx_t hf c1
    refine lv_aload_n hx hb dX8_stale_14 rfl (lv_at hl 0 rfl) ?_
    refine g_GL_2 hC hP hx hb hts hown hK mw_30 dX8_stale_15 ?_
    refine g_Cache_0 (cx_glN hC γ) (show P (γ.1, γ.2.1, γ.2.2.1, γ.2.2.2) _ by (repeat rw [va_up_id]); exact hP) hx hb hts hown hK mw_523 dX8_stale_18 ?_
    refine lv_aload_n hx hb dX8_stale_21 rfl (lv_at hl 0 rfl) ?_
    refine g_GL_2 hC hP hx hb hts hown hK mw_30 dX8_stale_22 ?_
    refine g_Cache_1 (cx_glN hC γ) (show P (γ.1, γ.2.1, γ.2.2.1, γ.2.2.2) _ by (repeat rw [va_up_id]); exact hP) hx hb hts hown hK mw_521 dX8_stale_25 ?_
    refine g_Tally_0 (cx_tal (cx_glN hC γ) (γ.2.2.1)) (show P (γ.1, γ.2.1, (va_up (γ.2.2.1) 2 (γ.2.2.1 2)), γ.2.2.2) _ by (repeat rw [va_up_id]); exact hP) hx hb hts hown hK mw_663 dX8_stale_28 ?_
    refine lv_iload_n hx hb dX8_stale_31 rfl (lv_at hl 1 rfl) ?_
    refine lv_isub hx hb dX8_stale_32 ?_
    obtain ⟨r2, q3, hf⟩ := cx_b hf
    refine cx_callV (As := [.int ((γ.2.2.1 2).2 0 - p0)]) (rest := []) ⟨hx, hb, hml, hown, hts⟩ (c_X0_howManyDirtySince (cx_blk (cx_glN hC γ) (γ.2.2.1)) q3) (cwV 1 hts (gV mw_664 mw_665 mw_666 mw_58 mw_667) rfl rfl rfl hd_X0_howManyDirtySince ⟨Nat.le_of_ble_eq_true rfl, Nat.le_of_ble_eq_true rfl⟩) hK (show P (γ.1, γ.2.1, (va_up (γ.2.2.1) 1 (γ.2.2.1 1)), γ.2.2.2) _ by (repeat rw [va_up_id]); exact hP) rfl (at_Blocks (cx_blk (cx_glN hC γ) (γ.2.2.1)) (show P (γ.1, γ.2.1, (va_up (γ.2.2.1) 1 (γ.2.2.1 1)), γ.2.2.2) _ by (repeat rw [va_up_id]); exact hP)) rfl hl.1 rfl (Nat.le_of_ble_eq_true rfl) dX8_stale_33 ⟨Nat.zero_le _, Nat.zero_le _⟩ hL (fun H locs hP hL => ?_)
    replace hP : P γ H := by first | exact hP | (simpa only [va_up_id] using hP)
    cases hf
    exact cx_iret hx hb hr hlocks hP hL dX8_stale_36
  · have hf := cx_f hf c1
    cases hf
abbrev rm_X8_predictionOf : Room := { frames := 1, cells := 0, slots := 0, locals := 21 }
theorem hd_X8_predictionOf : yX8_predictionOf.cls = RX8 ∧ yX8_predictionOf.cls ≠ "java/lang/invoke/MethodHandle" ∧ yX8_predictionOf.cls ≠ "java/lang/invoke/VarHandle" ∧ (parseMethodDescriptor yX8_predictionOf.desc).map (fun d => d.parameters.length) = some 3 := by decide +kernel
def f_X8_predictionOf (γ : GLS) (p0 : Int32) (p1 : Int32) (p2 : Int32) : Option (Int32) := if p2 = 0 then some p1 else if p2 = 1 then some ((γ.2.2.2.1 2).2 8 - (γ.2.2.1 2).2 8) else if p2 = 2 then (f_X0_listOf (γ.2.2.2.1 1) p0).bind fun r4 => some r4 else if p2 = 3 then some ((γ.2.2.2.1 2).2 9) else if p2 = 4 then some ((γ.2.2.2.1 2).2 10) else if p2 = 5 then some ((γ.2.2.2.1 1).2 7 - (γ.2.2.1 1).2 7) else some ((γ.2.2.2.1 0).2 14)
set_option maxHeartbeats 4000000 in
set_option maxRecDepth 100000 in
theorem c_X8_predictionOf {l : Launch} {G : va_G} {cA : Nat → ClassId} {lo : Nat} {ad : Nat → Nat} {sv : Nat → Option Nat} {P : GLS → Heap → Prop} (hC : cx G lo 262 ad (ceGL sv cA ad) P) {γ : GLS} {p0 : Int32} {p1 : Int32} {p2 : Int32} {res : Int32} (hf : f_X8_predictionOf γ p0 p1 p2 = some res) : Met l yX8_predictionOf (cW yX8_predictionOf cX8_predictionOf 4 (some .int)) rm_X8_predictionOf (cP [.ref (ad 0), .int p0, .int p1, .int p2] (P γ) G cA) (cQ (some (.int res)) (P γ)) 0 0 (fun q => lo ≤ q) := by
  refine cx_met (by decide) (Nat.le_of_ble_eq_true rfl) (fun p e s m args below meth c ls C0 hP hl => ?_)
  have hl : lv_has ls 4 [(0, .ref (ad 0)), (1, .int p0), (2, .int p1), (3, .int p2)] := hl
  obtain ⟨⟨hx, hb, hml, hown, hts⟩, hr, hlocks, hK⟩ := id C0
  have hL : ∀ q ∈ ([] : List Loc), lo ≤ q.base := fun q h => nomatch h
  unfold f_X8_predictionOf at hf
  refine lv_iload_n hx hb dX8_predictionOf_0 rfl (lv_at hl 3 rfl) ?_
  by_cases c1 : p2 = 0
  · have hf := cx_t hf c1
    refine lv_tableIn (off := 39) (tgt := 40) hx hb dX8_predictionOf_1 (by rw [c1]; decide) (by rw [c1]; decide) (by rw [c1]; rfl) (by decide) ?_
    refine lv_iload_n hx hb dX8_predictionOf_40 rfl (lv_at hl 2 rfl) ?_
    cases hf
    exact cx_iret hx hb hr hlocks hP hL dX8_predictionOf_41
  · have hf := cx_f hf c1
    by_cases c2 : p2 = 1
    · have hf := cx_t hf c2
      refine lv_tableIn (off := 41) (tgt := 42) hx hb dX8_predictionOf_1 (by rw [c2]; decide) (by rw [c2]; decide) (by rw [c2]; rfl) (by decide) ?_
      refine lv_aload_n hx hb dX8_predictionOf_42 rfl (lv_at hl 0 rfl) ?_
      refine g_GL_3 hC hP hx hb hts hown hK mw_31 dX8_predictionOf_43 ?_
      refine g_Cache_1 (cx_glQ hC γ) (show P (γ.1, γ.2.1, γ.2.2.1, γ.2.2.2.1, γ.2.2.2.2) _ by (repeat rw [va_up_id]); exact hP) hx hb hts hown hK mw_521 dX8_predictionOf_46 ?_
      refine g_Tally_8 (cx_tal (cx_glQ hC γ) (γ.2.2.2.1)) (show P (γ.1, γ.2.1, γ.2.2.1, (va_up (γ.2.2.2.1) 2 (γ.2.2.2.1 2)), γ.2.2.2.2) _ by (repeat rw [va_up_id]); exact hP) hx hb hts hown hK mw_522 dX8_predictionOf_49 ?_
      refine lv_aload_n hx hb dX8_predictionOf_52 rfl (lv_at hl 0 rfl) ?_
      refine g_GL_2 hC hP hx hb hts hown hK mw_30 dX8_predictionOf_53 ?_
      refine g_Cache_1 (cx_glN hC γ) (show P (γ.1, γ.2.1, γ.2.2.1, γ.2.2.2) _ by (repeat rw [va_up_id]); exact hP) hx hb hts hown hK mw_521 dX8_predictionOf_56 ?_
      refine g_Tally_8 (cx_tal (cx_glN hC γ) (γ.2.2.1)) (show P (γ.1, γ.2.1, (va_up (γ.2.2.1) 2 (γ.2.2.1 2)), γ.2.2.2) _ by (repeat rw [va_up_id]); exact hP) hx hb hts hown hK mw_522 dX8_predictionOf_59 ?_
      refine lv_isub hx hb dX8_predictionOf_62 ?_
      cases hf
      exact cx_iret hx hb hr hlocks hP hL dX8_predictionOf_63
    · have hf := cx_f hf c2
      by_cases c3 : p2 = 2
      · have hf := cx_t hf c3
        refine lv_tableIn (off := 63) (tgt := 64) hx hb dX8_predictionOf_1 (by rw [c3]; decide) (by rw [c3]; decide) (by rw [c3]; rfl) (by decide) ?_
        refine lv_aload_n hx hb dX8_predictionOf_64 rfl (lv_at hl 0 rfl) ?_
        refine g_GL_3 hC hP hx hb hts hown hK mw_31 dX8_predictionOf_65 ?_
        refine g_Cache_0 (cx_glQ hC γ) (show P (γ.1, γ.2.1, γ.2.2.1, γ.2.2.2.1, γ.2.2.2.2) _ by (repeat rw [va_up_id]); exact hP) hx hb hts hown hK mw_523 dX8_predictionOf_68 ?_
        refine lv_iload_n hx hb dX8_predictionOf_71 rfl (lv_at hl 1 rfl) ?_
        obtain ⟨r4, q5, hf⟩ := cx_b hf
        refine cx_callV (As := [.int p0]) (rest := []) ⟨hx, hb, hml, hown, hts⟩ (c_X0_listOf (cx_blk (cx_glQ hC γ) (γ.2.2.2.1)) q5) (cwV 1 hts (gV mw_528 mw_365 mw_366 mw_58 mw_367) rfl rfl rfl hd_X0_listOf ⟨Nat.le_of_ble_eq_true rfl, Nat.le_of_ble_eq_true rfl⟩) hK (show P (γ.1, γ.2.1, γ.2.2.1, (va_up (γ.2.2.2.1) 1 (γ.2.2.2.1 1)), γ.2.2.2.2) _ by (repeat rw [va_up_id]); exact hP) rfl (at_Blocks (cx_blk (cx_glQ hC γ) (γ.2.2.2.1)) (show P (γ.1, γ.2.1, γ.2.2.1, (va_up (γ.2.2.2.1) 1 (γ.2.2.2.1 1)), γ.2.2.2.2) _ by (repeat rw [va_up_id]); exact hP)) rfl hl.1 rfl (Nat.le_of_ble_eq_true rfl) dX8_predictionOf_72 ⟨Nat.zero_le _, Nat.zero_le _⟩ hL (fun H locs hP hL => ?_)
        replace hP : P γ H := by first | exact hP | (simpa only [va_up_id] using hP)
        cases hf
        exact cx_iret hx hb hr hlocks hP hL dX8_predictionOf_75
      · have hf := cx_f hf c3
        by_cases c6 : p2 = 3
        · have hf := cx_t hf c6
          refine lv_tableIn (off := 75) (tgt := 76) hx hb dX8_predictionOf_1 (by rw [c6]; decide) (by rw [c6]; decide) (by rw [c6]; rfl) (by decide) ?_
          refine lv_aload_n hx hb dX8_predictionOf_76 rfl (lv_at hl 0 rfl) ?_
          refine g_GL_3 hC hP hx hb hts hown hK mw_31 dX8_predictionOf_77 ?_
          refine g_Cache_1 (cx_glQ hC γ) (show P (γ.1, γ.2.1, γ.2.2.1, γ.2.2.2.1, γ.2.2.2.2) _ by (repeat rw [va_up_id]); exact hP) hx hb hts hown hK mw_521 dX8_predictionOf_80 ?_
          refine g_Tally_9 (cx_tal (cx_glQ hC γ) (γ.2.2.2.1)) (show P (γ.1, γ.2.1, γ.2.2.1, (va_up (γ.2.2.2.1) 2 (γ.2.2.2.1 2)), γ.2.2.2.2) _ by (repeat rw [va_up_id]); exact hP) hx hb hts hown hK mw_524 dX8_predictionOf_83 ?_
          cases hf
          exact cx_iret hx hb hr hlocks hP hL dX8_predictionOf_86
        · have hf := cx_f hf c6
          by_cases c7 : p2 = 4
          · have hf := cx_t hf c7
            refine lv_tableIn (off := 86) (tgt := 87) hx hb dX8_predictionOf_1 (by rw [c7]; decide) (by rw [c7]; decide) (by rw [c7]; rfl) (by decide) ?_
            refine lv_aload_n hx hb dX8_predictionOf_87 rfl (lv_at hl 0 rfl) ?_
            refine g_GL_3 hC hP hx hb hts hown hK mw_31 dX8_predictionOf_88 ?_
            refine g_Cache_1 (cx_glQ hC γ) (show P (γ.1, γ.2.1, γ.2.2.1, γ.2.2.2.1, γ.2.2.2.2) _ by (repeat rw [va_up_id]); exact hP) hx hb hts hown hK mw_521 dX8_predictionOf_91 ?_
            refine g_Tally_10 (cx_tal (cx_glQ hC γ) (γ.2.2.2.1)) (show P (γ.1, γ.2.1, γ.2.2.1, (va_up (γ.2.2.2.1) 2 (γ.2.2.2.1 2)), γ.2.2.2.2) _ by (repeat rw [va_up_id]); exact hP) hx hb hts hown hK mw_525 dX8_predictionOf_94 ?_
            cases hf
            exact cx_iret hx hb hr hlocks hP hL dX8_predictionOf_97
          · have hf := cx_f hf c7
            by_cases c8 : p2 = 5
            · have hf := cx_t hf c8
              refine lv_tableIn (off := 97) (tgt := 98) hx hb dX8_predictionOf_1 (by rw [c8]; decide) (by rw [c8]; decide) (by rw [c8]; rfl) (by decide) ?_
              refine lv_aload_n hx hb dX8_predictionOf_98 rfl (lv_at hl 0 rfl) ?_
              refine g_GL_3 hC hP hx hb hts hown hK mw_31 dX8_predictionOf_99 ?_
              refine g_Cache_0 (cx_glQ hC γ) (show P (γ.1, γ.2.1, γ.2.2.1, γ.2.2.2.1, γ.2.2.2.2) _ by (repeat rw [va_up_id]); exact hP) hx hb hts hown hK mw_523 dX8_predictionOf_102 ?_
              refine g_Blocks_7 (cx_blk (cx_glQ hC γ) (γ.2.2.2.1)) (show P (γ.1, γ.2.1, γ.2.2.1, (va_up (γ.2.2.2.1) 1 (γ.2.2.2.1 1)), γ.2.2.2.2) _ by (repeat rw [va_up_id]); exact hP) hx hb hts hown hK mw_526 dX8_predictionOf_105 ?_
              refine lv_aload_n hx hb dX8_predictionOf_108 rfl (lv_at hl 0 rfl) ?_
              refine g_GL_2 hC hP hx hb hts hown hK mw_30 dX8_predictionOf_109 ?_
              refine g_Cache_0 (cx_glN hC γ) (show P (γ.1, γ.2.1, γ.2.2.1, γ.2.2.2) _ by (repeat rw [va_up_id]); exact hP) hx hb hts hown hK mw_523 dX8_predictionOf_112 ?_
              refine g_Blocks_7 (cx_blk (cx_glN hC γ) (γ.2.2.1)) (show P (γ.1, γ.2.1, (va_up (γ.2.2.1) 1 (γ.2.2.1 1)), γ.2.2.2) _ by (repeat rw [va_up_id]); exact hP) hx hb hts hown hK mw_526 dX8_predictionOf_115 ?_
              refine lv_isub hx hb dX8_predictionOf_118 ?_
              cases hf
              exact cx_iret hx hb hr hlocks hP hL dX8_predictionOf_119
            · have hf := cx_f hf c8
              refine lv_tableOut (tgt := 120) hx hb dX8_predictionOf_1 (by have := lv_neT (a := 0) c1 (by decide); have := lv_neT (a := 1) c2 (by decide); have := lv_neT (a := 2) c3 (by decide); have := lv_neT (a := 3) c6 (by decide); have := lv_neT (a := 4) c7 (by decide); have := lv_neT (a := 5) c8 (by decide); omega) (by decide) ?_
              refine lv_aload_n hx hb dX8_predictionOf_120 rfl (lv_at hl 0 rfl) ?_
              refine g_GL_3 hC hP hx hb hts hown hK mw_31 dX8_predictionOf_121 ?_
              refine g_Cache_14 (cx_glQ hC γ) (show P (γ.1, γ.2.1, γ.2.2.1, γ.2.2.2.1, γ.2.2.2.2) _ by (repeat rw [va_up_id]); exact hP) hx hb hts hown hK mw_527 dX8_predictionOf_124 ?_
              cases hf
              exact cx_iret hx hb hr hlocks hP hL dX8_predictionOf_127
abbrev rm_X8_wouldBe : Room := { frames := 5, cells := 0, slots := 0, locals := 121 }
theorem hd_X8_wouldBe : yX8_wouldBe.cls = RX8 ∧ yX8_wouldBe.cls ≠ "java/lang/invoke/MethodHandle" ∧ yX8_wouldBe.cls ≠ "java/lang/invoke/VarHandle" ∧ (parseMethodDescriptor yX8_wouldBe.desc).map (fun d => d.parameters.length) = some 3 := by decide +kernel
def f_X8_wouldBe (N : Nat) (γ : GLS) (p0 : Int32) (p1 : Int32) (p2 : Int32) : Option (Int32 × GLS) := (f_X8_needClient γ p0).bind fun r1 => (f_X8_needRange p1 0 199).bind fun r3 => (f_X8_needRange p2 0 6).bind fun r5 => (f_X1_copyFrom N γ.2.2.2.1 γ.2.2.1).bind fun r7 => cx_let ((γ.1, γ.2.1, γ.2.2.1, r7, γ.2.2.2.2)) fun z9 => (f_X1_access N z9.2.2.2.1 p0 p1 0).bind fun r10 => cx_let ((z9.1, z9.2.1, z9.2.2.1, r10.2, z9.2.2.2.2)) fun z12 => (f_X8_predictionOf z12 p1 r10.1 p2).bind fun r13 => some (r13, z12)
set_option maxHeartbeats 4000000 in
set_option maxRecDepth 100000 in
theorem c_X8_wouldBe {l : Launch} {G : va_G} {cA : Nat → ClassId} {lo : Nat} {ad : Nat → Nat} {sv : Nat → Option Nat} {P : GLS → Heap → Prop} (hC : cx G lo 262 ad (ceGL sv cA ad) P) {N : Nat} {γ : GLS} {p0 : Int32} {p1 : Int32} {p2 : Int32} {res : Int32 × GLS} (hf : f_X8_wouldBe N γ p0 p1 p2 = some res) : Met l yX8_wouldBe (cW yX8_wouldBe cX8_wouldBe 5 (some .int)) rm_X8_wouldBe (cP [.ref (ad 0), .int p0, .int p1, .int p2] (P γ) G cA) (cQ (some (.int res.1)) (P res.2)) 0 0 (fun q => lo ≤ q) := by
  refine cx_met (by decide) (Nat.le_of_ble_eq_true rfl) (fun p e s m args below meth c ls C0 hP hl => ?_)
  have hl : lv_has ls 5 [(0, .ref (ad 0)), (1, .int p0), (2, .int p1), (3, .int p2)] := hl
  obtain ⟨⟨hx, hb, hml, hown, hts⟩, hr, hlocks, hK⟩ := id C0
  have hL : ∀ q ∈ ([] : List Loc), lo ≤ q.base := fun q h => nomatch h
  unfold f_X8_wouldBe at hf
  refine lv_aload_n hx hb dX8_wouldBe_0 rfl (lv_at hl 0 rfl) ?_
  refine lv_iload_n hx hb dX8_wouldBe_1 rfl (lv_at hl 1 rfl) ?_
  obtain ⟨r1, q2, hf⟩ := cx_b hf
  refine cx_callV (As := [.int p0]) (rest := []) ⟨hx, hb, hml, hown, hts⟩ (c_X8_needClient hC q2) (cwV 1 hts (gV mw_309 mw_310 mw_311 mw_11 mw_312) rfl rfl rfl hd_X8_needClient ⟨Nat.le_of_ble_eq_true rfl, Nat.le_of_ble_eq_true rfl⟩) hK hP rfl (at_GL hC hP) rfl hl.1 rfl (Nat.le_of_ble_eq_true rfl) dX8_wouldBe_2 ⟨Nat.zero_le _, Nat.zero_le _⟩ hL (fun H locs hP hL => ?_)
  replace hP : P γ H := by first | exact hP | (simpa only [va_up_id] using hP)
  refine lv_iload_n hx hb dX8_wouldBe_5 rfl (lv_at hl 2 rfl) ?_
  refine lv_iconst (v := 0) hx hb dX8_wouldBe_6 (by decide) ?_
  refine lv_sipush (v := 199) hx hb dX8_wouldBe_7 (by decide) ?_
  obtain ⟨r3, q4, hf⟩ := cx_b hf
  refine cx_callS (As := [.int p1, .int 0, .int 199]) (rest := []) ⟨hx, hb, hml, hown, hts⟩ (c_X8_needRange (PH := P γ) q4) (cwS 3 hts (gS mw_153 mw_154 mw_11 mw_155) rfl rfl rfl hd_X8_needRange ⟨Nat.le_of_ble_eq_true rfl, Nat.le_of_ble_eq_true rfl⟩) hK hP rfl hl.1 rfl (Nat.le_of_ble_eq_true rfl) dX8_wouldBe_10 ⟨Nat.zero_le _, Nat.zero_le _⟩ hL (fun H locs hP hL => ?_)
  refine lv_iload_n hx hb dX8_wouldBe_13 rfl (lv_at hl 3 rfl) ?_
  refine lv_iconst (v := 0) hx hb dX8_wouldBe_14 (by decide) ?_
  refine lv_bipush (v := 6) hx hb dX8_wouldBe_15 (by decide) ?_
  obtain ⟨r5, q6, hf⟩ := cx_b hf
  refine cx_callS (As := [.int p2, .int 0, .int 6]) (rest := []) ⟨hx, hb, hml, hown, hts⟩ (c_X8_needRange (PH := P γ) q6) (cwS 3 hts (gS mw_153 mw_154 mw_11 mw_155) rfl rfl rfl hd_X8_needRange ⟨Nat.le_of_ble_eq_true rfl, Nat.le_of_ble_eq_true rfl⟩) hK hP rfl hl.1 rfl (Nat.le_of_ble_eq_true rfl) dX8_wouldBe_17 ⟨Nat.zero_le _, Nat.zero_le _⟩ hL (fun H locs hP hL => ?_)
  refine lv_aload_n hx hb dX8_wouldBe_20 rfl (lv_at hl 0 rfl) ?_
  refine g_GL_3 hC hP hx hb hts hown hK mw_31 dX8_wouldBe_21 ?_
  refine lv_aload_n hx hb dX8_wouldBe_24 rfl (lv_at hl 0 rfl) ?_
  refine g_GL_2 hC hP hx hb hts hown hK mw_30 dX8_wouldBe_25 ?_
  obtain ⟨r7, q8, hf⟩ := cx_b hf
  refine cx_callV (As := [.ref ((adN ad) 0)]) (rest := []) ⟨hx, hb, hml, hown, hts⟩ (c_X1_copyFrom (fun z : CacS => cx_glQ hC (γ.1, γ.2.1, z, γ.2.2.2)) (fun z : CacS => cx_glN hC (γ.1, γ.2.1, γ.2.2.1, z, γ.2.2.2.2)) q8) (cwV 1 hts (gV mw_416 mw_168 mw_169 mw_29 mw_170) rfl rfl rfl hd_X1_copyFrom ⟨Nat.le_of_ble_eq_true rfl, Nat.le_of_ble_eq_true rfl⟩) hK (show P ((γ.1, γ.2.1, γ.2.2.1, γ.2.2.2.1, γ.2.2.2.2).1, (γ.1, γ.2.1, γ.2.2.1, γ.2.2.2.1, γ.2.2.2.2).2.1, γ.2.2.1, (γ.1, γ.2.1, γ.2.2.1, γ.2.2.2.1, γ.2.2.2.2).2.2.2) _ by (repeat rw [va_up_id]); exact hP) rfl (at_Cache (cx_glQ hC γ) (show P (γ.1, γ.2.1, γ.2.2.1, γ.2.2.2.1, γ.2.2.2.2) _ by (repeat rw [va_up_id]); exact hP)) rfl hl.1 rfl (Nat.le_of_ble_eq_true rfl) dX8_wouldBe_28 ⟨Nat.zero_le _, Nat.zero_le _⟩ hL (fun H locs hP hL => ?_)
  obtain ⟨z9, ez9, hf⟩ := cx_letE hf
  replace hP : P z9 H := by rw [← ez9]; (first | exact hP | (simpa only [va_up_id] using hP))
  replace hP : P z9 H := by first | exact hP | (simpa only [va_up_id] using hP)
  refine lv_aload_n hx hb dX8_wouldBe_31 rfl (lv_at hl 0 rfl) ?_
  refine g_GL_3 hC hP hx hb hts hown hK mw_31 dX8_wouldBe_32 ?_
  refine lv_iload_n hx hb dX8_wouldBe_35 rfl (lv_at hl 1 rfl) ?_
  refine lv_iload_n hx hb dX8_wouldBe_36 rfl (lv_at hl 2 rfl) ?_
  refine lv_iconst (v := 0) hx hb dX8_wouldBe_37 (by decide) ?_
  obtain ⟨r10, q11, hf⟩ := cx_b hf
  refine cx_callV (As := [.int p0, .int p1, .int 0]) (rest := []) ⟨hx, hb, hml, hown, hts⟩ (c_X1_access (cx_glQ hC z9) q11) (cwV 3 hts (gV mw_417 mw_418 mw_419 mw_29 mw_420) rfl rfl rfl hd_X1_access ⟨Nat.le_of_ble_eq_true rfl, Nat.le_of_ble_eq_true rfl⟩) hK (show P (z9.1, z9.2.1, z9.2.2.1, z9.2.2.2.1, z9.2.2.2.2) _ by (repeat rw [va_up_id]); exact hP) rfl (at_Cache (cx_glQ hC z9) (show P (z9.1, z9.2.1, z9.2.2.1, z9.2.2.2.1, z9.2.2.2.2) _ by (repeat rw [va_up_id]); exact hP)) rfl hl.1 rfl (Nat.le_of_ble_eq_true rfl) dX8_wouldBe_38 ⟨Nat.zero_le _, Nat.zero_le _⟩ hL (fun H locs hP hL => ?_)
  obtain ⟨z12, ez12, hf⟩ := cx_letE hf
  replace hP : P z12 H := by rw [← ez12]; exact hP
  refine lv_istore (lv' := [(4, .int r10.1), (0, .ref (ad 0)), (1, .int p0), (2, .int p1), (3, .int p2)]) hx hb dX8_wouldBe_41 hl (by decide) rfl (fun ls hl => ?_)
  refine lv_aload_n hx hb dX8_wouldBe_43 rfl (lv_at hl 1 rfl) ?_
  refine lv_iload_n hx hb dX8_wouldBe_44 rfl (lv_at hl 3 rfl) ?_
  refine lv_iload hx hb dX8_wouldBe_45 (lv_at hl 0 rfl) ?_
  refine lv_iload_n hx hb dX8_wouldBe_47 rfl (lv_at hl 4 rfl) ?_
  obtain ⟨r13, q14, hf⟩ := cx_b hf
  refine cx_callV (As := [.int p1, .int r10.1, .int p2]) (rest := []) ⟨hx, hb, hml, hown, hts⟩ (c_X8_predictionOf hC q14) (cwV 3 hts (gV mw_517 mw_518 mw_519 mw_11 mw_520) rfl rfl rfl hd_X8_predictionOf ⟨Nat.le_of_ble_eq_true rfl, Nat.le_of_ble_eq_true rfl⟩) hK hP rfl (at_GL hC hP) rfl hl.1 rfl (Nat.le_of_ble_eq_true rfl) dX8_wouldBe_48 ⟨Nat.zero_le _, Nat.zero_le _⟩ hL (fun H locs hP hL => ?_)
  replace hP : P z12 H := by first | exact hP | (simpa only [va_up_id] using hP)
  cases hf
  exact cx_iret hx hb hr hlocks hP hL dX8_wouldBe_51
abbrev rm_X8_needReadsAhead : Room := { frames := 2, cells := 0, slots := 0, locals := 42 }
theorem hd_X8_needReadsAhead : yX8_needReadsAhead.cls = RX8 ∧ yX8_needReadsAhead.cls ≠ "java/lang/invoke/MethodHandle" ∧ yX8_needReadsAhead.cls ≠ "java/lang/invoke/VarHandle" ∧ (parseMethodDescriptor yX8_needReadsAhead.desc).map (fun d => d.parameters.length) = some 4 := by decide +kernel
def f_X8_needReadsAhead (γ : GLS) (p0 : Int32) (p1 : Int32) (p2 : Int32) (p3 : Int32) : Option (Unit) := (f_X8_needClient γ p0).bind fun r1 => (f_X8_needRange p1 0 199).bind fun r3 => (f_X8_needRange p2 1 (if (200 - p1) < 40 then (200 - p1) else 40)).bind fun r5 => (f_X8_needRange p3 1 4).bind fun r7 => some ()
set_option maxHeartbeats 4000000 in
set_option maxRecDepth 100000 in
theorem c_X8_needReadsAhead {l : Launch} {G : va_G} {cA : Nat → ClassId} {lo : Nat} {ad : Nat → Nat} {sv : Nat → Option Nat} {P : GLS → Heap → Prop} (hC : cx G lo 262 ad (ceGL sv cA ad) P) {γ : GLS} {p0 : Int32} {p1 : Int32} {p2 : Int32} {p3 : Int32} {res : Unit} (hf : f_X8_needReadsAhead γ p0 p1 p2 p3 = some res) : Met l yX8_needReadsAhead (cW yX8_needReadsAhead cX8_needReadsAhead 5 none) rm_X8_needReadsAhead (cP [.ref (ad 0), .int p0, .int p1, .int p2, .int p3] (P γ) G cA) (cQ none (P γ)) 0 0 (fun q => lo ≤ q) := by
  refine cx_met (by decide) (Nat.le_of_ble_eq_true rfl) (fun p e s m args below meth c ls C0 hP hl => ?_)
  have hl : lv_has ls 5 [(0, .ref (ad 0)), (1, .int p0), (2, .int p1), (3, .int p2), (4, .int p3)] := hl
  obtain ⟨⟨hx, hb, hml, hown, hts⟩, hr, hlocks, hK⟩ := id C0
  have hL : ∀ q ∈ ([] : List Loc), lo ≤ q.base := fun q h => nomatch h
  unfold f_X8_needReadsAhead at hf
  refine lv_aload_n hx hb dX8_needReadsAhead_0 rfl (lv_at hl 0 rfl) ?_
  refine lv_iload_n hx hb dX8_needReadsAhead_1 rfl (lv_at hl 1 rfl) ?_
  obtain ⟨r1, q2, hf⟩ := cx_b hf
  refine cx_callV (As := [.int p0]) (rest := []) ⟨hx, hb, hml, hown, hts⟩ (c_X8_needClient hC q2) (cwV 1 hts (gV mw_309 mw_310 mw_311 mw_11 mw_312) rfl rfl rfl hd_X8_needClient ⟨Nat.le_of_ble_eq_true rfl, Nat.le_of_ble_eq_true rfl⟩) hK hP rfl (at_GL hC hP) rfl hl.1 rfl (Nat.le_of_ble_eq_true rfl) dX8_needReadsAhead_2 ⟨Nat.zero_le _, Nat.zero_le _⟩ hL (fun H locs hP hL => ?_)
  replace hP : P γ H := by first | exact hP | (simpa only [va_up_id] using hP)
  refine lv_iload_n hx hb dX8_needReadsAhead_5 rfl (lv_at hl 2 rfl) ?_
  refine lv_iconst (v := 0) hx hb dX8_needReadsAhead_6 (by decide) ?_
  refine lv_sipush (v := 199) hx hb dX8_needReadsAhead_7 (by decide) ?_
  obtain ⟨r3, q4, hf⟩ := cx_b hf
  refine cx_callS (As := [.int p1, .int 0, .int 199]) (rest := []) ⟨hx, hb, hml, hown, hts⟩ (c_X8_needRange (PH := P γ) q4) (cwS 3 hts (gS mw_153 mw_154 mw_11 mw_155) rfl rfl rfl hd_X8_needRange ⟨Nat.le_of_ble_eq_true rfl, Nat.le_of_ble_eq_true rfl⟩) hK hP rfl hl.1 rfl (Nat.le_of_ble_eq_true rfl) dX8_needReadsAhead_10 ⟨Nat.zero_le _, Nat.zero_le _⟩ hL (fun H locs hP hL => ?_)
  refine lv_iload_n hx hb dX8_needReadsAhead_13 rfl (lv_at hl 3 rfl) ?_
  refine lv_iconst (v := 1) hx hb dX8_needReadsAhead_14 (by decide) ?_
  refine lv_bipush (v := 40) hx hb dX8_needReadsAhead_15 (by decide) ?_
  refine lv_sipush (v := 200) hx hb dX8_needReadsAhead_17 (by decide) ?_
  refine lv_iload_n hx hb dX8_needReadsAhead_20 rfl (lv_at hl 2 rfl) ?_
  refine lv_isub hx hb dX8_needReadsAhead_21 ?_
  refine va_mmin hx hb (hml.trans hl.1.symm) hown (hts _ mw_727) (hts _ mw_165) (hts _ mw_131) (hts _ mw_166) (Nat.le_of_ble_eq_true rfl) (Nat.le_of_ble_eq_true rfl) (Nat.zero_le _) (Nat.zero_le _) dX8_needReadsAhead_22 ?_
  obtain ⟨r5, q6, hf⟩ := cx_b hf
  refine cx_callS (As := [.int p2, .int 1, .int (if (200 - p1) < 40 then (200 - p1) else 40)]) (rest := []) ⟨hx, hb, hml, hown, hts⟩ (c_X8_needRange (PH := P γ) q6) (cwS 3 hts (gS mw_153 mw_154 mw_11 mw_155) rfl rfl rfl hd_X8_needRange ⟨Nat.le_of_ble_eq_true rfl, Nat.le_of_ble_eq_true rfl⟩) hK hP rfl hl.1 rfl (Nat.le_of_ble_eq_true rfl) dX8_needReadsAhead_25 ⟨Nat.zero_le _, Nat.zero_le _⟩ hL (fun H locs hP hL => ?_)
  refine lv_iload hx hb dX8_needReadsAhead_28 (lv_at hl 4 rfl) ?_
  refine lv_iconst (v := 1) hx hb dX8_needReadsAhead_30 (by decide) ?_
  refine lv_iconst (v := 4) hx hb dX8_needReadsAhead_31 (by decide) ?_
  obtain ⟨r7, q8, hf⟩ := cx_b hf
  refine cx_callS (As := [.int p3, .int 1, .int 4]) (rest := []) ⟨hx, hb, hml, hown, hts⟩ (c_X8_needRange (PH := P γ) q8) (cwS 3 hts (gS mw_153 mw_154 mw_11 mw_155) rfl rfl rfl hd_X8_needRange ⟨Nat.le_of_ble_eq_true rfl, Nat.le_of_ble_eq_true rfl⟩) hK hP rfl hl.1 rfl (Nat.le_of_ble_eq_true rfl) dX8_needReadsAhead_32 ⟨Nat.zero_le _, Nat.zero_le _⟩ hL (fun H locs hP hL => ?_)
  cases hf
  exact cx_vret hx hb hr hlocks hP hL dX8_needReadsAhead_35
abbrev rm_X8_readAhead : Room := { frames := 5, cells := 0, slots := 0, locals := 121 }
theorem hd_X8_readAhead : yX8_readAhead.cls = RX8 ∧ yX8_readAhead.cls ≠ "java/lang/invoke/MethodHandle" ∧ yX8_readAhead.cls ≠ "java/lang/invoke/VarHandle" ∧ (parseMethodDescriptor yX8_readAhead.desc).map (fun d => d.parameters.length) = some 5 := by decide +kernel
def f_X8_readAhead_b33 (N : Nat) (k23 : GLS → Int32 → Int32 → Int32 → Int32 → Int32 → Option (GLS)) : Nat → GLS → Int32 → Int32 → Int32 → Int32 → Int32 → Int32 → Option (GLS)
  | 0, _, _, _, _, _, _, _ => none
  | n + 1, γ, x1, x2, x3, x4, x6, x7 => if x3 ≤ x7 then k23 γ x1 x2 x3 x4 (x6 + 1) else (f_X1_access N γ.2.2.2.1 x1 (x2 + x7) 0).bind fun r2 => cx_let ((γ.1, γ.2.1, γ.2.2.1, r2.2, γ.2.2.2.2)) fun z4 => f_X8_readAhead_b33 N k23 n z4 x1 x2 x3 x4 x6 (x7 + 1)
set_option maxHeartbeats 4000000 in
set_option maxRecDepth 100000 in
theorem w_X8_readAhead_b33 {p : Program} {l : Launch} {e : Env} {s : State} {m : MethodId} {args : Array Value} {below : List Frame} {meth : Method} {c : Code} {G : va_G} {cA : Nat → ClassId} (C0 : cB p s m args meth c RX8 cX8_readAhead 8 none G cA) {lo : Nat} {ad : Nat → Nat} {sv : Nat → Option Nat} {P : GLS → Heap → Prop} (hC : cx G lo 262 ad (ceGL sv cA ad) P) {N : Nat} {res : GLS} {k23 : GLS → Int32 → Int32 → Int32 → Int32 → Int32 → Option (GLS)} (hk23 : ∀ (γ : GLS) (x1 : Int32) (x2 : Int32) (x3 : Int32) (x4 : Int32) (x6 : Int32) (H : Heap) (locs : List Loc) (ls : Array Slot), k23 γ x1 x2 x3 x4 x6 = some res → P γ H → (∀ q ∈ locs, lo ≤ q.base) → lv_has ls 8 [(0, .ref (ad 0)), (1, .int x1), (2, .int x2), (3, .int x3), (4, .int x4), (6, .int x6)] → W p l e rm_X8_readAhead s m args below meth c H locs 0 0 (MQ below (cQ none (P res)) args s 0 0 (fun q => lo ≤ q)) (F0 m 23 ls [])) : ∀ (n : Nat) (γ : GLS) (x1 : Int32) (x2 : Int32) (x3 : Int32) (x4 : Int32) (x6 : Int32) (x7 : Int32) (H : Heap) (locs : List Loc) (ls : Array Slot), f_X8_readAhead_b33 N k23 n γ x1 x2 x3 x4 x6 x7 = some res → P γ H → (∀ q ∈ locs, lo ≤ q.base) → lv_has ls 8 [(0, .ref (ad 0)), (1, .int x1), (2, .int x2), (3, .int x3), (4, .int x4), (6, .int x6), (7, .int x7)] → W p l e rm_X8_readAhead s m args below meth c H locs 0 0 (MQ below (cQ none (P res)) args s 0 0 (fun q => lo ≤ q)) (F0 m 33 ls []) := by
  obtain ⟨⟨hx, hb, hml, hown, hts⟩, hr, hlocks, hK⟩ := id C0
  intro n
  induction n with
  | zero => intro γ x1 x2 x3 x4 x6 x7 H locs ls
            exact fun hf => nomatch hf
  | succ n ih =>
    intro γ x1 x2 x3 x4 x6 x7 H locs ls hf hP hL hl
    rw [f_X8_readAhead_b33] at hf
    refine lv_iload hx hb dX8_readAhead_33 (lv_at hl 6 rfl) ?_
    refine lv_iload_n hx hb dX8_readAhead_35 rfl (lv_at hl 3 rfl) ?_
    refine lv_icmp_ge (tgt := 59) hx hb dX8_readAhead_36 (by decide) (fun c1 => ?_) (fun c1 => ?_)
    · have hf := cx_t hf c1
      refine lv_iinc (v := (x6 + 1)) (lv' := [(6, .int (x6 + 1)), (0, .ref (ad 0)), (1, .int x1), (2, .int x2), (3, .int x3), (4, .int x4), (7, .int x7)]) hx hb dX8_readAhead_59 hl (k := 5) rfl rfl (by decide) rfl (fun ls hl => ?_)
      refine lv_goto (tgt := 23) hx hb dX8_readAhead_62 (by decide) ?_
      exact hk23 γ x1 x2 x3 x4 (x6 + 1) _ _ _ hf hP hL (lv_sub hl [1, 2, 3, 4, 5, 0] rfl)
    · have hf := cx_f hf c1
      refine lv_aload_n hx hb dX8_readAhead_39 rfl (lv_at hl 0 rfl) ?_
      refine g_GL_3 hC hP hx hb hts hown hK mw_31 dX8_readAhead_40 ?_
      refine lv_iload_n hx hb dX8_readAhead_43 rfl (lv_at hl 1 rfl) ?_
      refine lv_iload_n hx hb dX8_readAhead_44 rfl (lv_at hl 2 rfl) ?_
      refine lv_iload hx hb dX8_readAhead_45 (lv_at hl 6 rfl) ?_
      refine lv_iadd hx hb dX8_readAhead_47 ?_
      refine lv_iconst (v := 0) hx hb dX8_readAhead_48 (by decide) ?_
      obtain ⟨r2, q3, hf⟩ := cx_b hf
      refine cx_callV (As := [.int x1, .int (x2 + x7), .int 0]) (rest := []) ⟨hx, hb, hml, hown, hts⟩ (c_X1_access (cx_glQ hC γ) q3) (cwV 3 hts (gV mw_417 mw_418 mw_419 mw_29 mw_420) rfl rfl rfl hd_X1_access ⟨Nat.le_of_ble_eq_true rfl, Nat.le_of_ble_eq_true rfl⟩) hK (show P (γ.1, γ.2.1, γ.2.2.1, γ.2.2.2.1, γ.2.2.2.2) _ by (repeat rw [va_up_id]); exact hP) rfl (at_Cache (cx_glQ hC γ) (show P (γ.1, γ.2.1, γ.2.2.1, γ.2.2.2.1, γ.2.2.2.2) _ by (repeat rw [va_up_id]); exact hP)) rfl hl.1 rfl (Nat.le_of_ble_eq_true rfl) dX8_readAhead_49 ⟨Nat.zero_le _, Nat.zero_le _⟩ hL (fun H locs hP hL => ?_)
      obtain ⟨z4, ez4, hf⟩ := cx_letE hf
      replace hP : P z4 H := by rw [← ez4]; exact hP
      refine lv_pop hx hb dX8_readAhead_52 rfl ?_
      refine lv_iinc (v := (x7 + 1)) (lv' := [(7, .int (x7 + 1)), (0, .ref (ad 0)), (1, .int x1), (2, .int x2), (3, .int x3), (4, .int x4), (6, .int x6)]) hx hb dX8_readAhead_53 hl (k := 6) rfl rfl (by decide) rfl (fun ls hl => ?_)
      refine lv_goto (tgt := 33) hx hb dX8_readAhead_56 (by decide) ?_
      exact ih z4 x1 x2 x3 x4 x6 (x7 + 1) _ _ _ hf hP hL (lv_sub hl [1, 2, 3, 4, 5, 6, 0] rfl)
def f_X8_readAhead_b23 (N : Nat) : Nat → GLS → Int32 → Int32 → Int32 → Int32 → Int32 → Option (GLS)
  | 0, _, _, _, _, _, _ => none
  | n + 1, γ, x1, x2, x3, x4, x6 => if x4 ≤ x6 then some γ else f_X8_readAhead_b33 N (f_X8_readAhead_b23 N n) N γ x1 x2 x3 x4 x6 0
set_option maxHeartbeats 4000000 in
set_option maxRecDepth 100000 in
theorem w_X8_readAhead_b23 {p : Program} {l : Launch} {e : Env} {s : State} {m : MethodId} {args : Array Value} {below : List Frame} {meth : Method} {c : Code} {G : va_G} {cA : Nat → ClassId} (C0 : cB p s m args meth c RX8 cX8_readAhead 8 none G cA) {lo : Nat} {ad : Nat → Nat} {sv : Nat → Option Nat} {P : GLS → Heap → Prop} (hC : cx G lo 262 ad (ceGL sv cA ad) P) {N : Nat} {res : GLS} : ∀ (n : Nat) (γ : GLS) (x1 : Int32) (x2 : Int32) (x3 : Int32) (x4 : Int32) (x6 : Int32) (H : Heap) (locs : List Loc) (ls : Array Slot), f_X8_readAhead_b23 N n γ x1 x2 x3 x4 x6 = some res → P γ H → (∀ q ∈ locs, lo ≤ q.base) → lv_has ls 8 [(0, .ref (ad 0)), (1, .int x1), (2, .int x2), (3, .int x3), (4, .int x4), (6, .int x6)] → W p l e rm_X8_readAhead s m args below meth c H locs 0 0 (MQ below (cQ none (P res)) args s 0 0 (fun q => lo ≤ q)) (F0 m 23 ls []) := by
  obtain ⟨⟨hx, hb, hml, hown, hts⟩, hr, hlocks, hK⟩ := id C0
  intro n
  induction n with
  | zero => intro γ x1 x2 x3 x4 x6 H locs ls
            exact fun hf => nomatch hf
  | succ n ih =>
    intro γ x1 x2 x3 x4 x6 H locs ls hf hP hL hl
    rw [f_X8_readAhead_b23] at hf
    refine lv_iload hx hb dX8_readAhead_23 (lv_at hl 5 rfl) ?_
    refine lv_iload hx hb dX8_readAhead_25 (lv_at hl 4 rfl) ?_
    refine lv_icmp_ge (tgt := 65) hx hb dX8_readAhead_27 (by decide) (fun c1 => ?_) (fun c1 => ?_)
    · have hf := cx_t hf c1
      cases hf
      exact cx_vret hx hb hr hlocks hP hL dX8_readAhead_65
    · have hf := cx_f hf c1
      refine lv_iconst (v := 0) hx hb dX8_readAhead_30 (by decide) ?_
      refine lv_istore (lv' := [(7, .int 0), (0, .ref (ad 0)), (1, .int x1), (2, .int x2), (3, .int x3), (4, .int x4), (6, .int x6)]) hx hb dX8_readAhead_31 hl (by decide) rfl (fun ls hl => ?_)
      exact w_X8_readAhead_b33 C0 hC ih N γ x1 x2 x3 x4 x6 0 _ _ _ hf hP hL (lv_sub hl [1, 2, 3, 4, 5, 6, 0] rfl)
def f_X8_readAhead (N : Nat) (γ : GLS) (p0 : Int32) (p1 : Int32) (p2 : Int32) (p3 : Int32) (p4 : Int32) : Option (GLS) := (f_X1_copyFrom N γ.2.2.2.1 γ.2.2.1).bind fun r1 => cx_let ((γ.1, γ.2.1, γ.2.2.1, r1, γ.2.2.2.2)) fun z3 => cx_let ((z3.1, z3.2.1, z3.2.2.1, (va_up z3.2.2.2.1 0 (oI (z3.2.2.2.1 0) 10 p4)), z3.2.2.2.2)) fun z4 => f_X8_readAhead_b23 N N z4 p0 p1 p2 p3 0
set_option maxHeartbeats 4000000 in
set_option maxRecDepth 100000 in
theorem c_X8_readAhead {l : Launch} {G : va_G} {cA : Nat → ClassId} {lo : Nat} {ad : Nat → Nat} {sv : Nat → Option Nat} {P : GLS → Heap → Prop} (hC : cx G lo 262 ad (ceGL sv cA ad) P) {N : Nat} {γ : GLS} {p0 : Int32} {p1 : Int32} {p2 : Int32} {p3 : Int32} {p4 : Int32} {res : GLS} (hf : f_X8_readAhead N γ p0 p1 p2 p3 p4 = some res) : Met l yX8_readAhead (cW yX8_readAhead cX8_readAhead 8 none) rm_X8_readAhead (cP [.ref (ad 0), .int p0, .int p1, .int p2, .int p3, .int p4] (P γ) G cA) (cQ none (P res)) 0 0 (fun q => lo ≤ q) := by
  refine cx_met (by decide) (Nat.le_of_ble_eq_true rfl) (fun p e s m args below meth c ls C0 hP hl => ?_)
  have hl : lv_has ls 8 [(0, .ref (ad 0)), (1, .int p0), (2, .int p1), (3, .int p2), (4, .int p3), (5, .int p4)] := hl
  obtain ⟨⟨hx, hb, hml, hown, hts⟩, hr, hlocks, hK⟩ := id C0
  have hL : ∀ q ∈ ([] : List Loc), lo ≤ q.base := fun q h => nomatch h
  unfold f_X8_readAhead at hf
  refine lv_aload_n hx hb dX8_readAhead_0 rfl (lv_at hl 0 rfl) ?_
  refine g_GL_3 hC hP hx hb hts hown hK mw_31 dX8_readAhead_1 ?_
  refine lv_aload_n hx hb dX8_readAhead_4 rfl (lv_at hl 0 rfl) ?_
  refine g_GL_2 hC hP hx hb hts hown hK mw_30 dX8_readAhead_5 ?_
  obtain ⟨r1, q2, hf⟩ := cx_b hf
  refine cx_callV (As := [.ref ((adN ad) 0)]) (rest := []) ⟨hx, hb, hml, hown, hts⟩ (c_X1_copyFrom (fun z : CacS => cx_glQ hC (γ.1, γ.2.1, z, γ.2.2.2)) (fun z : CacS => cx_glN hC (γ.1, γ.2.1, γ.2.2.1, z, γ.2.2.2.2)) q2) (cwV 1 hts (gV mw_416 mw_168 mw_169 mw_29 mw_170) rfl rfl rfl hd_X1_copyFrom ⟨Nat.le_of_ble_eq_true rfl, Nat.le_of_ble_eq_true rfl⟩) hK (show P ((γ.1, γ.2.1, γ.2.2.1, γ.2.2.2.1, γ.2.2.2.2).1, (γ.1, γ.2.1, γ.2.2.1, γ.2.2.2.1, γ.2.2.2.2).2.1, γ.2.2.1, (γ.1, γ.2.1, γ.2.2.1, γ.2.2.2.1, γ.2.2.2.2).2.2.2) _ by (repeat rw [va_up_id]); exact hP) rfl (at_Cache (cx_glQ hC γ) (show P (γ.1, γ.2.1, γ.2.2.1, γ.2.2.2.1, γ.2.2.2.2) _ by (repeat rw [va_up_id]); exact hP)) rfl hl.1 rfl (Nat.le_of_ble_eq_true rfl) dX8_readAhead_8 ⟨Nat.zero_le _, Nat.zero_le _⟩ hL (fun H locs hP hL => ?_)
  obtain ⟨z3, ez3, hf⟩ := cx_letE hf
  replace hP : P z3 H := by rw [← ez3]; (first | exact hP | (simpa only [va_up_id] using hP))
  replace hP : P z3 H := by first | exact hP | (simpa only [va_up_id] using hP)
  refine lv_aload_n hx hb dX8_readAhead_11 rfl (lv_at hl 0 rfl) ?_
  refine g_GL_3 hC hP hx hb hts hown hK mw_31 dX8_readAhead_12 ?_
  refine lv_iload hx hb dX8_readAhead_15 (lv_at hl 5 rfl) ?_
  obtain ⟨z4, ez4, hf⟩ := cx_letE hf
  refine p_Cache_10 (cx_glQ hC z3) (show P (z3.1, z3.2.1, z3.2.2.1, z3.2.2.2.1, z3.2.2.2.2) _ by (repeat rw [va_up_id]); exact hP) hx hb hts hown hK mw_399 dX8_readAhead_17 hL (fun H locs hP hL => ?_)
  replace hP : P z4 H := by rw [← ez4]; exact hP
  refine lv_iconst (v := 0) hx hb dX8_readAhead_20 (by decide) ?_
  refine lv_istore (lv' := [(6, .int 0), (0, .ref (ad 0)), (1, .int p0), (2, .int p1), (3, .int p2), (4, .int p3), (5, .int p4)]) hx hb dX8_readAhead_21 hl (by decide) rfl (fun ls hl => ?_)
  exact w_X8_readAhead_b23 C0 hC N z4 p0 p1 p2 p3 0 _ _ _ hf hP hL (lv_sub hl [1, 2, 3, 4, 5, 0] rfl)
abbrev rm_X8_differenceAhead : Room := { frames := 0, cells := 0, slots := 0, locals := 0 }
theorem hd_X8_differenceAhead : yX8_differenceAhead.cls = RX8 ∧ yX8_differenceAhead.cls ≠ "java/lang/invoke/MethodHandle" ∧ yX8_differenceAhead.cls ≠ "java/lang/invoke/VarHandle" ∧ (parseMethodDescriptor yX8_differenceAhead.desc).map (fun d => d.parameters.length) = some 1 := by decide +kernel
def f_X8_differenceAhead (γ : GLS) (p0 : Int32) : Option (Int32) := if p0 = 0 then some ((γ.2.2.2.1 2).2 1 - (γ.2.2.1 2).2 1) else if p0 = 1 then some ((γ.2.2.2.1 2).2 2 - (γ.2.2.1 2).2 2) else if p0 = 2 then some ((γ.2.2.2.1 2).2 3 - (γ.2.2.1 2).2 3) else if p0 = 3 then some ((γ.2.2.2.1 2).2 6 - (γ.2.2.1 2).2 6) else if p0 = 4 then some ((γ.2.2.2.1 1).2 7 - (γ.2.2.1 1).2 7) else if p0 = 5 then some ((γ.2.2.2.1 0).2 14) else some ((γ.2.2.2.1 2).2 8 - (γ.2.2.1 2).2 8)
set_option maxHeartbeats 4000000 in
set_option maxRecDepth 100000 in
theorem c_X8_differenceAhead {l : Launch} {G : va_G} {cA : Nat → ClassId} {lo : Nat} {ad : Nat → Nat} {sv : Nat → Option Nat} {P : GLS → Heap → Prop} (hC : cx G lo 262 ad (ceGL sv cA ad) P) {γ : GLS} {p0 : Int32} {res : Int32} (hf : f_X8_differenceAhead γ p0 = some res) : Met l yX8_differenceAhead (cW yX8_differenceAhead cX8_differenceAhead 4 (some .int)) rm_X8_differenceAhead (cP [.ref (ad 0), .int p0] (P γ) G cA) (cQ (some (.int res)) (P γ)) 0 0 (fun q => lo ≤ q) := by
  refine cx_met (by decide) (Nat.le_of_ble_eq_true rfl) (fun p e s m args below meth c ls C0 hP hl => ?_)
  have hl : lv_has ls 4 [(0, .ref (ad 0)), (1, .int p0)] := hl
  obtain ⟨⟨hx, hb, hml, hown, hts⟩, hr, hlocks, hK⟩ := id C0
  have hL : ∀ q ∈ ([] : List Loc), lo ≤ q.base := fun q h => nomatch h
  unfold f_X8_differenceAhead at hf
  refine lv_aload_n hx hb dX8_differenceAhead_0 rfl (lv_at hl 0 rfl) ?_
  refine g_GL_3 hC hP hx hb hts hown hK mw_31 dX8_differenceAhead_1 ?_
  refine g_Cache_1 (cx_glQ hC γ) (show P (γ.1, γ.2.1, γ.2.2.1, γ.2.2.2.1, γ.2.2.2.2) _ by (repeat rw [va_up_id]); exact hP) hx hb hts hown hK mw_521 dX8_differenceAhead_4 ?_
  refine lv_astore_n (lv' := [(2, .ref ((adTal (adQ ad)) 0)), (0, .ref (ad 0)), (1, .int p0)]) hx hb dX8_differenceAhead_7 rfl hl (by decide) rfl (fun ls hl => ?_)
  refine lv_aload_n hx hb dX8_differenceAhead_8 rfl (lv_at hl 1 rfl) ?_
  refine g_GL_2 hC hP hx hb hts hown hK mw_30 dX8_differenceAhead_9 ?_
  refine g_Cache_1 (cx_glN hC γ) (show P (γ.1, γ.2.1, γ.2.2.1, γ.2.2.2) _ by (repeat rw [va_up_id]); exact hP) hx hb hts hown hK mw_521 dX8_differenceAhead_12 ?_
  refine lv_astore_n (lv' := [(3, .ref ((adTal (adN ad)) 0)), (2, .ref ((adTal (adQ ad)) 0)), (0, .ref (ad 0)), (1, .int p0)]) hx hb dX8_differenceAhead_15 rfl hl (by decide) rfl (fun ls hl => ?_)
  refine lv_iload_n hx hb dX8_differenceAhead_16 rfl (lv_at hl 3 rfl) ?_
  by_cases c1 : p0 = 0
  · have hf := cx_t hf c1
    refine lv_tableIn (off := 39) (tgt := 56) hx hb dX8_differenceAhead_17 (by rw [c1]; decide) (by rw [c1]; decide) (by rw [c1]; rfl) (by decide) ?_
    refine lv_aload_n hx hb dX8_differenceAhead_56 rfl (lv_at hl 1 rfl) ?_
    refine g_Tally_1 (cx_tal (cx_glQ hC γ) (γ.2.2.2.1)) (show P (γ.1, γ.2.1, γ.2.2.1, (va_up (γ.2.2.2.1) 2 (γ.2.2.2.1 2)), γ.2.2.2.2) _ by (repeat rw [va_up_id]); exact hP) hx hb hts hown hK mw_736 dX8_differenceAhead_57 ?_
    refine lv_aload_n hx hb dX8_differenceAhead_60 rfl (lv_at hl 0 rfl) ?_
    refine g_Tally_1 (cx_tal (cx_glN hC γ) (γ.2.2.1)) (show P (γ.1, γ.2.1, (va_up (γ.2.2.1) 2 (γ.2.2.1 2)), γ.2.2.2) _ by (repeat rw [va_up_id]); exact hP) hx hb hts hown hK mw_736 dX8_differenceAhead_61 ?_
    refine lv_isub hx hb dX8_differenceAhead_64 ?_
    cases hf
    exact cx_iret hx hb hr hlocks hP hL dX8_differenceAhead_65
  · have hf := cx_f hf c1
    by_cases c2 : p0 = 1
    · have hf := cx_t hf c2
      refine lv_tableIn (off := 49) (tgt := 66) hx hb dX8_differenceAhead_17 (by rw [c2]; decide) (by rw [c2]; decide) (by rw [c2]; rfl) (by decide) ?_
      refine lv_aload_n hx hb dX8_differenceAhead_66 rfl (lv_at hl 1 rfl) ?_
      refine g_Tally_2 (cx_tal (cx_glQ hC γ) (γ.2.2.2.1)) (show P (γ.1, γ.2.1, γ.2.2.1, (va_up (γ.2.2.2.1) 2 (γ.2.2.2.1 2)), γ.2.2.2.2) _ by (repeat rw [va_up_id]); exact hP) hx hb hts hown hK mw_737 dX8_differenceAhead_67 ?_
      refine lv_aload_n hx hb dX8_differenceAhead_70 rfl (lv_at hl 0 rfl) ?_
      refine g_Tally_2 (cx_tal (cx_glN hC γ) (γ.2.2.1)) (show P (γ.1, γ.2.1, (va_up (γ.2.2.1) 2 (γ.2.2.1 2)), γ.2.2.2) _ by (repeat rw [va_up_id]); exact hP) hx hb hts hown hK mw_737 dX8_differenceAhead_71 ?_
      refine lv_isub hx hb dX8_differenceAhead_74 ?_
      cases hf
      exact cx_iret hx hb hr hlocks hP hL dX8_differenceAhead_75
    · have hf := cx_f hf c2
      by_cases c3 : p0 = 2
      · have hf := cx_t hf c3
        refine lv_tableIn (off := 59) (tgt := 76) hx hb dX8_differenceAhead_17 (by rw [c3]; decide) (by rw [c3]; decide) (by rw [c3]; rfl) (by decide) ?_
        refine lv_aload_n hx hb dX8_differenceAhead_76 rfl (lv_at hl 1 rfl) ?_
        refine g_Tally_3 (cx_tal (cx_glQ hC γ) (γ.2.2.2.1)) (show P (γ.1, γ.2.1, γ.2.2.1, (va_up (γ.2.2.2.1) 2 (γ.2.2.2.1 2)), γ.2.2.2.2) _ by (repeat rw [va_up_id]); exact hP) hx hb hts hown hK mw_738 dX8_differenceAhead_77 ?_
        refine lv_aload_n hx hb dX8_differenceAhead_80 rfl (lv_at hl 0 rfl) ?_
        refine g_Tally_3 (cx_tal (cx_glN hC γ) (γ.2.2.1)) (show P (γ.1, γ.2.1, (va_up (γ.2.2.1) 2 (γ.2.2.1 2)), γ.2.2.2) _ by (repeat rw [va_up_id]); exact hP) hx hb hts hown hK mw_738 dX8_differenceAhead_81 ?_
        refine lv_isub hx hb dX8_differenceAhead_84 ?_
        cases hf
        exact cx_iret hx hb hr hlocks hP hL dX8_differenceAhead_85
      · have hf := cx_f hf c3
        by_cases c4 : p0 = 3
        · have hf := cx_t hf c4
          refine lv_tableIn (off := 69) (tgt := 86) hx hb dX8_differenceAhead_17 (by rw [c4]; decide) (by rw [c4]; decide) (by rw [c4]; rfl) (by decide) ?_
          refine lv_aload_n hx hb dX8_differenceAhead_86 rfl (lv_at hl 1 rfl) ?_
          refine g_Tally_6 (cx_tal (cx_glQ hC γ) (γ.2.2.2.1)) (show P (γ.1, γ.2.1, γ.2.2.1, (va_up (γ.2.2.2.1) 2 (γ.2.2.2.1 2)), γ.2.2.2.2) _ by (repeat rw [va_up_id]); exact hP) hx hb hts hown hK mw_739 dX8_differenceAhead_87 ?_
          refine lv_aload_n hx hb dX8_differenceAhead_90 rfl (lv_at hl 0 rfl) ?_
          refine g_Tally_6 (cx_tal (cx_glN hC γ) (γ.2.2.1)) (show P (γ.1, γ.2.1, (va_up (γ.2.2.1) 2 (γ.2.2.1 2)), γ.2.2.2) _ by (repeat rw [va_up_id]); exact hP) hx hb hts hown hK mw_739 dX8_differenceAhead_91 ?_
          refine lv_isub hx hb dX8_differenceAhead_94 ?_
          cases hf
          exact cx_iret hx hb hr hlocks hP hL dX8_differenceAhead_95
        · have hf := cx_f hf c4
          by_cases c5 : p0 = 4
          · have hf := cx_t hf c5
            refine lv_tableIn (off := 79) (tgt := 96) hx hb dX8_differenceAhead_17 (by rw [c5]; decide) (by rw [c5]; decide) (by rw [c5]; rfl) (by decide) ?_
            refine lv_aload_n hx hb dX8_differenceAhead_96 rfl (lv_at hl 2 rfl) ?_
            refine g_GL_3 hC hP hx hb hts hown hK mw_31 dX8_differenceAhead_97 ?_
            refine g_Cache_0 (cx_glQ hC γ) (show P (γ.1, γ.2.1, γ.2.2.1, γ.2.2.2.1, γ.2.2.2.2) _ by (repeat rw [va_up_id]); exact hP) hx hb hts hown hK mw_523 dX8_differenceAhead_100 ?_
            refine g_Blocks_7 (cx_blk (cx_glQ hC γ) (γ.2.2.2.1)) (show P (γ.1, γ.2.1, γ.2.2.1, (va_up (γ.2.2.2.1) 1 (γ.2.2.2.1 1)), γ.2.2.2.2) _ by (repeat rw [va_up_id]); exact hP) hx hb hts hown hK mw_526 dX8_differenceAhead_103 ?_
            refine lv_aload_n hx hb dX8_differenceAhead_106 rfl (lv_at hl 2 rfl) ?_
            refine g_GL_2 hC hP hx hb hts hown hK mw_30 dX8_differenceAhead_107 ?_
            refine g_Cache_0 (cx_glN hC γ) (show P (γ.1, γ.2.1, γ.2.2.1, γ.2.2.2) _ by (repeat rw [va_up_id]); exact hP) hx hb hts hown hK mw_523 dX8_differenceAhead_110 ?_
            refine g_Blocks_7 (cx_blk (cx_glN hC γ) (γ.2.2.1)) (show P (γ.1, γ.2.1, (va_up (γ.2.2.1) 1 (γ.2.2.1 1)), γ.2.2.2) _ by (repeat rw [va_up_id]); exact hP) hx hb hts hown hK mw_526 dX8_differenceAhead_113 ?_
            refine lv_isub hx hb dX8_differenceAhead_116 ?_
            cases hf
            exact cx_iret hx hb hr hlocks hP hL dX8_differenceAhead_117
          · have hf := cx_f hf c5
            by_cases c6 : p0 = 5
            · have hf := cx_t hf c6
              refine lv_tableIn (off := 101) (tgt := 118) hx hb dX8_differenceAhead_17 (by rw [c6]; decide) (by rw [c6]; decide) (by rw [c6]; rfl) (by decide) ?_
              refine lv_aload_n hx hb dX8_differenceAhead_118 rfl (lv_at hl 2 rfl) ?_
              refine g_GL_3 hC hP hx hb hts hown hK mw_31 dX8_differenceAhead_119 ?_
              refine g_Cache_14 (cx_glQ hC γ) (show P (γ.1, γ.2.1, γ.2.2.1, γ.2.2.2.1, γ.2.2.2.2) _ by (repeat rw [va_up_id]); exact hP) hx hb hts hown hK mw_527 dX8_differenceAhead_122 ?_
              cases hf
              exact cx_iret hx hb hr hlocks hP hL dX8_differenceAhead_125
            · have hf := cx_f hf c6
              refine lv_tableOut (tgt := 126) hx hb dX8_differenceAhead_17 (by have := lv_neT (a := 0) c1 (by decide); have := lv_neT (a := 1) c2 (by decide); have := lv_neT (a := 2) c3 (by decide); have := lv_neT (a := 3) c4 (by decide); have := lv_neT (a := 4) c5 (by decide); have := lv_neT (a := 5) c6 (by decide); omega) (by decide) ?_
              refine lv_aload_n hx hb dX8_differenceAhead_126 rfl (lv_at hl 1 rfl) ?_
              refine g_Tally_8 (cx_tal (cx_glQ hC γ) (γ.2.2.2.1)) (show P (γ.1, γ.2.1, γ.2.2.1, (va_up (γ.2.2.2.1) 2 (γ.2.2.2.1 2)), γ.2.2.2.2) _ by (repeat rw [va_up_id]); exact hP) hx hb hts hown hK mw_522 dX8_differenceAhead_127 ?_
              refine lv_aload_n hx hb dX8_differenceAhead_130 rfl (lv_at hl 0 rfl) ?_
              refine g_Tally_8 (cx_tal (cx_glN hC γ) (γ.2.2.1)) (show P (γ.1, γ.2.1, (va_up (γ.2.2.1) 2 (γ.2.2.1 2)), γ.2.2.2) _ by (repeat rw [va_up_id]); exact hP) hx hb hts hown hK mw_522 dX8_differenceAhead_131 ?_
              refine lv_isub hx hb dX8_differenceAhead_134 ?_
              cases hf
              exact cx_iret hx hb hr hlocks hP hL dX8_differenceAhead_135
abbrev rm_X8_ahead : Room := { frames := 6, cells := 0, slots := 0, locals := 148 }
theorem hd_X8_ahead : yX8_ahead.cls = RX8 ∧ yX8_ahead.cls ≠ "java/lang/invoke/MethodHandle" ∧ yX8_ahead.cls ≠ "java/lang/invoke/VarHandle" ∧ (parseMethodDescriptor yX8_ahead.desc).map (fun d => d.parameters.length) = some 5 := by decide +kernel
def f_X8_ahead (N : Nat) (γ : GLS) (p0 : Int32) (p1 : Int32) (p2 : Int32) (p3 : Int32) (p4 : Int32) : Option (Int32 × GLS) := (f_X8_needReadsAhead γ p0 p1 p2 p3).bind fun r1 => (f_X8_needRange p4 0 6).bind fun r3 => (f_X8_readAhead N γ p0 p1 p2 p3 ((γ.2.2.1 0).2 10)).bind fun r5 => (f_X8_differenceAhead r5 p4).bind fun r7 => some (r7, r5)
set_option maxHeartbeats 4000000 in
set_option maxRecDepth 100000 in
theorem c_X8_ahead {l : Launch} {G : va_G} {cA : Nat → ClassId} {lo : Nat} {ad : Nat → Nat} {sv : Nat → Option Nat} {P : GLS → Heap → Prop} (hC : cx G lo 262 ad (ceGL sv cA ad) P) {N : Nat} {γ : GLS} {p0 : Int32} {p1 : Int32} {p2 : Int32} {p3 : Int32} {p4 : Int32} {res : Int32 × GLS} (hf : f_X8_ahead N γ p0 p1 p2 p3 p4 = some res) : Met l yX8_ahead (cW yX8_ahead cX8_ahead 6 (some .int)) rm_X8_ahead (cP [.ref (ad 0), .int p0, .int p1, .int p2, .int p3, .int p4] (P γ) G cA) (cQ (some (.int res.1)) (P res.2)) 0 0 (fun q => lo ≤ q) := by
  refine cx_met (by decide) (Nat.le_of_ble_eq_true rfl) (fun p e s m args below meth c ls C0 hP hl => ?_)
  have hl : lv_has ls 6 [(0, .ref (ad 0)), (1, .int p0), (2, .int p1), (3, .int p2), (4, .int p3), (5, .int p4)] := hl
  obtain ⟨⟨hx, hb, hml, hown, hts⟩, hr, hlocks, hK⟩ := id C0
  have hL : ∀ q ∈ ([] : List Loc), lo ≤ q.base := fun q h => nomatch h
  unfold f_X8_ahead at hf
  refine lv_aload_n hx hb dX8_ahead_0 rfl (lv_at hl 0 rfl) ?_
  refine lv_iload_n hx hb dX8_ahead_1 rfl (lv_at hl 1 rfl) ?_
  refine lv_iload_n hx hb dX8_ahead_2 rfl (lv_at hl 2 rfl) ?_
  refine lv_iload_n hx hb dX8_ahead_3 rfl (lv_at hl 3 rfl) ?_
  refine lv_iload hx hb dX8_ahead_4 (lv_at hl 4 rfl) ?_
  obtain ⟨r1, q2, hf⟩ := cx_b hf
  refine cx_callV (As := [.int p0, .int p1, .int p2, .int p3]) (rest := []) ⟨hx, hb, hml, hown, hts⟩ (c_X8_needReadsAhead hC q2) (cwV 4 hts (gV mw_723 mw_724 mw_725 mw_11 mw_726) rfl rfl rfl hd_X8_needReadsAhead ⟨Nat.le_of_ble_eq_true rfl, Nat.le_of_ble_eq_true rfl⟩) hK hP rfl (at_GL hC hP) rfl hl.1 rfl (Nat.le_of_ble_eq_true rfl) dX8_ahead_6 ⟨Nat.zero_le _, Nat.zero_le _⟩ hL (fun H locs hP hL => ?_)
  replace hP : P γ H := by first | exact hP | (simpa only [va_up_id] using hP)
  refine lv_iload hx hb dX8_ahead_9 (lv_at hl 5 rfl) ?_
  refine lv_iconst (v := 0) hx hb dX8_ahead_11 (by decide) ?_
  refine lv_bipush (v := 6) hx hb dX8_ahead_12 (by decide) ?_
  obtain ⟨r3, q4, hf⟩ := cx_b hf
  refine cx_callS (As := [.int p4, .int 0, .int 6]) (rest := []) ⟨hx, hb, hml, hown, hts⟩ (c_X8_needRange (PH := P γ) q4) (cwS 3 hts (gS mw_153 mw_154 mw_11 mw_155) rfl rfl rfl hd_X8_needRange ⟨Nat.le_of_ble_eq_true rfl, Nat.le_of_ble_eq_true rfl⟩) hK hP rfl hl.1 rfl (Nat.le_of_ble_eq_true rfl) dX8_ahead_14 ⟨Nat.zero_le _, Nat.zero_le _⟩ hL (fun H locs hP hL => ?_)
  refine lv_aload_n hx hb dX8_ahead_17 rfl (lv_at hl 0 rfl) ?_
  refine lv_iload_n hx hb dX8_ahead_18 rfl (lv_at hl 1 rfl) ?_
  refine lv_iload_n hx hb dX8_ahead_19 rfl (lv_at hl 2 rfl) ?_
  refine lv_iload_n hx hb dX8_ahead_20 rfl (lv_at hl 3 rfl) ?_
  refine lv_iload hx hb dX8_ahead_21 (lv_at hl 4 rfl) ?_
  refine lv_aload_n hx hb dX8_ahead_23 rfl (lv_at hl 0 rfl) ?_
  refine g_GL_2 hC hP hx hb hts hown hK mw_30 dX8_ahead_24 ?_
  refine g_Cache_10 (cx_glN hC γ) (show P (γ.1, γ.2.1, γ.2.2.1, γ.2.2.2) _ by (repeat rw [va_up_id]); exact hP) hx hb hts hown hK mw_399 dX8_ahead_27 ?_
  obtain ⟨r5, q6, hf⟩ := cx_b hf
  refine cx_callV (As := [.int p0, .int p1, .int p2, .int p3, .int ((γ.2.2.1 0).2 10)]) (rest := []) ⟨hx, hb, hml, hown, hts⟩ (c_X8_readAhead hC q6) (cwV 5 hts (gV mw_728 mw_729 mw_730 mw_11 mw_731) rfl rfl rfl hd_X8_readAhead ⟨Nat.le_of_ble_eq_true rfl, Nat.le_of_ble_eq_true rfl⟩) hK hP rfl (at_GL hC hP) rfl hl.1 rfl (Nat.le_of_ble_eq_true rfl) dX8_ahead_30 ⟨Nat.zero_le _, Nat.zero_le _⟩ hL (fun H locs hP hL => ?_)
  replace hP : P r5 H := by first | exact hP | (simpa only [va_up_id] using hP)
  refine lv_aload_n hx hb dX8_ahead_33 rfl (lv_at hl 0 rfl) ?_
  refine lv_iload hx hb dX8_ahead_34 (lv_at hl 5 rfl) ?_
  obtain ⟨r7, q8, hf⟩ := cx_b hf
  refine cx_callV (As := [.int p4]) (rest := []) ⟨hx, hb, hml, hown, hts⟩ (c_X8_differenceAhead hC q8) (cwV 1 hts (gV mw_732 mw_733 mw_734 mw_11 mw_735) rfl rfl rfl hd_X8_differenceAhead ⟨Nat.le_of_ble_eq_true rfl, Nat.le_of_ble_eq_true rfl⟩) hK hP rfl (at_GL hC hP) rfl hl.1 rfl (Nat.le_of_ble_eq_true rfl) dX8_ahead_36 ⟨Nat.zero_le _, Nat.zero_le _⟩ hL (fun H locs hP hL => ?_)
  replace hP : P r5 H := by first | exact hP | (simpa only [va_up_id] using hP)
  cases hf
  exact cx_iret hx hb hr hlocks hP hL dX8_ahead_39
abbrev rm_X8_bestLength : Room := { frames := 6, cells := 0, slots := 0, locals := 148 }
theorem hd_X8_bestLength : yX8_bestLength.cls = RX8 ∧ yX8_bestLength.cls ≠ "java/lang/invoke/MethodHandle" ∧ yX8_bestLength.cls ≠ "java/lang/invoke/VarHandle" ∧ (parseMethodDescriptor yX8_bestLength.desc).map (fun d => d.parameters.length) = some 4 := by decide +kernel
def f_X8_bestLength_b18 (N : Nat) : Nat → GLS → Int32 → Int32 → Int32 → Int32 → Int32 → Int32 → Int32 → Option (Int32 × GLS)
  | 0, _, _, _, _, _, _, _, _ => none
  | n + 1, γ, x1, x2, x3, x4, x5, x6, x7 => if 20 < x7 then some (x5, γ) else (f_X8_readAhead N γ x1 x2 x3 x4 x7).bind fun r2 => (f_X8_differenceAhead r2 0).bind fun r4 => (f_X8_differenceAhead r2 1).bind fun r6 => if (r4 + r6) ≤ x6 then f_X8_bestLength_b18 N n r2 x1 x2 x3 x4 x5 x6 (x7 + 1) else f_X8_bestLength_b18 N n r2 x1 x2 x3 x4 x7 (r4 + r6) (x7 + 1)
set_option maxHeartbeats 4000000 in
set_option maxRecDepth 100000 in
theorem w_X8_bestLength_b18 {p : Program} {l : Launch} {e : Env} {s : State} {m : MethodId} {args : Array Value} {below : List Frame} {meth : Method} {c : Code} {G : va_G} {cA : Nat → ClassId} (C0 : cB p s m args meth c RX8 cX8_bestLength 9 (some .int) G cA) {lo : Nat} {ad : Nat → Nat} {sv : Nat → Option Nat} {P : GLS → Heap → Prop} (hC : cx G lo 262 ad (ceGL sv cA ad) P) {N : Nat} {res : Int32 × GLS} : ∀ (n : Nat) (γ : GLS) (x1 : Int32) (x2 : Int32) (x3 : Int32) (x4 : Int32) (x5 : Int32) (x6 : Int32) (x7 : Int32) (H : Heap) (locs : List Loc) (ls : Array Slot), f_X8_bestLength_b18 N n γ x1 x2 x3 x4 x5 x6 x7 = some res → P γ H → (∀ q ∈ locs, lo ≤ q.base) → lv_has ls 9 [(0, .ref (ad 0)), (1, .int x1), (2, .int x2), (3, .int x3), (4, .int x4), (5, .int x5), (6, .int x6), (7, .int x7)] → W p l e rm_X8_bestLength s m args below meth c H locs 0 0 (MQ below (cQ (some (.int res.1)) (P res.2)) args s 0 0 (fun q => lo ≤ q)) (F0 m 18 ls []) := by
  obtain ⟨⟨hx, hb, hml, hown, hts⟩, hr, hlocks, hK⟩ := id C0
  intro n
  induction n with
  | zero => intro γ x1 x2 x3 x4 x5 x6 x7 H locs ls
            exact fun hf => nomatch hf
  | succ n ih =>
    intro γ x1 x2 x3 x4 x5 x6 x7 H locs ls hf hP hL hl
    rw [f_X8_bestLength_b18] at hf
    refine lv_iload hx hb dX8_bestLength_18 (lv_at hl 7 rfl) ?_
    refine lv_bipush (v := 20) hx hb dX8_bestLength_20 (by decide) ?_
    refine lv_icmp_gt (tgt := 70) hx hb dX8_bestLength_22 (by decide) (fun c1 => ?_) (fun c1 => ?_)
    · have hf := cx_t hf c1
      refine lv_iload hx hb dX8_bestLength_70 (lv_at hl 5 rfl) ?_
      cases hf
      exact cx_iret hx hb hr hlocks hP hL dX8_bestLength_72
    · have hf := cx_f hf c1
      refine lv_aload_n hx hb dX8_bestLength_25 rfl (lv_at hl 0 rfl) ?_
      refine lv_iload_n hx hb dX8_bestLength_26 rfl (lv_at hl 1 rfl) ?_
      refine lv_iload_n hx hb dX8_bestLength_27 rfl (lv_at hl 2 rfl) ?_
      refine lv_iload_n hx hb dX8_bestLength_28 rfl (lv_at hl 3 rfl) ?_
      refine lv_iload hx hb dX8_bestLength_29 (lv_at hl 4 rfl) ?_
      refine lv_iload hx hb dX8_bestLength_31 (lv_at hl 7 rfl) ?_
      obtain ⟨r2, q3, hf⟩ := cx_b hf
      refine cx_callV (As := [.int x1, .int x2, .int x3, .int x4, .int x7]) (rest := []) ⟨hx, hb, hml, hown, hts⟩ (c_X8_readAhead hC q3) (cwV 5 hts (gV mw_728 mw_729 mw_730 mw_11 mw_731) rfl rfl rfl hd_X8_readAhead ⟨Nat.le_of_ble_eq_true rfl, Nat.le_of_ble_eq_true rfl⟩) hK hP rfl (at_GL hC hP) rfl hl.1 rfl (Nat.le_of_ble_eq_true rfl) dX8_bestLength_33 ⟨Nat.zero_le _, Nat.zero_le _⟩ hL (fun H locs hP hL => ?_)
      replace hP : P r2 H := by first | exact hP | (simpa only [va_up_id] using hP)
      refine lv_aload_n hx hb dX8_bestLength_36 rfl (lv_at hl 0 rfl) ?_
      refine lv_iconst (v := 0) hx hb dX8_bestLength_37 (by decide) ?_
      obtain ⟨r4, q5, hf⟩ := cx_b hf
      refine cx_callV (As := [.int 0]) (rest := []) ⟨hx, hb, hml, hown, hts⟩ (c_X8_differenceAhead hC q5) (cwV 1 hts (gV mw_732 mw_733 mw_734 mw_11 mw_735) rfl rfl rfl hd_X8_differenceAhead ⟨Nat.le_of_ble_eq_true rfl, Nat.le_of_ble_eq_true rfl⟩) hK hP rfl (at_GL hC hP) rfl hl.1 rfl (Nat.le_of_ble_eq_true rfl) dX8_bestLength_38 ⟨Nat.zero_le _, Nat.zero_le _⟩ hL (fun H locs hP hL => ?_)
      replace hP : P r2 H := by first | exact hP | (simpa only [va_up_id] using hP)
      refine lv_aload_n hx hb dX8_bestLength_41 rfl (lv_at hl 0 rfl) ?_
      refine lv_iconst (v := 1) hx hb dX8_bestLength_42 (by decide) ?_
      obtain ⟨r6, q7, hf⟩ := cx_b hf
      refine cx_callV (As := [.int 1]) (rest := [.int r4]) ⟨hx, hb, hml, hown, hts⟩ (c_X8_differenceAhead hC q7) (cwV 1 hts (gV mw_732 mw_733 mw_734 mw_11 mw_735) rfl rfl rfl hd_X8_differenceAhead ⟨Nat.le_of_ble_eq_true rfl, Nat.le_of_ble_eq_true rfl⟩) hK hP rfl (at_GL hC hP) rfl hl.1 rfl (Nat.le_of_ble_eq_true rfl) dX8_bestLength_43 ⟨Nat.zero_le _, Nat.zero_le _⟩ hL (fun H locs hP hL => ?_)
      replace hP : P r2 H := by first | exact hP | (simpa only [va_up_id] using hP)
      refine lv_iadd hx hb dX8_bestLength_46 ?_
      refine lv_istore (lv' := [(8, .int (r4 + r6)), (0, .ref (ad 0)), (1, .int x1), (2, .int x2), (3, .int x3), (4, .int x4), (5, .int x5), (6, .int x6), (7, .int x7)]) hx hb dX8_bestLength_47 hl (by decide) rfl (fun ls hl => ?_)
      refine lv_iload hx hb dX8_bestLength_49 (lv_at hl 0 rfl) ?_
      refine lv_iload hx hb dX8_bestLength_51 (lv_at hl 7 rfl) ?_
      refine lv_icmp_le (tgt := 64) hx hb dX8_bestLength_53 (by decide) (fun c8 => ?_) (fun c8 => ?_)
      · have hf := cx_t hf c8
        refine lv_iinc (v := (x7 + 1)) (lv' := [(7, .int (x7 + 1)), (8, .int (r4 + r6)), (0, .ref (ad 0)), (1, .int x1), (2, .int x2), (3, .int x3), (4, .int x4), (5, .int x5), (6, .int x6)]) hx hb dX8_bestLength_64 hl (k := 8) rfl rfl (by decide) rfl (fun ls hl => ?_)
        refine lv_goto (tgt := 18) hx hb dX8_bestLength_67 (by decide) ?_
        exact ih r2 x1 x2 x3 x4 x5 x6 (x7 + 1) _ _ _ hf hP hL (lv_sub hl [2, 3, 4, 5, 6, 7, 8, 0] rfl)
      · have hf := cx_f hf c8
        refine lv_iload hx hb dX8_bestLength_56 (lv_at hl 0 rfl) ?_
        refine lv_istore (lv' := [(6, .int (r4 + r6)), (8, .int (r4 + r6)), (0, .ref (ad 0)), (1, .int x1), (2, .int x2), (3, .int x3), (4, .int x4), (5, .int x5), (7, .int x7)]) hx hb dX8_bestLength_58 hl (by decide) rfl (fun ls hl => ?_)
        refine lv_iload hx hb dX8_bestLength_60 (lv_at hl 8 rfl) ?_
        refine lv_istore (lv' := [(5, .int x7), (6, .int (r4 + r6)), (8, .int (r4 + r6)), (0, .ref (ad 0)), (1, .int x1), (2, .int x2), (3, .int x3), (4, .int x4), (7, .int x7)]) hx hb dX8_bestLength_62 hl (by decide) rfl (fun ls hl => ?_)
        refine lv_iinc (v := (x7 + 1)) (lv' := [(7, .int (x7 + 1)), (5, .int x7), (6, .int (r4 + r6)), (8, .int (r4 + r6)), (0, .ref (ad 0)), (1, .int x1), (2, .int x2), (3, .int x3), (4, .int x4)]) hx hb dX8_bestLength_64 hl (k := 8) rfl rfl (by decide) rfl (fun ls hl => ?_)
        refine lv_goto (tgt := 18) hx hb dX8_bestLength_67 (by decide) ?_
        exact ih r2 x1 x2 x3 x4 x7 (r4 + r6) (x7 + 1) _ _ _ hf hP hL (lv_sub hl [4, 5, 6, 7, 8, 1, 2, 0] rfl)
def f_X8_bestLength (N : Nat) (γ : GLS) (p0 : Int32) (p1 : Int32) (p2 : Int32) (p3 : Int32) : Option (Int32 × GLS) := (f_X8_needReadsAhead γ p0 p1 p2 p3).bind fun r1 => f_X8_bestLength_b18 N N γ p0 p1 p2 p3 (-1) (-1) 2
set_option maxHeartbeats 4000000 in
set_option maxRecDepth 100000 in
theorem c_X8_bestLength {l : Launch} {G : va_G} {cA : Nat → ClassId} {lo : Nat} {ad : Nat → Nat} {sv : Nat → Option Nat} {P : GLS → Heap → Prop} (hC : cx G lo 262 ad (ceGL sv cA ad) P) {N : Nat} {γ : GLS} {p0 : Int32} {p1 : Int32} {p2 : Int32} {p3 : Int32} {res : Int32 × GLS} (hf : f_X8_bestLength N γ p0 p1 p2 p3 = some res) : Met l yX8_bestLength (cW yX8_bestLength cX8_bestLength 9 (some .int)) rm_X8_bestLength (cP [.ref (ad 0), .int p0, .int p1, .int p2, .int p3] (P γ) G cA) (cQ (some (.int res.1)) (P res.2)) 0 0 (fun q => lo ≤ q) := by
  refine cx_met (by decide) (Nat.le_of_ble_eq_true rfl) (fun p e s m args below meth c ls C0 hP hl => ?_)
  have hl : lv_has ls 9 [(0, .ref (ad 0)), (1, .int p0), (2, .int p1), (3, .int p2), (4, .int p3)] := hl
  obtain ⟨⟨hx, hb, hml, hown, hts⟩, hr, hlocks, hK⟩ := id C0
  have hL : ∀ q ∈ ([] : List Loc), lo ≤ q.base := fun q h => nomatch h
  unfold f_X8_bestLength at hf
  refine lv_aload_n hx hb dX8_bestLength_0 rfl (lv_at hl 0 rfl) ?_
  refine lv_iload_n hx hb dX8_bestLength_1 rfl (lv_at hl 1 rfl) ?_
  refine lv_iload_n hx hb dX8_bestLength_2 rfl (lv_at hl 2 rfl) ?_
  refine lv_iload_n hx hb dX8_bestLength_3 rfl (lv_at hl 3 rfl) ?_
  refine lv_iload hx hb dX8_bestLength_4 (lv_at hl 4 rfl) ?_
  obtain ⟨r1, q2, hf⟩ := cx_b hf
  refine cx_callV (As := [.int p0, .int p1, .int p2, .int p3]) (rest := []) ⟨hx, hb, hml, hown, hts⟩ (c_X8_needReadsAhead hC q2) (cwV 4 hts (gV mw_723 mw_724 mw_725 mw_11 mw_726) rfl rfl rfl hd_X8_needReadsAhead ⟨Nat.le_of_ble_eq_true rfl, Nat.le_of_ble_eq_true rfl⟩) hK hP rfl (at_GL hC hP) rfl hl.1 rfl (Nat.le_of_ble_eq_true rfl) dX8_bestLength_6 ⟨Nat.zero_le _, Nat.zero_le _⟩ hL (fun H locs hP hL => ?_)
  replace hP : P γ H := by first | exact hP | (simpa only [va_up_id] using hP)
  refine lv_iconst (v := (-1)) hx hb dX8_bestLength_9 (by decide) ?_
  refine lv_istore (lv' := [(5, .int (-1)), (0, .ref (ad 0)), (1, .int p0), (2, .int p1), (3, .int p2), (4, .int p3)]) hx hb dX8_bestLength_10 hl (by decide) rfl (fun ls hl => ?_)
  refine lv_iconst (v := (-1)) hx hb dX8_bestLength_12 (by decide) ?_
  refine lv_istore (lv' := [(6, .int (-1)), (5, .int (-1)), (0, .ref (ad 0)), (1, .int p0), (2, .int p1), (3, .int p2), (4, .int p3)]) hx hb dX8_bestLength_13 hl (by decide) rfl (fun ls hl => ?_)
  refine lv_iconst (v := 2) hx hb dX8_bestLength_15 (by decide) ?_
  refine lv_istore (lv' := [(7, .int 2), (6, .int (-1)), (5, .int (-1)), (0, .ref (ad 0)), (1, .int p0), (2, .int p1), (3, .int p2), (4, .int p3)]) hx hb dX8_bestLength_16 hl (by decide) rfl (fun ls hl => ?_)
  exact w_X8_bestLength_b18 C0 hC N γ p0 p1 p2 p3 (-1) (-1) 2 _ _ _ hf hP hL (lv_sub hl [3, 4, 5, 6, 7, 2, 1, 0] rfl)
abbrev rm_X8_undo : Room := { frames := 4, cells := 0, slots := 0, locals := 128 }
theorem hd_X8_undo : yX8_undo.cls = RX8 ∧ yX8_undo.cls ≠ "java/lang/invoke/MethodHandle" ∧ yX8_undo.cls ≠ "java/lang/invoke/VarHandle" ∧ (parseMethodDescriptor yX8_undo.desc).map (fun d => d.parameters.length) = some 0 := by decide +kernel
def f_X8_undo (N : Nat) (γ : GLS) : Option (Int32 × GLS) := (f_X3_takeBack N γ.2.2.2.2 γ.2.2.1).bind fun r1 => cx_let (((γ.1, γ.2.1, γ.2.2.1, γ.2.2.2.1, r1.2.1).1, (γ.1, γ.2.1, γ.2.2.1, γ.2.2.2.1, r1.2.1).2.1, r1.2.2, (γ.1, γ.2.1, γ.2.2.1, γ.2.2.2.1, r1.2.1).2.2.2)) fun z3 => if r1.1 = 0 then some ((-1), z3) else some (z3.2.2.2.2.1.2 2, z3)
set_option maxHeartbeats 4000000 in
set_option maxRecDepth 100000 in
theorem c_X8_undo {l : Launch} {G : va_G} {cA : Nat → ClassId} {lo : Nat} {ad : Nat → Nat} {sv : Nat → Option Nat} {P : GLS → Heap → Prop} (hC : cx G lo 262 ad (ceGL sv cA ad) P) {N : Nat} {γ : GLS} {res : Int32 × GLS} (hf : f_X8_undo N γ = some res) : Met l yX8_undo (cW yX8_undo cX8_undo 1 (some .int)) rm_X8_undo (cP [.ref (ad 0)] (P γ) G cA) (cQ (some (.int res.1)) (P res.2)) 0 0 (fun q => lo ≤ q) := by
  refine cx_met (by decide) (Nat.le_of_ble_eq_true rfl) (fun p e s m args below meth c ls C0 hP hl => ?_)
  have hl : lv_has ls 1 [(0, .ref (ad 0))] := hl
  obtain ⟨⟨hx, hb, hml, hown, hts⟩, hr, hlocks, hK⟩ := id C0
  have hL : ∀ q ∈ ([] : List Loc), lo ≤ q.base := fun q h => nomatch h
  unfold f_X8_undo at hf
  refine lv_aload_n hx hb dX8_undo_0 rfl (lv_at hl 0 rfl) ?_
  refine g_GL_4 hC hP hx hb hts hown hK mw_35 dX8_undo_1 ?_
  refine lv_aload_n hx hb dX8_undo_4 rfl (lv_at hl 0 rfl) ?_
  refine g_GL_2 hC hP hx hb hts hown hK mw_30 dX8_undo_5 ?_
  obtain ⟨r1, q2, hf⟩ := cx_b hf
  refine cx_callV (As := [.ref ((adN ad) 0)]) (rest := []) ⟨hx, hb, hml, hown, hts⟩ (c_X3_takeBack (fun z : CacS => cx_glH hC (γ.1, γ.2.1, z, γ.2.2.2)) (fun z : HisS => cx_glN hC (γ.1, γ.2.1, γ.2.2.1, γ.2.2.2.1, z)) q2) (cwV 1 hts (gV mw_580 mw_581 mw_582 mw_34 mw_583) rfl rfl rfl hd_X3_takeBack ⟨Nat.le_of_ble_eq_true rfl, Nat.le_of_ble_eq_true rfl⟩) hK (show P ((γ.1, γ.2.1, γ.2.2.1, γ.2.2.2.1, γ.2.2.2.2).1, (γ.1, γ.2.1, γ.2.2.1, γ.2.2.2.1, γ.2.2.2.2).2.1, γ.2.2.1, (γ.1, γ.2.1, γ.2.2.1, γ.2.2.2.1, γ.2.2.2.2).2.2.2) _ by (repeat rw [va_up_id]); exact hP) rfl (at_History (cx_glH hC γ) (show P (γ.1, γ.2.1, γ.2.2.1, γ.2.2.2.1, γ.2.2.2.2) _ by (repeat rw [va_up_id]); exact hP)) rfl hl.1 rfl (Nat.le_of_ble_eq_true rfl) dX8_undo_8 ⟨Nat.zero_le _, Nat.zero_le _⟩ hL (fun H locs hP hL => ?_)
  obtain ⟨z3, ez3, hf⟩ := cx_letE hf
  replace hP : P z3 H := by rw [← ez3]; exact hP
  replace hP : P z3 H := by first | exact hP | (simpa only [va_up_id] using hP)
  refine lv_if_eq (tgt := 24) hx hb dX8_undo_11 (by decide) (fun c4 => ?_) (fun c4 => ?_)
  · have hf := cx_t hf c4
    refine lv_iconst (v := (-1)) hx hb dX8_undo_24 (by decide) ?_
    cases hf
    exact cx_iret hx hb hr hlocks hP hL dX8_undo_25
  · have hf := cx_f hf c4
    refine lv_aload_n hx hb dX8_undo_14 rfl (lv_at hl 0 rfl) ?_
    refine g_GL_4 hC hP hx hb hts hown hK mw_35 dX8_undo_15 ?_
    refine g_History_2 (cx_glH hC z3) (show P (z3.1, z3.2.1, z3.2.2.1, z3.2.2.2.1, z3.2.2.2.2) _ by (repeat rw [va_up_id]); exact hP) hx hb hts hown hK mw_282 dX8_undo_18 ?_
    refine lv_goto (tgt := 25) hx hb dX8_undo_21 (by decide) ?_
    cases hf
    exact cx_iret hx hb hr hlocks hP hL dX8_undo_25
