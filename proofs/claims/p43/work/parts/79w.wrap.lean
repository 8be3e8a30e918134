abbrev rm_L_addClient : Room := { frames := 5, cells := 0, slots := 0, locals := 148 }
theorem hd_L_addClient : yL_addClient.cls = RL ∧ yL_addClient.cls ≠ "java/lang/invoke/MethodHandle" ∧ yL_addClient.cls ≠ "java/lang/invoke/VarHandle" ∧ (parseMethodDescriptor yL_addClient.desc).map (fun d => d.parameters.length) = some 2 := by decide +kernel
def f_L_addClient (N : Nat) (γ : GLS) (p1 : Int32) : Option (Int32 × GLS) := (f_X8_addClient N γ p1).bind fun r1 => some (r1.1, r1.2)
set_option maxHeartbeats 4000000 in
set_option maxRecDepth 100000 in
theorem c_L_addClient {l : Launch} {G : va_G} {cA : Nat → ClassId} {lo : Nat} {ad : Nat → Nat} {sv : Nat → Option Nat} {P : GLS → Heap → Prop} (hC : cx G lo 262 ad (ceGL sv cA ad) P) {N : Nat} {γ : GLS} {p1 : Int32} {res : Int32 × GLS} (hf : f_L_addClient N γ p1 = some res) : Met l yL_addClient (cWx yL_addClient cL_addClient 3 (some .int) [(0, 5, 6, 46), (0, 5, 10, 48)]) rm_L_addClient (cP [.ref (ad 0), .int p1] (P γ) G cA) (cQ (some (.int res.1)) (P res.2)) 0 0 (fun q => lo ≤ q) := by
  refine cx_metX (by decide) (Nat.le_of_ble_eq_true rfl) (fun p e s m args below meth c ls C0 hP hl => ?_)
  have hl : lv_has ls 3 [(0, .ref (ad 0)), (1, .int p1)] := hl
  obtain ⟨⟨hx, hb, hml, hown, hts⟩, hr, hlocks, hK⟩ := id C0
  have hL : ∀ q ∈ ([] : List Loc), lo ≤ q.base := fun q h => nomatch h
  unfold f_L_addClient at hf
  refine lv_aload_n hx hb dL_addClient_0 rfl (lv_at hl 0 rfl) ?_
  refine lv_iload_n hx hb dL_addClient_1 rfl (lv_at hl 1 rfl) ?_
  obtain ⟨r1, q2, hf⟩ := cx_b hf
  refine cx_callV (As := [.int p1]) (rest := []) ⟨hx, hb, hml, hown, hts⟩ (c_X8_addClient hC q2) (cwV 1 hts (gV mw_146 mw_147 mw_148 mw_11 mw_149) rfl rfl rfl hd_X8_addClient ⟨Nat.le_of_ble_eq_true rfl, Nat.le_of_ble_eq_true rfl⟩) hK hP rfl (at_GL hC hP) rfl hl.1 rfl (Nat.le_of_ble_eq_true rfl) dL_addClient_2 ⟨Nat.zero_le _, Nat.zero_le _⟩ hL (fun H locs hP hL => ?_)
  replace hP : P r1.2 H := by first | exact hP | (simpa only [va_up_id] using hP)
  cases hf
  exact cx_iret hx hb hr hlocks hP hL dL_addClient_5
abbrev rm_L_setWeight : Room := { frames := 5, cells := 0, slots := 0, locals := 149 }
theorem hd_L_setWeight : yL_setWeight.cls = RL ∧ yL_setWeight.cls ≠ "java/lang/invoke/MethodHandle" ∧ yL_setWeight.cls ≠ "java/lang/invoke/VarHandle" ∧ (parseMethodDescriptor yL_setWeight.desc).map (fun d => d.parameters.length) = some 3 := by decide +kernel
def f_L_setWeight (N : Nat) (γ : GLS) (p1 : Int32) (p2 : Int32) : Option (Int32 × GLS) := (f_X8_setWeight N γ p1 p2).bind fun r1 => some (r1.1, r1.2)
set_option maxHeartbeats 4000000 in
set_option maxRecDepth 100000 in
theorem c_L_setWeight {l : Launch} {G : va_G} {cA : Nat → ClassId} {lo : Nat} {ad : Nat → Nat} {sv : Nat → Option Nat} {P : GLS → Heap → Prop} (hC : cx G lo 262 ad (ceGL sv cA ad) P) {N : Nat} {γ : GLS} {p1 : Int32} {p2 : Int32} {res : Int32 × GLS} (hf : f_L_setWeight N γ p1 p2 = some res) : Met l yL_setWeight (cWx yL_setWeight cL_setWeight 4 (some .int) [(0, 6, 7, 53), (0, 6, 11, 46)]) rm_L_setWeight (cP [.ref (ad 0), .int p1, .int p2] (P γ) G cA) (cQ (some (.int res.1)) (P res.2)) 0 0 (fun q => lo ≤ q) := by
  refine cx_metX (by decide) (Nat.le_of_ble_eq_true rfl) (fun p e s m args below meth c ls C0 hP hl => ?_)
  have hl : lv_has ls 4 [(0, .ref (ad 0)), (1, .int p1), (2, .int p2)] := hl
  obtain ⟨⟨hx, hb, hml, hown, hts⟩, hr, hlocks, hK⟩ := id C0
  have hL : ∀ q ∈ ([] : List Loc), lo ≤ q.base := fun q h => nomatch h
  unfold f_L_setWeight at hf
  refine lv_aload_n hx hb dL_setWeight_0 rfl (lv_at hl 0 rfl) ?_
  refine lv_iload_n hx hb dL_setWeight_1 rfl (lv_at hl 1 rfl) ?_
  refine lv_iload_n hx hb dL_setWeight_2 rfl (lv_at hl 2 rfl) ?_
  obtain ⟨r1, q2, hf⟩ := cx_b hf
  refine cx_callV (As := [.int p1, .int p2]) (rest := []) ⟨hx, hb, hml, hown, hts⟩ (c_X8_setWeight hC q2) (cwV 2 hts (gV mw_587 mw_588 mw_589 mw_11 mw_590) rfl rfl rfl hd_X8_setWeight ⟨Nat.le_of_ble_eq_true rfl, Nat.le_of_ble_eq_true rfl⟩) hK hP rfl (at_GL hC hP) rfl hl.1 rfl (Nat.le_of_ble_eq_true rfl) dL_setWeight_3 ⟨Nat.zero_le _, Nat.zero_le _⟩ hL (fun H locs hP hL => ?_)
  replace hP : P r1.2 H := by first | exact hP | (simpa only [va_up_id] using hP)
  cases hf
  exact cx_iret hx hb hr hlocks hP hL dL_setWeight_6
abbrev rm_L_set : Room := { frames := 5, cells := 0, slots := 0, locals := 149 }
theorem hd_L_set : yL_set.cls = RL ∧ yL_set.cls ≠ "java/lang/invoke/MethodHandle" ∧ yL_set.cls ≠ "java/lang/invoke/VarHandle" ∧ (parseMethodDescriptor yL_set.desc).map (fun d => d.parameters.length) = some 3 := by decide +kernel
def f_L_set (N : Nat) (γ : GLS) (p1 : Int32) (p2 : Int32) : Option (Int32 × GLS) := (f_X8_set N γ p1 p2).bind fun r1 => some (r1.1, r1.2)
set_option maxHeartbeats 4000000 in
set_option maxRecDepth 100000 in
theorem c_L_set {l : Launch} {G : va_G} {cA : Nat → ClassId} {lo : Nat} {ad : Nat → Nat} {sv : Nat → Option Nat} {P : GLS → Heap → Prop} (hC : cx G lo 262 ad (ceGL sv cA ad) P) {N : Nat} {γ : GLS} {p1 : Int32} {p2 : Int32} {res : Int32 × GLS} (hf : f_L_set N γ p1 p2 = some res) : Met l yL_set (cWx yL_set cL_set 4 (some .int) [(0, 6, 7, 46)]) rm_L_set (cP [.ref (ad 0), .int p1, .int p2] (P γ) G cA) (cQ (some (.int res.1)) (P res.2)) 0 0 (fun q => lo ≤ q) := by
  refine cx_metX (by decide) (Nat.le_of_ble_eq_true rfl) (fun p e s m args below meth c ls C0 hP hl => ?_)
  have hl : lv_has ls 4 [(0, .ref (ad 0)), (1, .int p1), (2, .int p2)] := hl
  obtain ⟨⟨hx, hb, hml, hown, hts⟩, hr, hlocks, hK⟩ := id C0
  have hL : ∀ q ∈ ([] : List Loc), lo ≤ q.base := fun q h => nomatch h
  unfold f_L_set at hf
  refine lv_aload_n hx hb dL_set_0 rfl (lv_at hl 0 rfl) ?_
  refine lv_iload_n hx hb dL_set_1 rfl (lv_at hl 1 rfl) ?_
  refine lv_iload_n hx hb dL_set_2 rfl (lv_at hl 2 rfl) ?_
  obtain ⟨r1, q2, hf⟩ := cx_b hf
  refine cx_callV (As := [.int p1, .int p2]) (rest := []) ⟨hx, hb, hml, hown, hts⟩ (c_X8_set hC q2) (cwV 2 hts (gV mw_263 mw_264 mw_265 mw_11 mw_266) rfl rfl rfl hd_X8_set ⟨Nat.le_of_ble_eq_true rfl, Nat.le_of_ble_eq_true rfl⟩) hK hP rfl (at_GL hC hP) rfl hl.1 rfl (Nat.le_of_ble_eq_true rfl) dL_set_3 ⟨Nat.zero_le _, Nat.zero_le _⟩ hL (fun H locs hP hL => ?_)
  replace hP : P r1.2 H := by first | exact hP | (simpa only [va_up_id] using hP)
  cases hf
  exact cx_iret hx hb hr hlocks hP hL dL_set_6
abbrev rm_L_shape : Room := { frames := 5, cells := 0, slots := 0, locals := 149 }
theorem hd_L_shape : yL_shape.cls = RL ∧ yL_shape.cls ≠ "java/lang/invoke/MethodHandle" ∧ yL_shape.cls ≠ "java/lang/invoke/VarHandle" ∧ (parseMethodDescriptor yL_shape.desc).map (fun d => d.parameters.length) = some 3 := by decide +kernel
def f_L_shape (N : Nat) (γ : GLS) (p1 : Int32) (p2 : Int32) : Option (Int32 × GLS) := (f_X8_shape N γ p1 p2).bind fun r1 => some (r1.1, r1.2)
set_option maxHeartbeats 4000000 in
set_option maxRecDepth 100000 in
theorem c_L_shape {l : Launch} {G : va_G} {cA : Nat → ClassId} {lo : Nat} {ad : Nat → Nat} {sv : Nat → Option Nat} {P : GLS → Heap → Prop} (hC : cx G lo 262 ad (ceGL sv cA ad) P) {N : Nat} {γ : GLS} {p1 : Int32} {p2 : Int32} {res : Int32 × GLS} (hf : f_L_shape N γ p1 p2 = some res) : Met l yL_shape (cWx yL_shape cL_shape 4 (some .int) [(0, 6, 7, 46)]) rm_L_shape (cP [.ref (ad 0), .int p1, .int p2] (P γ) G cA) (cQ (some (.int res.1)) (P res.2)) 0 0 (fun q => lo ≤ q) := by
  refine cx_metX (by decide) (Nat.le_of_ble_eq_true rfl) (fun p e s m args below meth c ls C0 hP hl => ?_)
  have hl : lv_has ls 4 [(0, .ref (ad 0)), (1, .int p1), (2, .int p2)] := hl
  obtain ⟨⟨hx, hb, hml, hown, hts⟩, hr, hlocks, hK⟩ := id C0
  have hL : ∀ q ∈ ([] : List Loc), lo ≤ q.base := fun q h => nomatch h
  unfold f_L_shape at hf
  refine lv_aload_n hx hb dL_shape_0 rfl (lv_at hl 0 rfl) ?_
  refine lv_iload_n hx hb dL_shape_1 rfl (lv_at hl 1 rfl) ?_
  refine lv_iload_n hx hb dL_shape_2 rfl (lv_at hl 2 rfl) ?_
  obtain ⟨r1, q2, hf⟩ := cx_b hf
  refine cx_callV (As := [.int p1, .int p2]) (rest := []) ⟨hx, hb, hml, hown, hts⟩ (c_X8_shape hC q2) (cwV 2 hts (gV mw_231 mw_232 mw_233 mw_11 mw_234) rfl rfl rfl hd_X8_shape ⟨Nat.le_of_ble_eq_true rfl, Nat.le_of_ble_eq_true rfl⟩) hK hP rfl (at_GL hC hP) rfl hl.1 rfl (Nat.le_of_ble_eq_true rfl) dL_shape_3 ⟨Nat.zero_le _, Nat.zero_le _⟩ hL (fun H locs hP hL => ?_)
  replace hP : P r1.2 H := by first | exact hP | (simpa only [va_up_id] using hP)
  cases hf
  exact cx_iret hx hb hr hlocks hP hL dL_shape_6
abbrev rm_L_count : Room := { frames := 3, cells := 0, slots := 0, locals := 64 }
theorem hd_L_count : yL_count.cls = RL ∧ yL_count.cls ≠ "java/lang/invoke/MethodHandle" ∧ yL_count.cls ≠ "java/lang/invoke/VarHandle" ∧ (parseMethodDescriptor yL_count.desc).map (fun d => d.parameters.length) = some 2 := by decide +kernel
def f_L_count (N : Nat) (γ : GLS) (p1 : Int32) : Option (Int32) := (f_X8_count N γ p1).bind fun r1 => some r1
set_option maxHeartbeats 4000000 in
set_option maxRecDepth 100000 in
theorem c_L_count {l : Launch} {G : va_G} {cA : Nat → ClassId} {lo : Nat} {ad : Nat → Nat} {sv : Nat → Option Nat} {P : GLS → Heap → Prop} (hC : cx G lo 262 ad (ceGL sv cA ad) P) {N : Nat} {γ : GLS} {p1 : Int32} {res : Int32} (hf : f_L_count N γ p1 = some res) : Met l yL_count (cWx yL_count cL_count 3 (some .int) [(0, 5, 6, 46)]) rm_L_count (cP [.ref (ad 0), .int p1] (P γ) G cA) (cQ (some (.int res)) (P γ)) 0 0 (fun q => lo ≤ q) := by
  refine cx_metX (by decide) (Nat.le_of_ble_eq_true rfl) (fun p e s m args below meth c ls C0 hP hl => ?_)
  have hl : lv_has ls 3 [(0, .ref (ad 0)), (1, .int p1)] := hl
  obtain ⟨⟨hx, hb, hml, hown, hts⟩, hr, hlocks, hK⟩ := id C0
  have hL : ∀ q ∈ ([] : List Loc), lo ≤ q.base := fun q h => nomatch h
  unfold f_L_count at hf
  refine lv_aload_n hx hb dL_count_0 rfl (lv_at hl 0 rfl) ?_
  refine lv_iload_n hx hb dL_count_1 rfl (lv_at hl 1 rfl) ?_
  obtain ⟨r1, q2, hf⟩ := cx_b hf
  refine cx_callV (As := [.int p1]) (rest := []) ⟨hx, hb, hml, hown, hts⟩ (c_X8_count hC q2) (cwV 1 hts (gV mw_278 mw_279 mw_280 mw_11 mw_281) rfl rfl rfl hd_X8_count ⟨Nat.le_of_ble_eq_true rfl, Nat.le_of_ble_eq_true rfl⟩) hK hP rfl (at_GL hC hP) rfl hl.1 rfl (Nat.le_of_ble_eq_true rfl) dL_count_2 ⟨Nat.zero_le _, Nat.zero_le _⟩ hL (fun H locs hP hL => ?_)
  replace hP : P γ H := by first | exact hP | (simpa only [va_up_id] using hP)
  cases hf
  exact cx_iret hx hb hr hlocks hP hL dL_count_5
abbrev rm_L_client : Room := { frames := 5, cells := 0, slots := 0, locals := 111 }
theorem hd_L_client : yL_client.cls = RL ∧ yL_client.cls ≠ "java/lang/invoke/MethodHandle" ∧ yL_client.cls ≠ "java/lang/invoke/VarHandle" ∧ (parseMethodDescriptor yL_client.desc).map (fun d => d.parameters.length) = some 3 := by decide +kernel
def f_L_client (N : Nat) (γ : GLS) (p1 : Int32) (p2 : Int32) : Option (Int32) := (f_X8_client N γ p1 p2).bind fun r1 => some r1
set_option maxHeartbeats 4000000 in
set_option maxRecDepth 100000 in
theorem c_L_client {l : Launch} {G : va_G} {cA : Nat → ClassId} {lo : Nat} {ad : Nat → Nat} {sv : Nat → Option Nat} {P : GLS → Heap → Prop} (hC : cx G lo 262 ad (ceGL sv cA ad) P) {N : Nat} {γ : GLS} {p1 : Int32} {p2 : Int32} {res : Int32} (hf : f_L_client N γ p1 p2 = some res) : Met l yL_client (cWx yL_client cL_client 4 (some .int) [(0, 6, 7, 53), (0, 6, 11, 46)]) rm_L_client (cP [.ref (ad 0), .int p1, .int p2] (P γ) G cA) (cQ (some (.int res)) (P γ)) 0 0 (fun q => lo ≤ q) := by
  refine cx_metX (by decide) (Nat.le_of_ble_eq_true rfl) (fun p e s m args below meth c ls C0 hP hl => ?_)
  have hl : lv_has ls 4 [(0, .ref (ad 0)), (1, .int p1), (2, .int p2)] := hl
  obtain ⟨⟨hx, hb, hml, hown, hts⟩, hr, hlocks, hK⟩ := id C0
  have hL : ∀ q ∈ ([] : List Loc), lo ≤ q.base := fun q h => nomatch h
  unfold f_L_client at hf
  refine lv_aload_n hx hb dL_client_0 rfl (lv_at hl 0 rfl) ?_
  refine lv_iload_n hx hb dL_client_1 rfl (lv_at hl 1 rfl) ?_
  refine lv_iload_n hx hb dL_client_2 rfl (lv_at hl 2 rfl) ?_
  obtain ⟨r1, q2, hf⟩ := cx_b hf
  refine cx_callV (As := [.int p1, .int p2]) (rest := []) ⟨hx, hb, hml, hown, hts⟩ (c_X8_client hC q2) (cwV 2 hts (gV mw_305 mw_306 mw_307 mw_11 mw_308) rfl rfl rfl hd_X8_client ⟨Nat.le_of_ble_eq_true rfl, Nat.le_of_ble_eq_true rfl⟩) hK hP rfl (at_GL hC hP) rfl hl.1 rfl (Nat.le_of_ble_eq_true rfl) dL_client_3 ⟨Nat.zero_le _, Nat.zero_le _⟩ hL (fun H locs hP hL => ?_)
  replace hP : P γ H := by first | exact hP | (simpa only [va_up_id] using hP)
  cases hf
  exact cx_iret hx hb hr hlocks hP hL dL_client_6
abbrev rm_L_block : Room := { frames := 4, cells := 0, slots := 0, locals := 88 }
theorem hd_L_block : yL_block.cls = RL ∧ yL_block.cls ≠ "java/lang/invoke/MethodHandle" ∧ yL_block.cls ≠ "java/lang/invoke/VarHandle" ∧ (parseMethodDescriptor yL_block.desc).map (fun d => d.parameters.length) = some 3 := by decide +kernel
def f_L_block (N : Nat) (γ : GLS) (p1 : Int32) (p2 : Int32) : Option (Int32) := (f_X8_block N γ p1 p2).bind fun r1 => some r1
set_option maxHeartbeats 4000000 in
set_option maxRecDepth 100000 in
theorem c_L_block {l : Launch} {G : va_G} {cA : Nat → ClassId} {lo : Nat} {ad : Nat → Nat} {sv : Nat → Option Nat} {P : GLS → Heap → Prop} (hC : cx G lo 262 ad (ceGL sv cA ad) P) {N : Nat} {γ : GLS} {p1 : Int32} {p2 : Int32} {res : Int32} (hf : f_L_block N γ p1 p2 = some res) : Met l yL_block (cWx yL_block cL_block 4 (some .int) [(0, 6, 7, 46)]) rm_L_block (cP [.ref (ad 0), .int p1, .int p2] (P γ) G cA) (cQ (some (.int res)) (P γ)) 0 0 (fun q => lo ≤ q) := by
  refine cx_metX (by decide) (Nat.le_of_ble_eq_true rfl) (fun p e s m args below meth c ls C0 hP hl => ?_)
  have hl : lv_has ls 4 [(0, .ref (ad 0)), (1, .int p1), (2, .int p2)] := hl
  obtain ⟨⟨hx, hb, hml, hown, hts⟩, hr, hlocks, hK⟩ := id C0
  have hL : ∀ q ∈ ([] : List Loc), lo ≤ q.base := fun q h => nomatch h
  unfold f_L_block at hf
  refine lv_aload_n hx hb dL_block_0 rfl (lv_at hl 0 rfl) ?_
  refine lv_iload_n hx hb dL_block_1 rfl (lv_at hl 1 rfl) ?_
  refine lv_iload_n hx hb dL_block_2 rfl (lv_at hl 2 rfl) ?_
  obtain ⟨r1, q2, hf⟩ := cx_b hf
  refine cx_callV (As := [.int p1, .int p2]) (rest := []) ⟨hx, hb, hml, hown, hts⟩ (c_X8_block hC q2) (cwV 2 hts (gV mw_356 mw_357 mw_358 mw_11 mw_359) rfl rfl rfl hd_X8_block ⟨Nat.le_of_ble_eq_true rfl, Nat.le_of_ble_eq_true rfl⟩) hK hP rfl (at_GL hC hP) rfl hl.1 rfl (Nat.le_of_ble_eq_true rfl) dL_block_3 ⟨Nat.zero_le _, Nat.zero_le _⟩ hL (fun H locs hP hL => ?_)
  replace hP : P γ H := by first | exact hP | (simpa only [va_up_id] using hP)
  cases hf
  exact cx_iret hx hb hr hlocks hP hL dL_block_6
abbrev rm_L_at_ : Room := { frames := 2, cells := 0, slots := 0, locals := 43 }
theorem hd_L_at_ : yL_at_.cls = RL ∧ yL_at_.cls ≠ "java/lang/invoke/MethodHandle" ∧ yL_at_.cls ≠ "java/lang/invoke/VarHandle" ∧ (parseMethodDescriptor yL_at_.desc).map (fun d => d.parameters.length) = some 3 := by decide +kernel
def f_L_at_ (γ : GLS) (p1 : Int32) (p2 : Int32) : Option (Int32) := (f_X8_at γ p1 p2).bind fun r1 => some r1
set_option maxHeartbeats 4000000 in
set_option maxRecDepth 100000 in
theorem c_L_at_ {l : Launch} {G : va_G} {cA : Nat → ClassId} {lo : Nat} {ad : Nat → Nat} {sv : Nat → Option Nat} {P : GLS → Heap → Prop} (hC : cx G lo 262 ad (ceGL sv cA ad) P) {γ : GLS} {p1 : Int32} {p2 : Int32} {res : Int32} (hf : f_L_at_ γ p1 p2 = some res) : Met l yL_at_ (cWx yL_at_ cL_at_ 4 (some .int) [(0, 6, 7, 53)]) rm_L_at_ (cP [.ref (ad 0), .int p1, .int p2] (P γ) G cA) (cQ (some (.int res)) (P γ)) 0 0 (fun q => lo ≤ q) := by
  refine cx_metX (by decide) (Nat.le_of_ble_eq_true rfl) (fun p e s m args below meth c ls C0 hP hl => ?_)
  have hl : lv_has ls 4 [(0, .ref (ad 0)), (1, .int p1), (2, .int p2)] := hl
  obtain ⟨⟨hx, hb, hml, hown, hts⟩, hr, hlocks, hK⟩ := id C0
  have hL : ∀ q ∈ ([] : List Loc), lo ≤ q.base := fun q h => nomatch h
  unfold f_L_at_ at hf
  refine lv_aload_n hx hb dL_at__0 rfl (lv_at hl 0 rfl) ?_
  refine lv_iload_n hx hb dL_at__1 rfl (lv_at hl 1 rfl) ?_
  refine lv_iload_n hx hb dL_at__2 rfl (lv_at hl 2 rfl) ?_
  obtain ⟨r1, q2, hf⟩ := cx_b hf
  refine cx_callV (As := [.int p1, .int p2]) (rest := []) ⟨hx, hb, hml, hown, hts⟩ (c_X8_at hC q2) (cwV 2 hts (gV mw_602 mw_603 mw_604 mw_11 mw_605) rfl rfl rfl hd_X8_at ⟨Nat.le_of_ble_eq_true rfl, Nat.le_of_ble_eq_true rfl⟩) hK hP rfl (at_GL hC hP) rfl hl.1 rfl (Nat.le_of_ble_eq_true rfl) dL_at__3 ⟨Nat.zero_le _, Nat.zero_le _⟩ hL (fun H locs hP hL => ?_)
  replace hP : P γ H := by first | exact hP | (simpa only [va_up_id] using hP)
  cases hf
  exact cx_iret hx hb hr hlocks hP hL dL_at__6
abbrev rm_L_read : Room := { frames := 6, cells := 0, slots := 0, locals := 149 }
theorem hd_L_read : yL_read.cls = RL ∧ yL_read.cls ≠ "java/lang/invoke/MethodHandle" ∧ yL_read.cls ≠ "java/lang/invoke/VarHandle" ∧ (parseMethodDescriptor yL_read.desc).map (fun d => d.parameters.length) = some 3 := by decide +kernel
def f_L_read (N : Nat) (γ : GLS) (p1 : Int32) (p2 : Int32) : Option (Int32 × GLS) := (f_X8_read N γ p1 p2).bind fun r1 => some (r1.1, r1.2)
set_option maxHeartbeats 4000000 in
set_option maxRecDepth 100000 in
theorem c_L_read {l : Launch} {G : va_G} {cA : Nat → ClassId} {lo : Nat} {ad : Nat → Nat} {sv : Nat → Option Nat} {P : GLS → Heap → Prop} (hC : cx G lo 262 ad (ceGL sv cA ad) P) {N : Nat} {γ : GLS} {p1 : Int32} {p2 : Int32} {res : Int32 × GLS} (hf : f_L_read N γ p1 p2 = some res) : Met l yL_read (cWx yL_read cL_read 4 (some .int) [(0, 6, 7, 53), (0, 6, 11, 46)]) rm_L_read (cP [.ref (ad 0), .int p1, .int p2] (P γ) G cA) (cQ (some (.int res.1)) (P res.2)) 0 0 (fun q => lo ≤ q) := by
  refine cx_metX (by decide) (Nat.le_of_ble_eq_true rfl) (fun p e s m args below meth c ls C0 hP hl => ?_)
  have hl : lv_has ls 4 [(0, .ref (ad 0)), (1, .int p1), (2, .int p2)] := hl
  obtain ⟨⟨hx, hb, hml, hown, hts⟩, hr, hlocks, hK⟩ := id C0
  have hL : ∀ q ∈ ([] : List Loc), lo ≤ q.base := fun q h => nomatch h
  unfold f_L_read at hf
  refine lv_aload_n hx hb dL_read_0 rfl (lv_at hl 0 rfl) ?_
  refine lv_iload_n hx hb dL_read_1 rfl (lv_at hl 1 rfl) ?_
  refine lv_iload_n hx hb dL_read_2 rfl (lv_at hl 2 rfl) ?_
  obtain ⟨r1, q2, hf⟩ := cx_b hf
  refine cx_callV (As := [.int p1, .int p2]) (rest := []) ⟨hx, hb, hml, hown, hts⟩ (c_X8_read hC q2) (cwV 2 hts (gV mw_548 mw_549 mw_550 mw_11 mw_551) rfl rfl rfl hd_X8_read ⟨Nat.le_of_ble_eq_true rfl, Nat.le_of_ble_eq_true rfl⟩) hK hP rfl (at_GL hC hP) rfl hl.1 rfl (Nat.le_of_ble_eq_true rfl) dL_read_3 ⟨Nat.zero_le _, Nat.zero_le _⟩ hL (fun H locs hP hL => ?_)
  replace hP : P r1.2 H := by first | exact hP | (simpa only [va_up_id] using hP)
  cases hf
  exact cx_iret hx hb hr hlocks hP hL dL_read_6
abbrev rm_L_write : Room := { frames := 6, cells := 0, slots := 0, locals := 151 }
theorem hd_L_write : yL_write.cls = RL ∧ yL_write.cls ≠ "java/lang/invoke/MethodHandle" ∧ yL_write.cls ≠ "java/lang/invoke/VarHandle" ∧ (parseMethodDescriptor yL_write.desc).map (fun d => d.parameters.length) = some 4 := by decide +kernel
def f_L_write (N : Nat) (γ : GLS) (p1 : Int32) (p2 : Int32) (p3 : Int32) : Option (Int32 × GLS) := (f_X8_write N γ p1 p2 p3).bind fun r1 => some (r1.1, r1.2)
set_option maxHeartbeats 4000000 in
set_option maxRecDepth 100000 in
theorem c_L_write {l : Launch} {G : va_G} {cA : Nat → ClassId} {lo : Nat} {ad : Nat → Nat} {sv : Nat → Option Nat} {P : GLS → Heap → Prop} (hC : cx G lo 262 ad (ceGL sv cA ad) P) {N : Nat} {γ : GLS} {p1 : Int32} {p2 : Int32} {p3 : Int32} {res : Int32 × GLS} (hf : f_L_write N γ p1 p2 p3 = some res) : Met l yL_write (cWx yL_write cL_write 5 (some .int) [(0, 7, 8, 53), (0, 7, 13, 46)]) rm_L_write (cP [.ref (ad 0), .int p1, .int p2, .int p3] (P γ) G cA) (cQ (some (.int res.1)) (P res.2)) 0 0 (fun q => lo ≤ q) := by
  refine cx_metX (by decide) (Nat.le_of_ble_eq_true rfl) (fun p e s m args below meth c ls C0 hP hl => ?_)
  have hl : lv_has ls 5 [(0, .ref (ad 0)), (1, .int p1), (2, .int p2), (3, .int p3)] := hl
  obtain ⟨⟨hx, hb, hml, hown, hts⟩, hr, hlocks, hK⟩ := id C0
  have hL : ∀ q ∈ ([] : List Loc), lo ≤ q.base := fun q h => nomatch h
  unfold f_L_write at hf
  refine lv_aload_n hx hb dL_write_0 rfl (lv_at hl 0 rfl) ?_
  refine lv_iload_n hx hb dL_write_1 rfl (lv_at hl 1 rfl) ?_
  refine lv_iload_n hx hb dL_write_2 rfl (lv_at hl 2 rfl) ?_
  refine lv_iload_n hx hb dL_write_3 rfl (lv_at hl 3 rfl) ?_
  obtain ⟨r1, q2, hf⟩ := cx_b hf
  refine cx_callV (As := [.int p1, .int p2, .int p3]) (rest := []) ⟨hx, hb, hml, hown, hts⟩ (c_X8_write hC q2) (cwV 3 hts (gV mw_532 mw_533 mw_534 mw_11 mw_535) rfl rfl rfl hd_X8_write ⟨Nat.le_of_ble_eq_true rfl, Nat.le_of_ble_eq_true rfl⟩) hK hP rfl (at_GL hC hP) rfl hl.1 rfl (Nat.le_of_ble_eq_true rfl) dL_write_4 ⟨Nat.zero_le _, Nat.zero_le _⟩ hL (fun H locs hP hL => ?_)
  replace hP : P r1.2 H := by first | exact hP | (simpa only [va_up_id] using hP)
  cases hf
  exact cx_iret hx hb hr hlocks hP hL dL_write_7
abbrev rm_L_flush : Room := { frames := 5, cells := 0, slots := 0, locals := 148 }
theorem hd_L_flush : yL_flush.cls = RL ∧ yL_flush.cls ≠ "java/lang/invoke/MethodHandle" ∧ yL_flush.cls ≠ "java/lang/invoke/VarHandle" ∧ (parseMethodDescriptor yL_flush.desc).map (fun d => d.parameters.length) = some 2 := by decide +kernel
def f_L_flush (N : Nat) (γ : GLS) (p1 : Int32) : Option (Int32 × GLS) := (f_X8_flush N γ p1).bind fun r1 => some (r1.1, r1.2)
set_option maxHeartbeats 4000000 in
set_option maxRecDepth 100000 in
theorem c_L_flush {l : Launch} {G : va_G} {cA : Nat → ClassId} {lo : Nat} {ad : Nat → Nat} {sv : Nat → Option Nat} {P : GLS → Heap → Prop} (hC : cx G lo 262 ad (ceGL sv cA ad) P) {N : Nat} {γ : GLS} {p1 : Int32} {res : Int32 × GLS} (hf : f_L_flush N γ p1 = some res) : Met l yL_flush (cWx yL_flush cL_flush 3 (some .int) [(0, 5, 6, 46)]) rm_L_flush (cP [.ref (ad 0), .int p1] (P γ) G cA) (cQ (some (.int res.1)) (P res.2)) 0 0 (fun q => lo ≤ q) := by
  refine cx_metX (by decide) (Nat.le_of_ble_eq_true rfl) (fun p e s m args below meth c ls C0 hP hl => ?_)
  have hl : lv_has ls 3 [(0, .ref (ad 0)), (1, .int p1)] := hl
  obtain ⟨⟨hx, hb, hml, hown, hts⟩, hr, hlocks, hK⟩ := id C0
  have hL : ∀ q ∈ ([] : List Loc), lo ≤ q.base := fun q h => nomatch h
  unfold f_L_flush at hf
  refine lv_aload_n hx hb dL_flush_0 rfl (lv_at hl 0 rfl) ?_
  refine lv_iload_n hx hb dL_flush_1 rfl (lv_at hl 1 rfl) ?_
  obtain ⟨r1, q2, hf⟩ := cx_b hf
  refine cx_callV (As := [.int p1]) (rest := []) ⟨hx, hb, hml, hown, hts⟩ (c_X8_flush hC q2) (cwV 1 hts (gV mw_560 mw_561 mw_562 mw_11 mw_563) rfl rfl rfl hd_X8_flush ⟨Nat.le_of_ble_eq_true rfl, Nat.le_of_ble_eq_true rfl⟩) hK hP rfl (at_GL hC hP) rfl hl.1 rfl (Nat.le_of_ble_eq_true rfl) dL_flush_2 ⟨Nat.zero_le _, Nat.zero_le _⟩ hL (fun H locs hP hL => ?_)
  replace hP : P r1.2 H := by first | exact hP | (simpa only [va_up_id] using hP)
  cases hf
  exact cx_iret hx hb hr hlocks hP hL dL_flush_5
abbrev rm_L_forget : Room := { frames := 5, cells := 0, slots := 0, locals := 148 }
theorem hd_L_forget : yL_forget.cls = RL ∧ yL_forget.cls ≠ "java/lang/invoke/MethodHandle" ∧ yL_forget.cls ≠ "java/lang/invoke/VarHandle" ∧ (parseMethodDescriptor yL_forget.desc).map (fun d => d.parameters.length) = some 2 := by decide +kernel
def f_L_forget (N : Nat) (γ : GLS) (p1 : Int32) : Option (Int32 × GLS) := (f_X8_forget N γ p1).bind fun r1 => if r1.1 = 0 then some (0, r1.2) else some (1, r1.2)
set_option maxHeartbeats 4000000 in
set_option maxRecDepth 100000 in
theorem c_L_forget {l : Launch} {G : va_G} {cA : Nat → ClassId} {lo : Nat} {ad : Nat → Nat} {sv : Nat → Option Nat} {P : GLS → Heap → Prop} (hC : cx G lo 262 ad (ceGL sv cA ad) P) {N : Nat} {γ : GLS} {p1 : Int32} {res : Int32 × GLS} (hf : f_L_forget N γ p1 = some res) : Met l yL_forget (cWx yL_forget cL_forget 3 (some .int) [(0, 13, 14, 46)]) rm_L_forget (cP [.ref (ad 0), .int p1] (P γ) G cA) (cQ (some (.int res.1)) (P res.2)) 0 0 (fun q => lo ≤ q) := by
  refine cx_metX (by decide) (Nat.le_of_ble_eq_true rfl) (fun p e s m args below meth c ls C0 hP hl => ?_)
  have hl : lv_has ls 3 [(0, .ref (ad 0)), (1, .int p1)] := hl
  obtain ⟨⟨hx, hb, hml, hown, hts⟩, hr, hlocks, hK⟩ := id C0
  have hL : ∀ q ∈ ([] : List Loc), lo ≤ q.base := fun q h => nomatch h
  unfold f_L_forget at hf
  refine lv_aload_n hx hb dL_forget_0 rfl (lv_at hl 0 rfl) ?_
  refine lv_iload_n hx hb dL_forget_1 rfl (lv_at hl 1 rfl) ?_
  obtain ⟨r1, q2, hf⟩ := cx_b hf
  refine cx_callV (As := [.int p1]) (rest := []) ⟨hx, hb, hml, hown, hts⟩ (c_X8_forget hC q2) (cwV 1 hts (gV mw_568 mw_569 mw_570 mw_11 mw_571) rfl rfl rfl hd_X8_forget ⟨Nat.le_of_ble_eq_true rfl, Nat.le_of_ble_eq_true rfl⟩) hK hP rfl (at_GL hC hP) rfl hl.1 rfl (Nat.le_of_ble_eq_true rfl) dL_forget_2 ⟨Nat.zero_le _, Nat.zero_le _⟩ hL (fun H locs hP hL => ?_)
  replace hP : P r1.2 H := by first | exact hP | (simpa only [va_up_id] using hP)
  refine lv_if_eq (tgt := 12) hx hb dL_forget_5 (by decide) (fun c3 => ?_) (fun c3 => ?_)
  · have hf := cx_t hf c3
    refine lv_iconst (v := 0) hx hb dL_forget_12 (by decide) ?_
    cases hf
    exact cx_iret hx hb hr hlocks hP hL dL_forget_13
  · have hf := cx_f hf c3
    refine lv_iconst (v := 1) hx hb dL_forget_8 (by decide) ?_
    refine lv_goto (tgt := 13) hx hb dL_forget_9 (by decide) ?_
    cases hf
    exact cx_iret hx hb hr hlocks hP hL dL_forget_13
abbrev rm_L_order : Room := { frames := 3, cells := 0, slots := 0, locals := 66 }
theorem hd_L_order : yL_order.cls = RL ∧ yL_order.cls ≠ "java/lang/invoke/MethodHandle" ∧ yL_order.cls ≠ "java/lang/invoke/VarHandle" ∧ (parseMethodDescriptor yL_order.desc).map (fun d => d.parameters.length) = some 2 := by decide +kernel
def f_L_order (N : Nat) (γ : GLS) (p1 : Int32) : Option (Int32) := (f_X8_order N γ p1).bind fun r1 => some r1
set_option maxHeartbeats 4000000 in
set_option maxRecDepth 100000 in
theorem c_L_order {l : Launch} {G : va_G} {cA : Nat → ClassId} {lo : Nat} {ad : Nat → Nat} {sv : Nat → Option Nat} {P : GLS → Heap → Prop} (hC : cx G lo 262 ad (ceGL sv cA ad) P) {N : Nat} {γ : GLS} {p1 : Int32} {res : Int32} (hf : f_L_order N γ p1 = some res) : Met l yL_order (cWx yL_order cL_order 3 (some .int) [(0, 5, 6, 53)]) rm_L_order (cP [.ref (ad 0), .int p1] (P γ) G cA) (cQ (some (.int res)) (P γ)) 0 0 (fun q => lo ≤ q) := by
  refine cx_metX (by decide) (Nat.le_of_ble_eq_true rfl) (fun p e s m args below meth c ls C0 hP hl => ?_)
  have hl : lv_has ls 3 [(0, .ref (ad 0)), (1, .int p1)] := hl
  obtain ⟨⟨hx, hb, hml, hown, hts⟩, hr, hlocks, hK⟩ := id C0
  have hL : ∀ q ∈ ([] : List Loc), lo ≤ q.base := fun q h => nomatch h
  unfold f_L_order at hf
  refine lv_aload_n hx hb dL_order_0 rfl (lv_at hl 0 rfl) ?_
  refine lv_iload_n hx hb dL_order_1 rfl (lv_at hl 1 rfl) ?_
  obtain ⟨r1, q2, hf⟩ := cx_b hf
  refine cx_callV (As := [.int p1]) (rest := []) ⟨hx, hb, hml, hown, hts⟩ (c_X8_order hC q2) (cwV 1 hts (gV mw_683 mw_684 mw_685 mw_11 mw_686) rfl rfl rfl hd_X8_order ⟨Nat.le_of_ble_eq_true rfl, Nat.le_of_ble_eq_true rfl⟩) hK hP rfl (at_GL hC hP) rfl hl.1 rfl (Nat.le_of_ble_eq_true rfl) dL_order_2 ⟨Nat.zero_le _, Nat.zero_le _⟩ hL (fun H locs hP hL => ?_)
  replace hP : P γ H := by first | exact hP | (simpa only [va_up_id] using hP)
  cases hf
  exact cx_iret hx hb hr hlocks hP hL dL_order_5
abbrev rm_L_ahead : Room := { frames := 7, cells := 0, slots := 0, locals := 173 }
theorem hd_L_ahead : yL_ahead.cls = RL ∧ yL_ahead.cls ≠ "java/lang/invoke/MethodHandle" ∧ yL_ahead.cls ≠ "java/lang/invoke/VarHandle" ∧ (parseMethodDescriptor yL_ahead.desc).map (fun d => d.parameters.length) = some 6 := by decide +kernel
def f_L_ahead (N : Nat) (γ : GLS) (p1 : Int32) (p2 : Int32) (p3 : Int32) (p4 : Int32) (p5 : Int32) : Option (Int32 × GLS) := (f_X8_ahead N γ p1 p2 p3 p4 p5).bind fun r1 => some (r1.1, r1.2)
set_option maxHeartbeats 4000000 in
set_option maxRecDepth 100000 in
theorem c_L_ahead {l : Launch} {G : va_G} {cA : Nat → ClassId} {lo : Nat} {ad : Nat → Nat} {sv : Nat → Option Nat} {P : GLS → Heap → Prop} (hC : cx G lo 262 ad (ceGL sv cA ad) P) {N : Nat} {γ : GLS} {p1 : Int32} {p2 : Int32} {p3 : Int32} {p4 : Int32} {p5 : Int32} {res : Int32 × GLS} (hf : f_L_ahead N γ p1 p2 p3 p4 p5 = some res) : Met l yL_ahead (cWx yL_ahead cL_ahead 7 (some .int) [(0, 11, 12, 53), (0, 11, 17, 46)]) rm_L_ahead (cP [.ref (ad 0), .int p1, .int p2, .int p3, .int p4, .int p5] (P γ) G cA) (cQ (some (.int res.1)) (P res.2)) 0 0 (fun q => lo ≤ q) := by
  refine cx_metX (by decide) (Nat.le_of_ble_eq_true rfl) (fun p e s m args below meth c ls C0 hP hl => ?_)
  have hl : lv_has ls 7 [(0, .ref (ad 0)), (1, .int p1), (2, .int p2), (3, .int p3), (4, .int p4), (5, .int p5)] := hl
  obtain ⟨⟨hx, hb, hml, hown, hts⟩, hr, hlocks, hK⟩ := id C0
  have hL : ∀ q ∈ ([] : List Loc), lo ≤ q.base := fun q h => nomatch h
  unfold f_L_ahead at hf
  refine lv_aload_n hx hb dL_ahead_0 rfl (lv_at hl 0 rfl) ?_
  refine lv_iload_n hx hb dL_ahead_1 rfl (lv_at hl 1 rfl) ?_
  refine lv_iload_n hx hb dL_ahead_2 rfl (lv_at hl 2 rfl) ?_
  refine lv_iload_n hx hb dL_ahead_3 rfl (lv_at hl 3 rfl) ?_
  refine lv_iload hx hb dL_ahead_4 (lv_at hl 4 rfl) ?_
  refine lv_iload hx hb dL_ahead_6 (lv_at hl 5 rfl) ?_
  obtain ⟨r1, q2, hf⟩ := cx_b hf
  refine cx_callV (As := [.int p1, .int p2, .int p3, .int p4, .int p5]) (rest := []) ⟨hx, hb, hml, hown, hts⟩ (c_X8_ahead hC q2) (cwV 5 hts (gV mw_743 mw_744 mw_745 mw_11 mw_746) rfl rfl rfl hd_X8_ahead ⟨Nat.le_of_ble_eq_true rfl, Nat.le_of_ble_eq_true rfl⟩) hK hP rfl (at_GL hC hP) rfl hl.1 rfl (Nat.le_of_ble_eq_true rfl) dL_ahead_8 ⟨Nat.zero_le _, Nat.zero_le _⟩ hL (fun H locs hP hL => ?_)
  replace hP : P r1.2 H := by first | exact hP | (simpa only [va_up_id] using hP)
  cases hf
  exact cx_iret hx hb hr hlocks hP hL dL_ahead_11
abbrev rm_L_bestLength : Room := { frames := 7, cells := 0, slots := 0, locals := 176 }
theorem hd_L_bestLength : yL_bestLength.cls = RL ∧ yL_bestLength.cls ≠ "java/lang/invoke/MethodHandle" ∧ yL_bestLength.cls ≠ "java/lang/invoke/VarHandle" ∧ (parseMethodDescriptor yL_bestLength.desc).map (fun d => d.parameters.length) = some 5 := by decide +kernel
def f_L_bestLength (N : Nat) (γ : GLS) (p1 : Int32) (p2 : Int32) (p3 : Int32) (p4 : Int32) : Option (Int32 × GLS) := (f_X8_bestLength N γ p1 p2 p3 p4).bind fun r1 => some (r1.1, r1.2)
set_option maxHeartbeats 4000000 in
set_option maxRecDepth 100000 in
theorem c_L_bestLength {l : Launch} {G : va_G} {cA : Nat → ClassId} {lo : Nat} {ad : Nat → Nat} {sv : Nat → Option Nat} {P : GLS → Heap → Prop} (hC : cx G lo 262 ad (ceGL sv cA ad) P) {N : Nat} {γ : GLS} {p1 : Int32} {p2 : Int32} {p3 : Int32} {p4 : Int32} {res : Int32 × GLS} (hf : f_L_bestLength N γ p1 p2 p3 p4 = some res) : Met l yL_bestLength (cWx yL_bestLength cL_bestLength 6 (some .int) [(0, 9, 10, 53), (0, 9, 15, 46)]) rm_L_bestLength (cP [.ref (ad 0), .int p1, .int p2, .int p3, .int p4] (P γ) G cA) (cQ (some (.int res.1)) (P res.2)) 0 0 (fun q => lo ≤ q) := by
  refine cx_metX (by decide) (Nat.le_of_ble_eq_true rfl) (fun p e s m args below meth c ls C0 hP hl => ?_)
  have hl : lv_has ls 6 [(0, .ref (ad 0)), (1, .int p1), (2, .int p2), (3, .int p3), (4, .int p4)] := hl
  obtain ⟨⟨hx, hb, hml, hown, hts⟩, hr, hlocks, hK⟩ := id C0
  have hL : ∀ q ∈ ([] : List Loc), lo ≤ q.base := fun q h => nomatch h
  unfold f_L_bestLength at hf
  refine lv_aload_n hx hb dL_bestLength_0 rfl (lv_at hl 0 rfl) ?_
  refine lv_iload_n hx hb dL_bestLength_1 rfl (lv_at hl 1 rfl) ?_
  refine lv_iload_n hx hb dL_bestLength_2 rfl (lv_at hl 2 rfl) ?_
  refine lv_iload_n hx hb dL_bestLength_3 rfl (lv_at hl 3 rfl) ?_
  refine lv_iload hx hb dL_bestLength_4 (lv_at hl 4 rfl) ?_
  obtain ⟨r1, q2, hf⟩ := cx_b hf
  refine cx_callV (As := [.int p1, .int p2, .int p3, .int p4]) (rest := []) ⟨hx, hb, hml, hown, hts⟩ (c_X8_bestLength hC q2) (cwV 4 hts (gV mw_719 mw_720 mw_721 mw_11 mw_722) rfl rfl rfl hd_X8_bestLength ⟨Nat.le_of_ble_eq_true rfl, Nat.le_of_ble_eq_true rfl⟩) hK hP rfl (at_GL hC hP) rfl hl.1 rfl (Nat.le_of_ble_eq_true rfl) dL_bestLength_6 ⟨Nat.zero_le _, Nat.zero_le _⟩ hL (fun H locs hP hL => ?_)
  replace hP : P r1.2 H := by first | exact hP | (simpa only [va_up_id] using hP)
  cases hf
  exact cx_iret hx hb hr hlocks hP hL dL_bestLength_9
abbrev rm_L_ownedAt : Room := { frames := 3, cells := 0, slots := 0, locals := 71 }
theorem hd_L_ownedAt : yL_ownedAt.cls = RL ∧ yL_ownedAt.cls ≠ "java/lang/invoke/MethodHandle" ∧ yL_ownedAt.cls ≠ "java/lang/invoke/VarHandle" ∧ (parseMethodDescriptor yL_ownedAt.desc).map (fun d => d.parameters.length) = some 4 := by decide +kernel
def f_L_ownedAt (N : Nat) (γ : GLS) (p1 : Int32) (p2 : Int32) (p3 : Int32) : Option (Int32) := (f_X8_ownedAt N γ p1 p2 p3).bind fun r1 => some r1
set_option maxHeartbeats 4000000 in
set_option maxRecDepth 100000 in
theorem c_L_ownedAt {l : Launch} {G : va_G} {cA : Nat → ClassId} {lo : Nat} {ad : Nat → Nat} {sv : Nat → Option Nat} {P : GLS → Heap → Prop} (hC : cx G lo 262 ad (ceGL sv cA ad) P) {N : Nat} {γ : GLS} {p1 : Int32} {p2 : Int32} {p3 : Int32} {res : Int32} (hf : f_L_ownedAt N γ p1 p2 p3 = some res) : Met l yL_ownedAt (cWx yL_ownedAt cL_ownedAt 5 (some .int) [(0, 7, 8, 53)]) rm_L_ownedAt (cP [.ref (ad 0), .int p1, .int p2, .int p3] (P γ) G cA) (cQ (some (.int res)) (P γ)) 0 0 (fun q => lo ≤ q) := by
  refine cx_metX (by decide) (Nat.le_of_ble_eq_true rfl) (fun p e s m args below meth c ls C0 hP hl => ?_)
  have hl : lv_has ls 5 [(0, .ref (ad 0)), (1, .int p1), (2, .int p2), (3, .int p3)] := hl
  obtain ⟨⟨hx, hb, hml, hown, hts⟩, hr, hlocks, hK⟩ := id C0
  have hL : ∀ q ∈ ([] : List Loc), lo ≤ q.base := fun q h => nomatch h
  unfold f_L_ownedAt at hf
  refine lv_aload_n hx hb dL_ownedAt_0 rfl (lv_at hl 0 rfl) ?_
  refine lv_iload_n hx hb dL_ownedAt_1 rfl (lv_at hl 1 rfl) ?_
  refine lv_iload_n hx hb dL_ownedAt_2 rfl (lv_at hl 2 rfl) ?_
  refine lv_iload_n hx hb dL_ownedAt_3 rfl (lv_at hl 3 rfl) ?_
  obtain ⟨r1, q2, hf⟩ := cx_b hf
  refine cx_callV (As := [.int p1, .int p2, .int p3]) (rest := []) ⟨hx, hb, hml, hown, hts⟩ (c_X8_ownedAt hC q2) (cwV 3 hts (gV mw_637 mw_638 mw_639 mw_11 mw_640) rfl rfl rfl hd_X8_ownedAt ⟨Nat.le_of_ble_eq_true rfl, Nat.le_of_ble_eq_true rfl⟩) hK hP rfl (at_GL hC hP) rfl hl.1 rfl (Nat.le_of_ble_eq_true rfl) dL_ownedAt_4 ⟨Nat.zero_le _, Nat.zero_le _⟩ hL (fun H locs hP hL => ?_)
  replace hP : P γ H := by first | exact hP | (simpa only [va_up_id] using hP)
  cases hf
  exact cx_iret hx hb hr hlocks hP hL dL_ownedAt_7
abbrev rm_L_excess : Room := { frames := 4, cells := 0, slots := 0, locals := 89 }
theorem hd_L_excess : yL_excess.cls = RL ∧ yL_excess.cls ≠ "java/lang/invoke/MethodHandle" ∧ yL_excess.cls ≠ "java/lang/invoke/VarHandle" ∧ (parseMethodDescriptor yL_excess.desc).map (fun d => d.parameters.length) = some 2 := by decide +kernel
def f_L_excess (N : Nat) (γ : GLS) (p1 : Int32) : Option (UInt32) := (f_X8_excess N γ p1).bind fun r1 => some r1
set_option maxHeartbeats 4000000 in
set_option maxRecDepth 100000 in
theorem c_L_excess {l : Launch} {G : va_G} {cA : Nat → ClassId} {lo : Nat} {ad : Nat → Nat} {sv : Nat → Option Nat} {P : GLS → Heap → Prop} (hC : cx G lo 262 ad (ceGL sv cA ad) P) {N : Nat} {γ : GLS} {p1 : Int32} {res : UInt32} (hf : f_L_excess N γ p1 = some res) : Met l yL_excess (cWx yL_excess cL_excess 3 (some .float) [(0, 5, 6, 53)]) rm_L_excess (cP [.ref (ad 0), .int p1] (P γ) G cA) (cQ (some (.float res)) (P γ)) 0 0 (fun q => lo ≤ q) := by
  refine cx_metX (by decide) (Nat.le_of_ble_eq_true rfl) (fun p e s m args below meth c ls C0 hP hl => ?_)
  have hl : lv_has ls 3 [(0, .ref (ad 0)), (1, .int p1)] := hl
  obtain ⟨⟨hx, hb, hml, hown, hts⟩, hr, hlocks, hK⟩ := id C0
  have hL : ∀ q ∈ ([] : List Loc), lo ≤ q.base := fun q h => nomatch h
  unfold f_L_excess at hf
  refine lv_aload_n hx hb dL_excess_0 rfl (lv_at hl 0 rfl) ?_
  refine lv_iload_n hx hb dL_excess_1 rfl (lv_at hl 1 rfl) ?_
  obtain ⟨r1, q2, hf⟩ := cx_b hf
  refine cx_callV (As := [.int p1]) (rest := []) ⟨hx, hb, hml, hown, hts⟩ (c_X8_excess hC q2) (cwV 1 hts (gV mw_649 mw_650 mw_651 mw_11 mw_652) rfl rfl rfl hd_X8_excess ⟨Nat.le_of_ble_eq_true rfl, Nat.le_of_ble_eq_true rfl⟩) hK hP rfl (at_GL hC hP) rfl hl.1 rfl (Nat.le_of_ble_eq_true rfl) dL_excess_2 ⟨Nat.zero_le _, Nat.zero_le _⟩ hL (fun H locs hP hL => ?_)
  replace hP : P γ H := by first | exact hP | (simpa only [va_up_id] using hP)
  cases hf
  exact cx_fret hx hb hr hlocks hP hL dL_excess_5
abbrev rm_L_toScan : Room := { frames := 3, cells := 0, slots := 0, locals := 68 }
theorem hd_L_toScan : yL_toScan.cls = RL ∧ yL_toScan.cls ≠ "java/lang/invoke/MethodHandle" ∧ yL_toScan.cls ≠ "java/lang/invoke/VarHandle" ∧ (parseMethodDescriptor yL_toScan.desc).map (fun d => d.parameters.length) = some 3 := by decide +kernel
def f_L_toScan (γ : GLS) (p1 : Int32) (p2 : Int32) : Option (Int32) := (f_X8_toScan γ p1 p2).bind fun r1 => some r1
set_option maxHeartbeats 4000000 in
set_option maxRecDepth 100000 in
theorem c_L_toScan {l : Launch} {G : va_G} {cA : Nat → ClassId} {lo : Nat} {ad : Nat → Nat} {sv : Nat → Option Nat} {P : GLS → Heap → Prop} (hC : cx G lo 262 ad (ceGL sv cA ad) P) {γ : GLS} {p1 : Int32} {p2 : Int32} {res : Int32} (hf : f_L_toScan γ p1 p2 = some res) : Met l yL_toScan (cWx yL_toScan cL_toScan 4 (some .int) [(0, 6, 7, 53), (0, 6, 11, 46)]) rm_L_toScan (cP [.ref (ad 0), .int p1, .int p2] (P γ) G cA) (cQ (some (.int res)) (P γ)) 0 0 (fun q => lo ≤ q) := by
  refine cx_metX (by decide) (Nat.le_of_ble_eq_true rfl) (fun p e s m args below meth c ls C0 hP hl => ?_)
  have hl : lv_has ls 4 [(0, .ref (ad 0)), (1, .int p1), (2, .int p2)] := hl
  obtain ⟨⟨hx, hb, hml, hown, hts⟩, hr, hlocks, hK⟩ := id C0
  have hL : ∀ q ∈ ([] : List Loc), lo ≤ q.base := fun q h => nomatch h
  unfold f_L_toScan at hf
  refine lv_aload_n hx hb dL_toScan_0 rfl (lv_at hl 0 rfl) ?_
  refine lv_iload_n hx hb dL_toScan_1 rfl (lv_at hl 1 rfl) ?_
  refine lv_iload_n hx hb dL_toScan_2 rfl (lv_at hl 2 rfl) ?_
  obtain ⟨r1, q2, hf⟩ := cx_b hf
  refine cx_callV (As := [.int p1, .int p2]) (rest := []) ⟨hx, hb, hml, hown, hts⟩ (c_X8_toScan hC q2) (cwV 2 hts (gV mw_395 mw_396 mw_397 mw_11 mw_398) rfl rfl rfl hd_X8_toScan ⟨Nat.le_of_ble_eq_true rfl, Nat.le_of_ble_eq_true rfl⟩) hK hP rfl (at_GL hC hP) rfl hl.1 rfl (Nat.le_of_ble_eq_true rfl) dL_toScan_3 ⟨Nat.zero_le _, Nat.zero_le _⟩ hL (fun H locs hP hL => ?_)
  replace hP : P γ H := by first | exact hP | (simpa only [va_up_id] using hP)
  cases hf
  exact cx_iret hx hb hr hlocks hP hL dL_toScan_6
abbrev rm_L_rank : Room := { frames := 3, cells := 0, slots := 0, locals := 66 }
theorem hd_L_rank : yL_rank.cls = RL ∧ yL_rank.cls ≠ "java/lang/invoke/MethodHandle" ∧ yL_rank.cls ≠ "java/lang/invoke/VarHandle" ∧ (parseMethodDescriptor yL_rank.desc).map (fun d => d.parameters.length) = some 2 := by decide +kernel
def f_L_rank (N : Nat) (γ : GLS) (p1 : Int32) : Option (Int32) := (f_X8_rank N γ p1).bind fun r1 => some r1
set_option maxHeartbeats 4000000 in
set_option maxRecDepth 100000 in
theorem c_L_rank {l : Launch} {G : va_G} {cA : Nat → ClassId} {lo : Nat} {ad : Nat → Nat} {sv : Nat → Option Nat} {P : GLS → Heap → Prop} (hC : cx G lo 262 ad (ceGL sv cA ad) P) {N : Nat} {γ : GLS} {p1 : Int32} {res : Int32} (hf : f_L_rank N γ p1 = some res) : Met l yL_rank (cWx yL_rank cL_rank 3 (some .int) [(0, 5, 6, 46)]) rm_L_rank (cP [.ref (ad 0), .int p1] (P γ) G cA) (cQ (some (.int res)) (P γ)) 0 0 (fun q => lo ≤ q) := by
  refine cx_metX (by decide) (Nat.le_of_ble_eq_true rfl) (fun p e s m args below meth c ls C0 hP hl => ?_)
  have hl : lv_has ls 3 [(0, .ref (ad 0)), (1, .int p1)] := hl
  obtain ⟨⟨hx, hb, hml, hown, hts⟩, hr, hlocks, hK⟩ := id C0
  have hL : ∀ q ∈ ([] : List Loc), lo ≤ q.base := fun q h => nomatch h
  unfold f_L_rank at hf
  refine lv_aload_n hx hb dL_rank_0 rfl (lv_at hl 0 rfl) ?_
  refine lv_iload_n hx hb dL_rank_1 rfl (lv_at hl 1 rfl) ?_
  obtain ⟨r1, q2, hf⟩ := cx_b hf
  refine cx_callV (As := [.int p1]) (rest := []) ⟨hx, hb, hml, hown, hts⟩ (c_X8_rank hC q2) (cwV 1 hts (gV mw_691 mw_692 mw_693 mw_11 mw_694) rfl rfl rfl hd_X8_rank ⟨Nat.le_of_ble_eq_true rfl, Nat.le_of_ble_eq_true rfl⟩) hK hP rfl (at_GL hC hP) rfl hl.1 rfl (Nat.le_of_ble_eq_true rfl) dL_rank_2 ⟨Nat.zero_le _, Nat.zero_le _⟩ hL (fun H locs hP hL => ?_)
  replace hP : P γ H := by first | exact hP | (simpa only [va_up_id] using hP)
  cases hf
  exact cx_iret hx hb hr hlocks hP hL dL_rank_5
abbrev rm_L_between : Room := { frames := 2, cells := 0, slots := 0, locals := 47 }
theorem hd_L_between : yL_between.cls = RL ∧ yL_between.cls ≠ "java/lang/invoke/MethodHandle" ∧ yL_between.cls ≠ "java/lang/invoke/VarHandle" ∧ (parseMethodDescriptor yL_between.desc).map (fun d => d.parameters.length) = some 4 := by decide +kernel
def f_L_between (N : Nat) (γ : GLS) (p1 : Int32) (p2 : Int32) (p3 : Int32) : Option (Int32) := (f_X8_between N γ p1 p2 p3).bind fun r1 => some r1
set_option maxHeartbeats 4000000 in
set_option maxRecDepth 100000 in
theorem c_L_between {l : Launch} {G : va_G} {cA : Nat → ClassId} {lo : Nat} {ad : Nat → Nat} {sv : Nat → Option Nat} {P : GLS → Heap → Prop} (hC : cx G lo 262 ad (ceGL sv cA ad) P) {N : Nat} {γ : GLS} {p1 : Int32} {p2 : Int32} {p3 : Int32} {res : Int32} (hf : f_L_between N γ p1 p2 p3 = some res) : Met l yL_between (cWx yL_between cL_between 5 (some .int) [(0, 7, 8, 53), (0, 7, 13, 46)]) rm_L_between (cP [.ref (ad 0), .int p1, .int p2, .int p3] (P γ) G cA) (cQ (some (.int res)) (P γ)) 0 0 (fun q => lo ≤ q) := by
  refine cx_metX (by decide) (Nat.le_of_ble_eq_true rfl) (fun p e s m args below meth c ls C0 hP hl => ?_)
  have hl : lv_has ls 5 [(0, .ref (ad 0)), (1, .int p1), (2, .int p2), (3, .int p3)] := hl
  obtain ⟨⟨hx, hb, hml, hown, hts⟩, hr, hlocks, hK⟩ := id C0
  have hL : ∀ q ∈ ([] : List Loc), lo ≤ q.base := fun q h => nomatch h
  unfold f_L_between at hf
  refine lv_aload_n hx hb dL_between_0 rfl (lv_at hl 0 rfl) ?_
  refine lv_iload_n hx hb dL_between_1 rfl (lv_at hl 1 rfl) ?_
  refine lv_iload_n hx hb dL_between_2 rfl (lv_at hl 2 rfl) ?_
  refine lv_iload_n hx hb dL_between_3 rfl (lv_at hl 3 rfl) ?_
  obtain ⟨r1, q2, hf⟩ := cx_b hf
  refine cx_callV (As := [.int p1, .int p2, .int p3]) (rest := []) ⟨hx, hb, hml, hown, hts⟩ (c_X8_between hC q2) (cwV 3 hts (gV mw_614 mw_615 mw_616 mw_11 mw_617) rfl rfl rfl hd_X8_between ⟨Nat.le_of_ble_eq_true rfl, Nat.le_of_ble_eq_true rfl⟩) hK hP rfl (at_GL hC hP) rfl hl.1 rfl (Nat.le_of_ble_eq_true rfl) dL_between_4 ⟨Nat.zero_le _, Nat.zero_le _⟩ hL (fun H locs hP hL => ?_)
  replace hP : P γ H := by first | exact hP | (simpa only [va_up_id] using hP)
  cases hf
  exact cx_iret hx hb hr hlocks hP hL dL_between_7
abbrev rm_L_longest : Room := { frames := 3, cells := 0, slots := 0, locals := 67 }
theorem hd_L_longest : yL_longest.cls = RL ∧ yL_longest.cls ≠ "java/lang/invoke/MethodHandle" ∧ yL_longest.cls ≠ "java/lang/invoke/VarHandle" ∧ (parseMethodDescriptor yL_longest.desc).map (fun d => d.parameters.length) = some 2 := by decide +kernel
def f_L_longest (N : Nat) (γ : GLS) (p1 : Int32) : Option (Int32) := (f_X8_longest N γ p1).bind fun r1 => some r1
set_option maxHeartbeats 4000000 in
set_option maxRecDepth 100000 in
theorem c_L_longest {l : Launch} {G : va_G} {cA : Nat → ClassId} {lo : Nat} {ad : Nat → Nat} {sv : Nat → Option Nat} {P : GLS → Heap → Prop} (hC : cx G lo 262 ad (ceGL sv cA ad) P) {N : Nat} {γ : GLS} {p1 : Int32} {res : Int32} (hf : f_L_longest N γ p1 = some res) : Met l yL_longest (cWx yL_longest cL_longest 3 (some .int) [(0, 5, 6, 53)]) rm_L_longest (cP [.ref (ad 0), .int p1] (P γ) G cA) (cQ (some (.int res)) (P γ)) 0 0 (fun q => lo ≤ q) := by
  refine cx_metX (by decide) (Nat.le_of_ble_eq_true rfl) (fun p e s m args below meth c ls C0 hP hl => ?_)
  have hl : lv_has ls 3 [(0, .ref (ad 0)), (1, .int p1)] := hl
  obtain ⟨⟨hx, hb, hml, hown, hts⟩, hr, hlocks, hK⟩ := id C0
  have hL : ∀ q ∈ ([] : List Loc), lo ≤ q.base := fun q h => nomatch h
  unfold f_L_longest at hf
  refine lv_aload_n hx hb dL_longest_0 rfl (lv_at hl 0 rfl) ?_
  refine lv_iload_n hx hb dL_longest_1 rfl (lv_at hl 1 rfl) ?_
  obtain ⟨r1, q2, hf⟩ := cx_b hf
  refine cx_callV (As := [.int p1]) (rest := []) ⟨hx, hb, hml, hown, hts⟩ (c_X8_longest hC q2) (cwV 1 hts (gV mw_625 mw_626 mw_627 mw_11 mw_628) rfl rfl rfl hd_X8_longest ⟨Nat.le_of_ble_eq_true rfl, Nat.le_of_ble_eq_true rfl⟩) hK hP rfl (at_GL hC hP) rfl hl.1 rfl (Nat.le_of_ble_eq_true rfl) dL_longest_2 ⟨Nat.zero_le _, Nat.zero_le _⟩ hL (fun H locs hP hL => ?_)
  replace hP : P γ H := by first | exact hP | (simpa only [va_up_id] using hP)
  cases hf
  exact cx_iret hx hb hr hlocks hP hL dL_longest_5
abbrev rm_L_stale : Room := { frames := 2, cells := 0, slots := 0, locals := 44 }
theorem hd_L_stale : yL_stale.cls = RL ∧ yL_stale.cls ≠ "java/lang/invoke/MethodHandle" ∧ yL_stale.cls ≠ "java/lang/invoke/VarHandle" ∧ (parseMethodDescriptor yL_stale.desc).map (fun d => d.parameters.length) = some 2 := by decide +kernel
def f_L_stale (N : Nat) (γ : GLS) (p1 : Int32) : Option (Int32) := (f_X8_stale N γ p1).bind fun r1 => some r1
set_option maxHeartbeats 4000000 in
set_option maxRecDepth 100000 in
theorem c_L_stale {l : Launch} {G : va_G} {cA : Nat → ClassId} {lo : Nat} {ad : Nat → Nat} {sv : Nat → Option Nat} {P : GLS → Heap → Prop} (hC : cx G lo 262 ad (ceGL sv cA ad) P) {N : Nat} {γ : GLS} {p1 : Int32} {res : Int32} (hf : f_L_stale N γ p1 = some res) : Met l yL_stale (cWx yL_stale cL_stale 3 (some .int) [(0, 5, 6, 46)]) rm_L_stale (cP [.ref (ad 0), .int p1] (P γ) G cA) (cQ (some (.int res)) (P γ)) 0 0 (fun q => lo ≤ q) := by
  refine cx_metX (by decide) (Nat.le_of_ble_eq_true rfl) (fun p e s m args below meth c ls C0 hP hl => ?_)
  have hl : lv_has ls 3 [(0, .ref (ad 0)), (1, .int p1)] := hl
  obtain ⟨⟨hx, hb, hml, hown, hts⟩, hr, hlocks, hK⟩ := id C0
  have hL : ∀ q ∈ ([] : List Loc), lo ≤ q.base := fun q h => nomatch h
  unfold f_L_stale at hf
  refine lv_aload_n hx hb dL_stale_0 rfl (lv_at hl 0 rfl) ?_
  refine lv_iload_n hx hb dL_stale_1 rfl (lv_at hl 1 rfl) ?_
  obtain ⟨r1, q2, hf⟩ := cx_b hf
  refine cx_callV (As := [.int p1]) (rest := []) ⟨hx, hb, hml, hown, hts⟩ (c_X8_stale hC q2) (cwV 1 hts (gV mw_659 mw_660 mw_661 mw_11 mw_662) rfl rfl rfl hd_X8_stale ⟨Nat.le_of_ble_eq_true rfl, Nat.le_of_ble_eq_true rfl⟩) hK hP rfl (at_GL hC hP) rfl hl.1 rfl (Nat.le_of_ble_eq_true rfl) dL_stale_2 ⟨Nat.zero_le _, Nat.zero_le _⟩ hL (fun H locs hP hL => ?_)
  replace hP : P γ H := by first | exact hP | (simpa only [va_up_id] using hP)
  cases hf
  exact cx_iret hx hb hr hlocks hP hL dL_stale_5
abbrev rm_L_wouldBe : Room := { frames := 6, cells := 0, slots := 0, locals := 145 }
theorem hd_L_wouldBe : yL_wouldBe.cls = RL ∧ yL_wouldBe.cls ≠ "java/lang/invoke/MethodHandle" ∧ yL_wouldBe.cls ≠ "java/lang/invoke/VarHandle" ∧ (parseMethodDescriptor yL_wouldBe.desc).map (fun d => d.parameters.length) = some 4 := by decide +kernel
def f_L_wouldBe (N : Nat) (γ : GLS) (p1 : Int32) (p2 : Int32) (p3 : Int32) : Option (Int32 × GLS) := (f_X8_wouldBe N γ p1 p2 p3).bind fun r1 => some (r1.1, r1.2)
set_option maxHeartbeats 4000000 in
set_option maxRecDepth 100000 in
theorem c_L_wouldBe {l : Launch} {G : va_G} {cA : Nat → ClassId} {lo : Nat} {ad : Nat → Nat} {sv : Nat → Option Nat} {P : GLS → Heap → Prop} (hC : cx G lo 262 ad (ceGL sv cA ad) P) {N : Nat} {γ : GLS} {p1 : Int32} {p2 : Int32} {p3 : Int32} {res : Int32 × GLS} (hf : f_L_wouldBe N γ p1 p2 p3 = some res) : Met l yL_wouldBe (cWx yL_wouldBe cL_wouldBe 5 (some .int) [(0, 7, 8, 53), (0, 7, 13, 46)]) rm_L_wouldBe (cP [.ref (ad 0), .int p1, .int p2, .int p3] (P γ) G cA) (cQ (some (.int res.1)) (P res.2)) 0 0 (fun q => lo ≤ q) := by
  refine cx_metX (by decide) (Nat.le_of_ble_eq_true rfl) (fun p e s m args below meth c ls C0 hP hl => ?_)
  have hl : lv_has ls 5 [(0, .ref (ad 0)), (1, .int p1), (2, .int p2), (3, .int p3)] := hl
  obtain ⟨⟨hx, hb, hml, hown, hts⟩, hr, hlocks, hK⟩ := id C0
  have hL : ∀ q ∈ ([] : List Loc), lo ≤ q.base := fun q h => nomatch h
  unfold f_L_wouldBe at hf
  refine lv_aload_n hx hb dL_wouldBe_0 rfl (lv_at hl 0 rfl) ?_
  refine lv_iload_n hx hb dL_wouldBe_1 rfl (lv_at hl 1 rfl) ?_
  refine lv_iload_n hx hb dL_wouldBe_2 rfl (lv_at hl 2 rfl) ?_
  refine lv_iload_n hx hb dL_wouldBe_3 rfl (lv_at hl 3 rfl) ?_
  obtain ⟨r1, q2, hf⟩ := cx_b hf
  refine cx_callV (As := [.int p1, .int p2, .int p3]) (rest := []) ⟨hx, hb, hml, hown, hts⟩ (c_X8_wouldBe hC q2) (cwV 3 hts (gV mw_412 mw_413 mw_414 mw_11 mw_415) rfl rfl rfl hd_X8_wouldBe ⟨Nat.le_of_ble_eq_true rfl, Nat.le_of_ble_eq_true rfl⟩) hK hP rfl (at_GL hC hP) rfl hl.1 rfl (Nat.le_of_ble_eq_true rfl) dL_wouldBe_4 ⟨Nat.zero_le _, Nat.zero_le _⟩ hL (fun H locs hP hL => ?_)
  replace hP : P r1.2 H := by first | exact hP | (simpa only [va_up_id] using hP)
  cases hf
  exact cx_iret hx hb hr hlocks hP hL dL_wouldBe_7
