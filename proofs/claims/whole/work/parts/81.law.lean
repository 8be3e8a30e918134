abbrev TopT : Type := GLS → MdlS → (Nat → CacS) → (Nat → Option Nat) → Nat → Prop
theorem wCode_ne {α : Type} {k1 k : Nat} : ¬ wCode k1 (.inl k : Nat ⊕ α) = 0 := by
  unfold wCode
  by_cases h : k = k1
  · show ¬ (if k = k1 then (1 : Int32) else 2) = 0
    rw [if_pos h]; decide
  · show ¬ (if k = k1 then (1 : Int32) else 2) = 0
    rw [if_neg h]; decide
theorem oUp_0 (f : Nat → Int64) (x : Int64) : oUp f x (Int32.toNatClampNeg 0) = x := by
  unfold oUp vp_updL
  simp
theorem dUp_0 (f : Nat → UInt64) (x : UInt64) : dUp f x (Int32.toNatClampNeg 0) = x := by
  unfold dUp vf_upd
  simp
/-- what stands through the law -/
def LwF (l : Launch) (p : Program) (s : State) (m : MethodId) (args : Array Value) (c : Code) (G : va_G) (cA : Nat → ClassId) (lo : Nat) (z : ZS) (b L : Nat) (xs : Nat → Int32) : Prop :=
  (l.stackTraces = false ∧ p.tables.exec = Jvm.exec ∧ c.code = cL_law ∧ c.maxLocals = 10 ∧ s.vm.findClass RL = some m.cls ∧ ∀ w ∈ WL, w.before args s = true) ∧ cKn G cA s ∧ Zt lo z s ∧ Nc3 s ∧ va_X b L xs s s.heap ∧ b < s.heap.size ∧ b < lo ∧ L ≤ 3072
/-- where a run stands between two calls -/
def LwS (G : va_G) (cA : Nat → ClassId) (H0 : Heap) (lo aG aM aO : Nat) (Top : TopT) (β : BigS) (ix : Nat → Option Nat) (bs : List Nat) (H : Heap) (locs : List Loc) : Prop :=
  Dj lo aG aM aO bs ∧ IxOk ix bs.length ∧ BW G cA H0 lo aG aM aO bs (svOf ix bs) β H ∧ Top β.1 β.2.1 β.2.2.2.2 ix bs.length ∧ ∀ q ∈ locs, lo ≤ q.base
def LwN (p : Program) (l : Launch) (e : Env) (s : State) (m : MethodId) (args : Array Value) (below : List Frame) (meth : Method) (c : Code) (G : va_G) (cA : Nat → ClassId) (H0 : Heap) (lo aG aM aO : Nat) (Top : TopT) (b j cells slots : Nat) (Q : State → Prop) : Prop :=
  ∀ (β : BigS) (ix : Nat → Option Nat) (bs : List Nat) (H : Heap) (locs : List Loc) (cl sl : Nat) (ls : Array Slot), LwS G cA H0 lo aG aM aO Top β ix bs H locs → cl ≤ cells + 25 → sl ≤ slots + 1404 → lv_has ls 10 [(5, .int (nI (6 * j))), (0, .ref b), (1, .ref aG), (2, .ref aM), (3, .ref aO), (4, .ref (aO + 1))] → W p l e room_1 s m args below meth c H locs cl sl Q (F0 m 2386 ls [])
section LWR
variable {p : Program} {l : Launch} {e : Env} {R : Room} {s : State} {m : MethodId} {args : Array Value} {below : List Frame} {meth : Method} {c : Code} {H : Heap} {locs : List Loc} {cells slots : Nat} {Q : State → Prop}
variable {cc : ByteArray} {pc : Nat} {ls : Array Slot} {rest : List Value}
theorem lw_scr (hexec : p.tables.exec = Jvm.exec) (hb : c.code = cc) {lo b L : Nat} {xs : Nat → Int32} (hX : va_X b L xs s s.heap) (hbl : b < s.heap.size) (hbo : b < lo) (hL : L ≤ 3072) (hS : ∀ q ∈ locs, lo ≤ q.base) {j : Nat} (hj : j < L) (hdg : decode cc pc = .ok (.iaload, 1))
    (kk : W p l e R s m args below meth c H locs cells slots Q (F0 m (pc + 1) ls (.int (xs j) :: rest))) : W p l e R s m args below meth c H locs cells slots Q (F0 m pc ls (.int (nI j) :: .ref b :: rest)) := by
  refine cz_S hS (fun hS => va_sld hexec hb hX hbl (Nat.not_le.mpr hbo) hS (nI_in hj (by omega)) hdg ?_)
  rw [nI_clamp (show j < 2 ^ 31 by omega)]
  exact kk
end LWR
def Sim_runTrace (N : Nat) (Top : TopT) : Prop := ∀ (γ : GLS) (μ : MdlS) (κ : Nat → CacS) (ix : Nat → Option Nat) (nb : Nat), Top γ μ κ ix nb → ∃ (r : Int32) (γ1 : GLS) (μ1 : MdlS), f_X8_runTrace N γ = some (r, γ1) ∧ f_X9_runTrace N μ = some (r, μ1) ∧ Top γ1 μ1 κ ix nb
set_option maxHeartbeats 2000000 in
set_option maxRecDepth 100000 in
theorem w_law_runTrace {p : Program} {l : Launch} {e : Env} {s : State} {m : MethodId} {args : Array Value} {below : List Frame} {meth : Method} {c : Code} {G : va_G} {cA : Nat → ClassId} {H0 : Heap} {lo aG aM aO : Nat} {z : ZS} {Top : TopT} {b L j N cells slots : Nat} {xs : Nat → Int32} {Q : State → Prop} (F : LwF l p s m args c G cA lo z b L xs) (hj : 6 * j + 5 < L) (hS : Sim_runTrace N Top) {β : BigS} {ix : Nat → Option Nat} {bs : List Nat} {H : Heap} {locs : List Loc} {ls : Array Slot} (St : LwS G cA H0 lo aG aM aO Top β ix bs H locs) (hcs : cells ≤ 500000) (hss : slots ≤ 7000000) (hl : lv_has ls 10 [(5, .int (nI (6 * j))), (0, .ref b), (1, .ref aG), (2, .ref aM), (3, .ref aO), (4, .ref (aO + 1))]) (next : LwN p l e s m args below meth c G cA H0 lo aG aM aO Top b j cells slots Q) : W p l e room_1 s m args below meth c H locs cells slots Q (F0 m 332 ls []) := by
  obtain ⟨⟨hl0, hx, hb, hml, hown, hts⟩, hN, hZ, hX3, hX, hbl, hbo, hL3⟩ := id F
  have hK := hN.1
  obtain ⟨D, hI, hP, hT, hL⟩ := St
  obtain ⟨r, γ1, μ1, h1, h3, hT⟩ := hS β.1 β.2.1 β.2.2.2.2 ix bs.length hT
  refine lv_aload_n hx hb dL_law_332 rfl (lv_at hl 2 rfl) ?_
  refine cx_callVZ (As := []) (rest := []) ⟨hx, hb, hml, hown, hts⟩ (c_X8_runTrace (BW_G (G := G) (cA := cA) (H0 := H0) (sv := svOf ix bs) D β) h1) (cwV 0 hts (gV mw_179 mw_180 mw_181 mw_2 mw_182) rfl rfl rfl hd_X8_runTrace ⟨Nat.le_of_ble_eq_true rfl, Nat.le_of_ble_eq_true rfl⟩) hK hZ hP rfl (at_GL (BW_G (G := G) (cA := cA) (H0 := H0) (sv := svOf ix bs) D β) hP) rfl hl.1 rfl (Nat.le_of_ble_eq_true rfl) dL_law_333 ⟨by show cells + 0 ≤ 601024; omega, by show slots + 0 ≤ 7293034; omega⟩ hL (fun H locs hP hL => ?_)
  have hP : BW G cA H0 lo aG aM aO bs (svOf ix bs) (γ1, β.2) H := hP
  refine lv_aload_n hx hb dL_law_336 rfl (lv_at hl 3 rfl) ?_
  refine cx_callVZ (As := []) (rest := [.int r]) ⟨hx, hb, hml, hown, hts⟩ (c_X9_runTrace (BW_M (G := G) (cA := cA) (H0 := H0) (sv := (svOf ix bs)) D (γ1, β.2)) h3) (cwV 0 hts (gV mw_531 mw_532 mw_533 mw_5 mw_534) rfl rfl rfl hd_X9_runTrace ⟨Nat.le_of_ble_eq_true rfl, Nat.le_of_ble_eq_true rfl⟩) hK hZ hP rfl (at_Model (BW_M (G := G) (cA := cA) (H0 := H0) (sv := (svOf ix bs)) D (γ1, β.2)) hP) rfl hl.1 rfl (Nat.le_of_ble_eq_true rfl) dL_law_337 ⟨by show cells + 0 + 0 ≤ 601024; omega, by show slots + 0 + 0 ≤ 7293034; omega⟩ hL (fun H locs hP hL => ?_)
  have hP : BW G cA H0 lo aG aM aO bs (svOf ix bs) (γ1, μ1, β.2.2) H := hP
  refine lv_icmp_eq (tgt := 2386) hx hb dL_law_340 (by decide) (fun _ => ?_) (fun c8 => absurd rfl c8)
  exact next (γ1, μ1, β.2.2) ix bs _ _ _ _ _ ⟨D, hI, hP, hT, hL⟩ (by omega) (by omega) (lv_sub hl [0, 1, 2, 3, 4, 5] rfl)
def Sim_count (N : Nat) (Top : TopT) : Prop := ∀ (γ : GLS) (μ : MdlS) (κ : Nat → CacS) (ix : Nat → Option Nat) (nb : Nat) (p0 : Int32), Top γ μ κ ix nb → ∃ (res : Nat ⊕ (Int32)) (b : Int32) (μ1 : MdlS), f_X8_count N γ p0 = some res ∧ (∀ k, res = .inl k → k = 1) ∧ f_X9_count N μ p0 = some (b, μ1) ∧ f_X9_thrown μ1 = some (wCode 1 res) ∧ (∀ k, res = .inl k → Top γ μ1 κ ix nb) ∧ ∀ r, res = .inr r → b = r ∧ Top γ μ1 κ ix nb
set_option maxHeartbeats 2000000 in
set_option maxRecDepth 100000 in
theorem w_law_count {p : Program} {l : Launch} {e : Env} {s : State} {m : MethodId} {args : Array Value} {below : List Frame} {meth : Method} {c : Code} {G : va_G} {cA : Nat → ClassId} {H0 : Heap} {lo aG aM aO : Nat} {z : ZS} {Top : TopT} {b L j N cells slots : Nat} {xs : Nat → Int32} {Q : State → Prop} (F : LwF l p s m args c G cA lo z b L xs) (hj : 6 * j + 5 < L) (hS : Sim_count N Top) {β : BigS} {ix : Nat → Option Nat} {bs : List Nat} {H : Heap} {locs : List Loc} {ls : Array Slot} (St : LwS G cA H0 lo aG aM aO Top β ix bs H locs) (hcs : cells ≤ 500000) (hss : slots ≤ 7000000) (hl : lv_has ls 10 [(5, .int (nI (6 * j))), (0, .ref b), (1, .ref aG), (2, .ref aM), (3, .ref aO), (4, .ref (aO + 1))]) (next : LwN p l e s m args below meth c G cA H0 lo aG aM aO Top b j cells slots Q) : W p l e room_1 s m args below meth c H locs cells slots Q (F0 m 631 ls []) := by
  obtain ⟨⟨hl0, hx, hb, hml, hown, hts⟩, hN, hZ, hX3, hX, hbl, hbo, hL3⟩ := id F
  have hK := hN.1
  obtain ⟨D, hI, hP, hT, hL⟩ := St
  obtain ⟨res, bb, μ1, h1, h2, h3, h4, h5, h6⟩ := hS β.1 β.2.1 β.2.2.2.2 ix bs.length (xs (6 * j + 1)) hT
  cases res with
  | inl k =>
    refine lv_aload_n hx hb dL_law_631 rfl (lv_at hl 2 rfl) ?_
    refine lv_aload_n hx hb dL_law_632 rfl (lv_at hl 1 rfl) ?_
    refine lv_iload hx hb dL_law_633 (lv_at hl 0 rfl) ?_
    refine lv_iconst (v := 1) hx hb dL_law_635 (by decide) ?_
    refine lv_iadd hx hb dL_law_636 ?_
    rw [show nI (6 * j) + 1 = nI (6 * j + 1) from nI_add (6 * j) 1]
    refine lw_scr hx hb hX hbl hbo hL3 hL (by omega) dL_law_637 ?_
    refine lv_aload_n hx hb dL_law_638 rfl (lv_at hl 4 rfl) ?_
    refine wx_call (As := [.ref aG, .int (xs (6 * j + 1)), .ref aO]) (rest := []) ⟨hx, hb, hml, hown, hts⟩ (c_L_count (G := G) (cA := cA) (H0 := H0) (sv := svOf ix bs) hl0 D h1 h2) (vx_cwSW 3 hts (gSWx mw_834 mw_835 mw_130 mw_836) rfl rfl rfl hd_L_count ⟨Nat.le_of_ble_eq_true rfl, Nat.le_of_ble_eq_true rfl⟩) hN hZ hX3 hP rfl hl.1 rfl (Nat.le_of_ble_eq_true rfl) dL_law_639 ⟨by show cells + 1 ≤ 601024; omega, by show slots + 6 ≤ 7293034; omega⟩ hL (fun H locs hP hL => ?_)
    have hP : BW G cA H0 lo aG aM aO bs (svOf ix bs) β H := hP
    refine lv_istore (lv' := [(6, .int (wCode 1 (.inl k : Nat ⊕ (Int32)))), (5, .int (nI (6 * j))), (0, .ref b), (1, .ref aG), (2, .ref aM), (3, .ref aO), (4, .ref (aO + 1))]) hx hb dL_law_642 hl (by decide) rfl (fun ls hl => ?_)
    refine lv_aload_n hx hb dL_law_644 rfl (lv_at hl 4 rfl) ?_
    refine lv_aload_n hx hb dL_law_645 rfl (lv_at hl 2 rfl) ?_
    refine lv_iload hx hb dL_law_646 (lv_at hl 1 rfl) ?_
    refine lv_iconst (v := 1) hx hb dL_law_648 (by decide) ?_
    refine lv_iadd hx hb dL_law_649 ?_
    rw [show nI (6 * j) + 1 = nI (6 * j + 1) from nI_add (6 * j) 1]
    refine lw_scr hx hb hX hbl hbo hL3 hL (by omega) dL_law_650 ?_
    refine cx_callV (As := [.int (xs (6 * j + 1))]) (rest := []) ⟨hx, hb, hml, hown, hts⟩ (c_X9_count (BW_M (G := G) (cA := cA) (H0 := H0) (sv := (svOf ix bs)) D β) h3) (cwV 1 hts (gV mw_852 mw_853 mw_854 mw_5 mw_855) rfl rfl rfl hd_X9_count ⟨Nat.le_of_ble_eq_true rfl, Nat.le_of_ble_eq_true rfl⟩) hK hP rfl (at_Model (BW_M (G := G) (cA := cA) (H0 := H0) (sv := (svOf ix bs)) D β) hP) rfl hl.1 rfl (Nat.le_of_ble_eq_true rfl) dL_law_651 ⟨by show cells + 1 + 0 ≤ 601024; omega, by show slots + 6 + 0 ≤ 7293034; omega⟩ hL (fun H locs hP hL => ?_)
    have hP : BW G cA H0 lo aG aM aO bs (svOf ix bs) (β.1, μ1, β.2.2) H := hP
    refine lv_istore (lv' := [(7, .int bb), (6, .int (wCode 1 (.inl k : Nat ⊕ (Int32)))), (5, .int (nI (6 * j))), (0, .ref b), (1, .ref aG), (2, .ref aM), (3, .ref aO), (4, .ref (aO + 1))]) hx hb dL_law_654 hl (by decide) rfl (fun ls hl => ?_)
    refine lv_aload_n hx hb dL_law_656 rfl (lv_at hl 5 rfl) ?_
    refine cx_callV (As := []) (rest := []) ⟨hx, hb, hml, hown, hts⟩ (c_X9_thrown (BW_M (G := G) (cA := cA) (H0 := H0) (sv := (svOf ix bs)) D (β.1, μ1, β.2.2)) h4) (cwV 0 hts (gV mw_155 mw_156 mw_157 mw_5 mw_158) rfl rfl rfl hd_X9_thrown ⟨Nat.le_of_ble_eq_true rfl, Nat.le_of_ble_eq_true rfl⟩) hK hP rfl (at_Model (BW_M (G := G) (cA := cA) (H0 := H0) (sv := (svOf ix bs)) D (β.1, μ1, β.2.2)) hP) rfl hl.1 rfl (Nat.le_of_ble_eq_true rfl) dL_law_657 ⟨by show cells + 1 + 0 + 0 ≤ 601024; omega, by show slots + 6 + 0 + 0 ≤ 7293034; omega⟩ hL (fun H locs hP hL => ?_)
    refine lv_iload hx hb dL_law_660 (lv_at hl 1 rfl) ?_
    refine lv_icmp_eq (tgt := 667) hx hb dL_law_662 (by decide) (fun _ => ?_) (fun c8 => absurd rfl c8)
    refine lv_iload hx hb dL_law_667 (lv_at hl 1 rfl) ?_
    refine lv_if_ne (tgt := 684) hx hb dL_law_669 (by decide) (fun _ => ?_) (fun c8 => absurd c8 wCode_ne)
    refine lv_goto (tgt := 2386) hx hb dL_law_684 (by decide) ?_
    exact next (β.1, μ1, β.2.2) ix bs _ _ _ _ _ ⟨D, hI, hP, (h5 k rfl), hL⟩ (by omega) (by omega) (lv_sub hl [2, 3, 4, 5, 6, 7] rfl)
  | inr r =>
    obtain ⟨hbb, h6⟩ := h6 r rfl
    replace hbb := hbb.symm
    subst hbb
    refine lv_aload_n hx hb dL_law_631 rfl (lv_at hl 2 rfl) ?_
    refine lv_aload_n hx hb dL_law_632 rfl (lv_at hl 1 rfl) ?_
    refine lv_iload hx hb dL_law_633 (lv_at hl 0 rfl) ?_
    refine lv_iconst (v := 1) hx hb dL_law_635 (by decide) ?_
    refine lv_iadd hx hb dL_law_636 ?_
    rw [show nI (6 * j) + 1 = nI (6 * j + 1) from nI_add (6 * j) 1]
    refine lw_scr hx hb hX hbl hbo hL3 hL (by omega) dL_law_637 ?_
    refine lv_aload_n hx hb dL_law_638 rfl (lv_at hl 4 rfl) ?_
    refine wx_call (As := [.ref aG, .int (xs (6 * j + 1)), .ref aO]) (rest := []) ⟨hx, hb, hml, hown, hts⟩ (c_L_count (G := G) (cA := cA) (H0 := H0) (sv := svOf ix bs) hl0 D h1 h2) (vx_cwSW 3 hts (gSWx mw_834 mw_835 mw_130 mw_836) rfl rfl rfl hd_L_count ⟨Nat.le_of_ble_eq_true rfl, Nat.le_of_ble_eq_true rfl⟩) hN hZ hX3 hP rfl hl.1 rfl (Nat.le_of_ble_eq_true rfl) dL_law_639 ⟨by show cells + 1 ≤ 601024; omega, by show slots + 6 ≤ 7293034; omega⟩ hL (fun H locs hP hL => ?_)
    have hP : BW G cA H0 lo aG aM aO bs (svOf ix bs) (β.1, β.2.1, oUp β.2.2.1 (Int32.toInt64 r), β.2.2.2) H := hP
    refine lv_istore (lv' := [(6, .int 0), (5, .int (nI (6 * j))), (0, .ref b), (1, .ref aG), (2, .ref aM), (3, .ref aO), (4, .ref (aO + 1))]) hx hb dL_law_642 hl (by decide) rfl (fun ls hl => ?_)
    refine lv_aload_n hx hb dL_law_644 rfl (lv_at hl 4 rfl) ?_
    refine lv_aload_n hx hb dL_law_645 rfl (lv_at hl 2 rfl) ?_
    refine lv_iload hx hb dL_law_646 (lv_at hl 1 rfl) ?_
    refine lv_iconst (v := 1) hx hb dL_law_648 (by decide) ?_
    refine lv_iadd hx hb dL_law_649 ?_
    rw [show nI (6 * j) + 1 = nI (6 * j + 1) from nI_add (6 * j) 1]
    refine lw_scr hx hb hX hbl hbo hL3 hL (by omega) dL_law_650 ?_
    refine cx_callV (As := [.int (xs (6 * j + 1))]) (rest := []) ⟨hx, hb, hml, hown, hts⟩ (c_X9_count (BW_M (G := G) (cA := cA) (H0 := H0) (sv := (svOf ix bs)) D (β.1, β.2.1, oUp β.2.2.1 (Int32.toInt64 r), β.2.2.2)) h3) (cwV 1 hts (gV mw_852 mw_853 mw_854 mw_5 mw_855) rfl rfl rfl hd_X9_count ⟨Nat.le_of_ble_eq_true rfl, Nat.le_of_ble_eq_true rfl⟩) hK hP rfl (at_Model (BW_M (G := G) (cA := cA) (H0 := H0) (sv := (svOf ix bs)) D (β.1, β.2.1, oUp β.2.2.1 (Int32.toInt64 r), β.2.2.2)) hP) rfl hl.1 rfl (Nat.le_of_ble_eq_true rfl) dL_law_651 ⟨by show cells + 1 + 0 ≤ 601024; omega, by show slots + 6 + 0 ≤ 7293034; omega⟩ hL (fun H locs hP hL => ?_)
    have hP : BW G cA H0 lo aG aM aO bs (svOf ix bs) (β.1, μ1, oUp β.2.2.1 (Int32.toInt64 r), β.2.2.2) H := hP
    refine lv_istore (lv' := [(7, .int r), (6, .int 0), (5, .int (nI (6 * j))), (0, .ref b), (1, .ref aG), (2, .ref aM), (3, .ref aO), (4, .ref (aO + 1))]) hx hb dL_law_654 hl (by decide) rfl (fun ls hl => ?_)
    refine lv_aload_n hx hb dL_law_656 rfl (lv_at hl 5 rfl) ?_
    refine cx_callV (As := []) (rest := []) ⟨hx, hb, hml, hown, hts⟩ (c_X9_thrown (BW_M (G := G) (cA := cA) (H0 := H0) (sv := (svOf ix bs)) D (β.1, μ1, oUp β.2.2.1 (Int32.toInt64 r), β.2.2.2)) h4) (cwV 0 hts (gV mw_155 mw_156 mw_157 mw_5 mw_158) rfl rfl rfl hd_X9_thrown ⟨Nat.le_of_ble_eq_true rfl, Nat.le_of_ble_eq_true rfl⟩) hK hP rfl (at_Model (BW_M (G := G) (cA := cA) (H0 := H0) (sv := (svOf ix bs)) D (β.1, μ1, oUp β.2.2.1 (Int32.toInt64 r), β.2.2.2)) hP) rfl hl.1 rfl (Nat.le_of_ble_eq_true rfl) dL_law_657 ⟨by show cells + 1 + 0 + 0 ≤ 601024; omega, by show slots + 6 + 0 + 0 ≤ 7293034; omega⟩ hL (fun H locs hP hL => ?_)
    refine lv_iload hx hb dL_law_660 (lv_at hl 1 rfl) ?_
    refine lv_icmp_eq (tgt := 667) hx hb dL_law_662 (by decide) (fun _ => ?_) (fun c8 => absurd rfl c8)
    refine lv_iload hx hb dL_law_667 (lv_at hl 1 rfl) ?_
    refine lv_if_ne (tgt := 684) hx hb dL_law_669 (by decide) (fun c8 => absurd rfl c8) (fun _ => ?_)
    refine lv_aload_n hx hb dL_law_672 rfl (lv_at hl 6 rfl) ?_
    refine lv_iconst (v := 0) hx hb dL_law_673 (by decide) ?_
    refine va_lald hx hb hK (cx_one ((BW_O (G := G) (cA := cA) (H0 := H0) (sv := (svOf ix bs)) D (β.1, μ1, oUp β.2.2.1 (Int32.toInt64 r), β.2.2.2)).1 _ H hP 0 (by decide))) 0 2 rfl rfl (nI_in (c := 0) (N := 1) (by decide) (by decide)) dL_law_674 ?_
    rw [oUp_0]
    refine lv_iload hx hb dL_law_675 (lv_at hl 0 rfl) ?_
    refine lv_i2l hx hb dL_law_677 rfl ?_
    refine cx_lceq (tgt := 684) hx hb dL_law_678 dL_law_679 (by decide) (fun _ => ?_) (fun c8 => absurd rfl c8)
    refine lv_goto (tgt := 2386) hx hb dL_law_684 (by decide) ?_
    exact next (β.1, μ1, oUp β.2.2.1 (Int32.toInt64 r), β.2.2.2) ix bs _ _ _ _ _ ⟨D, hI, hP, h6, hL⟩ (by omega) (by omega) (lv_sub hl [2, 3, 4, 5, 6, 7] rfl)
