abbrev TopT : Type := GLS → MdlS → (Nat → CacS) → (Nat → Option Nat) → Nat → Prop
theorem wCode_ne {α : Type} {k1 k : Nat} : ¬ wCode k1 (.inl k : Nat ⊕ α) = 0 := by
  unfold wCode
  by_cases h : k = k1
  · show ¬ (if k = k1 then (1 : Int32) else 2) = 0
    rw [if_pos h]; decide
  · show ¬ (if k = k1 then (1 : Int32) else 2) = 0
    rw [if_neg h]; decide
theorem oUp_0 (f : Nat → Int64) (x : Int64) : oUp f x (Int32.toNatClampNeg 0) = x := by
  unfold oUp vp_updL
  simp
theorem dUp_0 (f : Nat → UInt64) (x : UInt64) : dUp f x (Int32.toNatClampNeg 0) = x := by
  unfold dUp vf_upd
  simp
/-- what stands through the law -/
def LwF (l : Launch) (p : Program) (s : State) (m : MethodId) (args : Array Value) (c : Code) (G : va_G) (cA : Nat → ClassId) (lo : Nat) (z : ZS) (b L : Nat) (xs : Nat → Int32) : Prop :=
  (l.stackTraces = false ∧ p.tables.exec = Jvm.exec ∧ c.code = cL_law ∧ c.maxLocals = 10 ∧ s.vm.findClass RL = some m.cls ∧ ∀ w ∈ WL, w.before args s = true) ∧ cKn G cA s ∧ Zt lo z s ∧ Nc3 s ∧ va_X b L xs s s.heap ∧ b < s.heap.size ∧ b < lo ∧ L ≤ 3072
/-- where a run stands between two calls -/
def LwS (G : va_G) (cA : Nat → ClassId) (H0 : Heap) (lo aG aM aO : Nat) (Top : TopT) (β : BigS) (ix : Nat → Option Nat) (bs : List Nat) (H : Heap) (locs : List Loc) : Prop :=
  Dj lo aG aM aO bs ∧ IxOk ix bs.length ∧ BW G cA H0 lo aG aM aO bs (svOf ix bs) β H ∧ Top β.1 β.2.1 β.2.2.2.2 ix bs.length ∧ ∀ q ∈ locs, lo ≤ q.base
def LwN (p : Program) (l : Launch) (e : Env) (s : State) (m : MethodId) (args : Array Value) (below : List Frame) (meth : Method) (c : Code) (G : va_G) (cA : Nat → ClassId) (H0 : Heap) (lo aG aM aO : Nat) (Top : TopT) (b j cells slots : Nat) (Q : State → Prop) : Prop :=
  ∀ (β : BigS) (ix : Nat → Option Nat) (bs : List Nat) (H : Heap) (locs : List Loc) (cl sl : Nat) (ls : Array Slot), LwS G cA H0 lo aG aM aO Top β ix bs H locs → cl ≤ cells + 25 → sl ≤ slots + 1404 → lv_has ls 10 [(5, .int (nI (6 * j))), (0, .ref b), (1, .ref aG), (2, .ref aM), (3, .ref aO), (4, .ref (aO + 1))] → W p l e room_1 s m args below meth c H locs cl sl Q (F0 m 2386 ls [])
section LWR
variable {p : Program} {l : Launch} {e : Env} {R : Room} {s : State} {m : MethodId} {args : Array Value} {below : List Frame} {meth : Method} {c : Code} {H : Heap} {locs : List Loc} {cells slots : Nat} {Q : State → Prop}
variable {cc : ByteArray} {pc : Nat} {ls : Array Slot} {rest : List Value}
theorem lw_scr (hexec : p.tables.exec = Jvm.exec) (hb : c.code = cc) {lo b L : Nat} {xs : Nat → Int32} (hX : va_X b L xs s s.heap) (hbl : b < s.heap.size) (hbo : b < lo) (hL : L ≤ 3072) (hS : ∀ q ∈ locs, lo ≤ q.base) {j : Nat} (hj : j < L) (hdg : decode cc pc = .ok (.iaload, 1))
    (kk : W p l e R s m args below meth c H locs cells slots Q (F0 m (pc + 1) ls (.int (xs j) :: rest))) : W p l e R s m args below meth c H locs cells slots Q (F0 m pc ls (.int (nI j) :: .ref b :: rest)) := by
  refine cz_S hS (fun hS => va_sld hexec hb hX hbl (Nat.not_le.mpr hbo) hS (nI_in hj (by omega)) hdg ?_)
  rw [nI_clamp (show j < 2 ^ 31 by omega)]
  exact kk
end LWR
def Sim_appendText (N : Nat) (Top Toq : TopT) : Prop := ∀ (γ : GLS) (μ : MdlS) (κ : Nat → CacS) (ix : Nat → Option Nat) (nb : Nat) (p0 : Int32), Top γ μ κ ix nb → ∃ (res : Nat ⊕ (Int32 × GLS)) (b : Int32) (μ1 : MdlS), f_X8_appendText N γ p0 = some res ∧ (∀ k, res = .inl k → k = 2) ∧ f_X9_appendText N μ p0 = some (b, μ1) ∧ f_X9_thrown μ1 = some (wCode 2 res) ∧ (∀ k, res = .inl k → Toq γ μ1 κ ix nb) ∧ ∀ r, res = .inr r → b = r.1 ∧ Toq r.2 μ1 κ ix nb
set_option maxHeartbeats 2000000 in
set_option maxRecDepth 100000 in
theorem w_law_appendText {p : Program} {l : Launch} {e : Env} {s : State} {m : MethodId} {args : Array Value} {below : List Frame} {meth : Method} {c : Code} {G : va_G} {cA : Nat → ClassId} {H0 : Heap} {lo aG aM aO : Nat} {z : ZS} {Top Toq : TopT} {b L j N cells slots : Nat} {xs : Nat → Int32} {Q : State → Prop} (F : LwF l p s m args c G cA lo z b L xs) (hj : 6 * j + 5 < L) (hS : Sim_appendText N Top Toq) {β : BigS} {ix : Nat → Option Nat} {bs : List Nat} {H : Heap} {locs : List Loc} {ls : Array Slot} (St : LwS G cA H0 lo aG aM aO Top β ix bs H locs) (hcs : cells ≤ 500000) (hss : slots ≤ 7000000) (hl : lv_has ls 10 [(5, .int (nI (6 * j))), (0, .ref b), (1, .ref aG), (2, .ref aM), (3, .ref aO), (4, .ref (aO + 1))]) (next : LwN p l e s m args below meth c G cA H0 lo aG aM aO Toq b j cells slots Q) : W p l e room_1 s m args below meth c H locs cells slots Q (F0 m 220 ls []) := by
  obtain ⟨⟨hl0, hx, hb, hml, hown, hts⟩, hN, hZ, hX3, hX, hbl, hbo, hL3⟩ := id F
  have hK := hN.1
  obtain ⟨D, hI, hP, hT, hL⟩ := St
  obtain ⟨res, bb, μ1, h1, h2, h3, h4, h5, h6⟩ := hS β.1 β.2.1 β.2.2.2.2 ix bs.length (xs (6 * j + 1)) hT
  cases res with
  | inl k =>
    refine lv_aload_n hx hb dL_law_220 rfl (lv_at hl 2 rfl) ?_
    refine lv_aload_n hx hb dL_law_221 rfl (lv_at hl 1 rfl) ?_
    refine lv_iload hx hb dL_law_222 (lv_at hl 0 rfl) ?_
    refine lv_iconst (v := 1) hx hb dL_law_224 (by decide) ?_
    refine lv_iadd hx hb dL_law_225 ?_
    rw [show nI (6 * j) + 1 = nI (6 * j + 1) from nI_add (6 * j) 1]
    refine lw_scr hx hb hX hbl hbo hL3 hL (by omega) dL_law_226 ?_
    refine lv_aload_n hx hb dL_law_227 rfl (lv_at hl 4 rfl) ?_
    refine wx_call (As := [.ref aG, .int (xs (6 * j + 1)), .ref aO]) (rest := []) ⟨hx, hb, hml, hown, hts⟩ (c_L_appendText (G := G) (cA := cA) (H0 := H0) (sv := svOf ix bs) hl0 D h1 h2) (vx_cwSW 3 hts (gSWx mw_128 mw_129 mw_130 mw_131) rfl rfl rfl hd_L_appendText ⟨Nat.le_of_ble_eq_true rfl, Nat.le_of_ble_eq_true rfl⟩) hN hZ hX3 hP rfl hl.1 rfl (Nat.le_of_ble_eq_true rfl) dL_law_228 ⟨by show cells + 1 ≤ 601024; omega, by show slots + 6 ≤ 7293034; omega⟩ hL (fun H locs hP hL => ?_)
    have hP : BW G cA H0 lo aG aM aO bs (svOf ix bs) β H := hP
    refine lv_istore (lv' := [(6, .int (wCode 2 (.inl k : Nat ⊕ (Int32 × GLS)))), (5, .int (nI (6 * j))), (0, .ref b), (1, .ref aG), (2, .ref aM), (3, .ref aO), (4, .ref (aO + 1))]) hx hb dL_law_231 hl (by decide) rfl (fun ls hl => ?_)
    refine lv_aload_n hx hb dL_law_233 rfl (lv_at hl 4 rfl) ?_
    refine lv_aload_n hx hb dL_law_234 rfl (lv_at hl 2 rfl) ?_
    refine lv_iload hx hb dL_law_235 (lv_at hl 1 rfl) ?_
    refine lv_iconst (v := 1) hx hb dL_law_237 (by decide) ?_
    refine lv_iadd hx hb dL_law_238 ?_
    rw [show nI (6 * j) + 1 = nI (6 * j + 1) from nI_add (6 * j) 1]
    refine lw_scr hx hb hX hbl hbo hL3 hL (by omega) dL_law_239 ?_
    refine cx_callV (As := [.int (xs (6 * j + 1))]) (rest := []) ⟨hx, hb, hml, hown, hts⟩ (c_X9_appendText (BW_M (G := G) (cA := cA) (H0 := H0) (sv := (svOf ix bs)) D β) h3) (cwV 1 hts (gV mw_145 mw_146 mw_147 mw_5 mw_148) rfl rfl rfl hd_X9_appendText ⟨Nat.le_of_ble_eq_true rfl, Nat.le_of_ble_eq_true rfl⟩) hK hP rfl (at_Model (BW_M (G := G) (cA := cA) (H0 := H0) (sv := (svOf ix bs)) D β) hP) rfl hl.1 rfl (Nat.le_of_ble_eq_true rfl) dL_law_240 ⟨by show cells + 1 + 0 ≤ 601024; omega, by show slots + 6 + 0 ≤ 7293034; omega⟩ hL (fun H locs hP hL => ?_)
    have hP : BW G cA H0 lo aG aM aO bs (svOf ix bs) (β.1, μ1, β.2.2) H := hP
    refine lv_istore (lv' := [(7, .int bb), (6, .int (wCode 2 (.inl k : Nat ⊕ (Int32 × GLS)))), (5, .int (nI (6 * j))), (0, .ref b), (1, .ref aG), (2, .ref aM), (3, .ref aO), (4, .ref (aO + 1))]) hx hb dL_law_243 hl (by decide) rfl (fun ls hl => ?_)
    refine lv_aload_n hx hb dL_law_245 rfl (lv_at hl 5 rfl) ?_
    refine cx_callV (As := []) (rest := []) ⟨hx, hb, hml, hown, hts⟩ (c_X9_thrown (BW_M (G := G) (cA := cA) (H0 := H0) (sv := (svOf ix bs)) D (β.1, μ1, β.2.2)) h4) (cwV 0 hts (gV mw_155 mw_156 mw_157 mw_5 mw_158) rfl rfl rfl hd_X9_thrown ⟨Nat.le_of_ble_eq_true rfl, Nat.le_of_ble_eq_true rfl⟩) hK hP rfl (at_Model (BW_M (G := G) (cA := cA) (H0 := H0) (sv := (svOf ix bs)) D (β.1, μ1, β.2.2)) hP) rfl hl.1 rfl (Nat.le_of_ble_eq_true rfl) dL_law_246 ⟨by show cells + 1 + 0 + 0 ≤ 601024; omega, by show slots + 6 + 0 + 0 ≤ 7293034; omega⟩ hL (fun H locs hP hL => ?_)
    refine lv_iload hx hb dL_law_249 (lv_at hl 1 rfl) ?_
    refine lv_icmp_eq (tgt := 256) hx hb dL_law_251 (by decide) (fun _ => ?_) (fun c8 => absurd rfl c8)
    refine lv_iload hx hb dL_law_256 (lv_at hl 1 rfl) ?_
    refine lv_if_ne (tgt := 273) hx hb dL_law_258 (by decide) (fun _ => ?_) (fun c8 => absurd c8 wCode_ne)
    refine lv_goto (tgt := 2386) hx hb dL_law_273 (by decide) ?_
    exact next (β.1, μ1, β.2.2) ix bs _ _ _ _ _ ⟨D, hI, hP, (h5 k rfl), hL⟩ (by omega) (by omega) (lv_sub hl [2, 3, 4, 5, 6, 7] rfl)
  | inr r =>
    obtain ⟨hbb, h7⟩ := h6 r rfl
    replace hbb := hbb.symm
    subst hbb
    refine lv_aload_n hx hb dL_law_220 rfl (lv_at hl 2 rfl) ?_
    refine lv_aload_n hx hb dL_law_221 rfl (lv_at hl 1 rfl) ?_
    refine lv_iload hx hb dL_law_222 (lv_at hl 0 rfl) ?_
    refine lv_iconst (v := 1) hx hb dL_law_224 (by decide) ?_
    refine lv_iadd hx hb dL_law_225 ?_
    rw [show nI (6 * j) + 1 = nI (6 * j + 1) from nI_add (6 * j) 1]
    refine lw_scr hx hb hX hbl hbo hL3 hL (by omega) dL_law_226 ?_
    refine lv_aload_n hx hb dL_law_227 rfl (lv_at hl 4 rfl) ?_
    refine wx_call (As := [.ref aG, .int (xs (6 * j + 1)), .ref aO]) (rest := []) ⟨hx, hb, hml, hown, hts⟩ (c_L_appendText (G := G) (cA := cA) (H0 := H0) (sv := svOf ix bs) hl0 D h1 h2) (vx_cwSW 3 hts (gSWx mw_128 mw_129 mw_130 mw_131) rfl rfl rfl hd_L_appendText ⟨Nat.le_of_ble_eq_true rfl, Nat.le_of_ble_eq_true rfl⟩) hN hZ hX3 hP rfl hl.1 rfl (Nat.le_of_ble_eq_true rfl) dL_law_228 ⟨by show cells + 1 ≤ 601024; omega, by show slots + 6 ≤ 7293034; omega⟩ hL (fun H locs hP hL => ?_)
    have hP : BW G cA H0 lo aG aM aO bs (svOf ix bs) (r.2, β.2.1, oUp β.2.2.1 (Int32.toInt64 r.1), β.2.2.2) H := hP
    refine lv_istore (lv' := [(6, .int 0), (5, .int (nI (6 * j))), (0, .ref b), (1, .ref aG), (2, .ref aM), (3, .ref aO), (4, .ref (aO + 1))]) hx hb dL_law_231 hl (by decide) rfl (fun ls hl => ?_)
    refine lv_aload_n hx hb dL_law_233 rfl (lv_at hl 4 rfl) ?_
    refine lv_aload_n hx hb dL_law_234 rfl (lv_at hl 2 rfl) ?_
    refine lv_iload hx hb dL_law_235 (lv_at hl 1 rfl) ?_
    refine lv_iconst (v := 1) hx hb dL_law_237 (by decide) ?_
    refine lv_iadd hx hb dL_law_238 ?_
    rw [show nI (6 * j) + 1 = nI (6 * j + 1) from nI_add (6 * j) 1]
    refine lw_scr hx hb hX hbl hbo hL3 hL (by omega) dL_law_239 ?_
    refine cx_callV (As := [.int (xs (6 * j + 1))]) (rest := []) ⟨hx, hb, hml, hown, hts⟩ (c_X9_appendText (BW_M (G := G) (cA := cA) (H0 := H0) (sv := (svOf ix bs)) D (r.2, β.2.1, oUp β.2.2.1 (Int32.toInt64 r.1), β.2.2.2)) h3) (cwV 1 hts (gV mw_145 mw_146 mw_147 mw_5 mw_148) rfl rfl rfl hd_X9_appendText ⟨Nat.le_of_ble_eq_true rfl, Nat.le_of_ble_eq_true rfl⟩) hK hP rfl (at_Model (BW_M (G := G) (cA := cA) (H0 := H0) (sv := (svOf ix bs)) D (r.2, β.2.1, oUp β.2.2.1 (Int32.toInt64 r.1), β.2.2.2)) hP) rfl hl.1 rfl (Nat.le_of_ble_eq_true rfl) dL_law_240 ⟨by show cells + 1 + 0 ≤ 601024; omega, by show slots + 6 + 0 ≤ 7293034; omega⟩ hL (fun H locs hP hL => ?_)
    have hP : BW G cA H0 lo aG aM aO bs (svOf ix bs) (r.2, μ1, oUp β.2.2.1 (Int32.toInt64 r.1), β.2.2.2) H := hP
    refine lv_istore (lv' := [(7, .int r.1), (6, .int 0), (5, .int (nI (6 * j))), (0, .ref b), (1, .ref aG), (2, .ref aM), (3, .ref aO), (4, .ref (aO + 1))]) hx hb dL_law_243 hl (by decide) rfl (fun ls hl => ?_)
    refine lv_aload_n hx hb dL_law_245 rfl (lv_at hl 5 rfl) ?_
    refine cx_callV (As := []) (rest := []) ⟨hx, hb, hml, hown, hts⟩ (c_X9_thrown (BW_M (G := G) (cA := cA) (H0 := H0) (sv := (svOf ix bs)) D (r.2, μ1, oUp β.2.2.1 (Int32.toInt64 r.1), β.2.2.2)) h4) (cwV 0 hts (gV mw_155 mw_156 mw_157 mw_5 mw_158) rfl rfl rfl hd_X9_thrown ⟨Nat.le_of_ble_eq_true rfl, Nat.le_of_ble_eq_true rfl⟩) hK hP rfl (at_Model (BW_M (G := G) (cA := cA) (H0 := H0) (sv := (svOf ix bs)) D (r.2, μ1, oUp β.2.2.1 (Int32.toInt64 r.1), β.2.2.2)) hP) rfl hl.1 rfl (Nat.le_of_ble_eq_true rfl) dL_law_246 ⟨by show cells + 1 + 0 + 0 ≤ 601024; omega, by show slots + 6 + 0 + 0 ≤ 7293034; omega⟩ hL (fun H locs hP hL => ?_)
    refine lv_iload hx hb dL_law_249 (lv_at hl 1 rfl) ?_
    refine lv_icmp_eq (tgt := 256) hx hb dL_law_251 (by decide) (fun _ => ?_) (fun c8 => absurd rfl c8)
    refine lv_iload hx hb dL_law_256 (lv_at hl 1 rfl) ?_
    refine lv_if_ne (tgt := 273) hx hb dL_law_258 (by decide) (fun c8 => absurd rfl c8) (fun _ => ?_)
    refine lv_aload_n hx hb dL_law_261 rfl (lv_at hl 6 rfl) ?_
    refine lv_iconst (v := 0) hx hb dL_law_262 (by decide) ?_
    refine va_lald hx hb hK (cx_one ((BW_O (G := G) (cA := cA) (H0 := H0) (sv := (svOf ix bs)) D (r.2, μ1, oUp β.2.2.1 (Int32.toInt64 r.1), β.2.2.2)).1 _ H hP 0 (by decide))) 0 2 rfl rfl (nI_in (c := 0) (N := 1) (by decide) (by decide)) dL_law_263 ?_
    rw [oUp_0]
    refine lv_iload hx hb dL_law_264 (lv_at hl 0 rfl) ?_
    refine lv_i2l hx hb dL_law_266 rfl ?_
    refine cx_lceq (tgt := 273) hx hb dL_law_267 dL_law_268 (by decide) (fun _ => ?_) (fun c8 => absurd rfl c8)
    refine lv_goto (tgt := 2386) hx hb dL_law_273 (by decide) ?_
    exact next (r.2, μ1, oUp β.2.2.1 (Int32.toInt64 r.1), β.2.2.2) ix bs _ _ _ _ _ ⟨D, hI, hP, h7, hL⟩ (by omega) (by omega) (lv_sub hl [2, 3, 4, 5, 6, 7] rfl)
def Sim_truncateText (N : Nat) (Top Toq : TopT) : Prop := ∀ (γ : GLS) (μ : MdlS) (κ : Nat → CacS) (ix : Nat → Option Nat) (nb : Nat) (p0 : Int32), Top γ μ κ ix nb → ∃ (res : Nat ⊕ (Int32 × GLS)) (b : Int32) (μ1 : MdlS), f_X8_truncateText γ p0 = some res ∧ (∀ k, res = .inl k → k = 1) ∧ f_X9_truncateText μ p0 = some (b, μ1) ∧ f_X9_thrown μ1 = some (wCode 1 res) ∧ (∀ k, res = .inl k → Toq γ μ1 κ ix nb) ∧ ∀ r, res = .inr r → b = r.1 ∧ Toq r.2 μ1 κ ix nb
set_option maxHeartbeats 2000000 in
set_option maxRecDepth 100000 in
theorem w_law_truncateText {p : Program} {l : Launch} {e : Env} {s : State} {m : MethodId} {args : Array Value} {below : List Frame} {meth : Method} {c : Code} {G : va_G} {cA : Nat → ClassId} {H0 : Heap} {lo aG aM aO : Nat} {z : ZS} {Top Toq : TopT} {b L j N cells slots : Nat} {xs : Nat → Int32} {Q : State → Prop} (F : LwF l p s m args c G cA lo z b L xs) (hj : 6 * j + 5 < L) (hS : Sim_truncateText N Top Toq) {β : BigS} {ix : Nat → Option Nat} {bs : List Nat} {H : Heap} {locs : List Loc} {ls : Array Slot} (St : LwS G cA H0 lo aG aM aO Top β ix bs H locs) (hcs : cells ≤ 500000) (hss : slots ≤ 7000000) (hl : lv_has ls 10 [(5, .int (nI (6 * j))), (0, .ref b), (1, .ref aG), (2, .ref aM), (3, .ref aO), (4, .ref (aO + 1))]) (next : LwN p l e s m args below meth c G cA H0 lo aG aM aO Toq b j cells slots Q) : W p l e room_1 s m args below meth c H locs cells slots Q (F0 m 276 ls []) := by
  obtain ⟨⟨hl0, hx, hb, hml, hown, hts⟩, hN, hZ, hX3, hX, hbl, hbo, hL3⟩ := id F
  have hK := hN.1
  obtain ⟨D, hI, hP, hT, hL⟩ := St
  obtain ⟨res, bb, μ1, h1, h2, h3, h4, h5, h6⟩ := hS β.1 β.2.1 β.2.2.2.2 ix bs.length (xs (6 * j + 1)) hT
  cases res with
  | inl k =>
    refine lv_aload_n hx hb dL_law_276 rfl (lv_at hl 2 rfl) ?_
    refine lv_aload_n hx hb dL_law_277 rfl (lv_at hl 1 rfl) ?_
    refine lv_iload hx hb dL_law_278 (lv_at hl 0 rfl) ?_
    refine lv_iconst (v := 1) hx hb dL_law_280 (by decide) ?_
    refine lv_iadd hx hb dL_law_281 ?_
    rw [show nI (6 * j) + 1 = nI (6 * j + 1) from nI_add (6 * j) 1]
    refine lw_scr hx hb hX hbl hbo hL3 hL (by omega) dL_law_282 ?_
    refine lv_aload_n hx hb dL_law_283 rfl (lv_at hl 4 rfl) ?_
    refine wx_call (As := [.ref aG, .int (xs (6 * j + 1)), .ref aO]) (rest := []) ⟨hx, hb, hml, hown, hts⟩ (c_L_truncateText (G := G) (cA := cA) (H0 := H0) (sv := svOf ix bs) hl0 D h1 h2) (vx_cwSW 3 hts (gSWx mw_159 mw_160 mw_130 mw_161) rfl rfl rfl hd_L_truncateText ⟨Nat.le_of_ble_eq_true rfl, Nat.le_of_ble_eq_true rfl⟩) hN hZ hX3 hP rfl hl.1 rfl (Nat.le_of_ble_eq_true rfl) dL_law_284 ⟨by show cells + 1 ≤ 601024; omega, by show slots + 6 ≤ 7293034; omega⟩ hL (fun H locs hP hL => ?_)
    have hP : BW G cA H0 lo aG aM aO bs (svOf ix bs) β H := hP
    refine lv_istore (lv' := [(6, .int (wCode 1 (.inl k : Nat ⊕ (Int32 × GLS)))), (5, .int (nI (6 * j))), (0, .ref b), (1, .ref aG), (2, .ref aM), (3, .ref aO), (4, .ref (aO + 1))]) hx hb dL_law_287 hl (by decide) rfl (fun ls hl => ?_)
    refine lv_aload_n hx hb dL_law_289 rfl (lv_at hl 4 rfl) ?_
    refine lv_aload_n hx hb dL_law_290 rfl (lv_at hl 2 rfl) ?_
    refine lv_iload hx hb dL_law_291 (lv_at hl 1 rfl) ?_
    refine lv_iconst (v := 1) hx hb dL_law_293 (by decide) ?_
    refine lv_iadd hx hb dL_law_294 ?_
    rw [show nI (6 * j) + 1 = nI (6 * j + 1) from nI_add (6 * j) 1]
    refine lw_scr hx hb hX hbl hbo hL3 hL (by omega) dL_law_295 ?_
    refine cx_callV (As := [.int (xs (6 * j + 1))]) (rest := []) ⟨hx, hb, hml, hown, hts⟩ (c_X9_truncateText (BW_M (G := G) (cA := cA) (H0 := H0) (sv := (svOf ix bs)) D β) h3) (cwV 1 hts (gV mw_172 mw_173 mw_174 mw_5 mw_175) rfl rfl rfl hd_X9_truncateText ⟨Nat.le_of_ble_eq_true rfl, Nat.le_of_ble_eq_true rfl⟩) hK hP rfl (at_Model (BW_M (G := G) (cA := cA) (H0 := H0) (sv := (svOf ix bs)) D β) hP) rfl hl.1 rfl (Nat.le_of_ble_eq_true rfl) dL_law_296 ⟨by show cells + 1 + 0 ≤ 601024; omega, by show slots + 6 + 0 ≤ 7293034; omega⟩ hL (fun H locs hP hL => ?_)
    have hP : BW G cA H0 lo aG aM aO bs (svOf ix bs) (β.1, μ1, β.2.2) H := hP
    refine lv_istore (lv' := [(7, .int bb), (6, .int (wCode 1 (.inl k : Nat ⊕ (Int32 × GLS)))), (5, .int (nI (6 * j))), (0, .ref b), (1, .ref aG), (2, .ref aM), (3, .ref aO), (4, .ref (aO + 1))]) hx hb dL_law_299 hl (by decide) rfl (fun ls hl => ?_)
    refine lv_aload_n hx hb dL_law_301 rfl (lv_at hl 5 rfl) ?_
    refine cx_callV (As := []) (rest := []) ⟨hx, hb, hml, hown, hts⟩ (c_X9_thrown (BW_M (G := G) (cA := cA) (H0 := H0) (sv := (svOf ix bs)) D (β.1, μ1, β.2.2)) h4) (cwV 0 hts (gV mw_155 mw_156 mw_157 mw_5 mw_158) rfl rfl rfl hd_X9_thrown ⟨Nat.le_of_ble_eq_true rfl, Nat.le_of_ble_eq_true rfl⟩) hK hP rfl (at_Model (BW_M (G := G) (cA := cA) (H0 := H0) (sv := (svOf ix bs)) D (β.1, μ1, β.2.2)) hP) rfl hl.1 rfl (Nat.le_of_ble_eq_true rfl) dL_law_302 ⟨by show cells + 1 + 0 + 0 ≤ 601024; omega, by show slots + 6 + 0 + 0 ≤ 7293034; omega⟩ hL (fun H locs hP hL => ?_)
    refine lv_iload hx hb dL_law_305 (lv_at hl 1 rfl) ?_
    refine lv_icmp_eq (tgt := 312) hx hb dL_law_307 (by decide) (fun _ => ?_) (fun c8 => absurd rfl c8)
    refine lv_iload hx hb dL_law_312 (lv_at hl 1 rfl) ?_
    refine lv_if_ne (tgt := 329) hx hb dL_law_314 (by decide) (fun _ => ?_) (fun c8 => absurd c8 wCode_ne)
    refine lv_goto (tgt := 2386) hx hb dL_law_329 (by decide) ?_
    exact next (β.1, μ1, β.2.2) ix bs _ _ _ _ _ ⟨D, hI, hP, (h5 k rfl), hL⟩ (by omega) (by omega) (lv_sub hl [2, 3, 4, 5, 6, 7] rfl)
  | inr r =>
    obtain ⟨hbb, h7⟩ := h6 r rfl
    replace hbb := hbb.symm
    subst hbb
    refine lv_aload_n hx hb dL_law_276 rfl (lv_at hl 2 rfl) ?_
    refine lv_aload_n hx hb dL_law_277 rfl (lv_at hl 1 rfl) ?_
    refine lv_iload hx hb dL_law_278 (lv_at hl 0 rfl) ?_
    refine lv_iconst (v := 1) hx hb dL_law_280 (by decide) ?_
    refine lv_iadd hx hb dL_law_281 ?_
    rw [show nI (6 * j) + 1 = nI (6 * j + 1) from nI_add (6 * j) 1]
    refine lw_scr hx hb hX hbl hbo hL3 hL (by omega) dL_law_282 ?_
    refine lv_aload_n hx hb dL_law_283 rfl (lv_at hl 4 rfl) ?_
    refine wx_call (As := [.ref aG, .int (xs (6 * j + 1)), .ref aO]) (rest := []) ⟨hx, hb, hml, hown, hts⟩ (c_L_truncateText (G := G) (cA := cA) (H0 := H0) (sv := svOf ix bs) hl0 D h1 h2) (vx_cwSW 3 hts (gSWx mw_159 mw_160 mw_130 mw_161) rfl rfl rfl hd_L_truncateText ⟨Nat.le_of_ble_eq_true rfl, Nat.le_of_ble_eq_true rfl⟩) hN hZ hX3 hP rfl hl.1 rfl (Nat.le_of_ble_eq_true rfl) dL_law_284 ⟨by show cells + 1 ≤ 601024; omega, by show slots + 6 ≤ 7293034; omega⟩ hL (fun H locs hP hL => ?_)
    have hP : BW G cA H0 lo aG aM aO bs (svOf ix bs) (r.2, β.2.1, oUp β.2.2.1 (Int32.toInt64 r.1), β.2.2.2) H := hP
    refine lv_istore (lv' := [(6, .int 0), (5, .int (nI (6 * j))), (0, .ref b), (1, .ref aG), (2, .ref aM), (3, .ref aO), (4, .ref (aO + 1))]) hx hb dL_law_287 hl (by decide) rfl (fun ls hl => ?_)
    refine lv_aload_n hx hb dL_law_289 rfl (lv_at hl 4 rfl) ?_
    refine lv_aload_n hx hb dL_law_290 rfl (lv_at hl 2 rfl) ?_
    refine lv_iload hx hb dL_law_291 (lv_at hl 1 rfl) ?_
    refine lv_iconst (v := 1) hx hb dL_law_293 (by decide) ?_
    refine lv_iadd hx hb dL_law_294 ?_
    rw [show nI (6 * j) + 1 = nI (6 * j + 1) from nI_add (6 * j) 1]
    refine lw_scr hx hb hX hbl hbo hL3 hL (by omega) dL_law_295 ?_
    refine cx_callV (As := [.int (xs (6 * j + 1))]) (rest := []) ⟨hx, hb, hml, hown, hts⟩ (c_X9_truncateText (BW_M (G := G) (cA := cA) (H0 := H0) (sv := (svOf ix bs)) D (r.2, β.2.1, oUp β.2.2.1 (Int32.toInt64 r.1), β.2.2.2)) h3) (cwV 1 hts (gV mw_172 mw_173 mw_174 mw_5 mw_175) rfl rfl rfl hd_X9_truncateText ⟨Nat.le_of_ble_eq_true rfl, Nat.le_of_ble_eq_true rfl⟩) hK hP rfl (at_Model (BW_M (G := G) (cA := cA) (H0 := H0) (sv := (svOf ix bs)) D (r.2, β.2.1, oUp β.2.2.1 (Int32.toInt64 r.1), β.2.2.2)) hP) rfl hl.1 rfl (Nat.le_of_ble_eq_true rfl) dL_law_296 ⟨by show cells + 1 + 0 ≤ 601024; omega, by show slots + 6 + 0 ≤ 7293034; omega⟩ hL (fun H locs hP hL => ?_)
    have hP : BW G cA H0 lo aG aM aO bs (svOf ix bs) (r.2, μ1, oUp β.2.2.1 (Int32.toInt64 r.1), β.2.2.2) H := hP
    refine lv_istore (lv' := [(7, .int r.1), (6, .int 0), (5, .int (nI (6 * j))), (0, .ref b), (1, .ref aG), (2, .ref aM), (3, .ref aO), (4, .ref (aO + 1))]) hx hb dL_law_299 hl (by decide) rfl (fun ls hl => ?_)
    refine lv_aload_n hx hb dL_law_301 rfl (lv_at hl 5 rfl) ?_
    refine cx_callV (As := []) (rest := []) ⟨hx, hb, hml, hown, hts⟩ (c_X9_thrown (BW_M (G := G) (cA := cA) (H0 := H0) (sv := (svOf ix bs)) D (r.2, μ1, oUp β.2.2.1 (Int32.toInt64 r.1), β.2.2.2)) h4) (cwV 0 hts (gV mw_155 mw_156 mw_157 mw_5 mw_158) rfl rfl rfl hd_X9_thrown ⟨Nat.le_of_ble_eq_true rfl, Nat.le_of_ble_eq_true rfl⟩) hK hP rfl (at_Model (BW_M (G := G) (cA := cA) (H0 := H0) (sv := (svOf ix bs)) D (r.2, μ1, oUp β.2.2.1 (Int32.toInt64 r.1), β.2.2.2)) hP) rfl hl.1 rfl (Nat.le_of_ble_eq_true rfl) dL_law_302 ⟨by show cells + 1 + 0 + 0 ≤ 601024; omega, by show slots + 6 + 0 + 0 ≤ 7293034; omega⟩ hL (fun H locs hP hL => ?_)
    refine lv_iload hx hb dL_law_305 (lv_at hl 1 rfl) ?_
    refine lv_icmp_eq (tgt := 312) hx hb dL_law_307 (by decide) (fun _ => ?_) (fun c8 => absurd rfl c8)
    refine lv_iload hx hb dL_law_312 (lv_at hl 1 rfl) ?_
    refine lv_if_ne (tgt := 329) hx hb dL_law_314 (by decide) (fun c8 => absurd rfl c8) (fun _ => ?_)
    refine lv_aload_n hx hb dL_law_317 rfl (lv_at hl 6 rfl) ?_
    refine lv_iconst (v := 0) hx hb dL_law_318 (by decide) ?_
    refine va_lald hx hb hK (cx_one ((BW_O (G := G) (cA := cA) (H0 := H0) (sv := (svOf ix bs)) D (r.2, μ1, oUp β.2.2.1 (Int32.toInt64 r.1), β.2.2.2)).1 _ H hP 0 (by decide))) 0 2 rfl rfl (nI_in (c := 0) (N := 1) (by decide) (by decide)) dL_law_319 ?_
    rw [oUp_0]
    refine lv_iload hx hb dL_law_320 (lv_at hl 0 rfl) ?_
    refine lv_i2l hx hb dL_law_322 rfl ?_
    refine cx_lceq (tgt := 329) hx hb dL_law_323 dL_law_324 (by decide) (fun _ => ?_) (fun c8 => absurd rfl c8)
    refine lv_goto (tgt := 2386) hx hb dL_law_329 (by decide) ?_
    exact next (r.2, μ1, oUp β.2.2.1 (Int32.toInt64 r.1), β.2.2.2) ix bs _ _ _ _ _ ⟨D, hI, hP, h7, hL⟩ (by omega) (by omega) (lv_sub hl [2, 3, 4, 5, 6, 7] rfl)
def Sim_runTrace (N : Nat) (Top Toq : TopT) : Prop := ∀ (γ : GLS) (μ : MdlS) (κ : Nat → CacS) (ix : Nat → Option Nat) (nb : Nat), Top γ μ κ ix nb → ∃ (r : Int32) (γ1 : GLS) (μ1 : MdlS), f_X8_runTrace N γ = some (r, γ1) ∧ f_X9_runTrace N μ = some (r, μ1) ∧ Toq γ1 μ1 κ ix nb
set_option maxHeartbeats 2000000 in
set_option maxRecDepth 100000 in
theorem w_law_runTrace {p : Program} {l : Launch} {e : Env} {s : State} {m : MethodId} {args : Array Value} {below : List Frame} {meth : Method} {c : Code} {G : va_G} {cA : Nat → ClassId} {H0 : Heap} {lo aG aM aO : Nat} {z : ZS} {Top Toq : TopT} {b L j N cells slots : Nat} {xs : Nat → Int32} {Q : State → Prop} (F : LwF l p s m args c G cA lo z b L xs) (hj : 6 * j + 5 < L) (hS : Sim_runTrace N Top Toq) {β : BigS} {ix : Nat → Option Nat} {bs : List Nat} {H : Heap} {locs : List Loc} {ls : Array Slot} (St : LwS G cA H0 lo aG aM aO Top β ix bs H locs) (hcs : cells ≤ 500000) (hss : slots ≤ 7000000) (hl : lv_has ls 10 [(5, .int (nI (6 * j))), (0, .ref b), (1, .ref aG), (2, .ref aM), (3, .ref aO), (4, .ref (aO + 1))]) (next : LwN p l e s m args below meth c G cA H0 lo aG aM aO Toq b j cells slots Q) : W p l e room_1 s m args below meth c H locs cells slots Q (F0 m 332 ls []) := by
  obtain ⟨⟨hl0, hx, hb, hml, hown, hts⟩, hN, hZ, hX3, hX, hbl, hbo, hL3⟩ := id F
  have hK := hN.1
  obtain ⟨D, hI, hP, hT, hL⟩ := St
  obtain ⟨r, γ1, μ1, h1, h3, hT⟩ := hS β.1 β.2.1 β.2.2.2.2 ix bs.length hT
  refine lv_aload_n hx hb dL_law_332 rfl (lv_at hl 2 rfl) ?_
  refine cx_callVZ (As := []) (rest := []) ⟨hx, hb, hml, hown, hts⟩ (c_X8_runTrace (BW_G (G := G) (cA := cA) (H0 := H0) (sv := svOf ix bs) D β) h1) (cwV 0 hts (gV mw_179 mw_180 mw_181 mw_2 mw_182) rfl rfl rfl hd_X8_runTrace ⟨Nat.le_of_ble_eq_true rfl, Nat.le_of_ble_eq_true rfl⟩) hK hZ hP rfl (at_GL (BW_G (G := G) (cA := cA) (H0 := H0) (sv := svOf ix bs) D β) hP) rfl hl.1 rfl (Nat.le_of_ble_eq_true rfl) dL_law_333 ⟨by show cells + 0 ≤ 601024; omega, by show slots + 0 ≤ 7293034; omega⟩ hL (fun H locs hP hL => ?_)
  have hP : BW G cA H0 lo aG aM aO bs (svOf ix bs) (γ1, β.2) H := hP
  refine lv_aload_n hx hb dL_law_336 rfl (lv_at hl 3 rfl) ?_
  refine cx_callVZ (As := []) (rest := [.int r]) ⟨hx, hb, hml, hown, hts⟩ (c_X9_runTrace (BW_M (G := G) (cA := cA) (H0 := H0) (sv := (svOf ix bs)) D (γ1, β.2)) h3) (cwV 0 hts (gV mw_531 mw_532 mw_533 mw_5 mw_534) rfl rfl rfl hd_X9_runTrace ⟨Nat.le_of_ble_eq_true rfl, Nat.le_of_ble_eq_true rfl⟩) hK hZ hP rfl (at_Model (BW_M (G := G) (cA := cA) (H0 := H0) (sv := (svOf ix bs)) D (γ1, β.2)) hP) rfl hl.1 rfl (Nat.le_of_ble_eq_true rfl) dL_law_337 ⟨by show cells + 0 + 0 ≤ 601024; omega, by show slots + 0 + 0 ≤ 7293034; omega⟩ hL (fun H locs hP hL => ?_)
  have hP : BW G cA H0 lo aG aM aO bs (svOf ix bs) (γ1, μ1, β.2.2) H := hP
  refine lv_icmp_eq (tgt := 2386) hx hb dL_law_340 (by decide) (fun _ => ?_) (fun c8 => absurd rfl c8)
  exact next (γ1, μ1, β.2.2) ix bs _ _ _ _ _ ⟨D, hI, hP, hT, hL⟩ (by omega) (by omega) (lv_sub hl [0, 1, 2, 3, 4, 5] rfl)
def Sim_errorCode (N : Nat) (Top Toq : TopT) : Prop := ∀ (γ : GLS) (μ : MdlS) (κ : Nat → CacS) (ix : Nat → Option Nat) (nb : Nat), Top γ μ κ ix nb → ∃ (r : Int32) (μ1 : MdlS), f_X8_errorCode γ = some r ∧ f_X9_errorCode μ = some (r, μ1) ∧ Toq γ μ1 κ ix nb
set_option maxHeartbeats 2000000 in
set_option maxRecDepth 100000 in
theorem w_law_errorCode {p : Program} {l : Launch} {e : Env} {s : State} {m : MethodId} {args : Array Value} {below : List Frame} {meth : Method} {c : Code} {G : va_G} {cA : Nat → ClassId} {H0 : Heap} {lo aG aM aO : Nat} {z : ZS} {Top Toq : TopT} {b L j N cells slots : Nat} {xs : Nat → Int32} {Q : State → Prop} (F : LwF l p s m args c G cA lo z b L xs) (hj : 6 * j + 5 < L) (hS : Sim_errorCode N Top Toq) {β : BigS} {ix : Nat → Option Nat} {bs : List Nat} {H : Heap} {locs : List Loc} {ls : Array Slot} (St : LwS G cA H0 lo aG aM aO Top β ix bs H locs) (hcs : cells ≤ 500000) (hss : slots ≤ 7000000) (hl : lv_has ls 10 [(5, .int (nI (6 * j))), (0, .ref b), (1, .ref aG), (2, .ref aM), (3, .ref aO), (4, .ref (aO + 1))]) (next : LwN p l e s m args below meth c G cA H0 lo aG aM aO Toq b j cells slots Q) : W p l e room_1 s m args below meth c H locs cells slots Q (F0 m 345 ls []) := by
  obtain ⟨⟨hl0, hx, hb, hml, hown, hts⟩, hN, hZ, hX3, hX, hbl, hbo, hL3⟩ := id F
  have hK := hN.1
  obtain ⟨D, hI, hP, hT, hL⟩ := St
  obtain ⟨r, μ1, h1, h3, hT⟩ := hS β.1 β.2.1 β.2.2.2.2 ix bs.length hT
  refine lv_aload_n hx hb dL_law_345 rfl (lv_at hl 2 rfl) ?_
  refine cx_callV (As := []) (rest := []) ⟨hx, hb, hml, hown, hts⟩ (c_X8_errorCode (BW_G (G := G) (cA := cA) (H0 := H0) (sv := svOf ix bs) D β) h1) (cwV 0 hts (gV mw_738 mw_739 mw_740 mw_2 mw_741) rfl rfl rfl hd_X8_errorCode ⟨Nat.le_of_ble_eq_true rfl, Nat.le_of_ble_eq_true rfl⟩) hK hP rfl (at_GL (BW_G (G := G) (cA := cA) (H0 := H0) (sv := svOf ix bs) D β) hP) rfl hl.1 rfl (Nat.le_of_ble_eq_true rfl) dL_law_346 ⟨by show cells + 0 ≤ 601024; omega, by show slots + 0 ≤ 7293034; omega⟩ hL (fun H locs hP hL => ?_)
  have hP : BW G cA H0 lo aG aM aO bs (svOf ix bs) (β.1, β.2) H := hP
  refine lv_aload_n hx hb dL_law_349 rfl (lv_at hl 3 rfl) ?_
  refine cx_callV (As := []) (rest := [.int r]) ⟨hx, hb, hml, hown, hts⟩ (c_X9_errorCode (BW_M (G := G) (cA := cA) (H0 := H0) (sv := (svOf ix bs)) D (β.1, β.2)) h3) (cwV 0 hts (gV mw_743 mw_744 mw_745 mw_5 mw_746) rfl rfl rfl hd_X9_errorCode ⟨Nat.le_of_ble_eq_true rfl, Nat.le_of_ble_eq_true rfl⟩) hK hP rfl (at_Model (BW_M (G := G) (cA := cA) (H0 := H0) (sv := (svOf ix bs)) D (β.1, β.2)) hP) rfl hl.1 rfl (Nat.le_of_ble_eq_true rfl) dL_law_350 ⟨by show cells + 0 + 0 ≤ 601024; omega, by show slots + 0 + 0 ≤ 7293034; omega⟩ hL (fun H locs hP hL => ?_)
  have hP : BW G cA H0 lo aG aM aO bs (svOf ix bs) (β.1, μ1, β.2.2) H := hP
  refine lv_icmp_eq (tgt := 2386) hx hb dL_law_353 (by decide) (fun _ => ?_) (fun c8 => absurd rfl c8)
  exact next (β.1, μ1, β.2.2) ix bs _ _ _ _ _ ⟨D, hI, hP, hT, hL⟩ (by omega) (by omega) (lv_sub hl [0, 1, 2, 3, 4, 5] rfl)
def Sim_errorPosition (N : Nat) (Top Toq : TopT) : Prop := ∀ (γ : GLS) (μ : MdlS) (κ : Nat → CacS) (ix : Nat → Option Nat) (nb : Nat), Top γ μ κ ix nb → ∃ (r : Int32) (μ1 : MdlS), f_X8_errorPosition γ = some r ∧ f_X9_errorPosition μ = some (r, μ1) ∧ Toq γ μ1 κ ix nb
set_option maxHeartbeats 2000000 in
set_option maxRecDepth 100000 in
theorem w_law_errorPosition {p : Program} {l : Launch} {e : Env} {s : State} {m : MethodId} {args : Array Value} {below : List Frame} {meth : Method} {c : Code} {G : va_G} {cA : Nat → ClassId} {H0 : Heap} {lo aG aM aO : Nat} {z : ZS} {Top Toq : TopT} {b L j N cells slots : Nat} {xs : Nat → Int32} {Q : State → Prop} (F : LwF l p s m args c G cA lo z b L xs) (hj : 6 * j + 5 < L) (hS : Sim_errorPosition N Top Toq) {β : BigS} {ix : Nat → Option Nat} {bs : List Nat} {H : Heap} {locs : List Loc} {ls : Array Slot} (St : LwS G cA H0 lo aG aM aO Top β ix bs H locs) (hcs : cells ≤ 500000) (hss : slots ≤ 7000000) (hl : lv_has ls 10 [(5, .int (nI (6 * j))), (0, .ref b), (1, .ref aG), (2, .ref aM), (3, .ref aO), (4, .ref (aO + 1))]) (next : LwN p l e s m args below meth c G cA H0 lo aG aM aO Toq b j cells slots Q) : W p l e room_1 s m args below meth c H locs cells slots Q (F0 m 358 ls []) := by
  obtain ⟨⟨hl0, hx, hb, hml, hown, hts⟩, hN, hZ, hX3, hX, hbl, hbo, hL3⟩ := id F
  have hK := hN.1
  obtain ⟨D, hI, hP, hT, hL⟩ := St
  obtain ⟨r, μ1, h1, h3, hT⟩ := hS β.1 β.2.1 β.2.2.2.2 ix bs.length hT
  refine lv_aload_n hx hb dL_law_358 rfl (lv_at hl 2 rfl) ?_
  refine cx_callV (As := []) (rest := []) ⟨hx, hb, hml, hown, hts⟩ (c_X8_errorPosition (BW_G (G := G) (cA := cA) (H0 := H0) (sv := svOf ix bs) D β) h1) (cwV 0 hts (gV mw_747 mw_748 mw_749 mw_2 mw_750) rfl rfl rfl hd_X8_errorPosition ⟨Nat.le_of_ble_eq_true rfl, Nat.le_of_ble_eq_true rfl⟩) hK hP rfl (at_GL (BW_G (G := G) (cA := cA) (H0 := H0) (sv := svOf ix bs) D β) hP) rfl hl.1 rfl (Nat.le_of_ble_eq_true rfl) dL_law_359 ⟨by show cells + 0 ≤ 601024; omega, by show slots + 0 ≤ 7293034; omega⟩ hL (fun H locs hP hL => ?_)
  have hP : BW G cA H0 lo aG aM aO bs (svOf ix bs) (β.1, β.2) H := hP
  refine lv_aload_n hx hb dL_law_362 rfl (lv_at hl 3 rfl) ?_
  refine cx_callV (As := []) (rest := [.int r]) ⟨hx, hb, hml, hown, hts⟩ (c_X9_errorPosition (BW_M (G := G) (cA := cA) (H0 := H0) (sv := (svOf ix bs)) D (β.1, β.2)) h3) (cwV 0 hts (gV mw_752 mw_753 mw_754 mw_5 mw_755) rfl rfl rfl hd_X9_errorPosition ⟨Nat.le_of_ble_eq_true rfl, Nat.le_of_ble_eq_true rfl⟩) hK hP rfl (at_Model (BW_M (G := G) (cA := cA) (H0 := H0) (sv := (svOf ix bs)) D (β.1, β.2)) hP) rfl hl.1 rfl (Nat.le_of_ble_eq_true rfl) dL_law_363 ⟨by show cells + 0 + 0 ≤ 601024; omega, by show slots + 0 + 0 ≤ 7293034; omega⟩ hL (fun H locs hP hL => ?_)
  have hP : BW G cA H0 lo aG aM aO bs (svOf ix bs) (β.1, μ1, β.2.2) H := hP
  refine lv_icmp_eq (tgt := 2386) hx hb dL_law_366 (by decide) (fun _ => ?_) (fun c8 => absurd rfl c8)
  exact next (β.1, μ1, β.2.2) ix bs _ _ _ _ _ ⟨D, hI, hP, hT, hL⟩ (by omega) (by omega) (lv_sub hl [0, 1, 2, 3, 4, 5] rfl)
def Sim_addClient (N : Nat) (Top Toq : TopT) : Prop := ∀ (γ : GLS) (μ : MdlS) (κ : Nat → CacS) (ix : Nat → Option Nat) (nb : Nat) (p0 : Int32), Top γ μ κ ix nb → ∃ (res : Nat ⊕ (Int32 × GLS)) (b : Int32) (μ1 : MdlS), f_X8_addClient N γ p0 = some res ∧ (∀ k, res = .inl k → k = 1 ∨ k = 2) ∧ f_X9_addClient N μ p0 = some (b, μ1) ∧ f_X9_thrown μ1 = some (wCode 1 res) ∧ (∀ k, res = .inl k → Toq γ μ1 κ ix nb) ∧ ∀ r, res = .inr r → b = r.1 ∧ Toq r.2 μ1 κ ix nb
set_option maxHeartbeats 2000000 in
set_option maxRecDepth 100000 in
theorem w_law_addClient {p : Program} {l : Launch} {e : Env} {s : State} {m : MethodId} {args : Array Value} {below : List Frame} {meth : Method} {c : Code} {G : va_G} {cA : Nat → ClassId} {H0 : Heap} {lo aG aM aO : Nat} {z : ZS} {Top Toq : TopT} {b L j N cells slots : Nat} {xs : Nat → Int32} {Q : State → Prop} (F : LwF l p s m args c G cA lo z b L xs) (hj : 6 * j + 5 < L) (hS : Sim_addClient N Top Toq) {β : BigS} {ix : Nat → Option Nat} {bs : List Nat} {H : Heap} {locs : List Loc} {ls : Array Slot} (St : LwS G cA H0 lo aG aM aO Top β ix bs H locs) (hcs : cells ≤ 500000) (hss : slots ≤ 7000000) (hl : lv_has ls 10 [(5, .int (nI (6 * j))), (0, .ref b), (1, .ref aG), (2, .ref aM), (3, .ref aO), (4, .ref (aO + 1))]) (next : LwN p l e s m args below meth c G cA H0 lo aG aM aO Toq b j cells slots Q) : W p l e room_1 s m args below meth c H locs cells slots Q (F0 m 371 ls []) := by
  obtain ⟨⟨hl0, hx, hb, hml, hown, hts⟩, hN, hZ, hX3, hX, hbl, hbo, hL3⟩ := id F
  have hK := hN.1
  obtain ⟨D, hI, hP, hT, hL⟩ := St
  obtain ⟨res, bb, μ1, h1, h2, h3, h4, h5, h6⟩ := hS β.1 β.2.1 β.2.2.2.2 ix bs.length (xs (6 * j + 1)) hT
  cases res with
  | inl k =>
    refine lv_aload_n hx hb dL_law_371 rfl (lv_at hl 2 rfl) ?_
    refine lv_aload_n hx hb dL_law_372 rfl (lv_at hl 1 rfl) ?_
    refine lv_iload hx hb dL_law_373 (lv_at hl 0 rfl) ?_
    refine lv_iconst (v := 1) hx hb dL_law_375 (by decide) ?_
    refine lv_iadd hx hb dL_law_376 ?_
    rw [show nI (6 * j) + 1 = nI (6 * j + 1) from nI_add (6 * j) 1]
    refine lw_scr hx hb hX hbl hbo hL3 hL (by omega) dL_law_377 ?_
    refine lv_aload_n hx hb dL_law_378 rfl (lv_at hl 4 rfl) ?_
    refine wx_call (As := [.ref aG, .int (xs (6 * j + 1)), .ref aO]) (rest := []) ⟨hx, hb, hml, hown, hts⟩ (c_L_addClient (G := G) (cA := cA) (H0 := H0) (sv := svOf ix bs) hl0 D h1 h2) (vx_cwSW 3 hts (gSWx mw_756 mw_757 mw_130 mw_758) rfl rfl rfl hd_L_addClient ⟨Nat.le_of_ble_eq_true rfl, Nat.le_of_ble_eq_true rfl⟩) hN hZ hX3 hP rfl hl.1 rfl (Nat.le_of_ble_eq_true rfl) dL_law_379 ⟨by show cells + 2 ≤ 601024; omega, by show slots + 12 ≤ 7293034; omega⟩ hL (fun H locs hP hL => ?_)
    have hP : BW G cA H0 lo aG aM aO bs (svOf ix bs) β H := hP
    refine lv_istore (lv' := [(6, .int (wCode 1 (.inl k : Nat ⊕ (Int32 × GLS)))), (5, .int (nI (6 * j))), (0, .ref b), (1, .ref aG), (2, .ref aM), (3, .ref aO), (4, .ref (aO + 1))]) hx hb dL_law_382 hl (by decide) rfl (fun ls hl => ?_)
    refine lv_aload_n hx hb dL_law_384 rfl (lv_at hl 4 rfl) ?_
    refine lv_aload_n hx hb dL_law_385 rfl (lv_at hl 2 rfl) ?_
    refine lv_iload hx hb dL_law_386 (lv_at hl 1 rfl) ?_
    refine lv_iconst (v := 1) hx hb dL_law_388 (by decide) ?_
    refine lv_iadd hx hb dL_law_389 ?_
    rw [show nI (6 * j) + 1 = nI (6 * j + 1) from nI_add (6 * j) 1]
    refine lw_scr hx hb hX hbl hbo hL3 hL (by omega) dL_law_390 ?_
    refine cx_callV (As := [.int (xs (6 * j + 1))]) (rest := []) ⟨hx, hb, hml, hown, hts⟩ (c_X9_addClient (BW_M (G := G) (cA := cA) (H0 := H0) (sv := (svOf ix bs)) D β) h3) (cwV 1 hts (gV mw_771 mw_772 mw_773 mw_5 mw_774) rfl rfl rfl hd_X9_addClient ⟨Nat.le_of_ble_eq_true rfl, Nat.le_of_ble_eq_true rfl⟩) hK hP rfl (at_Model (BW_M (G := G) (cA := cA) (H0 := H0) (sv := (svOf ix bs)) D β) hP) rfl hl.1 rfl (Nat.le_of_ble_eq_true rfl) dL_law_391 ⟨by show cells + 2 + 0 ≤ 601024; omega, by show slots + 12 + 0 ≤ 7293034; omega⟩ hL (fun H locs hP hL => ?_)
    have hP : BW G cA H0 lo aG aM aO bs (svOf ix bs) (β.1, μ1, β.2.2) H := hP
    refine lv_istore (lv' := [(7, .int bb), (6, .int (wCode 1 (.inl k : Nat ⊕ (Int32 × GLS)))), (5, .int (nI (6 * j))), (0, .ref b), (1, .ref aG), (2, .ref aM), (3, .ref aO), (4, .ref (aO + 1))]) hx hb dL_law_394 hl (by decide) rfl (fun ls hl => ?_)
    refine lv_aload_n hx hb dL_law_396 rfl (lv_at hl 5 rfl) ?_
    refine cx_callV (As := []) (rest := []) ⟨hx, hb, hml, hown, hts⟩ (c_X9_thrown (BW_M (G := G) (cA := cA) (H0 := H0) (sv := (svOf ix bs)) D (β.1, μ1, β.2.2)) h4) (cwV 0 hts (gV mw_155 mw_156 mw_157 mw_5 mw_158) rfl rfl rfl hd_X9_thrown ⟨Nat.le_of_ble_eq_true rfl, Nat.le_of_ble_eq_true rfl⟩) hK hP rfl (at_Model (BW_M (G := G) (cA := cA) (H0 := H0) (sv := (svOf ix bs)) D (β.1, μ1, β.2.2)) hP) rfl hl.1 rfl (Nat.le_of_ble_eq_true rfl) dL_law_397 ⟨by show cells + 2 + 0 + 0 ≤ 601024; omega, by show slots + 12 + 0 + 0 ≤ 7293034; omega⟩ hL (fun H locs hP hL => ?_)
    refine lv_iload hx hb dL_law_400 (lv_at hl 1 rfl) ?_
    refine lv_icmp_eq (tgt := 407) hx hb dL_law_402 (by decide) (fun _ => ?_) (fun c8 => absurd rfl c8)
    refine lv_iload hx hb dL_law_407 (lv_at hl 1 rfl) ?_
    refine lv_if_ne (tgt := 424) hx hb dL_law_409 (by decide) (fun _ => ?_) (fun c8 => absurd c8 wCode_ne)
    refine lv_goto (tgt := 2386) hx hb dL_law_424 (by decide) ?_
    exact next (β.1, μ1, β.2.2) ix bs _ _ _ _ _ ⟨D, hI, hP, (h5 k rfl), hL⟩ (by omega) (by omega) (lv_sub hl [2, 3, 4, 5, 6, 7] rfl)
  | inr r =>
    obtain ⟨hbb, h7⟩ := h6 r rfl
    replace hbb := hbb.symm
    subst hbb
    refine lv_aload_n hx hb dL_law_371 rfl (lv_at hl 2 rfl) ?_
    refine lv_aload_n hx hb dL_law_372 rfl (lv_at hl 1 rfl) ?_
    refine lv_iload hx hb dL_law_373 (lv_at hl 0 rfl) ?_
    refine lv_iconst (v := 1) hx hb dL_law_375 (by decide) ?_
    refine lv_iadd hx hb dL_law_376 ?_
    rw [show nI (6 * j) + 1 = nI (6 * j + 1) from nI_add (6 * j) 1]
    refine lw_scr hx hb hX hbl hbo hL3 hL (by omega) dL_law_377 ?_
    refine lv_aload_n hx hb dL_law_378 rfl (lv_at hl 4 rfl) ?_
    refine wx_call (As := [.ref aG, .int (xs (6 * j + 1)), .ref aO]) (rest := []) ⟨hx, hb, hml, hown, hts⟩ (c_L_addClient (G := G) (cA := cA) (H0 := H0) (sv := svOf ix bs) hl0 D h1 h2) (vx_cwSW 3 hts (gSWx mw_756 mw_757 mw_130 mw_758) rfl rfl rfl hd_L_addClient ⟨Nat.le_of_ble_eq_true rfl, Nat.le_of_ble_eq_true rfl⟩) hN hZ hX3 hP rfl hl.1 rfl (Nat.le_of_ble_eq_true rfl) dL_law_379 ⟨by show cells + 2 ≤ 601024; omega, by show slots + 12 ≤ 7293034; omega⟩ hL (fun H locs hP hL => ?_)
    have hP : BW G cA H0 lo aG aM aO bs (svOf ix bs) (r.2, β.2.1, oUp β.2.2.1 (Int32.toInt64 r.1), β.2.2.2) H := hP
    refine lv_istore (lv' := [(6, .int 0), (5, .int (nI (6 * j))), (0, .ref b), (1, .ref aG), (2, .ref aM), (3, .ref aO), (4, .ref (aO + 1))]) hx hb dL_law_382 hl (by decide) rfl (fun ls hl => ?_)
    refine lv_aload_n hx hb dL_law_384 rfl (lv_at hl 4 rfl) ?_
    refine lv_aload_n hx hb dL_law_385 rfl (lv_at hl 2 rfl) ?_
    refine lv_iload hx hb dL_law_386 (lv_at hl 1 rfl) ?_
    refine lv_iconst (v := 1) hx hb dL_law_388 (by decide) ?_
    refine lv_iadd hx hb dL_law_389 ?_
    rw [show nI (6 * j) + 1 = nI (6 * j + 1) from nI_add (6 * j) 1]
    refine lw_scr hx hb hX hbl hbo hL3 hL (by omega) dL_law_390 ?_
    refine cx_callV (As := [.int (xs (6 * j + 1))]) (rest := []) ⟨hx, hb, hml, hown, hts⟩ (c_X9_addClient (BW_M (G := G) (cA := cA) (H0 := H0) (sv := (svOf ix bs)) D (r.2, β.2.1, oUp β.2.2.1 (Int32.toInt64 r.1), β.2.2.2)) h3) (cwV 1 hts (gV mw_771 mw_772 mw_773 mw_5 mw_774) rfl rfl rfl hd_X9_addClient ⟨Nat.le_of_ble_eq_true rfl, Nat.le_of_ble_eq_true rfl⟩) hK hP rfl (at_Model (BW_M (G := G) (cA := cA) (H0 := H0) (sv := (svOf ix bs)) D (r.2, β.2.1, oUp β.2.2.1 (Int32.toInt64 r.1), β.2.2.2)) hP) rfl hl.1 rfl (Nat.le_of_ble_eq_true rfl) dL_law_391 ⟨by show cells + 2 + 0 ≤ 601024; omega, by show slots + 12 + 0 ≤ 7293034; omega⟩ hL (fun H locs hP hL => ?_)
    have hP : BW G cA H0 lo aG aM aO bs (svOf ix bs) (r.2, μ1, oUp β.2.2.1 (Int32.toInt64 r.1), β.2.2.2) H := hP
    refine lv_istore (lv' := [(7, .int r.1), (6, .int 0), (5, .int (nI (6 * j))), (0, .ref b), (1, .ref aG), (2, .ref aM), (3, .ref aO), (4, .ref (aO + 1))]) hx hb dL_law_394 hl (by decide) rfl (fun ls hl => ?_)
    refine lv_aload_n hx hb dL_law_396 rfl (lv_at hl 5 rfl) ?_
    refine cx_callV (As := []) (rest := []) ⟨hx, hb, hml, hown, hts⟩ (c_X9_thrown (BW_M (G := G) (cA := cA) (H0 := H0) (sv := (svOf ix bs)) D (r.2, μ1, oUp β.2.2.1 (Int32.toInt64 r.1), β.2.2.2)) h4) (cwV 0 hts (gV mw_155 mw_156 mw_157 mw_5 mw_158) rfl rfl rfl hd_X9_thrown ⟨Nat.le_of_ble_eq_true rfl, Nat.le_of_ble_eq_true rfl⟩) hK hP rfl (at_Model (BW_M (G := G) (cA := cA) (H0 := H0) (sv := (svOf ix bs)) D (r.2, μ1, oUp β.2.2.1 (Int32.toInt64 r.1), β.2.2.2)) hP) rfl hl.1 rfl (Nat.le_of_ble_eq_true rfl) dL_law_397 ⟨by show cells + 2 + 0 + 0 ≤ 601024; omega, by show slots + 12 + 0 + 0 ≤ 7293034; omega⟩ hL (fun H locs hP hL => ?_)
    refine lv_iload hx hb dL_law_400 (lv_at hl 1 rfl) ?_
    refine lv_icmp_eq (tgt := 407) hx hb dL_law_402 (by decide) (fun _ => ?_) (fun c8 => absurd rfl c8)
    refine lv_iload hx hb dL_law_407 (lv_at hl 1 rfl) ?_
    refine lv_if_ne (tgt := 424) hx hb dL_law_409 (by decide) (fun c8 => absurd rfl c8) (fun _ => ?_)
    refine lv_aload_n hx hb dL_law_412 rfl (lv_at hl 6 rfl) ?_
    refine lv_iconst (v := 0) hx hb dL_law_413 (by decide) ?_
    refine va_lald hx hb hK (cx_one ((BW_O (G := G) (cA := cA) (H0 := H0) (sv := (svOf ix bs)) D (r.2, μ1, oUp β.2.2.1 (Int32.toInt64 r.1), β.2.2.2)).1 _ H hP 0 (by decide))) 0 2 rfl rfl (nI_in (c := 0) (N := 1) (by decide) (by decide)) dL_law_414 ?_
    rw [oUp_0]
    refine lv_iload hx hb dL_law_415 (lv_at hl 0 rfl) ?_
    refine lv_i2l hx hb dL_law_417 rfl ?_
    refine cx_lceq (tgt := 424) hx hb dL_law_418 dL_law_419 (by decide) (fun _ => ?_) (fun c8 => absurd rfl c8)
    refine lv_goto (tgt := 2386) hx hb dL_law_424 (by decide) ?_
    exact next (r.2, μ1, oUp β.2.2.1 (Int32.toInt64 r.1), β.2.2.2) ix bs _ _ _ _ _ ⟨D, hI, hP, h7, hL⟩ (by omega) (by omega) (lv_sub hl [2, 3, 4, 5, 6, 7] rfl)
def Sim_setWeight (N : Nat) (Top Toq : TopT) : Prop := ∀ (γ : GLS) (μ : MdlS) (κ : Nat → CacS) (ix : Nat → Option Nat) (nb : Nat) (p0 : Int32) (p1 : Int32), Top γ μ κ ix nb → ∃ (res : Nat ⊕ (Int32 × GLS)) (b : Int32) (μ1 : MdlS), f_X8_setWeight N γ p0 p1 = some res ∧ (∀ k, res = .inl k → k = 0 ∨ k = 1) ∧ f_X9_setWeight N μ p0 p1 = some (b, μ1) ∧ f_X9_thrown μ1 = some (wCode 0 res) ∧ (∀ k, res = .inl k → Toq γ μ1 κ ix nb) ∧ ∀ r, res = .inr r → b = r.1 ∧ Toq r.2 μ1 κ ix nb
set_option maxHeartbeats 2000000 in
set_option maxRecDepth 100000 in
theorem w_law_setWeight {p : Program} {l : Launch} {e : Env} {s : State} {m : MethodId} {args : Array Value} {below : List Frame} {meth : Method} {c : Code} {G : va_G} {cA : Nat → ClassId} {H0 : Heap} {lo aG aM aO : Nat} {z : ZS} {Top Toq : TopT} {b L j N cells slots : Nat} {xs : Nat → Int32} {Q : State → Prop} (F : LwF l p s m args c G cA lo z b L xs) (hj : 6 * j + 5 < L) (hS : Sim_setWeight N Top Toq) {β : BigS} {ix : Nat → Option Nat} {bs : List Nat} {H : Heap} {locs : List Loc} {ls : Array Slot} (St : LwS G cA H0 lo aG aM aO Top β ix bs H locs) (hcs : cells ≤ 500000) (hss : slots ≤ 7000000) (hl : lv_has ls 10 [(5, .int (nI (6 * j))), (0, .ref b), (1, .ref aG), (2, .ref aM), (3, .ref aO), (4, .ref (aO + 1))]) (next : LwN p l e s m args below meth c G cA H0 lo aG aM aO Toq b j cells slots Q) : W p l e room_1 s m args below meth c H locs cells slots Q (F0 m 427 ls []) := by
  obtain ⟨⟨hl0, hx, hb, hml, hown, hts⟩, hN, hZ, hX3, hX, hbl, hbo, hL3⟩ := id F
  have hK := hN.1
  obtain ⟨D, hI, hP, hT, hL⟩ := St
  obtain ⟨res, bb, μ1, h1, h2, h3, h4, h5, h6⟩ := hS β.1 β.2.1 β.2.2.2.2 ix bs.length (xs (6 * j + 1)) (xs (6 * j + 2)) hT
  cases res with
  | inl k =>
    refine lv_aload_n hx hb dL_law_427 rfl (lv_at hl 2 rfl) ?_
    refine lv_aload_n hx hb dL_law_428 rfl (lv_at hl 1 rfl) ?_
    refine lv_iload hx hb dL_law_429 (lv_at hl 0 rfl) ?_
    refine lv_iconst (v := 1) hx hb dL_law_431 (by decide) ?_
    refine lv_iadd hx hb dL_law_432 ?_
    rw [show nI (6 * j) + 1 = nI (6 * j + 1) from nI_add (6 * j) 1]
    refine lw_scr hx hb hX hbl hbo hL3 hL (by omega) dL_law_433 ?_
    refine lv_aload_n hx hb dL_law_434 rfl (lv_at hl 1 rfl) ?_
    refine lv_iload hx hb dL_law_435 (lv_at hl 0 rfl) ?_
    refine lv_iconst (v := 2) hx hb dL_law_437 (by decide) ?_
    refine lv_iadd hx hb dL_law_438 ?_
    rw [show nI (6 * j) + 2 = nI (6 * j + 2) from nI_add (6 * j) 2]
    refine lw_scr hx hb hX hbl hbo hL3 hL (by omega) dL_law_439 ?_
    refine lv_aload_n hx hb dL_law_440 rfl (lv_at hl 4 rfl) ?_
    refine wx_call (As := [.ref aG, .int (xs (6 * j + 1)), .int (xs (6 * j + 2)), .ref aO]) (rest := []) ⟨hx, hb, hml, hown, hts⟩ (c_L_setWeight (G := G) (cA := cA) (H0 := H0) (sv := svOf ix bs) hl0 D h1 h2) (vx_cwSW 4 hts (gSWx mw_775 mw_776 mw_130 mw_777) rfl rfl rfl hd_L_setWeight ⟨Nat.le_of_ble_eq_true rfl, Nat.le_of_ble_eq_true rfl⟩) hN hZ hX3 hP rfl hl.1 rfl (Nat.le_of_ble_eq_true rfl) dL_law_441 ⟨by show cells + 2 ≤ 601024; omega, by show slots + 12 ≤ 7293034; omega⟩ hL (fun H locs hP hL => ?_)
    have hP : BW G cA H0 lo aG aM aO bs (svOf ix bs) β H := hP
    refine lv_istore (lv' := [(6, .int (wCode 0 (.inl k : Nat ⊕ (Int32 × GLS)))), (5, .int (nI (6 * j))), (0, .ref b), (1, .ref aG), (2, .ref aM), (3, .ref aO), (4, .ref (aO + 1))]) hx hb dL_law_444 hl (by decide) rfl (fun ls hl => ?_)
    refine lv_aload_n hx hb dL_law_446 rfl (lv_at hl 4 rfl) ?_
    refine lv_aload_n hx hb dL_law_447 rfl (lv_at hl 2 rfl) ?_
    refine lv_iload hx hb dL_law_448 (lv_at hl 1 rfl) ?_
    refine lv_iconst (v := 1) hx hb dL_law_450 (by decide) ?_
    refine lv_iadd hx hb dL_law_451 ?_
    rw [show nI (6 * j) + 1 = nI (6 * j + 1) from nI_add (6 * j) 1]
    refine lw_scr hx hb hX hbl hbo hL3 hL (by omega) dL_law_452 ?_
    refine lv_aload_n hx hb dL_law_453 rfl (lv_at hl 2 rfl) ?_
    refine lv_iload hx hb dL_law_454 (lv_at hl 1 rfl) ?_
    refine lv_iconst (v := 2) hx hb dL_law_456 (by decide) ?_
    refine lv_iadd hx hb dL_law_457 ?_
    rw [show nI (6 * j) + 2 = nI (6 * j + 2) from nI_add (6 * j) 2]
    refine lw_scr hx hb hX hbl hbo hL3 hL (by omega) dL_law_458 ?_
    refine cx_callV (As := [.int (xs (6 * j + 1)), .int (xs (6 * j + 2))]) (rest := []) ⟨hx, hb, hml, hown, hts⟩ (c_X9_setWeight (BW_M (G := G) (cA := cA) (H0 := H0) (sv := (svOf ix bs)) D β) h3) (cwV 2 hts (gV mw_796 mw_797 mw_798 mw_5 mw_799) rfl rfl rfl hd_X9_setWeight ⟨Nat.le_of_ble_eq_true rfl, Nat.le_of_ble_eq_true rfl⟩) hK hP rfl (at_Model (BW_M (G := G) (cA := cA) (H0 := H0) (sv := (svOf ix bs)) D β) hP) rfl hl.1 rfl (Nat.le_of_ble_eq_true rfl) dL_law_459 ⟨by show cells + 2 + 0 ≤ 601024; omega, by show slots + 12 + 0 ≤ 7293034; omega⟩ hL (fun H locs hP hL => ?_)
    have hP : BW G cA H0 lo aG aM aO bs (svOf ix bs) (β.1, μ1, β.2.2) H := hP
    refine lv_istore (lv' := [(7, .int bb), (6, .int (wCode 0 (.inl k : Nat ⊕ (Int32 × GLS)))), (5, .int (nI (6 * j))), (0, .ref b), (1, .ref aG), (2, .ref aM), (3, .ref aO), (4, .ref (aO + 1))]) hx hb dL_law_462 hl (by decide) rfl (fun ls hl => ?_)
    refine lv_aload_n hx hb dL_law_464 rfl (lv_at hl 5 rfl) ?_
    refine cx_callV (As := []) (rest := []) ⟨hx, hb, hml, hown, hts⟩ (c_X9_thrown (BW_M (G := G) (cA := cA) (H0 := H0) (sv := (svOf ix bs)) D (β.1, μ1, β.2.2)) h4) (cwV 0 hts (gV mw_155 mw_156 mw_157 mw_5 mw_158) rfl rfl rfl hd_X9_thrown ⟨Nat.le_of_ble_eq_true rfl, Nat.le_of_ble_eq_true rfl⟩) hK hP rfl (at_Model (BW_M (G := G) (cA := cA) (H0 := H0) (sv := (svOf ix bs)) D (β.1, μ1, β.2.2)) hP) rfl hl.1 rfl (Nat.le_of_ble_eq_true rfl) dL_law_465 ⟨by show cells + 2 + 0 + 0 ≤ 601024; omega, by show slots + 12 + 0 + 0 ≤ 7293034; omega⟩ hL (fun H locs hP hL => ?_)
    refine lv_iload hx hb dL_law_468 (lv_at hl 1 rfl) ?_
    refine lv_icmp_eq (tgt := 475) hx hb dL_law_470 (by decide) (fun _ => ?_) (fun c8 => absurd rfl c8)
    refine lv_iload hx hb dL_law_475 (lv_at hl 1 rfl) ?_
    refine lv_if_ne (tgt := 492) hx hb dL_law_477 (by decide) (fun _ => ?_) (fun c8 => absurd c8 wCode_ne)
    refine lv_goto (tgt := 2386) hx hb dL_law_492 (by decide) ?_
    exact next (β.1, μ1, β.2.2) ix bs _ _ _ _ _ ⟨D, hI, hP, (h5 k rfl), hL⟩ (by omega) (by omega) (lv_sub hl [2, 3, 4, 5, 6, 7] rfl)
  | inr r =>
    obtain ⟨hbb, h7⟩ := h6 r rfl
    replace hbb := hbb.symm
    subst hbb
    refine lv_aload_n hx hb dL_law_427 rfl (lv_at hl 2 rfl) ?_
    refine lv_aload_n hx hb dL_law_428 rfl (lv_at hl 1 rfl) ?_
    refine lv_iload hx hb dL_law_429 (lv_at hl 0 rfl) ?_
    refine lv_iconst (v := 1) hx hb dL_law_431 (by decide) ?_
    refine lv_iadd hx hb dL_law_432 ?_
    rw [show nI (6 * j) + 1 = nI (6 * j + 1) from nI_add (6 * j) 1]
    refine lw_scr hx hb hX hbl hbo hL3 hL (by omega) dL_law_433 ?_
    refine lv_aload_n hx hb dL_law_434 rfl (lv_at hl 1 rfl) ?_
    refine lv_iload hx hb dL_law_435 (lv_at hl 0 rfl) ?_
    refine lv_iconst (v := 2) hx hb dL_law_437 (by decide) ?_
    refine lv_iadd hx hb dL_law_438 ?_
    rw [show nI (6 * j) + 2 = nI (6 * j + 2) from nI_add (6 * j) 2]
    refine lw_scr hx hb hX hbl hbo hL3 hL (by omega) dL_law_439 ?_
    refine lv_aload_n hx hb dL_law_440 rfl (lv_at hl 4 rfl) ?_
    refine wx_call (As := [.ref aG, .int (xs (6 * j + 1)), .int (xs (6 * j + 2)), .ref aO]) (rest := []) ⟨hx, hb, hml, hown, hts⟩ (c_L_setWeight (G := G) (cA := cA) (H0 := H0) (sv := svOf ix bs) hl0 D h1 h2) (vx_cwSW 4 hts (gSWx mw_775 mw_776 mw_130 mw_777) rfl rfl rfl hd_L_setWeight ⟨Nat.le_of_ble_eq_true rfl, Nat.le_of_ble_eq_true rfl⟩) hN hZ hX3 hP rfl hl.1 rfl (Nat.le_of_ble_eq_true rfl) dL_law_441 ⟨by show cells + 2 ≤ 601024; omega, by show slots + 12 ≤ 7293034; omega⟩ hL (fun H locs hP hL => ?_)
    have hP : BW G cA H0 lo aG aM aO bs (svOf ix bs) (r.2, β.2.1, oUp β.2.2.1 (Int32.toInt64 r.1), β.2.2.2) H := hP
    refine lv_istore (lv' := [(6, .int 0), (5, .int (nI (6 * j))), (0, .ref b), (1, .ref aG), (2, .ref aM), (3, .ref aO), (4, .ref (aO + 1))]) hx hb dL_law_444 hl (by decide) rfl (fun ls hl => ?_)
    refine lv_aload_n hx hb dL_law_446 rfl (lv_at hl 4 rfl) ?_
    refine lv_aload_n hx hb dL_law_447 rfl (lv_at hl 2 rfl) ?_
    refine lv_iload hx hb dL_law_448 (lv_at hl 1 rfl) ?_
    refine lv_iconst (v := 1) hx hb dL_law_450 (by decide) ?_
    refine lv_iadd hx hb dL_law_451 ?_
    rw [show nI (6 * j) + 1 = nI (6 * j + 1) from nI_add (6 * j) 1]
    refine lw_scr hx hb hX hbl hbo hL3 hL (by omega) dL_law_452 ?_
    refine lv_aload_n hx hb dL_law_453 rfl (lv_at hl 2 rfl) ?_
    refine lv_iload hx hb dL_law_454 (lv_at hl 1 rfl) ?_
    refine lv_iconst (v := 2) hx hb dL_law_456 (by decide) ?_
    refine lv_iadd hx hb dL_law_457 ?_
    rw [show nI (6 * j) + 2 = nI (6 * j + 2) from nI_add (6 * j) 2]
    refine lw_scr hx hb hX hbl hbo hL3 hL (by omega) dL_law_458 ?_
    refine cx_callV (As := [.int (xs (6 * j + 1)), .int (xs (6 * j + 2))]) (rest := []) ⟨hx, hb, hml, hown, hts⟩ (c_X9_setWeight (BW_M (G := G) (cA := cA) (H0 := H0) (sv := (svOf ix bs)) D (r.2, β.2.1, oUp β.2.2.1 (Int32.toInt64 r.1), β.2.2.2)) h3) (cwV 2 hts (gV mw_796 mw_797 mw_798 mw_5 mw_799) rfl rfl rfl hd_X9_setWeight ⟨Nat.le_of_ble_eq_true rfl, Nat.le_of_ble_eq_true rfl⟩) hK hP rfl (at_Model (BW_M (G := G) (cA := cA) (H0 := H0) (sv := (svOf ix bs)) D (r.2, β.2.1, oUp β.2.2.1 (Int32.toInt64 r.1), β.2.2.2)) hP) rfl hl.1 rfl (Nat.le_of_ble_eq_true rfl) dL_law_459 ⟨by show cells + 2 + 0 ≤ 601024; omega, by show slots + 12 + 0 ≤ 7293034; omega⟩ hL (fun H locs hP hL => ?_)
    have hP : BW G cA H0 lo aG aM aO bs (svOf ix bs) (r.2, μ1, oUp β.2.2.1 (Int32.toInt64 r.1), β.2.2.2) H := hP
    refine lv_istore (lv' := [(7, .int r.1), (6, .int 0), (5, .int (nI (6 * j))), (0, .ref b), (1, .ref aG), (2, .ref aM), (3, .ref aO), (4, .ref (aO + 1))]) hx hb dL_law_462 hl (by decide) rfl (fun ls hl => ?_)
    refine lv_aload_n hx hb dL_law_464 rfl (lv_at hl 5 rfl) ?_
    refine cx_callV (As := []) (rest := []) ⟨hx, hb, hml, hown, hts⟩ (c_X9_thrown (BW_M (G := G) (cA := cA) (H0 := H0) (sv := (svOf ix bs)) D (r.2, μ1, oUp β.2.2.1 (Int32.toInt64 r.1), β.2.2.2)) h4) (cwV 0 hts (gV mw_155 mw_156 mw_157 mw_5 mw_158) rfl rfl rfl hd_X9_thrown ⟨Nat.le_of_ble_eq_true rfl, Nat.le_of_ble_eq_true rfl⟩) hK hP rfl (at_Model (BW_M (G := G) (cA := cA) (H0 := H0) (sv := (svOf ix bs)) D (r.2, μ1, oUp β.2.2.1 (Int32.toInt64 r.1), β.2.2.2)) hP) rfl hl.1 rfl (Nat.le_of_ble_eq_true rfl) dL_law_465 ⟨by show cells + 2 + 0 + 0 ≤ 601024; omega, by show slots + 12 + 0 + 0 ≤ 7293034; omega⟩ hL (fun H locs hP hL => ?_)
    refine lv_iload hx hb dL_law_468 (lv_at hl 1 rfl) ?_
    refine lv_icmp_eq (tgt := 475) hx hb dL_law_470 (by decide) (fun _ => ?_) (fun c8 => absurd rfl c8)
    refine lv_iload hx hb dL_law_475 (lv_at hl 1 rfl) ?_
    refine lv_if_ne (tgt := 492) hx hb dL_law_477 (by decide) (fun c8 => absurd rfl c8) (fun _ => ?_)
    refine lv_aload_n hx hb dL_law_480 rfl (lv_at hl 6 rfl) ?_
    refine lv_iconst (v := 0) hx hb dL_law_481 (by decide) ?_
    refine va_lald hx hb hK (cx_one ((BW_O (G := G) (cA := cA) (H0 := H0) (sv := (svOf ix bs)) D (r.2, μ1, oUp β.2.2.1 (Int32.toInt64 r.1), β.2.2.2)).1 _ H hP 0 (by decide))) 0 2 rfl rfl (nI_in (c := 0) (N := 1) (by decide) (by decide)) dL_law_482 ?_
    rw [oUp_0]
    refine lv_iload hx hb dL_law_483 (lv_at hl 0 rfl) ?_
    refine lv_i2l hx hb dL_law_485 rfl ?_
    refine cx_lceq (tgt := 492) hx hb dL_law_486 dL_law_487 (by decide) (fun _ => ?_) (fun c8 => absurd rfl c8)
    refine lv_goto (tgt := 2386) hx hb dL_law_492 (by decide) ?_
    exact next (r.2, μ1, oUp β.2.2.1 (Int32.toInt64 r.1), β.2.2.2) ix bs _ _ _ _ _ ⟨D, hI, hP, h7, hL⟩ (by omega) (by omega) (lv_sub hl [2, 3, 4, 5, 6, 7] rfl)
def Sim_set (N : Nat) (Top Toq : TopT) : Prop := ∀ (γ : GLS) (μ : MdlS) (κ : Nat → CacS) (ix : Nat → Option Nat) (nb : Nat) (p0 : Int32) (p1 : Int32), Top γ μ κ ix nb → ∃ (res : Nat ⊕ (Int32 × GLS)) (b : Int32) (μ1 : MdlS), f_X8_set N γ p0 p1 = some res ∧ (∀ k, res = .inl k → k = 1) ∧ f_X9_set N μ p0 p1 = some (b, μ1) ∧ f_X9_thrown μ1 = some (wCode 1 res) ∧ (∀ k, res = .inl k → Toq γ μ1 κ ix nb) ∧ ∀ r, res = .inr r → b = r.1 ∧ Toq r.2 μ1 κ ix nb
set_option maxHeartbeats 2000000 in
set_option maxRecDepth 100000 in
theorem w_law_set {p : Program} {l : Launch} {e : Env} {s : State} {m : MethodId} {args : Array Value} {below : List Frame} {meth : Method} {c : Code} {G : va_G} {cA : Nat → ClassId} {H0 : Heap} {lo aG aM aO : Nat} {z : ZS} {Top Toq : TopT} {b L j N cells slots : Nat} {xs : Nat → Int32} {Q : State → Prop} (F : LwF l p s m args c G cA lo z b L xs) (hj : 6 * j + 5 < L) (hS : Sim_set N Top Toq) {β : BigS} {ix : Nat → Option Nat} {bs : List Nat} {H : Heap} {locs : List Loc} {ls : Array Slot} (St : LwS G cA H0 lo aG aM aO Top β ix bs H locs) (hcs : cells ≤ 500000) (hss : slots ≤ 7000000) (hl : lv_has ls 10 [(5, .int (nI (6 * j))), (0, .ref b), (1, .ref aG), (2, .ref aM), (3, .ref aO), (4, .ref (aO + 1))]) (next : LwN p l e s m args below meth c G cA H0 lo aG aM aO Toq b j cells slots Q) : W p l e room_1 s m args below meth c H locs cells slots Q (F0 m 495 ls []) := by
  obtain ⟨⟨hl0, hx, hb, hml, hown, hts⟩, hN, hZ, hX3, hX, hbl, hbo, hL3⟩ := id F
  have hK := hN.1
  obtain ⟨D, hI, hP, hT, hL⟩ := St
  obtain ⟨res, bb, μ1, h1, h2, h3, h4, h5, h6⟩ := hS β.1 β.2.1 β.2.2.2.2 ix bs.length (xs (6 * j + 1)) (xs (6 * j + 2)) hT
  cases res with
  | inl k =>
    refine lv_aload_n hx hb dL_law_495 rfl (lv_at hl 2 rfl) ?_
    refine lv_aload_n hx hb dL_law_496 rfl (lv_at hl 1 rfl) ?_
    refine lv_iload hx hb dL_law_497 (lv_at hl 0 rfl) ?_
    refine lv_iconst (v := 1) hx hb dL_law_499 (by decide) ?_
    refine lv_iadd hx hb dL_law_500 ?_
    rw [show nI (6 * j) + 1 = nI (6 * j + 1) from nI_add (6 * j) 1]
    refine lw_scr hx hb hX hbl hbo hL3 hL (by omega) dL_law_501 ?_
    refine lv_aload_n hx hb dL_law_502 rfl (lv_at hl 1 rfl) ?_
    refine lv_iload hx hb dL_law_503 (lv_at hl 0 rfl) ?_
    refine lv_iconst (v := 2) hx hb dL_law_505 (by decide) ?_
    refine lv_iadd hx hb dL_law_506 ?_
    rw [show nI (6 * j) + 2 = nI (6 * j + 2) from nI_add (6 * j) 2]
    refine lw_scr hx hb hX hbl hbo hL3 hL (by omega) dL_law_507 ?_
    refine lv_aload_n hx hb dL_law_508 rfl (lv_at hl 4 rfl) ?_
    refine wx_call (As := [.ref aG, .int (xs (6 * j + 1)), .int (xs (6 * j + 2)), .ref aO]) (rest := []) ⟨hx, hb, hml, hown, hts⟩ (c_L_set (G := G) (cA := cA) (H0 := H0) (sv := svOf ix bs) hl0 D h1 h2) (vx_cwSW 4 hts (gSWx mw_800 mw_801 mw_130 mw_802) rfl rfl rfl hd_L_set ⟨Nat.le_of_ble_eq_true rfl, Nat.le_of_ble_eq_true rfl⟩) hN hZ hX3 hP rfl hl.1 rfl (Nat.le_of_ble_eq_true rfl) dL_law_509 ⟨by show cells + 3 ≤ 601024; omega, by show slots + 18 ≤ 7293034; omega⟩ hL (fun H locs hP hL => ?_)
    have hP : BW G cA H0 lo aG aM aO bs (svOf ix bs) β H := hP
    refine lv_istore (lv' := [(6, .int (wCode 1 (.inl k : Nat ⊕ (Int32 × GLS)))), (5, .int (nI (6 * j))), (0, .ref b), (1, .ref aG), (2, .ref aM), (3, .ref aO), (4, .ref (aO + 1))]) hx hb dL_law_512 hl (by decide) rfl (fun ls hl => ?_)
    refine lv_aload_n hx hb dL_law_514 rfl (lv_at hl 4 rfl) ?_
    refine lv_aload_n hx hb dL_law_515 rfl (lv_at hl 2 rfl) ?_
    refine lv_iload hx hb dL_law_516 (lv_at hl 1 rfl) ?_
    refine lv_iconst (v := 1) hx hb dL_law_518 (by decide) ?_
    refine lv_iadd hx hb dL_law_519 ?_
    rw [show nI (6 * j) + 1 = nI (6 * j + 1) from nI_add (6 * j) 1]
    refine lw_scr hx hb hX hbl hbo hL3 hL (by omega) dL_law_520 ?_
    refine lv_aload_n hx hb dL_law_521 rfl (lv_at hl 2 rfl) ?_
    refine lv_iload hx hb dL_law_522 (lv_at hl 1 rfl) ?_
    refine lv_iconst (v := 2) hx hb dL_law_524 (by decide) ?_
    refine lv_iadd hx hb dL_law_525 ?_
    rw [show nI (6 * j) + 2 = nI (6 * j + 2) from nI_add (6 * j) 2]
    refine lw_scr hx hb hX hbl hbo hL3 hL (by omega) dL_law_526 ?_
    refine cx_callV (As := [.int (xs (6 * j + 1)), .int (xs (6 * j + 2))]) (rest := []) ⟨hx, hb, hml, hown, hts⟩ (c_X9_set (BW_M (G := G) (cA := cA) (H0 := H0) (sv := (svOf ix bs)) D β) h3) (cwV 2 hts (gV mw_811 mw_812 mw_813 mw_5 mw_814) rfl rfl rfl hd_X9_set ⟨Nat.le_of_ble_eq_true rfl, Nat.le_of_ble_eq_true rfl⟩) hK hP rfl (at_Model (BW_M (G := G) (cA := cA) (H0 := H0) (sv := (svOf ix bs)) D β) hP) rfl hl.1 rfl (Nat.le_of_ble_eq_true rfl) dL_law_527 ⟨by show cells + 3 + 0 ≤ 601024; omega, by show slots + 18 + 0 ≤ 7293034; omega⟩ hL (fun H locs hP hL => ?_)
    have hP : BW G cA H0 lo aG aM aO bs (svOf ix bs) (β.1, μ1, β.2.2) H := hP
    refine lv_istore (lv' := [(7, .int bb), (6, .int (wCode 1 (.inl k : Nat ⊕ (Int32 × GLS)))), (5, .int (nI (6 * j))), (0, .ref b), (1, .ref aG), (2, .ref aM), (3, .ref aO), (4, .ref (aO + 1))]) hx hb dL_law_530 hl (by decide) rfl (fun ls hl => ?_)
    refine lv_aload_n hx hb dL_law_532 rfl (lv_at hl 5 rfl) ?_
    refine cx_callV (As := []) (rest := []) ⟨hx, hb, hml, hown, hts⟩ (c_X9_thrown (BW_M (G := G) (cA := cA) (H0 := H0) (sv := (svOf ix bs)) D (β.1, μ1, β.2.2)) h4) (cwV 0 hts (gV mw_155 mw_156 mw_157 mw_5 mw_158) rfl rfl rfl hd_X9_thrown ⟨Nat.le_of_ble_eq_true rfl, Nat.le_of_ble_eq_true rfl⟩) hK hP rfl (at_Model (BW_M (G := G) (cA := cA) (H0 := H0) (sv := (svOf ix bs)) D (β.1, μ1, β.2.2)) hP) rfl hl.1 rfl (Nat.le_of_ble_eq_true rfl) dL_law_533 ⟨by show cells + 3 + 0 + 0 ≤ 601024; omega, by show slots + 18 + 0 + 0 ≤ 7293034; omega⟩ hL (fun H locs hP hL => ?_)
    refine lv_iload hx hb dL_law_536 (lv_at hl 1 rfl) ?_
    refine lv_icmp_eq (tgt := 543) hx hb dL_law_538 (by decide) (fun _ => ?_) (fun c8 => absurd rfl c8)
    refine lv_iload hx hb dL_law_543 (lv_at hl 1 rfl) ?_
    refine lv_if_ne (tgt := 560) hx hb dL_law_545 (by decide) (fun _ => ?_) (fun c8 => absurd c8 wCode_ne)
    refine lv_goto (tgt := 2386) hx hb dL_law_560 (by decide) ?_
    exact next (β.1, μ1, β.2.2) ix bs _ _ _ _ _ ⟨D, hI, hP, (h5 k rfl), hL⟩ (by omega) (by omega) (lv_sub hl [2, 3, 4, 5, 6, 7] rfl)
  | inr r =>
    obtain ⟨hbb, h7⟩ := h6 r rfl
    replace hbb := hbb.symm
    subst hbb
    refine lv_aload_n hx hb dL_law_495 rfl (lv_at hl 2 rfl) ?_
    refine lv_aload_n hx hb dL_law_496 rfl (lv_at hl 1 rfl) ?_
    refine lv_iload hx hb dL_law_497 (lv_at hl 0 rfl) ?_
    refine lv_iconst (v := 1) hx hb dL_law_499 (by decide) ?_
    refine lv_iadd hx hb dL_law_500 ?_
    rw [show nI (6 * j) + 1 = nI (6 * j + 1) from nI_add (6 * j) 1]
    refine lw_scr hx hb hX hbl hbo hL3 hL (by omega) dL_law_501 ?_
    refine lv_aload_n hx hb dL_law_502 rfl (lv_at hl 1 rfl) ?_
    refine lv_iload hx hb dL_law_503 (lv_at hl 0 rfl) ?_
    refine lv_iconst (v := 2) hx hb dL_law_505 (by decide) ?_
    refine lv_iadd hx hb dL_law_506 ?_
    rw [show nI (6 * j) + 2 = nI (6 * j + 2) from nI_add (6 * j) 2]
    refine lw_scr hx hb hX hbl hbo hL3 hL (by omega) dL_law_507 ?_
    refine lv_aload_n hx hb dL_law_508 rfl (lv_at hl 4 rfl) ?_
    refine wx_call (As := [.ref aG, .int (xs (6 * j + 1)), .int (xs (6 * j + 2)), .ref aO]) (rest := []) ⟨hx, hb, hml, hown, hts⟩ (c_L_set (G := G) (cA := cA) (H0 := H0) (sv := svOf ix bs) hl0 D h1 h2) (vx_cwSW 4 hts (gSWx mw_800 mw_801 mw_130 mw_802) rfl rfl rfl hd_L_set ⟨Nat.le_of_ble_eq_true rfl, Nat.le_of_ble_eq_true rfl⟩) hN hZ hX3 hP rfl hl.1 rfl (Nat.le_of_ble_eq_true rfl) dL_law_509 ⟨by show cells + 3 ≤ 601024; omega, by show slots + 18 ≤ 7293034; omega⟩ hL (fun H locs hP hL => ?_)
    have hP : BW G cA H0 lo aG aM aO bs (svOf ix bs) (r.2, β.2.1, oUp β.2.2.1 (Int32.toInt64 r.1), β.2.2.2) H := hP
    refine lv_istore (lv' := [(6, .int 0), (5, .int (nI (6 * j))), (0, .ref b), (1, .ref aG), (2, .ref aM), (3, .ref aO), (4, .ref (aO + 1))]) hx hb dL_law_512 hl (by decide) rfl (fun ls hl => ?_)
    refine lv_aload_n hx hb dL_law_514 rfl (lv_at hl 4 rfl) ?_
    refine lv_aload_n hx hb dL_law_515 rfl (lv_at hl 2 rfl) ?_
    refine lv_iload hx hb dL_law_516 (lv_at hl 1 rfl) ?_
    refine lv_iconst (v := 1) hx hb dL_law_518 (by decide) ?_
    refine lv_iadd hx hb dL_law_519 ?_
    rw [show nI (6 * j) + 1 = nI (6 * j + 1) from nI_add (6 * j) 1]
    refine lw_scr hx hb hX hbl hbo hL3 hL (by omega) dL_law_520 ?_
    refine lv_aload_n hx hb dL_law_521 rfl (lv_at hl 2 rfl) ?_
    refine lv_iload hx hb dL_law_522 (lv_at hl 1 rfl) ?_
    refine lv_iconst (v := 2) hx hb dL_law_524 (by decide) ?_
    refine lv_iadd hx hb dL_law_525 ?_
    rw [show nI (6 * j) + 2 = nI (6 * j + 2) from nI_add (6 * j) 2]
    refine lw_scr hx hb hX hbl hbo hL3 hL (by omega) dL_law_526 ?_
    refine cx_callV (As := [.int (xs (6 * j + 1)), .int (xs (6 * j + 2))]) (rest := []) ⟨hx, hb, hml, hown, hts⟩ (c_X9_set (BW_M (G := G) (cA := cA) (H0 := H0) (sv := (svOf ix bs)) D (r.2, β.2.1, oUp β.2.2.1 (Int32.toInt64 r.1), β.2.2.2)) h3) (cwV 2 hts (gV mw_811 mw_812 mw_813 mw_5 mw_814) rfl rfl rfl hd_X9_set ⟨Nat.le_of_ble_eq_true rfl, Nat.le_of_ble_eq_true rfl⟩) hK hP rfl (at_Model (BW_M (G := G) (cA := cA) (H0 := H0) (sv := (svOf ix bs)) D (r.2, β.2.1, oUp β.2.2.1 (Int32.toInt64 r.1), β.2.2.2)) hP) rfl hl.1 rfl (Nat.le_of_ble_eq_true rfl) dL_law_527 ⟨by show cells + 3 + 0 ≤ 601024; omega, by show slots + 18 + 0 ≤ 7293034; omega⟩ hL (fun H locs hP hL => ?_)
    have hP : BW G cA H0 lo aG aM aO bs (svOf ix bs) (r.2, μ1, oUp β.2.2.1 (Int32.toInt64 r.1), β.2.2.2) H := hP
    refine lv_istore (lv' := [(7, .int r.1), (6, .int 0), (5, .int (nI (6 * j))), (0, .ref b), (1, .ref aG), (2, .ref aM), (3, .ref aO), (4, .ref (aO + 1))]) hx hb dL_law_530 hl (by decide) rfl (fun ls hl => ?_)
    refine lv_aload_n hx hb dL_law_532 rfl (lv_at hl 5 rfl) ?_
    refine cx_callV (As := []) (rest := []) ⟨hx, hb, hml, hown, hts⟩ (c_X9_thrown (BW_M (G := G) (cA := cA) (H0 := H0) (sv := (svOf ix bs)) D (r.2, μ1, oUp β.2.2.1 (Int32.toInt64 r.1), β.2.2.2)) h4) (cwV 0 hts (gV mw_155 mw_156 mw_157 mw_5 mw_158) rfl rfl rfl hd_X9_thrown ⟨Nat.le_of_ble_eq_true rfl, Nat.le_of_ble_eq_true rfl⟩) hK hP rfl (at_Model (BW_M (G := G) (cA := cA) (H0 := H0) (sv := (svOf ix bs)) D (r.2, μ1, oUp β.2.2.1 (Int32.toInt64 r.1), β.2.2.2)) hP) rfl hl.1 rfl (Nat.le_of_ble_eq_true rfl) dL_law_533 ⟨by show cells + 3 + 0 + 0 ≤ 601024; omega, by show slots + 18 + 0 + 0 ≤ 7293034; omega⟩ hL (fun H locs hP hL => ?_)
    refine lv_iload hx hb dL_law_536 (lv_at hl 1 rfl) ?_
    refine lv_icmp_eq (tgt := 543) hx hb dL_law_538 (by decide) (fun _ => ?_) (fun c8 => absurd rfl c8)
    refine lv_iload hx hb dL_law_543 (lv_at hl 1 rfl) ?_
    refine lv_if_ne (tgt := 560) hx hb dL_law_545 (by decide) (fun c8 => absurd rfl c8) (fun _ => ?_)
    refine lv_aload_n hx hb dL_law_548 rfl (lv_at hl 6 rfl) ?_
    refine lv_iconst (v := 0) hx hb dL_law_549 (by decide) ?_
    refine va_lald hx hb hK (cx_one ((BW_O (G := G) (cA := cA) (H0 := H0) (sv := (svOf ix bs)) D (r.2, μ1, oUp β.2.2.1 (Int32.toInt64 r.1), β.2.2.2)).1 _ H hP 0 (by decide))) 0 2 rfl rfl (nI_in (c := 0) (N := 1) (by decide) (by decide)) dL_law_550 ?_
    rw [oUp_0]
    refine lv_iload hx hb dL_law_551 (lv_at hl 0 rfl) ?_
    refine lv_i2l hx hb dL_law_553 rfl ?_
    refine cx_lceq (tgt := 560) hx hb dL_law_554 dL_law_555 (by decide) (fun _ => ?_) (fun c8 => absurd rfl c8)
    refine lv_goto (tgt := 2386) hx hb dL_law_560 (by decide) ?_
    exact next (r.2, μ1, oUp β.2.2.1 (Int32.toInt64 r.1), β.2.2.2) ix bs _ _ _ _ _ ⟨D, hI, hP, h7, hL⟩ (by omega) (by omega) (lv_sub hl [2, 3, 4, 5, 6, 7] rfl)
def Sim_shape (N : Nat) (Top Toq : TopT) : Prop := ∀ (γ : GLS) (μ : MdlS) (κ : Nat → CacS) (ix : Nat → Option Nat) (nb : Nat) (p0 : Int32) (p1 : Int32), Top γ μ κ ix nb → ∃ (res : Nat ⊕ (Int32 × GLS)) (b : Int32) (μ1 : MdlS), f_X8_shape N γ p0 p1 = some res ∧ (∀ k, res = .inl k → k = 1) ∧ f_X9_shape N μ p0 p1 = some (b, μ1) ∧ f_X9_thrown μ1 = some (wCode 1 res) ∧ (∀ k, res = .inl k → Toq γ μ1 κ ix nb) ∧ ∀ r, res = .inr r → b = r.1 ∧ Toq r.2 μ1 κ ix nb
set_option maxHeartbeats 2000000 in
set_option maxRecDepth 100000 in
theorem w_law_shape {p : Program} {l : Launch} {e : Env} {s : State} {m : MethodId} {args : Array Value} {below : List Frame} {meth : Method} {c : Code} {G : va_G} {cA : Nat → ClassId} {H0 : Heap} {lo aG aM aO : Nat} {z : ZS} {Top Toq : TopT} {b L j N cells slots : Nat} {xs : Nat → Int32} {Q : State → Prop} (F : LwF l p s m args c G cA lo z b L xs) (hj : 6 * j + 5 < L) (hS : Sim_shape N Top Toq) {β : BigS} {ix : Nat → Option Nat} {bs : List Nat} {H : Heap} {locs : List Loc} {ls : Array Slot} (St : LwS G cA H0 lo aG aM aO Top β ix bs H locs) (hcs : cells ≤ 500000) (hss : slots ≤ 7000000) (hl : lv_has ls 10 [(5, .int (nI (6 * j))), (0, .ref b), (1, .ref aG), (2, .ref aM), (3, .ref aO), (4, .ref (aO + 1))]) (next : LwN p l e s m args below meth c G cA H0 lo aG aM aO Toq b j cells slots Q) : W p l e room_1 s m args below meth c H locs cells slots Q (F0 m 563 ls []) := by
  obtain ⟨⟨hl0, hx, hb, hml, hown, hts⟩, hN, hZ, hX3, hX, hbl, hbo, hL3⟩ := id F
  have hK := hN.1
  obtain ⟨D, hI, hP, hT, hL⟩ := St
  obtain ⟨res, bb, μ1, h1, h2, h3, h4, h5, h6⟩ := hS β.1 β.2.1 β.2.2.2.2 ix bs.length (xs (6 * j + 1)) (xs (6 * j + 2)) hT
  cases res with
  | inl k =>
    refine lv_aload_n hx hb dL_law_563 rfl (lv_at hl 2 rfl) ?_
    refine lv_aload_n hx hb dL_law_564 rfl (lv_at hl 1 rfl) ?_
    refine lv_iload hx hb dL_law_565 (lv_at hl 0 rfl) ?_
    refine lv_iconst (v := 1) hx hb dL_law_567 (by decide) ?_
    refine lv_iadd hx hb dL_law_568 ?_
    rw [show nI (6 * j) + 1 = nI (6 * j + 1) from nI_add (6 * j) 1]
    refine lw_scr hx hb hX hbl hbo hL3 hL (by omega) dL_law_569 ?_
    refine lv_aload_n hx hb dL_law_570 rfl (lv_at hl 1 rfl) ?_
    refine lv_iload hx hb dL_law_571 (lv_at hl 0 rfl) ?_
    refine lv_iconst (v := 2) hx hb dL_law_573 (by decide) ?_
    refine lv_iadd hx hb dL_law_574 ?_
    rw [show nI (6 * j) + 2 = nI (6 * j + 2) from nI_add (6 * j) 2]
    refine lw_scr hx hb hX hbl hbo hL3 hL (by omega) dL_law_575 ?_
    refine lv_aload_n hx hb dL_law_576 rfl (lv_at hl 4 rfl) ?_
    refine wx_call (As := [.ref aG, .int (xs (6 * j + 1)), .int (xs (6 * j + 2)), .ref aO]) (rest := []) ⟨hx, hb, hml, hown, hts⟩ (c_L_shape (G := G) (cA := cA) (H0 := H0) (sv := svOf ix bs) hl0 D h1 h2) (vx_cwSW 4 hts (gSWx mw_815 mw_816 mw_130 mw_817) rfl rfl rfl hd_L_shape ⟨Nat.le_of_ble_eq_true rfl, Nat.le_of_ble_eq_true rfl⟩) hN hZ hX3 hP rfl hl.1 rfl (Nat.le_of_ble_eq_true rfl) dL_law_577 ⟨by show cells + 2 ≤ 601024; omega, by show slots + 12 ≤ 7293034; omega⟩ hL (fun H locs hP hL => ?_)
    have hP : BW G cA H0 lo aG aM aO bs (svOf ix bs) β H := hP
    refine lv_istore (lv' := [(6, .int (wCode 1 (.inl k : Nat ⊕ (Int32 × GLS)))), (5, .int (nI (6 * j))), (0, .ref b), (1, .ref aG), (2, .ref aM), (3, .ref aO), (4, .ref (aO + 1))]) hx hb dL_law_580 hl (by decide) rfl (fun ls hl => ?_)
    refine lv_aload_n hx hb dL_law_582 rfl (lv_at hl 4 rfl) ?_
    refine lv_aload_n hx hb dL_law_583 rfl (lv_at hl 2 rfl) ?_
    refine lv_iload hx hb dL_law_584 (lv_at hl 1 rfl) ?_
    refine lv_iconst (v := 1) hx hb dL_law_586 (by decide) ?_
    refine lv_iadd hx hb dL_law_587 ?_
    rw [show nI (6 * j) + 1 = nI (6 * j + 1) from nI_add (6 * j) 1]
    refine lw_scr hx hb hX hbl hbo hL3 hL (by omega) dL_law_588 ?_
    refine lv_aload_n hx hb dL_law_589 rfl (lv_at hl 2 rfl) ?_
    refine lv_iload hx hb dL_law_590 (lv_at hl 1 rfl) ?_
    refine lv_iconst (v := 2) hx hb dL_law_592 (by decide) ?_
    refine lv_iadd hx hb dL_law_593 ?_
    rw [show nI (6 * j) + 2 = nI (6 * j + 2) from nI_add (6 * j) 2]
    refine lw_scr hx hb hX hbl hbo hL3 hL (by omega) dL_law_594 ?_
    refine cx_callV (As := [.int (xs (6 * j + 1)), .int (xs (6 * j + 2))]) (rest := []) ⟨hx, hb, hml, hown, hts⟩ (c_X9_shape (BW_M (G := G) (cA := cA) (H0 := H0) (sv := (svOf ix bs)) D β) h3) (cwV 2 hts (gV mw_830 mw_831 mw_832 mw_5 mw_833) rfl rfl rfl hd_X9_shape ⟨Nat.le_of_ble_eq_true rfl, Nat.le_of_ble_eq_true rfl⟩) hK hP rfl (at_Model (BW_M (G := G) (cA := cA) (H0 := H0) (sv := (svOf ix bs)) D β) hP) rfl hl.1 rfl (Nat.le_of_ble_eq_true rfl) dL_law_595 ⟨by show cells + 2 + 0 ≤ 601024; omega, by show slots + 12 + 0 ≤ 7293034; omega⟩ hL (fun H locs hP hL => ?_)
    have hP : BW G cA H0 lo aG aM aO bs (svOf ix bs) (β.1, μ1, β.2.2) H := hP
    refine lv_istore (lv' := [(7, .int bb), (6, .int (wCode 1 (.inl k : Nat ⊕ (Int32 × GLS)))), (5, .int (nI (6 * j))), (0, .ref b), (1, .ref aG), (2, .ref aM), (3, .ref aO), (4, .ref (aO + 1))]) hx hb dL_law_598 hl (by decide) rfl (fun ls hl => ?_)
    refine lv_aload_n hx hb dL_law_600 rfl (lv_at hl 5 rfl) ?_
    refine cx_callV (As := []) (rest := []) ⟨hx, hb, hml, hown, hts⟩ (c_X9_thrown (BW_M (G := G) (cA := cA) (H0 := H0) (sv := (svOf ix bs)) D (β.1, μ1, β.2.2)) h4) (cwV 0 hts (gV mw_155 mw_156 mw_157 mw_5 mw_158) rfl rfl rfl hd_X9_thrown ⟨Nat.le_of_ble_eq_true rfl, Nat.le_of_ble_eq_true rfl⟩) hK hP rfl (at_Model (BW_M (G := G) (cA := cA) (H0 := H0) (sv := (svOf ix bs)) D (β.1, μ1, β.2.2)) hP) rfl hl.1 rfl (Nat.le_of_ble_eq_true rfl) dL_law_601 ⟨by show cells + 2 + 0 + 0 ≤ 601024; omega, by show slots + 12 + 0 + 0 ≤ 7293034; omega⟩ hL (fun H locs hP hL => ?_)
    refine lv_iload hx hb dL_law_604 (lv_at hl 1 rfl) ?_
    refine lv_icmp_eq (tgt := 611) hx hb dL_law_606 (by decide) (fun _ => ?_) (fun c8 => absurd rfl c8)
    refine lv_iload hx hb dL_law_611 (lv_at hl 1 rfl) ?_
    refine lv_if_ne (tgt := 628) hx hb dL_law_613 (by decide) (fun _ => ?_) (fun c8 => absurd c8 wCode_ne)
    refine lv_goto (tgt := 2386) hx hb dL_law_628 (by decide) ?_
    exact next (β.1, μ1, β.2.2) ix bs _ _ _ _ _ ⟨D, hI, hP, (h5 k rfl), hL⟩ (by omega) (by omega) (lv_sub hl [2, 3, 4, 5, 6, 7] rfl)
  | inr r =>
    obtain ⟨hbb, h7⟩ := h6 r rfl
    replace hbb := hbb.symm
    subst hbb
    refine lv_aload_n hx hb dL_law_563 rfl (lv_at hl 2 rfl) ?_
    refine lv_aload_n hx hb dL_law_564 rfl (lv_at hl 1 rfl) ?_
    refine lv_iload hx hb dL_law_565 (lv_at hl 0 rfl) ?_
    refine lv_iconst (v := 1) hx hb dL_law_567 (by decide) ?_
    refine lv_iadd hx hb dL_law_568 ?_
    rw [show nI (6 * j) + 1 = nI (6 * j + 1) from nI_add (6 * j) 1]
    refine lw_scr hx hb hX hbl hbo hL3 hL (by omega) dL_law_569 ?_
    refine lv_aload_n hx hb dL_law_570 rfl (lv_at hl 1 rfl) ?_
    refine lv_iload hx hb dL_law_571 (lv_at hl 0 rfl) ?_
    refine lv_iconst (v := 2) hx hb dL_law_573 (by decide) ?_
    refine lv_iadd hx hb dL_law_574 ?_
    rw [show nI (6 * j) + 2 = nI (6 * j + 2) from nI_add (6 * j) 2]
    refine lw_scr hx hb hX hbl hbo hL3 hL (by omega) dL_law_575 ?_
    refine lv_aload_n hx hb dL_law_576 rfl (lv_at hl 4 rfl) ?_
    refine wx_call (As := [.ref aG, .int (xs (6 * j + 1)), .int (xs (6 * j + 2)), .ref aO]) (rest := []) ⟨hx, hb, hml, hown, hts⟩ (c_L_shape (G := G) (cA := cA) (H0 := H0) (sv := svOf ix bs) hl0 D h1 h2) (vx_cwSW 4 hts (gSWx mw_815 mw_816 mw_130 mw_817) rfl rfl rfl hd_L_shape ⟨Nat.le_of_ble_eq_true rfl, Nat.le_of_ble_eq_true rfl⟩) hN hZ hX3 hP rfl hl.1 rfl (Nat.le_of_ble_eq_true rfl) dL_law_577 ⟨by show cells + 2 ≤ 601024; omega, by show slots + 12 ≤ 7293034; omega⟩ hL (fun H locs hP hL => ?_)
    have hP : BW G cA H0 lo aG aM aO bs (svOf ix bs) (r.2, β.2.1, oUp β.2.2.1 (Int32.toInt64 r.1), β.2.2.2) H := hP
    refine lv_istore (lv' := [(6, .int 0), (5, .int (nI (6 * j))), (0, .ref b), (1, .ref aG), (2, .ref aM), (3, .ref aO), (4, .ref (aO + 1))]) hx hb dL_law_580 hl (by decide) rfl (fun ls hl => ?_)
    refine lv_aload_n hx hb dL_law_582 rfl (lv_at hl 4 rfl) ?_
    refine lv_aload_n hx hb dL_law_583 rfl (lv_at hl 2 rfl) ?_
    refine lv_iload hx hb dL_law_584 (lv_at hl 1 rfl) ?_
    refine lv_iconst (v := 1) hx hb dL_law_586 (by decide) ?_
    refine lv_iadd hx hb dL_law_587 ?_
    rw [show nI (6 * j) + 1 = nI (6 * j + 1) from nI_add (6 * j) 1]
    refine lw_scr hx hb hX hbl hbo hL3 hL (by omega) dL_law_588 ?_
    refine lv_aload_n hx hb dL_law_589 rfl (lv_at hl 2 rfl) ?_
    refine lv_iload hx hb dL_law_590 (lv_at hl 1 rfl) ?_
    refine lv_iconst (v := 2) hx hb dL_law_592 (by decide) ?_
    refine lv_iadd hx hb dL_law_593 ?_
    rw [show nI (6 * j) + 2 = nI (6 * j + 2) from nI_add (6 * j) 2]
    refine lw_scr hx hb hX hbl hbo hL3 hL (by omega) dL_law_594 ?_
    refine cx_callV (As := [.int (xs (6 * j + 1)), .int (xs (6 * j + 2))]) (rest := []) ⟨hx, hb, hml, hown, hts⟩ (c_X9_shape (BW_M (G := G) (cA := cA) (H0 := H0) (sv := (svOf ix bs)) D (r.2, β.2.1, oUp β.2.2.1 (Int32.toInt64 r.1), β.2.2.2)) h3) (cwV 2 hts (gV mw_830 mw_831 mw_832 mw_5 mw_833) rfl rfl rfl hd_X9_shape ⟨Nat.le_of_ble_eq_true rfl, Nat.le_of_ble_eq_true rfl⟩) hK hP rfl (at_Model (BW_M (G := G) (cA := cA) (H0 := H0) (sv := (svOf ix bs)) D (r.2, β.2.1, oUp β.2.2.1 (Int32.toInt64 r.1), β.2.2.2)) hP) rfl hl.1 rfl (Nat.le_of_ble_eq_true rfl) dL_law_595 ⟨by show cells + 2 + 0 ≤ 601024; omega, by show slots + 12 + 0 ≤ 7293034; omega⟩ hL (fun H locs hP hL => ?_)
    have hP : BW G cA H0 lo aG aM aO bs (svOf ix bs) (r.2, μ1, oUp β.2.2.1 (Int32.toInt64 r.1), β.2.2.2) H := hP
    refine lv_istore (lv' := [(7, .int r.1), (6, .int 0), (5, .int (nI (6 * j))), (0, .ref b), (1, .ref aG), (2, .ref aM), (3, .ref aO), (4, .ref (aO + 1))]) hx hb dL_law_598 hl (by decide) rfl (fun ls hl => ?_)
    refine lv_aload_n hx hb dL_law_600 rfl (lv_at hl 5 rfl) ?_
    refine cx_callV (As := []) (rest := []) ⟨hx, hb, hml, hown, hts⟩ (c_X9_thrown (BW_M (G := G) (cA := cA) (H0 := H0) (sv := (svOf ix bs)) D (r.2, μ1, oUp β.2.2.1 (Int32.toInt64 r.1), β.2.2.2)) h4) (cwV 0 hts (gV mw_155 mw_156 mw_157 mw_5 mw_158) rfl rfl rfl hd_X9_thrown ⟨Nat.le_of_ble_eq_true rfl, Nat.le_of_ble_eq_true rfl⟩) hK hP rfl (at_Model (BW_M (G := G) (cA := cA) (H0 := H0) (sv := (svOf ix bs)) D (r.2, μ1, oUp β.2.2.1 (Int32.toInt64 r.1), β.2.2.2)) hP) rfl hl.1 rfl (Nat.le_of_ble_eq_true rfl) dL_law_601 ⟨by show cells + 2 + 0 + 0 ≤ 601024; omega, by show slots + 12 + 0 + 0 ≤ 7293034; omega⟩ hL (fun H locs hP hL => ?_)
    refine lv_iload hx hb dL_law_604 (lv_at hl 1 rfl) ?_
    refine lv_icmp_eq (tgt := 611) hx hb dL_law_606 (by decide) (fun _ => ?_) (fun c8 => absurd rfl c8)
    refine lv_iload hx hb dL_law_611 (lv_at hl 1 rfl) ?_
    refine lv_if_ne (tgt := 628) hx hb dL_law_613 (by decide) (fun c8 => absurd rfl c8) (fun _ => ?_)
    refine lv_aload_n hx hb dL_law_616 rfl (lv_at hl 6 rfl) ?_
    refine lv_iconst (v := 0) hx hb dL_law_617 (by decide) ?_
    refine va_lald hx hb hK (cx_one ((BW_O (G := G) (cA := cA) (H0 := H0) (sv := (svOf ix bs)) D (r.2, μ1, oUp β.2.2.1 (Int32.toInt64 r.1), β.2.2.2)).1 _ H hP 0 (by decide))) 0 2 rfl rfl (nI_in (c := 0) (N := 1) (by decide) (by decide)) dL_law_618 ?_
    rw [oUp_0]
    refine lv_iload hx hb dL_law_619 (lv_at hl 0 rfl) ?_
    refine lv_i2l hx hb dL_law_621 rfl ?_
    refine cx_lceq (tgt := 628) hx hb dL_law_622 dL_law_623 (by decide) (fun _ => ?_) (fun c8 => absurd rfl c8)
    refine lv_goto (tgt := 2386) hx hb dL_law_628 (by decide) ?_
    exact next (r.2, μ1, oUp β.2.2.1 (Int32.toInt64 r.1), β.2.2.2) ix bs _ _ _ _ _ ⟨D, hI, hP, h7, hL⟩ (by omega) (by omega) (lv_sub hl [2, 3, 4, 5, 6, 7] rfl)
def Sim_count (N : Nat) (Top Toq : TopT) : Prop := ∀ (γ : GLS) (μ : MdlS) (κ : Nat → CacS) (ix : Nat → Option Nat) (nb : Nat) (p0 : Int32), Top γ μ κ ix nb → ∃ (res : Nat ⊕ (Int32)) (b : Int32) (μ1 : MdlS), f_X8_count N γ p0 = some res ∧ (∀ k, res = .inl k → k = 1) ∧ f_X9_count N μ p0 = some (b, μ1) ∧ f_X9_thrown μ1 = some (wCode 1 res) ∧ (∀ k, res = .inl k → Toq γ μ1 κ ix nb) ∧ ∀ r, res = .inr r → b = r ∧ Toq γ μ1 κ ix nb
set_option maxHeartbeats 2000000 in
set_option maxRecDepth 100000 in
theorem w_law_count {p : Program} {l : Launch} {e : Env} {s : State} {m : MethodId} {args : Array Value} {below : List Frame} {meth : Method} {c : Code} {G : va_G} {cA : Nat → ClassId} {H0 : Heap} {lo aG aM aO : Nat} {z : ZS} {Top Toq : TopT} {b L j N cells slots : Nat} {xs : Nat → Int32} {Q : State → Prop} (F : LwF l p s m args c G cA lo z b L xs) (hj : 6 * j + 5 < L) (hS : Sim_count N Top Toq) {β : BigS} {ix : Nat → Option Nat} {bs : List Nat} {H : Heap} {locs : List Loc} {ls : Array Slot} (St : LwS G cA H0 lo aG aM aO Top β ix bs H locs) (hcs : cells ≤ 500000) (hss : slots ≤ 7000000) (hl : lv_has ls 10 [(5, .int (nI (6 * j))), (0, .ref b), (1, .ref aG), (2, .ref aM), (3, .ref aO), (4, .ref (aO + 1))]) (next : LwN p l e s m args below meth c G cA H0 lo aG aM aO Toq b j cells slots Q) : W p l e room_1 s m args below meth c H locs cells slots Q (F0 m 631 ls []) := by
  obtain ⟨⟨hl0, hx, hb, hml, hown, hts⟩, hN, hZ, hX3, hX, hbl, hbo, hL3⟩ := id F
  have hK := hN.1
  obtain ⟨D, hI, hP, hT, hL⟩ := St
  obtain ⟨res, bb, μ1, h1, h2, h3, h4, h5, h6⟩ := hS β.1 β.2.1 β.2.2.2.2 ix bs.length (xs (6 * j + 1)) hT
  cases res with
  | inl k =>
    refine lv_aload_n hx hb dL_law_631 rfl (lv_at hl 2 rfl) ?_
    refine lv_aload_n hx hb dL_law_632 rfl (lv_at hl 1 rfl) ?_
    refine lv_iload hx hb dL_law_633 (lv_at hl 0 rfl) ?_
    refine lv_iconst (v := 1) hx hb dL_law_635 (by decide) ?_
    refine lv_iadd hx hb dL_law_636 ?_
    rw [show nI (6 * j) + 1 = nI (6 * j + 1) from nI_add (6 * j) 1]
    refine lw_scr hx hb hX hbl hbo hL3 hL (by omega) dL_law_637 ?_
    refine lv_aload_n hx hb dL_law_638 rfl (lv_at hl 4 rfl) ?_
    refine wx_call (As := [.ref aG, .int (xs (6 * j + 1)), .ref aO]) (rest := []) ⟨hx, hb, hml, hown, hts⟩ (c_L_count (G := G) (cA := cA) (H0 := H0) (sv := svOf ix bs) hl0 D h1 h2) (vx_cwSW 3 hts (gSWx mw_834 mw_835 mw_130 mw_836) rfl rfl rfl hd_L_count ⟨Nat.le_of_ble_eq_true rfl, Nat.le_of_ble_eq_true rfl⟩) hN hZ hX3 hP rfl hl.1 rfl (Nat.le_of_ble_eq_true rfl) dL_law_639 ⟨by show cells + 1 ≤ 601024; omega, by show slots + 6 ≤ 7293034; omega⟩ hL (fun H locs hP hL => ?_)
    have hP : BW G cA H0 lo aG aM aO bs (svOf ix bs) β H := hP
    refine lv_istore (lv' := [(6, .int (wCode 1 (.inl k : Nat ⊕ (Int32)))), (5, .int (nI (6 * j))), (0, .ref b), (1, .ref aG), (2, .ref aM), (3, .ref aO), (4, .ref (aO + 1))]) hx hb dL_law_642 hl (by decide) rfl (fun ls hl => ?_)
    refine lv_aload_n hx hb dL_law_644 rfl (lv_at hl 4 rfl) ?_
    refine lv_aload_n hx hb dL_law_645 rfl (lv_at hl 2 rfl) ?_
    refine lv_iload hx hb dL_law_646 (lv_at hl 1 rfl) ?_
    refine lv_iconst (v := 1) hx hb dL_law_648 (by decide) ?_
    refine lv_iadd hx hb dL_law_649 ?_
    rw [show nI (6 * j) + 1 = nI (6 * j + 1) from nI_add (6 * j) 1]
    refine lw_scr hx hb hX hbl hbo hL3 hL (by omega) dL_law_650 ?_
    refine cx_callV (As := [.int (xs (6 * j + 1))]) (rest := []) ⟨hx, hb, hml, hown, hts⟩ (c_X9_count (BW_M (G := G) (cA := cA) (H0 := H0) (sv := (svOf ix bs)) D β) h3) (cwV 1 hts (gV mw_852 mw_853 mw_854 mw_5 mw_855) rfl rfl rfl hd_X9_count ⟨Nat.le_of_ble_eq_true rfl, Nat.le_of_ble_eq_true rfl⟩) hK hP rfl (at_Model (BW_M (G := G) (cA := cA) (H0 := H0) (sv := (svOf ix bs)) D β) hP) rfl hl.1 rfl (Nat.le_of_ble_eq_true rfl) dL_law_651 ⟨by show cells + 1 + 0 ≤ 601024; omega, by show slots + 6 + 0 ≤ 7293034; omega⟩ hL (fun H locs hP hL => ?_)
    have hP : BW G cA H0 lo aG aM aO bs (svOf ix bs) (β.1, μ1, β.2.2) H := hP
    refine lv_istore (lv' := [(7, .int bb), (6, .int (wCode 1 (.inl k : Nat ⊕ (Int32)))), (5, .int (nI (6 * j))), (0, .ref b), (1, .ref aG), (2, .ref aM), (3, .ref aO), (4, .ref (aO + 1))]) hx hb dL_law_654 hl (by decide) rfl (fun ls hl => ?_)
    refine lv_aload_n hx hb dL_law_656 rfl (lv_at hl 5 rfl) ?_
    refine cx_callV (As := []) (rest := []) ⟨hx, hb, hml, hown, hts⟩ (c_X9_thrown (BW_M (G := G) (cA := cA) (H0 := H0) (sv := (svOf ix bs)) D (β.1, μ1, β.2.2)) h4) (cwV 0 hts (gV mw_155 mw_156 mw_157 mw_5 mw_158) rfl rfl rfl hd_X9_thrown ⟨Nat.le_of_ble_eq_true rfl, Nat.le_of_ble_eq_true rfl⟩) hK hP rfl (at_Model (BW_M (G := G) (cA := cA) (H0 := H0) (sv := (svOf ix bs)) D (β.1, μ1, β.2.2)) hP) rfl hl.1 rfl (Nat.le_of_ble_eq_true rfl) dL_law_657 ⟨by show cells + 1 + 0 + 0 ≤ 601024; omega, by show slots + 6 + 0 + 0 ≤ 7293034; omega⟩ hL (fun H locs hP hL => ?_)
    refine lv_iload hx hb dL_law_660 (lv_at hl 1 rfl) ?_
    refine lv_icmp_eq (tgt := 667) hx hb dL_law_662 (by decide) (fun _ => ?_) (fun c8 => absurd rfl c8)
    refine lv_iload hx hb dL_law_667 (lv_at hl 1 rfl) ?_
    refine lv_if_ne (tgt := 684) hx hb dL_law_669 (by decide) (fun _ => ?_) (fun c8 => absurd c8 wCode_ne)
    refine lv_goto (tgt := 2386) hx hb dL_law_684 (by decide) ?_
    exact next (β.1, μ1, β.2.2) ix bs _ _ _ _ _ ⟨D, hI, hP, (h5 k rfl), hL⟩ (by omega) (by omega) (lv_sub hl [2, 3, 4, 5, 6, 7] rfl)
  | inr r =>
    obtain ⟨hbb, h7⟩ := h6 r rfl
    replace hbb := hbb.symm
    subst hbb
    refine lv_aload_n hx hb dL_law_631 rfl (lv_at hl 2 rfl) ?_
    refine lv_aload_n hx hb dL_law_632 rfl (lv_at hl 1 rfl) ?_
    refine lv_iload hx hb dL_law_633 (lv_at hl 0 rfl) ?_
    refine lv_iconst (v := 1) hx hb dL_law_635 (by decide) ?_
    refine lv_iadd hx hb dL_law_636 ?_
    rw [show nI (6 * j) + 1 = nI (6 * j + 1) from nI_add (6 * j) 1]
    refine lw_scr hx hb hX hbl hbo hL3 hL (by omega) dL_law_637 ?_
    refine lv_aload_n hx hb dL_law_638 rfl (lv_at hl 4 rfl) ?_
    refine wx_call (As := [.ref aG, .int (xs (6 * j + 1)), .ref aO]) (rest := []) ⟨hx, hb, hml, hown, hts⟩ (c_L_count (G := G) (cA := cA) (H0 := H0) (sv := svOf ix bs) hl0 D h1 h2) (vx_cwSW 3 hts (gSWx mw_834 mw_835 mw_130 mw_836) rfl rfl rfl hd_L_count ⟨Nat.le_of_ble_eq_true rfl, Nat.le_of_ble_eq_true rfl⟩) hN hZ hX3 hP rfl hl.1 rfl (Nat.le_of_ble_eq_true rfl) dL_law_639 ⟨by show cells + 1 ≤ 601024; omega, by show slots + 6 ≤ 7293034; omega⟩ hL (fun H locs hP hL => ?_)
    have hP : BW G cA H0 lo aG aM aO bs (svOf ix bs) (β.1, β.2.1, oUp β.2.2.1 (Int32.toInt64 r), β.2.2.2) H := hP
    refine lv_istore (lv' := [(6, .int 0), (5, .int (nI (6 * j))), (0, .ref b), (1, .ref aG), (2, .ref aM), (3, .ref aO), (4, .ref (aO + 1))]) hx hb dL_law_642 hl (by decide) rfl (fun ls hl => ?_)
    refine lv_aload_n hx hb dL_law_644 rfl (lv_at hl 4 rfl) ?_
    refine lv_aload_n hx hb dL_law_645 rfl (lv_at hl 2 rfl) ?_
    refine lv_iload hx hb dL_law_646 (lv_at hl 1 rfl) ?_
    refine lv_iconst (v := 1) hx hb dL_law_648 (by decide) ?_
    refine lv_iadd hx hb dL_law_649 ?_
    rw [show nI (6 * j) + 1 = nI (6 * j + 1) from nI_add (6 * j) 1]
    refine lw_scr hx hb hX hbl hbo hL3 hL (by omega) dL_law_650 ?_
    refine cx_callV (As := [.int (xs (6 * j + 1))]) (rest := []) ⟨hx, hb, hml, hown, hts⟩ (c_X9_count (BW_M (G := G) (cA := cA) (H0 := H0) (sv := (svOf ix bs)) D (β.1, β.2.1, oUp β.2.2.1 (Int32.toInt64 r), β.2.2.2)) h3) (cwV 1 hts (gV mw_852 mw_853 mw_854 mw_5 mw_855) rfl rfl rfl hd_X9_count ⟨Nat.le_of_ble_eq_true rfl, Nat.le_of_ble_eq_true rfl⟩) hK hP rfl (at_Model (BW_M (G := G) (cA := cA) (H0 := H0) (sv := (svOf ix bs)) D (β.1, β.2.1, oUp β.2.2.1 (Int32.toInt64 r), β.2.2.2)) hP) rfl hl.1 rfl (Nat.le_of_ble_eq_true rfl) dL_law_651 ⟨by show cells + 1 + 0 ≤ 601024; omega, by show slots + 6 + 0 ≤ 7293034; omega⟩ hL (fun H locs hP hL => ?_)
    have hP : BW G cA H0 lo aG aM aO bs (svOf ix bs) (β.1, μ1, oUp β.2.2.1 (Int32.toInt64 r), β.2.2.2) H := hP
    refine lv_istore (lv' := [(7, .int r), (6, .int 0), (5, .int (nI (6 * j))), (0, .ref b), (1, .ref aG), (2, .ref aM), (3, .ref aO), (4, .ref (aO + 1))]) hx hb dL_law_654 hl (by decide) rfl (fun ls hl => ?_)
    refine lv_aload_n hx hb dL_law_656 rfl (lv_at hl 5 rfl) ?_
    refine cx_callV (As := []) (rest := []) ⟨hx, hb, hml, hown, hts⟩ (c_X9_thrown (BW_M (G := G) (cA := cA) (H0 := H0) (sv := (svOf ix bs)) D (β.1, μ1, oUp β.2.2.1 (Int32.toInt64 r), β.2.2.2)) h4) (cwV 0 hts (gV mw_155 mw_156 mw_157 mw_5 mw_158) rfl rfl rfl hd_X9_thrown ⟨Nat.le_of_ble_eq_true rfl, Nat.le_of_ble_eq_true rfl⟩) hK hP rfl (at_Model (BW_M (G := G) (cA := cA) (H0 := H0) (sv := (svOf ix bs)) D (β.1, μ1, oUp β.2.2.1 (Int32.toInt64 r), β.2.2.2)) hP) rfl hl.1 rfl (Nat.le_of_ble_eq_true rfl) dL_law_657 ⟨by show cells + 1 + 0 + 0 ≤ 601024; omega, by show slots + 6 + 0 + 0 ≤ 7293034; omega⟩ hL (fun H locs hP hL => ?_)
    refine lv_iload hx hb dL_law_660 (lv_at hl 1 rfl) ?_
    refine lv_icmp_eq (tgt := 667) hx hb dL_law_662 (by decide) (fun _ => ?_) (fun c8 => absurd rfl c8)
    refine lv_iload hx hb dL_law_667 (lv_at hl 1 rfl) ?_
    refine lv_if_ne (tgt := 684) hx hb dL_law_669 (by decide) (fun c8 => absurd rfl c8) (fun _ => ?_)
    refine lv_aload_n hx hb dL_law_672 rfl (lv_at hl 6 rfl) ?_
    refine lv_iconst (v := 0) hx hb dL_law_673 (by decide) ?_
    refine va_lald hx hb hK (cx_one ((BW_O (G := G) (cA := cA) (H0 := H0) (sv := (svOf ix bs)) D (β.1, μ1, oUp β.2.2.1 (Int32.toInt64 r), β.2.2.2)).1 _ H hP 0 (by decide))) 0 2 rfl rfl (nI_in (c := 0) (N := 1) (by decide) (by decide)) dL_law_674 ?_
    rw [oUp_0]
    refine lv_iload hx hb dL_law_675 (lv_at hl 0 rfl) ?_
    refine lv_i2l hx hb dL_law_677 rfl ?_
    refine cx_lceq (tgt := 684) hx hb dL_law_678 dL_law_679 (by decide) (fun _ => ?_) (fun c8 => absurd rfl c8)
    refine lv_goto (tgt := 2386) hx hb dL_law_684 (by decide) ?_
    exact next (β.1, μ1, oUp β.2.2.1 (Int32.toInt64 r), β.2.2.2) ix bs _ _ _ _ _ ⟨D, hI, hP, h7, hL⟩ (by omega) (by omega) (lv_sub hl [2, 3, 4, 5, 6, 7] rfl)
def Sim_client (N : Nat) (Top Toq : TopT) : Prop := ∀ (γ : GLS) (μ : MdlS) (κ : Nat → CacS) (ix : Nat → Option Nat) (nb : Nat) (p0 : Int32) (p1 : Int32), Top γ μ κ ix nb → ∃ (res : Nat ⊕ (Int32)) (b : Int32) (μ1 : MdlS), f_X8_client N γ p0 p1 = some res ∧ (∀ k, res = .inl k → k = 0 ∨ k = 1) ∧ f_X9_client N μ p0 p1 = some (b, μ1) ∧ f_X9_thrown μ1 = some (wCode 0 res) ∧ (∀ k, res = .inl k → Toq γ μ1 κ ix nb) ∧ ∀ r, res = .inr r → b = r ∧ Toq γ μ1 κ ix nb
set_option maxHeartbeats 2000000 in
set_option maxRecDepth 100000 in
theorem w_law_client {p : Program} {l : Launch} {e : Env} {s : State} {m : MethodId} {args : Array Value} {below : List Frame} {meth : Method} {c : Code} {G : va_G} {cA : Nat → ClassId} {H0 : Heap} {lo aG aM aO : Nat} {z : ZS} {Top Toq : TopT} {b L j N cells slots : Nat} {xs : Nat → Int32} {Q : State → Prop} (F : LwF l p s m args c G cA lo z b L xs) (hj : 6 * j + 5 < L) (hS : Sim_client N Top Toq) {β : BigS} {ix : Nat → Option Nat} {bs : List Nat} {H : Heap} {locs : List Loc} {ls : Array Slot} (St : LwS G cA H0 lo aG aM aO Top β ix bs H locs) (hcs : cells ≤ 500000) (hss : slots ≤ 7000000) (hl : lv_has ls 10 [(5, .int (nI (6 * j))), (0, .ref b), (1, .ref aG), (2, .ref aM), (3, .ref aO), (4, .ref (aO + 1))]) (next : LwN p l e s m args below meth c G cA H0 lo aG aM aO Toq b j cells slots Q) : W p l e room_1 s m args below meth c H locs cells slots Q (F0 m 687 ls []) := by
  obtain ⟨⟨hl0, hx, hb, hml, hown, hts⟩, hN, hZ, hX3, hX, hbl, hbo, hL3⟩ := id F
  have hK := hN.1
  obtain ⟨D, hI, hP, hT, hL⟩ := St
  obtain ⟨res, bb, μ1, h1, h2, h3, h4, h5, h6⟩ := hS β.1 β.2.1 β.2.2.2.2 ix bs.length (xs (6 * j + 1)) (xs (6 * j + 2)) hT
  cases res with
  | inl k =>
    refine lv_aload_n hx hb dL_law_687 rfl (lv_at hl 2 rfl) ?_
    refine lv_aload_n hx hb dL_law_688 rfl (lv_at hl 1 rfl) ?_
    refine lv_iload hx hb dL_law_689 (lv_at hl 0 rfl) ?_
    refine lv_iconst (v := 1) hx hb dL_law_691 (by decide) ?_
    refine lv_iadd hx hb dL_law_692 ?_
    rw [show nI (6 * j) + 1 = nI (6 * j + 1) from nI_add (6 * j) 1]
    refine lw_scr hx hb hX hbl hbo hL3 hL (by omega) dL_law_693 ?_
    refine lv_aload_n hx hb dL_law_694 rfl (lv_at hl 1 rfl) ?_
    refine lv_iload hx hb dL_law_695 (lv_at hl 0 rfl) ?_
    refine lv_iconst (v := 2) hx hb dL_law_697 (by decide) ?_
    refine lv_iadd hx hb dL_law_698 ?_
    rw [show nI (6 * j) + 2 = nI (6 * j + 2) from nI_add (6 * j) 2]
    refine lw_scr hx hb hX hbl hbo hL3 hL (by omega) dL_law_699 ?_
    refine lv_aload_n hx hb dL_law_700 rfl (lv_at hl 4 rfl) ?_
    refine wx_call (As := [.ref aG, .int (xs (6 * j + 1)), .int (xs (6 * j + 2)), .ref aO]) (rest := []) ⟨hx, hb, hml, hown, hts⟩ (c_L_client (G := G) (cA := cA) (H0 := H0) (sv := svOf ix bs) hl0 D h1 h2) (vx_cwSW 4 hts (gSWx mw_856 mw_857 mw_130 mw_858) rfl rfl rfl hd_L_client ⟨Nat.le_of_ble_eq_true rfl, Nat.le_of_ble_eq_true rfl⟩) hN hZ hX3 hP rfl hl.1 rfl (Nat.le_of_ble_eq_true rfl) dL_law_701 ⟨by show cells + 2 ≤ 601024; omega, by show slots + 12 ≤ 7293034; omega⟩ hL (fun H locs hP hL => ?_)
    have hP : BW G cA H0 lo aG aM aO bs (svOf ix bs) β H := hP
    refine lv_istore (lv' := [(6, .int (wCode 0 (.inl k : Nat ⊕ (Int32)))), (5, .int (nI (6 * j))), (0, .ref b), (1, .ref aG), (2, .ref aM), (3, .ref aO), (4, .ref (aO + 1))]) hx hb dL_law_704 hl (by decide) rfl (fun ls hl => ?_)
    refine lv_aload_n hx hb dL_law_706 rfl (lv_at hl 4 rfl) ?_
    refine lv_aload_n hx hb dL_law_707 rfl (lv_at hl 2 rfl) ?_
    refine lv_iload hx hb dL_law_708 (lv_at hl 1 rfl) ?_
    refine lv_iconst (v := 1) hx hb dL_law_710 (by decide) ?_
    refine lv_iadd hx hb dL_law_711 ?_
    rw [show nI (6 * j) + 1 = nI (6 * j + 1) from nI_add (6 * j) 1]
    refine lw_scr hx hb hX hbl hbo hL3 hL (by omega) dL_law_712 ?_
    refine lv_aload_n hx hb dL_law_713 rfl (lv_at hl 2 rfl) ?_
    refine lv_iload hx hb dL_law_714 (lv_at hl 1 rfl) ?_
    refine lv_iconst (v := 2) hx hb dL_law_716 (by decide) ?_
    refine lv_iadd hx hb dL_law_717 ?_
    rw [show nI (6 * j) + 2 = nI (6 * j + 2) from nI_add (6 * j) 2]
    refine lw_scr hx hb hX hbl hbo hL3 hL (by omega) dL_law_718 ?_
    refine cx_callV (As := [.int (xs (6 * j + 1)), .int (xs (6 * j + 2))]) (rest := []) ⟨hx, hb, hml, hown, hts⟩ (c_X9_client (BW_M (G := G) (cA := cA) (H0 := H0) (sv := (svOf ix bs)) D β) h3) (cwV 2 hts (gV mw_879 mw_880 mw_881 mw_5 mw_882) rfl rfl rfl hd_X9_client ⟨Nat.le_of_ble_eq_true rfl, Nat.le_of_ble_eq_true rfl⟩) hK hP rfl (at_Model (BW_M (G := G) (cA := cA) (H0 := H0) (sv := (svOf ix bs)) D β) hP) rfl hl.1 rfl (Nat.le_of_ble_eq_true rfl) dL_law_719 ⟨by show cells + 2 + 0 ≤ 601024; omega, by show slots + 12 + 0 ≤ 7293034; omega⟩ hL (fun H locs hP hL => ?_)
    have hP : BW G cA H0 lo aG aM aO bs (svOf ix bs) (β.1, μ1, β.2.2) H := hP
    refine lv_istore (lv' := [(7, .int bb), (6, .int (wCode 0 (.inl k : Nat ⊕ (Int32)))), (5, .int (nI (6 * j))), (0, .ref b), (1, .ref aG), (2, .ref aM), (3, .ref aO), (4, .ref (aO + 1))]) hx hb dL_law_722 hl (by decide) rfl (fun ls hl => ?_)
    refine lv_aload_n hx hb dL_law_724 rfl (lv_at hl 5 rfl) ?_
    refine cx_callV (As := []) (rest := []) ⟨hx, hb, hml, hown, hts⟩ (c_X9_thrown (BW_M (G := G) (cA := cA) (H0 := H0) (sv := (svOf ix bs)) D (β.1, μ1, β.2.2)) h4) (cwV 0 hts (gV mw_155 mw_156 mw_157 mw_5 mw_158) rfl rfl rfl hd_X9_thrown ⟨Nat.le_of_ble_eq_true rfl, Nat.le_of_ble_eq_true rfl⟩) hK hP rfl (at_Model (BW_M (G := G) (cA := cA) (H0 := H0) (sv := (svOf ix bs)) D (β.1, μ1, β.2.2)) hP) rfl hl.1 rfl (Nat.le_of_ble_eq_true rfl) dL_law_725 ⟨by show cells + 2 + 0 + 0 ≤ 601024; omega, by show slots + 12 + 0 + 0 ≤ 7293034; omega⟩ hL (fun H locs hP hL => ?_)
    refine lv_iload hx hb dL_law_728 (lv_at hl 1 rfl) ?_
    refine lv_icmp_eq (tgt := 735) hx hb dL_law_730 (by decide) (fun _ => ?_) (fun c8 => absurd rfl c8)
    refine lv_iload hx hb dL_law_735 (lv_at hl 1 rfl) ?_
    refine lv_if_ne (tgt := 752) hx hb dL_law_737 (by decide) (fun _ => ?_) (fun c8 => absurd c8 wCode_ne)
    refine lv_goto (tgt := 2386) hx hb dL_law_752 (by decide) ?_
    exact next (β.1, μ1, β.2.2) ix bs _ _ _ _ _ ⟨D, hI, hP, (h5 k rfl), hL⟩ (by omega) (by omega) (lv_sub hl [2, 3, 4, 5, 6, 7] rfl)
  | inr r =>
    obtain ⟨hbb, h7⟩ := h6 r rfl
    replace hbb := hbb.symm
    subst hbb
    refine lv_aload_n hx hb dL_law_687 rfl (lv_at hl 2 rfl) ?_
    refine lv_aload_n hx hb dL_law_688 rfl (lv_at hl 1 rfl) ?_
    refine lv_iload hx hb dL_law_689 (lv_at hl 0 rfl) ?_
    refine lv_iconst (v := 1) hx hb dL_law_691 (by decide) ?_
    refine lv_iadd hx hb dL_law_692 ?_
    rw [show nI (6 * j) + 1 = nI (6 * j + 1) from nI_add (6 * j) 1]
    refine lw_scr hx hb hX hbl hbo hL3 hL (by omega) dL_law_693 ?_
    refine lv_aload_n hx hb dL_law_694 rfl (lv_at hl 1 rfl) ?_
    refine lv_iload hx hb dL_law_695 (lv_at hl 0 rfl) ?_
    refine lv_iconst (v := 2) hx hb dL_law_697 (by decide) ?_
    refine lv_iadd hx hb dL_law_698 ?_
    rw [show nI (6 * j) + 2 = nI (6 * j + 2) from nI_add (6 * j) 2]
    refine lw_scr hx hb hX hbl hbo hL3 hL (by omega) dL_law_699 ?_
    refine lv_aload_n hx hb dL_law_700 rfl (lv_at hl 4 rfl) ?_
    refine wx_call (As := [.ref aG, .int (xs (6 * j + 1)), .int (xs (6 * j + 2)), .ref aO]) (rest := []) ⟨hx, hb, hml, hown, hts⟩ (c_L_client (G := G) (cA := cA) (H0 := H0) (sv := svOf ix bs) hl0 D h1 h2) (vx_cwSW 4 hts (gSWx mw_856 mw_857 mw_130 mw_858) rfl rfl rfl hd_L_client ⟨Nat.le_of_ble_eq_true rfl, Nat.le_of_ble_eq_true rfl⟩) hN hZ hX3 hP rfl hl.1 rfl (Nat.le_of_ble_eq_true rfl) dL_law_701 ⟨by show cells + 2 ≤ 601024; omega, by show slots + 12 ≤ 7293034; omega⟩ hL (fun H locs hP hL => ?_)
    have hP : BW G cA H0 lo aG aM aO bs (svOf ix bs) (β.1, β.2.1, oUp β.2.2.1 (Int32.toInt64 r), β.2.2.2) H := hP
    refine lv_istore (lv' := [(6, .int 0), (5, .int (nI (6 * j))), (0, .ref b), (1, .ref aG), (2, .ref aM), (3, .ref aO), (4, .ref (aO + 1))]) hx hb dL_law_704 hl (by decide) rfl (fun ls hl => ?_)
    refine lv_aload_n hx hb dL_law_706 rfl (lv_at hl 4 rfl) ?_
    refine lv_aload_n hx hb dL_law_707 rfl (lv_at hl 2 rfl) ?_
    refine lv_iload hx hb dL_law_708 (lv_at hl 1 rfl) ?_
    refine lv_iconst (v := 1) hx hb dL_law_710 (by decide) ?_
    refine lv_iadd hx hb dL_law_711 ?_
    rw [show nI (6 * j) + 1 = nI (6 * j + 1) from nI_add (6 * j) 1]
    refine lw_scr hx hb hX hbl hbo hL3 hL (by omega) dL_law_712 ?_
    refine lv_aload_n hx hb dL_law_713 rfl (lv_at hl 2 rfl) ?_
    refine lv_iload hx hb dL_law_714 (lv_at hl 1 rfl) ?_
    refine lv_iconst (v := 2) hx hb dL_law_716 (by decide) ?_
    refine lv_iadd hx hb dL_law_717 ?_
    rw [show nI (6 * j) + 2 = nI (6 * j + 2) from nI_add (6 * j) 2]
    refine lw_scr hx hb hX hbl hbo hL3 hL (by omega) dL_law_718 ?_
    refine cx_callV (As := [.int (xs (6 * j + 1)), .int (xs (6 * j + 2))]) (rest := []) ⟨hx, hb, hml, hown, hts⟩ (c_X9_client (BW_M (G := G) (cA := cA) (H0 := H0) (sv := (svOf ix bs)) D (β.1, β.2.1, oUp β.2.2.1 (Int32.toInt64 r), β.2.2.2)) h3) (cwV 2 hts (gV mw_879 mw_880 mw_881 mw_5 mw_882) rfl rfl rfl hd_X9_client ⟨Nat.le_of_ble_eq_true rfl, Nat.le_of_ble_eq_true rfl⟩) hK hP rfl (at_Model (BW_M (G := G) (cA := cA) (H0 := H0) (sv := (svOf ix bs)) D (β.1, β.2.1, oUp β.2.2.1 (Int32.toInt64 r), β.2.2.2)) hP) rfl hl.1 rfl (Nat.le_of_ble_eq_true rfl) dL_law_719 ⟨by show cells + 2 + 0 ≤ 601024; omega, by show slots + 12 + 0 ≤ 7293034; omega⟩ hL (fun H locs hP hL => ?_)
    have hP : BW G cA H0 lo aG aM aO bs (svOf ix bs) (β.1, μ1, oUp β.2.2.1 (Int32.toInt64 r), β.2.2.2) H := hP
    refine lv_istore (lv' := [(7, .int r), (6, .int 0), (5, .int (nI (6 * j))), (0, .ref b), (1, .ref aG), (2, .ref aM), (3, .ref aO), (4, .ref (aO + 1))]) hx hb dL_law_722 hl (by decide) rfl (fun ls hl => ?_)
    refine lv_aload_n hx hb dL_law_724 rfl (lv_at hl 5 rfl) ?_
    refine cx_callV (As := []) (rest := []) ⟨hx, hb, hml, hown, hts⟩ (c_X9_thrown (BW_M (G := G) (cA := cA) (H0 := H0) (sv := (svOf ix bs)) D (β.1, μ1, oUp β.2.2.1 (Int32.toInt64 r), β.2.2.2)) h4) (cwV 0 hts (gV mw_155 mw_156 mw_157 mw_5 mw_158) rfl rfl rfl hd_X9_thrown ⟨Nat.le_of_ble_eq_true rfl, Nat.le_of_ble_eq_true rfl⟩) hK hP rfl (at_Model (BW_M (G := G) (cA := cA) (H0 := H0) (sv := (svOf ix bs)) D (β.1, μ1, oUp β.2.2.1 (Int32.toInt64 r), β.2.2.2)) hP) rfl hl.1 rfl (Nat.le_of_ble_eq_true rfl) dL_law_725 ⟨by show cells + 2 + 0 + 0 ≤ 601024; omega, by show slots + 12 + 0 + 0 ≤ 7293034; omega⟩ hL (fun H locs hP hL => ?_)
    refine lv_iload hx hb dL_law_728 (lv_at hl 1 rfl) ?_
    refine lv_icmp_eq (tgt := 735) hx hb dL_law_730 (by decide) (fun _ => ?_) (fun c8 => absurd rfl c8)
    refine lv_iload hx hb dL_law_735 (lv_at hl 1 rfl) ?_
    refine lv_if_ne (tgt := 752) hx hb dL_law_737 (by decide) (fun c8 => absurd rfl c8) (fun _ => ?_)
    refine lv_aload_n hx hb dL_law_740 rfl (lv_at hl 6 rfl) ?_
    refine lv_iconst (v := 0) hx hb dL_law_741 (by decide) ?_
    refine va_lald hx hb hK (cx_one ((BW_O (G := G) (cA := cA) (H0 := H0) (sv := (svOf ix bs)) D (β.1, μ1, oUp β.2.2.1 (Int32.toInt64 r), β.2.2.2)).1 _ H hP 0 (by decide))) 0 2 rfl rfl (nI_in (c := 0) (N := 1) (by decide) (by decide)) dL_law_742 ?_
    rw [oUp_0]
    refine lv_iload hx hb dL_law_743 (lv_at hl 0 rfl) ?_
    refine lv_i2l hx hb dL_law_745 rfl ?_
    refine cx_lceq (tgt := 752) hx hb dL_law_746 dL_law_747 (by decide) (fun _ => ?_) (fun c8 => absurd rfl c8)
    refine lv_goto (tgt := 2386) hx hb dL_law_752 (by decide) ?_
    exact next (β.1, μ1, oUp β.2.2.1 (Int32.toInt64 r), β.2.2.2) ix bs _ _ _ _ _ ⟨D, hI, hP, h7, hL⟩ (by omega) (by omega) (lv_sub hl [2, 3, 4, 5, 6, 7] rfl)
def Sim_block (N : Nat) (Top Toq : TopT) : Prop := ∀ (γ : GLS) (μ : MdlS) (κ : Nat → CacS) (ix : Nat → Option Nat) (nb : Nat) (p0 : Int32) (p1 : Int32), Top γ μ κ ix nb → ∃ (res : Nat ⊕ (Int32)) (b : Int32) (μ1 : MdlS), f_X8_block N γ p0 p1 = some res ∧ (∀ k, res = .inl k → k = 1) ∧ f_X9_block N μ p0 p1 = some (b, μ1) ∧ f_X9_thrown μ1 = some (wCode 1 res) ∧ (∀ k, res = .inl k → Toq γ μ1 κ ix nb) ∧ ∀ r, res = .inr r → b = r ∧ Toq γ μ1 κ ix nb
set_option maxHeartbeats 2000000 in
set_option maxRecDepth 100000 in
theorem w_law_block {p : Program} {l : Launch} {e : Env} {s : State} {m : MethodId} {args : Array Value} {below : List Frame} {meth : Method} {c : Code} {G : va_G} {cA : Nat → ClassId} {H0 : Heap} {lo aG aM aO : Nat} {z : ZS} {Top Toq : TopT} {b L j N cells slots : Nat} {xs : Nat → Int32} {Q : State → Prop} (F : LwF l p s m args c G cA lo z b L xs) (hj : 6 * j + 5 < L) (hS : Sim_block N Top Toq) {β : BigS} {ix : Nat → Option Nat} {bs : List Nat} {H : Heap} {locs : List Loc} {ls : Array Slot} (St : LwS G cA H0 lo aG aM aO Top β ix bs H locs) (hcs : cells ≤ 500000) (hss : slots ≤ 7000000) (hl : lv_has ls 10 [(5, .int (nI (6 * j))), (0, .ref b), (1, .ref aG), (2, .ref aM), (3, .ref aO), (4, .ref (aO + 1))]) (next : LwN p l e s m args below meth c G cA H0 lo aG aM aO Toq b j cells slots Q) : W p l e room_1 s m args below meth c H locs cells slots Q (F0 m 755 ls []) := by
  obtain ⟨⟨hl0, hx, hb, hml, hown, hts⟩, hN, hZ, hX3, hX, hbl, hbo, hL3⟩ := id F
  have hK := hN.1
  obtain ⟨D, hI, hP, hT, hL⟩ := St
  obtain ⟨res, bb, μ1, h1, h2, h3, h4, h5, h6⟩ := hS β.1 β.2.1 β.2.2.2.2 ix bs.length (xs (6 * j + 1)) (xs (6 * j + 2)) hT
  cases res with
  | inl k =>
    refine lv_aload_n hx hb dL_law_755 rfl (lv_at hl 2 rfl) ?_
    refine lv_aload_n hx hb dL_law_756 rfl (lv_at hl 1 rfl) ?_
    refine lv_iload hx hb dL_law_757 (lv_at hl 0 rfl) ?_
    refine lv_iconst (v := 1) hx hb dL_law_759 (by decide) ?_
    refine lv_iadd hx hb dL_law_760 ?_
    rw [show nI (6 * j) + 1 = nI (6 * j + 1) from nI_add (6 * j) 1]
    refine lw_scr hx hb hX hbl hbo hL3 hL (by omega) dL_law_761 ?_
    refine lv_aload_n hx hb dL_law_762 rfl (lv_at hl 1 rfl) ?_
    refine lv_iload hx hb dL_law_763 (lv_at hl 0 rfl) ?_
    refine lv_iconst (v := 2) hx hb dL_law_765 (by decide) ?_
    refine lv_iadd hx hb dL_law_766 ?_
    rw [show nI (6 * j) + 2 = nI (6 * j + 2) from nI_add (6 * j) 2]
    refine lw_scr hx hb hX hbl hbo hL3 hL (by omega) dL_law_767 ?_
    refine lv_aload_n hx hb dL_law_768 rfl (lv_at hl 4 rfl) ?_
    refine wx_call (As := [.ref aG, .int (xs (6 * j + 1)), .int (xs (6 * j + 2)), .ref aO]) (rest := []) ⟨hx, hb, hml, hown, hts⟩ (c_L_block (G := G) (cA := cA) (H0 := H0) (sv := svOf ix bs) hl0 D h1 h2) (vx_cwSW 4 hts (gSWx mw_883 mw_884 mw_130 mw_885) rfl rfl rfl hd_L_block ⟨Nat.le_of_ble_eq_true rfl, Nat.le_of_ble_eq_true rfl⟩) hN hZ hX3 hP rfl hl.1 rfl (Nat.le_of_ble_eq_true rfl) dL_law_769 ⟨by show cells + 2 ≤ 601024; omega, by show slots + 12 ≤ 7293034; omega⟩ hL (fun H locs hP hL => ?_)
    have hP : BW G cA H0 lo aG aM aO bs (svOf ix bs) β H := hP
    refine lv_istore (lv' := [(6, .int (wCode 1 (.inl k : Nat ⊕ (Int32)))), (5, .int (nI (6 * j))), (0, .ref b), (1, .ref aG), (2, .ref aM), (3, .ref aO), (4, .ref (aO + 1))]) hx hb dL_law_772 hl (by decide) rfl (fun ls hl => ?_)
    refine lv_aload_n hx hb dL_law_774 rfl (lv_at hl 4 rfl) ?_
    refine lv_aload_n hx hb dL_law_775 rfl (lv_at hl 2 rfl) ?_
    refine lv_iload hx hb dL_law_776 (lv_at hl 1 rfl) ?_
    refine lv_iconst (v := 1) hx hb dL_law_778 (by decide) ?_
    refine lv_iadd hx hb dL_law_779 ?_
    rw [show nI (6 * j) + 1 = nI (6 * j + 1) from nI_add (6 * j) 1]
    refine lw_scr hx hb hX hbl hbo hL3 hL (by omega) dL_law_780 ?_
    refine lv_aload_n hx hb dL_law_781 rfl (lv_at hl 2 rfl) ?_
    refine lv_iload hx hb dL_law_782 (lv_at hl 1 rfl) ?_
    refine lv_iconst (v := 2) hx hb dL_law_784 (by decide) ?_
    refine lv_iadd hx hb dL_law_785 ?_
    rw [show nI (6 * j) + 2 = nI (6 * j + 2) from nI_add (6 * j) 2]
    refine lw_scr hx hb hX hbl hbo hL3 hL (by omega) dL_law_786 ?_
    refine cx_callV (As := [.int (xs (6 * j + 1)), .int (xs (6 * j + 2))]) (rest := []) ⟨hx, hb, hml, hown, hts⟩ (c_X9_block (BW_M (G := G) (cA := cA) (H0 := H0) (sv := (svOf ix bs)) D β) h3) (cwV 2 hts (gV mw_914 mw_915 mw_916 mw_5 mw_917) rfl rfl rfl hd_X9_block ⟨Nat.le_of_ble_eq_true rfl, Nat.le_of_ble_eq_true rfl⟩) hK hP rfl (at_Model (BW_M (G := G) (cA := cA) (H0 := H0) (sv := (svOf ix bs)) D β) hP) rfl hl.1 rfl (Nat.le_of_ble_eq_true rfl) dL_law_787 ⟨by show cells + 2 + 0 ≤ 601024; omega, by show slots + 12 + 0 ≤ 7293034; omega⟩ hL (fun H locs hP hL => ?_)
    have hP : BW G cA H0 lo aG aM aO bs (svOf ix bs) (β.1, μ1, β.2.2) H := hP
    refine lv_istore (lv' := [(7, .int bb), (6, .int (wCode 1 (.inl k : Nat ⊕ (Int32)))), (5, .int (nI (6 * j))), (0, .ref b), (1, .ref aG), (2, .ref aM), (3, .ref aO), (4, .ref (aO + 1))]) hx hb dL_law_790 hl (by decide) rfl (fun ls hl => ?_)
    refine lv_aload_n hx hb dL_law_792 rfl (lv_at hl 5 rfl) ?_
    refine cx_callV (As := []) (rest := []) ⟨hx, hb, hml, hown, hts⟩ (c_X9_thrown (BW_M (G := G) (cA := cA) (H0 := H0) (sv := (svOf ix bs)) D (β.1, μ1, β.2.2)) h4) (cwV 0 hts (gV mw_155 mw_156 mw_157 mw_5 mw_158) rfl rfl rfl hd_X9_thrown ⟨Nat.le_of_ble_eq_true rfl, Nat.le_of_ble_eq_true rfl⟩) hK hP rfl (at_Model (BW_M (G := G) (cA := cA) (H0 := H0) (sv := (svOf ix bs)) D (β.1, μ1, β.2.2)) hP) rfl hl.1 rfl (Nat.le_of_ble_eq_true rfl) dL_law_793 ⟨by show cells + 2 + 0 + 0 ≤ 601024; omega, by show slots + 12 + 0 + 0 ≤ 7293034; omega⟩ hL (fun H locs hP hL => ?_)
    refine lv_iload hx hb dL_law_796 (lv_at hl 1 rfl) ?_
    refine lv_icmp_eq (tgt := 803) hx hb dL_law_798 (by decide) (fun _ => ?_) (fun c8 => absurd rfl c8)
    refine lv_iload hx hb dL_law_803 (lv_at hl 1 rfl) ?_
    refine lv_if_ne (tgt := 820) hx hb dL_law_805 (by decide) (fun _ => ?_) (fun c8 => absurd c8 wCode_ne)
    refine lv_goto (tgt := 2386) hx hb dL_law_820 (by decide) ?_
    exact next (β.1, μ1, β.2.2) ix bs _ _ _ _ _ ⟨D, hI, hP, (h5 k rfl), hL⟩ (by omega) (by omega) (lv_sub hl [2, 3, 4, 5, 6, 7] rfl)
  | inr r =>
    obtain ⟨hbb, h7⟩ := h6 r rfl
    replace hbb := hbb.symm
    subst hbb
    refine lv_aload_n hx hb dL_law_755 rfl (lv_at hl 2 rfl) ?_
    refine lv_aload_n hx hb dL_law_756 rfl (lv_at hl 1 rfl) ?_
    refine lv_iload hx hb dL_law_757 (lv_at hl 0 rfl) ?_
    refine lv_iconst (v := 1) hx hb dL_law_759 (by decide) ?_
    refine lv_iadd hx hb dL_law_760 ?_
    rw [show nI (6 * j) + 1 = nI (6 * j + 1) from nI_add (6 * j) 1]
    refine lw_scr hx hb hX hbl hbo hL3 hL (by omega) dL_law_761 ?_
    refine lv_aload_n hx hb dL_law_762 rfl (lv_at hl 1 rfl) ?_
    refine lv_iload hx hb dL_law_763 (lv_at hl 0 rfl) ?_
    refine lv_iconst (v := 2) hx hb dL_law_765 (by decide) ?_
    refine lv_iadd hx hb dL_law_766 ?_
    rw [show nI (6 * j) + 2 = nI (6 * j + 2) from nI_add (6 * j) 2]
    refine lw_scr hx hb hX hbl hbo hL3 hL (by omega) dL_law_767 ?_
    refine lv_aload_n hx hb dL_law_768 rfl (lv_at hl 4 rfl) ?_
    refine wx_call (As := [.ref aG, .int (xs (6 * j + 1)), .int (xs (6 * j + 2)), .ref aO]) (rest := []) ⟨hx, hb, hml, hown, hts⟩ (c_L_block (G := G) (cA := cA) (H0 := H0) (sv := svOf ix bs) hl0 D h1 h2) (vx_cwSW 4 hts (gSWx mw_883 mw_884 mw_130 mw_885) rfl rfl rfl hd_L_block ⟨Nat.le_of_ble_eq_true rfl, Nat.le_of_ble_eq_true rfl⟩) hN hZ hX3 hP rfl hl.1 rfl (Nat.le_of_ble_eq_true rfl) dL_law_769 ⟨by show cells + 2 ≤ 601024; omega, by show slots + 12 ≤ 7293034; omega⟩ hL (fun H locs hP hL => ?_)
    have hP : BW G cA H0 lo aG aM aO bs (svOf ix bs) (β.1, β.2.1, oUp β.2.2.1 (Int32.toInt64 r), β.2.2.2) H := hP
    refine lv_istore (lv' := [(6, .int 0), (5, .int (nI (6 * j))), (0, .ref b), (1, .ref aG), (2, .ref aM), (3, .ref aO), (4, .ref (aO + 1))]) hx hb dL_law_772 hl (by decide) rfl (fun ls hl => ?_)
    refine lv_aload_n hx hb dL_law_774 rfl (lv_at hl 4 rfl) ?_
    refine lv_aload_n hx hb dL_law_775 rfl (lv_at hl 2 rfl) ?_
    refine lv_iload hx hb dL_law_776 (lv_at hl 1 rfl) ?_
    refine lv_iconst (v := 1) hx hb dL_law_778 (by decide) ?_
    refine lv_iadd hx hb dL_law_779 ?_
    rw [show nI (6 * j) + 1 = nI (6 * j + 1) from nI_add (6 * j) 1]
    refine lw_scr hx hb hX hbl hbo hL3 hL (by omega) dL_law_780 ?_
    refine lv_aload_n hx hb dL_law_781 rfl (lv_at hl 2 rfl) ?_
    refine lv_iload hx hb dL_law_782 (lv_at hl 1 rfl) ?_
    refine lv_iconst (v := 2) hx hb dL_law_784 (by decide) ?_
    refine lv_iadd hx hb dL_law_785 ?_
    rw [show nI (6 * j) + 2 = nI (6 * j + 2) from nI_add (6 * j) 2]
    refine lw_scr hx hb hX hbl hbo hL3 hL (by omega) dL_law_786 ?_
    refine cx_callV (As := [.int (xs (6 * j + 1)), .int (xs (6 * j + 2))]) (rest := []) ⟨hx, hb, hml, hown, hts⟩ (c_X9_block (BW_M (G := G) (cA := cA) (H0 := H0) (sv := (svOf ix bs)) D (β.1, β.2.1, oUp β.2.2.1 (Int32.toInt64 r), β.2.2.2)) h3) (cwV 2 hts (gV mw_914 mw_915 mw_916 mw_5 mw_917) rfl rfl rfl hd_X9_block ⟨Nat.le_of_ble_eq_true rfl, Nat.le_of_ble_eq_true rfl⟩) hK hP rfl (at_Model (BW_M (G := G) (cA := cA) (H0 := H0) (sv := (svOf ix bs)) D (β.1, β.2.1, oUp β.2.2.1 (Int32.toInt64 r), β.2.2.2)) hP) rfl hl.1 rfl (Nat.le_of_ble_eq_true rfl) dL_law_787 ⟨by show cells + 2 + 0 ≤ 601024; omega, by show slots + 12 + 0 ≤ 7293034; omega⟩ hL (fun H locs hP hL => ?_)
    have hP : BW G cA H0 lo aG aM aO bs (svOf ix bs) (β.1, μ1, oUp β.2.2.1 (Int32.toInt64 r), β.2.2.2) H := hP
    refine lv_istore (lv' := [(7, .int r), (6, .int 0), (5, .int (nI (6 * j))), (0, .ref b), (1, .ref aG), (2, .ref aM), (3, .ref aO), (4, .ref (aO + 1))]) hx hb dL_law_790 hl (by decide) rfl (fun ls hl => ?_)
    refine lv_aload_n hx hb dL_law_792 rfl (lv_at hl 5 rfl) ?_
    refine cx_callV (As := []) (rest := []) ⟨hx, hb, hml, hown, hts⟩ (c_X9_thrown (BW_M (G := G) (cA := cA) (H0 := H0) (sv := (svOf ix bs)) D (β.1, μ1, oUp β.2.2.1 (Int32.toInt64 r), β.2.2.2)) h4) (cwV 0 hts (gV mw_155 mw_156 mw_157 mw_5 mw_158) rfl rfl rfl hd_X9_thrown ⟨Nat.le_of_ble_eq_true rfl, Nat.le_of_ble_eq_true rfl⟩) hK hP rfl (at_Model (BW_M (G := G) (cA := cA) (H0 := H0) (sv := (svOf ix bs)) D (β.1, μ1, oUp β.2.2.1 (Int32.toInt64 r), β.2.2.2)) hP) rfl hl.1 rfl (Nat.le_of_ble_eq_true rfl) dL_law_793 ⟨by show cells + 2 + 0 + 0 ≤ 601024; omega, by show slots + 12 + 0 + 0 ≤ 7293034; omega⟩ hL (fun H locs hP hL => ?_)
    refine lv_iload hx hb dL_law_796 (lv_at hl 1 rfl) ?_
    refine lv_icmp_eq (tgt := 803) hx hb dL_law_798 (by decide) (fun _ => ?_) (fun c8 => absurd rfl c8)
    refine lv_iload hx hb dL_law_803 (lv_at hl 1 rfl) ?_
    refine lv_if_ne (tgt := 820) hx hb dL_law_805 (by decide) (fun c8 => absurd rfl c8) (fun _ => ?_)
    refine lv_aload_n hx hb dL_law_808 rfl (lv_at hl 6 rfl) ?_
    refine lv_iconst (v := 0) hx hb dL_law_809 (by decide) ?_
    refine va_lald hx hb hK (cx_one ((BW_O (G := G) (cA := cA) (H0 := H0) (sv := (svOf ix bs)) D (β.1, μ1, oUp β.2.2.1 (Int32.toInt64 r), β.2.2.2)).1 _ H hP 0 (by decide))) 0 2 rfl rfl (nI_in (c := 0) (N := 1) (by decide) (by decide)) dL_law_810 ?_
    rw [oUp_0]
    refine lv_iload hx hb dL_law_811 (lv_at hl 0 rfl) ?_
    refine lv_i2l hx hb dL_law_813 rfl ?_
    refine cx_lceq (tgt := 820) hx hb dL_law_814 dL_law_815 (by decide) (fun _ => ?_) (fun c8 => absurd rfl c8)
    refine lv_goto (tgt := 2386) hx hb dL_law_820 (by decide) ?_
    exact next (β.1, μ1, oUp β.2.2.1 (Int32.toInt64 r), β.2.2.2) ix bs _ _ _ _ _ ⟨D, hI, hP, h7, hL⟩ (by omega) (by omega) (lv_sub hl [2, 3, 4, 5, 6, 7] rfl)
def Sim_at (N : Nat) (Top Toq : TopT) : Prop := ∀ (γ : GLS) (μ : MdlS) (κ : Nat → CacS) (ix : Nat → Option Nat) (nb : Nat) (p0 : Int32) (p1 : Int32), Top γ μ κ ix nb → ∃ (res : Nat ⊕ (Int32)) (b : Int32) (μ1 : MdlS), f_X8_at γ p0 p1 = some res ∧ (∀ k, res = .inl k → k = 0) ∧ f_X9_at μ p0 p1 = some (b, μ1) ∧ f_X9_thrown μ1 = some (wCode 0 res) ∧ (∀ k, res = .inl k → Toq γ μ1 κ ix nb) ∧ ∀ r, res = .inr r → b = r ∧ Toq γ μ1 κ ix nb
set_option maxHeartbeats 2000000 in
set_option maxRecDepth 100000 in
theorem w_law_at {p : Program} {l : Launch} {e : Env} {s : State} {m : MethodId} {args : Array Value} {below : List Frame} {meth : Method} {c : Code} {G : va_G} {cA : Nat → ClassId} {H0 : Heap} {lo aG aM aO : Nat} {z : ZS} {Top Toq : TopT} {b L j N cells slots : Nat} {xs : Nat → Int32} {Q : State → Prop} (F : LwF l p s m args c G cA lo z b L xs) (hj : 6 * j + 5 < L) (hS : Sim_at N Top Toq) {β : BigS} {ix : Nat → Option Nat} {bs : List Nat} {H : Heap} {locs : List Loc} {ls : Array Slot} (St : LwS G cA H0 lo aG aM aO Top β ix bs H locs) (hcs : cells ≤ 500000) (hss : slots ≤ 7000000) (hl : lv_has ls 10 [(5, .int (nI (6 * j))), (0, .ref b), (1, .ref aG), (2, .ref aM), (3, .ref aO), (4, .ref (aO + 1))]) (next : LwN p l e s m args below meth c G cA H0 lo aG aM aO Toq b j cells slots Q) : W p l e room_1 s m args below meth c H locs cells slots Q (F0 m 823 ls []) := by
  obtain ⟨⟨hl0, hx, hb, hml, hown, hts⟩, hN, hZ, hX3, hX, hbl, hbo, hL3⟩ := id F
  have hK := hN.1
  obtain ⟨D, hI, hP, hT, hL⟩ := St
  obtain ⟨res, bb, μ1, h1, h2, h3, h4, h5, h6⟩ := hS β.1 β.2.1 β.2.2.2.2 ix bs.length (xs (6 * j + 1)) (xs (6 * j + 2)) hT
  cases res with
  | inl k =>
    refine lv_aload_n hx hb dL_law_823 rfl (lv_at hl 2 rfl) ?_
    refine lv_aload_n hx hb dL_law_824 rfl (lv_at hl 1 rfl) ?_
    refine lv_iload hx hb dL_law_825 (lv_at hl 0 rfl) ?_
    refine lv_iconst (v := 1) hx hb dL_law_827 (by decide) ?_
    refine lv_iadd hx hb dL_law_828 ?_
    rw [show nI (6 * j) + 1 = nI (6 * j + 1) from nI_add (6 * j) 1]
    refine lw_scr hx hb hX hbl hbo hL3 hL (by omega) dL_law_829 ?_
    refine lv_aload_n hx hb dL_law_830 rfl (lv_at hl 1 rfl) ?_
    refine lv_iload hx hb dL_law_831 (lv_at hl 0 rfl) ?_
    refine lv_iconst (v := 2) hx hb dL_law_833 (by decide) ?_
    refine lv_iadd hx hb dL_law_834 ?_
    rw [show nI (6 * j) + 2 = nI (6 * j + 2) from nI_add (6 * j) 2]
    refine lw_scr hx hb hX hbl hbo hL3 hL (by omega) dL_law_835 ?_
    refine lv_aload_n hx hb dL_law_836 rfl (lv_at hl 4 rfl) ?_
    refine wx_call (As := [.ref aG, .int (xs (6 * j + 1)), .int (xs (6 * j + 2)), .ref aO]) (rest := []) ⟨hx, hb, hml, hown, hts⟩ (c_L_at (G := G) (cA := cA) (H0 := H0) (sv := svOf ix bs) hl0 D h1 h2) (vx_cwSW 4 hts (gSWx mw_921 mw_922 mw_130 mw_923) rfl rfl rfl hd_L_at ⟨Nat.le_of_ble_eq_true rfl, Nat.le_of_ble_eq_true rfl⟩) hN hZ hX3 hP rfl hl.1 rfl (Nat.le_of_ble_eq_true rfl) dL_law_837 ⟨by show cells + 2 ≤ 601024; omega, by show slots + 12 ≤ 7293034; omega⟩ hL (fun H locs hP hL => ?_)
    have hP : BW G cA H0 lo aG aM aO bs (svOf ix bs) β H := hP
    refine lv_istore (lv' := [(6, .int (wCode 0 (.inl k : Nat ⊕ (Int32)))), (5, .int (nI (6 * j))), (0, .ref b), (1, .ref aG), (2, .ref aM), (3, .ref aO), (4, .ref (aO + 1))]) hx hb dL_law_840 hl (by decide) rfl (fun ls hl => ?_)
    refine lv_aload_n hx hb dL_law_842 rfl (lv_at hl 4 rfl) ?_
    refine lv_aload_n hx hb dL_law_843 rfl (lv_at hl 2 rfl) ?_
    refine lv_iload hx hb dL_law_844 (lv_at hl 1 rfl) ?_
    refine lv_iconst (v := 1) hx hb dL_law_846 (by decide) ?_
    refine lv_iadd hx hb dL_law_847 ?_
    rw [show nI (6 * j) + 1 = nI (6 * j + 1) from nI_add (6 * j) 1]
    refine lw_scr hx hb hX hbl hbo hL3 hL (by omega) dL_law_848 ?_
    refine lv_aload_n hx hb dL_law_849 rfl (lv_at hl 2 rfl) ?_
    refine lv_iload hx hb dL_law_850 (lv_at hl 1 rfl) ?_
    refine lv_iconst (v := 2) hx hb dL_law_852 (by decide) ?_
    refine lv_iadd hx hb dL_law_853 ?_
    rw [show nI (6 * j) + 2 = nI (6 * j + 2) from nI_add (6 * j) 2]
    refine lw_scr hx hb hX hbl hbo hL3 hL (by omega) dL_law_854 ?_
    refine cx_callV (As := [.int (xs (6 * j + 1)), .int (xs (6 * j + 2))]) (rest := []) ⟨hx, hb, hml, hown, hts⟩ (c_X9_at (BW_M (G := G) (cA := cA) (H0 := H0) (sv := (svOf ix bs)) D β) h3) (cwV 2 hts (gV mw_933 mw_934 mw_935 mw_5 mw_936) rfl rfl rfl hd_X9_at ⟨Nat.le_of_ble_eq_true rfl, Nat.le_of_ble_eq_true rfl⟩) hK hP rfl (at_Model (BW_M (G := G) (cA := cA) (H0 := H0) (sv := (svOf ix bs)) D β) hP) rfl hl.1 rfl (Nat.le_of_ble_eq_true rfl) dL_law_855 ⟨by show cells + 2 + 0 ≤ 601024; omega, by show slots + 12 + 0 ≤ 7293034; omega⟩ hL (fun H locs hP hL => ?_)
    have hP : BW G cA H0 lo aG aM aO bs (svOf ix bs) (β.1, μ1, β.2.2) H := hP
    refine lv_istore (lv' := [(7, .int bb), (6, .int (wCode 0 (.inl k : Nat ⊕ (Int32)))), (5, .int (nI (6 * j))), (0, .ref b), (1, .ref aG), (2, .ref aM), (3, .ref aO), (4, .ref (aO + 1))]) hx hb dL_law_858 hl (by decide) rfl (fun ls hl => ?_)
    refine lv_aload_n hx hb dL_law_860 rfl (lv_at hl 5 rfl) ?_
    refine cx_callV (As := []) (rest := []) ⟨hx, hb, hml, hown, hts⟩ (c_X9_thrown (BW_M (G := G) (cA := cA) (H0 := H0) (sv := (svOf ix bs)) D (β.1, μ1, β.2.2)) h4) (cwV 0 hts (gV mw_155 mw_156 mw_157 mw_5 mw_158) rfl rfl rfl hd_X9_thrown ⟨Nat.le_of_ble_eq_true rfl, Nat.le_of_ble_eq_true rfl⟩) hK hP rfl (at_Model (BW_M (G := G) (cA := cA) (H0 := H0) (sv := (svOf ix bs)) D (β.1, μ1, β.2.2)) hP) rfl hl.1 rfl (Nat.le_of_ble_eq_true rfl) dL_law_861 ⟨by show cells + 2 + 0 + 0 ≤ 601024; omega, by show slots + 12 + 0 + 0 ≤ 7293034; omega⟩ hL (fun H locs hP hL => ?_)
    refine lv_iload hx hb dL_law_864 (lv_at hl 1 rfl) ?_
    refine lv_icmp_eq (tgt := 871) hx hb dL_law_866 (by decide) (fun _ => ?_) (fun c8 => absurd rfl c8)
    refine lv_iload hx hb dL_law_871 (lv_at hl 1 rfl) ?_
    refine lv_if_ne (tgt := 888) hx hb dL_law_873 (by decide) (fun _ => ?_) (fun c8 => absurd c8 wCode_ne)
    refine lv_goto (tgt := 2386) hx hb dL_law_888 (by decide) ?_
    exact next (β.1, μ1, β.2.2) ix bs _ _ _ _ _ ⟨D, hI, hP, (h5 k rfl), hL⟩ (by omega) (by omega) (lv_sub hl [2, 3, 4, 5, 6, 7] rfl)
  | inr r =>
    obtain ⟨hbb, h7⟩ := h6 r rfl
    replace hbb := hbb.symm
    subst hbb
    refine lv_aload_n hx hb dL_law_823 rfl (lv_at hl 2 rfl) ?_
    refine lv_aload_n hx hb dL_law_824 rfl (lv_at hl 1 rfl) ?_
    refine lv_iload hx hb dL_law_825 (lv_at hl 0 rfl) ?_
    refine lv_iconst (v := 1) hx hb dL_law_827 (by decide) ?_
    refine lv_iadd hx hb dL_law_828 ?_
    rw [show nI (6 * j) + 1 = nI (6 * j + 1) from nI_add (6 * j) 1]
    refine lw_scr hx hb hX hbl hbo hL3 hL (by omega) dL_law_829 ?_
    refine lv_aload_n hx hb dL_law_830 rfl (lv_at hl 1 rfl) ?_
    refine lv_iload hx hb dL_law_831 (lv_at hl 0 rfl) ?_
    refine lv_iconst (v := 2) hx hb dL_law_833 (by decide) ?_
    refine lv_iadd hx hb dL_law_834 ?_
    rw [show nI (6 * j) + 2 = nI (6 * j + 2) from nI_add (6 * j) 2]
    refine lw_scr hx hb hX hbl hbo hL3 hL (by omega) dL_law_835 ?_
    refine lv_aload_n hx hb dL_law_836 rfl (lv_at hl 4 rfl) ?_
    refine wx_call (As := [.ref aG, .int (xs (6 * j + 1)), .int (xs (6 * j + 2)), .ref aO]) (rest := []) ⟨hx, hb, hml, hown, hts⟩ (c_L_at (G := G) (cA := cA) (H0 := H0) (sv := svOf ix bs) hl0 D h1 h2) (vx_cwSW 4 hts (gSWx mw_921 mw_922 mw_130 mw_923) rfl rfl rfl hd_L_at ⟨Nat.le_of_ble_eq_true rfl, Nat.le_of_ble_eq_true rfl⟩) hN hZ hX3 hP rfl hl.1 rfl (Nat.le_of_ble_eq_true rfl) dL_law_837 ⟨by show cells + 2 ≤ 601024; omega, by show slots + 12 ≤ 7293034; omega⟩ hL (fun H locs hP hL => ?_)
    have hP : BW G cA H0 lo aG aM aO bs (svOf ix bs) (β.1, β.2.1, oUp β.2.2.1 (Int32.toInt64 r), β.2.2.2) H := hP
    refine lv_istore (lv' := [(6, .int 0), (5, .int (nI (6 * j))), (0, .ref b), (1, .ref aG), (2, .ref aM), (3, .ref aO), (4, .ref (aO + 1))]) hx hb dL_law_840 hl (by decide) rfl (fun ls hl => ?_)
    refine lv_aload_n hx hb dL_law_842 rfl (lv_at hl 4 rfl) ?_
    refine lv_aload_n hx hb dL_law_843 rfl (lv_at hl 2 rfl) ?_
    refine lv_iload hx hb dL_law_844 (lv_at hl 1 rfl) ?_
    refine lv_iconst (v := 1) hx hb dL_law_846 (by decide) ?_
    refine lv_iadd hx hb dL_law_847 ?_
    rw [show nI (6 * j) + 1 = nI (6 * j + 1) from nI_add (6 * j) 1]
    refine lw_scr hx hb hX hbl hbo hL3 hL (by omega) dL_law_848 ?_
    refine lv_aload_n hx hb dL_law_849 rfl (lv_at hl 2 rfl) ?_
    refine lv_iload hx hb dL_law_850 (lv_at hl 1 rfl) ?_
    refine lv_iconst (v := 2) hx hb dL_law_852 (by decide) ?_
    refine lv_iadd hx hb dL_law_853 ?_
    rw [show nI (6 * j) + 2 = nI (6 * j + 2) from nI_add (6 * j) 2]
    refine lw_scr hx hb hX hbl hbo hL3 hL (by omega) dL_law_854 ?_
    refine cx_callV (As := [.int (xs (6 * j + 1)), .int (xs (6 * j + 2))]) (rest := []) ⟨hx, hb, hml, hown, hts⟩ (c_X9_at (BW_M (G := G) (cA := cA) (H0 := H0) (sv := (svOf ix bs)) D (β.1, β.2.1, oUp β.2.2.1 (Int32.toInt64 r), β.2.2.2)) h3) (cwV 2 hts (gV mw_933 mw_934 mw_935 mw_5 mw_936) rfl rfl rfl hd_X9_at ⟨Nat.le_of_ble_eq_true rfl, Nat.le_of_ble_eq_true rfl⟩) hK hP rfl (at_Model (BW_M (G := G) (cA := cA) (H0 := H0) (sv := (svOf ix bs)) D (β.1, β.2.1, oUp β.2.2.1 (Int32.toInt64 r), β.2.2.2)) hP) rfl hl.1 rfl (Nat.le_of_ble_eq_true rfl) dL_law_855 ⟨by show cells + 2 + 0 ≤ 601024; omega, by show slots + 12 + 0 ≤ 7293034; omega⟩ hL (fun H locs hP hL => ?_)
    have hP : BW G cA H0 lo aG aM aO bs (svOf ix bs) (β.1, μ1, oUp β.2.2.1 (Int32.toInt64 r), β.2.2.2) H := hP
    refine lv_istore (lv' := [(7, .int r), (6, .int 0), (5, .int (nI (6 * j))), (0, .ref b), (1, .ref aG), (2, .ref aM), (3, .ref aO), (4, .ref (aO + 1))]) hx hb dL_law_858 hl (by decide) rfl (fun ls hl => ?_)
    refine lv_aload_n hx hb dL_law_860 rfl (lv_at hl 5 rfl) ?_
    refine cx_callV (As := []) (rest := []) ⟨hx, hb, hml, hown, hts⟩ (c_X9_thrown (BW_M (G := G) (cA := cA) (H0 := H0) (sv := (svOf ix bs)) D (β.1, μ1, oUp β.2.2.1 (Int32.toInt64 r), β.2.2.2)) h4) (cwV 0 hts (gV mw_155 mw_156 mw_157 mw_5 mw_158) rfl rfl rfl hd_X9_thrown ⟨Nat.le_of_ble_eq_true rfl, Nat.le_of_ble_eq_true rfl⟩) hK hP rfl (at_Model (BW_M (G := G) (cA := cA) (H0 := H0) (sv := (svOf ix bs)) D (β.1, μ1, oUp β.2.2.1 (Int32.toInt64 r), β.2.2.2)) hP) rfl hl.1 rfl (Nat.le_of_ble_eq_true rfl) dL_law_861 ⟨by show cells + 2 + 0 + 0 ≤ 601024; omega, by show slots + 12 + 0 + 0 ≤ 7293034; omega⟩ hL (fun H locs hP hL => ?_)
    refine lv_iload hx hb dL_law_864 (lv_at hl 1 rfl) ?_
    refine lv_icmp_eq (tgt := 871) hx hb dL_law_866 (by decide) (fun _ => ?_) (fun c8 => absurd rfl c8)
    refine lv_iload hx hb dL_law_871 (lv_at hl 1 rfl) ?_
    refine lv_if_ne (tgt := 888) hx hb dL_law_873 (by decide) (fun c8 => absurd rfl c8) (fun _ => ?_)
    refine lv_aload_n hx hb dL_law_876 rfl (lv_at hl 6 rfl) ?_
    refine lv_iconst (v := 0) hx hb dL_law_877 (by decide) ?_
    refine va_lald hx hb hK (cx_one ((BW_O (G := G) (cA := cA) (H0 := H0) (sv := (svOf ix bs)) D (β.1, μ1, oUp β.2.2.1 (Int32.toInt64 r), β.2.2.2)).1 _ H hP 0 (by decide))) 0 2 rfl rfl (nI_in (c := 0) (N := 1) (by decide) (by decide)) dL_law_878 ?_
    rw [oUp_0]
    refine lv_iload hx hb dL_law_879 (lv_at hl 0 rfl) ?_
    refine lv_i2l hx hb dL_law_881 rfl ?_
    refine cx_lceq (tgt := 888) hx hb dL_law_882 dL_law_883 (by decide) (fun _ => ?_) (fun c8 => absurd rfl c8)
    refine lv_goto (tgt := 2386) hx hb dL_law_888 (by decide) ?_
    exact next (β.1, μ1, oUp β.2.2.1 (Int32.toInt64 r), β.2.2.2) ix bs _ _ _ _ _ ⟨D, hI, hP, h7, hL⟩ (by omega) (by omega) (lv_sub hl [2, 3, 4, 5, 6, 7] rfl)
def Sim_read (N : Nat) (Top Toq : TopT) : Prop := ∀ (γ : GLS) (μ : MdlS) (κ : Nat → CacS) (ix : Nat → Option Nat) (nb : Nat) (p0 : Int32) (p1 : Int32), Top γ μ κ ix nb → ∃ (res : Nat ⊕ (Int32 × GLS)) (b : Int32) (μ1 : MdlS), f_X8_read N γ p0 p1 = some res ∧ (∀ k, res = .inl k → k = 0 ∨ k = 1) ∧ f_X9_read N μ p0 p1 = some (b, μ1) ∧ f_X9_thrown μ1 = some (wCode 0 res) ∧ (∀ k, res = .inl k → Toq γ μ1 κ ix nb) ∧ ∀ r, res = .inr r → b = r.1 ∧ Toq r.2 μ1 κ ix nb
set_option maxHeartbeats 2000000 in
set_option maxRecDepth 100000 in
theorem w_law_read {p : Program} {l : Launch} {e : Env} {s : State} {m : MethodId} {args : Array Value} {below : List Frame} {meth : Method} {c : Code} {G : va_G} {cA : Nat → ClassId} {H0 : Heap} {lo aG aM aO : Nat} {z : ZS} {Top Toq : TopT} {b L j N cells slots : Nat} {xs : Nat → Int32} {Q : State → Prop} (F : LwF l p s m args c G cA lo z b L xs) (hj : 6 * j + 5 < L) (hS : Sim_read N Top Toq) {β : BigS} {ix : Nat → Option Nat} {bs : List Nat} {H : Heap} {locs : List Loc} {ls : Array Slot} (St : LwS G cA H0 lo aG aM aO Top β ix bs H locs) (hcs : cells ≤ 500000) (hss : slots ≤ 7000000) (hl : lv_has ls 10 [(5, .int (nI (6 * j))), (0, .ref b), (1, .ref aG), (2, .ref aM), (3, .ref aO), (4, .ref (aO + 1))]) (next : LwN p l e s m args below meth c G cA H0 lo aG aM aO Toq b j cells slots Q) : W p l e room_1 s m args below meth c H locs cells slots Q (F0 m 891 ls []) := by
  obtain ⟨⟨hl0, hx, hb, hml, hown, hts⟩, hN, hZ, hX3, hX, hbl, hbo, hL3⟩ := id F
  have hK := hN.1
  obtain ⟨D, hI, hP, hT, hL⟩ := St
  obtain ⟨res, bb, μ1, h1, h2, h3, h4, h5, h6⟩ := hS β.1 β.2.1 β.2.2.2.2 ix bs.length (xs (6 * j + 1)) (xs (6 * j + 2)) hT
  cases res with
  | inl k =>
    refine lv_aload_n hx hb dL_law_891 rfl (lv_at hl 2 rfl) ?_
    refine lv_aload_n hx hb dL_law_892 rfl (lv_at hl 1 rfl) ?_
    refine lv_iload hx hb dL_law_893 (lv_at hl 0 rfl) ?_
    refine lv_iconst (v := 1) hx hb dL_law_895 (by decide) ?_
    refine lv_iadd hx hb dL_law_896 ?_
    rw [show nI (6 * j) + 1 = nI (6 * j + 1) from nI_add (6 * j) 1]
    refine lw_scr hx hb hX hbl hbo hL3 hL (by omega) dL_law_897 ?_
    refine lv_aload_n hx hb dL_law_898 rfl (lv_at hl 1 rfl) ?_
    refine lv_iload hx hb dL_law_899 (lv_at hl 0 rfl) ?_
    refine lv_iconst (v := 2) hx hb dL_law_901 (by decide) ?_
    refine lv_iadd hx hb dL_law_902 ?_
    rw [show nI (6 * j) + 2 = nI (6 * j + 2) from nI_add (6 * j) 2]
    refine lw_scr hx hb hX hbl hbo hL3 hL (by omega) dL_law_903 ?_
    refine lv_aload_n hx hb dL_law_904 rfl (lv_at hl 4 rfl) ?_
    refine wx_call (As := [.ref aG, .int (xs (6 * j + 1)), .int (xs (6 * j + 2)), .ref aO]) (rest := []) ⟨hx, hb, hml, hown, hts⟩ (c_L_read (G := G) (cA := cA) (H0 := H0) (sv := svOf ix bs) hl0 D h1 h2) (vx_cwSW 4 hts (gSWx mw_941 mw_942 mw_130 mw_943) rfl rfl rfl hd_L_read ⟨Nat.le_of_ble_eq_true rfl, Nat.le_of_ble_eq_true rfl⟩) hN hZ hX3 hP rfl hl.1 rfl (Nat.le_of_ble_eq_true rfl) dL_law_905 ⟨by show cells + 2 ≤ 601024; omega, by show slots + 12 ≤ 7293034; omega⟩ hL (fun H locs hP hL => ?_)
    have hP : BW G cA H0 lo aG aM aO bs (svOf ix bs) β H := hP
    refine lv_istore (lv' := [(6, .int (wCode 0 (.inl k : Nat ⊕ (Int32 × GLS)))), (5, .int (nI (6 * j))), (0, .ref b), (1, .ref aG), (2, .ref aM), (3, .ref aO), (4, .ref (aO + 1))]) hx hb dL_law_908 hl (by decide) rfl (fun ls hl => ?_)
    refine lv_aload_n hx hb dL_law_910 rfl (lv_at hl 4 rfl) ?_
    refine lv_aload_n hx hb dL_law_911 rfl (lv_at hl 2 rfl) ?_
    refine lv_iload hx hb dL_law_912 (lv_at hl 1 rfl) ?_
    refine lv_iconst (v := 1) hx hb dL_law_914 (by decide) ?_
    refine lv_iadd hx hb dL_law_915 ?_
    rw [show nI (6 * j) + 1 = nI (6 * j + 1) from nI_add (6 * j) 1]
    refine lw_scr hx hb hX hbl hbo hL3 hL (by omega) dL_law_916 ?_
    refine lv_aload_n hx hb dL_law_917 rfl (lv_at hl 2 rfl) ?_
    refine lv_iload hx hb dL_law_918 (lv_at hl 1 rfl) ?_
    refine lv_iconst (v := 2) hx hb dL_law_920 (by decide) ?_
    refine lv_iadd hx hb dL_law_921 ?_
    rw [show nI (6 * j) + 2 = nI (6 * j + 2) from nI_add (6 * j) 2]
    refine lw_scr hx hb hX hbl hbo hL3 hL (by omega) dL_law_922 ?_
    refine cx_callV (As := [.int (xs (6 * j + 1)), .int (xs (6 * j + 2))]) (rest := []) ⟨hx, hb, hml, hown, hts⟩ (c_X9_read (BW_M (G := G) (cA := cA) (H0 := H0) (sv := (svOf ix bs)) D β) h3) (cwV 2 hts (gV mw_949 mw_950 mw_951 mw_5 mw_952) rfl rfl rfl hd_X9_read ⟨Nat.le_of_ble_eq_true rfl, Nat.le_of_ble_eq_true rfl⟩) hK hP rfl (at_Model (BW_M (G := G) (cA := cA) (H0 := H0) (sv := (svOf ix bs)) D β) hP) rfl hl.1 rfl (Nat.le_of_ble_eq_true rfl) dL_law_923 ⟨by show cells + 2 + 0 ≤ 601024; omega, by show slots + 12 + 0 ≤ 7293034; omega⟩ hL (fun H locs hP hL => ?_)
    have hP : BW G cA H0 lo aG aM aO bs (svOf ix bs) (β.1, μ1, β.2.2) H := hP
    refine lv_istore (lv' := [(7, .int bb), (6, .int (wCode 0 (.inl k : Nat ⊕ (Int32 × GLS)))), (5, .int (nI (6 * j))), (0, .ref b), (1, .ref aG), (2, .ref aM), (3, .ref aO), (4, .ref (aO + 1))]) hx hb dL_law_926 hl (by decide) rfl (fun ls hl => ?_)
    refine lv_aload_n hx hb dL_law_928 rfl (lv_at hl 5 rfl) ?_
    refine cx_callV (As := []) (rest := []) ⟨hx, hb, hml, hown, hts⟩ (c_X9_thrown (BW_M (G := G) (cA := cA) (H0 := H0) (sv := (svOf ix bs)) D (β.1, μ1, β.2.2)) h4) (cwV 0 hts (gV mw_155 mw_156 mw_157 mw_5 mw_158) rfl rfl rfl hd_X9_thrown ⟨Nat.le_of_ble_eq_true rfl, Nat.le_of_ble_eq_true rfl⟩) hK hP rfl (at_Model (BW_M (G := G) (cA := cA) (H0 := H0) (sv := (svOf ix bs)) D (β.1, μ1, β.2.2)) hP) rfl hl.1 rfl (Nat.le_of_ble_eq_true rfl) dL_law_929 ⟨by show cells + 2 + 0 + 0 ≤ 601024; omega, by show slots + 12 + 0 + 0 ≤ 7293034; omega⟩ hL (fun H locs hP hL => ?_)
    refine lv_iload hx hb dL_law_932 (lv_at hl 1 rfl) ?_
    refine lv_icmp_eq (tgt := 939) hx hb dL_law_934 (by decide) (fun _ => ?_) (fun c8 => absurd rfl c8)
    refine lv_iload hx hb dL_law_939 (lv_at hl 1 rfl) ?_
    refine lv_if_ne (tgt := 956) hx hb dL_law_941 (by decide) (fun _ => ?_) (fun c8 => absurd c8 wCode_ne)
    refine lv_goto (tgt := 2386) hx hb dL_law_956 (by decide) ?_
    exact next (β.1, μ1, β.2.2) ix bs _ _ _ _ _ ⟨D, hI, hP, (h5 k rfl), hL⟩ (by omega) (by omega) (lv_sub hl [2, 3, 4, 5, 6, 7] rfl)
  | inr r =>
    obtain ⟨hbb, h7⟩ := h6 r rfl
    replace hbb := hbb.symm
    subst hbb
    refine lv_aload_n hx hb dL_law_891 rfl (lv_at hl 2 rfl) ?_
    refine lv_aload_n hx hb dL_law_892 rfl (lv_at hl 1 rfl) ?_
    refine lv_iload hx hb dL_law_893 (lv_at hl 0 rfl) ?_
    refine lv_iconst (v := 1) hx hb dL_law_895 (by decide) ?_
    refine lv_iadd hx hb dL_law_896 ?_
    rw [show nI (6 * j) + 1 = nI (6 * j + 1) from nI_add (6 * j) 1]
    refine lw_scr hx hb hX hbl hbo hL3 hL (by omega) dL_law_897 ?_
    refine lv_aload_n hx hb dL_law_898 rfl (lv_at hl 1 rfl) ?_
    refine lv_iload hx hb dL_law_899 (lv_at hl 0 rfl) ?_
    refine lv_iconst (v := 2) hx hb dL_law_901 (by decide) ?_
    refine lv_iadd hx hb dL_law_902 ?_
    rw [show nI (6 * j) + 2 = nI (6 * j + 2) from nI_add (6 * j) 2]
    refine lw_scr hx hb hX hbl hbo hL3 hL (by omega) dL_law_903 ?_
    refine lv_aload_n hx hb dL_law_904 rfl (lv_at hl 4 rfl) ?_
    refine wx_call (As := [.ref aG, .int (xs (6 * j + 1)), .int (xs (6 * j + 2)), .ref aO]) (rest := []) ⟨hx, hb, hml, hown, hts⟩ (c_L_read (G := G) (cA := cA) (H0 := H0) (sv := svOf ix bs) hl0 D h1 h2) (vx_cwSW 4 hts (gSWx mw_941 mw_942 mw_130 mw_943) rfl rfl rfl hd_L_read ⟨Nat.le_of_ble_eq_true rfl, Nat.le_of_ble_eq_true rfl⟩) hN hZ hX3 hP rfl hl.1 rfl (Nat.le_of_ble_eq_true rfl) dL_law_905 ⟨by show cells + 2 ≤ 601024; omega, by show slots + 12 ≤ 7293034; omega⟩ hL (fun H locs hP hL => ?_)
    have hP : BW G cA H0 lo aG aM aO bs (svOf ix bs) (r.2, β.2.1, oUp β.2.2.1 (Int32.toInt64 r.1), β.2.2.2) H := hP
    refine lv_istore (lv' := [(6, .int 0), (5, .int (nI (6 * j))), (0, .ref b), (1, .ref aG), (2, .ref aM), (3, .ref aO), (4, .ref (aO + 1))]) hx hb dL_law_908 hl (by decide) rfl (fun ls hl => ?_)
    refine lv_aload_n hx hb dL_law_910 rfl (lv_at hl 4 rfl) ?_
    refine lv_aload_n hx hb dL_law_911 rfl (lv_at hl 2 rfl) ?_
    refine lv_iload hx hb dL_law_912 (lv_at hl 1 rfl) ?_
    refine lv_iconst (v := 1) hx hb dL_law_914 (by decide) ?_
    refine lv_iadd hx hb dL_law_915 ?_
    rw [show nI (6 * j) + 1 = nI (6 * j + 1) from nI_add (6 * j) 1]
    refine lw_scr hx hb hX hbl hbo hL3 hL (by omega) dL_law_916 ?_
    refine lv_aload_n hx hb dL_law_917 rfl (lv_at hl 2 rfl) ?_
    refine lv_iload hx hb dL_law_918 (lv_at hl 1 rfl) ?_
    refine lv_iconst (v := 2) hx hb dL_law_920 (by decide) ?_
    refine lv_iadd hx hb dL_law_921 ?_
    rw [show nI (6 * j) + 2 = nI (6 * j + 2) from nI_add (6 * j) 2]
    refine lw_scr hx hb hX hbl hbo hL3 hL (by omega) dL_law_922 ?_
    refine cx_callV (As := [.int (xs (6 * j + 1)), .int (xs (6 * j + 2))]) (rest := []) ⟨hx, hb, hml, hown, hts⟩ (c_X9_read (BW_M (G := G) (cA := cA) (H0 := H0) (sv := (svOf ix bs)) D (r.2, β.2.1, oUp β.2.2.1 (Int32.toInt64 r.1), β.2.2.2)) h3) (cwV 2 hts (gV mw_949 mw_950 mw_951 mw_5 mw_952) rfl rfl rfl hd_X9_read ⟨Nat.le_of_ble_eq_true rfl, Nat.le_of_ble_eq_true rfl⟩) hK hP rfl (at_Model (BW_M (G := G) (cA := cA) (H0 := H0) (sv := (svOf ix bs)) D (r.2, β.2.1, oUp β.2.2.1 (Int32.toInt64 r.1), β.2.2.2)) hP) rfl hl.1 rfl (Nat.le_of_ble_eq_true rfl) dL_law_923 ⟨by show cells + 2 + 0 ≤ 601024; omega, by show slots + 12 + 0 ≤ 7293034; omega⟩ hL (fun H locs hP hL => ?_)
    have hP : BW G cA H0 lo aG aM aO bs (svOf ix bs) (r.2, μ1, oUp β.2.2.1 (Int32.toInt64 r.1), β.2.2.2) H := hP
    refine lv_istore (lv' := [(7, .int r.1), (6, .int 0), (5, .int (nI (6 * j))), (0, .ref b), (1, .ref aG), (2, .ref aM), (3, .ref aO), (4, .ref (aO + 1))]) hx hb dL_law_926 hl (by decide) rfl (fun ls hl => ?_)
    refine lv_aload_n hx hb dL_law_928 rfl (lv_at hl 5 rfl) ?_
    refine cx_callV (As := []) (rest := []) ⟨hx, hb, hml, hown, hts⟩ (c_X9_thrown (BW_M (G := G) (cA := cA) (H0 := H0) (sv := (svOf ix bs)) D (r.2, μ1, oUp β.2.2.1 (Int32.toInt64 r.1), β.2.2.2)) h4) (cwV 0 hts (gV mw_155 mw_156 mw_157 mw_5 mw_158) rfl rfl rfl hd_X9_thrown ⟨Nat.le_of_ble_eq_true rfl, Nat.le_of_ble_eq_true rfl⟩) hK hP rfl (at_Model (BW_M (G := G) (cA := cA) (H0 := H0) (sv := (svOf ix bs)) D (r.2, μ1, oUp β.2.2.1 (Int32.toInt64 r.1), β.2.2.2)) hP) rfl hl.1 rfl (Nat.le_of_ble_eq_true rfl) dL_law_929 ⟨by show cells + 2 + 0 + 0 ≤ 601024; omega, by show slots + 12 + 0 + 0 ≤ 7293034; omega⟩ hL (fun H locs hP hL => ?_)
    refine lv_iload hx hb dL_law_932 (lv_at hl 1 rfl) ?_
    refine lv_icmp_eq (tgt := 939) hx hb dL_law_934 (by decide) (fun _ => ?_) (fun c8 => absurd rfl c8)
    refine lv_iload hx hb dL_law_939 (lv_at hl 1 rfl) ?_
    refine lv_if_ne (tgt := 956) hx hb dL_law_941 (by decide) (fun c8 => absurd rfl c8) (fun _ => ?_)
    refine lv_aload_n hx hb dL_law_944 rfl (lv_at hl 6 rfl) ?_
    refine lv_iconst (v := 0) hx hb dL_law_945 (by decide) ?_
    refine va_lald hx hb hK (cx_one ((BW_O (G := G) (cA := cA) (H0 := H0) (sv := (svOf ix bs)) D (r.2, μ1, oUp β.2.2.1 (Int32.toInt64 r.1), β.2.2.2)).1 _ H hP 0 (by decide))) 0 2 rfl rfl (nI_in (c := 0) (N := 1) (by decide) (by decide)) dL_law_946 ?_
    rw [oUp_0]
    refine lv_iload hx hb dL_law_947 (lv_at hl 0 rfl) ?_
    refine lv_i2l hx hb dL_law_949 rfl ?_
    refine cx_lceq (tgt := 956) hx hb dL_law_950 dL_law_951 (by decide) (fun _ => ?_) (fun c8 => absurd rfl c8)
    refine lv_goto (tgt := 2386) hx hb dL_law_956 (by decide) ?_
    exact next (r.2, μ1, oUp β.2.2.1 (Int32.toInt64 r.1), β.2.2.2) ix bs _ _ _ _ _ ⟨D, hI, hP, h7, hL⟩ (by omega) (by omega) (lv_sub hl [2, 3, 4, 5, 6, 7] rfl)
def Sim_write (N : Nat) (Top Toq : TopT) : Prop := ∀ (γ : GLS) (μ : MdlS) (κ : Nat → CacS) (ix : Nat → Option Nat) (nb : Nat) (p0 : Int32) (p1 : Int32) (p2 : Int32), Top γ μ κ ix nb → ∃ (res : Nat ⊕ (Int32 × GLS)) (b : Int32) (μ1 : MdlS), f_X8_write N γ p0 p1 p2 = some res ∧ (∀ k, res = .inl k → k = 0 ∨ k = 1) ∧ f_X9_write N μ p0 p1 p2 = some (b, μ1) ∧ f_X9_thrown μ1 = some (wCode 0 res) ∧ (∀ k, res = .inl k → Toq γ μ1 κ ix nb) ∧ ∀ r, res = .inr r → b = r.1 ∧ Toq r.2 μ1 κ ix nb
set_option maxHeartbeats 2000000 in
set_option maxRecDepth 100000 in
theorem w_law_write {p : Program} {l : Launch} {e : Env} {s : State} {m : MethodId} {args : Array Value} {below : List Frame} {meth : Method} {c : Code} {G : va_G} {cA : Nat → ClassId} {H0 : Heap} {lo aG aM aO : Nat} {z : ZS} {Top Toq : TopT} {b L j N cells slots : Nat} {xs : Nat → Int32} {Q : State → Prop} (F : LwF l p s m args c G cA lo z b L xs) (hj : 6 * j + 5 < L) (hS : Sim_write N Top Toq) {β : BigS} {ix : Nat → Option Nat} {bs : List Nat} {H : Heap} {locs : List Loc} {ls : Array Slot} (St : LwS G cA H0 lo aG aM aO Top β ix bs H locs) (hcs : cells ≤ 500000) (hss : slots ≤ 7000000) (hl : lv_has ls 10 [(5, .int (nI (6 * j))), (0, .ref b), (1, .ref aG), (2, .ref aM), (3, .ref aO), (4, .ref (aO + 1))]) (next : LwN p l e s m args below meth c G cA H0 lo aG aM aO Toq b j cells slots Q) : W p l e room_1 s m args below meth c H locs cells slots Q (F0 m 959 ls []) := by
  obtain ⟨⟨hl0, hx, hb, hml, hown, hts⟩, hN, hZ, hX3, hX, hbl, hbo, hL3⟩ := id F
  have hK := hN.1
  obtain ⟨D, hI, hP, hT, hL⟩ := St
  obtain ⟨res, bb, μ1, h1, h2, h3, h4, h5, h6⟩ := hS β.1 β.2.1 β.2.2.2.2 ix bs.length (xs (6 * j + 1)) (xs (6 * j + 2)) (xs (6 * j + 3)) hT
  cases res with
  | inl k =>
    refine lv_aload_n hx hb dL_law_959 rfl (lv_at hl 2 rfl) ?_
    refine lv_aload_n hx hb dL_law_960 rfl (lv_at hl 1 rfl) ?_
    refine lv_iload hx hb dL_law_961 (lv_at hl 0 rfl) ?_
    refine lv_iconst (v := 1) hx hb dL_law_963 (by decide) ?_
    refine lv_iadd hx hb dL_law_964 ?_
    rw [show nI (6 * j) + 1 = nI (6 * j + 1) from nI_add (6 * j) 1]
    refine lw_scr hx hb hX hbl hbo hL3 hL (by omega) dL_law_965 ?_
    refine lv_aload_n hx hb dL_law_966 rfl (lv_at hl 1 rfl) ?_
    refine lv_iload hx hb dL_law_967 (lv_at hl 0 rfl) ?_
    refine lv_iconst (v := 2) hx hb dL_law_969 (by decide) ?_
    refine lv_iadd hx hb dL_law_970 ?_
    rw [show nI (6 * j) + 2 = nI (6 * j + 2) from nI_add (6 * j) 2]
    refine lw_scr hx hb hX hbl hbo hL3 hL (by omega) dL_law_971 ?_
    refine lv_aload_n hx hb dL_law_972 rfl (lv_at hl 1 rfl) ?_
    refine lv_iload hx hb dL_law_973 (lv_at hl 0 rfl) ?_
    refine lv_iconst (v := 3) hx hb dL_law_975 (by decide) ?_
    refine lv_iadd hx hb dL_law_976 ?_
    rw [show nI (6 * j) + 3 = nI (6 * j + 3) from nI_add (6 * j) 3]
    refine lw_scr hx hb hX hbl hbo hL3 hL (by omega) dL_law_977 ?_
    refine lv_aload_n hx hb dL_law_978 rfl (lv_at hl 4 rfl) ?_
    refine wx_call (As := [.ref aG, .int (xs (6 * j + 1)), .int (xs (6 * j + 2)), .int (xs (6 * j + 3)), .ref aO]) (rest := []) ⟨hx, hb, hml, hown, hts⟩ (c_L_write (G := G) (cA := cA) (H0 := H0) (sv := svOf ix bs) hl0 D h1 h2) (vx_cwSW 5 hts (gSWx mw_953 mw_954 mw_130 mw_955) rfl rfl rfl hd_L_write ⟨Nat.le_of_ble_eq_true rfl, Nat.le_of_ble_eq_true rfl⟩) hN hZ hX3 hP rfl hl.1 rfl (Nat.le_of_ble_eq_true rfl) dL_law_979 ⟨by show cells + 3 ≤ 601024; omega, by show slots + 18 ≤ 7293034; omega⟩ hL (fun H locs hP hL => ?_)
    have hP : BW G cA H0 lo aG aM aO bs (svOf ix bs) β H := hP
    refine lv_istore (lv' := [(6, .int (wCode 0 (.inl k : Nat ⊕ (Int32 × GLS)))), (5, .int (nI (6 * j))), (0, .ref b), (1, .ref aG), (2, .ref aM), (3, .ref aO), (4, .ref (aO + 1))]) hx hb dL_law_982 hl (by decide) rfl (fun ls hl => ?_)
    refine lv_aload_n hx hb dL_law_984 rfl (lv_at hl 4 rfl) ?_
    refine lv_aload_n hx hb dL_law_985 rfl (lv_at hl 2 rfl) ?_
    refine lv_iload hx hb dL_law_986 (lv_at hl 1 rfl) ?_
    refine lv_iconst (v := 1) hx hb dL_law_988 (by decide) ?_
    refine lv_iadd hx hb dL_law_989 ?_
    rw [show nI (6 * j) + 1 = nI (6 * j + 1) from nI_add (6 * j) 1]
    refine lw_scr hx hb hX hbl hbo hL3 hL (by omega) dL_law_990 ?_
    refine lv_aload_n hx hb dL_law_991 rfl (lv_at hl 2 rfl) ?_
    refine lv_iload hx hb dL_law_992 (lv_at hl 1 rfl) ?_
    refine lv_iconst (v := 2) hx hb dL_law_994 (by decide) ?_
    refine lv_iadd hx hb dL_law_995 ?_
    rw [show nI (6 * j) + 2 = nI (6 * j + 2) from nI_add (6 * j) 2]
    refine lw_scr hx hb hX hbl hbo hL3 hL (by omega) dL_law_996 ?_
    refine lv_aload_n hx hb dL_law_997 rfl (lv_at hl 2 rfl) ?_
    refine lv_iload hx hb dL_law_998 (lv_at hl 1 rfl) ?_
    refine lv_iconst (v := 3) hx hb dL_law_1000 (by decide) ?_
    refine lv_iadd hx hb dL_law_1001 ?_
    rw [show nI (6 * j) + 3 = nI (6 * j + 3) from nI_add (6 * j) 3]
    refine lw_scr hx hb hX hbl hbo hL3 hL (by omega) dL_law_1002 ?_
    refine cx_callV (As := [.int (xs (6 * j + 1)), .int (xs (6 * j + 2)), .int (xs (6 * j + 3))]) (rest := []) ⟨hx, hb, hml, hown, hts⟩ (c_X9_write (BW_M (G := G) (cA := cA) (H0 := H0) (sv := (svOf ix bs)) D β) h3) (cwV 3 hts (gV mw_961 mw_962 mw_963 mw_5 mw_964) rfl rfl rfl hd_X9_write ⟨Nat.le_of_ble_eq_true rfl, Nat.le_of_ble_eq_true rfl⟩) hK hP rfl (at_Model (BW_M (G := G) (cA := cA) (H0 := H0) (sv := (svOf ix bs)) D β) hP) rfl hl.1 rfl (Nat.le_of_ble_eq_true rfl) dL_law_1003 ⟨by show cells + 3 + 0 ≤ 601024; omega, by show slots + 18 + 0 ≤ 7293034; omega⟩ hL (fun H locs hP hL => ?_)
    have hP : BW G cA H0 lo aG aM aO bs (svOf ix bs) (β.1, μ1, β.2.2) H := hP
    refine lv_istore (lv' := [(7, .int bb), (6, .int (wCode 0 (.inl k : Nat ⊕ (Int32 × GLS)))), (5, .int (nI (6 * j))), (0, .ref b), (1, .ref aG), (2, .ref aM), (3, .ref aO), (4, .ref (aO + 1))]) hx hb dL_law_1006 hl (by decide) rfl (fun ls hl => ?_)
    refine lv_aload_n hx hb dL_law_1008 rfl (lv_at hl 5 rfl) ?_
    refine cx_callV (As := []) (rest := []) ⟨hx, hb, hml, hown, hts⟩ (c_X9_thrown (BW_M (G := G) (cA := cA) (H0 := H0) (sv := (svOf ix bs)) D (β.1, μ1, β.2.2)) h4) (cwV 0 hts (gV mw_155 mw_156 mw_157 mw_5 mw_158) rfl rfl rfl hd_X9_thrown ⟨Nat.le_of_ble_eq_true rfl, Nat.le_of_ble_eq_true rfl⟩) hK hP rfl (at_Model (BW_M (G := G) (cA := cA) (H0 := H0) (sv := (svOf ix bs)) D (β.1, μ1, β.2.2)) hP) rfl hl.1 rfl (Nat.le_of_ble_eq_true rfl) dL_law_1009 ⟨by show cells + 3 + 0 + 0 ≤ 601024; omega, by show slots + 18 + 0 + 0 ≤ 7293034; omega⟩ hL (fun H locs hP hL => ?_)
    refine lv_iload hx hb dL_law_1012 (lv_at hl 1 rfl) ?_
    refine lv_icmp_eq (tgt := 1019) hx hb dL_law_1014 (by decide) (fun _ => ?_) (fun c8 => absurd rfl c8)
    refine lv_iload hx hb dL_law_1019 (lv_at hl 1 rfl) ?_
    refine lv_if_ne (tgt := 1036) hx hb dL_law_1021 (by decide) (fun _ => ?_) (fun c8 => absurd c8 wCode_ne)
    refine lv_goto (tgt := 2386) hx hb dL_law_1036 (by decide) ?_
    exact next (β.1, μ1, β.2.2) ix bs _ _ _ _ _ ⟨D, hI, hP, (h5 k rfl), hL⟩ (by omega) (by omega) (lv_sub hl [2, 3, 4, 5, 6, 7] rfl)
  | inr r =>
    obtain ⟨hbb, h7⟩ := h6 r rfl
    replace hbb := hbb.symm
    subst hbb
    refine lv_aload_n hx hb dL_law_959 rfl (lv_at hl 2 rfl) ?_
    refine lv_aload_n hx hb dL_law_960 rfl (lv_at hl 1 rfl) ?_
    refine lv_iload hx hb dL_law_961 (lv_at hl 0 rfl) ?_
    refine lv_iconst (v := 1) hx hb dL_law_963 (by decide) ?_
    refine lv_iadd hx hb dL_law_964 ?_
    rw [show nI (6 * j) + 1 = nI (6 * j + 1) from nI_add (6 * j) 1]
    refine lw_scr hx hb hX hbl hbo hL3 hL (by omega) dL_law_965 ?_
    refine lv_aload_n hx hb dL_law_966 rfl (lv_at hl 1 rfl) ?_
    refine lv_iload hx hb dL_law_967 (lv_at hl 0 rfl) ?_
    refine lv_iconst (v := 2) hx hb dL_law_969 (by decide) ?_
    refine lv_iadd hx hb dL_law_970 ?_
    rw [show nI (6 * j) + 2 = nI (6 * j + 2) from nI_add (6 * j) 2]
    refine lw_scr hx hb hX hbl hbo hL3 hL (by omega) dL_law_971 ?_
    refine lv_aload_n hx hb dL_law_972 rfl (lv_at hl 1 rfl) ?_
    refine lv_iload hx hb dL_law_973 (lv_at hl 0 rfl) ?_
    refine lv_iconst (v := 3) hx hb dL_law_975 (by decide) ?_
    refine lv_iadd hx hb dL_law_976 ?_
    rw [show nI (6 * j) + 3 = nI (6 * j + 3) from nI_add (6 * j) 3]
    refine lw_scr hx hb hX hbl hbo hL3 hL (by omega) dL_law_977 ?_
    refine lv_aload_n hx hb dL_law_978 rfl (lv_at hl 4 rfl) ?_
    refine wx_call (As := [.ref aG, .int (xs (6 * j + 1)), .int (xs (6 * j + 2)), .int (xs (6 * j + 3)), .ref aO]) (rest := []) ⟨hx, hb, hml, hown, hts⟩ (c_L_write (G := G) (cA := cA) (H0 := H0) (sv := svOf ix bs) hl0 D h1 h2) (vx_cwSW 5 hts (gSWx mw_953 mw_954 mw_130 mw_955) rfl rfl rfl hd_L_write ⟨Nat.le_of_ble_eq_true rfl, Nat.le_of_ble_eq_true rfl⟩) hN hZ hX3 hP rfl hl.1 rfl (Nat.le_of_ble_eq_true rfl) dL_law_979 ⟨by show cells + 3 ≤ 601024; omega, by show slots + 18 ≤ 7293034; omega⟩ hL (fun H locs hP hL => ?_)
    have hP : BW G cA H0 lo aG aM aO bs (svOf ix bs) (r.2, β.2.1, oUp β.2.2.1 (Int32.toInt64 r.1), β.2.2.2) H := hP
    refine lv_istore (lv' := [(6, .int 0), (5, .int (nI (6 * j))), (0, .ref b), (1, .ref aG), (2, .ref aM), (3, .ref aO), (4, .ref (aO + 1))]) hx hb dL_law_982 hl (by decide) rfl (fun ls hl => ?_)
    refine lv_aload_n hx hb dL_law_984 rfl (lv_at hl 4 rfl) ?_
    refine lv_aload_n hx hb dL_law_985 rfl (lv_at hl 2 rfl) ?_
    refine lv_iload hx hb dL_law_986 (lv_at hl 1 rfl) ?_
    refine lv_iconst (v := 1) hx hb dL_law_988 (by decide) ?_
    refine lv_iadd hx hb dL_law_989 ?_
    rw [show nI (6 * j) + 1 = nI (6 * j + 1) from nI_add (6 * j) 1]
    refine lw_scr hx hb hX hbl hbo hL3 hL (by omega) dL_law_990 ?_
    refine lv_aload_n hx hb dL_law_991 rfl (lv_at hl 2 rfl) ?_
    refine lv_iload hx hb dL_law_992 (lv_at hl 1 rfl) ?_
    refine lv_iconst (v := 2) hx hb dL_law_994 (by decide) ?_
    refine lv_iadd hx hb dL_law_995 ?_
    rw [show nI (6 * j) + 2 = nI (6 * j + 2) from nI_add (6 * j) 2]
    refine lw_scr hx hb hX hbl hbo hL3 hL (by omega) dL_law_996 ?_
    refine lv_aload_n hx hb dL_law_997 rfl (lv_at hl 2 rfl) ?_
    refine lv_iload hx hb dL_law_998 (lv_at hl 1 rfl) ?_
    refine lv_iconst (v := 3) hx hb dL_law_1000 (by decide) ?_
    refine lv_iadd hx hb dL_law_1001 ?_
    rw [show nI (6 * j) + 3 = nI (6 * j + 3) from nI_add (6 * j) 3]
    refine lw_scr hx hb hX hbl hbo hL3 hL (by omega) dL_law_1002 ?_
    refine cx_callV (As := [.int (xs (6 * j + 1)), .int (xs (6 * j + 2)), .int (xs (6 * j + 3))]) (rest := []) ⟨hx, hb, hml, hown, hts⟩ (c_X9_write (BW_M (G := G) (cA := cA) (H0 := H0) (sv := (svOf ix bs)) D (r.2, β.2.1, oUp β.2.2.1 (Int32.toInt64 r.1), β.2.2.2)) h3) (cwV 3 hts (gV mw_961 mw_962 mw_963 mw_5 mw_964) rfl rfl rfl hd_X9_write ⟨Nat.le_of_ble_eq_true rfl, Nat.le_of_ble_eq_true rfl⟩) hK hP rfl (at_Model (BW_M (G := G) (cA := cA) (H0 := H0) (sv := (svOf ix bs)) D (r.2, β.2.1, oUp β.2.2.1 (Int32.toInt64 r.1), β.2.2.2)) hP) rfl hl.1 rfl (Nat.le_of_ble_eq_true rfl) dL_law_1003 ⟨by show cells + 3 + 0 ≤ 601024; omega, by show slots + 18 + 0 ≤ 7293034; omega⟩ hL (fun H locs hP hL => ?_)
    have hP : BW G cA H0 lo aG aM aO bs (svOf ix bs) (r.2, μ1, oUp β.2.2.1 (Int32.toInt64 r.1), β.2.2.2) H := hP
    refine lv_istore (lv' := [(7, .int r.1), (6, .int 0), (5, .int (nI (6 * j))), (0, .ref b), (1, .ref aG), (2, .ref aM), (3, .ref aO), (4, .ref (aO + 1))]) hx hb dL_law_1006 hl (by decide) rfl (fun ls hl => ?_)
    refine lv_aload_n hx hb dL_law_1008 rfl (lv_at hl 5 rfl) ?_
    refine cx_callV (As := []) (rest := []) ⟨hx, hb, hml, hown, hts⟩ (c_X9_thrown (BW_M (G := G) (cA := cA) (H0 := H0) (sv := (svOf ix bs)) D (r.2, μ1, oUp β.2.2.1 (Int32.toInt64 r.1), β.2.2.2)) h4) (cwV 0 hts (gV mw_155 mw_156 mw_157 mw_5 mw_158) rfl rfl rfl hd_X9_thrown ⟨Nat.le_of_ble_eq_true rfl, Nat.le_of_ble_eq_true rfl⟩) hK hP rfl (at_Model (BW_M (G := G) (cA := cA) (H0 := H0) (sv := (svOf ix bs)) D (r.2, μ1, oUp β.2.2.1 (Int32.toInt64 r.1), β.2.2.2)) hP) rfl hl.1 rfl (Nat.le_of_ble_eq_true rfl) dL_law_1009 ⟨by show cells + 3 + 0 + 0 ≤ 601024; omega, by show slots + 18 + 0 + 0 ≤ 7293034; omega⟩ hL (fun H locs hP hL => ?_)
    refine lv_iload hx hb dL_law_1012 (lv_at hl 1 rfl) ?_
    refine lv_icmp_eq (tgt := 1019) hx hb dL_law_1014 (by decide) (fun _ => ?_) (fun c8 => absurd rfl c8)
    refine lv_iload hx hb dL_law_1019 (lv_at hl 1 rfl) ?_
    refine lv_if_ne (tgt := 1036) hx hb dL_law_1021 (by decide) (fun c8 => absurd rfl c8) (fun _ => ?_)
    refine lv_aload_n hx hb dL_law_1024 rfl (lv_at hl 6 rfl) ?_
    refine lv_iconst (v := 0) hx hb dL_law_1025 (by decide) ?_
    refine va_lald hx hb hK (cx_one ((BW_O (G := G) (cA := cA) (H0 := H0) (sv := (svOf ix bs)) D (r.2, μ1, oUp β.2.2.1 (Int32.toInt64 r.1), β.2.2.2)).1 _ H hP 0 (by decide))) 0 2 rfl rfl (nI_in (c := 0) (N := 1) (by decide) (by decide)) dL_law_1026 ?_
    rw [oUp_0]
    refine lv_iload hx hb dL_law_1027 (lv_at hl 0 rfl) ?_
    refine lv_i2l hx hb dL_law_1029 rfl ?_
    refine cx_lceq (tgt := 1036) hx hb dL_law_1030 dL_law_1031 (by decide) (fun _ => ?_) (fun c8 => absurd rfl c8)
    refine lv_goto (tgt := 2386) hx hb dL_law_1036 (by decide) ?_
    exact next (r.2, μ1, oUp β.2.2.1 (Int32.toInt64 r.1), β.2.2.2) ix bs _ _ _ _ _ ⟨D, hI, hP, h7, hL⟩ (by omega) (by omega) (lv_sub hl [2, 3, 4, 5, 6, 7] rfl)
def Sim_flush (N : Nat) (Top Toq : TopT) : Prop := ∀ (γ : GLS) (μ : MdlS) (κ : Nat → CacS) (ix : Nat → Option Nat) (nb : Nat) (p0 : Int32), Top γ μ κ ix nb → ∃ (res : Nat ⊕ (Int32 × GLS)) (b : Int32) (μ1 : MdlS), f_X8_flush N γ p0 = some res ∧ (∀ k, res = .inl k → k = 1) ∧ f_X9_flush N μ p0 = some (b, μ1) ∧ f_X9_thrown μ1 = some (wCode 1 res) ∧ (∀ k, res = .inl k → Toq γ μ1 κ ix nb) ∧ ∀ r, res = .inr r → b = r.1 ∧ Toq r.2 μ1 κ ix nb
set_option maxHeartbeats 2000000 in
set_option maxRecDepth 100000 in
theorem w_law_flush {p : Program} {l : Launch} {e : Env} {s : State} {m : MethodId} {args : Array Value} {below : List Frame} {meth : Method} {c : Code} {G : va_G} {cA : Nat → ClassId} {H0 : Heap} {lo aG aM aO : Nat} {z : ZS} {Top Toq : TopT} {b L j N cells slots : Nat} {xs : Nat → Int32} {Q : State → Prop} (F : LwF l p s m args c G cA lo z b L xs) (hj : 6 * j + 5 < L) (hS : Sim_flush N Top Toq) {β : BigS} {ix : Nat → Option Nat} {bs : List Nat} {H : Heap} {locs : List Loc} {ls : Array Slot} (St : LwS G cA H0 lo aG aM aO Top β ix bs H locs) (hcs : cells ≤ 500000) (hss : slots ≤ 7000000) (hl : lv_has ls 10 [(5, .int (nI (6 * j))), (0, .ref b), (1, .ref aG), (2, .ref aM), (3, .ref aO), (4, .ref (aO + 1))]) (next : LwN p l e s m args below meth c G cA H0 lo aG aM aO Toq b j cells slots Q) : W p l e room_1 s m args below meth c H locs cells slots Q (F0 m 1039 ls []) := by
  obtain ⟨⟨hl0, hx, hb, hml, hown, hts⟩, hN, hZ, hX3, hX, hbl, hbo, hL3⟩ := id F
  have hK := hN.1
  obtain ⟨D, hI, hP, hT, hL⟩ := St
  obtain ⟨res, bb, μ1, h1, h2, h3, h4, h5, h6⟩ := hS β.1 β.2.1 β.2.2.2.2 ix bs.length (xs (6 * j + 1)) hT
  cases res with
  | inl k =>
    refine lv_aload_n hx hb dL_law_1039 rfl (lv_at hl 2 rfl) ?_
    refine lv_aload_n hx hb dL_law_1040 rfl (lv_at hl 1 rfl) ?_
    refine lv_iload hx hb dL_law_1041 (lv_at hl 0 rfl) ?_
    refine lv_iconst (v := 1) hx hb dL_law_1043 (by decide) ?_
    refine lv_iadd hx hb dL_law_1044 ?_
    rw [show nI (6 * j) + 1 = nI (6 * j + 1) from nI_add (6 * j) 1]
    refine lw_scr hx hb hX hbl hbo hL3 hL (by omega) dL_law_1045 ?_
    refine lv_aload_n hx hb dL_law_1046 rfl (lv_at hl 4 rfl) ?_
    refine wx_call (As := [.ref aG, .int (xs (6 * j + 1)), .ref aO]) (rest := []) ⟨hx, hb, hml, hown, hts⟩ (c_L_flush (G := G) (cA := cA) (H0 := H0) (sv := svOf ix bs) hl0 D h1 h2) (vx_cwSW 3 hts (gSWx mw_965 mw_966 mw_130 mw_967) rfl rfl rfl hd_L_flush ⟨Nat.le_of_ble_eq_true rfl, Nat.le_of_ble_eq_true rfl⟩) hN hZ hX3 hP rfl hl.1 rfl (Nat.le_of_ble_eq_true rfl) dL_law_1047 ⟨by show cells + 1 ≤ 601024; omega, by show slots + 6 ≤ 7293034; omega⟩ hL (fun H locs hP hL => ?_)
    have hP : BW G cA H0 lo aG aM aO bs (svOf ix bs) β H := hP
    refine lv_istore (lv' := [(6, .int (wCode 1 (.inl k : Nat ⊕ (Int32 × GLS)))), (5, .int (nI (6 * j))), (0, .ref b), (1, .ref aG), (2, .ref aM), (3, .ref aO), (4, .ref (aO + 1))]) hx hb dL_law_1050 hl (by decide) rfl (fun ls hl => ?_)
    refine lv_aload_n hx hb dL_law_1052 rfl (lv_at hl 4 rfl) ?_
    refine lv_aload_n hx hb dL_law_1053 rfl (lv_at hl 2 rfl) ?_
    refine lv_iload hx hb dL_law_1054 (lv_at hl 1 rfl) ?_
    refine lv_iconst (v := 1) hx hb dL_law_1056 (by decide) ?_
    refine lv_iadd hx hb dL_law_1057 ?_
    rw [show nI (6 * j) + 1 = nI (6 * j + 1) from nI_add (6 * j) 1]
    refine lw_scr hx hb hX hbl hbo hL3 hL (by omega) dL_law_1058 ?_
    refine cx_callV (As := [.int (xs (6 * j + 1))]) (rest := []) ⟨hx, hb, hml, hown, hts⟩ (c_X9_flush (BW_M (G := G) (cA := cA) (H0 := H0) (sv := (svOf ix bs)) D β) h3) (cwV 1 hts (gV mw_972 mw_973 mw_974 mw_5 mw_975) rfl rfl rfl hd_X9_flush ⟨Nat.le_of_ble_eq_true rfl, Nat.le_of_ble_eq_true rfl⟩) hK hP rfl (at_Model (BW_M (G := G) (cA := cA) (H0 := H0) (sv := (svOf ix bs)) D β) hP) rfl hl.1 rfl (Nat.le_of_ble_eq_true rfl) dL_law_1059 ⟨by show cells + 1 + 0 ≤ 601024; omega, by show slots + 6 + 0 ≤ 7293034; omega⟩ hL (fun H locs hP hL => ?_)
    have hP : BW G cA H0 lo aG aM aO bs (svOf ix bs) (β.1, μ1, β.2.2) H := hP
    refine lv_istore (lv' := [(7, .int bb), (6, .int (wCode 1 (.inl k : Nat ⊕ (Int32 × GLS)))), (5, .int (nI (6 * j))), (0, .ref b), (1, .ref aG), (2, .ref aM), (3, .ref aO), (4, .ref (aO + 1))]) hx hb dL_law_1062 hl (by decide) rfl (fun ls hl => ?_)
    refine lv_aload_n hx hb dL_law_1064 rfl (lv_at hl 5 rfl) ?_
    refine cx_callV (As := []) (rest := []) ⟨hx, hb, hml, hown, hts⟩ (c_X9_thrown (BW_M (G := G) (cA := cA) (H0 := H0) (sv := (svOf ix bs)) D (β.1, μ1, β.2.2)) h4) (cwV 0 hts (gV mw_155 mw_156 mw_157 mw_5 mw_158) rfl rfl rfl hd_X9_thrown ⟨Nat.le_of_ble_eq_true rfl, Nat.le_of_ble_eq_true rfl⟩) hK hP rfl (at_Model (BW_M (G := G) (cA := cA) (H0 := H0) (sv := (svOf ix bs)) D (β.1, μ1, β.2.2)) hP) rfl hl.1 rfl (Nat.le_of_ble_eq_true rfl) dL_law_1065 ⟨by show cells + 1 + 0 + 0 ≤ 601024; omega, by show slots + 6 + 0 + 0 ≤ 7293034; omega⟩ hL (fun H locs hP hL => ?_)
    refine lv_iload hx hb dL_law_1068 (lv_at hl 1 rfl) ?_
    refine lv_icmp_eq (tgt := 1075) hx hb dL_law_1070 (by decide) (fun _ => ?_) (fun c8 => absurd rfl c8)
    refine lv_iload hx hb dL_law_1075 (lv_at hl 1 rfl) ?_
    refine lv_if_ne (tgt := 1092) hx hb dL_law_1077 (by decide) (fun _ => ?_) (fun c8 => absurd c8 wCode_ne)
    refine lv_goto (tgt := 2386) hx hb dL_law_1092 (by decide) ?_
    exact next (β.1, μ1, β.2.2) ix bs _ _ _ _ _ ⟨D, hI, hP, (h5 k rfl), hL⟩ (by omega) (by omega) (lv_sub hl [2, 3, 4, 5, 6, 7] rfl)
  | inr r =>
    obtain ⟨hbb, h7⟩ := h6 r rfl
    replace hbb := hbb.symm
    subst hbb
    refine lv_aload_n hx hb dL_law_1039 rfl (lv_at hl 2 rfl) ?_
    refine lv_aload_n hx hb dL_law_1040 rfl (lv_at hl 1 rfl) ?_
    refine lv_iload hx hb dL_law_1041 (lv_at hl 0 rfl) ?_
    refine lv_iconst (v := 1) hx hb dL_law_1043 (by decide) ?_
    refine lv_iadd hx hb dL_law_1044 ?_
    rw [show nI (6 * j) + 1 = nI (6 * j + 1) from nI_add (6 * j) 1]
    refine lw_scr hx hb hX hbl hbo hL3 hL (by omega) dL_law_1045 ?_
    refine lv_aload_n hx hb dL_law_1046 rfl (lv_at hl 4 rfl) ?_
    refine wx_call (As := [.ref aG, .int (xs (6 * j + 1)), .ref aO]) (rest := []) ⟨hx, hb, hml, hown, hts⟩ (c_L_flush (G := G) (cA := cA) (H0 := H0) (sv := svOf ix bs) hl0 D h1 h2) (vx_cwSW 3 hts (gSWx mw_965 mw_966 mw_130 mw_967) rfl rfl rfl hd_L_flush ⟨Nat.le_of_ble_eq_true rfl, Nat.le_of_ble_eq_true rfl⟩) hN hZ hX3 hP rfl hl.1 rfl (Nat.le_of_ble_eq_true rfl) dL_law_1047 ⟨by show cells + 1 ≤ 601024; omega, by show slots + 6 ≤ 7293034; omega⟩ hL (fun H locs hP hL => ?_)
    have hP : BW G cA H0 lo aG aM aO bs (svOf ix bs) (r.2, β.2.1, oUp β.2.2.1 (Int32.toInt64 r.1), β.2.2.2) H := hP
    refine lv_istore (lv' := [(6, .int 0), (5, .int (nI (6 * j))), (0, .ref b), (1, .ref aG), (2, .ref aM), (3, .ref aO), (4, .ref (aO + 1))]) hx hb dL_law_1050 hl (by decide) rfl (fun ls hl => ?_)
    refine lv_aload_n hx hb dL_law_1052 rfl (lv_at hl 4 rfl) ?_
    refine lv_aload_n hx hb dL_law_1053 rfl (lv_at hl 2 rfl) ?_
    refine lv_iload hx hb dL_law_1054 (lv_at hl 1 rfl) ?_
    refine lv_iconst (v := 1) hx hb dL_law_1056 (by decide) ?_
    refine lv_iadd hx hb dL_law_1057 ?_
    rw [show nI (6 * j) + 1 = nI (6 * j + 1) from nI_add (6 * j) 1]
    refine lw_scr hx hb hX hbl hbo hL3 hL (by omega) dL_law_1058 ?_
    refine cx_callV (As := [.int (xs (6 * j + 1))]) (rest := []) ⟨hx, hb, hml, hown, hts⟩ (c_X9_flush (BW_M (G := G) (cA := cA) (H0 := H0) (sv := (svOf ix bs)) D (r.2, β.2.1, oUp β.2.2.1 (Int32.toInt64 r.1), β.2.2.2)) h3) (cwV 1 hts (gV mw_972 mw_973 mw_974 mw_5 mw_975) rfl rfl rfl hd_X9_flush ⟨Nat.le_of_ble_eq_true rfl, Nat.le_of_ble_eq_true rfl⟩) hK hP rfl (at_Model (BW_M (G := G) (cA := cA) (H0 := H0) (sv := (svOf ix bs)) D (r.2, β.2.1, oUp β.2.2.1 (Int32.toInt64 r.1), β.2.2.2)) hP) rfl hl.1 rfl (Nat.le_of_ble_eq_true rfl) dL_law_1059 ⟨by show cells + 1 + 0 ≤ 601024; omega, by show slots + 6 + 0 ≤ 7293034; omega⟩ hL (fun H locs hP hL => ?_)
    have hP : BW G cA H0 lo aG aM aO bs (svOf ix bs) (r.2, μ1, oUp β.2.2.1 (Int32.toInt64 r.1), β.2.2.2) H := hP
    refine lv_istore (lv' := [(7, .int r.1), (6, .int 0), (5, .int (nI (6 * j))), (0, .ref b), (1, .ref aG), (2, .ref aM), (3, .ref aO), (4, .ref (aO + 1))]) hx hb dL_law_1062 hl (by decide) rfl (fun ls hl => ?_)
    refine lv_aload_n hx hb dL_law_1064 rfl (lv_at hl 5 rfl) ?_
    refine cx_callV (As := []) (rest := []) ⟨hx, hb, hml, hown, hts⟩ (c_X9_thrown (BW_M (G := G) (cA := cA) (H0 := H0) (sv := (svOf ix bs)) D (r.2, μ1, oUp β.2.2.1 (Int32.toInt64 r.1), β.2.2.2)) h4) (cwV 0 hts (gV mw_155 mw_156 mw_157 mw_5 mw_158) rfl rfl rfl hd_X9_thrown ⟨Nat.le_of_ble_eq_true rfl, Nat.le_of_ble_eq_true rfl⟩) hK hP rfl (at_Model (BW_M (G := G) (cA := cA) (H0 := H0) (sv := (svOf ix bs)) D (r.2, μ1, oUp β.2.2.1 (Int32.toInt64 r.1), β.2.2.2)) hP) rfl hl.1 rfl (Nat.le_of_ble_eq_true rfl) dL_law_1065 ⟨by show cells + 1 + 0 + 0 ≤ 601024; omega, by show slots + 6 + 0 + 0 ≤ 7293034; omega⟩ hL (fun H locs hP hL => ?_)
    refine lv_iload hx hb dL_law_1068 (lv_at hl 1 rfl) ?_
    refine lv_icmp_eq (tgt := 1075) hx hb dL_law_1070 (by decide) (fun _ => ?_) (fun c8 => absurd rfl c8)
    refine lv_iload hx hb dL_law_1075 (lv_at hl 1 rfl) ?_
    refine lv_if_ne (tgt := 1092) hx hb dL_law_1077 (by decide) (fun c8 => absurd rfl c8) (fun _ => ?_)
    refine lv_aload_n hx hb dL_law_1080 rfl (lv_at hl 6 rfl) ?_
    refine lv_iconst (v := 0) hx hb dL_law_1081 (by decide) ?_
    refine va_lald hx hb hK (cx_one ((BW_O (G := G) (cA := cA) (H0 := H0) (sv := (svOf ix bs)) D (r.2, μ1, oUp β.2.2.1 (Int32.toInt64 r.1), β.2.2.2)).1 _ H hP 0 (by decide))) 0 2 rfl rfl (nI_in (c := 0) (N := 1) (by decide) (by decide)) dL_law_1082 ?_
    rw [oUp_0]
    refine lv_iload hx hb dL_law_1083 (lv_at hl 0 rfl) ?_
    refine lv_i2l hx hb dL_law_1085 rfl ?_
    refine cx_lceq (tgt := 1092) hx hb dL_law_1086 dL_law_1087 (by decide) (fun _ => ?_) (fun c8 => absurd rfl c8)
    refine lv_goto (tgt := 2386) hx hb dL_law_1092 (by decide) ?_
    exact next (r.2, μ1, oUp β.2.2.1 (Int32.toInt64 r.1), β.2.2.2) ix bs _ _ _ _ _ ⟨D, hI, hP, h7, hL⟩ (by omega) (by omega) (lv_sub hl [2, 3, 4, 5, 6, 7] rfl)
def Sim_forget (N : Nat) (Top Toq : TopT) : Prop := ∀ (γ : GLS) (μ : MdlS) (κ : Nat → CacS) (ix : Nat → Option Nat) (nb : Nat) (p0 : Int32), Top γ μ κ ix nb → ∃ (res : Nat ⊕ (Int32 × GLS)) (b : Int32) (μ1 : MdlS), f_X8_forget N γ p0 = some res ∧ (∀ k, res = .inl k → k = 1) ∧ f_X9_forget N μ p0 = some (b, μ1) ∧ f_X9_thrown μ1 = some (wCode 1 res) ∧ (∀ k, res = .inl k → Toq γ μ1 κ ix nb) ∧ ∀ r, res = .inr r → b = r.1 ∧ Toq r.2 μ1 κ ix nb
set_option maxHeartbeats 2000000 in
set_option maxRecDepth 100000 in
theorem w_law_forget {p : Program} {l : Launch} {e : Env} {s : State} {m : MethodId} {args : Array Value} {below : List Frame} {meth : Method} {c : Code} {G : va_G} {cA : Nat → ClassId} {H0 : Heap} {lo aG aM aO : Nat} {z : ZS} {Top Toq : TopT} {b L j N cells slots : Nat} {xs : Nat → Int32} {Q : State → Prop} (F : LwF l p s m args c G cA lo z b L xs) (hj : 6 * j + 5 < L) (hS : Sim_forget N Top Toq) {β : BigS} {ix : Nat → Option Nat} {bs : List Nat} {H : Heap} {locs : List Loc} {ls : Array Slot} (St : LwS G cA H0 lo aG aM aO Top β ix bs H locs) (hcs : cells ≤ 500000) (hss : slots ≤ 7000000) (hl : lv_has ls 10 [(5, .int (nI (6 * j))), (0, .ref b), (1, .ref aG), (2, .ref aM), (3, .ref aO), (4, .ref (aO + 1))]) (next : LwN p l e s m args below meth c G cA H0 lo aG aM aO Toq b j cells slots Q) : W p l e room_1 s m args below meth c H locs cells slots Q (F0 m 1095 ls []) := by
  obtain ⟨⟨hl0, hx, hb, hml, hown, hts⟩, hN, hZ, hX3, hX, hbl, hbo, hL3⟩ := id F
  have hK := hN.1
  obtain ⟨D, hI, hP, hT, hL⟩ := St
  obtain ⟨res, bb, μ1, h1, h2, h3, h4, h5, h6⟩ := hS β.1 β.2.1 β.2.2.2.2 ix bs.length (xs (6 * j + 1)) hT
  cases res with
  | inl k =>
    refine lv_aload_n hx hb dL_law_1095 rfl (lv_at hl 2 rfl) ?_
    refine lv_aload_n hx hb dL_law_1096 rfl (lv_at hl 1 rfl) ?_
    refine lv_iload hx hb dL_law_1097 (lv_at hl 0 rfl) ?_
    refine lv_iconst (v := 1) hx hb dL_law_1099 (by decide) ?_
    refine lv_iadd hx hb dL_law_1100 ?_
    rw [show nI (6 * j) + 1 = nI (6 * j + 1) from nI_add (6 * j) 1]
    refine lw_scr hx hb hX hbl hbo hL3 hL (by omega) dL_law_1101 ?_
    refine lv_aload_n hx hb dL_law_1102 rfl (lv_at hl 4 rfl) ?_
    refine wx_call (As := [.ref aG, .int (xs (6 * j + 1)), .ref aO]) (rest := []) ⟨hx, hb, hml, hown, hts⟩ (c_L_forget (G := G) (cA := cA) (H0 := H0) (sv := svOf ix bs) hl0 D h1 h2) (vx_cwSW 3 hts (gSWx mw_976 mw_977 mw_130 mw_978) rfl rfl rfl hd_L_forget ⟨Nat.le_of_ble_eq_true rfl, Nat.le_of_ble_eq_true rfl⟩) hN hZ hX3 hP rfl hl.1 rfl (Nat.le_of_ble_eq_true rfl) dL_law_1103 ⟨by show cells + 1 ≤ 601024; omega, by show slots + 6 ≤ 7293034; omega⟩ hL (fun H locs hP hL => ?_)
    have hP : BW G cA H0 lo aG aM aO bs (svOf ix bs) β H := hP
    refine lv_istore (lv' := [(6, .int (wCode 1 (.inl k : Nat ⊕ (Int32 × GLS)))), (5, .int (nI (6 * j))), (0, .ref b), (1, .ref aG), (2, .ref aM), (3, .ref aO), (4, .ref (aO + 1))]) hx hb dL_law_1106 hl (by decide) rfl (fun ls hl => ?_)
    refine lv_aload_n hx hb dL_law_1108 rfl (lv_at hl 4 rfl) ?_
    refine lv_aload_n hx hb dL_law_1109 rfl (lv_at hl 2 rfl) ?_
    refine lv_iload hx hb dL_law_1110 (lv_at hl 1 rfl) ?_
    refine lv_iconst (v := 1) hx hb dL_law_1112 (by decide) ?_
    refine lv_iadd hx hb dL_law_1113 ?_
    rw [show nI (6 * j) + 1 = nI (6 * j + 1) from nI_add (6 * j) 1]
    refine lw_scr hx hb hX hbl hbo hL3 hL (by omega) dL_law_1114 ?_
    refine cx_callV (As := [.int (xs (6 * j + 1))]) (rest := []) ⟨hx, hb, hml, hown, hts⟩ (c_X9_forget (BW_M (G := G) (cA := cA) (H0 := H0) (sv := (svOf ix bs)) D β) h3) (cwV 1 hts (gV mw_987 mw_988 mw_989 mw_5 mw_990) rfl rfl rfl hd_X9_forget ⟨Nat.le_of_ble_eq_true rfl, Nat.le_of_ble_eq_true rfl⟩) hK hP rfl (at_Model (BW_M (G := G) (cA := cA) (H0 := H0) (sv := (svOf ix bs)) D β) hP) rfl hl.1 rfl (Nat.le_of_ble_eq_true rfl) dL_law_1115 ⟨by show cells + 1 + 0 ≤ 601024; omega, by show slots + 6 + 0 ≤ 7293034; omega⟩ hL (fun H locs hP hL => ?_)
    have hP : BW G cA H0 lo aG aM aO bs (svOf ix bs) (β.1, μ1, β.2.2) H := hP
    refine lv_istore (lv' := [(7, .int bb), (6, .int (wCode 1 (.inl k : Nat ⊕ (Int32 × GLS)))), (5, .int (nI (6 * j))), (0, .ref b), (1, .ref aG), (2, .ref aM), (3, .ref aO), (4, .ref (aO + 1))]) hx hb dL_law_1118 hl (by decide) rfl (fun ls hl => ?_)
    refine lv_aload_n hx hb dL_law_1120 rfl (lv_at hl 5 rfl) ?_
    refine cx_callV (As := []) (rest := []) ⟨hx, hb, hml, hown, hts⟩ (c_X9_thrown (BW_M (G := G) (cA := cA) (H0 := H0) (sv := (svOf ix bs)) D (β.1, μ1, β.2.2)) h4) (cwV 0 hts (gV mw_155 mw_156 mw_157 mw_5 mw_158) rfl rfl rfl hd_X9_thrown ⟨Nat.le_of_ble_eq_true rfl, Nat.le_of_ble_eq_true rfl⟩) hK hP rfl (at_Model (BW_M (G := G) (cA := cA) (H0 := H0) (sv := (svOf ix bs)) D (β.1, μ1, β.2.2)) hP) rfl hl.1 rfl (Nat.le_of_ble_eq_true rfl) dL_law_1121 ⟨by show cells + 1 + 0 + 0 ≤ 601024; omega, by show slots + 6 + 0 + 0 ≤ 7293034; omega⟩ hL (fun H locs hP hL => ?_)
    refine lv_iload hx hb dL_law_1124 (lv_at hl 1 rfl) ?_
    refine lv_icmp_eq (tgt := 1131) hx hb dL_law_1126 (by decide) (fun _ => ?_) (fun c8 => absurd rfl c8)
    refine lv_iload hx hb dL_law_1131 (lv_at hl 1 rfl) ?_
    refine lv_if_ne (tgt := 1155) hx hb dL_law_1133 (by decide) (fun _ => ?_) (fun c8 => absurd c8 wCode_ne)
    refine lv_goto (tgt := 2386) hx hb dL_law_1155 (by decide) ?_
    exact next (β.1, μ1, β.2.2) ix bs _ _ _ _ _ ⟨D, hI, hP, (h5 k rfl), hL⟩ (by omega) (by omega) (lv_sub hl [2, 3, 4, 5, 6, 7] rfl)
  | inr r =>
    obtain ⟨hbb, h7⟩ := h6 r rfl
    replace hbb := hbb.symm
    subst hbb
    refine lv_aload_n hx hb dL_law_1095 rfl (lv_at hl 2 rfl) ?_
    refine lv_aload_n hx hb dL_law_1096 rfl (lv_at hl 1 rfl) ?_
    refine lv_iload hx hb dL_law_1097 (lv_at hl 0 rfl) ?_
    refine lv_iconst (v := 1) hx hb dL_law_1099 (by decide) ?_
    refine lv_iadd hx hb dL_law_1100 ?_
    rw [show nI (6 * j) + 1 = nI (6 * j + 1) from nI_add (6 * j) 1]
    refine lw_scr hx hb hX hbl hbo hL3 hL (by omega) dL_law_1101 ?_
    refine lv_aload_n hx hb dL_law_1102 rfl (lv_at hl 4 rfl) ?_
    refine wx_call (As := [.ref aG, .int (xs (6 * j + 1)), .ref aO]) (rest := []) ⟨hx, hb, hml, hown, hts⟩ (c_L_forget (G := G) (cA := cA) (H0 := H0) (sv := svOf ix bs) hl0 D h1 h2) (vx_cwSW 3 hts (gSWx mw_976 mw_977 mw_130 mw_978) rfl rfl rfl hd_L_forget ⟨Nat.le_of_ble_eq_true rfl, Nat.le_of_ble_eq_true rfl⟩) hN hZ hX3 hP rfl hl.1 rfl (Nat.le_of_ble_eq_true rfl) dL_law_1103 ⟨by show cells + 1 ≤ 601024; omega, by show slots + 6 ≤ 7293034; omega⟩ hL (fun H locs hP hL => ?_)
    have hP : BW G cA H0 lo aG aM aO bs (svOf ix bs) (r.2, β.2.1, oUp β.2.2.1 (if r.1 = 0 then 0 else 1), β.2.2.2) H := hP
    refine lv_istore (lv' := [(6, .int 0), (5, .int (nI (6 * j))), (0, .ref b), (1, .ref aG), (2, .ref aM), (3, .ref aO), (4, .ref (aO + 1))]) hx hb dL_law_1106 hl (by decide) rfl (fun ls hl => ?_)
    refine lv_aload_n hx hb dL_law_1108 rfl (lv_at hl 4 rfl) ?_
    refine lv_aload_n hx hb dL_law_1109 rfl (lv_at hl 2 rfl) ?_
    refine lv_iload hx hb dL_law_1110 (lv_at hl 1 rfl) ?_
    refine lv_iconst (v := 1) hx hb dL_law_1112 (by decide) ?_
    refine lv_iadd hx hb dL_law_1113 ?_
    rw [show nI (6 * j) + 1 = nI (6 * j + 1) from nI_add (6 * j) 1]
    refine lw_scr hx hb hX hbl hbo hL3 hL (by omega) dL_law_1114 ?_
    refine cx_callV (As := [.int (xs (6 * j + 1))]) (rest := []) ⟨hx, hb, hml, hown, hts⟩ (c_X9_forget (BW_M (G := G) (cA := cA) (H0 := H0) (sv := (svOf ix bs)) D (r.2, β.2.1, oUp β.2.2.1 (if r.1 = 0 then 0 else 1), β.2.2.2)) h3) (cwV 1 hts (gV mw_987 mw_988 mw_989 mw_5 mw_990) rfl rfl rfl hd_X9_forget ⟨Nat.le_of_ble_eq_true rfl, Nat.le_of_ble_eq_true rfl⟩) hK hP rfl (at_Model (BW_M (G := G) (cA := cA) (H0 := H0) (sv := (svOf ix bs)) D (r.2, β.2.1, oUp β.2.2.1 (if r.1 = 0 then 0 else 1), β.2.2.2)) hP) rfl hl.1 rfl (Nat.le_of_ble_eq_true rfl) dL_law_1115 ⟨by show cells + 1 + 0 ≤ 601024; omega, by show slots + 6 + 0 ≤ 7293034; omega⟩ hL (fun H locs hP hL => ?_)
    have hP : BW G cA H0 lo aG aM aO bs (svOf ix bs) (r.2, μ1, oUp β.2.2.1 (if r.1 = 0 then 0 else 1), β.2.2.2) H := hP
    refine lv_istore (lv' := [(7, .int r.1), (6, .int 0), (5, .int (nI (6 * j))), (0, .ref b), (1, .ref aG), (2, .ref aM), (3, .ref aO), (4, .ref (aO + 1))]) hx hb dL_law_1118 hl (by decide) rfl (fun ls hl => ?_)
    refine lv_aload_n hx hb dL_law_1120 rfl (lv_at hl 5 rfl) ?_
    refine cx_callV (As := []) (rest := []) ⟨hx, hb, hml, hown, hts⟩ (c_X9_thrown (BW_M (G := G) (cA := cA) (H0 := H0) (sv := (svOf ix bs)) D (r.2, μ1, oUp β.2.2.1 (if r.1 = 0 then 0 else 1), β.2.2.2)) h4) (cwV 0 hts (gV mw_155 mw_156 mw_157 mw_5 mw_158) rfl rfl rfl hd_X9_thrown ⟨Nat.le_of_ble_eq_true rfl, Nat.le_of_ble_eq_true rfl⟩) hK hP rfl (at_Model (BW_M (G := G) (cA := cA) (H0 := H0) (sv := (svOf ix bs)) D (r.2, μ1, oUp β.2.2.1 (if r.1 = 0 then 0 else 1), β.2.2.2)) hP) rfl hl.1 rfl (Nat.le_of_ble_eq_true rfl) dL_law_1121 ⟨by show cells + 1 + 0 + 0 ≤ 601024; omega, by show slots + 6 + 0 + 0 ≤ 7293034; omega⟩ hL (fun H locs hP hL => ?_)
    refine lv_iload hx hb dL_law_1124 (lv_at hl 1 rfl) ?_
    refine lv_icmp_eq (tgt := 1131) hx hb dL_law_1126 (by decide) (fun _ => ?_) (fun c8 => absurd rfl c8)
    refine lv_iload hx hb dL_law_1131 (lv_at hl 1 rfl) ?_
    refine lv_if_ne (tgt := 1155) hx hb dL_law_1133 (by decide) (fun c8 => absurd rfl c8) (fun _ => ?_)
    refine lv_aload_n hx hb dL_law_1136 rfl (lv_at hl 6 rfl) ?_
    refine lv_iconst (v := 0) hx hb dL_law_1137 (by decide) ?_
    refine va_lald hx hb hK (cx_one ((BW_O (G := G) (cA := cA) (H0 := H0) (sv := (svOf ix bs)) D (r.2, μ1, oUp β.2.2.1 (if r.1 = 0 then 0 else 1), β.2.2.2)).1 _ H hP 0 (by decide))) 0 2 rfl rfl (nI_in (c := 0) (N := 1) (by decide) (by decide)) dL_law_1138 ?_
    rw [oUp_0]
    refine lv_iload hx hb dL_law_1139 (lv_at hl 0 rfl) ?_
    refine lv_if_eq (tgt := 1148) hx hb dL_law_1141 (by decide) (fun c9 => ?_) (fun c9 => ?_)
    · skip
      refine lv_lconst (v := 0) hx hb dL_law_1148 (by decide) ?_
      rw [if_pos c9]
      refine cx_lceq (tgt := 1155) hx hb dL_law_1149 dL_law_1150 (by decide) (fun _ => ?_) (fun c8 => absurd rfl c8)
      refine lv_goto (tgt := 2386) hx hb dL_law_1155 (by decide) ?_
      exact next (r.2, μ1, oUp β.2.2.1 (if r.1 = 0 then 0 else 1), β.2.2.2) ix bs _ _ _ _ _ ⟨D, hI, hP, h7, hL⟩ (by omega) (by omega) (lv_sub hl [2, 3, 4, 5, 6, 7] rfl)
    · skip
      refine lv_lconst (v := 1) hx hb dL_law_1144 (by decide) ?_
      refine lv_goto (tgt := 1149) hx hb dL_law_1145 (by decide) ?_
      rw [if_neg c9]
      refine cx_lceq (tgt := 1155) hx hb dL_law_1149 dL_law_1150 (by decide) (fun _ => ?_) (fun c8 => absurd rfl c8)
      refine lv_goto (tgt := 2386) hx hb dL_law_1155 (by decide) ?_
      exact next (r.2, μ1, oUp β.2.2.1 (if r.1 = 0 then 0 else 1), β.2.2.2) ix bs _ _ _ _ _ ⟨D, hI, hP, h7, hL⟩ (by omega) (by omega) (lv_sub hl [2, 3, 4, 5, 6, 7] rfl)
def Sim_share (N : Nat) (Top Toq : TopT) : Prop := ∀ (γ : GLS) (μ : MdlS) (κ : Nat → CacS) (ix : Nat → Option Nat) (nb : Nat) (p0 : Int32), Top γ μ κ ix nb → ∃ (res : Nat ⊕ (UInt64)) (b : UInt64) (μ1 : MdlS), f_X8_share N γ p0 = some res ∧ (∀ k, res = .inl k → k = 0) ∧ f_X9_share N μ p0 = some (b, μ1) ∧ f_X9_thrown μ1 = some (wCode 0 res) ∧ (∀ k, res = .inl k → Toq γ μ1 κ ix nb) ∧ ∀ r, res = .inr r → b = r ∧ Toq γ μ1 κ ix nb ∧ Op.cmpValue (FP.dcmp r r) CmpOp.l = 0
set_option maxHeartbeats 2000000 in
set_option maxRecDepth 100000 in
theorem w_law_share {p : Program} {l : Launch} {e : Env} {s : State} {m : MethodId} {args : Array Value} {below : List Frame} {meth : Method} {c : Code} {G : va_G} {cA : Nat → ClassId} {H0 : Heap} {lo aG aM aO : Nat} {z : ZS} {Top Toq : TopT} {b L j N cells slots : Nat} {xs : Nat → Int32} {Q : State → Prop} (F : LwF l p s m args c G cA lo z b L xs) (hj : 6 * j + 5 < L) (hS : Sim_share N Top Toq) {β : BigS} {ix : Nat → Option Nat} {bs : List Nat} {H : Heap} {locs : List Loc} {ls : Array Slot} (St : LwS G cA H0 lo aG aM aO Top β ix bs H locs) (hcs : cells ≤ 500000) (hss : slots ≤ 7000000) (hl : lv_has ls 10 [(5, .int (nI (6 * j))), (0, .ref b), (1, .ref aG), (2, .ref aM), (3, .ref aO), (4, .ref (aO + 1))]) (next : LwN p l e s m args below meth c G cA H0 lo aG aM aO Toq b j cells slots Q) : W p l e room_1 s m args below meth c H locs cells slots Q (F0 m 1158 ls []) := by
  obtain ⟨⟨hl0, hx, hb, hml, hown, hts⟩, hN, hZ, hX3, hX, hbl, hbo, hL3⟩ := id F
  have hK := hN.1
  obtain ⟨D, hI, hP, hT, hL⟩ := St
  obtain ⟨res, bb, μ1, h1, h2, h3, h4, h5, h6⟩ := hS β.1 β.2.1 β.2.2.2.2 ix bs.length (xs (6 * j + 1)) hT
  cases res with
  | inl k =>
    refine lv_aload_n hx hb dL_law_1158 rfl (lv_at hl 2 rfl) ?_
    refine lv_aload_n hx hb dL_law_1159 rfl (lv_at hl 1 rfl) ?_
    refine lv_iload hx hb dL_law_1160 (lv_at hl 0 rfl) ?_
    refine lv_iconst (v := 1) hx hb dL_law_1162 (by decide) ?_
    refine lv_iadd hx hb dL_law_1163 ?_
    rw [show nI (6 * j) + 1 = nI (6 * j + 1) from nI_add (6 * j) 1]
    refine lw_scr hx hb hX hbl hbo hL3 hL (by omega) dL_law_1164 ?_
    refine lv_aload hx hb dL_law_1165 (lv_at hl 5 rfl) ?_
    refine wx_call (As := [.ref aG, .int (xs (6 * j + 1)), .ref (aO + 1)]) (rest := []) ⟨hx, hb, hml, hown, hts⟩ (c_L_share (G := G) (cA := cA) (H0 := H0) (sv := svOf ix bs) hl0 D h1 h2) (vx_cwSW 3 hts (gSWx mw_991 mw_992 mw_130 mw_993) rfl rfl rfl hd_L_share ⟨Nat.le_of_ble_eq_true rfl, Nat.le_of_ble_eq_true rfl⟩) hN hZ hX3 hP rfl hl.1 rfl (Nat.le_of_ble_eq_true rfl) dL_law_1167 ⟨by show cells + 1 ≤ 601024; omega, by show slots + 6 ≤ 7293034; omega⟩ hL (fun H locs hP hL => ?_)
    have hP : BW G cA H0 lo aG aM aO bs (svOf ix bs) β H := hP
    refine lv_istore (lv' := [(6, .int (wCode 0 (.inl k : Nat ⊕ (UInt64)))), (5, .int (nI (6 * j))), (0, .ref b), (1, .ref aG), (2, .ref aM), (3, .ref aO), (4, .ref (aO + 1))]) hx hb dL_law_1170 hl (by decide) rfl (fun ls hl => ?_)
    refine lv_aload_n hx hb dL_law_1172 rfl (lv_at hl 4 rfl) ?_
    refine lv_aload_n hx hb dL_law_1173 rfl (lv_at hl 2 rfl) ?_
    refine lv_iload hx hb dL_law_1174 (lv_at hl 1 rfl) ?_
    refine lv_iconst (v := 1) hx hb dL_law_1176 (by decide) ?_
    refine lv_iadd hx hb dL_law_1177 ?_
    rw [show nI (6 * j) + 1 = nI (6 * j + 1) from nI_add (6 * j) 1]
    refine lw_scr hx hb hX hbl hbo hL3 hL (by omega) dL_law_1178 ?_
    refine cx_callV (As := [.int (xs (6 * j + 1))]) (rest := []) ⟨hx, hb, hml, hown, hts⟩ (c_X9_share (BW_M (G := G) (cA := cA) (H0 := H0) (sv := (svOf ix bs)) D β) h3) (cwV 1 hts (gV mw_1004 mw_1005 mw_1006 mw_5 mw_1007) rfl rfl rfl hd_X9_share ⟨Nat.le_of_ble_eq_true rfl, Nat.le_of_ble_eq_true rfl⟩) hK hP rfl (at_Model (BW_M (G := G) (cA := cA) (H0 := H0) (sv := (svOf ix bs)) D β) hP) rfl hl.1 rfl (Nat.le_of_ble_eq_true rfl) dL_law_1179 ⟨by show cells + 1 + 0 ≤ 601024; omega, by show slots + 6 + 0 ≤ 7293034; omega⟩ hL (fun H locs hP hL => ?_)
    have hP : BW G cA H0 lo aG aM aO bs (svOf ix bs) (β.1, μ1, β.2.2) H := hP
    refine lv_dstore (lv' := [(7, .double bb), (6, .int (wCode 0 (.inl k : Nat ⊕ (UInt64)))), (5, .int (nI (6 * j))), (0, .ref b), (1, .ref aG), (2, .ref aM), (3, .ref aO), (4, .ref (aO + 1))]) hx hb dL_law_1182 hl (by decide) rfl (fun ls hl => ?_)
    refine lv_aload_n hx hb dL_law_1184 rfl (lv_at hl 5 rfl) ?_
    refine cx_callV (As := []) (rest := []) ⟨hx, hb, hml, hown, hts⟩ (c_X9_thrown (BW_M (G := G) (cA := cA) (H0 := H0) (sv := (svOf ix bs)) D (β.1, μ1, β.2.2)) h4) (cwV 0 hts (gV mw_155 mw_156 mw_157 mw_5 mw_158) rfl rfl rfl hd_X9_thrown ⟨Nat.le_of_ble_eq_true rfl, Nat.le_of_ble_eq_true rfl⟩) hK hP rfl (at_Model (BW_M (G := G) (cA := cA) (H0 := H0) (sv := (svOf ix bs)) D (β.1, μ1, β.2.2)) hP) rfl hl.1 rfl (Nat.le_of_ble_eq_true rfl) dL_law_1185 ⟨by show cells + 1 + 0 + 0 ≤ 601024; omega, by show slots + 6 + 0 + 0 ≤ 7293034; omega⟩ hL (fun H locs hP hL => ?_)
    refine lv_iload hx hb dL_law_1188 (lv_at hl 1 rfl) ?_
    refine lv_icmp_eq (tgt := 1195) hx hb dL_law_1190 (by decide) (fun _ => ?_) (fun c8 => absurd rfl c8)
    refine lv_iload hx hb dL_law_1195 (lv_at hl 1 rfl) ?_
    refine lv_if_ne (tgt := 1232) hx hb dL_law_1197 (by decide) (fun _ => ?_) (fun c8 => absurd c8 wCode_ne)
    refine lv_goto (tgt := 2386) hx hb dL_law_1232 (by decide) ?_
    exact next (β.1, μ1, β.2.2) ix bs _ _ _ _ _ ⟨D, hI, hP, (h5 k rfl), hL⟩ (by omega) (by omega) (lv_sub hl [2, 3, 4, 5, 6, 7] rfl)
  | inr r =>
    obtain ⟨hbb, h7, h9⟩ := h6 r rfl
    replace hbb := hbb.symm
    subst hbb
    refine lv_aload_n hx hb dL_law_1158 rfl (lv_at hl 2 rfl) ?_
    refine lv_aload_n hx hb dL_law_1159 rfl (lv_at hl 1 rfl) ?_
    refine lv_iload hx hb dL_law_1160 (lv_at hl 0 rfl) ?_
    refine lv_iconst (v := 1) hx hb dL_law_1162 (by decide) ?_
    refine lv_iadd hx hb dL_law_1163 ?_
    rw [show nI (6 * j) + 1 = nI (6 * j + 1) from nI_add (6 * j) 1]
    refine lw_scr hx hb hX hbl hbo hL3 hL (by omega) dL_law_1164 ?_
    refine lv_aload hx hb dL_law_1165 (lv_at hl 5 rfl) ?_
    refine wx_call (As := [.ref aG, .int (xs (6 * j + 1)), .ref (aO + 1)]) (rest := []) ⟨hx, hb, hml, hown, hts⟩ (c_L_share (G := G) (cA := cA) (H0 := H0) (sv := svOf ix bs) hl0 D h1 h2) (vx_cwSW 3 hts (gSWx mw_991 mw_992 mw_130 mw_993) rfl rfl rfl hd_L_share ⟨Nat.le_of_ble_eq_true rfl, Nat.le_of_ble_eq_true rfl⟩) hN hZ hX3 hP rfl hl.1 rfl (Nat.le_of_ble_eq_true rfl) dL_law_1167 ⟨by show cells + 1 ≤ 601024; omega, by show slots + 6 ≤ 7293034; omega⟩ hL (fun H locs hP hL => ?_)
    have hP : BW G cA H0 lo aG aM aO bs (svOf ix bs) (β.1, β.2.1, β.2.2.1, dUp β.2.2.2.1 r, β.2.2.2.2) H := hP
    refine lv_istore (lv' := [(6, .int 0), (5, .int (nI (6 * j))), (0, .ref b), (1, .ref aG), (2, .ref aM), (3, .ref aO), (4, .ref (aO + 1))]) hx hb dL_law_1170 hl (by decide) rfl (fun ls hl => ?_)
    refine lv_aload_n hx hb dL_law_1172 rfl (lv_at hl 4 rfl) ?_
    refine lv_aload_n hx hb dL_law_1173 rfl (lv_at hl 2 rfl) ?_
    refine lv_iload hx hb dL_law_1174 (lv_at hl 1 rfl) ?_
    refine lv_iconst (v := 1) hx hb dL_law_1176 (by decide) ?_
    refine lv_iadd hx hb dL_law_1177 ?_
    rw [show nI (6 * j) + 1 = nI (6 * j + 1) from nI_add (6 * j) 1]
    refine lw_scr hx hb hX hbl hbo hL3 hL (by omega) dL_law_1178 ?_
    refine cx_callV (As := [.int (xs (6 * j + 1))]) (rest := []) ⟨hx, hb, hml, hown, hts⟩ (c_X9_share (BW_M (G := G) (cA := cA) (H0 := H0) (sv := (svOf ix bs)) D (β.1, β.2.1, β.2.2.1, dUp β.2.2.2.1 r, β.2.2.2.2)) h3) (cwV 1 hts (gV mw_1004 mw_1005 mw_1006 mw_5 mw_1007) rfl rfl rfl hd_X9_share ⟨Nat.le_of_ble_eq_true rfl, Nat.le_of_ble_eq_true rfl⟩) hK hP rfl (at_Model (BW_M (G := G) (cA := cA) (H0 := H0) (sv := (svOf ix bs)) D (β.1, β.2.1, β.2.2.1, dUp β.2.2.2.1 r, β.2.2.2.2)) hP) rfl hl.1 rfl (Nat.le_of_ble_eq_true rfl) dL_law_1179 ⟨by show cells + 1 + 0 ≤ 601024; omega, by show slots + 6 + 0 ≤ 7293034; omega⟩ hL (fun H locs hP hL => ?_)
    have hP : BW G cA H0 lo aG aM aO bs (svOf ix bs) (β.1, μ1, β.2.2.1, dUp β.2.2.2.1 r, β.2.2.2.2) H := hP
    refine lv_dstore (lv' := [(7, .double r), (6, .int 0), (5, .int (nI (6 * j))), (0, .ref b), (1, .ref aG), (2, .ref aM), (3, .ref aO), (4, .ref (aO + 1))]) hx hb dL_law_1182 hl (by decide) rfl (fun ls hl => ?_)
    refine lv_aload_n hx hb dL_law_1184 rfl (lv_at hl 5 rfl) ?_
    refine cx_callV (As := []) (rest := []) ⟨hx, hb, hml, hown, hts⟩ (c_X9_thrown (BW_M (G := G) (cA := cA) (H0 := H0) (sv := (svOf ix bs)) D (β.1, μ1, β.2.2.1, dUp β.2.2.2.1 r, β.2.2.2.2)) h4) (cwV 0 hts (gV mw_155 mw_156 mw_157 mw_5 mw_158) rfl rfl rfl hd_X9_thrown ⟨Nat.le_of_ble_eq_true rfl, Nat.le_of_ble_eq_true rfl⟩) hK hP rfl (at_Model (BW_M (G := G) (cA := cA) (H0 := H0) (sv := (svOf ix bs)) D (β.1, μ1, β.2.2.1, dUp β.2.2.2.1 r, β.2.2.2.2)) hP) rfl hl.1 rfl (Nat.le_of_ble_eq_true rfl) dL_law_1185 ⟨by show cells + 1 + 0 + 0 ≤ 601024; omega, by show slots + 6 + 0 + 0 ≤ 7293034; omega⟩ hL (fun H locs hP hL => ?_)
    refine lv_iload hx hb dL_law_1188 (lv_at hl 1 rfl) ?_
    refine lv_icmp_eq (tgt := 1195) hx hb dL_law_1190 (by decide) (fun _ => ?_) (fun c8 => absurd rfl c8)
    refine lv_iload hx hb dL_law_1195 (lv_at hl 1 rfl) ?_
    refine lv_if_ne (tgt := 1232) hx hb dL_law_1197 (by decide) (fun c8 => absurd rfl c8) (fun _ => ?_)
    refine lv_aload hx hb dL_law_1200 (lv_at hl 7 rfl) ?_
    refine lv_iconst (v := 0) hx hb dL_law_1202 (by decide) ?_
    refine va_dald hx hb hK (cx_one ((BW_D (G := G) (cA := cA) (H0 := H0) (sv := (svOf ix bs)) D (β.1, μ1, β.2.2.1, dUp β.2.2.2.1 r, β.2.2.2.2)).1 _ H hP 0 (by decide))) 0 3 rfl rfl (nI_in (c := 0) (N := 1) (by decide) (by decide)) dL_law_1203 ?_
    rw [dUp_0]
    refine lv_dload hx hb dL_law_1204 (lv_at hl 0 rfl) ?_
    refine lv_dcmp hx hb dL_law_1206 ?_
    refine lv_if_eq (tgt := 1232) hx hb dL_law_1207 (by decide) (fun _ => ?_) (fun c8 => absurd h9 c8)
    refine lv_goto (tgt := 2386) hx hb dL_law_1232 (by decide) ?_
    exact next (β.1, μ1, β.2.2.1, dUp β.2.2.2.1 r, β.2.2.2.2) ix bs _ _ _ _ _ ⟨D, hI, hP, h7, hL⟩ (by omega) (by omega) (lv_sub hl [2, 3, 4, 5, 6, 7] rfl)
def Sim_hitShare (N : Nat) (Top Toq : TopT) : Prop := ∀ (γ : GLS) (μ : MdlS) (κ : Nat → CacS) (ix : Nat → Option Nat) (nb : Nat), Top γ μ κ ix nb → ∃ (r : UInt32) (μ1 : MdlS), f_X8_hitShare γ = some r ∧ f_X9_hitShare μ = some (r, μ1) ∧ Toq γ μ1 κ ix nb ∧ vf_n64 (FP.f2d r) ∧ Op.cmpValue (FP.dcmp (FP.f2d r) (FP.f2d r)) CmpOp.l = 0
set_option maxHeartbeats 2000000 in
set_option maxRecDepth 100000 in
theorem w_law_hitShare {p : Program} {l : Launch} {e : Env} {s : State} {m : MethodId} {args : Array Value} {below : List Frame} {meth : Method} {c : Code} {G : va_G} {cA : Nat → ClassId} {H0 : Heap} {lo aG aM aO : Nat} {z : ZS} {Top Toq : TopT} {b L j N cells slots : Nat} {xs : Nat → Int32} {Q : State → Prop} (F : LwF l p s m args c G cA lo z b L xs) (hj : 6 * j + 5 < L) (hS : Sim_hitShare N Top Toq) {β : BigS} {ix : Nat → Option Nat} {bs : List Nat} {H : Heap} {locs : List Loc} {ls : Array Slot} (St : LwS G cA H0 lo aG aM aO Top β ix bs H locs) (hcs : cells ≤ 500000) (hss : slots ≤ 7000000) (hl : lv_has ls 10 [(5, .int (nI (6 * j))), (0, .ref b), (1, .ref aG), (2, .ref aM), (3, .ref aO), (4, .ref (aO + 1))]) (next : LwN p l e s m args below meth c G cA H0 lo aG aM aO Toq b j cells slots Q) : W p l e room_1 s m args below meth c H locs cells slots Q (F0 m 1235 ls []) := by
  obtain ⟨⟨hl0, hx, hb, hml, hown, hts⟩, hN, hZ, hX3, hX, hbl, hbo, hL3⟩ := id F
  have hK := hN.1
  obtain ⟨D, hI, hP, hT, hL⟩ := St
  obtain ⟨r, μ1, h1, h3, hT, hn9, h9⟩ := hS β.1 β.2.1 β.2.2.2.2 ix bs.length hT
  refine lv_aload_n hx hb dL_law_1235 rfl (lv_at hl 2 rfl) ?_
  refine cx_callV (As := []) (rest := []) ⟨hx, hb, hml, hown, hts⟩ (c_X8_hitShare (BW_G (G := G) (cA := cA) (H0 := H0) (sv := svOf ix bs) D β) h1) (cwV 0 hts (gV mw_1008 mw_1009 mw_1010 mw_2 mw_1011) rfl rfl rfl hd_X8_hitShare ⟨Nat.le_of_ble_eq_true rfl, Nat.le_of_ble_eq_true rfl⟩) hK hP rfl (at_GL (BW_G (G := G) (cA := cA) (H0 := H0) (sv := svOf ix bs) D β) hP) rfl hl.1 rfl (Nat.le_of_ble_eq_true rfl) dL_law_1236 ⟨by show cells + 0 ≤ 601024; omega, by show slots + 0 ≤ 7293034; omega⟩ hL (fun H locs hP hL => ?_)
  have hP : BW G cA H0 lo aG aM aO bs (svOf ix bs) (β.1, β.2) H := hP
  refine lv_f2d hx hb dL_law_1239 hn9 ?_
  refine lv_dstore (lv' := [(6, .double (FP.f2d r)), (5, .int (nI (6 * j))), (0, .ref b), (1, .ref aG), (2, .ref aM), (3, .ref aO), (4, .ref (aO + 1))]) hx hb dL_law_1240 hl (by decide) rfl (fun ls hl => ?_)
  refine lv_aload_n hx hb dL_law_1242 rfl (lv_at hl 4 rfl) ?_
  refine cx_callV (As := []) (rest := []) ⟨hx, hb, hml, hown, hts⟩ (c_X9_hitShare (BW_M (G := G) (cA := cA) (H0 := H0) (sv := (svOf ix bs)) D (β.1, β.2)) h3) (cwV 0 hts (gV mw_1013 mw_1014 mw_1015 mw_5 mw_1016) rfl rfl rfl hd_X9_hitShare ⟨Nat.le_of_ble_eq_true rfl, Nat.le_of_ble_eq_true rfl⟩) hK hP rfl (at_Model (BW_M (G := G) (cA := cA) (H0 := H0) (sv := (svOf ix bs)) D (β.1, β.2)) hP) rfl hl.1 rfl (Nat.le_of_ble_eq_true rfl) dL_law_1243 ⟨by show cells + 0 + 0 ≤ 601024; omega, by show slots + 0 + 0 ≤ 7293034; omega⟩ hL (fun H locs hP hL => ?_)
  have hP : BW G cA H0 lo aG aM aO bs (svOf ix bs) (β.1, μ1, β.2.2) H := hP
  refine lv_f2d hx hb dL_law_1246 hn9 ?_
  refine lv_dstore (lv' := [(8, .double (FP.f2d r)), (6, .double (FP.f2d r)), (5, .int (nI (6 * j))), (0, .ref b), (1, .ref aG), (2, .ref aM), (3, .ref aO), (4, .ref (aO + 1))]) hx hb dL_law_1247 hl (by decide) rfl (fun ls hl => ?_)
  refine lv_dload hx hb dL_law_1249 (lv_at hl 1 rfl) ?_
  refine lv_dload hx hb dL_law_1251 (lv_at hl 0 rfl) ?_
  refine lv_dcmp hx hb dL_law_1253 ?_
  refine lv_if_eq (tgt := 1275) hx hb dL_law_1254 (by decide) (fun _ => ?_) (fun c8 => absurd h9 c8)
  refine lv_goto (tgt := 2386) hx hb dL_law_1275 (by decide) ?_
  exact next (β.1, μ1, β.2.2) ix bs _ _ _ _ _ ⟨D, hI, hP, hT, hL⟩ (by omega) (by omega) (lv_sub hl [2, 3, 4, 5, 6, 7] rfl)
def Sim_order (N : Nat) (Top Toq : TopT) : Prop := ∀ (γ : GLS) (μ : MdlS) (κ : Nat → CacS) (ix : Nat → Option Nat) (nb : Nat) (p0 : Int32), Top γ μ κ ix nb → ∃ (res : Nat ⊕ (Int32)) (b : Int32) (μ1 : MdlS), f_X8_order N γ p0 = some res ∧ (∀ k, res = .inl k → k = 0) ∧ f_X9_order N μ p0 = some (b, μ1) ∧ f_X9_thrown μ1 = some (wCode 0 res) ∧ (∀ k, res = .inl k → Toq γ μ1 κ ix nb) ∧ ∀ r, res = .inr r → b = r ∧ Toq γ μ1 κ ix nb
set_option maxHeartbeats 2000000 in
set_option maxRecDepth 100000 in
theorem w_law_order {p : Program} {l : Launch} {e : Env} {s : State} {m : MethodId} {args : Array Value} {below : List Frame} {meth : Method} {c : Code} {G : va_G} {cA : Nat → ClassId} {H0 : Heap} {lo aG aM aO : Nat} {z : ZS} {Top Toq : TopT} {b L j N cells slots : Nat} {xs : Nat → Int32} {Q : State → Prop} (F : LwF l p s m args c G cA lo z b L xs) (hj : 6 * j + 5 < L) (hS : Sim_order N Top Toq) {β : BigS} {ix : Nat → Option Nat} {bs : List Nat} {H : Heap} {locs : List Loc} {ls : Array Slot} (St : LwS G cA H0 lo aG aM aO Top β ix bs H locs) (hcs : cells ≤ 500000) (hss : slots ≤ 7000000) (hl : lv_has ls 10 [(5, .int (nI (6 * j))), (0, .ref b), (1, .ref aG), (2, .ref aM), (3, .ref aO), (4, .ref (aO + 1))]) (next : LwN p l e s m args below meth c G cA H0 lo aG aM aO Toq b j cells slots Q) : W p l e room_1 s m args below meth c H locs cells slots Q (F0 m 1278 ls []) := by
  obtain ⟨⟨hl0, hx, hb, hml, hown, hts⟩, hN, hZ, hX3, hX, hbl, hbo, hL3⟩ := id F
  have hK := hN.1
  obtain ⟨D, hI, hP, hT, hL⟩ := St
  obtain ⟨res, bb, μ1, h1, h2, h3, h4, h5, h6⟩ := hS β.1 β.2.1 β.2.2.2.2 ix bs.length (xs (6 * j + 1)) hT
  cases res with
  | inl k =>
    refine lv_aload_n hx hb dL_law_1278 rfl (lv_at hl 2 rfl) ?_
    refine lv_aload_n hx hb dL_law_1279 rfl (lv_at hl 1 rfl) ?_
    refine lv_iload hx hb dL_law_1280 (lv_at hl 0 rfl) ?_
    refine lv_iconst (v := 1) hx hb dL_law_1282 (by decide) ?_
    refine lv_iadd hx hb dL_law_1283 ?_
    rw [show nI (6 * j) + 1 = nI (6 * j + 1) from nI_add (6 * j) 1]
    refine lw_scr hx hb hX hbl hbo hL3 hL (by omega) dL_law_1284 ?_
    refine lv_aload_n hx hb dL_law_1285 rfl (lv_at hl 4 rfl) ?_
    refine wx_call (As := [.ref aG, .int (xs (6 * j + 1)), .ref aO]) (rest := []) ⟨hx, hb, hml, hown, hts⟩ (c_L_order (G := G) (cA := cA) (H0 := H0) (sv := svOf ix bs) hl0 D h1 h2) (vx_cwSW 3 hts (gSWx mw_1017 mw_1018 mw_130 mw_1019) rfl rfl rfl hd_L_order ⟨Nat.le_of_ble_eq_true rfl, Nat.le_of_ble_eq_true rfl⟩) hN hZ hX3 hP rfl hl.1 rfl (Nat.le_of_ble_eq_true rfl) dL_law_1286 ⟨by show cells + 1 ≤ 601024; omega, by show slots + 6 ≤ 7293034; omega⟩ hL (fun H locs hP hL => ?_)
    have hP : BW G cA H0 lo aG aM aO bs (svOf ix bs) β H := hP
    refine lv_istore (lv' := [(6, .int (wCode 0 (.inl k : Nat ⊕ (Int32)))), (5, .int (nI (6 * j))), (0, .ref b), (1, .ref aG), (2, .ref aM), (3, .ref aO), (4, .ref (aO + 1))]) hx hb dL_law_1289 hl (by decide) rfl (fun ls hl => ?_)
    refine lv_aload_n hx hb dL_law_1291 rfl (lv_at hl 4 rfl) ?_
    refine lv_aload_n hx hb dL_law_1292 rfl (lv_at hl 2 rfl) ?_
    refine lv_iload hx hb dL_law_1293 (lv_at hl 1 rfl) ?_
    refine lv_iconst (v := 1) hx hb dL_law_1295 (by decide) ?_
    refine lv_iadd hx hb dL_law_1296 ?_
    rw [show nI (6 * j) + 1 = nI (6 * j + 1) from nI_add (6 * j) 1]
    refine lw_scr hx hb hX hbl hbo hL3 hL (by omega) dL_law_1297 ?_
    refine cx_callV (As := [.int (xs (6 * j + 1))]) (rest := []) ⟨hx, hb, hml, hown, hts⟩ (c_X9_order (BW_M (G := G) (cA := cA) (H0 := H0) (sv := (svOf ix bs)) D β) h3) (cwV 1 hts (gV mw_1025 mw_1026 mw_1027 mw_5 mw_1028) rfl rfl rfl hd_X9_order ⟨Nat.le_of_ble_eq_true rfl, Nat.le_of_ble_eq_true rfl⟩) hK hP rfl (at_Model (BW_M (G := G) (cA := cA) (H0 := H0) (sv := (svOf ix bs)) D β) hP) rfl hl.1 rfl (Nat.le_of_ble_eq_true rfl) dL_law_1298 ⟨by show cells + 1 + 0 ≤ 601024; omega, by show slots + 6 + 0 ≤ 7293034; omega⟩ hL (fun H locs hP hL => ?_)
    have hP : BW G cA H0 lo aG aM aO bs (svOf ix bs) (β.1, μ1, β.2.2) H := hP
    refine lv_istore (lv' := [(7, .int bb), (6, .int (wCode 0 (.inl k : Nat ⊕ (Int32)))), (5, .int (nI (6 * j))), (0, .ref b), (1, .ref aG), (2, .ref aM), (3, .ref aO), (4, .ref (aO + 1))]) hx hb dL_law_1301 hl (by decide) rfl (fun ls hl => ?_)
    refine lv_aload_n hx hb dL_law_1303 rfl (lv_at hl 5 rfl) ?_
    refine cx_callV (As := []) (rest := []) ⟨hx, hb, hml, hown, hts⟩ (c_X9_thrown (BW_M (G := G) (cA := cA) (H0 := H0) (sv := (svOf ix bs)) D (β.1, μ1, β.2.2)) h4) (cwV 0 hts (gV mw_155 mw_156 mw_157 mw_5 mw_158) rfl rfl rfl hd_X9_thrown ⟨Nat.le_of_ble_eq_true rfl, Nat.le_of_ble_eq_true rfl⟩) hK hP rfl (at_Model (BW_M (G := G) (cA := cA) (H0 := H0) (sv := (svOf ix bs)) D (β.1, μ1, β.2.2)) hP) rfl hl.1 rfl (Nat.le_of_ble_eq_true rfl) dL_law_1304 ⟨by show cells + 1 + 0 + 0 ≤ 601024; omega, by show slots + 6 + 0 + 0 ≤ 7293034; omega⟩ hL (fun H locs hP hL => ?_)
    refine lv_iload hx hb dL_law_1307 (lv_at hl 1 rfl) ?_
    refine lv_icmp_eq (tgt := 1314) hx hb dL_law_1309 (by decide) (fun _ => ?_) (fun c8 => absurd rfl c8)
    refine lv_iload hx hb dL_law_1314 (lv_at hl 1 rfl) ?_
    refine lv_if_ne (tgt := 1331) hx hb dL_law_1316 (by decide) (fun _ => ?_) (fun c8 => absurd c8 wCode_ne)
    refine lv_goto (tgt := 2386) hx hb dL_law_1331 (by decide) ?_
    exact next (β.1, μ1, β.2.2) ix bs _ _ _ _ _ ⟨D, hI, hP, (h5 k rfl), hL⟩ (by omega) (by omega) (lv_sub hl [2, 3, 4, 5, 6, 7] rfl)
  | inr r =>
    obtain ⟨hbb, h7⟩ := h6 r rfl
    replace hbb := hbb.symm
    subst hbb
    refine lv_aload_n hx hb dL_law_1278 rfl (lv_at hl 2 rfl) ?_
    refine lv_aload_n hx hb dL_law_1279 rfl (lv_at hl 1 rfl) ?_
    refine lv_iload hx hb dL_law_1280 (lv_at hl 0 rfl) ?_
    refine lv_iconst (v := 1) hx hb dL_law_1282 (by decide) ?_
    refine lv_iadd hx hb dL_law_1283 ?_
    rw [show nI (6 * j) + 1 = nI (6 * j + 1) from nI_add (6 * j) 1]
    refine lw_scr hx hb hX hbl hbo hL3 hL (by omega) dL_law_1284 ?_
    refine lv_aload_n hx hb dL_law_1285 rfl (lv_at hl 4 rfl) ?_
    refine wx_call (As := [.ref aG, .int (xs (6 * j + 1)), .ref aO]) (rest := []) ⟨hx, hb, hml, hown, hts⟩ (c_L_order (G := G) (cA := cA) (H0 := H0) (sv := svOf ix bs) hl0 D h1 h2) (vx_cwSW 3 hts (gSWx mw_1017 mw_1018 mw_130 mw_1019) rfl rfl rfl hd_L_order ⟨Nat.le_of_ble_eq_true rfl, Nat.le_of_ble_eq_true rfl⟩) hN hZ hX3 hP rfl hl.1 rfl (Nat.le_of_ble_eq_true rfl) dL_law_1286 ⟨by show cells + 1 ≤ 601024; omega, by show slots + 6 ≤ 7293034; omega⟩ hL (fun H locs hP hL => ?_)
    have hP : BW G cA H0 lo aG aM aO bs (svOf ix bs) (β.1, β.2.1, oUp β.2.2.1 (Int32.toInt64 r), β.2.2.2) H := hP
    refine lv_istore (lv' := [(6, .int 0), (5, .int (nI (6 * j))), (0, .ref b), (1, .ref aG), (2, .ref aM), (3, .ref aO), (4, .ref (aO + 1))]) hx hb dL_law_1289 hl (by decide) rfl (fun ls hl => ?_)
    refine lv_aload_n hx hb dL_law_1291 rfl (lv_at hl 4 rfl) ?_
    refine lv_aload_n hx hb dL_law_1292 rfl (lv_at hl 2 rfl) ?_
    refine lv_iload hx hb dL_law_1293 (lv_at hl 1 rfl) ?_
    refine lv_iconst (v := 1) hx hb dL_law_1295 (by decide) ?_
    refine lv_iadd hx hb dL_law_1296 ?_
    rw [show nI (6 * j) + 1 = nI (6 * j + 1) from nI_add (6 * j) 1]
    refine lw_scr hx hb hX hbl hbo hL3 hL (by omega) dL_law_1297 ?_
    refine cx_callV (As := [.int (xs (6 * j + 1))]) (rest := []) ⟨hx, hb, hml, hown, hts⟩ (c_X9_order (BW_M (G := G) (cA := cA) (H0 := H0) (sv := (svOf ix bs)) D (β.1, β.2.1, oUp β.2.2.1 (Int32.toInt64 r), β.2.2.2)) h3) (cwV 1 hts (gV mw_1025 mw_1026 mw_1027 mw_5 mw_1028) rfl rfl rfl hd_X9_order ⟨Nat.le_of_ble_eq_true rfl, Nat.le_of_ble_eq_true rfl⟩) hK hP rfl (at_Model (BW_M (G := G) (cA := cA) (H0 := H0) (sv := (svOf ix bs)) D (β.1, β.2.1, oUp β.2.2.1 (Int32.toInt64 r), β.2.2.2)) hP) rfl hl.1 rfl (Nat.le_of_ble_eq_true rfl) dL_law_1298 ⟨by show cells + 1 + 0 ≤ 601024; omega, by show slots + 6 + 0 ≤ 7293034; omega⟩ hL (fun H locs hP hL => ?_)
    have hP : BW G cA H0 lo aG aM aO bs (svOf ix bs) (β.1, μ1, oUp β.2.2.1 (Int32.toInt64 r), β.2.2.2) H := hP
    refine lv_istore (lv' := [(7, .int r), (6, .int 0), (5, .int (nI (6 * j))), (0, .ref b), (1, .ref aG), (2, .ref aM), (3, .ref aO), (4, .ref (aO + 1))]) hx hb dL_law_1301 hl (by decide) rfl (fun ls hl => ?_)
    refine lv_aload_n hx hb dL_law_1303 rfl (lv_at hl 5 rfl) ?_
    refine cx_callV (As := []) (rest := []) ⟨hx, hb, hml, hown, hts⟩ (c_X9_thrown (BW_M (G := G) (cA := cA) (H0 := H0) (sv := (svOf ix bs)) D (β.1, μ1, oUp β.2.2.1 (Int32.toInt64 r), β.2.2.2)) h4) (cwV 0 hts (gV mw_155 mw_156 mw_157 mw_5 mw_158) rfl rfl rfl hd_X9_thrown ⟨Nat.le_of_ble_eq_true rfl, Nat.le_of_ble_eq_true rfl⟩) hK hP rfl (at_Model (BW_M (G := G) (cA := cA) (H0 := H0) (sv := (svOf ix bs)) D (β.1, μ1, oUp β.2.2.1 (Int32.toInt64 r), β.2.2.2)) hP) rfl hl.1 rfl (Nat.le_of_ble_eq_true rfl) dL_law_1304 ⟨by show cells + 1 + 0 + 0 ≤ 601024; omega, by show slots + 6 + 0 + 0 ≤ 7293034; omega⟩ hL (fun H locs hP hL => ?_)
    refine lv_iload hx hb dL_law_1307 (lv_at hl 1 rfl) ?_
    refine lv_icmp_eq (tgt := 1314) hx hb dL_law_1309 (by decide) (fun _ => ?_) (fun c8 => absurd rfl c8)
    refine lv_iload hx hb dL_law_1314 (lv_at hl 1 rfl) ?_
    refine lv_if_ne (tgt := 1331) hx hb dL_law_1316 (by decide) (fun c8 => absurd rfl c8) (fun _ => ?_)
    refine lv_aload_n hx hb dL_law_1319 rfl (lv_at hl 6 rfl) ?_
    refine lv_iconst (v := 0) hx hb dL_law_1320 (by decide) ?_
    refine va_lald hx hb hK (cx_one ((BW_O (G := G) (cA := cA) (H0 := H0) (sv := (svOf ix bs)) D (β.1, μ1, oUp β.2.2.1 (Int32.toInt64 r), β.2.2.2)).1 _ H hP 0 (by decide))) 0 2 rfl rfl (nI_in (c := 0) (N := 1) (by decide) (by decide)) dL_law_1321 ?_
    rw [oUp_0]
    refine lv_iload hx hb dL_law_1322 (lv_at hl 0 rfl) ?_
    refine lv_i2l hx hb dL_law_1324 rfl ?_
    refine cx_lceq (tgt := 1331) hx hb dL_law_1325 dL_law_1326 (by decide) (fun _ => ?_) (fun c8 => absurd rfl c8)
    refine lv_goto (tgt := 2386) hx hb dL_law_1331 (by decide) ?_
    exact next (β.1, μ1, oUp β.2.2.1 (Int32.toInt64 r), β.2.2.2) ix bs _ _ _ _ _ ⟨D, hI, hP, h7, hL⟩ (by omega) (by omega) (lv_sub hl [2, 3, 4, 5, 6, 7] rfl)
def Sim_victim (N : Nat) (Top Toq : TopT) : Prop := ∀ (γ : GLS) (μ : MdlS) (κ : Nat → CacS) (ix : Nat → Option Nat) (nb : Nat) (p0 : Int32), Top γ μ κ ix nb → (p0 = 0 ∨ p0 = 1) → ∃ (r : Int32) (γ1 : GLS) (μ1 : MdlS), f_X8_victim N γ p0 = some (r, γ1) ∧ f_X9_victim N μ p0 = some (r, μ1) ∧ Toq γ1 μ1 κ ix nb
set_option maxHeartbeats 2000000 in
set_option maxRecDepth 100000 in
theorem w_law_victim {p : Program} {l : Launch} {e : Env} {s : State} {m : MethodId} {args : Array Value} {below : List Frame} {meth : Method} {c : Code} {G : va_G} {cA : Nat → ClassId} {H0 : Heap} {lo aG aM aO : Nat} {z : ZS} {Top Toq : TopT} {b L j N cells slots : Nat} {xs : Nat → Int32} {Q : State → Prop} (F : LwF l p s m args c G cA lo z b L xs) (hj : 6 * j + 5 < L) (hS : Sim_victim N Top Toq) {β : BigS} {ix : Nat → Option Nat} {bs : List Nat} {H : Heap} {locs : List Loc} {ls : Array Slot} (St : LwS G cA H0 lo aG aM aO Top β ix bs H locs) (hcs : cells ≤ 500000) (hss : slots ≤ 7000000) (hl : lv_has ls 10 [(5, .int (nI (6 * j))), (0, .ref b), (1, .ref aG), (2, .ref aM), (3, .ref aO), (4, .ref (aO + 1))]) (next : LwN p l e s m args below meth c G cA H0 lo aG aM aO Toq b j cells slots Q) : W p l e room_1 s m args below meth c H locs cells slots Q (F0 m 1334 ls []) := by
  obtain ⟨⟨hl0, hx, hb, hml, hown, hts⟩, hN, hZ, hX3, hX, hbl, hbo, hL3⟩ := id F
  have hK := hN.1
  obtain ⟨D, hI, hP, hT, hL⟩ := St
  refine lv_aload_n hx hb dL_law_1334 rfl (lv_at hl 2 rfl) ?_
  refine lv_aload_n hx hb dL_law_1335 rfl (lv_at hl 1 rfl) ?_
  refine lv_iload hx hb dL_law_1336 (lv_at hl 0 rfl) ?_
  refine lv_iconst (v := 1) hx hb dL_law_1338 (by decide) ?_
  refine lv_iadd hx hb dL_law_1339 ?_
  rw [show nI (6 * j) + 1 = nI (6 * j + 1) from nI_add (6 * j) 1]
  refine lw_scr hx hb hX hbl hbo hL3 hL (by omega) dL_law_1340 ?_
  refine lv_if_eq (tgt := 1348) hx hb dL_law_1341 (by decide) (fun c9 => ?_) (fun c9 => ?_)
  · skip
    obtain ⟨r, γ1, μ1, h1, h3, hT⟩ := hS β.1 β.2.1 β.2.2.2.2 ix bs.length 0 hT (Or.inl rfl)
    refine lv_iconst (v := 0) hx hb dL_law_1348 (by decide) ?_
    refine cx_callV (As := [.int 0]) (rest := []) ⟨hx, hb, hml, hown, hts⟩ (c_X8_victim (BW_G (G := G) (cA := cA) (H0 := H0) (sv := svOf ix bs) D β) h1) (cwV 1 hts (gV mw_1029 mw_1030 mw_1031 mw_2 mw_1032) rfl rfl rfl hd_X8_victim ⟨Nat.le_of_ble_eq_true rfl, Nat.le_of_ble_eq_true rfl⟩) hK hP rfl (at_GL (BW_G (G := G) (cA := cA) (H0 := H0) (sv := svOf ix bs) D β) hP) rfl hl.1 rfl (Nat.le_of_ble_eq_true rfl) dL_law_1349 ⟨by show cells + 0 ≤ 601024; omega, by show slots + 0 ≤ 7293034; omega⟩ hL (fun H locs hP hL => ?_)
    have hP : BW G cA H0 lo aG aM aO bs (svOf ix bs) (γ1, β.2) H := hP
    refine lv_aload_n hx hb dL_law_1352 rfl (lv_at hl 3 rfl) ?_
    refine lv_aload_n hx hb dL_law_1353 rfl (lv_at hl 1 rfl) ?_
    refine lv_iload hx hb dL_law_1354 (lv_at hl 0 rfl) ?_
    refine lv_iconst (v := 1) hx hb dL_law_1356 (by decide) ?_
    refine lv_iadd hx hb dL_law_1357 ?_
    rw [show nI (6 * j) + 1 = nI (6 * j + 1) from nI_add (6 * j) 1]
    refine lw_scr hx hb hX hbl hbo hL3 hL (by omega) dL_law_1358 ?_
    refine lv_if_eq (tgt := 1366) hx hb dL_law_1359 (by decide) (fun _ => ?_) (fun c8 => absurd c9 c8)
    refine lv_iconst (v := 0) hx hb dL_law_1366 (by decide) ?_
    refine cx_callV (As := [.int 0]) (rest := [.int r]) ⟨hx, hb, hml, hown, hts⟩ (c_X9_victim (BW_M (G := G) (cA := cA) (H0 := H0) (sv := (svOf ix bs)) D (γ1, β.2)) h3) (cwV 1 hts (gV mw_1034 mw_1035 mw_1036 mw_5 mw_1037) rfl rfl rfl hd_X9_victim ⟨Nat.le_of_ble_eq_true rfl, Nat.le_of_ble_eq_true rfl⟩) hK hP rfl (at_Model (BW_M (G := G) (cA := cA) (H0 := H0) (sv := (svOf ix bs)) D (γ1, β.2)) hP) rfl hl.1 rfl (Nat.le_of_ble_eq_true rfl) dL_law_1367 ⟨by show cells + 0 + 0 ≤ 601024; omega, by show slots + 0 + 0 ≤ 7293034; omega⟩ hL (fun H locs hP hL => ?_)
    have hP : BW G cA H0 lo aG aM aO bs (svOf ix bs) (γ1, μ1, β.2.2) H := hP
    refine lv_icmp_eq (tgt := 2386) hx hb dL_law_1370 (by decide) (fun _ => ?_) (fun c8 => absurd rfl c8)
    exact next (γ1, μ1, β.2.2) ix bs _ _ _ _ _ ⟨D, hI, hP, hT, hL⟩ (by omega) (by omega) (lv_sub hl [0, 1, 2, 3, 4, 5] rfl)
  · skip
    obtain ⟨r, γ1, μ1, h1, h3, hT⟩ := hS β.1 β.2.1 β.2.2.2.2 ix bs.length 1 hT (Or.inr rfl)
    refine lv_iconst (v := 1) hx hb dL_law_1344 (by decide) ?_
    refine lv_goto (tgt := 1349) hx hb dL_law_1345 (by decide) ?_
    refine cx_callV (As := [.int 1]) (rest := []) ⟨hx, hb, hml, hown, hts⟩ (c_X8_victim (BW_G (G := G) (cA := cA) (H0 := H0) (sv := svOf ix bs) D β) h1) (cwV 1 hts (gV mw_1029 mw_1030 mw_1031 mw_2 mw_1032) rfl rfl rfl hd_X8_victim ⟨Nat.le_of_ble_eq_true rfl, Nat.le_of_ble_eq_true rfl⟩) hK hP rfl (at_GL (BW_G (G := G) (cA := cA) (H0 := H0) (sv := svOf ix bs) D β) hP) rfl hl.1 rfl (Nat.le_of_ble_eq_true rfl) dL_law_1349 ⟨by show cells + 0 ≤ 601024; omega, by show slots + 0 ≤ 7293034; omega⟩ hL (fun H locs hP hL => ?_)
    have hP : BW G cA H0 lo aG aM aO bs (svOf ix bs) (γ1, β.2) H := hP
    refine lv_aload_n hx hb dL_law_1352 rfl (lv_at hl 3 rfl) ?_
    refine lv_aload_n hx hb dL_law_1353 rfl (lv_at hl 1 rfl) ?_
    refine lv_iload hx hb dL_law_1354 (lv_at hl 0 rfl) ?_
    refine lv_iconst (v := 1) hx hb dL_law_1356 (by decide) ?_
    refine lv_iadd hx hb dL_law_1357 ?_
    rw [show nI (6 * j) + 1 = nI (6 * j + 1) from nI_add (6 * j) 1]
    refine lw_scr hx hb hX hbl hbo hL3 hL (by omega) dL_law_1358 ?_
    refine lv_if_eq (tgt := 1366) hx hb dL_law_1359 (by decide) (fun c8 => absurd c8 c9) (fun _ => ?_)
    refine lv_iconst (v := 1) hx hb dL_law_1362 (by decide) ?_
    refine lv_goto (tgt := 1367) hx hb dL_law_1363 (by decide) ?_
    refine cx_callV (As := [.int 1]) (rest := [.int r]) ⟨hx, hb, hml, hown, hts⟩ (c_X9_victim (BW_M (G := G) (cA := cA) (H0 := H0) (sv := (svOf ix bs)) D (γ1, β.2)) h3) (cwV 1 hts (gV mw_1034 mw_1035 mw_1036 mw_5 mw_1037) rfl rfl rfl hd_X9_victim ⟨Nat.le_of_ble_eq_true rfl, Nat.le_of_ble_eq_true rfl⟩) hK hP rfl (at_Model (BW_M (G := G) (cA := cA) (H0 := H0) (sv := (svOf ix bs)) D (γ1, β.2)) hP) rfl hl.1 rfl (Nat.le_of_ble_eq_true rfl) dL_law_1367 ⟨by show cells + 0 + 0 ≤ 601024; omega, by show slots + 0 + 0 ≤ 7293034; omega⟩ hL (fun H locs hP hL => ?_)
    have hP : BW G cA H0 lo aG aM aO bs (svOf ix bs) (γ1, μ1, β.2.2) H := hP
    refine lv_icmp_eq (tgt := 2386) hx hb dL_law_1370 (by decide) (fun _ => ?_) (fun c8 => absurd rfl c8)
    exact next (γ1, μ1, β.2.2) ix bs _ _ _ _ _ ⟨D, hI, hP, hT, hL⟩ (by omega) (by omega) (lv_sub hl [0, 1, 2, 3, 4, 5] rfl)
def Sim_leaving (N : Nat) (Top Toq : TopT) : Prop := ∀ (γ : GLS) (μ : MdlS) (κ : Nat → CacS) (ix : Nat → Option Nat) (nb : Nat), Top γ μ κ ix nb → ∃ (r : Int32) (μ1 : MdlS), f_X8_leaving N γ = some r ∧ f_X9_leaving N μ = some (r, μ1) ∧ Toq γ μ1 κ ix nb
set_option maxHeartbeats 2000000 in
set_option maxRecDepth 100000 in
theorem w_law_leaving {p : Program} {l : Launch} {e : Env} {s : State} {m : MethodId} {args : Array Value} {below : List Frame} {meth : Method} {c : Code} {G : va_G} {cA : Nat → ClassId} {H0 : Heap} {lo aG aM aO : Nat} {z : ZS} {Top Toq : TopT} {b L j N cells slots : Nat} {xs : Nat → Int32} {Q : State → Prop} (F : LwF l p s m args c G cA lo z b L xs) (hj : 6 * j + 5 < L) (hS : Sim_leaving N Top Toq) {β : BigS} {ix : Nat → Option Nat} {bs : List Nat} {H : Heap} {locs : List Loc} {ls : Array Slot} (St : LwS G cA H0 lo aG aM aO Top β ix bs H locs) (hcs : cells ≤ 500000) (hss : slots ≤ 7000000) (hl : lv_has ls 10 [(5, .int (nI (6 * j))), (0, .ref b), (1, .ref aG), (2, .ref aM), (3, .ref aO), (4, .ref (aO + 1))]) (next : LwN p l e s m args below meth c G cA H0 lo aG aM aO Toq b j cells slots Q) : W p l e room_1 s m args below meth c H locs cells slots Q (F0 m 1375 ls []) := by
  obtain ⟨⟨hl0, hx, hb, hml, hown, hts⟩, hN, hZ, hX3, hX, hbl, hbo, hL3⟩ := id F
  have hK := hN.1
  obtain ⟨D, hI, hP, hT, hL⟩ := St
  obtain ⟨r, μ1, h1, h3, hT⟩ := hS β.1 β.2.1 β.2.2.2.2 ix bs.length hT
  refine lv_aload_n hx hb dL_law_1375 rfl (lv_at hl 2 rfl) ?_
  refine cx_callV (As := []) (rest := []) ⟨hx, hb, hml, hown, hts⟩ (c_X8_leaving (BW_G (G := G) (cA := cA) (H0 := H0) (sv := svOf ix bs) D β) h1) (cwV 0 hts (gV mw_1038 mw_1039 mw_1040 mw_2 mw_1041) rfl rfl rfl hd_X8_leaving ⟨Nat.le_of_ble_eq_true rfl, Nat.le_of_ble_eq_true rfl⟩) hK hP rfl (at_GL (BW_G (G := G) (cA := cA) (H0 := H0) (sv := svOf ix bs) D β) hP) rfl hl.1 rfl (Nat.le_of_ble_eq_true rfl) dL_law_1376 ⟨by show cells + 0 ≤ 601024; omega, by show slots + 0 ≤ 7293034; omega⟩ hL (fun H locs hP hL => ?_)
  have hP : BW G cA H0 lo aG aM aO bs (svOf ix bs) (β.1, β.2) H := hP
  refine lv_aload_n hx hb dL_law_1379 rfl (lv_at hl 3 rfl) ?_
  refine cx_callV (As := []) (rest := [.int r]) ⟨hx, hb, hml, hown, hts⟩ (c_X9_leaving (BW_M (G := G) (cA := cA) (H0 := H0) (sv := (svOf ix bs)) D (β.1, β.2)) h3) (cwV 0 hts (gV mw_1043 mw_1044 mw_1045 mw_5 mw_1046) rfl rfl rfl hd_X9_leaving ⟨Nat.le_of_ble_eq_true rfl, Nat.le_of_ble_eq_true rfl⟩) hK hP rfl (at_Model (BW_M (G := G) (cA := cA) (H0 := H0) (sv := (svOf ix bs)) D (β.1, β.2)) hP) rfl hl.1 rfl (Nat.le_of_ble_eq_true rfl) dL_law_1380 ⟨by show cells + 0 + 0 ≤ 601024; omega, by show slots + 0 + 0 ≤ 7293034; omega⟩ hL (fun H locs hP hL => ?_)
  have hP : BW G cA H0 lo aG aM aO bs (svOf ix bs) (β.1, μ1, β.2.2) H := hP
  refine lv_icmp_eq (tgt := 2386) hx hb dL_law_1383 (by decide) (fun _ => ?_) (fun c8 => absurd rfl c8)
  exact next (β.1, μ1, β.2.2) ix bs _ _ _ _ _ ⟨D, hI, hP, hT, hL⟩ (by omega) (by omega) (lv_sub hl [0, 1, 2, 3, 4, 5] rfl)
def Sim_oldest (N : Nat) (Top Toq : TopT) : Prop := ∀ (γ : GLS) (μ : MdlS) (κ : Nat → CacS) (ix : Nat → Option Nat) (nb : Nat), Top γ μ κ ix nb → ∃ (r : Int32) (μ1 : MdlS), f_X8_oldest N γ = some r ∧ f_X9_oldest N μ = some (r, μ1) ∧ Toq γ μ1 κ ix nb
set_option maxHeartbeats 2000000 in
set_option maxRecDepth 100000 in
theorem w_law_oldest {p : Program} {l : Launch} {e : Env} {s : State} {m : MethodId} {args : Array Value} {below : List Frame} {meth : Method} {c : Code} {G : va_G} {cA : Nat → ClassId} {H0 : Heap} {lo aG aM aO : Nat} {z : ZS} {Top Toq : TopT} {b L j N cells slots : Nat} {xs : Nat → Int32} {Q : State → Prop} (F : LwF l p s m args c G cA lo z b L xs) (hj : 6 * j + 5 < L) (hS : Sim_oldest N Top Toq) {β : BigS} {ix : Nat → Option Nat} {bs : List Nat} {H : Heap} {locs : List Loc} {ls : Array Slot} (St : LwS G cA H0 lo aG aM aO Top β ix bs H locs) (hcs : cells ≤ 500000) (hss : slots ≤ 7000000) (hl : lv_has ls 10 [(5, .int (nI (6 * j))), (0, .ref b), (1, .ref aG), (2, .ref aM), (3, .ref aO), (4, .ref (aO + 1))]) (next : LwN p l e s m args below meth c G cA H0 lo aG aM aO Toq b j cells slots Q) : W p l e room_1 s m args below meth c H locs cells slots Q (F0 m 1388 ls []) := by
  obtain ⟨⟨hl0, hx, hb, hml, hown, hts⟩, hN, hZ, hX3, hX, hbl, hbo, hL3⟩ := id F
  have hK := hN.1
  obtain ⟨D, hI, hP, hT, hL⟩ := St
  obtain ⟨r, μ1, h1, h3, hT⟩ := hS β.1 β.2.1 β.2.2.2.2 ix bs.length hT
  refine lv_aload_n hx hb dL_law_1388 rfl (lv_at hl 2 rfl) ?_
  refine cx_callV (As := []) (rest := []) ⟨hx, hb, hml, hown, hts⟩ (c_X8_oldest (BW_G (G := G) (cA := cA) (H0 := H0) (sv := svOf ix bs) D β) h1) (cwV 0 hts (gV mw_1047 mw_1048 mw_1049 mw_2 mw_1050) rfl rfl rfl hd_X8_oldest ⟨Nat.le_of_ble_eq_true rfl, Nat.le_of_ble_eq_true rfl⟩) hK hP rfl (at_GL (BW_G (G := G) (cA := cA) (H0 := H0) (sv := svOf ix bs) D β) hP) rfl hl.1 rfl (Nat.le_of_ble_eq_true rfl) dL_law_1389 ⟨by show cells + 0 ≤ 601024; omega, by show slots + 0 ≤ 7293034; omega⟩ hL (fun H locs hP hL => ?_)
  have hP : BW G cA H0 lo aG aM aO bs (svOf ix bs) (β.1, β.2) H := hP
  refine lv_aload_n hx hb dL_law_1392 rfl (lv_at hl 3 rfl) ?_
  refine cx_callV (As := []) (rest := [.int r]) ⟨hx, hb, hml, hown, hts⟩ (c_X9_oldest (BW_M (G := G) (cA := cA) (H0 := H0) (sv := (svOf ix bs)) D (β.1, β.2)) h3) (cwV 0 hts (gV mw_1056 mw_1057 mw_1058 mw_5 mw_1059) rfl rfl rfl hd_X9_oldest ⟨Nat.le_of_ble_eq_true rfl, Nat.le_of_ble_eq_true rfl⟩) hK hP rfl (at_Model (BW_M (G := G) (cA := cA) (H0 := H0) (sv := (svOf ix bs)) D (β.1, β.2)) hP) rfl hl.1 rfl (Nat.le_of_ble_eq_true rfl) dL_law_1393 ⟨by show cells + 0 + 0 ≤ 601024; omega, by show slots + 0 + 0 ≤ 7293034; omega⟩ hL (fun H locs hP hL => ?_)
  have hP : BW G cA H0 lo aG aM aO bs (svOf ix bs) (β.1, μ1, β.2.2) H := hP
  refine lv_icmp_eq (tgt := 2386) hx hb dL_law_1396 (by decide) (fun _ => ?_) (fun c8 => absurd rfl c8)
  exact next (β.1, μ1, β.2.2) ix bs _ _ _ _ _ ⟨D, hI, hP, hT, hL⟩ (by omega) (by omega) (lv_sub hl [0, 1, 2, 3, 4, 5] rfl)
def Sim_ages (N : Nat) (Top Toq : TopT) : Prop := ∀ (γ : GLS) (μ : MdlS) (κ : Nat → CacS) (ix : Nat → Option Nat) (nb : Nat) (p0 : Int32), Top γ μ κ ix nb → ∃ (res : Nat ⊕ (Int32)) (b : Int32) (μ1 : MdlS), f_X8_ages N γ p0 = some res ∧ (∀ k, res = .inl k → k = 0) ∧ f_X9_ages N μ p0 = some (b, μ1) ∧ f_X9_thrown μ1 = some (wCode 0 res) ∧ (∀ k, res = .inl k → Toq γ μ1 κ ix nb) ∧ ∀ r, res = .inr r → b = r ∧ Toq γ μ1 κ ix nb
set_option maxHeartbeats 2000000 in
set_option maxRecDepth 100000 in
theorem w_law_ages {p : Program} {l : Launch} {e : Env} {s : State} {m : MethodId} {args : Array Value} {below : List Frame} {meth : Method} {c : Code} {G : va_G} {cA : Nat → ClassId} {H0 : Heap} {lo aG aM aO : Nat} {z : ZS} {Top Toq : TopT} {b L j N cells slots : Nat} {xs : Nat → Int32} {Q : State → Prop} (F : LwF l p s m args c G cA lo z b L xs) (hj : 6 * j + 5 < L) (hS : Sim_ages N Top Toq) {β : BigS} {ix : Nat → Option Nat} {bs : List Nat} {H : Heap} {locs : List Loc} {ls : Array Slot} (St : LwS G cA H0 lo aG aM aO Top β ix bs H locs) (hcs : cells ≤ 500000) (hss : slots ≤ 7000000) (hl : lv_has ls 10 [(5, .int (nI (6 * j))), (0, .ref b), (1, .ref aG), (2, .ref aM), (3, .ref aO), (4, .ref (aO + 1))]) (next : LwN p l e s m args below meth c G cA H0 lo aG aM aO Toq b j cells slots Q) : W p l e room_1 s m args below meth c H locs cells slots Q (F0 m 1401 ls []) := by
  obtain ⟨⟨hl0, hx, hb, hml, hown, hts⟩, hN, hZ, hX3, hX, hbl, hbo, hL3⟩ := id F
  have hK := hN.1
  obtain ⟨D, hI, hP, hT, hL⟩ := St
  obtain ⟨res, bb, μ1, h1, h2, h3, h4, h5, h6⟩ := hS β.1 β.2.1 β.2.2.2.2 ix bs.length (xs (6 * j + 1)) hT
  cases res with
  | inl k =>
    refine lv_aload_n hx hb dL_law_1401 rfl (lv_at hl 2 rfl) ?_
    refine lv_aload_n hx hb dL_law_1402 rfl (lv_at hl 1 rfl) ?_
    refine lv_iload hx hb dL_law_1403 (lv_at hl 0 rfl) ?_
    refine lv_iconst (v := 1) hx hb dL_law_1405 (by decide) ?_
    refine lv_iadd hx hb dL_law_1406 ?_
    rw [show nI (6 * j) + 1 = nI (6 * j + 1) from nI_add (6 * j) 1]
    refine lw_scr hx hb hX hbl hbo hL3 hL (by omega) dL_law_1407 ?_
    refine lv_aload_n hx hb dL_law_1408 rfl (lv_at hl 4 rfl) ?_
    refine wx_call (As := [.ref aG, .int (xs (6 * j + 1)), .ref aO]) (rest := []) ⟨hx, hb, hml, hown, hts⟩ (c_L_ages (G := G) (cA := cA) (H0 := H0) (sv := svOf ix bs) hl0 D h1 h2) (vx_cwSW 3 hts (gSWx mw_1060 mw_1061 mw_130 mw_1062) rfl rfl rfl hd_L_ages ⟨Nat.le_of_ble_eq_true rfl, Nat.le_of_ble_eq_true rfl⟩) hN hZ hX3 hP rfl hl.1 rfl (Nat.le_of_ble_eq_true rfl) dL_law_1409 ⟨by show cells + 1 ≤ 601024; omega, by show slots + 6 ≤ 7293034; omega⟩ hL (fun H locs hP hL => ?_)
    have hP : BW G cA H0 lo aG aM aO bs (svOf ix bs) β H := hP
    refine lv_istore (lv' := [(6, .int (wCode 0 (.inl k : Nat ⊕ (Int32)))), (5, .int (nI (6 * j))), (0, .ref b), (1, .ref aG), (2, .ref aM), (3, .ref aO), (4, .ref (aO + 1))]) hx hb dL_law_1412 hl (by decide) rfl (fun ls hl => ?_)
    refine lv_aload_n hx hb dL_law_1414 rfl (lv_at hl 4 rfl) ?_
    refine lv_aload_n hx hb dL_law_1415 rfl (lv_at hl 2 rfl) ?_
    refine lv_iload hx hb dL_law_1416 (lv_at hl 1 rfl) ?_
    refine lv_iconst (v := 1) hx hb dL_law_1418 (by decide) ?_
    refine lv_iadd hx hb dL_law_1419 ?_
    rw [show nI (6 * j) + 1 = nI (6 * j + 1) from nI_add (6 * j) 1]
    refine lw_scr hx hb hX hbl hbo hL3 hL (by omega) dL_law_1420 ?_
    refine cx_callV (As := [.int (xs (6 * j + 1))]) (rest := []) ⟨hx, hb, hml, hown, hts⟩ (c_X9_ages (BW_M (G := G) (cA := cA) (H0 := H0) (sv := (svOf ix bs)) D β) h3) (cwV 1 hts (gV mw_1071 mw_1072 mw_1073 mw_5 mw_1074) rfl rfl rfl hd_X9_ages ⟨Nat.le_of_ble_eq_true rfl, Nat.le_of_ble_eq_true rfl⟩) hK hP rfl (at_Model (BW_M (G := G) (cA := cA) (H0 := H0) (sv := (svOf ix bs)) D β) hP) rfl hl.1 rfl (Nat.le_of_ble_eq_true rfl) dL_law_1421 ⟨by show cells + 1 + 0 ≤ 601024; omega, by show slots + 6 + 0 ≤ 7293034; omega⟩ hL (fun H locs hP hL => ?_)
    have hP : BW G cA H0 lo aG aM aO bs (svOf ix bs) (β.1, μ1, β.2.2) H := hP
    refine lv_istore (lv' := [(7, .int bb), (6, .int (wCode 0 (.inl k : Nat ⊕ (Int32)))), (5, .int (nI (6 * j))), (0, .ref b), (1, .ref aG), (2, .ref aM), (3, .ref aO), (4, .ref (aO + 1))]) hx hb dL_law_1424 hl (by decide) rfl (fun ls hl => ?_)
    refine lv_aload_n hx hb dL_law_1426 rfl (lv_at hl 5 rfl) ?_
    refine cx_callV (As := []) (rest := []) ⟨hx, hb, hml, hown, hts⟩ (c_X9_thrown (BW_M (G := G) (cA := cA) (H0 := H0) (sv := (svOf ix bs)) D (β.1, μ1, β.2.2)) h4) (cwV 0 hts (gV mw_155 mw_156 mw_157 mw_5 mw_158) rfl rfl rfl hd_X9_thrown ⟨Nat.le_of_ble_eq_true rfl, Nat.le_of_ble_eq_true rfl⟩) hK hP rfl (at_Model (BW_M (G := G) (cA := cA) (H0 := H0) (sv := (svOf ix bs)) D (β.1, μ1, β.2.2)) hP) rfl hl.1 rfl (Nat.le_of_ble_eq_true rfl) dL_law_1427 ⟨by show cells + 1 + 0 + 0 ≤ 601024; omega, by show slots + 6 + 0 + 0 ≤ 7293034; omega⟩ hL (fun H locs hP hL => ?_)
    refine lv_iload hx hb dL_law_1430 (lv_at hl 1 rfl) ?_
    refine lv_icmp_eq (tgt := 1437) hx hb dL_law_1432 (by decide) (fun _ => ?_) (fun c8 => absurd rfl c8)
    refine lv_iload hx hb dL_law_1437 (lv_at hl 1 rfl) ?_
    refine lv_if_ne (tgt := 1454) hx hb dL_law_1439 (by decide) (fun _ => ?_) (fun c8 => absurd c8 wCode_ne)
    refine lv_goto (tgt := 2386) hx hb dL_law_1454 (by decide) ?_
    exact next (β.1, μ1, β.2.2) ix bs _ _ _ _ _ ⟨D, hI, hP, (h5 k rfl), hL⟩ (by omega) (by omega) (lv_sub hl [2, 3, 4, 5, 6, 7] rfl)
  | inr r =>
    obtain ⟨hbb, h7⟩ := h6 r rfl
    replace hbb := hbb.symm
    subst hbb
    refine lv_aload_n hx hb dL_law_1401 rfl (lv_at hl 2 rfl) ?_
    refine lv_aload_n hx hb dL_law_1402 rfl (lv_at hl 1 rfl) ?_
    refine lv_iload hx hb dL_law_1403 (lv_at hl 0 rfl) ?_
    refine lv_iconst (v := 1) hx hb dL_law_1405 (by decide) ?_
    refine lv_iadd hx hb dL_law_1406 ?_
    rw [show nI (6 * j) + 1 = nI (6 * j + 1) from nI_add (6 * j) 1]
    refine lw_scr hx hb hX hbl hbo hL3 hL (by omega) dL_law_1407 ?_
    refine lv_aload_n hx hb dL_law_1408 rfl (lv_at hl 4 rfl) ?_
    refine wx_call (As := [.ref aG, .int (xs (6 * j + 1)), .ref aO]) (rest := []) ⟨hx, hb, hml, hown, hts⟩ (c_L_ages (G := G) (cA := cA) (H0 := H0) (sv := svOf ix bs) hl0 D h1 h2) (vx_cwSW 3 hts (gSWx mw_1060 mw_1061 mw_130 mw_1062) rfl rfl rfl hd_L_ages ⟨Nat.le_of_ble_eq_true rfl, Nat.le_of_ble_eq_true rfl⟩) hN hZ hX3 hP rfl hl.1 rfl (Nat.le_of_ble_eq_true rfl) dL_law_1409 ⟨by show cells + 1 ≤ 601024; omega, by show slots + 6 ≤ 7293034; omega⟩ hL (fun H locs hP hL => ?_)
    have hP : BW G cA H0 lo aG aM aO bs (svOf ix bs) (β.1, β.2.1, oUp β.2.2.1 (Int32.toInt64 r), β.2.2.2) H := hP
    refine lv_istore (lv' := [(6, .int 0), (5, .int (nI (6 * j))), (0, .ref b), (1, .ref aG), (2, .ref aM), (3, .ref aO), (4, .ref (aO + 1))]) hx hb dL_law_1412 hl (by decide) rfl (fun ls hl => ?_)
    refine lv_aload_n hx hb dL_law_1414 rfl (lv_at hl 4 rfl) ?_
    refine lv_aload_n hx hb dL_law_1415 rfl (lv_at hl 2 rfl) ?_
    refine lv_iload hx hb dL_law_1416 (lv_at hl 1 rfl) ?_
    refine lv_iconst (v := 1) hx hb dL_law_1418 (by decide) ?_
    refine lv_iadd hx hb dL_law_1419 ?_
    rw [show nI (6 * j) + 1 = nI (6 * j + 1) from nI_add (6 * j) 1]
    refine lw_scr hx hb hX hbl hbo hL3 hL (by omega) dL_law_1420 ?_
    refine cx_callV (As := [.int (xs (6 * j + 1))]) (rest := []) ⟨hx, hb, hml, hown, hts⟩ (c_X9_ages (BW_M (G := G) (cA := cA) (H0 := H0) (sv := (svOf ix bs)) D (β.1, β.2.1, oUp β.2.2.1 (Int32.toInt64 r), β.2.2.2)) h3) (cwV 1 hts (gV mw_1071 mw_1072 mw_1073 mw_5 mw_1074) rfl rfl rfl hd_X9_ages ⟨Nat.le_of_ble_eq_true rfl, Nat.le_of_ble_eq_true rfl⟩) hK hP rfl (at_Model (BW_M (G := G) (cA := cA) (H0 := H0) (sv := (svOf ix bs)) D (β.1, β.2.1, oUp β.2.2.1 (Int32.toInt64 r), β.2.2.2)) hP) rfl hl.1 rfl (Nat.le_of_ble_eq_true rfl) dL_law_1421 ⟨by show cells + 1 + 0 ≤ 601024; omega, by show slots + 6 + 0 ≤ 7293034; omega⟩ hL (fun H locs hP hL => ?_)
    have hP : BW G cA H0 lo aG aM aO bs (svOf ix bs) (β.1, μ1, oUp β.2.2.1 (Int32.toInt64 r), β.2.2.2) H := hP
    refine lv_istore (lv' := [(7, .int r), (6, .int 0), (5, .int (nI (6 * j))), (0, .ref b), (1, .ref aG), (2, .ref aM), (3, .ref aO), (4, .ref (aO + 1))]) hx hb dL_law_1424 hl (by decide) rfl (fun ls hl => ?_)
    refine lv_aload_n hx hb dL_law_1426 rfl (lv_at hl 5 rfl) ?_
    refine cx_callV (As := []) (rest := []) ⟨hx, hb, hml, hown, hts⟩ (c_X9_thrown (BW_M (G := G) (cA := cA) (H0 := H0) (sv := (svOf ix bs)) D (β.1, μ1, oUp β.2.2.1 (Int32.toInt64 r), β.2.2.2)) h4) (cwV 0 hts (gV mw_155 mw_156 mw_157 mw_5 mw_158) rfl rfl rfl hd_X9_thrown ⟨Nat.le_of_ble_eq_true rfl, Nat.le_of_ble_eq_true rfl⟩) hK hP rfl (at_Model (BW_M (G := G) (cA := cA) (H0 := H0) (sv := (svOf ix bs)) D (β.1, μ1, oUp β.2.2.1 (Int32.toInt64 r), β.2.2.2)) hP) rfl hl.1 rfl (Nat.le_of_ble_eq_true rfl) dL_law_1427 ⟨by show cells + 1 + 0 + 0 ≤ 601024; omega, by show slots + 6 + 0 + 0 ≤ 7293034; omega⟩ hL (fun H locs hP hL => ?_)
    refine lv_iload hx hb dL_law_1430 (lv_at hl 1 rfl) ?_
    refine lv_icmp_eq (tgt := 1437) hx hb dL_law_1432 (by decide) (fun _ => ?_) (fun c8 => absurd rfl c8)
    refine lv_iload hx hb dL_law_1437 (lv_at hl 1 rfl) ?_
    refine lv_if_ne (tgt := 1454) hx hb dL_law_1439 (by decide) (fun c8 => absurd rfl c8) (fun _ => ?_)
    refine lv_aload_n hx hb dL_law_1442 rfl (lv_at hl 6 rfl) ?_
    refine lv_iconst (v := 0) hx hb dL_law_1443 (by decide) ?_
    refine va_lald hx hb hK (cx_one ((BW_O (G := G) (cA := cA) (H0 := H0) (sv := (svOf ix bs)) D (β.1, μ1, oUp β.2.2.1 (Int32.toInt64 r), β.2.2.2)).1 _ H hP 0 (by decide))) 0 2 rfl rfl (nI_in (c := 0) (N := 1) (by decide) (by decide)) dL_law_1444 ?_
    rw [oUp_0]
    refine lv_iload hx hb dL_law_1445 (lv_at hl 0 rfl) ?_
    refine lv_i2l hx hb dL_law_1447 rfl ?_
    refine cx_lceq (tgt := 1454) hx hb dL_law_1448 dL_law_1449 (by decide) (fun _ => ?_) (fun c8 => absurd rfl c8)
    refine lv_goto (tgt := 2386) hx hb dL_law_1454 (by decide) ?_
    exact next (β.1, μ1, oUp β.2.2.1 (Int32.toInt64 r), β.2.2.2) ix bs _ _ _ _ _ ⟨D, hI, hP, h7, hL⟩ (by omega) (by omega) (lv_sub hl [2, 3, 4, 5, 6, 7] rfl)
def Sim_ownedAt (N : Nat) (Top Toq : TopT) : Prop := ∀ (γ : GLS) (μ : MdlS) (κ : Nat → CacS) (ix : Nat → Option Nat) (nb : Nat) (p0 : Int32) (p1 : Int32) (p2 : Int32), Top γ μ κ ix nb → ∃ (res : Nat ⊕ (Int32)) (b : Int32) (μ1 : MdlS), f_X8_ownedAt N γ p0 p1 p2 = some res ∧ (∀ k, res = .inl k → k = 0) ∧ f_X9_ownedAt N μ p0 p1 p2 = some (b, μ1) ∧ f_X9_thrown μ1 = some (wCode 0 res) ∧ (∀ k, res = .inl k → Toq γ μ1 κ ix nb) ∧ ∀ r, res = .inr r → b = r ∧ Toq γ μ1 κ ix nb
set_option maxHeartbeats 2000000 in
set_option maxRecDepth 100000 in
theorem w_law_ownedAt {p : Program} {l : Launch} {e : Env} {s : State} {m : MethodId} {args : Array Value} {below : List Frame} {meth : Method} {c : Code} {G : va_G} {cA : Nat → ClassId} {H0 : Heap} {lo aG aM aO : Nat} {z : ZS} {Top Toq : TopT} {b L j N cells slots : Nat} {xs : Nat → Int32} {Q : State → Prop} (F : LwF l p s m args c G cA lo z b L xs) (hj : 6 * j + 5 < L) (hS : Sim_ownedAt N Top Toq) {β : BigS} {ix : Nat → Option Nat} {bs : List Nat} {H : Heap} {locs : List Loc} {ls : Array Slot} (St : LwS G cA H0 lo aG aM aO Top β ix bs H locs) (hcs : cells ≤ 500000) (hss : slots ≤ 7000000) (hl : lv_has ls 10 [(5, .int (nI (6 * j))), (0, .ref b), (1, .ref aG), (2, .ref aM), (3, .ref aO), (4, .ref (aO + 1))]) (next : LwN p l e s m args below meth c G cA H0 lo aG aM aO Toq b j cells slots Q) : W p l e room_1 s m args below meth c H locs cells slots Q (F0 m 1457 ls []) := by
  obtain ⟨⟨hl0, hx, hb, hml, hown, hts⟩, hN, hZ, hX3, hX, hbl, hbo, hL3⟩ := id F
  have hK := hN.1
  obtain ⟨D, hI, hP, hT, hL⟩ := St
  obtain ⟨res, bb, μ1, h1, h2, h3, h4, h5, h6⟩ := hS β.1 β.2.1 β.2.2.2.2 ix bs.length (xs (6 * j + 1)) (xs (6 * j + 2)) (xs (6 * j + 3)) hT
  cases res with
  | inl k =>
    refine lv_aload_n hx hb dL_law_1457 rfl (lv_at hl 2 rfl) ?_
    refine lv_aload_n hx hb dL_law_1458 rfl (lv_at hl 1 rfl) ?_
    refine lv_iload hx hb dL_law_1459 (lv_at hl 0 rfl) ?_
    refine lv_iconst (v := 1) hx hb dL_law_1461 (by decide) ?_
    refine lv_iadd hx hb dL_law_1462 ?_
    rw [show nI (6 * j) + 1 = nI (6 * j + 1) from nI_add (6 * j) 1]
    refine lw_scr hx hb hX hbl hbo hL3 hL (by omega) dL_law_1463 ?_
    refine lv_aload_n hx hb dL_law_1464 rfl (lv_at hl 1 rfl) ?_
    refine lv_iload hx hb dL_law_1465 (lv_at hl 0 rfl) ?_
    refine lv_iconst (v := 2) hx hb dL_law_1467 (by decide) ?_
    refine lv_iadd hx hb dL_law_1468 ?_
    rw [show nI (6 * j) + 2 = nI (6 * j + 2) from nI_add (6 * j) 2]
    refine lw_scr hx hb hX hbl hbo hL3 hL (by omega) dL_law_1469 ?_
    refine lv_aload_n hx hb dL_law_1470 rfl (lv_at hl 1 rfl) ?_
    refine lv_iload hx hb dL_law_1471 (lv_at hl 0 rfl) ?_
    refine lv_iconst (v := 3) hx hb dL_law_1473 (by decide) ?_
    refine lv_iadd hx hb dL_law_1474 ?_
    rw [show nI (6 * j) + 3 = nI (6 * j + 3) from nI_add (6 * j) 3]
    refine lw_scr hx hb hX hbl hbo hL3 hL (by omega) dL_law_1475 ?_
    refine lv_aload_n hx hb dL_law_1476 rfl (lv_at hl 4 rfl) ?_
    refine wx_call (As := [.ref aG, .int (xs (6 * j + 1)), .int (xs (6 * j + 2)), .int (xs (6 * j + 3)), .ref aO]) (rest := []) ⟨hx, hb, hml, hown, hts⟩ (c_L_ownedAt (G := G) (cA := cA) (H0 := H0) (sv := svOf ix bs) hl0 D h1 h2) (vx_cwSW 5 hts (gSWx mw_1075 mw_1076 mw_130 mw_1077) rfl rfl rfl hd_L_ownedAt ⟨Nat.le_of_ble_eq_true rfl, Nat.le_of_ble_eq_true rfl⟩) hN hZ hX3 hP rfl hl.1 rfl (Nat.le_of_ble_eq_true rfl) dL_law_1477 ⟨by show cells + 3 ≤ 601024; omega, by show slots + 18 ≤ 7293034; omega⟩ hL (fun H locs hP hL => ?_)
    have hP : BW G cA H0 lo aG aM aO bs (svOf ix bs) β H := hP
    refine lv_istore (lv' := [(6, .int (wCode 0 (.inl k : Nat ⊕ (Int32)))), (5, .int (nI (6 * j))), (0, .ref b), (1, .ref aG), (2, .ref aM), (3, .ref aO), (4, .ref (aO + 1))]) hx hb dL_law_1480 hl (by decide) rfl (fun ls hl => ?_)
    refine lv_aload_n hx hb dL_law_1482 rfl (lv_at hl 4 rfl) ?_
    refine lv_aload_n hx hb dL_law_1483 rfl (lv_at hl 2 rfl) ?_
    refine lv_iload hx hb dL_law_1484 (lv_at hl 1 rfl) ?_
    refine lv_iconst (v := 1) hx hb dL_law_1486 (by decide) ?_
    refine lv_iadd hx hb dL_law_1487 ?_
    rw [show nI (6 * j) + 1 = nI (6 * j + 1) from nI_add (6 * j) 1]
    refine lw_scr hx hb hX hbl hbo hL3 hL (by omega) dL_law_1488 ?_
    refine lv_aload_n hx hb dL_law_1489 rfl (lv_at hl 2 rfl) ?_
    refine lv_iload hx hb dL_law_1490 (lv_at hl 1 rfl) ?_
    refine lv_iconst (v := 2) hx hb dL_law_1492 (by decide) ?_
    refine lv_iadd hx hb dL_law_1493 ?_
    rw [show nI (6 * j) + 2 = nI (6 * j + 2) from nI_add (6 * j) 2]
    refine lw_scr hx hb hX hbl hbo hL3 hL (by omega) dL_law_1494 ?_
    refine lv_aload_n hx hb dL_law_1495 rfl (lv_at hl 2 rfl) ?_
    refine lv_iload hx hb dL_law_1496 (lv_at hl 1 rfl) ?_
    refine lv_iconst (v := 3) hx hb dL_law_1498 (by decide) ?_
    refine lv_iadd hx hb dL_law_1499 ?_
    rw [show nI (6 * j) + 3 = nI (6 * j + 3) from nI_add (6 * j) 3]
    refine lw_scr hx hb hX hbl hbo hL3 hL (by omega) dL_law_1500 ?_
    refine cx_callV (As := [.int (xs (6 * j + 1)), .int (xs (6 * j + 2)), .int (xs (6 * j + 3))]) (rest := []) ⟨hx, hb, hml, hown, hts⟩ (c_X9_ownedAt (BW_M (G := G) (cA := cA) (H0 := H0) (sv := (svOf ix bs)) D β) h3) (cwV 3 hts (gV mw_1086 mw_1087 mw_1088 mw_5 mw_1089) rfl rfl rfl hd_X9_ownedAt ⟨Nat.le_of_ble_eq_true rfl, Nat.le_of_ble_eq_true rfl⟩) hK hP rfl (at_Model (BW_M (G := G) (cA := cA) (H0 := H0) (sv := (svOf ix bs)) D β) hP) rfl hl.1 rfl (Nat.le_of_ble_eq_true rfl) dL_law_1501 ⟨by show cells + 3 + 0 ≤ 601024; omega, by show slots + 18 + 0 ≤ 7293034; omega⟩ hL (fun H locs hP hL => ?_)
    have hP : BW G cA H0 lo aG aM aO bs (svOf ix bs) (β.1, μ1, β.2.2) H := hP
    refine lv_istore (lv' := [(7, .int bb), (6, .int (wCode 0 (.inl k : Nat ⊕ (Int32)))), (5, .int (nI (6 * j))), (0, .ref b), (1, .ref aG), (2, .ref aM), (3, .ref aO), (4, .ref (aO + 1))]) hx hb dL_law_1504 hl (by decide) rfl (fun ls hl => ?_)
    refine lv_aload_n hx hb dL_law_1506 rfl (lv_at hl 5 rfl) ?_
    refine cx_callV (As := []) (rest := []) ⟨hx, hb, hml, hown, hts⟩ (c_X9_thrown (BW_M (G := G) (cA := cA) (H0 := H0) (sv := (svOf ix bs)) D (β.1, μ1, β.2.2)) h4) (cwV 0 hts (gV mw_155 mw_156 mw_157 mw_5 mw_158) rfl rfl rfl hd_X9_thrown ⟨Nat.le_of_ble_eq_true rfl, Nat.le_of_ble_eq_true rfl⟩) hK hP rfl (at_Model (BW_M (G := G) (cA := cA) (H0 := H0) (sv := (svOf ix bs)) D (β.1, μ1, β.2.2)) hP) rfl hl.1 rfl (Nat.le_of_ble_eq_true rfl) dL_law_1507 ⟨by show cells + 3 + 0 + 0 ≤ 601024; omega, by show slots + 18 + 0 + 0 ≤ 7293034; omega⟩ hL (fun H locs hP hL => ?_)
    refine lv_iload hx hb dL_law_1510 (lv_at hl 1 rfl) ?_
    refine lv_icmp_eq (tgt := 1517) hx hb dL_law_1512 (by decide) (fun _ => ?_) (fun c8 => absurd rfl c8)
    refine lv_iload hx hb dL_law_1517 (lv_at hl 1 rfl) ?_
    refine lv_if_ne (tgt := 1534) hx hb dL_law_1519 (by decide) (fun _ => ?_) (fun c8 => absurd c8 wCode_ne)
    refine lv_goto (tgt := 2386) hx hb dL_law_1534 (by decide) ?_
    exact next (β.1, μ1, β.2.2) ix bs _ _ _ _ _ ⟨D, hI, hP, (h5 k rfl), hL⟩ (by omega) (by omega) (lv_sub hl [2, 3, 4, 5, 6, 7] rfl)
  | inr r =>
    obtain ⟨hbb, h7⟩ := h6 r rfl
    replace hbb := hbb.symm
    subst hbb
    refine lv_aload_n hx hb dL_law_1457 rfl (lv_at hl 2 rfl) ?_
    refine lv_aload_n hx hb dL_law_1458 rfl (lv_at hl 1 rfl) ?_
    refine lv_iload hx hb dL_law_1459 (lv_at hl 0 rfl) ?_
    refine lv_iconst (v := 1) hx hb dL_law_1461 (by decide) ?_
    refine lv_iadd hx hb dL_law_1462 ?_
    rw [show nI (6 * j) + 1 = nI (6 * j + 1) from nI_add (6 * j) 1]
    refine lw_scr hx hb hX hbl hbo hL3 hL (by omega) dL_law_1463 ?_
    refine lv_aload_n hx hb dL_law_1464 rfl (lv_at hl 1 rfl) ?_
    refine lv_iload hx hb dL_law_1465 (lv_at hl 0 rfl) ?_
    refine lv_iconst (v := 2) hx hb dL_law_1467 (by decide) ?_
    refine lv_iadd hx hb dL_law_1468 ?_
    rw [show nI (6 * j) + 2 = nI (6 * j + 2) from nI_add (6 * j) 2]
    refine lw_scr hx hb hX hbl hbo hL3 hL (by omega) dL_law_1469 ?_
    refine lv_aload_n hx hb dL_law_1470 rfl (lv_at hl 1 rfl) ?_
    refine lv_iload hx hb dL_law_1471 (lv_at hl 0 rfl) ?_
    refine lv_iconst (v := 3) hx hb dL_law_1473 (by decide) ?_
    refine lv_iadd hx hb dL_law_1474 ?_
    rw [show nI (6 * j) + 3 = nI (6 * j + 3) from nI_add (6 * j) 3]
    refine lw_scr hx hb hX hbl hbo hL3 hL (by omega) dL_law_1475 ?_
    refine lv_aload_n hx hb dL_law_1476 rfl (lv_at hl 4 rfl) ?_
    refine wx_call (As := [.ref aG, .int (xs (6 * j + 1)), .int (xs (6 * j + 2)), .int (xs (6 * j + 3)), .ref aO]) (rest := []) ⟨hx, hb, hml, hown, hts⟩ (c_L_ownedAt (G := G) (cA := cA) (H0 := H0) (sv := svOf ix bs) hl0 D h1 h2) (vx_cwSW 5 hts (gSWx mw_1075 mw_1076 mw_130 mw_1077) rfl rfl rfl hd_L_ownedAt ⟨Nat.le_of_ble_eq_true rfl, Nat.le_of_ble_eq_true rfl⟩) hN hZ hX3 hP rfl hl.1 rfl (Nat.le_of_ble_eq_true rfl) dL_law_1477 ⟨by show cells + 3 ≤ 601024; omega, by show slots + 18 ≤ 7293034; omega⟩ hL (fun H locs hP hL => ?_)
    have hP : BW G cA H0 lo aG aM aO bs (svOf ix bs) (β.1, β.2.1, oUp β.2.2.1 (Int32.toInt64 r), β.2.2.2) H := hP
    refine lv_istore (lv' := [(6, .int 0), (5, .int (nI (6 * j))), (0, .ref b), (1, .ref aG), (2, .ref aM), (3, .ref aO), (4, .ref (aO + 1))]) hx hb dL_law_1480 hl (by decide) rfl (fun ls hl => ?_)
    refine lv_aload_n hx hb dL_law_1482 rfl (lv_at hl 4 rfl) ?_
    refine lv_aload_n hx hb dL_law_1483 rfl (lv_at hl 2 rfl) ?_
    refine lv_iload hx hb dL_law_1484 (lv_at hl 1 rfl) ?_
    refine lv_iconst (v := 1) hx hb dL_law_1486 (by decide) ?_
    refine lv_iadd hx hb dL_law_1487 ?_
    rw [show nI (6 * j) + 1 = nI (6 * j + 1) from nI_add (6 * j) 1]
    refine lw_scr hx hb hX hbl hbo hL3 hL (by omega) dL_law_1488 ?_
    refine lv_aload_n hx hb dL_law_1489 rfl (lv_at hl 2 rfl) ?_
    refine lv_iload hx hb dL_law_1490 (lv_at hl 1 rfl) ?_
    refine lv_iconst (v := 2) hx hb dL_law_1492 (by decide) ?_
    refine lv_iadd hx hb dL_law_1493 ?_
    rw [show nI (6 * j) + 2 = nI (6 * j + 2) from nI_add (6 * j) 2]
    refine lw_scr hx hb hX hbl hbo hL3 hL (by omega) dL_law_1494 ?_
    refine lv_aload_n hx hb dL_law_1495 rfl (lv_at hl 2 rfl) ?_
    refine lv_iload hx hb dL_law_1496 (lv_at hl 1 rfl) ?_
    refine lv_iconst (v := 3) hx hb dL_law_1498 (by decide) ?_
    refine lv_iadd hx hb dL_law_1499 ?_
    rw [show nI (6 * j) + 3 = nI (6 * j + 3) from nI_add (6 * j) 3]
    refine lw_scr hx hb hX hbl hbo hL3 hL (by omega) dL_law_1500 ?_
    refine cx_callV (As := [.int (xs (6 * j + 1)), .int (xs (6 * j + 2)), .int (xs (6 * j + 3))]) (rest := []) ⟨hx, hb, hml, hown, hts⟩ (c_X9_ownedAt (BW_M (G := G) (cA := cA) (H0 := H0) (sv := (svOf ix bs)) D (β.1, β.2.1, oUp β.2.2.1 (Int32.toInt64 r), β.2.2.2)) h3) (cwV 3 hts (gV mw_1086 mw_1087 mw_1088 mw_5 mw_1089) rfl rfl rfl hd_X9_ownedAt ⟨Nat.le_of_ble_eq_true rfl, Nat.le_of_ble_eq_true rfl⟩) hK hP rfl (at_Model (BW_M (G := G) (cA := cA) (H0 := H0) (sv := (svOf ix bs)) D (β.1, β.2.1, oUp β.2.2.1 (Int32.toInt64 r), β.2.2.2)) hP) rfl hl.1 rfl (Nat.le_of_ble_eq_true rfl) dL_law_1501 ⟨by show cells + 3 + 0 ≤ 601024; omega, by show slots + 18 + 0 ≤ 7293034; omega⟩ hL (fun H locs hP hL => ?_)
    have hP : BW G cA H0 lo aG aM aO bs (svOf ix bs) (β.1, μ1, oUp β.2.2.1 (Int32.toInt64 r), β.2.2.2) H := hP
    refine lv_istore (lv' := [(7, .int r), (6, .int 0), (5, .int (nI (6 * j))), (0, .ref b), (1, .ref aG), (2, .ref aM), (3, .ref aO), (4, .ref (aO + 1))]) hx hb dL_law_1504 hl (by decide) rfl (fun ls hl => ?_)
    refine lv_aload_n hx hb dL_law_1506 rfl (lv_at hl 5 rfl) ?_
    refine cx_callV (As := []) (rest := []) ⟨hx, hb, hml, hown, hts⟩ (c_X9_thrown (BW_M (G := G) (cA := cA) (H0 := H0) (sv := (svOf ix bs)) D (β.1, μ1, oUp β.2.2.1 (Int32.toInt64 r), β.2.2.2)) h4) (cwV 0 hts (gV mw_155 mw_156 mw_157 mw_5 mw_158) rfl rfl rfl hd_X9_thrown ⟨Nat.le_of_ble_eq_true rfl, Nat.le_of_ble_eq_true rfl⟩) hK hP rfl (at_Model (BW_M (G := G) (cA := cA) (H0 := H0) (sv := (svOf ix bs)) D (β.1, μ1, oUp β.2.2.1 (Int32.toInt64 r), β.2.2.2)) hP) rfl hl.1 rfl (Nat.le_of_ble_eq_true rfl) dL_law_1507 ⟨by show cells + 3 + 0 + 0 ≤ 601024; omega, by show slots + 18 + 0 + 0 ≤ 7293034; omega⟩ hL (fun H locs hP hL => ?_)
    refine lv_iload hx hb dL_law_1510 (lv_at hl 1 rfl) ?_
    refine lv_icmp_eq (tgt := 1517) hx hb dL_law_1512 (by decide) (fun _ => ?_) (fun c8 => absurd rfl c8)
    refine lv_iload hx hb dL_law_1517 (lv_at hl 1 rfl) ?_
    refine lv_if_ne (tgt := 1534) hx hb dL_law_1519 (by decide) (fun c8 => absurd rfl c8) (fun _ => ?_)
    refine lv_aload_n hx hb dL_law_1522 rfl (lv_at hl 6 rfl) ?_
    refine lv_iconst (v := 0) hx hb dL_law_1523 (by decide) ?_
    refine va_lald hx hb hK (cx_one ((BW_O (G := G) (cA := cA) (H0 := H0) (sv := (svOf ix bs)) D (β.1, μ1, oUp β.2.2.1 (Int32.toInt64 r), β.2.2.2)).1 _ H hP 0 (by decide))) 0 2 rfl rfl (nI_in (c := 0) (N := 1) (by decide) (by decide)) dL_law_1524 ?_
    rw [oUp_0]
    refine lv_iload hx hb dL_law_1525 (lv_at hl 0 rfl) ?_
    refine lv_i2l hx hb dL_law_1527 rfl ?_
    refine cx_lceq (tgt := 1534) hx hb dL_law_1528 dL_law_1529 (by decide) (fun _ => ?_) (fun c8 => absurd rfl c8)
    refine lv_goto (tgt := 2386) hx hb dL_law_1534 (by decide) ?_
    exact next (β.1, μ1, oUp β.2.2.1 (Int32.toInt64 r), β.2.2.2) ix bs _ _ _ _ _ ⟨D, hI, hP, h7, hL⟩ (by omega) (by omega) (lv_sub hl [2, 3, 4, 5, 6, 7] rfl)
def Sim_excess (N : Nat) (Top Toq : TopT) : Prop := ∀ (γ : GLS) (μ : MdlS) (κ : Nat → CacS) (ix : Nat → Option Nat) (nb : Nat) (p0 : Int32), Top γ μ κ ix nb → ∃ (res : Nat ⊕ (UInt32)) (b : UInt32) (μ1 : MdlS), f_X8_excess N γ p0 = some res ∧ (∀ k, res = .inl k → k = 0) ∧ f_X9_excess N μ p0 = some (b, μ1) ∧ f_X9_thrown μ1 = some (wCode 0 res) ∧ (∀ k, res = .inl k → Toq γ μ1 κ ix nb) ∧ ∀ r, res = .inr r → b = r ∧ Toq γ μ1 κ ix nb ∧ vf_n64 (FP.f2d r) ∧ Op.cmpValue (FP.dcmp (FP.f2d r) (FP.f2d r)) CmpOp.l = 0
set_option maxHeartbeats 2000000 in
set_option maxRecDepth 100000 in
theorem w_law_excess {p : Program} {l : Launch} {e : Env} {s : State} {m : MethodId} {args : Array Value} {below : List Frame} {meth : Method} {c : Code} {G : va_G} {cA : Nat → ClassId} {H0 : Heap} {lo aG aM aO : Nat} {z : ZS} {Top Toq : TopT} {b L j N cells slots : Nat} {xs : Nat → Int32} {Q : State → Prop} (F : LwF l p s m args c G cA lo z b L xs) (hj : 6 * j + 5 < L) (hS : Sim_excess N Top Toq) {β : BigS} {ix : Nat → Option Nat} {bs : List Nat} {H : Heap} {locs : List Loc} {ls : Array Slot} (St : LwS G cA H0 lo aG aM aO Top β ix bs H locs) (hcs : cells ≤ 500000) (hss : slots ≤ 7000000) (hl : lv_has ls 10 [(5, .int (nI (6 * j))), (0, .ref b), (1, .ref aG), (2, .ref aM), (3, .ref aO), (4, .ref (aO + 1))]) (next : LwN p l e s m args below meth c G cA H0 lo aG aM aO Toq b j cells slots Q) : W p l e room_1 s m args below meth c H locs cells slots Q (F0 m 1537 ls []) := by
  obtain ⟨⟨hl0, hx, hb, hml, hown, hts⟩, hN, hZ, hX3, hX, hbl, hbo, hL3⟩ := id F
  have hK := hN.1
  obtain ⟨D, hI, hP, hT, hL⟩ := St
  obtain ⟨res, bb, μ1, h1, h2, h3, h4, h5, h6⟩ := hS β.1 β.2.1 β.2.2.2.2 ix bs.length (xs (6 * j + 1)) hT
  have hnn : ∀ r, res = .inr r → vf_n64 (FP.f2d r) := fun r h => (h6 r h).2.2.1
  cases res with
  | inl k =>
    refine lv_aload_n hx hb dL_law_1537 rfl (lv_at hl 2 rfl) ?_
    refine lv_aload_n hx hb dL_law_1538 rfl (lv_at hl 1 rfl) ?_
    refine lv_iload hx hb dL_law_1539 (lv_at hl 0 rfl) ?_
    refine lv_iconst (v := 1) hx hb dL_law_1541 (by decide) ?_
    refine lv_iadd hx hb dL_law_1542 ?_
    rw [show nI (6 * j) + 1 = nI (6 * j + 1) from nI_add (6 * j) 1]
    refine lw_scr hx hb hX hbl hbo hL3 hL (by omega) dL_law_1543 ?_
    refine lv_aload hx hb dL_law_1544 (lv_at hl 5 rfl) ?_
    refine wx_call (As := [.ref aG, .int (xs (6 * j + 1)), .ref (aO + 1)]) (rest := []) ⟨hx, hb, hml, hown, hts⟩ (c_L_excess (G := G) (cA := cA) (H0 := H0) (sv := svOf ix bs) hl0 D h1 h2 hnn) (vx_cwSW 3 hts (gSWx mw_1090 mw_1091 mw_130 mw_1092) rfl rfl rfl hd_L_excess ⟨Nat.le_of_ble_eq_true rfl, Nat.le_of_ble_eq_true rfl⟩) hN hZ hX3 hP rfl hl.1 rfl (Nat.le_of_ble_eq_true rfl) dL_law_1546 ⟨by show cells + 1 ≤ 601024; omega, by show slots + 6 ≤ 7293034; omega⟩ hL (fun H locs hP hL => ?_)
    have hP : BW G cA H0 lo aG aM aO bs (svOf ix bs) β H := hP
    refine lv_istore (lv' := [(6, .int (wCode 0 (.inl k : Nat ⊕ (UInt32)))), (5, .int (nI (6 * j))), (0, .ref b), (1, .ref aG), (2, .ref aM), (3, .ref aO), (4, .ref (aO + 1))]) hx hb dL_law_1549 hl (by decide) rfl (fun ls hl => ?_)
    refine lv_aload_n hx hb dL_law_1551 rfl (lv_at hl 4 rfl) ?_
    refine lv_aload_n hx hb dL_law_1552 rfl (lv_at hl 2 rfl) ?_
    refine lv_iload hx hb dL_law_1553 (lv_at hl 1 rfl) ?_
    refine lv_iconst (v := 1) hx hb dL_law_1555 (by decide) ?_
    refine lv_iadd hx hb dL_law_1556 ?_
    rw [show nI (6 * j) + 1 = nI (6 * j + 1) from nI_add (6 * j) 1]
    refine lw_scr hx hb hX hbl hbo hL3 hL (by omega) dL_law_1557 ?_
    refine cx_callV (As := [.int (xs (6 * j + 1))]) (rest := []) ⟨hx, hb, hml, hown, hts⟩ (c_X9_excess (BW_M (G := G) (cA := cA) (H0 := H0) (sv := (svOf ix bs)) D β) h3) (cwV 1 hts (gV mw_1099 mw_1100 mw_1101 mw_5 mw_1102) rfl rfl rfl hd_X9_excess ⟨Nat.le_of_ble_eq_true rfl, Nat.le_of_ble_eq_true rfl⟩) hK hP rfl (at_Model (BW_M (G := G) (cA := cA) (H0 := H0) (sv := (svOf ix bs)) D β) hP) rfl hl.1 rfl (Nat.le_of_ble_eq_true rfl) dL_law_1558 ⟨by show cells + 1 + 0 ≤ 601024; omega, by show slots + 6 + 0 ≤ 7293034; omega⟩ hL (fun H locs hP hL => ?_)
    have hP : BW G cA H0 lo aG aM aO bs (svOf ix bs) (β.1, μ1, β.2.2) H := hP
    refine lv_fstore (lv' := [(7, .float bb), (6, .int (wCode 0 (.inl k : Nat ⊕ (UInt32)))), (5, .int (nI (6 * j))), (0, .ref b), (1, .ref aG), (2, .ref aM), (3, .ref aO), (4, .ref (aO + 1))]) hx hb dL_law_1561 hl (by decide) rfl (fun ls hl => ?_)
    refine lv_aload_n hx hb dL_law_1563 rfl (lv_at hl 5 rfl) ?_
    refine cx_callV (As := []) (rest := []) ⟨hx, hb, hml, hown, hts⟩ (c_X9_thrown (BW_M (G := G) (cA := cA) (H0 := H0) (sv := (svOf ix bs)) D (β.1, μ1, β.2.2)) h4) (cwV 0 hts (gV mw_155 mw_156 mw_157 mw_5 mw_158) rfl rfl rfl hd_X9_thrown ⟨Nat.le_of_ble_eq_true rfl, Nat.le_of_ble_eq_true rfl⟩) hK hP rfl (at_Model (BW_M (G := G) (cA := cA) (H0 := H0) (sv := (svOf ix bs)) D (β.1, μ1, β.2.2)) hP) rfl hl.1 rfl (Nat.le_of_ble_eq_true rfl) dL_law_1564 ⟨by show cells + 1 + 0 + 0 ≤ 601024; omega, by show slots + 6 + 0 + 0 ≤ 7293034; omega⟩ hL (fun H locs hP hL => ?_)
    refine lv_iload hx hb dL_law_1567 (lv_at hl 1 rfl) ?_
    refine lv_icmp_eq (tgt := 1574) hx hb dL_law_1569 (by decide) (fun _ => ?_) (fun c8 => absurd rfl c8)
    refine lv_iload hx hb dL_law_1574 (lv_at hl 1 rfl) ?_
    refine lv_if_ne (tgt := 1612) hx hb dL_law_1576 (by decide) (fun _ => ?_) (fun c8 => absurd c8 wCode_ne)
    refine lv_goto (tgt := 2386) hx hb dL_law_1612 (by decide) ?_
    exact next (β.1, μ1, β.2.2) ix bs _ _ _ _ _ ⟨D, hI, hP, (h5 k rfl), hL⟩ (by omega) (by omega) (lv_sub hl [2, 3, 4, 5, 6, 7] rfl)
  | inr r =>
    obtain ⟨hbb, h7, hn9, h9⟩ := h6 r rfl
    replace hbb := hbb.symm
    subst hbb
    refine lv_aload_n hx hb dL_law_1537 rfl (lv_at hl 2 rfl) ?_
    refine lv_aload_n hx hb dL_law_1538 rfl (lv_at hl 1 rfl) ?_
    refine lv_iload hx hb dL_law_1539 (lv_at hl 0 rfl) ?_
    refine lv_iconst (v := 1) hx hb dL_law_1541 (by decide) ?_
    refine lv_iadd hx hb dL_law_1542 ?_
    rw [show nI (6 * j) + 1 = nI (6 * j + 1) from nI_add (6 * j) 1]
    refine lw_scr hx hb hX hbl hbo hL3 hL (by omega) dL_law_1543 ?_
    refine lv_aload hx hb dL_law_1544 (lv_at hl 5 rfl) ?_
    refine wx_call (As := [.ref aG, .int (xs (6 * j + 1)), .ref (aO + 1)]) (rest := []) ⟨hx, hb, hml, hown, hts⟩ (c_L_excess (G := G) (cA := cA) (H0 := H0) (sv := svOf ix bs) hl0 D h1 h2 hnn) (vx_cwSW 3 hts (gSWx mw_1090 mw_1091 mw_130 mw_1092) rfl rfl rfl hd_L_excess ⟨Nat.le_of_ble_eq_true rfl, Nat.le_of_ble_eq_true rfl⟩) hN hZ hX3 hP rfl hl.1 rfl (Nat.le_of_ble_eq_true rfl) dL_law_1546 ⟨by show cells + 1 ≤ 601024; omega, by show slots + 6 ≤ 7293034; omega⟩ hL (fun H locs hP hL => ?_)
    have hP : BW G cA H0 lo aG aM aO bs (svOf ix bs) (β.1, β.2.1, β.2.2.1, dUp β.2.2.2.1 (FP.f2d r), β.2.2.2.2) H := hP
    refine lv_istore (lv' := [(6, .int 0), (5, .int (nI (6 * j))), (0, .ref b), (1, .ref aG), (2, .ref aM), (3, .ref aO), (4, .ref (aO + 1))]) hx hb dL_law_1549 hl (by decide) rfl (fun ls hl => ?_)
    refine lv_aload_n hx hb dL_law_1551 rfl (lv_at hl 4 rfl) ?_
    refine lv_aload_n hx hb dL_law_1552 rfl (lv_at hl 2 rfl) ?_
    refine lv_iload hx hb dL_law_1553 (lv_at hl 1 rfl) ?_
    refine lv_iconst (v := 1) hx hb dL_law_1555 (by decide) ?_
    refine lv_iadd hx hb dL_law_1556 ?_
    rw [show nI (6 * j) + 1 = nI (6 * j + 1) from nI_add (6 * j) 1]
    refine lw_scr hx hb hX hbl hbo hL3 hL (by omega) dL_law_1557 ?_
    refine cx_callV (As := [.int (xs (6 * j + 1))]) (rest := []) ⟨hx, hb, hml, hown, hts⟩ (c_X9_excess (BW_M (G := G) (cA := cA) (H0 := H0) (sv := (svOf ix bs)) D (β.1, β.2.1, β.2.2.1, dUp β.2.2.2.1 (FP.f2d r), β.2.2.2.2)) h3) (cwV 1 hts (gV mw_1099 mw_1100 mw_1101 mw_5 mw_1102) rfl rfl rfl hd_X9_excess ⟨Nat.le_of_ble_eq_true rfl, Nat.le_of_ble_eq_true rfl⟩) hK hP rfl (at_Model (BW_M (G := G) (cA := cA) (H0 := H0) (sv := (svOf ix bs)) D (β.1, β.2.1, β.2.2.1, dUp β.2.2.2.1 (FP.f2d r), β.2.2.2.2)) hP) rfl hl.1 rfl (Nat.le_of_ble_eq_true rfl) dL_law_1558 ⟨by show cells + 1 + 0 ≤ 601024; omega, by show slots + 6 + 0 ≤ 7293034; omega⟩ hL (fun H locs hP hL => ?_)
    have hP : BW G cA H0 lo aG aM aO bs (svOf ix bs) (β.1, μ1, β.2.2.1, dUp β.2.2.2.1 (FP.f2d r), β.2.2.2.2) H := hP
    refine lv_fstore (lv' := [(7, .float r), (6, .int 0), (5, .int (nI (6 * j))), (0, .ref b), (1, .ref aG), (2, .ref aM), (3, .ref aO), (4, .ref (aO + 1))]) hx hb dL_law_1561 hl (by decide) rfl (fun ls hl => ?_)
    refine lv_aload_n hx hb dL_law_1563 rfl (lv_at hl 5 rfl) ?_
    refine cx_callV (As := []) (rest := []) ⟨hx, hb, hml, hown, hts⟩ (c_X9_thrown (BW_M (G := G) (cA := cA) (H0 := H0) (sv := (svOf ix bs)) D (β.1, μ1, β.2.2.1, dUp β.2.2.2.1 (FP.f2d r), β.2.2.2.2)) h4) (cwV 0 hts (gV mw_155 mw_156 mw_157 mw_5 mw_158) rfl rfl rfl hd_X9_thrown ⟨Nat.le_of_ble_eq_true rfl, Nat.le_of_ble_eq_true rfl⟩) hK hP rfl (at_Model (BW_M (G := G) (cA := cA) (H0 := H0) (sv := (svOf ix bs)) D (β.1, μ1, β.2.2.1, dUp β.2.2.2.1 (FP.f2d r), β.2.2.2.2)) hP) rfl hl.1 rfl (Nat.le_of_ble_eq_true rfl) dL_law_1564 ⟨by show cells + 1 + 0 + 0 ≤ 601024; omega, by show slots + 6 + 0 + 0 ≤ 7293034; omega⟩ hL (fun H locs hP hL => ?_)
    refine lv_iload hx hb dL_law_1567 (lv_at hl 1 rfl) ?_
    refine lv_icmp_eq (tgt := 1574) hx hb dL_law_1569 (by decide) (fun _ => ?_) (fun c8 => absurd rfl c8)
    refine lv_iload hx hb dL_law_1574 (lv_at hl 1 rfl) ?_
    refine lv_if_ne (tgt := 1612) hx hb dL_law_1576 (by decide) (fun c8 => absurd rfl c8) (fun _ => ?_)
    refine lv_aload hx hb dL_law_1579 (lv_at hl 7 rfl) ?_
    refine lv_iconst (v := 0) hx hb dL_law_1581 (by decide) ?_
    refine va_dald hx hb hK (cx_one ((BW_D (G := G) (cA := cA) (H0 := H0) (sv := (svOf ix bs)) D (β.1, μ1, β.2.2.1, dUp β.2.2.2.1 (FP.f2d r), β.2.2.2.2)).1 _ H hP 0 (by decide))) 0 3 rfl rfl (nI_in (c := 0) (N := 1) (by decide) (by decide)) dL_law_1582 ?_
    rw [dUp_0]
    refine lv_fload hx hb dL_law_1583 (lv_at hl 0 rfl) ?_
    refine lv_f2d hx hb dL_law_1585 hn9 ?_
    refine lv_dcmp hx hb dL_law_1586 ?_
    refine lv_if_eq (tgt := 1612) hx hb dL_law_1587 (by decide) (fun _ => ?_) (fun c8 => absurd h9 c8)
    refine lv_goto (tgt := 2386) hx hb dL_law_1612 (by decide) ?_
    exact next (β.1, μ1, β.2.2.1, dUp β.2.2.2.1 (FP.f2d r), β.2.2.2.2) ix bs _ _ _ _ _ ⟨D, hI, hP, h7, hL⟩ (by omega) (by omega) (lv_sub hl [2, 3, 4, 5, 6, 7] rfl)
def Sim_toScan (N : Nat) (Top Toq : TopT) : Prop := ∀ (γ : GLS) (μ : MdlS) (κ : Nat → CacS) (ix : Nat → Option Nat) (nb : Nat) (p0 : Int32) (p1 : Int32), Top γ μ κ ix nb → ∃ (res : Nat ⊕ (Int32)) (b : Int32) (μ1 : MdlS), f_X8_toScan γ p0 p1 = some res ∧ (∀ k, res = .inl k → k = 0 ∨ k = 1) ∧ f_X9_toScan μ p0 p1 = some (b, μ1) ∧ f_X9_thrown μ1 = some (wCode 0 res) ∧ (∀ k, res = .inl k → Toq γ μ1 κ ix nb) ∧ ∀ r, res = .inr r → b = r ∧ Toq γ μ1 κ ix nb
set_option maxHeartbeats 2000000 in
set_option maxRecDepth 100000 in
theorem w_law_toScan {p : Program} {l : Launch} {e : Env} {s : State} {m : MethodId} {args : Array Value} {below : List Frame} {meth : Method} {c : Code} {G : va_G} {cA : Nat → ClassId} {H0 : Heap} {lo aG aM aO : Nat} {z : ZS} {Top Toq : TopT} {b L j N cells slots : Nat} {xs : Nat → Int32} {Q : State → Prop} (F : LwF l p s m args c G cA lo z b L xs) (hj : 6 * j + 5 < L) (hS : Sim_toScan N Top Toq) {β : BigS} {ix : Nat → Option Nat} {bs : List Nat} {H : Heap} {locs : List Loc} {ls : Array Slot} (St : LwS G cA H0 lo aG aM aO Top β ix bs H locs) (hcs : cells ≤ 500000) (hss : slots ≤ 7000000) (hl : lv_has ls 10 [(5, .int (nI (6 * j))), (0, .ref b), (1, .ref aG), (2, .ref aM), (3, .ref aO), (4, .ref (aO + 1))]) (next : LwN p l e s m args below meth c G cA H0 lo aG aM aO Toq b j cells slots Q) : W p l e room_1 s m args below meth c H locs cells slots Q (F0 m 1615 ls []) := by
  obtain ⟨⟨hl0, hx, hb, hml, hown, hts⟩, hN, hZ, hX3, hX, hbl, hbo, hL3⟩ := id F
  have hK := hN.1
  obtain ⟨D, hI, hP, hT, hL⟩ := St
  obtain ⟨res, bb, μ1, h1, h2, h3, h4, h5, h6⟩ := hS β.1 β.2.1 β.2.2.2.2 ix bs.length (xs (6 * j + 1)) (xs (6 * j + 2)) hT
  cases res with
  | inl k =>
    refine lv_aload_n hx hb dL_law_1615 rfl (lv_at hl 2 rfl) ?_
    refine lv_aload_n hx hb dL_law_1616 rfl (lv_at hl 1 rfl) ?_
    refine lv_iload hx hb dL_law_1617 (lv_at hl 0 rfl) ?_
    refine lv_iconst (v := 1) hx hb dL_law_1619 (by decide) ?_
    refine lv_iadd hx hb dL_law_1620 ?_
    rw [show nI (6 * j) + 1 = nI (6 * j + 1) from nI_add (6 * j) 1]
    refine lw_scr hx hb hX hbl hbo hL3 hL (by omega) dL_law_1621 ?_
    refine lv_aload_n hx hb dL_law_1622 rfl (lv_at hl 1 rfl) ?_
    refine lv_iload hx hb dL_law_1623 (lv_at hl 0 rfl) ?_
    refine lv_iconst (v := 2) hx hb dL_law_1625 (by decide) ?_
    refine lv_iadd hx hb dL_law_1626 ?_
    rw [show nI (6 * j) + 2 = nI (6 * j + 2) from nI_add (6 * j) 2]
    refine lw_scr hx hb hX hbl hbo hL3 hL (by omega) dL_law_1627 ?_
    refine lv_aload_n hx hb dL_law_1628 rfl (lv_at hl 4 rfl) ?_
    refine wx_call (As := [.ref aG, .int (xs (6 * j + 1)), .int (xs (6 * j + 2)), .ref aO]) (rest := []) ⟨hx, hb, hml, hown, hts⟩ (c_L_toScan (G := G) (cA := cA) (H0 := H0) (sv := svOf ix bs) hl0 D h1 h2) (vx_cwSW 4 hts (gSWx mw_1103 mw_1104 mw_130 mw_1105) rfl rfl rfl hd_L_toScan ⟨Nat.le_of_ble_eq_true rfl, Nat.le_of_ble_eq_true rfl⟩) hN hZ hX3 hP rfl hl.1 rfl (Nat.le_of_ble_eq_true rfl) dL_law_1629 ⟨by show cells + 2 ≤ 601024; omega, by show slots + 12 ≤ 7293034; omega⟩ hL (fun H locs hP hL => ?_)
    have hP : BW G cA H0 lo aG aM aO bs (svOf ix bs) β H := hP
    refine lv_istore (lv' := [(6, .int (wCode 0 (.inl k : Nat ⊕ (Int32)))), (5, .int (nI (6 * j))), (0, .ref b), (1, .ref aG), (2, .ref aM), (3, .ref aO), (4, .ref (aO + 1))]) hx hb dL_law_1632 hl (by decide) rfl (fun ls hl => ?_)
    refine lv_aload_n hx hb dL_law_1634 rfl (lv_at hl 4 rfl) ?_
    refine lv_aload_n hx hb dL_law_1635 rfl (lv_at hl 2 rfl) ?_
    refine lv_iload hx hb dL_law_1636 (lv_at hl 1 rfl) ?_
    refine lv_iconst (v := 1) hx hb dL_law_1638 (by decide) ?_
    refine lv_iadd hx hb dL_law_1639 ?_
    rw [show nI (6 * j) + 1 = nI (6 * j + 1) from nI_add (6 * j) 1]
    refine lw_scr hx hb hX hbl hbo hL3 hL (by omega) dL_law_1640 ?_
    refine lv_aload_n hx hb dL_law_1641 rfl (lv_at hl 2 rfl) ?_
    refine lv_iload hx hb dL_law_1642 (lv_at hl 1 rfl) ?_
    refine lv_iconst (v := 2) hx hb dL_law_1644 (by decide) ?_
    refine lv_iadd hx hb dL_law_1645 ?_
    rw [show nI (6 * j) + 2 = nI (6 * j + 2) from nI_add (6 * j) 2]
    refine lw_scr hx hb hX hbl hbo hL3 hL (by omega) dL_law_1646 ?_
    refine cx_callV (As := [.int (xs (6 * j + 1)), .int (xs (6 * j + 2))]) (rest := []) ⟨hx, hb, hml, hown, hts⟩ (c_X9_toScan (BW_M (G := G) (cA := cA) (H0 := H0) (sv := (svOf ix bs)) D β) h3) (cwV 2 hts (gV mw_1116 mw_1117 mw_1118 mw_5 mw_1119) rfl rfl rfl hd_X9_toScan ⟨Nat.le_of_ble_eq_true rfl, Nat.le_of_ble_eq_true rfl⟩) hK hP rfl (at_Model (BW_M (G := G) (cA := cA) (H0 := H0) (sv := (svOf ix bs)) D β) hP) rfl hl.1 rfl (Nat.le_of_ble_eq_true rfl) dL_law_1647 ⟨by show cells + 2 + 0 ≤ 601024; omega, by show slots + 12 + 0 ≤ 7293034; omega⟩ hL (fun H locs hP hL => ?_)
    have hP : BW G cA H0 lo aG aM aO bs (svOf ix bs) (β.1, μ1, β.2.2) H := hP
    refine lv_istore (lv' := [(7, .int bb), (6, .int (wCode 0 (.inl k : Nat ⊕ (Int32)))), (5, .int (nI (6 * j))), (0, .ref b), (1, .ref aG), (2, .ref aM), (3, .ref aO), (4, .ref (aO + 1))]) hx hb dL_law_1650 hl (by decide) rfl (fun ls hl => ?_)
    refine lv_aload_n hx hb dL_law_1652 rfl (lv_at hl 5 rfl) ?_
    refine cx_callV (As := []) (rest := []) ⟨hx, hb, hml, hown, hts⟩ (c_X9_thrown (BW_M (G := G) (cA := cA) (H0 := H0) (sv := (svOf ix bs)) D (β.1, μ1, β.2.2)) h4) (cwV 0 hts (gV mw_155 mw_156 mw_157 mw_5 mw_158) rfl rfl rfl hd_X9_thrown ⟨Nat.le_of_ble_eq_true rfl, Nat.le_of_ble_eq_true rfl⟩) hK hP rfl (at_Model (BW_M (G := G) (cA := cA) (H0 := H0) (sv := (svOf ix bs)) D (β.1, μ1, β.2.2)) hP) rfl hl.1 rfl (Nat.le_of_ble_eq_true rfl) dL_law_1653 ⟨by show cells + 2 + 0 + 0 ≤ 601024; omega, by show slots + 12 + 0 + 0 ≤ 7293034; omega⟩ hL (fun H locs hP hL => ?_)
    refine lv_iload hx hb dL_law_1656 (lv_at hl 1 rfl) ?_
    refine lv_icmp_eq (tgt := 1663) hx hb dL_law_1658 (by decide) (fun _ => ?_) (fun c8 => absurd rfl c8)
    refine lv_iload hx hb dL_law_1663 (lv_at hl 1 rfl) ?_
    refine lv_if_ne (tgt := 1680) hx hb dL_law_1665 (by decide) (fun _ => ?_) (fun c8 => absurd c8 wCode_ne)
    refine lv_goto (tgt := 2386) hx hb dL_law_1680 (by decide) ?_
    exact next (β.1, μ1, β.2.2) ix bs _ _ _ _ _ ⟨D, hI, hP, (h5 k rfl), hL⟩ (by omega) (by omega) (lv_sub hl [2, 3, 4, 5, 6, 7] rfl)
  | inr r =>
    obtain ⟨hbb, h7⟩ := h6 r rfl
    replace hbb := hbb.symm
    subst hbb
    refine lv_aload_n hx hb dL_law_1615 rfl (lv_at hl 2 rfl) ?_
    refine lv_aload_n hx hb dL_law_1616 rfl (lv_at hl 1 rfl) ?_
    refine lv_iload hx hb dL_law_1617 (lv_at hl 0 rfl) ?_
    refine lv_iconst (v := 1) hx hb dL_law_1619 (by decide) ?_
    refine lv_iadd hx hb dL_law_1620 ?_
    rw [show nI (6 * j) + 1 = nI (6 * j + 1) from nI_add (6 * j) 1]
    refine lw_scr hx hb hX hbl hbo hL3 hL (by omega) dL_law_1621 ?_
    refine lv_aload_n hx hb dL_law_1622 rfl (lv_at hl 1 rfl) ?_
    refine lv_iload hx hb dL_law_1623 (lv_at hl 0 rfl) ?_
    refine lv_iconst (v := 2) hx hb dL_law_1625 (by decide) ?_
    refine lv_iadd hx hb dL_law_1626 ?_
    rw [show nI (6 * j) + 2 = nI (6 * j + 2) from nI_add (6 * j) 2]
    refine lw_scr hx hb hX hbl hbo hL3 hL (by omega) dL_law_1627 ?_
    refine lv_aload_n hx hb dL_law_1628 rfl (lv_at hl 4 rfl) ?_
    refine wx_call (As := [.ref aG, .int (xs (6 * j + 1)), .int (xs (6 * j + 2)), .ref aO]) (rest := []) ⟨hx, hb, hml, hown, hts⟩ (c_L_toScan (G := G) (cA := cA) (H0 := H0) (sv := svOf ix bs) hl0 D h1 h2) (vx_cwSW 4 hts (gSWx mw_1103 mw_1104 mw_130 mw_1105) rfl rfl rfl hd_L_toScan ⟨Nat.le_of_ble_eq_true rfl, Nat.le_of_ble_eq_true rfl⟩) hN hZ hX3 hP rfl hl.1 rfl (Nat.le_of_ble_eq_true rfl) dL_law_1629 ⟨by show cells + 2 ≤ 601024; omega, by show slots + 12 ≤ 7293034; omega⟩ hL (fun H locs hP hL => ?_)
    have hP : BW G cA H0 lo aG aM aO bs (svOf ix bs) (β.1, β.2.1, oUp β.2.2.1 (Int32.toInt64 r), β.2.2.2) H := hP
    refine lv_istore (lv' := [(6, .int 0), (5, .int (nI (6 * j))), (0, .ref b), (1, .ref aG), (2, .ref aM), (3, .ref aO), (4, .ref (aO + 1))]) hx hb dL_law_1632 hl (by decide) rfl (fun ls hl => ?_)
    refine lv_aload_n hx hb dL_law_1634 rfl (lv_at hl 4 rfl) ?_
    refine lv_aload_n hx hb dL_law_1635 rfl (lv_at hl 2 rfl) ?_
    refine lv_iload hx hb dL_law_1636 (lv_at hl 1 rfl) ?_
    refine lv_iconst (v := 1) hx hb dL_law_1638 (by decide) ?_
    refine lv_iadd hx hb dL_law_1639 ?_
    rw [show nI (6 * j) + 1 = nI (6 * j + 1) from nI_add (6 * j) 1]
    refine lw_scr hx hb hX hbl hbo hL3 hL (by omega) dL_law_1640 ?_
    refine lv_aload_n hx hb dL_law_1641 rfl (lv_at hl 2 rfl) ?_
    refine lv_iload hx hb dL_law_1642 (lv_at hl 1 rfl) ?_
    refine lv_iconst (v := 2) hx hb dL_law_1644 (by decide) ?_
    refine lv_iadd hx hb dL_law_1645 ?_
    rw [show nI (6 * j) + 2 = nI (6 * j + 2) from nI_add (6 * j) 2]
    refine lw_scr hx hb hX hbl hbo hL3 hL (by omega) dL_law_1646 ?_
    refine cx_callV (As := [.int (xs (6 * j + 1)), .int (xs (6 * j + 2))]) (rest := []) ⟨hx, hb, hml, hown, hts⟩ (c_X9_toScan (BW_M (G := G) (cA := cA) (H0 := H0) (sv := (svOf ix bs)) D (β.1, β.2.1, oUp β.2.2.1 (Int32.toInt64 r), β.2.2.2)) h3) (cwV 2 hts (gV mw_1116 mw_1117 mw_1118 mw_5 mw_1119) rfl rfl rfl hd_X9_toScan ⟨Nat.le_of_ble_eq_true rfl, Nat.le_of_ble_eq_true rfl⟩) hK hP rfl (at_Model (BW_M (G := G) (cA := cA) (H0 := H0) (sv := (svOf ix bs)) D (β.1, β.2.1, oUp β.2.2.1 (Int32.toInt64 r), β.2.2.2)) hP) rfl hl.1 rfl (Nat.le_of_ble_eq_true rfl) dL_law_1647 ⟨by show cells + 2 + 0 ≤ 601024; omega, by show slots + 12 + 0 ≤ 7293034; omega⟩ hL (fun H locs hP hL => ?_)
    have hP : BW G cA H0 lo aG aM aO bs (svOf ix bs) (β.1, μ1, oUp β.2.2.1 (Int32.toInt64 r), β.2.2.2) H := hP
    refine lv_istore (lv' := [(7, .int r), (6, .int 0), (5, .int (nI (6 * j))), (0, .ref b), (1, .ref aG), (2, .ref aM), (3, .ref aO), (4, .ref (aO + 1))]) hx hb dL_law_1650 hl (by decide) rfl (fun ls hl => ?_)
    refine lv_aload_n hx hb dL_law_1652 rfl (lv_at hl 5 rfl) ?_
    refine cx_callV (As := []) (rest := []) ⟨hx, hb, hml, hown, hts⟩ (c_X9_thrown (BW_M (G := G) (cA := cA) (H0 := H0) (sv := (svOf ix bs)) D (β.1, μ1, oUp β.2.2.1 (Int32.toInt64 r), β.2.2.2)) h4) (cwV 0 hts (gV mw_155 mw_156 mw_157 mw_5 mw_158) rfl rfl rfl hd_X9_thrown ⟨Nat.le_of_ble_eq_true rfl, Nat.le_of_ble_eq_true rfl⟩) hK hP rfl (at_Model (BW_M (G := G) (cA := cA) (H0 := H0) (sv := (svOf ix bs)) D (β.1, μ1, oUp β.2.2.1 (Int32.toInt64 r), β.2.2.2)) hP) rfl hl.1 rfl (Nat.le_of_ble_eq_true rfl) dL_law_1653 ⟨by show cells + 2 + 0 + 0 ≤ 601024; omega, by show slots + 12 + 0 + 0 ≤ 7293034; omega⟩ hL (fun H locs hP hL => ?_)
    refine lv_iload hx hb dL_law_1656 (lv_at hl 1 rfl) ?_
    refine lv_icmp_eq (tgt := 1663) hx hb dL_law_1658 (by decide) (fun _ => ?_) (fun c8 => absurd rfl c8)
    refine lv_iload hx hb dL_law_1663 (lv_at hl 1 rfl) ?_
    refine lv_if_ne (tgt := 1680) hx hb dL_law_1665 (by decide) (fun c8 => absurd rfl c8) (fun _ => ?_)
    refine lv_aload_n hx hb dL_law_1668 rfl (lv_at hl 6 rfl) ?_
    refine lv_iconst (v := 0) hx hb dL_law_1669 (by decide) ?_
    refine va_lald hx hb hK (cx_one ((BW_O (G := G) (cA := cA) (H0 := H0) (sv := (svOf ix bs)) D (β.1, μ1, oUp β.2.2.1 (Int32.toInt64 r), β.2.2.2)).1 _ H hP 0 (by decide))) 0 2 rfl rfl (nI_in (c := 0) (N := 1) (by decide) (by decide)) dL_law_1670 ?_
    rw [oUp_0]
    refine lv_iload hx hb dL_law_1671 (lv_at hl 0 rfl) ?_
    refine lv_i2l hx hb dL_law_1673 rfl ?_
    refine cx_lceq (tgt := 1680) hx hb dL_law_1674 dL_law_1675 (by decide) (fun _ => ?_) (fun c8 => absurd rfl c8)
    refine lv_goto (tgt := 2386) hx hb dL_law_1680 (by decide) ?_
    exact next (β.1, μ1, oUp β.2.2.1 (Int32.toInt64 r), β.2.2.2) ix bs _ _ _ _ _ ⟨D, hI, hP, h7, hL⟩ (by omega) (by omega) (lv_sub hl [2, 3, 4, 5, 6, 7] rfl)
def Sim_rank (N : Nat) (Top Toq : TopT) : Prop := ∀ (γ : GLS) (μ : MdlS) (κ : Nat → CacS) (ix : Nat → Option Nat) (nb : Nat) (p0 : Int32), Top γ μ κ ix nb → ∃ (res : Nat ⊕ (Int32)) (b : Int32) (μ1 : MdlS), f_X8_rank N γ p0 = some res ∧ (∀ k, res = .inl k → k = 1) ∧ f_X9_rank N μ p0 = some (b, μ1) ∧ f_X9_thrown μ1 = some (wCode 1 res) ∧ (∀ k, res = .inl k → Toq γ μ1 κ ix nb) ∧ ∀ r, res = .inr r → b = r ∧ Toq γ μ1 κ ix nb
set_option maxHeartbeats 2000000 in
set_option maxRecDepth 100000 in
theorem w_law_rank {p : Program} {l : Launch} {e : Env} {s : State} {m : MethodId} {args : Array Value} {below : List Frame} {meth : Method} {c : Code} {G : va_G} {cA : Nat → ClassId} {H0 : Heap} {lo aG aM aO : Nat} {z : ZS} {Top Toq : TopT} {b L j N cells slots : Nat} {xs : Nat → Int32} {Q : State → Prop} (F : LwF l p s m args c G cA lo z b L xs) (hj : 6 * j + 5 < L) (hS : Sim_rank N Top Toq) {β : BigS} {ix : Nat → Option Nat} {bs : List Nat} {H : Heap} {locs : List Loc} {ls : Array Slot} (St : LwS G cA H0 lo aG aM aO Top β ix bs H locs) (hcs : cells ≤ 500000) (hss : slots ≤ 7000000) (hl : lv_has ls 10 [(5, .int (nI (6 * j))), (0, .ref b), (1, .ref aG), (2, .ref aM), (3, .ref aO), (4, .ref (aO + 1))]) (next : LwN p l e s m args below meth c G cA H0 lo aG aM aO Toq b j cells slots Q) : W p l e room_1 s m args below meth c H locs cells slots Q (F0 m 1683 ls []) := by
  obtain ⟨⟨hl0, hx, hb, hml, hown, hts⟩, hN, hZ, hX3, hX, hbl, hbo, hL3⟩ := id F
  have hK := hN.1
  obtain ⟨D, hI, hP, hT, hL⟩ := St
  obtain ⟨res, bb, μ1, h1, h2, h3, h4, h5, h6⟩ := hS β.1 β.2.1 β.2.2.2.2 ix bs.length (xs (6 * j + 1)) hT
  cases res with
  | inl k =>
    refine lv_aload_n hx hb dL_law_1683 rfl (lv_at hl 2 rfl) ?_
    refine lv_aload_n hx hb dL_law_1684 rfl (lv_at hl 1 rfl) ?_
    refine lv_iload hx hb dL_law_1685 (lv_at hl 0 rfl) ?_
    refine lv_iconst (v := 1) hx hb dL_law_1687 (by decide) ?_
    refine lv_iadd hx hb dL_law_1688 ?_
    rw [show nI (6 * j) + 1 = nI (6 * j + 1) from nI_add (6 * j) 1]
    refine lw_scr hx hb hX hbl hbo hL3 hL (by omega) dL_law_1689 ?_
    refine lv_aload_n hx hb dL_law_1690 rfl (lv_at hl 4 rfl) ?_
    refine wx_call (As := [.ref aG, .int (xs (6 * j + 1)), .ref aO]) (rest := []) ⟨hx, hb, hml, hown, hts⟩ (c_L_rank (G := G) (cA := cA) (H0 := H0) (sv := svOf ix bs) hl0 D h1 h2) (vx_cwSW 3 hts (gSWx mw_1124 mw_1125 mw_130 mw_1126) rfl rfl rfl hd_L_rank ⟨Nat.le_of_ble_eq_true rfl, Nat.le_of_ble_eq_true rfl⟩) hN hZ hX3 hP rfl hl.1 rfl (Nat.le_of_ble_eq_true rfl) dL_law_1691 ⟨by show cells + 1 ≤ 601024; omega, by show slots + 6 ≤ 7293034; omega⟩ hL (fun H locs hP hL => ?_)
    have hP : BW G cA H0 lo aG aM aO bs (svOf ix bs) β H := hP
    refine lv_istore (lv' := [(6, .int (wCode 1 (.inl k : Nat ⊕ (Int32)))), (5, .int (nI (6 * j))), (0, .ref b), (1, .ref aG), (2, .ref aM), (3, .ref aO), (4, .ref (aO + 1))]) hx hb dL_law_1694 hl (by decide) rfl (fun ls hl => ?_)
    refine lv_aload_n hx hb dL_law_1696 rfl (lv_at hl 4 rfl) ?_
    refine lv_aload_n hx hb dL_law_1697 rfl (lv_at hl 2 rfl) ?_
    refine lv_iload hx hb dL_law_1698 (lv_at hl 1 rfl) ?_
    refine lv_iconst (v := 1) hx hb dL_law_1700 (by decide) ?_
    refine lv_iadd hx hb dL_law_1701 ?_
    rw [show nI (6 * j) + 1 = nI (6 * j + 1) from nI_add (6 * j) 1]
    refine lw_scr hx hb hX hbl hbo hL3 hL (by omega) dL_law_1702 ?_
    refine cx_callV (As := [.int (xs (6 * j + 1))]) (rest := []) ⟨hx, hb, hml, hown, hts⟩ (c_X9_rank (BW_M (G := G) (cA := cA) (H0 := H0) (sv := (svOf ix bs)) D β) h3) (cwV 1 hts (gV mw_1135 mw_1136 mw_1137 mw_5 mw_1138) rfl rfl rfl hd_X9_rank ⟨Nat.le_of_ble_eq_true rfl, Nat.le_of_ble_eq_true rfl⟩) hK hP rfl (at_Model (BW_M (G := G) (cA := cA) (H0 := H0) (sv := (svOf ix bs)) D β) hP) rfl hl.1 rfl (Nat.le_of_ble_eq_true rfl) dL_law_1703 ⟨by show cells + 1 + 0 ≤ 601024; omega, by show slots + 6 + 0 ≤ 7293034; omega⟩ hL (fun H locs hP hL => ?_)
    have hP : BW G cA H0 lo aG aM aO bs (svOf ix bs) (β.1, μ1, β.2.2) H := hP
    refine lv_istore (lv' := [(7, .int bb), (6, .int (wCode 1 (.inl k : Nat ⊕ (Int32)))), (5, .int (nI (6 * j))), (0, .ref b), (1, .ref aG), (2, .ref aM), (3, .ref aO), (4, .ref (aO + 1))]) hx hb dL_law_1706 hl (by decide) rfl (fun ls hl => ?_)
    refine lv_aload_n hx hb dL_law_1708 rfl (lv_at hl 5 rfl) ?_
    refine cx_callV (As := []) (rest := []) ⟨hx, hb, hml, hown, hts⟩ (c_X9_thrown (BW_M (G := G) (cA := cA) (H0 := H0) (sv := (svOf ix bs)) D (β.1, μ1, β.2.2)) h4) (cwV 0 hts (gV mw_155 mw_156 mw_157 mw_5 mw_158) rfl rfl rfl hd_X9_thrown ⟨Nat.le_of_ble_eq_true rfl, Nat.le_of_ble_eq_true rfl⟩) hK hP rfl (at_Model (BW_M (G := G) (cA := cA) (H0 := H0) (sv := (svOf ix bs)) D (β.1, μ1, β.2.2)) hP) rfl hl.1 rfl (Nat.le_of_ble_eq_true rfl) dL_law_1709 ⟨by show cells + 1 + 0 + 0 ≤ 601024; omega, by show slots + 6 + 0 + 0 ≤ 7293034; omega⟩ hL (fun H locs hP hL => ?_)
    refine lv_iload hx hb dL_law_1712 (lv_at hl 1 rfl) ?_
    refine lv_icmp_eq (tgt := 1719) hx hb dL_law_1714 (by decide) (fun _ => ?_) (fun c8 => absurd rfl c8)
    refine lv_iload hx hb dL_law_1719 (lv_at hl 1 rfl) ?_
    refine lv_if_ne (tgt := 1736) hx hb dL_law_1721 (by decide) (fun _ => ?_) (fun c8 => absurd c8 wCode_ne)
    refine lv_goto (tgt := 2386) hx hb dL_law_1736 (by decide) ?_
    exact next (β.1, μ1, β.2.2) ix bs _ _ _ _ _ ⟨D, hI, hP, (h5 k rfl), hL⟩ (by omega) (by omega) (lv_sub hl [2, 3, 4, 5, 6, 7] rfl)
  | inr r =>
    obtain ⟨hbb, h7⟩ := h6 r rfl
    replace hbb := hbb.symm
    subst hbb
    refine lv_aload_n hx hb dL_law_1683 rfl (lv_at hl 2 rfl) ?_
    refine lv_aload_n hx hb dL_law_1684 rfl (lv_at hl 1 rfl) ?_
    refine lv_iload hx hb dL_law_1685 (lv_at hl 0 rfl) ?_
    refine lv_iconst (v := 1) hx hb dL_law_1687 (by decide) ?_
    refine lv_iadd hx hb dL_law_1688 ?_
    rw [show nI (6 * j) + 1 = nI (6 * j + 1) from nI_add (6 * j) 1]
    refine lw_scr hx hb hX hbl hbo hL3 hL (by omega) dL_law_1689 ?_
    refine lv_aload_n hx hb dL_law_1690 rfl (lv_at hl 4 rfl) ?_
    refine wx_call (As := [.ref aG, .int (xs (6 * j + 1)), .ref aO]) (rest := []) ⟨hx, hb, hml, hown, hts⟩ (c_L_rank (G := G) (cA := cA) (H0 := H0) (sv := svOf ix bs) hl0 D h1 h2) (vx_cwSW 3 hts (gSWx mw_1124 mw_1125 mw_130 mw_1126) rfl rfl rfl hd_L_rank ⟨Nat.le_of_ble_eq_true rfl, Nat.le_of_ble_eq_true rfl⟩) hN hZ hX3 hP rfl hl.1 rfl (Nat.le_of_ble_eq_true rfl) dL_law_1691 ⟨by show cells + 1 ≤ 601024; omega, by show slots + 6 ≤ 7293034; omega⟩ hL (fun H locs hP hL => ?_)
    have hP : BW G cA H0 lo aG aM aO bs (svOf ix bs) (β.1, β.2.1, oUp β.2.2.1 (Int32.toInt64 r), β.2.2.2) H := hP
    refine lv_istore (lv' := [(6, .int 0), (5, .int (nI (6 * j))), (0, .ref b), (1, .ref aG), (2, .ref aM), (3, .ref aO), (4, .ref (aO + 1))]) hx hb dL_law_1694 hl (by decide) rfl (fun ls hl => ?_)
    refine lv_aload_n hx hb dL_law_1696 rfl (lv_at hl 4 rfl) ?_
    refine lv_aload_n hx hb dL_law_1697 rfl (lv_at hl 2 rfl) ?_
    refine lv_iload hx hb dL_law_1698 (lv_at hl 1 rfl) ?_
    refine lv_iconst (v := 1) hx hb dL_law_1700 (by decide) ?_
    refine lv_iadd hx hb dL_law_1701 ?_
    rw [show nI (6 * j) + 1 = nI (6 * j + 1) from nI_add (6 * j) 1]
    refine lw_scr hx hb hX hbl hbo hL3 hL (by omega) dL_law_1702 ?_
    refine cx_callV (As := [.int (xs (6 * j + 1))]) (rest := []) ⟨hx, hb, hml, hown, hts⟩ (c_X9_rank (BW_M (G := G) (cA := cA) (H0 := H0) (sv := (svOf ix bs)) D (β.1, β.2.1, oUp β.2.2.1 (Int32.toInt64 r), β.2.2.2)) h3) (cwV 1 hts (gV mw_1135 mw_1136 mw_1137 mw_5 mw_1138) rfl rfl rfl hd_X9_rank ⟨Nat.le_of_ble_eq_true rfl, Nat.le_of_ble_eq_true rfl⟩) hK hP rfl (at_Model (BW_M (G := G) (cA := cA) (H0 := H0) (sv := (svOf ix bs)) D (β.1, β.2.1, oUp β.2.2.1 (Int32.toInt64 r), β.2.2.2)) hP) rfl hl.1 rfl (Nat.le_of_ble_eq_true rfl) dL_law_1703 ⟨by show cells + 1 + 0 ≤ 601024; omega, by show slots + 6 + 0 ≤ 7293034; omega⟩ hL (fun H locs hP hL => ?_)
    have hP : BW G cA H0 lo aG aM aO bs (svOf ix bs) (β.1, μ1, oUp β.2.2.1 (Int32.toInt64 r), β.2.2.2) H := hP
    refine lv_istore (lv' := [(7, .int r), (6, .int 0), (5, .int (nI (6 * j))), (0, .ref b), (1, .ref aG), (2, .ref aM), (3, .ref aO), (4, .ref (aO + 1))]) hx hb dL_law_1706 hl (by decide) rfl (fun ls hl => ?_)
    refine lv_aload_n hx hb dL_law_1708 rfl (lv_at hl 5 rfl) ?_
    refine cx_callV (As := []) (rest := []) ⟨hx, hb, hml, hown, hts⟩ (c_X9_thrown (BW_M (G := G) (cA := cA) (H0 := H0) (sv := (svOf ix bs)) D (β.1, μ1, oUp β.2.2.1 (Int32.toInt64 r), β.2.2.2)) h4) (cwV 0 hts (gV mw_155 mw_156 mw_157 mw_5 mw_158) rfl rfl rfl hd_X9_thrown ⟨Nat.le_of_ble_eq_true rfl, Nat.le_of_ble_eq_true rfl⟩) hK hP rfl (at_Model (BW_M (G := G) (cA := cA) (H0 := H0) (sv := (svOf ix bs)) D (β.1, μ1, oUp β.2.2.1 (Int32.toInt64 r), β.2.2.2)) hP) rfl hl.1 rfl (Nat.le_of_ble_eq_true rfl) dL_law_1709 ⟨by show cells + 1 + 0 + 0 ≤ 601024; omega, by show slots + 6 + 0 + 0 ≤ 7293034; omega⟩ hL (fun H locs hP hL => ?_)
    refine lv_iload hx hb dL_law_1712 (lv_at hl 1 rfl) ?_
    refine lv_icmp_eq (tgt := 1719) hx hb dL_law_1714 (by decide) (fun _ => ?_) (fun c8 => absurd rfl c8)
    refine lv_iload hx hb dL_law_1719 (lv_at hl 1 rfl) ?_
    refine lv_if_ne (tgt := 1736) hx hb dL_law_1721 (by decide) (fun c8 => absurd rfl c8) (fun _ => ?_)
    refine lv_aload_n hx hb dL_law_1724 rfl (lv_at hl 6 rfl) ?_
    refine lv_iconst (v := 0) hx hb dL_law_1725 (by decide) ?_
    refine va_lald hx hb hK (cx_one ((BW_O (G := G) (cA := cA) (H0 := H0) (sv := (svOf ix bs)) D (β.1, μ1, oUp β.2.2.1 (Int32.toInt64 r), β.2.2.2)).1 _ H hP 0 (by decide))) 0 2 rfl rfl (nI_in (c := 0) (N := 1) (by decide) (by decide)) dL_law_1726 ?_
    rw [oUp_0]
    refine lv_iload hx hb dL_law_1727 (lv_at hl 0 rfl) ?_
    refine lv_i2l hx hb dL_law_1729 rfl ?_
    refine cx_lceq (tgt := 1736) hx hb dL_law_1730 dL_law_1731 (by decide) (fun _ => ?_) (fun c8 => absurd rfl c8)
    refine lv_goto (tgt := 2386) hx hb dL_law_1736 (by decide) ?_
    exact next (β.1, μ1, oUp β.2.2.1 (Int32.toInt64 r), β.2.2.2) ix bs _ _ _ _ _ ⟨D, hI, hP, h7, hL⟩ (by omega) (by omega) (lv_sub hl [2, 3, 4, 5, 6, 7] rfl)
def Sim_between (N : Nat) (Top Toq : TopT) : Prop := ∀ (γ : GLS) (μ : MdlS) (κ : Nat → CacS) (ix : Nat → Option Nat) (nb : Nat) (p0 : Int32) (p1 : Int32) (p2 : Int32), Top γ μ κ ix nb → ∃ (res : Nat ⊕ (Int32)) (b : Int32) (μ1 : MdlS), f_X8_between N γ p0 p1 p2 = some res ∧ (∀ k, res = .inl k → k = 0 ∨ k = 1) ∧ f_X9_between N μ p0 p1 p2 = some (b, μ1) ∧ f_X9_thrown μ1 = some (wCode 0 res) ∧ (∀ k, res = .inl k → Toq γ μ1 κ ix nb) ∧ ∀ r, res = .inr r → b = r ∧ Toq γ μ1 κ ix nb
set_option maxHeartbeats 2000000 in
set_option maxRecDepth 100000 in
theorem w_law_between {p : Program} {l : Launch} {e : Env} {s : State} {m : MethodId} {args : Array Value} {below : List Frame} {meth : Method} {c : Code} {G : va_G} {cA : Nat → ClassId} {H0 : Heap} {lo aG aM aO : Nat} {z : ZS} {Top Toq : TopT} {b L j N cells slots : Nat} {xs : Nat → Int32} {Q : State → Prop} (F : LwF l p s m args c G cA lo z b L xs) (hj : 6 * j + 5 < L) (hS : Sim_between N Top Toq) {β : BigS} {ix : Nat → Option Nat} {bs : List Nat} {H : Heap} {locs : List Loc} {ls : Array Slot} (St : LwS G cA H0 lo aG aM aO Top β ix bs H locs) (hcs : cells ≤ 500000) (hss : slots ≤ 7000000) (hl : lv_has ls 10 [(5, .int (nI (6 * j))), (0, .ref b), (1, .ref aG), (2, .ref aM), (3, .ref aO), (4, .ref (aO + 1))]) (next : LwN p l e s m args below meth c G cA H0 lo aG aM aO Toq b j cells slots Q) : W p l e room_1 s m args below meth c H locs cells slots Q (F0 m 1739 ls []) := by
  obtain ⟨⟨hl0, hx, hb, hml, hown, hts⟩, hN, hZ, hX3, hX, hbl, hbo, hL3⟩ := id F
  have hK := hN.1
  obtain ⟨D, hI, hP, hT, hL⟩ := St
  obtain ⟨res, bb, μ1, h1, h2, h3, h4, h5, h6⟩ := hS β.1 β.2.1 β.2.2.2.2 ix bs.length (xs (6 * j + 1)) (xs (6 * j + 2)) (xs (6 * j + 3)) hT
  cases res with
  | inl k =>
    refine lv_aload_n hx hb dL_law_1739 rfl (lv_at hl 2 rfl) ?_
    refine lv_aload_n hx hb dL_law_1740 rfl (lv_at hl 1 rfl) ?_
    refine lv_iload hx hb dL_law_1741 (lv_at hl 0 rfl) ?_
    refine lv_iconst (v := 1) hx hb dL_law_1743 (by decide) ?_
    refine lv_iadd hx hb dL_law_1744 ?_
    rw [show nI (6 * j) + 1 = nI (6 * j + 1) from nI_add (6 * j) 1]
    refine lw_scr hx hb hX hbl hbo hL3 hL (by omega) dL_law_1745 ?_
    refine lv_aload_n hx hb dL_law_1746 rfl (lv_at hl 1 rfl) ?_
    refine lv_iload hx hb dL_law_1747 (lv_at hl 0 rfl) ?_
    refine lv_iconst (v := 2) hx hb dL_law_1749 (by decide) ?_
    refine lv_iadd hx hb dL_law_1750 ?_
    rw [show nI (6 * j) + 2 = nI (6 * j + 2) from nI_add (6 * j) 2]
    refine lw_scr hx hb hX hbl hbo hL3 hL (by omega) dL_law_1751 ?_
    refine lv_aload_n hx hb dL_law_1752 rfl (lv_at hl 1 rfl) ?_
    refine lv_iload hx hb dL_law_1753 (lv_at hl 0 rfl) ?_
    refine lv_iconst (v := 3) hx hb dL_law_1755 (by decide) ?_
    refine lv_iadd hx hb dL_law_1756 ?_
    rw [show nI (6 * j) + 3 = nI (6 * j + 3) from nI_add (6 * j) 3]
    refine lw_scr hx hb hX hbl hbo hL3 hL (by omega) dL_law_1757 ?_
    refine lv_aload_n hx hb dL_law_1758 rfl (lv_at hl 4 rfl) ?_
    refine wx_call (As := [.ref aG, .int (xs (6 * j + 1)), .int (xs (6 * j + 2)), .int (xs (6 * j + 3)), .ref aO]) (rest := []) ⟨hx, hb, hml, hown, hts⟩ (c_L_between (G := G) (cA := cA) (H0 := H0) (sv := svOf ix bs) hl0 D h1 h2) (vx_cwSW 5 hts (gSWx mw_1139 mw_1140 mw_130 mw_1141) rfl rfl rfl hd_L_between ⟨Nat.le_of_ble_eq_true rfl, Nat.le_of_ble_eq_true rfl⟩) hN hZ hX3 hP rfl hl.1 rfl (Nat.le_of_ble_eq_true rfl) dL_law_1759 ⟨by show cells + 3 ≤ 601024; omega, by show slots + 18 ≤ 7293034; omega⟩ hL (fun H locs hP hL => ?_)
    have hP : BW G cA H0 lo aG aM aO bs (svOf ix bs) β H := hP
    refine lv_istore (lv' := [(6, .int (wCode 0 (.inl k : Nat ⊕ (Int32)))), (5, .int (nI (6 * j))), (0, .ref b), (1, .ref aG), (2, .ref aM), (3, .ref aO), (4, .ref (aO + 1))]) hx hb dL_law_1762 hl (by decide) rfl (fun ls hl => ?_)
    refine lv_aload_n hx hb dL_law_1764 rfl (lv_at hl 4 rfl) ?_
    refine lv_aload_n hx hb dL_law_1765 rfl (lv_at hl 2 rfl) ?_
    refine lv_iload hx hb dL_law_1766 (lv_at hl 1 rfl) ?_
    refine lv_iconst (v := 1) hx hb dL_law_1768 (by decide) ?_
    refine lv_iadd hx hb dL_law_1769 ?_
    rw [show nI (6 * j) + 1 = nI (6 * j + 1) from nI_add (6 * j) 1]
    refine lw_scr hx hb hX hbl hbo hL3 hL (by omega) dL_law_1770 ?_
    refine lv_aload_n hx hb dL_law_1771 rfl (lv_at hl 2 rfl) ?_
    refine lv_iload hx hb dL_law_1772 (lv_at hl 1 rfl) ?_
    refine lv_iconst (v := 2) hx hb dL_law_1774 (by decide) ?_
    refine lv_iadd hx hb dL_law_1775 ?_
    rw [show nI (6 * j) + 2 = nI (6 * j + 2) from nI_add (6 * j) 2]
    refine lw_scr hx hb hX hbl hbo hL3 hL (by omega) dL_law_1776 ?_
    refine lv_aload_n hx hb dL_law_1777 rfl (lv_at hl 2 rfl) ?_
    refine lv_iload hx hb dL_law_1778 (lv_at hl 1 rfl) ?_
    refine lv_iconst (v := 3) hx hb dL_law_1780 (by decide) ?_
    refine lv_iadd hx hb dL_law_1781 ?_
    rw [show nI (6 * j) + 3 = nI (6 * j + 3) from nI_add (6 * j) 3]
    refine lw_scr hx hb hX hbl hbo hL3 hL (by omega) dL_law_1782 ?_
    refine cx_callV (As := [.int (xs (6 * j + 1)), .int (xs (6 * j + 2)), .int (xs (6 * j + 3))]) (rest := []) ⟨hx, hb, hml, hown, hts⟩ (c_X9_between (BW_M (G := G) (cA := cA) (H0 := H0) (sv := (svOf ix bs)) D β) h3) (cwV 3 hts (gV mw_1150 mw_1151 mw_1152 mw_5 mw_1153) rfl rfl rfl hd_X9_between ⟨Nat.le_of_ble_eq_true rfl, Nat.le_of_ble_eq_true rfl⟩) hK hP rfl (at_Model (BW_M (G := G) (cA := cA) (H0 := H0) (sv := (svOf ix bs)) D β) hP) rfl hl.1 rfl (Nat.le_of_ble_eq_true rfl) dL_law_1783 ⟨by show cells + 3 + 0 ≤ 601024; omega, by show slots + 18 + 0 ≤ 7293034; omega⟩ hL (fun H locs hP hL => ?_)
    have hP : BW G cA H0 lo aG aM aO bs (svOf ix bs) (β.1, μ1, β.2.2) H := hP
    refine lv_istore (lv' := [(7, .int bb), (6, .int (wCode 0 (.inl k : Nat ⊕ (Int32)))), (5, .int (nI (6 * j))), (0, .ref b), (1, .ref aG), (2, .ref aM), (3, .ref aO), (4, .ref (aO + 1))]) hx hb dL_law_1786 hl (by decide) rfl (fun ls hl => ?_)
    refine lv_aload_n hx hb dL_law_1788 rfl (lv_at hl 5 rfl) ?_
    refine cx_callV (As := []) (rest := []) ⟨hx, hb, hml, hown, hts⟩ (c_X9_thrown (BW_M (G := G) (cA := cA) (H0 := H0) (sv := (svOf ix bs)) D (β.1, μ1, β.2.2)) h4) (cwV 0 hts (gV mw_155 mw_156 mw_157 mw_5 mw_158) rfl rfl rfl hd_X9_thrown ⟨Nat.le_of_ble_eq_true rfl, Nat.le_of_ble_eq_true rfl⟩) hK hP rfl (at_Model (BW_M (G := G) (cA := cA) (H0 := H0) (sv := (svOf ix bs)) D (β.1, μ1, β.2.2)) hP) rfl hl.1 rfl (Nat.le_of_ble_eq_true rfl) dL_law_1789 ⟨by show cells + 3 + 0 + 0 ≤ 601024; omega, by show slots + 18 + 0 + 0 ≤ 7293034; omega⟩ hL (fun H locs hP hL => ?_)
    refine lv_iload hx hb dL_law_1792 (lv_at hl 1 rfl) ?_
    refine lv_icmp_eq (tgt := 1799) hx hb dL_law_1794 (by decide) (fun _ => ?_) (fun c8 => absurd rfl c8)
    refine lv_iload hx hb dL_law_1799 (lv_at hl 1 rfl) ?_
    refine lv_if_ne (tgt := 1816) hx hb dL_law_1801 (by decide) (fun _ => ?_) (fun c8 => absurd c8 wCode_ne)
    refine lv_goto (tgt := 2386) hx hb dL_law_1816 (by decide) ?_
    exact next (β.1, μ1, β.2.2) ix bs _ _ _ _ _ ⟨D, hI, hP, (h5 k rfl), hL⟩ (by omega) (by omega) (lv_sub hl [2, 3, 4, 5, 6, 7] rfl)
  | inr r =>
    obtain ⟨hbb, h7⟩ := h6 r rfl
    replace hbb := hbb.symm
    subst hbb
    refine lv_aload_n hx hb dL_law_1739 rfl (lv_at hl 2 rfl) ?_
    refine lv_aload_n hx hb dL_law_1740 rfl (lv_at hl 1 rfl) ?_
    refine lv_iload hx hb dL_law_1741 (lv_at hl 0 rfl) ?_
    refine lv_iconst (v := 1) hx hb dL_law_1743 (by decide) ?_
    refine lv_iadd hx hb dL_law_1744 ?_
    rw [show nI (6 * j) + 1 = nI (6 * j + 1) from nI_add (6 * j) 1]
    refine lw_scr hx hb hX hbl hbo hL3 hL (by omega) dL_law_1745 ?_
    refine lv_aload_n hx hb dL_law_1746 rfl (lv_at hl 1 rfl) ?_
    refine lv_iload hx hb dL_law_1747 (lv_at hl 0 rfl) ?_
    refine lv_iconst (v := 2) hx hb dL_law_1749 (by decide) ?_
    refine lv_iadd hx hb dL_law_1750 ?_
    rw [show nI (6 * j) + 2 = nI (6 * j + 2) from nI_add (6 * j) 2]
    refine lw_scr hx hb hX hbl hbo hL3 hL (by omega) dL_law_1751 ?_
    refine lv_aload_n hx hb dL_law_1752 rfl (lv_at hl 1 rfl) ?_
    refine lv_iload hx hb dL_law_1753 (lv_at hl 0 rfl) ?_
    refine lv_iconst (v := 3) hx hb dL_law_1755 (by decide) ?_
    refine lv_iadd hx hb dL_law_1756 ?_
    rw [show nI (6 * j) + 3 = nI (6 * j + 3) from nI_add (6 * j) 3]
    refine lw_scr hx hb hX hbl hbo hL3 hL (by omega) dL_law_1757 ?_
    refine lv_aload_n hx hb dL_law_1758 rfl (lv_at hl 4 rfl) ?_
    refine wx_call (As := [.ref aG, .int (xs (6 * j + 1)), .int (xs (6 * j + 2)), .int (xs (6 * j + 3)), .ref aO]) (rest := []) ⟨hx, hb, hml, hown, hts⟩ (c_L_between (G := G) (cA := cA) (H0 := H0) (sv := svOf ix bs) hl0 D h1 h2) (vx_cwSW 5 hts (gSWx mw_1139 mw_1140 mw_130 mw_1141) rfl rfl rfl hd_L_between ⟨Nat.le_of_ble_eq_true rfl, Nat.le_of_ble_eq_true rfl⟩) hN hZ hX3 hP rfl hl.1 rfl (Nat.le_of_ble_eq_true rfl) dL_law_1759 ⟨by show cells + 3 ≤ 601024; omega, by show slots + 18 ≤ 7293034; omega⟩ hL (fun H locs hP hL => ?_)
    have hP : BW G cA H0 lo aG aM aO bs (svOf ix bs) (β.1, β.2.1, oUp β.2.2.1 (Int32.toInt64 r), β.2.2.2) H := hP
    refine lv_istore (lv' := [(6, .int 0), (5, .int (nI (6 * j))), (0, .ref b), (1, .ref aG), (2, .ref aM), (3, .ref aO), (4, .ref (aO + 1))]) hx hb dL_law_1762 hl (by decide) rfl (fun ls hl => ?_)
    refine lv_aload_n hx hb dL_law_1764 rfl (lv_at hl 4 rfl) ?_
    refine lv_aload_n hx hb dL_law_1765 rfl (lv_at hl 2 rfl) ?_
    refine lv_iload hx hb dL_law_1766 (lv_at hl 1 rfl) ?_
    refine lv_iconst (v := 1) hx hb dL_law_1768 (by decide) ?_
    refine lv_iadd hx hb dL_law_1769 ?_
    rw [show nI (6 * j) + 1 = nI (6 * j + 1) from nI_add (6 * j) 1]
    refine lw_scr hx hb hX hbl hbo hL3 hL (by omega) dL_law_1770 ?_
    refine lv_aload_n hx hb dL_law_1771 rfl (lv_at hl 2 rfl) ?_
    refine lv_iload hx hb dL_law_1772 (lv_at hl 1 rfl) ?_
    refine lv_iconst (v := 2) hx hb dL_law_1774 (by decide) ?_
    refine lv_iadd hx hb dL_law_1775 ?_
    rw [show nI (6 * j) + 2 = nI (6 * j + 2) from nI_add (6 * j) 2]
    refine lw_scr hx hb hX hbl hbo hL3 hL (by omega) dL_law_1776 ?_
    refine lv_aload_n hx hb dL_law_1777 rfl (lv_at hl 2 rfl) ?_
    refine lv_iload hx hb dL_law_1778 (lv_at hl 1 rfl) ?_
    refine lv_iconst (v := 3) hx hb dL_law_1780 (by decide) ?_
    refine lv_iadd hx hb dL_law_1781 ?_
    rw [show nI (6 * j) + 3 = nI (6 * j + 3) from nI_add (6 * j) 3]
    refine lw_scr hx hb hX hbl hbo hL3 hL (by omega) dL_law_1782 ?_
    refine cx_callV (As := [.int (xs (6 * j + 1)), .int (xs (6 * j + 2)), .int (xs (6 * j + 3))]) (rest := []) ⟨hx, hb, hml, hown, hts⟩ (c_X9_between (BW_M (G := G) (cA := cA) (H0 := H0) (sv := (svOf ix bs)) D (β.1, β.2.1, oUp β.2.2.1 (Int32.toInt64 r), β.2.2.2)) h3) (cwV 3 hts (gV mw_1150 mw_1151 mw_1152 mw_5 mw_1153) rfl rfl rfl hd_X9_between ⟨Nat.le_of_ble_eq_true rfl, Nat.le_of_ble_eq_true rfl⟩) hK hP rfl (at_Model (BW_M (G := G) (cA := cA) (H0 := H0) (sv := (svOf ix bs)) D (β.1, β.2.1, oUp β.2.2.1 (Int32.toInt64 r), β.2.2.2)) hP) rfl hl.1 rfl (Nat.le_of_ble_eq_true rfl) dL_law_1783 ⟨by show cells + 3 + 0 ≤ 601024; omega, by show slots + 18 + 0 ≤ 7293034; omega⟩ hL (fun H locs hP hL => ?_)
    have hP : BW G cA H0 lo aG aM aO bs (svOf ix bs) (β.1, μ1, oUp β.2.2.1 (Int32.toInt64 r), β.2.2.2) H := hP
    refine lv_istore (lv' := [(7, .int r), (6, .int 0), (5, .int (nI (6 * j))), (0, .ref b), (1, .ref aG), (2, .ref aM), (3, .ref aO), (4, .ref (aO + 1))]) hx hb dL_law_1786 hl (by decide) rfl (fun ls hl => ?_)
    refine lv_aload_n hx hb dL_law_1788 rfl (lv_at hl 5 rfl) ?_
    refine cx_callV (As := []) (rest := []) ⟨hx, hb, hml, hown, hts⟩ (c_X9_thrown (BW_M (G := G) (cA := cA) (H0 := H0) (sv := (svOf ix bs)) D (β.1, μ1, oUp β.2.2.1 (Int32.toInt64 r), β.2.2.2)) h4) (cwV 0 hts (gV mw_155 mw_156 mw_157 mw_5 mw_158) rfl rfl rfl hd_X9_thrown ⟨Nat.le_of_ble_eq_true rfl, Nat.le_of_ble_eq_true rfl⟩) hK hP rfl (at_Model (BW_M (G := G) (cA := cA) (H0 := H0) (sv := (svOf ix bs)) D (β.1, μ1, oUp β.2.2.1 (Int32.toInt64 r), β.2.2.2)) hP) rfl hl.1 rfl (Nat.le_of_ble_eq_true rfl) dL_law_1789 ⟨by show cells + 3 + 0 + 0 ≤ 601024; omega, by show slots + 18 + 0 + 0 ≤ 7293034; omega⟩ hL (fun H locs hP hL => ?_)
    refine lv_iload hx hb dL_law_1792 (lv_at hl 1 rfl) ?_
    refine lv_icmp_eq (tgt := 1799) hx hb dL_law_1794 (by decide) (fun _ => ?_) (fun c8 => absurd rfl c8)
    refine lv_iload hx hb dL_law_1799 (lv_at hl 1 rfl) ?_
    refine lv_if_ne (tgt := 1816) hx hb dL_law_1801 (by decide) (fun c8 => absurd rfl c8) (fun _ => ?_)
    refine lv_aload_n hx hb dL_law_1804 rfl (lv_at hl 6 rfl) ?_
    refine lv_iconst (v := 0) hx hb dL_law_1805 (by decide) ?_
    refine va_lald hx hb hK (cx_one ((BW_O (G := G) (cA := cA) (H0 := H0) (sv := (svOf ix bs)) D (β.1, μ1, oUp β.2.2.1 (Int32.toInt64 r), β.2.2.2)).1 _ H hP 0 (by decide))) 0 2 rfl rfl (nI_in (c := 0) (N := 1) (by decide) (by decide)) dL_law_1806 ?_
    rw [oUp_0]
    refine lv_iload hx hb dL_law_1807 (lv_at hl 0 rfl) ?_
    refine lv_i2l hx hb dL_law_1809 rfl ?_
    refine cx_lceq (tgt := 1816) hx hb dL_law_1810 dL_law_1811 (by decide) (fun _ => ?_) (fun c8 => absurd rfl c8)
    refine lv_goto (tgt := 2386) hx hb dL_law_1816 (by decide) ?_
    exact next (β.1, μ1, oUp β.2.2.1 (Int32.toInt64 r), β.2.2.2) ix bs _ _ _ _ _ ⟨D, hI, hP, h7, hL⟩ (by omega) (by omega) (lv_sub hl [2, 3, 4, 5, 6, 7] rfl)
def Sim_longest (N : Nat) (Top Toq : TopT) : Prop := ∀ (γ : GLS) (μ : MdlS) (κ : Nat → CacS) (ix : Nat → Option Nat) (nb : Nat) (p0 : Int32), Top γ μ κ ix nb → ∃ (res : Nat ⊕ (Int32)) (b : Int32) (μ1 : MdlS), f_X8_longest N γ p0 = some res ∧ (∀ k, res = .inl k → k = 0) ∧ f_X9_longest N μ p0 = some (b, μ1) ∧ f_X9_thrown μ1 = some (wCode 0 res) ∧ (∀ k, res = .inl k → Toq γ μ1 κ ix nb) ∧ ∀ r, res = .inr r → b = r ∧ Toq γ μ1 κ ix nb
set_option maxHeartbeats 2000000 in
set_option maxRecDepth 100000 in
theorem w_law_longest {p : Program} {l : Launch} {e : Env} {s : State} {m : MethodId} {args : Array Value} {below : List Frame} {meth : Method} {c : Code} {G : va_G} {cA : Nat → ClassId} {H0 : Heap} {lo aG aM aO : Nat} {z : ZS} {Top Toq : TopT} {b L j N cells slots : Nat} {xs : Nat → Int32} {Q : State → Prop} (F : LwF l p s m args c G cA lo z b L xs) (hj : 6 * j + 5 < L) (hS : Sim_longest N Top Toq) {β : BigS} {ix : Nat → Option Nat} {bs : List Nat} {H : Heap} {locs : List Loc} {ls : Array Slot} (St : LwS G cA H0 lo aG aM aO Top β ix bs H locs) (hcs : cells ≤ 500000) (hss : slots ≤ 7000000) (hl : lv_has ls 10 [(5, .int (nI (6 * j))), (0, .ref b), (1, .ref aG), (2, .ref aM), (3, .ref aO), (4, .ref (aO + 1))]) (next : LwN p l e s m args below meth c G cA H0 lo aG aM aO Toq b j cells slots Q) : W p l e room_1 s m args below meth c H locs cells slots Q (F0 m 1819 ls []) := by
  obtain ⟨⟨hl0, hx, hb, hml, hown, hts⟩, hN, hZ, hX3, hX, hbl, hbo, hL3⟩ := id F
  have hK := hN.1
  obtain ⟨D, hI, hP, hT, hL⟩ := St
  obtain ⟨res, bb, μ1, h1, h2, h3, h4, h5, h6⟩ := hS β.1 β.2.1 β.2.2.2.2 ix bs.length (xs (6 * j + 1)) hT
  cases res with
  | inl k =>
    refine lv_aload_n hx hb dL_law_1819 rfl (lv_at hl 2 rfl) ?_
    refine lv_aload_n hx hb dL_law_1820 rfl (lv_at hl 1 rfl) ?_
    refine lv_iload hx hb dL_law_1821 (lv_at hl 0 rfl) ?_
    refine lv_iconst (v := 1) hx hb dL_law_1823 (by decide) ?_
    refine lv_iadd hx hb dL_law_1824 ?_
    rw [show nI (6 * j) + 1 = nI (6 * j + 1) from nI_add (6 * j) 1]
    refine lw_scr hx hb hX hbl hbo hL3 hL (by omega) dL_law_1825 ?_
    refine lv_aload_n hx hb dL_law_1826 rfl (lv_at hl 4 rfl) ?_
    refine wx_call (As := [.ref aG, .int (xs (6 * j + 1)), .ref aO]) (rest := []) ⟨hx, hb, hml, hown, hts⟩ (c_L_longest (G := G) (cA := cA) (H0 := H0) (sv := svOf ix bs) hl0 D h1 h2) (vx_cwSW 3 hts (gSWx mw_1154 mw_1155 mw_130 mw_1156) rfl rfl rfl hd_L_longest ⟨Nat.le_of_ble_eq_true rfl, Nat.le_of_ble_eq_true rfl⟩) hN hZ hX3 hP rfl hl.1 rfl (Nat.le_of_ble_eq_true rfl) dL_law_1827 ⟨by show cells + 1 ≤ 601024; omega, by show slots + 6 ≤ 7293034; omega⟩ hL (fun H locs hP hL => ?_)
    have hP : BW G cA H0 lo aG aM aO bs (svOf ix bs) β H := hP
    refine lv_istore (lv' := [(6, .int (wCode 0 (.inl k : Nat ⊕ (Int32)))), (5, .int (nI (6 * j))), (0, .ref b), (1, .ref aG), (2, .ref aM), (3, .ref aO), (4, .ref (aO + 1))]) hx hb dL_law_1830 hl (by decide) rfl (fun ls hl => ?_)
    refine lv_aload_n hx hb dL_law_1832 rfl (lv_at hl 4 rfl) ?_
    refine lv_aload_n hx hb dL_law_1833 rfl (lv_at hl 2 rfl) ?_
    refine lv_iload hx hb dL_law_1834 (lv_at hl 1 rfl) ?_
    refine lv_iconst (v := 1) hx hb dL_law_1836 (by decide) ?_
    refine lv_iadd hx hb dL_law_1837 ?_
    rw [show nI (6 * j) + 1 = nI (6 * j + 1) from nI_add (6 * j) 1]
    refine lw_scr hx hb hX hbl hbo hL3 hL (by omega) dL_law_1838 ?_
    refine cx_callV (As := [.int (xs (6 * j + 1))]) (rest := []) ⟨hx, hb, hml, hown, hts⟩ (c_X9_longest (BW_M (G := G) (cA := cA) (H0 := H0) (sv := (svOf ix bs)) D β) h3) (cwV 1 hts (gV mw_1166 mw_1167 mw_1168 mw_5 mw_1169) rfl rfl rfl hd_X9_longest ⟨Nat.le_of_ble_eq_true rfl, Nat.le_of_ble_eq_true rfl⟩) hK hP rfl (at_Model (BW_M (G := G) (cA := cA) (H0 := H0) (sv := (svOf ix bs)) D β) hP) rfl hl.1 rfl (Nat.le_of_ble_eq_true rfl) dL_law_1839 ⟨by show cells + 1 + 0 ≤ 601024; omega, by show slots + 6 + 0 ≤ 7293034; omega⟩ hL (fun H locs hP hL => ?_)
    have hP : BW G cA H0 lo aG aM aO bs (svOf ix bs) (β.1, μ1, β.2.2) H := hP
    refine lv_istore (lv' := [(7, .int bb), (6, .int (wCode 0 (.inl k : Nat ⊕ (Int32)))), (5, .int (nI (6 * j))), (0, .ref b), (1, .ref aG), (2, .ref aM), (3, .ref aO), (4, .ref (aO + 1))]) hx hb dL_law_1842 hl (by decide) rfl (fun ls hl => ?_)
    refine lv_aload_n hx hb dL_law_1844 rfl (lv_at hl 5 rfl) ?_
    refine cx_callV (As := []) (rest := []) ⟨hx, hb, hml, hown, hts⟩ (c_X9_thrown (BW_M (G := G) (cA := cA) (H0 := H0) (sv := (svOf ix bs)) D (β.1, μ1, β.2.2)) h4) (cwV 0 hts (gV mw_155 mw_156 mw_157 mw_5 mw_158) rfl rfl rfl hd_X9_thrown ⟨Nat.le_of_ble_eq_true rfl, Nat.le_of_ble_eq_true rfl⟩) hK hP rfl (at_Model (BW_M (G := G) (cA := cA) (H0 := H0) (sv := (svOf ix bs)) D (β.1, μ1, β.2.2)) hP) rfl hl.1 rfl (Nat.le_of_ble_eq_true rfl) dL_law_1845 ⟨by show cells + 1 + 0 + 0 ≤ 601024; omega, by show slots + 6 + 0 + 0 ≤ 7293034; omega⟩ hL (fun H locs hP hL => ?_)
    refine lv_iload hx hb dL_law_1848 (lv_at hl 1 rfl) ?_
    refine lv_icmp_eq (tgt := 1855) hx hb dL_law_1850 (by decide) (fun _ => ?_) (fun c8 => absurd rfl c8)
    refine lv_iload hx hb dL_law_1855 (lv_at hl 1 rfl) ?_
    refine lv_if_ne (tgt := 1872) hx hb dL_law_1857 (by decide) (fun _ => ?_) (fun c8 => absurd c8 wCode_ne)
    refine lv_goto (tgt := 2386) hx hb dL_law_1872 (by decide) ?_
    exact next (β.1, μ1, β.2.2) ix bs _ _ _ _ _ ⟨D, hI, hP, (h5 k rfl), hL⟩ (by omega) (by omega) (lv_sub hl [2, 3, 4, 5, 6, 7] rfl)
  | inr r =>
    obtain ⟨hbb, h7⟩ := h6 r rfl
    replace hbb := hbb.symm
    subst hbb
    refine lv_aload_n hx hb dL_law_1819 rfl (lv_at hl 2 rfl) ?_
    refine lv_aload_n hx hb dL_law_1820 rfl (lv_at hl 1 rfl) ?_
    refine lv_iload hx hb dL_law_1821 (lv_at hl 0 rfl) ?_
    refine lv_iconst (v := 1) hx hb dL_law_1823 (by decide) ?_
    refine lv_iadd hx hb dL_law_1824 ?_
    rw [show nI (6 * j) + 1 = nI (6 * j + 1) from nI_add (6 * j) 1]
    refine lw_scr hx hb hX hbl hbo hL3 hL (by omega) dL_law_1825 ?_
    refine lv_aload_n hx hb dL_law_1826 rfl (lv_at hl 4 rfl) ?_
    refine wx_call (As := [.ref aG, .int (xs (6 * j + 1)), .ref aO]) (rest := []) ⟨hx, hb, hml, hown, hts⟩ (c_L_longest (G := G) (cA := cA) (H0 := H0) (sv := svOf ix bs) hl0 D h1 h2) (vx_cwSW 3 hts (gSWx mw_1154 mw_1155 mw_130 mw_1156) rfl rfl rfl hd_L_longest ⟨Nat.le_of_ble_eq_true rfl, Nat.le_of_ble_eq_true rfl⟩) hN hZ hX3 hP rfl hl.1 rfl (Nat.le_of_ble_eq_true rfl) dL_law_1827 ⟨by show cells + 1 ≤ 601024; omega, by show slots + 6 ≤ 7293034; omega⟩ hL (fun H locs hP hL => ?_)
    have hP : BW G cA H0 lo aG aM aO bs (svOf ix bs) (β.1, β.2.1, oUp β.2.2.1 (Int32.toInt64 r), β.2.2.2) H := hP
    refine lv_istore (lv' := [(6, .int 0), (5, .int (nI (6 * j))), (0, .ref b), (1, .ref aG), (2, .ref aM), (3, .ref aO), (4, .ref (aO + 1))]) hx hb dL_law_1830 hl (by decide) rfl (fun ls hl => ?_)
    refine lv_aload_n hx hb dL_law_1832 rfl (lv_at hl 4 rfl) ?_
    refine lv_aload_n hx hb dL_law_1833 rfl (lv_at hl 2 rfl) ?_
    refine lv_iload hx hb dL_law_1834 (lv_at hl 1 rfl) ?_
    refine lv_iconst (v := 1) hx hb dL_law_1836 (by decide) ?_
    refine lv_iadd hx hb dL_law_1837 ?_
    rw [show nI (6 * j) + 1 = nI (6 * j + 1) from nI_add (6 * j) 1]
    refine lw_scr hx hb hX hbl hbo hL3 hL (by omega) dL_law_1838 ?_
    refine cx_callV (As := [.int (xs (6 * j + 1))]) (rest := []) ⟨hx, hb, hml, hown, hts⟩ (c_X9_longest (BW_M (G := G) (cA := cA) (H0 := H0) (sv := (svOf ix bs)) D (β.1, β.2.1, oUp β.2.2.1 (Int32.toInt64 r), β.2.2.2)) h3) (cwV 1 hts (gV mw_1166 mw_1167 mw_1168 mw_5 mw_1169) rfl rfl rfl hd_X9_longest ⟨Nat.le_of_ble_eq_true rfl, Nat.le_of_ble_eq_true rfl⟩) hK hP rfl (at_Model (BW_M (G := G) (cA := cA) (H0 := H0) (sv := (svOf ix bs)) D (β.1, β.2.1, oUp β.2.2.1 (Int32.toInt64 r), β.2.2.2)) hP) rfl hl.1 rfl (Nat.le_of_ble_eq_true rfl) dL_law_1839 ⟨by show cells + 1 + 0 ≤ 601024; omega, by show slots + 6 + 0 ≤ 7293034; omega⟩ hL (fun H locs hP hL => ?_)
    have hP : BW G cA H0 lo aG aM aO bs (svOf ix bs) (β.1, μ1, oUp β.2.2.1 (Int32.toInt64 r), β.2.2.2) H := hP
    refine lv_istore (lv' := [(7, .int r), (6, .int 0), (5, .int (nI (6 * j))), (0, .ref b), (1, .ref aG), (2, .ref aM), (3, .ref aO), (4, .ref (aO + 1))]) hx hb dL_law_1842 hl (by decide) rfl (fun ls hl => ?_)
    refine lv_aload_n hx hb dL_law_1844 rfl (lv_at hl 5 rfl) ?_
    refine cx_callV (As := []) (rest := []) ⟨hx, hb, hml, hown, hts⟩ (c_X9_thrown (BW_M (G := G) (cA := cA) (H0 := H0) (sv := (svOf ix bs)) D (β.1, μ1, oUp β.2.2.1 (Int32.toInt64 r), β.2.2.2)) h4) (cwV 0 hts (gV mw_155 mw_156 mw_157 mw_5 mw_158) rfl rfl rfl hd_X9_thrown ⟨Nat.le_of_ble_eq_true rfl, Nat.le_of_ble_eq_true rfl⟩) hK hP rfl (at_Model (BW_M (G := G) (cA := cA) (H0 := H0) (sv := (svOf ix bs)) D (β.1, μ1, oUp β.2.2.1 (Int32.toInt64 r), β.2.2.2)) hP) rfl hl.1 rfl (Nat.le_of_ble_eq_true rfl) dL_law_1845 ⟨by show cells + 1 + 0 + 0 ≤ 601024; omega, by show slots + 6 + 0 + 0 ≤ 7293034; omega⟩ hL (fun H locs hP hL => ?_)
    refine lv_iload hx hb dL_law_1848 (lv_at hl 1 rfl) ?_
    refine lv_icmp_eq (tgt := 1855) hx hb dL_law_1850 (by decide) (fun _ => ?_) (fun c8 => absurd rfl c8)
    refine lv_iload hx hb dL_law_1855 (lv_at hl 1 rfl) ?_
    refine lv_if_ne (tgt := 1872) hx hb dL_law_1857 (by decide) (fun c8 => absurd rfl c8) (fun _ => ?_)
    refine lv_aload_n hx hb dL_law_1860 rfl (lv_at hl 6 rfl) ?_
    refine lv_iconst (v := 0) hx hb dL_law_1861 (by decide) ?_
    refine va_lald hx hb hK (cx_one ((BW_O (G := G) (cA := cA) (H0 := H0) (sv := (svOf ix bs)) D (β.1, μ1, oUp β.2.2.1 (Int32.toInt64 r), β.2.2.2)).1 _ H hP 0 (by decide))) 0 2 rfl rfl (nI_in (c := 0) (N := 1) (by decide) (by decide)) dL_law_1862 ?_
    rw [oUp_0]
    refine lv_iload hx hb dL_law_1863 (lv_at hl 0 rfl) ?_
    refine lv_i2l hx hb dL_law_1865 rfl ?_
    refine cx_lceq (tgt := 1872) hx hb dL_law_1866 dL_law_1867 (by decide) (fun _ => ?_) (fun c8 => absurd rfl c8)
    refine lv_goto (tgt := 2386) hx hb dL_law_1872 (by decide) ?_
    exact next (β.1, μ1, oUp β.2.2.1 (Int32.toInt64 r), β.2.2.2) ix bs _ _ _ _ _ ⟨D, hI, hP, h7, hL⟩ (by omega) (by omega) (lv_sub hl [2, 3, 4, 5, 6, 7] rfl)
def Sim_differing (N : Nat) (Top Toq : TopT) : Prop := ∀ (γ : GLS) (μ : MdlS) (κ : Nat → CacS) (ix : Nat → Option Nat) (nb : Nat), Top γ μ κ ix nb → ∃ (r : Int32) (μ1 : MdlS), f_X8_differing N γ = some r ∧ f_X9_differing N μ = some (r, μ1) ∧ Toq γ μ1 κ ix nb
set_option maxHeartbeats 2000000 in
set_option maxRecDepth 100000 in
theorem w_law_differing {p : Program} {l : Launch} {e : Env} {s : State} {m : MethodId} {args : Array Value} {below : List Frame} {meth : Method} {c : Code} {G : va_G} {cA : Nat → ClassId} {H0 : Heap} {lo aG aM aO : Nat} {z : ZS} {Top Toq : TopT} {b L j N cells slots : Nat} {xs : Nat → Int32} {Q : State → Prop} (F : LwF l p s m args c G cA lo z b L xs) (hj : 6 * j + 5 < L) (hS : Sim_differing N Top Toq) {β : BigS} {ix : Nat → Option Nat} {bs : List Nat} {H : Heap} {locs : List Loc} {ls : Array Slot} (St : LwS G cA H0 lo aG aM aO Top β ix bs H locs) (hcs : cells ≤ 500000) (hss : slots ≤ 7000000) (hl : lv_has ls 10 [(5, .int (nI (6 * j))), (0, .ref b), (1, .ref aG), (2, .ref aM), (3, .ref aO), (4, .ref (aO + 1))]) (next : LwN p l e s m args below meth c G cA H0 lo aG aM aO Toq b j cells slots Q) : W p l e room_1 s m args below meth c H locs cells slots Q (F0 m 1875 ls []) := by
  obtain ⟨⟨hl0, hx, hb, hml, hown, hts⟩, hN, hZ, hX3, hX, hbl, hbo, hL3⟩ := id F
  have hK := hN.1
  obtain ⟨D, hI, hP, hT, hL⟩ := St
  obtain ⟨r, μ1, h1, h3, hT⟩ := hS β.1 β.2.1 β.2.2.2.2 ix bs.length hT
  refine lv_aload_n hx hb dL_law_1875 rfl (lv_at hl 2 rfl) ?_
  refine cx_callV (As := []) (rest := []) ⟨hx, hb, hml, hown, hts⟩ (c_X8_differing (BW_G (G := G) (cA := cA) (H0 := H0) (sv := svOf ix bs) D β) h1) (cwV 0 hts (gV mw_1174 mw_1175 mw_1176 mw_2 mw_1177) rfl rfl rfl hd_X8_differing ⟨Nat.le_of_ble_eq_true rfl, Nat.le_of_ble_eq_true rfl⟩) hK hP rfl (at_GL (BW_G (G := G) (cA := cA) (H0 := H0) (sv := svOf ix bs) D β) hP) rfl hl.1 rfl (Nat.le_of_ble_eq_true rfl) dL_law_1876 ⟨by show cells + 0 ≤ 601024; omega, by show slots + 0 ≤ 7293034; omega⟩ hL (fun H locs hP hL => ?_)
  have hP : BW G cA H0 lo aG aM aO bs (svOf ix bs) (β.1, β.2) H := hP
  refine lv_aload_n hx hb dL_law_1879 rfl (lv_at hl 3 rfl) ?_
  refine cx_callV (As := []) (rest := [.int r]) ⟨hx, hb, hml, hown, hts⟩ (c_X9_differing (BW_M (G := G) (cA := cA) (H0 := H0) (sv := (svOf ix bs)) D (β.1, β.2)) h3) (cwV 0 hts (gV mw_1182 mw_1183 mw_1184 mw_5 mw_1185) rfl rfl rfl hd_X9_differing ⟨Nat.le_of_ble_eq_true rfl, Nat.le_of_ble_eq_true rfl⟩) hK hP rfl (at_Model (BW_M (G := G) (cA := cA) (H0 := H0) (sv := (svOf ix bs)) D (β.1, β.2)) hP) rfl hl.1 rfl (Nat.le_of_ble_eq_true rfl) dL_law_1880 ⟨by show cells + 0 + 0 ≤ 601024; omega, by show slots + 0 + 0 ≤ 7293034; omega⟩ hL (fun H locs hP hL => ?_)
  have hP : BW G cA H0 lo aG aM aO bs (svOf ix bs) (β.1, μ1, β.2.2) H := hP
  refine lv_icmp_eq (tgt := 2386) hx hb dL_law_1883 (by decide) (fun _ => ?_) (fun c8 => absurd rfl c8)
  exact next (β.1, μ1, β.2.2) ix bs _ _ _ _ _ ⟨D, hI, hP, hT, hL⟩ (by omega) (by omega) (lv_sub hl [0, 1, 2, 3, 4, 5] rfl)
def Sim_stale (N : Nat) (Top Toq : TopT) : Prop := ∀ (γ : GLS) (μ : MdlS) (κ : Nat → CacS) (ix : Nat → Option Nat) (nb : Nat) (p0 : Int32), Top γ μ κ ix nb → ∃ (res : Nat ⊕ (Int32)) (b : Int32) (μ1 : MdlS), f_X8_stale N γ p0 = some res ∧ (∀ k, res = .inl k → k = 1) ∧ f_X9_stale N μ p0 = some (b, μ1) ∧ f_X9_thrown μ1 = some (wCode 1 res) ∧ (∀ k, res = .inl k → Toq γ μ1 κ ix nb) ∧ ∀ r, res = .inr r → b = r ∧ Toq γ μ1 κ ix nb
set_option maxHeartbeats 2000000 in
set_option maxRecDepth 100000 in
theorem w_law_stale {p : Program} {l : Launch} {e : Env} {s : State} {m : MethodId} {args : Array Value} {below : List Frame} {meth : Method} {c : Code} {G : va_G} {cA : Nat → ClassId} {H0 : Heap} {lo aG aM aO : Nat} {z : ZS} {Top Toq : TopT} {b L j N cells slots : Nat} {xs : Nat → Int32} {Q : State → Prop} (F : LwF l p s m args c G cA lo z b L xs) (hj : 6 * j + 5 < L) (hS : Sim_stale N Top Toq) {β : BigS} {ix : Nat → Option Nat} {bs : List Nat} {H : Heap} {locs : List Loc} {ls : Array Slot} (St : LwS G cA H0 lo aG aM aO Top β ix bs H locs) (hcs : cells ≤ 500000) (hss : slots ≤ 7000000) (hl : lv_has ls 10 [(5, .int (nI (6 * j))), (0, .ref b), (1, .ref aG), (2, .ref aM), (3, .ref aO), (4, .ref (aO + 1))]) (next : LwN p l e s m args below meth c G cA H0 lo aG aM aO Toq b j cells slots Q) : W p l e room_1 s m args below meth c H locs cells slots Q (F0 m 1888 ls []) := by
  obtain ⟨⟨hl0, hx, hb, hml, hown, hts⟩, hN, hZ, hX3, hX, hbl, hbo, hL3⟩ := id F
  have hK := hN.1
  obtain ⟨D, hI, hP, hT, hL⟩ := St
  obtain ⟨res, bb, μ1, h1, h2, h3, h4, h5, h6⟩ := hS β.1 β.2.1 β.2.2.2.2 ix bs.length (xs (6 * j + 1)) hT
  cases res with
  | inl k =>
    refine lv_aload_n hx hb dL_law_1888 rfl (lv_at hl 2 rfl) ?_
    refine lv_aload_n hx hb dL_law_1889 rfl (lv_at hl 1 rfl) ?_
    refine lv_iload hx hb dL_law_1890 (lv_at hl 0 rfl) ?_
    refine lv_iconst (v := 1) hx hb dL_law_1892 (by decide) ?_
    refine lv_iadd hx hb dL_law_1893 ?_
    rw [show nI (6 * j) + 1 = nI (6 * j + 1) from nI_add (6 * j) 1]
    refine lw_scr hx hb hX hbl hbo hL3 hL (by omega) dL_law_1894 ?_
    refine lv_aload_n hx hb dL_law_1895 rfl (lv_at hl 4 rfl) ?_
    refine wx_call (As := [.ref aG, .int (xs (6 * j + 1)), .ref aO]) (rest := []) ⟨hx, hb, hml, hown, hts⟩ (c_L_stale (G := G) (cA := cA) (H0 := H0) (sv := svOf ix bs) hl0 D h1 h2) (vx_cwSW 3 hts (gSWx mw_1186 mw_1187 mw_130 mw_1188) rfl rfl rfl hd_L_stale ⟨Nat.le_of_ble_eq_true rfl, Nat.le_of_ble_eq_true rfl⟩) hN hZ hX3 hP rfl hl.1 rfl (Nat.le_of_ble_eq_true rfl) dL_law_1896 ⟨by show cells + 1 ≤ 601024; omega, by show slots + 6 ≤ 7293034; omega⟩ hL (fun H locs hP hL => ?_)
    have hP : BW G cA H0 lo aG aM aO bs (svOf ix bs) β H := hP
    refine lv_istore (lv' := [(6, .int (wCode 1 (.inl k : Nat ⊕ (Int32)))), (5, .int (nI (6 * j))), (0, .ref b), (1, .ref aG), (2, .ref aM), (3, .ref aO), (4, .ref (aO + 1))]) hx hb dL_law_1899 hl (by decide) rfl (fun ls hl => ?_)
    refine lv_aload_n hx hb dL_law_1901 rfl (lv_at hl 4 rfl) ?_
    refine lv_aload_n hx hb dL_law_1902 rfl (lv_at hl 2 rfl) ?_
    refine lv_iload hx hb dL_law_1903 (lv_at hl 1 rfl) ?_
    refine lv_iconst (v := 1) hx hb dL_law_1905 (by decide) ?_
    refine lv_iadd hx hb dL_law_1906 ?_
    rw [show nI (6 * j) + 1 = nI (6 * j + 1) from nI_add (6 * j) 1]
    refine lw_scr hx hb hX hbl hbo hL3 hL (by omega) dL_law_1907 ?_
    refine cx_callV (As := [.int (xs (6 * j + 1))]) (rest := []) ⟨hx, hb, hml, hown, hts⟩ (c_X9_stale (BW_M (G := G) (cA := cA) (H0 := H0) (sv := (svOf ix bs)) D β) h3) (cwV 1 hts (gV mw_1197 mw_1198 mw_1199 mw_5 mw_1200) rfl rfl rfl hd_X9_stale ⟨Nat.le_of_ble_eq_true rfl, Nat.le_of_ble_eq_true rfl⟩) hK hP rfl (at_Model (BW_M (G := G) (cA := cA) (H0 := H0) (sv := (svOf ix bs)) D β) hP) rfl hl.1 rfl (Nat.le_of_ble_eq_true rfl) dL_law_1908 ⟨by show cells + 1 + 0 ≤ 601024; omega, by show slots + 6 + 0 ≤ 7293034; omega⟩ hL (fun H locs hP hL => ?_)
    have hP : BW G cA H0 lo aG aM aO bs (svOf ix bs) (β.1, μ1, β.2.2) H := hP
    refine lv_istore (lv' := [(7, .int bb), (6, .int (wCode 1 (.inl k : Nat ⊕ (Int32)))), (5, .int (nI (6 * j))), (0, .ref b), (1, .ref aG), (2, .ref aM), (3, .ref aO), (4, .ref (aO + 1))]) hx hb dL_law_1911 hl (by decide) rfl (fun ls hl => ?_)
    refine lv_aload_n hx hb dL_law_1913 rfl (lv_at hl 5 rfl) ?_
    refine cx_callV (As := []) (rest := []) ⟨hx, hb, hml, hown, hts⟩ (c_X9_thrown (BW_M (G := G) (cA := cA) (H0 := H0) (sv := (svOf ix bs)) D (β.1, μ1, β.2.2)) h4) (cwV 0 hts (gV mw_155 mw_156 mw_157 mw_5 mw_158) rfl rfl rfl hd_X9_thrown ⟨Nat.le_of_ble_eq_true rfl, Nat.le_of_ble_eq_true rfl⟩) hK hP rfl (at_Model (BW_M (G := G) (cA := cA) (H0 := H0) (sv := (svOf ix bs)) D (β.1, μ1, β.2.2)) hP) rfl hl.1 rfl (Nat.le_of_ble_eq_true rfl) dL_law_1914 ⟨by show cells + 1 + 0 + 0 ≤ 601024; omega, by show slots + 6 + 0 + 0 ≤ 7293034; omega⟩ hL (fun H locs hP hL => ?_)
    refine lv_iload hx hb dL_law_1917 (lv_at hl 1 rfl) ?_
    refine lv_icmp_eq (tgt := 1924) hx hb dL_law_1919 (by decide) (fun _ => ?_) (fun c8 => absurd rfl c8)
    refine lv_iload hx hb dL_law_1924 (lv_at hl 1 rfl) ?_
    refine lv_if_ne (tgt := 1941) hx hb dL_law_1926 (by decide) (fun _ => ?_) (fun c8 => absurd c8 wCode_ne)
    refine lv_goto (tgt := 2386) hx hb dL_law_1941 (by decide) ?_
    exact next (β.1, μ1, β.2.2) ix bs _ _ _ _ _ ⟨D, hI, hP, (h5 k rfl), hL⟩ (by omega) (by omega) (lv_sub hl [2, 3, 4, 5, 6, 7] rfl)
  | inr r =>
    obtain ⟨hbb, h7⟩ := h6 r rfl
    replace hbb := hbb.symm
    subst hbb
    refine lv_aload_n hx hb dL_law_1888 rfl (lv_at hl 2 rfl) ?_
    refine lv_aload_n hx hb dL_law_1889 rfl (lv_at hl 1 rfl) ?_
    refine lv_iload hx hb dL_law_1890 (lv_at hl 0 rfl) ?_
    refine lv_iconst (v := 1) hx hb dL_law_1892 (by decide) ?_
    refine lv_iadd hx hb dL_law_1893 ?_
    rw [show nI (6 * j) + 1 = nI (6 * j + 1) from nI_add (6 * j) 1]
    refine lw_scr hx hb hX hbl hbo hL3 hL (by omega) dL_law_1894 ?_
    refine lv_aload_n hx hb dL_law_1895 rfl (lv_at hl 4 rfl) ?_
    refine wx_call (As := [.ref aG, .int (xs (6 * j + 1)), .ref aO]) (rest := []) ⟨hx, hb, hml, hown, hts⟩ (c_L_stale (G := G) (cA := cA) (H0 := H0) (sv := svOf ix bs) hl0 D h1 h2) (vx_cwSW 3 hts (gSWx mw_1186 mw_1187 mw_130 mw_1188) rfl rfl rfl hd_L_stale ⟨Nat.le_of_ble_eq_true rfl, Nat.le_of_ble_eq_true rfl⟩) hN hZ hX3 hP rfl hl.1 rfl (Nat.le_of_ble_eq_true rfl) dL_law_1896 ⟨by show cells + 1 ≤ 601024; omega, by show slots + 6 ≤ 7293034; omega⟩ hL (fun H locs hP hL => ?_)
    have hP : BW G cA H0 lo aG aM aO bs (svOf ix bs) (β.1, β.2.1, oUp β.2.2.1 (Int32.toInt64 r), β.2.2.2) H := hP
    refine lv_istore (lv' := [(6, .int 0), (5, .int (nI (6 * j))), (0, .ref b), (1, .ref aG), (2, .ref aM), (3, .ref aO), (4, .ref (aO + 1))]) hx hb dL_law_1899 hl (by decide) rfl (fun ls hl => ?_)
    refine lv_aload_n hx hb dL_law_1901 rfl (lv_at hl 4 rfl) ?_
    refine lv_aload_n hx hb dL_law_1902 rfl (lv_at hl 2 rfl) ?_
    refine lv_iload hx hb dL_law_1903 (lv_at hl 1 rfl) ?_
    refine lv_iconst (v := 1) hx hb dL_law_1905 (by decide) ?_
    refine lv_iadd hx hb dL_law_1906 ?_
    rw [show nI (6 * j) + 1 = nI (6 * j + 1) from nI_add (6 * j) 1]
    refine lw_scr hx hb hX hbl hbo hL3 hL (by omega) dL_law_1907 ?_
    refine cx_callV (As := [.int (xs (6 * j + 1))]) (rest := []) ⟨hx, hb, hml, hown, hts⟩ (c_X9_stale (BW_M (G := G) (cA := cA) (H0 := H0) (sv := (svOf ix bs)) D (β.1, β.2.1, oUp β.2.2.1 (Int32.toInt64 r), β.2.2.2)) h3) (cwV 1 hts (gV mw_1197 mw_1198 mw_1199 mw_5 mw_1200) rfl rfl rfl hd_X9_stale ⟨Nat.le_of_ble_eq_true rfl, Nat.le_of_ble_eq_true rfl⟩) hK hP rfl (at_Model (BW_M (G := G) (cA := cA) (H0 := H0) (sv := (svOf ix bs)) D (β.1, β.2.1, oUp β.2.2.1 (Int32.toInt64 r), β.2.2.2)) hP) rfl hl.1 rfl (Nat.le_of_ble_eq_true rfl) dL_law_1908 ⟨by show cells + 1 + 0 ≤ 601024; omega, by show slots + 6 + 0 ≤ 7293034; omega⟩ hL (fun H locs hP hL => ?_)
    have hP : BW G cA H0 lo aG aM aO bs (svOf ix bs) (β.1, μ1, oUp β.2.2.1 (Int32.toInt64 r), β.2.2.2) H := hP
    refine lv_istore (lv' := [(7, .int r), (6, .int 0), (5, .int (nI (6 * j))), (0, .ref b), (1, .ref aG), (2, .ref aM), (3, .ref aO), (4, .ref (aO + 1))]) hx hb dL_law_1911 hl (by decide) rfl (fun ls hl => ?_)
    refine lv_aload_n hx hb dL_law_1913 rfl (lv_at hl 5 rfl) ?_
    refine cx_callV (As := []) (rest := []) ⟨hx, hb, hml, hown, hts⟩ (c_X9_thrown (BW_M (G := G) (cA := cA) (H0 := H0) (sv := (svOf ix bs)) D (β.1, μ1, oUp β.2.2.1 (Int32.toInt64 r), β.2.2.2)) h4) (cwV 0 hts (gV mw_155 mw_156 mw_157 mw_5 mw_158) rfl rfl rfl hd_X9_thrown ⟨Nat.le_of_ble_eq_true rfl, Nat.le_of_ble_eq_true rfl⟩) hK hP rfl (at_Model (BW_M (G := G) (cA := cA) (H0 := H0) (sv := (svOf ix bs)) D (β.1, μ1, oUp β.2.2.1 (Int32.toInt64 r), β.2.2.2)) hP) rfl hl.1 rfl (Nat.le_of_ble_eq_true rfl) dL_law_1914 ⟨by show cells + 1 + 0 + 0 ≤ 601024; omega, by show slots + 6 + 0 + 0 ≤ 7293034; omega⟩ hL (fun H locs hP hL => ?_)
    refine lv_iload hx hb dL_law_1917 (lv_at hl 1 rfl) ?_
    refine lv_icmp_eq (tgt := 1924) hx hb dL_law_1919 (by decide) (fun _ => ?_) (fun c8 => absurd rfl c8)
    refine lv_iload hx hb dL_law_1924 (lv_at hl 1 rfl) ?_
    refine lv_if_ne (tgt := 1941) hx hb dL_law_1926 (by decide) (fun c8 => absurd rfl c8) (fun _ => ?_)
    refine lv_aload_n hx hb dL_law_1929 rfl (lv_at hl 6 rfl) ?_
    refine lv_iconst (v := 0) hx hb dL_law_1930 (by decide) ?_
    refine va_lald hx hb hK (cx_one ((BW_O (G := G) (cA := cA) (H0 := H0) (sv := (svOf ix bs)) D (β.1, μ1, oUp β.2.2.1 (Int32.toInt64 r), β.2.2.2)).1 _ H hP 0 (by decide))) 0 2 rfl rfl (nI_in (c := 0) (N := 1) (by decide) (by decide)) dL_law_1931 ?_
    rw [oUp_0]
    refine lv_iload hx hb dL_law_1932 (lv_at hl 0 rfl) ?_
    refine lv_i2l hx hb dL_law_1934 rfl ?_
    refine cx_lceq (tgt := 1941) hx hb dL_law_1935 dL_law_1936 (by decide) (fun _ => ?_) (fun c8 => absurd rfl c8)
    refine lv_goto (tgt := 2386) hx hb dL_law_1941 (by decide) ?_
    exact next (β.1, μ1, oUp β.2.2.1 (Int32.toInt64 r), β.2.2.2) ix bs _ _ _ _ _ ⟨D, hI, hP, h7, hL⟩ (by omega) (by omega) (lv_sub hl [2, 3, 4, 5, 6, 7] rfl)
def Sim_wouldBe (N : Nat) (Top Toq : TopT) : Prop := ∀ (γ : GLS) (μ : MdlS) (κ : Nat → CacS) (ix : Nat → Option Nat) (nb : Nat) (p0 : Int32) (p1 : Int32) (p2 : Int32), Top γ μ κ ix nb → ∃ (res : Nat ⊕ (Int32 × GLS)) (b : Int32) (μ1 : MdlS), f_X8_wouldBe N γ p0 p1 p2 = some res ∧ (∀ k, res = .inl k → k = 0 ∨ k = 1) ∧ f_X9_wouldBe N μ p0 p1 p2 = some (b, μ1) ∧ f_X9_thrown μ1 = some (wCode 0 res) ∧ (∀ k, res = .inl k → Toq γ μ1 κ ix nb) ∧ ∀ r, res = .inr r → b = r.1 ∧ Toq r.2 μ1 κ ix nb
set_option maxHeartbeats 2000000 in
set_option maxRecDepth 100000 in
theorem w_law_wouldBe {p : Program} {l : Launch} {e : Env} {s : State} {m : MethodId} {args : Array Value} {below : List Frame} {meth : Method} {c : Code} {G : va_G} {cA : Nat → ClassId} {H0 : Heap} {lo aG aM aO : Nat} {z : ZS} {Top Toq : TopT} {b L j N cells slots : Nat} {xs : Nat → Int32} {Q : State → Prop} (F : LwF l p s m args c G cA lo z b L xs) (hj : 6 * j + 5 < L) (hS : Sim_wouldBe N Top Toq) {β : BigS} {ix : Nat → Option Nat} {bs : List Nat} {H : Heap} {locs : List Loc} {ls : Array Slot} (St : LwS G cA H0 lo aG aM aO Top β ix bs H locs) (hcs : cells ≤ 500000) (hss : slots ≤ 7000000) (hl : lv_has ls 10 [(5, .int (nI (6 * j))), (0, .ref b), (1, .ref aG), (2, .ref aM), (3, .ref aO), (4, .ref (aO + 1))]) (next : LwN p l e s m args below meth c G cA H0 lo aG aM aO Toq b j cells slots Q) : W p l e room_1 s m args below meth c H locs cells slots Q (F0 m 1944 ls []) := by
  obtain ⟨⟨hl0, hx, hb, hml, hown, hts⟩, hN, hZ, hX3, hX, hbl, hbo, hL3⟩ := id F
  have hK := hN.1
  obtain ⟨D, hI, hP, hT, hL⟩ := St
  obtain ⟨res, bb, μ1, h1, h2, h3, h4, h5, h6⟩ := hS β.1 β.2.1 β.2.2.2.2 ix bs.length (xs (6 * j + 1)) (xs (6 * j + 2)) (xs (6 * j + 3)) hT
  cases res with
  | inl k =>
    refine lv_aload_n hx hb dL_law_1944 rfl (lv_at hl 2 rfl) ?_
    refine lv_aload_n hx hb dL_law_1945 rfl (lv_at hl 1 rfl) ?_
    refine lv_iload hx hb dL_law_1946 (lv_at hl 0 rfl) ?_
    refine lv_iconst (v := 1) hx hb dL_law_1948 (by decide) ?_
    refine lv_iadd hx hb dL_law_1949 ?_
    rw [show nI (6 * j) + 1 = nI (6 * j + 1) from nI_add (6 * j) 1]
    refine lw_scr hx hb hX hbl hbo hL3 hL (by omega) dL_law_1950 ?_
    refine lv_aload_n hx hb dL_law_1951 rfl (lv_at hl 1 rfl) ?_
    refine lv_iload hx hb dL_law_1952 (lv_at hl 0 rfl) ?_
    refine lv_iconst (v := 2) hx hb dL_law_1954 (by decide) ?_
    refine lv_iadd hx hb dL_law_1955 ?_
    rw [show nI (6 * j) + 2 = nI (6 * j + 2) from nI_add (6 * j) 2]
    refine lw_scr hx hb hX hbl hbo hL3 hL (by omega) dL_law_1956 ?_
    refine lv_aload_n hx hb dL_law_1957 rfl (lv_at hl 1 rfl) ?_
    refine lv_iload hx hb dL_law_1958 (lv_at hl 0 rfl) ?_
    refine lv_iconst (v := 3) hx hb dL_law_1960 (by decide) ?_
    refine lv_iadd hx hb dL_law_1961 ?_
    rw [show nI (6 * j) + 3 = nI (6 * j + 3) from nI_add (6 * j) 3]
    refine lw_scr hx hb hX hbl hbo hL3 hL (by omega) dL_law_1962 ?_
    refine lv_aload_n hx hb dL_law_1963 rfl (lv_at hl 4 rfl) ?_
    refine wx_call (As := [.ref aG, .int (xs (6 * j + 1)), .int (xs (6 * j + 2)), .int (xs (6 * j + 3)), .ref aO]) (rest := []) ⟨hx, hb, hml, hown, hts⟩ (c_L_wouldBe (G := G) (cA := cA) (H0 := H0) (sv := svOf ix bs) hl0 D h1 h2) (vx_cwSW 5 hts (gSWx mw_1201 mw_1202 mw_130 mw_1203) rfl rfl rfl hd_L_wouldBe ⟨Nat.le_of_ble_eq_true rfl, Nat.le_of_ble_eq_true rfl⟩) hN hZ hX3 hP rfl hl.1 rfl (Nat.le_of_ble_eq_true rfl) dL_law_1964 ⟨by show cells + 3 ≤ 601024; omega, by show slots + 18 ≤ 7293034; omega⟩ hL (fun H locs hP hL => ?_)
    have hP : BW G cA H0 lo aG aM aO bs (svOf ix bs) β H := hP
    refine lv_istore (lv' := [(6, .int (wCode 0 (.inl k : Nat ⊕ (Int32 × GLS)))), (5, .int (nI (6 * j))), (0, .ref b), (1, .ref aG), (2, .ref aM), (3, .ref aO), (4, .ref (aO + 1))]) hx hb dL_law_1967 hl (by decide) rfl (fun ls hl => ?_)
    refine lv_aload_n hx hb dL_law_1969 rfl (lv_at hl 4 rfl) ?_
    refine lv_aload_n hx hb dL_law_1970 rfl (lv_at hl 2 rfl) ?_
    refine lv_iload hx hb dL_law_1971 (lv_at hl 1 rfl) ?_
    refine lv_iconst (v := 1) hx hb dL_law_1973 (by decide) ?_
    refine lv_iadd hx hb dL_law_1974 ?_
    rw [show nI (6 * j) + 1 = nI (6 * j + 1) from nI_add (6 * j) 1]
    refine lw_scr hx hb hX hbl hbo hL3 hL (by omega) dL_law_1975 ?_
    refine lv_aload_n hx hb dL_law_1976 rfl (lv_at hl 2 rfl) ?_
    refine lv_iload hx hb dL_law_1977 (lv_at hl 1 rfl) ?_
    refine lv_iconst (v := 2) hx hb dL_law_1979 (by decide) ?_
    refine lv_iadd hx hb dL_law_1980 ?_
    rw [show nI (6 * j) + 2 = nI (6 * j + 2) from nI_add (6 * j) 2]
    refine lw_scr hx hb hX hbl hbo hL3 hL (by omega) dL_law_1981 ?_
    refine lv_aload_n hx hb dL_law_1982 rfl (lv_at hl 2 rfl) ?_
    refine lv_iload hx hb dL_law_1983 (lv_at hl 1 rfl) ?_
    refine lv_iconst (v := 3) hx hb dL_law_1985 (by decide) ?_
    refine lv_iadd hx hb dL_law_1986 ?_
    rw [show nI (6 * j) + 3 = nI (6 * j + 3) from nI_add (6 * j) 3]
    refine lw_scr hx hb hX hbl hbo hL3 hL (by omega) dL_law_1987 ?_
    refine cx_callV (As := [.int (xs (6 * j + 1)), .int (xs (6 * j + 2)), .int (xs (6 * j + 3))]) (rest := []) ⟨hx, hb, hml, hown, hts⟩ (c_X9_wouldBe (BW_M (G := G) (cA := cA) (H0 := H0) (sv := (svOf ix bs)) D β) h3) (cwV 3 hts (gV mw_1218 mw_1219 mw_1220 mw_5 mw_1221) rfl rfl rfl hd_X9_wouldBe ⟨Nat.le_of_ble_eq_true rfl, Nat.le_of_ble_eq_true rfl⟩) hK hP rfl (at_Model (BW_M (G := G) (cA := cA) (H0 := H0) (sv := (svOf ix bs)) D β) hP) rfl hl.1 rfl (Nat.le_of_ble_eq_true rfl) dL_law_1988 ⟨by show cells + 3 + 0 ≤ 601024; omega, by show slots + 18 + 0 ≤ 7293034; omega⟩ hL (fun H locs hP hL => ?_)
    have hP : BW G cA H0 lo aG aM aO bs (svOf ix bs) (β.1, μ1, β.2.2) H := hP
    refine lv_istore (lv' := [(7, .int bb), (6, .int (wCode 0 (.inl k : Nat ⊕ (Int32 × GLS)))), (5, .int (nI (6 * j))), (0, .ref b), (1, .ref aG), (2, .ref aM), (3, .ref aO), (4, .ref (aO + 1))]) hx hb dL_law_1991 hl (by decide) rfl (fun ls hl => ?_)
    refine lv_aload_n hx hb dL_law_1993 rfl (lv_at hl 5 rfl) ?_
    refine cx_callV (As := []) (rest := []) ⟨hx, hb, hml, hown, hts⟩ (c_X9_thrown (BW_M (G := G) (cA := cA) (H0 := H0) (sv := (svOf ix bs)) D (β.1, μ1, β.2.2)) h4) (cwV 0 hts (gV mw_155 mw_156 mw_157 mw_5 mw_158) rfl rfl rfl hd_X9_thrown ⟨Nat.le_of_ble_eq_true rfl, Nat.le_of_ble_eq_true rfl⟩) hK hP rfl (at_Model (BW_M (G := G) (cA := cA) (H0 := H0) (sv := (svOf ix bs)) D (β.1, μ1, β.2.2)) hP) rfl hl.1 rfl (Nat.le_of_ble_eq_true rfl) dL_law_1994 ⟨by show cells + 3 + 0 + 0 ≤ 601024; omega, by show slots + 18 + 0 + 0 ≤ 7293034; omega⟩ hL (fun H locs hP hL => ?_)
    refine lv_iload hx hb dL_law_1997 (lv_at hl 1 rfl) ?_
    refine lv_icmp_eq (tgt := 2004) hx hb dL_law_1999 (by decide) (fun _ => ?_) (fun c8 => absurd rfl c8)
    refine lv_iload hx hb dL_law_2004 (lv_at hl 1 rfl) ?_
    refine lv_if_ne (tgt := 2021) hx hb dL_law_2006 (by decide) (fun _ => ?_) (fun c8 => absurd c8 wCode_ne)
    refine lv_goto (tgt := 2386) hx hb dL_law_2021 (by decide) ?_
    exact next (β.1, μ1, β.2.2) ix bs _ _ _ _ _ ⟨D, hI, hP, (h5 k rfl), hL⟩ (by omega) (by omega) (lv_sub hl [2, 3, 4, 5, 6, 7] rfl)
  | inr r =>
    obtain ⟨hbb, h7⟩ := h6 r rfl
    replace hbb := hbb.symm
    subst hbb
    refine lv_aload_n hx hb dL_law_1944 rfl (lv_at hl 2 rfl) ?_
    refine lv_aload_n hx hb dL_law_1945 rfl (lv_at hl 1 rfl) ?_
    refine lv_iload hx hb dL_law_1946 (lv_at hl 0 rfl) ?_
    refine lv_iconst (v := 1) hx hb dL_law_1948 (by decide) ?_
    refine lv_iadd hx hb dL_law_1949 ?_
    rw [show nI (6 * j) + 1 = nI (6 * j + 1) from nI_add (6 * j) 1]
    refine lw_scr hx hb hX hbl hbo hL3 hL (by omega) dL_law_1950 ?_
    refine lv_aload_n hx hb dL_law_1951 rfl (lv_at hl 1 rfl) ?_
    refine lv_iload hx hb dL_law_1952 (lv_at hl 0 rfl) ?_
    refine lv_iconst (v := 2) hx hb dL_law_1954 (by decide) ?_
    refine lv_iadd hx hb dL_law_1955 ?_
    rw [show nI (6 * j) + 2 = nI (6 * j + 2) from nI_add (6 * j) 2]
    refine lw_scr hx hb hX hbl hbo hL3 hL (by omega) dL_law_1956 ?_
    refine lv_aload_n hx hb dL_law_1957 rfl (lv_at hl 1 rfl) ?_
    refine lv_iload hx hb dL_law_1958 (lv_at hl 0 rfl) ?_
    refine lv_iconst (v := 3) hx hb dL_law_1960 (by decide) ?_
    refine lv_iadd hx hb dL_law_1961 ?_
    rw [show nI (6 * j) + 3 = nI (6 * j + 3) from nI_add (6 * j) 3]
    refine lw_scr hx hb hX hbl hbo hL3 hL (by omega) dL_law_1962 ?_
    refine lv_aload_n hx hb dL_law_1963 rfl (lv_at hl 4 rfl) ?_
    refine wx_call (As := [.ref aG, .int (xs (6 * j + 1)), .int (xs (6 * j + 2)), .int (xs (6 * j + 3)), .ref aO]) (rest := []) ⟨hx, hb, hml, hown, hts⟩ (c_L_wouldBe (G := G) (cA := cA) (H0 := H0) (sv := svOf ix bs) hl0 D h1 h2) (vx_cwSW 5 hts (gSWx mw_1201 mw_1202 mw_130 mw_1203) rfl rfl rfl hd_L_wouldBe ⟨Nat.le_of_ble_eq_true rfl, Nat.le_of_ble_eq_true rfl⟩) hN hZ hX3 hP rfl hl.1 rfl (Nat.le_of_ble_eq_true rfl) dL_law_1964 ⟨by show cells + 3 ≤ 601024; omega, by show slots + 18 ≤ 7293034; omega⟩ hL (fun H locs hP hL => ?_)
    have hP : BW G cA H0 lo aG aM aO bs (svOf ix bs) (r.2, β.2.1, oUp β.2.2.1 (Int32.toInt64 r.1), β.2.2.2) H := hP
    refine lv_istore (lv' := [(6, .int 0), (5, .int (nI (6 * j))), (0, .ref b), (1, .ref aG), (2, .ref aM), (3, .ref aO), (4, .ref (aO + 1))]) hx hb dL_law_1967 hl (by decide) rfl (fun ls hl => ?_)
    refine lv_aload_n hx hb dL_law_1969 rfl (lv_at hl 4 rfl) ?_
    refine lv_aload_n hx hb dL_law_1970 rfl (lv_at hl 2 rfl) ?_
    refine lv_iload hx hb dL_law_1971 (lv_at hl 1 rfl) ?_
    refine lv_iconst (v := 1) hx hb dL_law_1973 (by decide) ?_
    refine lv_iadd hx hb dL_law_1974 ?_
    rw [show nI (6 * j) + 1 = nI (6 * j + 1) from nI_add (6 * j) 1]
    refine lw_scr hx hb hX hbl hbo hL3 hL (by omega) dL_law_1975 ?_
    refine lv_aload_n hx hb dL_law_1976 rfl (lv_at hl 2 rfl) ?_
    refine lv_iload hx hb dL_law_1977 (lv_at hl 1 rfl) ?_
    refine lv_iconst (v := 2) hx hb dL_law_1979 (by decide) ?_
    refine lv_iadd hx hb dL_law_1980 ?_
    rw [show nI (6 * j) + 2 = nI (6 * j + 2) from nI_add (6 * j) 2]
    refine lw_scr hx hb hX hbl hbo hL3 hL (by omega) dL_law_1981 ?_
    refine lv_aload_n hx hb dL_law_1982 rfl (lv_at hl 2 rfl) ?_
    refine lv_iload hx hb dL_law_1983 (lv_at hl 1 rfl) ?_
    refine lv_iconst (v := 3) hx hb dL_law_1985 (by decide) ?_
    refine lv_iadd hx hb dL_law_1986 ?_
    rw [show nI (6 * j) + 3 = nI (6 * j + 3) from nI_add (6 * j) 3]
    refine lw_scr hx hb hX hbl hbo hL3 hL (by omega) dL_law_1987 ?_
    refine cx_callV (As := [.int (xs (6 * j + 1)), .int (xs (6 * j + 2)), .int (xs (6 * j + 3))]) (rest := []) ⟨hx, hb, hml, hown, hts⟩ (c_X9_wouldBe (BW_M (G := G) (cA := cA) (H0 := H0) (sv := (svOf ix bs)) D (r.2, β.2.1, oUp β.2.2.1 (Int32.toInt64 r.1), β.2.2.2)) h3) (cwV 3 hts (gV mw_1218 mw_1219 mw_1220 mw_5 mw_1221) rfl rfl rfl hd_X9_wouldBe ⟨Nat.le_of_ble_eq_true rfl, Nat.le_of_ble_eq_true rfl⟩) hK hP rfl (at_Model (BW_M (G := G) (cA := cA) (H0 := H0) (sv := (svOf ix bs)) D (r.2, β.2.1, oUp β.2.2.1 (Int32.toInt64 r.1), β.2.2.2)) hP) rfl hl.1 rfl (Nat.le_of_ble_eq_true rfl) dL_law_1988 ⟨by show cells + 3 + 0 ≤ 601024; omega, by show slots + 18 + 0 ≤ 7293034; omega⟩ hL (fun H locs hP hL => ?_)
    have hP : BW G cA H0 lo aG aM aO bs (svOf ix bs) (r.2, μ1, oUp β.2.2.1 (Int32.toInt64 r.1), β.2.2.2) H := hP
    refine lv_istore (lv' := [(7, .int r.1), (6, .int 0), (5, .int (nI (6 * j))), (0, .ref b), (1, .ref aG), (2, .ref aM), (3, .ref aO), (4, .ref (aO + 1))]) hx hb dL_law_1991 hl (by decide) rfl (fun ls hl => ?_)
    refine lv_aload_n hx hb dL_law_1993 rfl (lv_at hl 5 rfl) ?_
    refine cx_callV (As := []) (rest := []) ⟨hx, hb, hml, hown, hts⟩ (c_X9_thrown (BW_M (G := G) (cA := cA) (H0 := H0) (sv := (svOf ix bs)) D (r.2, μ1, oUp β.2.2.1 (Int32.toInt64 r.1), β.2.2.2)) h4) (cwV 0 hts (gV mw_155 mw_156 mw_157 mw_5 mw_158) rfl rfl rfl hd_X9_thrown ⟨Nat.le_of_ble_eq_true rfl, Nat.le_of_ble_eq_true rfl⟩) hK hP rfl (at_Model (BW_M (G := G) (cA := cA) (H0 := H0) (sv := (svOf ix bs)) D (r.2, μ1, oUp β.2.2.1 (Int32.toInt64 r.1), β.2.2.2)) hP) rfl hl.1 rfl (Nat.le_of_ble_eq_true rfl) dL_law_1994 ⟨by show cells + 3 + 0 + 0 ≤ 601024; omega, by show slots + 18 + 0 + 0 ≤ 7293034; omega⟩ hL (fun H locs hP hL => ?_)
    refine lv_iload hx hb dL_law_1997 (lv_at hl 1 rfl) ?_
    refine lv_icmp_eq (tgt := 2004) hx hb dL_law_1999 (by decide) (fun _ => ?_) (fun c8 => absurd rfl c8)
    refine lv_iload hx hb dL_law_2004 (lv_at hl 1 rfl) ?_
    refine lv_if_ne (tgt := 2021) hx hb dL_law_2006 (by decide) (fun c8 => absurd rfl c8) (fun _ => ?_)
    refine lv_aload_n hx hb dL_law_2009 rfl (lv_at hl 6 rfl) ?_
    refine lv_iconst (v := 0) hx hb dL_law_2010 (by decide) ?_
    refine va_lald hx hb hK (cx_one ((BW_O (G := G) (cA := cA) (H0 := H0) (sv := (svOf ix bs)) D (r.2, μ1, oUp β.2.2.1 (Int32.toInt64 r.1), β.2.2.2)).1 _ H hP 0 (by decide))) 0 2 rfl rfl (nI_in (c := 0) (N := 1) (by decide) (by decide)) dL_law_2011 ?_
    rw [oUp_0]
    refine lv_iload hx hb dL_law_2012 (lv_at hl 0 rfl) ?_
    refine lv_i2l hx hb dL_law_2014 rfl ?_
    refine cx_lceq (tgt := 2021) hx hb dL_law_2015 dL_law_2016 (by decide) (fun _ => ?_) (fun c8 => absurd rfl c8)
    refine lv_goto (tgt := 2386) hx hb dL_law_2021 (by decide) ?_
    exact next (r.2, μ1, oUp β.2.2.1 (Int32.toInt64 r.1), β.2.2.2) ix bs _ _ _ _ _ ⟨D, hI, hP, h7, hL⟩ (by omega) (by omega) (lv_sub hl [2, 3, 4, 5, 6, 7] rfl)
def Sim_ahead (N : Nat) (Top Toq : TopT) : Prop := ∀ (γ : GLS) (μ : MdlS) (κ : Nat → CacS) (ix : Nat → Option Nat) (nb : Nat) (p0 : Int32) (p1 : Int32) (p2 : Int32) (p3 : Int32) (p4 : Int32), Top γ μ κ ix nb → ∃ (res : Nat ⊕ (Int32 × GLS)) (b : Int32) (μ1 : MdlS), f_X8_ahead N γ p0 p1 p2 p3 p4 = some res ∧ (∀ k, res = .inl k → k = 0 ∨ k = 1) ∧ f_X9_ahead N μ p0 p1 p2 p3 p4 = some (b, μ1) ∧ f_X9_thrown μ1 = some (wCode 0 res) ∧ (∀ k, res = .inl k → Toq γ μ1 κ ix nb) ∧ ∀ r, res = .inr r → b = r.1 ∧ Toq r.2 μ1 κ ix nb
set_option maxHeartbeats 2000000 in
set_option maxRecDepth 100000 in
theorem w_law_ahead {p : Program} {l : Launch} {e : Env} {s : State} {m : MethodId} {args : Array Value} {below : List Frame} {meth : Method} {c : Code} {G : va_G} {cA : Nat → ClassId} {H0 : Heap} {lo aG aM aO : Nat} {z : ZS} {Top Toq : TopT} {b L j N cells slots : Nat} {xs : Nat → Int32} {Q : State → Prop} (F : LwF l p s m args c G cA lo z b L xs) (hj : 6 * j + 5 < L) (hS : Sim_ahead N Top Toq) {β : BigS} {ix : Nat → Option Nat} {bs : List Nat} {H : Heap} {locs : List Loc} {ls : Array Slot} (St : LwS G cA H0 lo aG aM aO Top β ix bs H locs) (hcs : cells ≤ 500000) (hss : slots ≤ 7000000) (hl : lv_has ls 10 [(5, .int (nI (6 * j))), (0, .ref b), (1, .ref aG), (2, .ref aM), (3, .ref aO), (4, .ref (aO + 1))]) (next : LwN p l e s m args below meth c G cA H0 lo aG aM aO Toq b j cells slots Q) : W p l e room_1 s m args below meth c H locs cells slots Q (F0 m 2024 ls []) := by
  obtain ⟨⟨hl0, hx, hb, hml, hown, hts⟩, hN, hZ, hX3, hX, hbl, hbo, hL3⟩ := id F
  have hK := hN.1
  obtain ⟨D, hI, hP, hT, hL⟩ := St
  obtain ⟨res, bb, μ1, h1, h2, h3, h4, h5, h6⟩ := hS β.1 β.2.1 β.2.2.2.2 ix bs.length (xs (6 * j + 1)) (xs (6 * j + 2)) (xs (6 * j + 3)) (xs (6 * j + 4)) (xs (6 * j + 5)) hT
  cases res with
  | inl k =>
    refine lv_aload_n hx hb dL_law_2024 rfl (lv_at hl 2 rfl) ?_
    refine lv_aload_n hx hb dL_law_2025 rfl (lv_at hl 1 rfl) ?_
    refine lv_iload hx hb dL_law_2026 (lv_at hl 0 rfl) ?_
    refine lv_iconst (v := 1) hx hb dL_law_2028 (by decide) ?_
    refine lv_iadd hx hb dL_law_2029 ?_
    rw [show nI (6 * j) + 1 = nI (6 * j + 1) from nI_add (6 * j) 1]
    refine lw_scr hx hb hX hbl hbo hL3 hL (by omega) dL_law_2030 ?_
    refine lv_aload_n hx hb dL_law_2031 rfl (lv_at hl 1 rfl) ?_
    refine lv_iload hx hb dL_law_2032 (lv_at hl 0 rfl) ?_
    refine lv_iconst (v := 2) hx hb dL_law_2034 (by decide) ?_
    refine lv_iadd hx hb dL_law_2035 ?_
    rw [show nI (6 * j) + 2 = nI (6 * j + 2) from nI_add (6 * j) 2]
    refine lw_scr hx hb hX hbl hbo hL3 hL (by omega) dL_law_2036 ?_
    refine lv_aload_n hx hb dL_law_2037 rfl (lv_at hl 1 rfl) ?_
    refine lv_iload hx hb dL_law_2038 (lv_at hl 0 rfl) ?_
    refine lv_iconst (v := 3) hx hb dL_law_2040 (by decide) ?_
    refine lv_iadd hx hb dL_law_2041 ?_
    rw [show nI (6 * j) + 3 = nI (6 * j + 3) from nI_add (6 * j) 3]
    refine lw_scr hx hb hX hbl hbo hL3 hL (by omega) dL_law_2042 ?_
    refine lv_aload_n hx hb dL_law_2043 rfl (lv_at hl 1 rfl) ?_
    refine lv_iload hx hb dL_law_2044 (lv_at hl 0 rfl) ?_
    refine lv_iconst (v := 4) hx hb dL_law_2046 (by decide) ?_
    refine lv_iadd hx hb dL_law_2047 ?_
    rw [show nI (6 * j) + 4 = nI (6 * j + 4) from nI_add (6 * j) 4]
    refine lw_scr hx hb hX hbl hbo hL3 hL (by omega) dL_law_2048 ?_
    refine lv_aload_n hx hb dL_law_2049 rfl (lv_at hl 1 rfl) ?_
    refine lv_iload hx hb dL_law_2050 (lv_at hl 0 rfl) ?_
    refine lv_iconst (v := 5) hx hb dL_law_2052 (by decide) ?_
    refine lv_iadd hx hb dL_law_2053 ?_
    rw [show nI (6 * j) + 5 = nI (6 * j + 5) from nI_add (6 * j) 5]
    refine lw_scr hx hb hX hbl hbo hL3 hL (by omega) dL_law_2054 ?_
    refine lv_aload_n hx hb dL_law_2055 rfl (lv_at hl 4 rfl) ?_
    refine wx_call (As := [.ref aG, .int (xs (6 * j + 1)), .int (xs (6 * j + 2)), .int (xs (6 * j + 3)), .int (xs (6 * j + 4)), .int (xs (6 * j + 5)), .ref aO]) (rest := []) ⟨hx, hb, hml, hown, hts⟩ (c_L_ahead (G := G) (cA := cA) (H0 := H0) (sv := svOf ix bs) hl0 D h1 h2) (vx_cwSW 7 hts (gSWx mw_1226 mw_1227 mw_130 mw_1228) rfl rfl rfl hd_L_ahead ⟨Nat.le_of_ble_eq_true rfl, Nat.le_of_ble_eq_true rfl⟩) hN hZ hX3 hP rfl hl.1 rfl (Nat.le_of_ble_eq_true rfl) dL_law_2056 ⟨by show cells + 5 ≤ 601024; omega, by show slots + 30 ≤ 7293034; omega⟩ hL (fun H locs hP hL => ?_)
    have hP : BW G cA H0 lo aG aM aO bs (svOf ix bs) β H := hP
    refine lv_istore (lv' := [(6, .int (wCode 0 (.inl k : Nat ⊕ (Int32 × GLS)))), (5, .int (nI (6 * j))), (0, .ref b), (1, .ref aG), (2, .ref aM), (3, .ref aO), (4, .ref (aO + 1))]) hx hb dL_law_2059 hl (by decide) rfl (fun ls hl => ?_)
    refine lv_aload_n hx hb dL_law_2061 rfl (lv_at hl 4 rfl) ?_
    refine lv_aload_n hx hb dL_law_2062 rfl (lv_at hl 2 rfl) ?_
    refine lv_iload hx hb dL_law_2063 (lv_at hl 1 rfl) ?_
    refine lv_iconst (v := 1) hx hb dL_law_2065 (by decide) ?_
    refine lv_iadd hx hb dL_law_2066 ?_
    rw [show nI (6 * j) + 1 = nI (6 * j + 1) from nI_add (6 * j) 1]
    refine lw_scr hx hb hX hbl hbo hL3 hL (by omega) dL_law_2067 ?_
    refine lv_aload_n hx hb dL_law_2068 rfl (lv_at hl 2 rfl) ?_
    refine lv_iload hx hb dL_law_2069 (lv_at hl 1 rfl) ?_
    refine lv_iconst (v := 2) hx hb dL_law_2071 (by decide) ?_
    refine lv_iadd hx hb dL_law_2072 ?_
    rw [show nI (6 * j) + 2 = nI (6 * j + 2) from nI_add (6 * j) 2]
    refine lw_scr hx hb hX hbl hbo hL3 hL (by omega) dL_law_2073 ?_
    refine lv_aload_n hx hb dL_law_2074 rfl (lv_at hl 2 rfl) ?_
    refine lv_iload hx hb dL_law_2075 (lv_at hl 1 rfl) ?_
    refine lv_iconst (v := 3) hx hb dL_law_2077 (by decide) ?_
    refine lv_iadd hx hb dL_law_2078 ?_
    rw [show nI (6 * j) + 3 = nI (6 * j + 3) from nI_add (6 * j) 3]
    refine lw_scr hx hb hX hbl hbo hL3 hL (by omega) dL_law_2079 ?_
    refine lv_aload_n hx hb dL_law_2080 rfl (lv_at hl 2 rfl) ?_
    refine lv_iload hx hb dL_law_2081 (lv_at hl 1 rfl) ?_
    refine lv_iconst (v := 4) hx hb dL_law_2083 (by decide) ?_
    refine lv_iadd hx hb dL_law_2084 ?_
    rw [show nI (6 * j) + 4 = nI (6 * j + 4) from nI_add (6 * j) 4]
    refine lw_scr hx hb hX hbl hbo hL3 hL (by omega) dL_law_2085 ?_
    refine lv_aload_n hx hb dL_law_2086 rfl (lv_at hl 2 rfl) ?_
    refine lv_iload hx hb dL_law_2087 (lv_at hl 1 rfl) ?_
    refine lv_iconst (v := 5) hx hb dL_law_2089 (by decide) ?_
    refine lv_iadd hx hb dL_law_2090 ?_
    rw [show nI (6 * j) + 5 = nI (6 * j + 5) from nI_add (6 * j) 5]
    refine lw_scr hx hb hX hbl hbo hL3 hL (by omega) dL_law_2091 ?_
    refine cx_callV (As := [.int (xs (6 * j + 1)), .int (xs (6 * j + 2)), .int (xs (6 * j + 3)), .int (xs (6 * j + 4)), .int (xs (6 * j + 5))]) (rest := []) ⟨hx, hb, hml, hown, hts⟩ (c_X9_ahead (BW_M (G := G) (cA := cA) (H0 := H0) (sv := (svOf ix bs)) D β) h3) (cwV 5 hts (gV mw_1249 mw_1250 mw_1251 mw_5 mw_1252) rfl rfl rfl hd_X9_ahead ⟨Nat.le_of_ble_eq_true rfl, Nat.le_of_ble_eq_true rfl⟩) hK hP rfl (at_Model (BW_M (G := G) (cA := cA) (H0 := H0) (sv := (svOf ix bs)) D β) hP) rfl hl.1 rfl (Nat.le_of_ble_eq_true rfl) dL_law_2092 ⟨by show cells + 5 + 0 ≤ 601024; omega, by show slots + 30 + 0 ≤ 7293034; omega⟩ hL (fun H locs hP hL => ?_)
    have hP : BW G cA H0 lo aG aM aO bs (svOf ix bs) (β.1, μ1, β.2.2) H := hP
    refine lv_istore (lv' := [(7, .int bb), (6, .int (wCode 0 (.inl k : Nat ⊕ (Int32 × GLS)))), (5, .int (nI (6 * j))), (0, .ref b), (1, .ref aG), (2, .ref aM), (3, .ref aO), (4, .ref (aO + 1))]) hx hb dL_law_2095 hl (by decide) rfl (fun ls hl => ?_)
    refine lv_aload_n hx hb dL_law_2097 rfl (lv_at hl 5 rfl) ?_
    refine cx_callV (As := []) (rest := []) ⟨hx, hb, hml, hown, hts⟩ (c_X9_thrown (BW_M (G := G) (cA := cA) (H0 := H0) (sv := (svOf ix bs)) D (β.1, μ1, β.2.2)) h4) (cwV 0 hts (gV mw_155 mw_156 mw_157 mw_5 mw_158) rfl rfl rfl hd_X9_thrown ⟨Nat.le_of_ble_eq_true rfl, Nat.le_of_ble_eq_true rfl⟩) hK hP rfl (at_Model (BW_M (G := G) (cA := cA) (H0 := H0) (sv := (svOf ix bs)) D (β.1, μ1, β.2.2)) hP) rfl hl.1 rfl (Nat.le_of_ble_eq_true rfl) dL_law_2098 ⟨by show cells + 5 + 0 + 0 ≤ 601024; omega, by show slots + 30 + 0 + 0 ≤ 7293034; omega⟩ hL (fun H locs hP hL => ?_)
    refine lv_iload hx hb dL_law_2101 (lv_at hl 1 rfl) ?_
    refine lv_icmp_eq (tgt := 2108) hx hb dL_law_2103 (by decide) (fun _ => ?_) (fun c8 => absurd rfl c8)
    refine lv_iload hx hb dL_law_2108 (lv_at hl 1 rfl) ?_
    refine lv_if_ne (tgt := 2125) hx hb dL_law_2110 (by decide) (fun _ => ?_) (fun c8 => absurd c8 wCode_ne)
    refine lv_goto (tgt := 2386) hx hb dL_law_2125 (by decide) ?_
    exact next (β.1, μ1, β.2.2) ix bs _ _ _ _ _ ⟨D, hI, hP, (h5 k rfl), hL⟩ (by omega) (by omega) (lv_sub hl [2, 3, 4, 5, 6, 7] rfl)
  | inr r =>
    obtain ⟨hbb, h7⟩ := h6 r rfl
    replace hbb := hbb.symm
    subst hbb
    refine lv_aload_n hx hb dL_law_2024 rfl (lv_at hl 2 rfl) ?_
    refine lv_aload_n hx hb dL_law_2025 rfl (lv_at hl 1 rfl) ?_
    refine lv_iload hx hb dL_law_2026 (lv_at hl 0 rfl) ?_
    refine lv_iconst (v := 1) hx hb dL_law_2028 (by decide) ?_
    refine lv_iadd hx hb dL_law_2029 ?_
    rw [show nI (6 * j) + 1 = nI (6 * j + 1) from nI_add (6 * j) 1]
    refine lw_scr hx hb hX hbl hbo hL3 hL (by omega) dL_law_2030 ?_
    refine lv_aload_n hx hb dL_law_2031 rfl (lv_at hl 1 rfl) ?_
    refine lv_iload hx hb dL_law_2032 (lv_at hl 0 rfl) ?_
    refine lv_iconst (v := 2) hx hb dL_law_2034 (by decide) ?_
    refine lv_iadd hx hb dL_law_2035 ?_
    rw [show nI (6 * j) + 2 = nI (6 * j + 2) from nI_add (6 * j) 2]
    refine lw_scr hx hb hX hbl hbo hL3 hL (by omega) dL_law_2036 ?_
    refine lv_aload_n hx hb dL_law_2037 rfl (lv_at hl 1 rfl) ?_
    refine lv_iload hx hb dL_law_2038 (lv_at hl 0 rfl) ?_
    refine lv_iconst (v := 3) hx hb dL_law_2040 (by decide) ?_
    refine lv_iadd hx hb dL_law_2041 ?_
    rw [show nI (6 * j) + 3 = nI (6 * j + 3) from nI_add (6 * j) 3]
    refine lw_scr hx hb hX hbl hbo hL3 hL (by omega) dL_law_2042 ?_
    refine lv_aload_n hx hb dL_law_2043 rfl (lv_at hl 1 rfl) ?_
    refine lv_iload hx hb dL_law_2044 (lv_at hl 0 rfl) ?_
    refine lv_iconst (v := 4) hx hb dL_law_2046 (by decide) ?_
    refine lv_iadd hx hb dL_law_2047 ?_
    rw [show nI (6 * j) + 4 = nI (6 * j + 4) from nI_add (6 * j) 4]
    refine lw_scr hx hb hX hbl hbo hL3 hL (by omega) dL_law_2048 ?_
    refine lv_aload_n hx hb dL_law_2049 rfl (lv_at hl 1 rfl) ?_
    refine lv_iload hx hb dL_law_2050 (lv_at hl 0 rfl) ?_
    refine lv_iconst (v := 5) hx hb dL_law_2052 (by decide) ?_
    refine lv_iadd hx hb dL_law_2053 ?_
    rw [show nI (6 * j) + 5 = nI (6 * j + 5) from nI_add (6 * j) 5]
    refine lw_scr hx hb hX hbl hbo hL3 hL (by omega) dL_law_2054 ?_
    refine lv_aload_n hx hb dL_law_2055 rfl (lv_at hl 4 rfl) ?_
    refine wx_call (As := [.ref aG, .int (xs (6 * j + 1)), .int (xs (6 * j + 2)), .int (xs (6 * j + 3)), .int (xs (6 * j + 4)), .int (xs (6 * j + 5)), .ref aO]) (rest := []) ⟨hx, hb, hml, hown, hts⟩ (c_L_ahead (G := G) (cA := cA) (H0 := H0) (sv := svOf ix bs) hl0 D h1 h2) (vx_cwSW 7 hts (gSWx mw_1226 mw_1227 mw_130 mw_1228) rfl rfl rfl hd_L_ahead ⟨Nat.le_of_ble_eq_true rfl, Nat.le_of_ble_eq_true rfl⟩) hN hZ hX3 hP rfl hl.1 rfl (Nat.le_of_ble_eq_true rfl) dL_law_2056 ⟨by show cells + 5 ≤ 601024; omega, by show slots + 30 ≤ 7293034; omega⟩ hL (fun H locs hP hL => ?_)
    have hP : BW G cA H0 lo aG aM aO bs (svOf ix bs) (r.2, β.2.1, oUp β.2.2.1 (Int32.toInt64 r.1), β.2.2.2) H := hP
    refine lv_istore (lv' := [(6, .int 0), (5, .int (nI (6 * j))), (0, .ref b), (1, .ref aG), (2, .ref aM), (3, .ref aO), (4, .ref (aO + 1))]) hx hb dL_law_2059 hl (by decide) rfl (fun ls hl => ?_)
    refine lv_aload_n hx hb dL_law_2061 rfl (lv_at hl 4 rfl) ?_
    refine lv_aload_n hx hb dL_law_2062 rfl (lv_at hl 2 rfl) ?_
    refine lv_iload hx hb dL_law_2063 (lv_at hl 1 rfl) ?_
    refine lv_iconst (v := 1) hx hb dL_law_2065 (by decide) ?_
    refine lv_iadd hx hb dL_law_2066 ?_
    rw [show nI (6 * j) + 1 = nI (6 * j + 1) from nI_add (6 * j) 1]
    refine lw_scr hx hb hX hbl hbo hL3 hL (by omega) dL_law_2067 ?_
    refine lv_aload_n hx hb dL_law_2068 rfl (lv_at hl 2 rfl) ?_
    refine lv_iload hx hb dL_law_2069 (lv_at hl 1 rfl) ?_
    refine lv_iconst (v := 2) hx hb dL_law_2071 (by decide) ?_
    refine lv_iadd hx hb dL_law_2072 ?_
    rw [show nI (6 * j) + 2 = nI (6 * j + 2) from nI_add (6 * j) 2]
    refine lw_scr hx hb hX hbl hbo hL3 hL (by omega) dL_law_2073 ?_
    refine lv_aload_n hx hb dL_law_2074 rfl (lv_at hl 2 rfl) ?_
    refine lv_iload hx hb dL_law_2075 (lv_at hl 1 rfl) ?_
    refine lv_iconst (v := 3) hx hb dL_law_2077 (by decide) ?_
    refine lv_iadd hx hb dL_law_2078 ?_
    rw [show nI (6 * j) + 3 = nI (6 * j + 3) from nI_add (6 * j) 3]
    refine lw_scr hx hb hX hbl hbo hL3 hL (by omega) dL_law_2079 ?_
    refine lv_aload_n hx hb dL_law_2080 rfl (lv_at hl 2 rfl) ?_
    refine lv_iload hx hb dL_law_2081 (lv_at hl 1 rfl) ?_
    refine lv_iconst (v := 4) hx hb dL_law_2083 (by decide) ?_
    refine lv_iadd hx hb dL_law_2084 ?_
    rw [show nI (6 * j) + 4 = nI (6 * j + 4) from nI_add (6 * j) 4]
    refine lw_scr hx hb hX hbl hbo hL3 hL (by omega) dL_law_2085 ?_
    refine lv_aload_n hx hb dL_law_2086 rfl (lv_at hl 2 rfl) ?_
    refine lv_iload hx hb dL_law_2087 (lv_at hl 1 rfl) ?_
    refine lv_iconst (v := 5) hx hb dL_law_2089 (by decide) ?_
    refine lv_iadd hx hb dL_law_2090 ?_
    rw [show nI (6 * j) + 5 = nI (6 * j + 5) from nI_add (6 * j) 5]
    refine lw_scr hx hb hX hbl hbo hL3 hL (by omega) dL_law_2091 ?_
    refine cx_callV (As := [.int (xs (6 * j + 1)), .int (xs (6 * j + 2)), .int (xs (6 * j + 3)), .int (xs (6 * j + 4)), .int (xs (6 * j + 5))]) (rest := []) ⟨hx, hb, hml, hown, hts⟩ (c_X9_ahead (BW_M (G := G) (cA := cA) (H0 := H0) (sv := (svOf ix bs)) D (r.2, β.2.1, oUp β.2.2.1 (Int32.toInt64 r.1), β.2.2.2)) h3) (cwV 5 hts (gV mw_1249 mw_1250 mw_1251 mw_5 mw_1252) rfl rfl rfl hd_X9_ahead ⟨Nat.le_of_ble_eq_true rfl, Nat.le_of_ble_eq_true rfl⟩) hK hP rfl (at_Model (BW_M (G := G) (cA := cA) (H0 := H0) (sv := (svOf ix bs)) D (r.2, β.2.1, oUp β.2.2.1 (Int32.toInt64 r.1), β.2.2.2)) hP) rfl hl.1 rfl (Nat.le_of_ble_eq_true rfl) dL_law_2092 ⟨by show cells + 5 + 0 ≤ 601024; omega, by show slots + 30 + 0 ≤ 7293034; omega⟩ hL (fun H locs hP hL => ?_)
    have hP : BW G cA H0 lo aG aM aO bs (svOf ix bs) (r.2, μ1, oUp β.2.2.1 (Int32.toInt64 r.1), β.2.2.2) H := hP
    refine lv_istore (lv' := [(7, .int r.1), (6, .int 0), (5, .int (nI (6 * j))), (0, .ref b), (1, .ref aG), (2, .ref aM), (3, .ref aO), (4, .ref (aO + 1))]) hx hb dL_law_2095 hl (by decide) rfl (fun ls hl => ?_)
    refine lv_aload_n hx hb dL_law_2097 rfl (lv_at hl 5 rfl) ?_
    refine cx_callV (As := []) (rest := []) ⟨hx, hb, hml, hown, hts⟩ (c_X9_thrown (BW_M (G := G) (cA := cA) (H0 := H0) (sv := (svOf ix bs)) D (r.2, μ1, oUp β.2.2.1 (Int32.toInt64 r.1), β.2.2.2)) h4) (cwV 0 hts (gV mw_155 mw_156 mw_157 mw_5 mw_158) rfl rfl rfl hd_X9_thrown ⟨Nat.le_of_ble_eq_true rfl, Nat.le_of_ble_eq_true rfl⟩) hK hP rfl (at_Model (BW_M (G := G) (cA := cA) (H0 := H0) (sv := (svOf ix bs)) D (r.2, μ1, oUp β.2.2.1 (Int32.toInt64 r.1), β.2.2.2)) hP) rfl hl.1 rfl (Nat.le_of_ble_eq_true rfl) dL_law_2098 ⟨by show cells + 5 + 0 + 0 ≤ 601024; omega, by show slots + 30 + 0 + 0 ≤ 7293034; omega⟩ hL (fun H locs hP hL => ?_)
    refine lv_iload hx hb dL_law_2101 (lv_at hl 1 rfl) ?_
    refine lv_icmp_eq (tgt := 2108) hx hb dL_law_2103 (by decide) (fun _ => ?_) (fun c8 => absurd rfl c8)
    refine lv_iload hx hb dL_law_2108 (lv_at hl 1 rfl) ?_
    refine lv_if_ne (tgt := 2125) hx hb dL_law_2110 (by decide) (fun c8 => absurd rfl c8) (fun _ => ?_)
    refine lv_aload_n hx hb dL_law_2113 rfl (lv_at hl 6 rfl) ?_
    refine lv_iconst (v := 0) hx hb dL_law_2114 (by decide) ?_
    refine va_lald hx hb hK (cx_one ((BW_O (G := G) (cA := cA) (H0 := H0) (sv := (svOf ix bs)) D (r.2, μ1, oUp β.2.2.1 (Int32.toInt64 r.1), β.2.2.2)).1 _ H hP 0 (by decide))) 0 2 rfl rfl (nI_in (c := 0) (N := 1) (by decide) (by decide)) dL_law_2115 ?_
    rw [oUp_0]
    refine lv_iload hx hb dL_law_2116 (lv_at hl 0 rfl) ?_
    refine lv_i2l hx hb dL_law_2118 rfl ?_
    refine cx_lceq (tgt := 2125) hx hb dL_law_2119 dL_law_2120 (by decide) (fun _ => ?_) (fun c8 => absurd rfl c8)
    refine lv_goto (tgt := 2386) hx hb dL_law_2125 (by decide) ?_
    exact next (r.2, μ1, oUp β.2.2.1 (Int32.toInt64 r.1), β.2.2.2) ix bs _ _ _ _ _ ⟨D, hI, hP, h7, hL⟩ (by omega) (by omega) (lv_sub hl [2, 3, 4, 5, 6, 7] rfl)
def Sim_bestLength (N : Nat) (Top Toq : TopT) : Prop := ∀ (γ : GLS) (μ : MdlS) (κ : Nat → CacS) (ix : Nat → Option Nat) (nb : Nat) (p0 : Int32) (p1 : Int32) (p2 : Int32) (p3 : Int32), Top γ μ κ ix nb → ∃ (res : Nat ⊕ (Int32 × GLS)) (b : Int32) (μ1 : MdlS), f_X8_bestLength N γ p0 p1 p2 p3 = some res ∧ (∀ k, res = .inl k → k = 0 ∨ k = 1) ∧ f_X9_bestLength N μ p0 p1 p2 p3 = some (b, μ1) ∧ f_X9_thrown μ1 = some (wCode 0 res) ∧ (∀ k, res = .inl k → Toq γ μ1 κ ix nb) ∧ ∀ r, res = .inr r → b = r.1 ∧ Toq r.2 μ1 κ ix nb
set_option maxHeartbeats 2000000 in
set_option maxRecDepth 100000 in
theorem w_law_bestLength {p : Program} {l : Launch} {e : Env} {s : State} {m : MethodId} {args : Array Value} {below : List Frame} {meth : Method} {c : Code} {G : va_G} {cA : Nat → ClassId} {H0 : Heap} {lo aG aM aO : Nat} {z : ZS} {Top Toq : TopT} {b L j N cells slots : Nat} {xs : Nat → Int32} {Q : State → Prop} (F : LwF l p s m args c G cA lo z b L xs) (hj : 6 * j + 5 < L) (hS : Sim_bestLength N Top Toq) {β : BigS} {ix : Nat → Option Nat} {bs : List Nat} {H : Heap} {locs : List Loc} {ls : Array Slot} (St : LwS G cA H0 lo aG aM aO Top β ix bs H locs) (hcs : cells ≤ 500000) (hss : slots ≤ 7000000) (hl : lv_has ls 10 [(5, .int (nI (6 * j))), (0, .ref b), (1, .ref aG), (2, .ref aM), (3, .ref aO), (4, .ref (aO + 1))]) (next : LwN p l e s m args below meth c G cA H0 lo aG aM aO Toq b j cells slots Q) : W p l e room_1 s m args below meth c H locs cells slots Q (F0 m 2128 ls []) := by
  obtain ⟨⟨hl0, hx, hb, hml, hown, hts⟩, hN, hZ, hX3, hX, hbl, hbo, hL3⟩ := id F
  have hK := hN.1
  obtain ⟨D, hI, hP, hT, hL⟩ := St
  obtain ⟨res, bb, μ1, h1, h2, h3, h4, h5, h6⟩ := hS β.1 β.2.1 β.2.2.2.2 ix bs.length (xs (6 * j + 1)) (xs (6 * j + 2)) (xs (6 * j + 3)) (xs (6 * j + 4)) hT
  cases res with
  | inl k =>
    refine lv_aload_n hx hb dL_law_2128 rfl (lv_at hl 2 rfl) ?_
    refine lv_aload_n hx hb dL_law_2129 rfl (lv_at hl 1 rfl) ?_
    refine lv_iload hx hb dL_law_2130 (lv_at hl 0 rfl) ?_
    refine lv_iconst (v := 1) hx hb dL_law_2132 (by decide) ?_
    refine lv_iadd hx hb dL_law_2133 ?_
    rw [show nI (6 * j) + 1 = nI (6 * j + 1) from nI_add (6 * j) 1]
    refine lw_scr hx hb hX hbl hbo hL3 hL (by omega) dL_law_2134 ?_
    refine lv_aload_n hx hb dL_law_2135 rfl (lv_at hl 1 rfl) ?_
    refine lv_iload hx hb dL_law_2136 (lv_at hl 0 rfl) ?_
    refine lv_iconst (v := 2) hx hb dL_law_2138 (by decide) ?_
    refine lv_iadd hx hb dL_law_2139 ?_
    rw [show nI (6 * j) + 2 = nI (6 * j + 2) from nI_add (6 * j) 2]
    refine lw_scr hx hb hX hbl hbo hL3 hL (by omega) dL_law_2140 ?_
    refine lv_aload_n hx hb dL_law_2141 rfl (lv_at hl 1 rfl) ?_
    refine lv_iload hx hb dL_law_2142 (lv_at hl 0 rfl) ?_
    refine lv_iconst (v := 3) hx hb dL_law_2144 (by decide) ?_
    refine lv_iadd hx hb dL_law_2145 ?_
    rw [show nI (6 * j) + 3 = nI (6 * j + 3) from nI_add (6 * j) 3]
    refine lw_scr hx hb hX hbl hbo hL3 hL (by omega) dL_law_2146 ?_
    refine lv_aload_n hx hb dL_law_2147 rfl (lv_at hl 1 rfl) ?_
    refine lv_iload hx hb dL_law_2148 (lv_at hl 0 rfl) ?_
    refine lv_iconst (v := 4) hx hb dL_law_2150 (by decide) ?_
    refine lv_iadd hx hb dL_law_2151 ?_
    rw [show nI (6 * j) + 4 = nI (6 * j + 4) from nI_add (6 * j) 4]
    refine lw_scr hx hb hX hbl hbo hL3 hL (by omega) dL_law_2152 ?_
    refine lv_aload_n hx hb dL_law_2153 rfl (lv_at hl 4 rfl) ?_
    refine wx_call (As := [.ref aG, .int (xs (6 * j + 1)), .int (xs (6 * j + 2)), .int (xs (6 * j + 3)), .int (xs (6 * j + 4)), .ref aO]) (rest := []) ⟨hx, hb, hml, hown, hts⟩ (c_L_bestLength (G := G) (cA := cA) (H0 := H0) (sv := svOf ix bs) hl0 D h1 h2) (vx_cwSW 6 hts (gSWx mw_1263 mw_1264 mw_130 mw_1265) rfl rfl rfl hd_L_bestLength ⟨Nat.le_of_ble_eq_true rfl, Nat.le_of_ble_eq_true rfl⟩) hN hZ hX3 hP rfl hl.1 rfl (Nat.le_of_ble_eq_true rfl) dL_law_2154 ⟨by show cells + 4 ≤ 601024; omega, by show slots + 24 ≤ 7293034; omega⟩ hL (fun H locs hP hL => ?_)
    have hP : BW G cA H0 lo aG aM aO bs (svOf ix bs) β H := hP
    refine lv_istore (lv' := [(6, .int (wCode 0 (.inl k : Nat ⊕ (Int32 × GLS)))), (5, .int (nI (6 * j))), (0, .ref b), (1, .ref aG), (2, .ref aM), (3, .ref aO), (4, .ref (aO + 1))]) hx hb dL_law_2157 hl (by decide) rfl (fun ls hl => ?_)
    refine lv_aload_n hx hb dL_law_2159 rfl (lv_at hl 4 rfl) ?_
    refine lv_aload_n hx hb dL_law_2160 rfl (lv_at hl 2 rfl) ?_
    refine lv_iload hx hb dL_law_2161 (lv_at hl 1 rfl) ?_
    refine lv_iconst (v := 1) hx hb dL_law_2163 (by decide) ?_
    refine lv_iadd hx hb dL_law_2164 ?_
    rw [show nI (6 * j) + 1 = nI (6 * j + 1) from nI_add (6 * j) 1]
    refine lw_scr hx hb hX hbl hbo hL3 hL (by omega) dL_law_2165 ?_
    refine lv_aload_n hx hb dL_law_2166 rfl (lv_at hl 2 rfl) ?_
    refine lv_iload hx hb dL_law_2167 (lv_at hl 1 rfl) ?_
    refine lv_iconst (v := 2) hx hb dL_law_2169 (by decide) ?_
    refine lv_iadd hx hb dL_law_2170 ?_
    rw [show nI (6 * j) + 2 = nI (6 * j + 2) from nI_add (6 * j) 2]
    refine lw_scr hx hb hX hbl hbo hL3 hL (by omega) dL_law_2171 ?_
    refine lv_aload_n hx hb dL_law_2172 rfl (lv_at hl 2 rfl) ?_
    refine lv_iload hx hb dL_law_2173 (lv_at hl 1 rfl) ?_
    refine lv_iconst (v := 3) hx hb dL_law_2175 (by decide) ?_
    refine lv_iadd hx hb dL_law_2176 ?_
    rw [show nI (6 * j) + 3 = nI (6 * j + 3) from nI_add (6 * j) 3]
    refine lw_scr hx hb hX hbl hbo hL3 hL (by omega) dL_law_2177 ?_
    refine lv_aload_n hx hb dL_law_2178 rfl (lv_at hl 2 rfl) ?_
    refine lv_iload hx hb dL_law_2179 (lv_at hl 1 rfl) ?_
    refine lv_iconst (v := 4) hx hb dL_law_2181 (by decide) ?_
    refine lv_iadd hx hb dL_law_2182 ?_
    rw [show nI (6 * j) + 4 = nI (6 * j + 4) from nI_add (6 * j) 4]
    refine lw_scr hx hb hX hbl hbo hL3 hL (by omega) dL_law_2183 ?_
    refine cx_callV (As := [.int (xs (6 * j + 1)), .int (xs (6 * j + 2)), .int (xs (6 * j + 3)), .int (xs (6 * j + 4))]) (rest := []) ⟨hx, hb, hml, hown, hts⟩ (c_X9_bestLength (BW_M (G := G) (cA := cA) (H0 := H0) (sv := (svOf ix bs)) D β) h3) (cwV 4 hts (gV mw_1270 mw_1271 mw_1272 mw_5 mw_1273) rfl rfl rfl hd_X9_bestLength ⟨Nat.le_of_ble_eq_true rfl, Nat.le_of_ble_eq_true rfl⟩) hK hP rfl (at_Model (BW_M (G := G) (cA := cA) (H0 := H0) (sv := (svOf ix bs)) D β) hP) rfl hl.1 rfl (Nat.le_of_ble_eq_true rfl) dL_law_2184 ⟨by show cells + 4 + 0 ≤ 601024; omega, by show slots + 24 + 0 ≤ 7293034; omega⟩ hL (fun H locs hP hL => ?_)
    have hP : BW G cA H0 lo aG aM aO bs (svOf ix bs) (β.1, μ1, β.2.2) H := hP
    refine lv_istore (lv' := [(7, .int bb), (6, .int (wCode 0 (.inl k : Nat ⊕ (Int32 × GLS)))), (5, .int (nI (6 * j))), (0, .ref b), (1, .ref aG), (2, .ref aM), (3, .ref aO), (4, .ref (aO + 1))]) hx hb dL_law_2187 hl (by decide) rfl (fun ls hl => ?_)
    refine lv_aload_n hx hb dL_law_2189 rfl (lv_at hl 5 rfl) ?_
    refine cx_callV (As := []) (rest := []) ⟨hx, hb, hml, hown, hts⟩ (c_X9_thrown (BW_M (G := G) (cA := cA) (H0 := H0) (sv := (svOf ix bs)) D (β.1, μ1, β.2.2)) h4) (cwV 0 hts (gV mw_155 mw_156 mw_157 mw_5 mw_158) rfl rfl rfl hd_X9_thrown ⟨Nat.le_of_ble_eq_true rfl, Nat.le_of_ble_eq_true rfl⟩) hK hP rfl (at_Model (BW_M (G := G) (cA := cA) (H0 := H0) (sv := (svOf ix bs)) D (β.1, μ1, β.2.2)) hP) rfl hl.1 rfl (Nat.le_of_ble_eq_true rfl) dL_law_2190 ⟨by show cells + 4 + 0 + 0 ≤ 601024; omega, by show slots + 24 + 0 + 0 ≤ 7293034; omega⟩ hL (fun H locs hP hL => ?_)
    refine lv_iload hx hb dL_law_2193 (lv_at hl 1 rfl) ?_
    refine lv_icmp_eq (tgt := 2200) hx hb dL_law_2195 (by decide) (fun _ => ?_) (fun c8 => absurd rfl c8)
    refine lv_iload hx hb dL_law_2200 (lv_at hl 1 rfl) ?_
    refine lv_if_ne (tgt := 2217) hx hb dL_law_2202 (by decide) (fun _ => ?_) (fun c8 => absurd c8 wCode_ne)
    refine lv_goto (tgt := 2386) hx hb dL_law_2217 (by decide) ?_
    exact next (β.1, μ1, β.2.2) ix bs _ _ _ _ _ ⟨D, hI, hP, (h5 k rfl), hL⟩ (by omega) (by omega) (lv_sub hl [2, 3, 4, 5, 6, 7] rfl)
  | inr r =>
    obtain ⟨hbb, h7⟩ := h6 r rfl
    replace hbb := hbb.symm
    subst hbb
    refine lv_aload_n hx hb dL_law_2128 rfl (lv_at hl 2 rfl) ?_
    refine lv_aload_n hx hb dL_law_2129 rfl (lv_at hl 1 rfl) ?_
    refine lv_iload hx hb dL_law_2130 (lv_at hl 0 rfl) ?_
    refine lv_iconst (v := 1) hx hb dL_law_2132 (by decide) ?_
    refine lv_iadd hx hb dL_law_2133 ?_
    rw [show nI (6 * j) + 1 = nI (6 * j + 1) from nI_add (6 * j) 1]
    refine lw_scr hx hb hX hbl hbo hL3 hL (by omega) dL_law_2134 ?_
    refine lv_aload_n hx hb dL_law_2135 rfl (lv_at hl 1 rfl) ?_
    refine lv_iload hx hb dL_law_2136 (lv_at hl 0 rfl) ?_
    refine lv_iconst (v := 2) hx hb dL_law_2138 (by decide) ?_
    refine lv_iadd hx hb dL_law_2139 ?_
    rw [show nI (6 * j) + 2 = nI (6 * j + 2) from nI_add (6 * j) 2]
    refine lw_scr hx hb hX hbl hbo hL3 hL (by omega) dL_law_2140 ?_
    refine lv_aload_n hx hb dL_law_2141 rfl (lv_at hl 1 rfl) ?_
    refine lv_iload hx hb dL_law_2142 (lv_at hl 0 rfl) ?_
    refine lv_iconst (v := 3) hx hb dL_law_2144 (by decide) ?_
    refine lv_iadd hx hb dL_law_2145 ?_
    rw [show nI (6 * j) + 3 = nI (6 * j + 3) from nI_add (6 * j) 3]
    refine lw_scr hx hb hX hbl hbo hL3 hL (by omega) dL_law_2146 ?_
    refine lv_aload_n hx hb dL_law_2147 rfl (lv_at hl 1 rfl) ?_
    refine lv_iload hx hb dL_law_2148 (lv_at hl 0 rfl) ?_
    refine lv_iconst (v := 4) hx hb dL_law_2150 (by decide) ?_
    refine lv_iadd hx hb dL_law_2151 ?_
    rw [show nI (6 * j) + 4 = nI (6 * j + 4) from nI_add (6 * j) 4]
    refine lw_scr hx hb hX hbl hbo hL3 hL (by omega) dL_law_2152 ?_
    refine lv_aload_n hx hb dL_law_2153 rfl (lv_at hl 4 rfl) ?_
    refine wx_call (As := [.ref aG, .int (xs (6 * j + 1)), .int (xs (6 * j + 2)), .int (xs (6 * j + 3)), .int (xs (6 * j + 4)), .ref aO]) (rest := []) ⟨hx, hb, hml, hown, hts⟩ (c_L_bestLength (G := G) (cA := cA) (H0 := H0) (sv := svOf ix bs) hl0 D h1 h2) (vx_cwSW 6 hts (gSWx mw_1263 mw_1264 mw_130 mw_1265) rfl rfl rfl hd_L_bestLength ⟨Nat.le_of_ble_eq_true rfl, Nat.le_of_ble_eq_true rfl⟩) hN hZ hX3 hP rfl hl.1 rfl (Nat.le_of_ble_eq_true rfl) dL_law_2154 ⟨by show cells + 4 ≤ 601024; omega, by show slots + 24 ≤ 7293034; omega⟩ hL (fun H locs hP hL => ?_)
    have hP : BW G cA H0 lo aG aM aO bs (svOf ix bs) (r.2, β.2.1, oUp β.2.2.1 (Int32.toInt64 r.1), β.2.2.2) H := hP
    refine lv_istore (lv' := [(6, .int 0), (5, .int (nI (6 * j))), (0, .ref b), (1, .ref aG), (2, .ref aM), (3, .ref aO), (4, .ref (aO + 1))]) hx hb dL_law_2157 hl (by decide) rfl (fun ls hl => ?_)
    refine lv_aload_n hx hb dL_law_2159 rfl (lv_at hl 4 rfl) ?_
    refine lv_aload_n hx hb dL_law_2160 rfl (lv_at hl 2 rfl) ?_
    refine lv_iload hx hb dL_law_2161 (lv_at hl 1 rfl) ?_
    refine lv_iconst (v := 1) hx hb dL_law_2163 (by decide) ?_
    refine lv_iadd hx hb dL_law_2164 ?_
    rw [show nI (6 * j) + 1 = nI (6 * j + 1) from nI_add (6 * j) 1]
    refine lw_scr hx hb hX hbl hbo hL3 hL (by omega) dL_law_2165 ?_
    refine lv_aload_n hx hb dL_law_2166 rfl (lv_at hl 2 rfl) ?_
    refine lv_iload hx hb dL_law_2167 (lv_at hl 1 rfl) ?_
    refine lv_iconst (v := 2) hx hb dL_law_2169 (by decide) ?_
    refine lv_iadd hx hb dL_law_2170 ?_
    rw [show nI (6 * j) + 2 = nI (6 * j + 2) from nI_add (6 * j) 2]
    refine lw_scr hx hb hX hbl hbo hL3 hL (by omega) dL_law_2171 ?_
    refine lv_aload_n hx hb dL_law_2172 rfl (lv_at hl 2 rfl) ?_
    refine lv_iload hx hb dL_law_2173 (lv_at hl 1 rfl) ?_
    refine lv_iconst (v := 3) hx hb dL_law_2175 (by decide) ?_
    refine lv_iadd hx hb dL_law_2176 ?_
    rw [show nI (6 * j) + 3 = nI (6 * j + 3) from nI_add (6 * j) 3]
    refine lw_scr hx hb hX hbl hbo hL3 hL (by omega) dL_law_2177 ?_
    refine lv_aload_n hx hb dL_law_2178 rfl (lv_at hl 2 rfl) ?_
    refine lv_iload hx hb dL_law_2179 (lv_at hl 1 rfl) ?_
    refine lv_iconst (v := 4) hx hb dL_law_2181 (by decide) ?_
    refine lv_iadd hx hb dL_law_2182 ?_
    rw [show nI (6 * j) + 4 = nI (6 * j + 4) from nI_add (6 * j) 4]
    refine lw_scr hx hb hX hbl hbo hL3 hL (by omega) dL_law_2183 ?_
    refine cx_callV (As := [.int (xs (6 * j + 1)), .int (xs (6 * j + 2)), .int (xs (6 * j + 3)), .int (xs (6 * j + 4))]) (rest := []) ⟨hx, hb, hml, hown, hts⟩ (c_X9_bestLength (BW_M (G := G) (cA := cA) (H0 := H0) (sv := (svOf ix bs)) D (r.2, β.2.1, oUp β.2.2.1 (Int32.toInt64 r.1), β.2.2.2)) h3) (cwV 4 hts (gV mw_1270 mw_1271 mw_1272 mw_5 mw_1273) rfl rfl rfl hd_X9_bestLength ⟨Nat.le_of_ble_eq_true rfl, Nat.le_of_ble_eq_true rfl⟩) hK hP rfl (at_Model (BW_M (G := G) (cA := cA) (H0 := H0) (sv := (svOf ix bs)) D (r.2, β.2.1, oUp β.2.2.1 (Int32.toInt64 r.1), β.2.2.2)) hP) rfl hl.1 rfl (Nat.le_of_ble_eq_true rfl) dL_law_2184 ⟨by show cells + 4 + 0 ≤ 601024; omega, by show slots + 24 + 0 ≤ 7293034; omega⟩ hL (fun H locs hP hL => ?_)
    have hP : BW G cA H0 lo aG aM aO bs (svOf ix bs) (r.2, μ1, oUp β.2.2.1 (Int32.toInt64 r.1), β.2.2.2) H := hP
    refine lv_istore (lv' := [(7, .int r.1), (6, .int 0), (5, .int (nI (6 * j))), (0, .ref b), (1, .ref aG), (2, .ref aM), (3, .ref aO), (4, .ref (aO + 1))]) hx hb dL_law_2187 hl (by decide) rfl (fun ls hl => ?_)
    refine lv_aload_n hx hb dL_law_2189 rfl (lv_at hl 5 rfl) ?_
    refine cx_callV (As := []) (rest := []) ⟨hx, hb, hml, hown, hts⟩ (c_X9_thrown (BW_M (G := G) (cA := cA) (H0 := H0) (sv := (svOf ix bs)) D (r.2, μ1, oUp β.2.2.1 (Int32.toInt64 r.1), β.2.2.2)) h4) (cwV 0 hts (gV mw_155 mw_156 mw_157 mw_5 mw_158) rfl rfl rfl hd_X9_thrown ⟨Nat.le_of_ble_eq_true rfl, Nat.le_of_ble_eq_true rfl⟩) hK hP rfl (at_Model (BW_M (G := G) (cA := cA) (H0 := H0) (sv := (svOf ix bs)) D (r.2, μ1, oUp β.2.2.1 (Int32.toInt64 r.1), β.2.2.2)) hP) rfl hl.1 rfl (Nat.le_of_ble_eq_true rfl) dL_law_2190 ⟨by show cells + 4 + 0 + 0 ≤ 601024; omega, by show slots + 24 + 0 + 0 ≤ 7293034; omega⟩ hL (fun H locs hP hL => ?_)
    refine lv_iload hx hb dL_law_2193 (lv_at hl 1 rfl) ?_
    refine lv_icmp_eq (tgt := 2200) hx hb dL_law_2195 (by decide) (fun _ => ?_) (fun c8 => absurd rfl c8)
    refine lv_iload hx hb dL_law_2200 (lv_at hl 1 rfl) ?_
    refine lv_if_ne (tgt := 2217) hx hb dL_law_2202 (by decide) (fun c8 => absurd rfl c8) (fun _ => ?_)
    refine lv_aload_n hx hb dL_law_2205 rfl (lv_at hl 6 rfl) ?_
    refine lv_iconst (v := 0) hx hb dL_law_2206 (by decide) ?_
    refine va_lald hx hb hK (cx_one ((BW_O (G := G) (cA := cA) (H0 := H0) (sv := (svOf ix bs)) D (r.2, μ1, oUp β.2.2.1 (Int32.toInt64 r.1), β.2.2.2)).1 _ H hP 0 (by decide))) 0 2 rfl rfl (nI_in (c := 0) (N := 1) (by decide) (by decide)) dL_law_2207 ?_
    rw [oUp_0]
    refine lv_iload hx hb dL_law_2208 (lv_at hl 0 rfl) ?_
    refine lv_i2l hx hb dL_law_2210 rfl ?_
    refine cx_lceq (tgt := 2217) hx hb dL_law_2211 dL_law_2212 (by decide) (fun _ => ?_) (fun c8 => absurd rfl c8)
    refine lv_goto (tgt := 2386) hx hb dL_law_2217 (by decide) ?_
    exact next (r.2, μ1, oUp β.2.2.1 (Int32.toInt64 r.1), β.2.2.2) ix bs _ _ _ _ _ ⟨D, hI, hP, h7, hL⟩ (by omega) (by omega) (lv_sub hl [2, 3, 4, 5, 6, 7] rfl)
def Sim_show (N : Nat) (Top Toq : TopT) : Prop := ∀ (γ : GLS) (μ : MdlS) (κ : Nat → CacS) (ix : Nat → Option Nat) (nb : Nat) (p0 : Int32), Top γ μ κ ix nb → ∃ (res : Nat ⊕ (Int32 × GLS)) (b : Int32) (μ1 : MdlS), f_X8_show N γ p0 = some res ∧ (∀ k, res = .inl k → k = 0) ∧ f_X9_show N μ p0 = some (b, μ1) ∧ f_X9_thrown μ1 = some (wCode 0 res) ∧ (∀ k, res = .inl k → Toq γ μ1 κ ix nb) ∧ ∀ r, res = .inr r → b = r.1 ∧ Toq r.2 μ1 κ ix nb
set_option maxHeartbeats 2000000 in
set_option maxRecDepth 100000 in
theorem w_law_show {p : Program} {l : Launch} {e : Env} {s : State} {m : MethodId} {args : Array Value} {below : List Frame} {meth : Method} {c : Code} {G : va_G} {cA : Nat → ClassId} {H0 : Heap} {lo aG aM aO : Nat} {z : ZS} {Top Toq : TopT} {b L j N cells slots : Nat} {xs : Nat → Int32} {Q : State → Prop} (F : LwF l p s m args c G cA lo z b L xs) (hj : 6 * j + 5 < L) (hS : Sim_show N Top Toq) {β : BigS} {ix : Nat → Option Nat} {bs : List Nat} {H : Heap} {locs : List Loc} {ls : Array Slot} (St : LwS G cA H0 lo aG aM aO Top β ix bs H locs) (hcs : cells ≤ 500000) (hss : slots ≤ 7000000) (hl : lv_has ls 10 [(5, .int (nI (6 * j))), (0, .ref b), (1, .ref aG), (2, .ref aM), (3, .ref aO), (4, .ref (aO + 1))]) (next : LwN p l e s m args below meth c G cA H0 lo aG aM aO Toq b j cells slots Q) : W p l e room_1 s m args below meth c H locs cells slots Q (F0 m 2220 ls []) := by
  obtain ⟨⟨hl0, hx, hb, hml, hown, hts⟩, hN, hZ, hX3, hX, hbl, hbo, hL3⟩ := id F
  have hK := hN.1
  obtain ⟨D, hI, hP, hT, hL⟩ := St
  obtain ⟨res, bb, μ1, h1, h2, h3, h4, h5, h6⟩ := hS β.1 β.2.1 β.2.2.2.2 ix bs.length (xs (6 * j + 1)) hT
  cases res with
  | inl k =>
    refine lv_aload_n hx hb dL_law_2220 rfl (lv_at hl 2 rfl) ?_
    refine lv_aload_n hx hb dL_law_2221 rfl (lv_at hl 1 rfl) ?_
    refine lv_iload hx hb dL_law_2222 (lv_at hl 0 rfl) ?_
    refine lv_iconst (v := 1) hx hb dL_law_2224 (by decide) ?_
    refine lv_iadd hx hb dL_law_2225 ?_
    rw [show nI (6 * j) + 1 = nI (6 * j + 1) from nI_add (6 * j) 1]
    refine lw_scr hx hb hX hbl hbo hL3 hL (by omega) dL_law_2226 ?_
    refine lv_aload_n hx hb dL_law_2227 rfl (lv_at hl 4 rfl) ?_
    refine wx_call (As := [.ref aG, .int (xs (6 * j + 1)), .ref aO]) (rest := []) ⟨hx, hb, hml, hown, hts⟩ (c_L_show (G := G) (cA := cA) (H0 := H0) (sv := svOf ix bs) hl0 D h1 h2) (vx_cwSW 3 hts (gSWx mw_1274 mw_1275 mw_130 mw_1276) rfl rfl rfl hd_L_show ⟨Nat.le_of_ble_eq_true rfl, Nat.le_of_ble_eq_true rfl⟩) hN hZ hX3 hP rfl hl.1 rfl (Nat.le_of_ble_eq_true rfl) dL_law_2228 ⟨by show cells + 1 ≤ 601024; omega, by show slots + 6 ≤ 7293034; omega⟩ hL (fun H locs hP hL => ?_)
    have hP : BW G cA H0 lo aG aM aO bs (svOf ix bs) β H := hP
    refine lv_istore (lv' := [(6, .int (wCode 0 (.inl k : Nat ⊕ (Int32 × GLS)))), (5, .int (nI (6 * j))), (0, .ref b), (1, .ref aG), (2, .ref aM), (3, .ref aO), (4, .ref (aO + 1))]) hx hb dL_law_2231 hl (by decide) rfl (fun ls hl => ?_)
    refine lv_aload_n hx hb dL_law_2233 rfl (lv_at hl 4 rfl) ?_
    refine lv_aload_n hx hb dL_law_2234 rfl (lv_at hl 2 rfl) ?_
    refine lv_iload hx hb dL_law_2235 (lv_at hl 1 rfl) ?_
    refine lv_iconst (v := 1) hx hb dL_law_2237 (by decide) ?_
    refine lv_iadd hx hb dL_law_2238 ?_
    rw [show nI (6 * j) + 1 = nI (6 * j + 1) from nI_add (6 * j) 1]
    refine lw_scr hx hb hX hbl hbo hL3 hL (by omega) dL_law_2239 ?_
    refine cx_callV (As := [.int (xs (6 * j + 1))]) (rest := []) ⟨hx, hb, hml, hown, hts⟩ (c_X9_show (BW_M (G := G) (cA := cA) (H0 := H0) (sv := (svOf ix bs)) D β) h3) (cwV 1 hts (gV mw_1294 mw_1295 mw_1296 mw_5 mw_1297) rfl rfl rfl hd_X9_show ⟨Nat.le_of_ble_eq_true rfl, Nat.le_of_ble_eq_true rfl⟩) hK hP rfl (at_Model (BW_M (G := G) (cA := cA) (H0 := H0) (sv := (svOf ix bs)) D β) hP) rfl hl.1 rfl (Nat.le_of_ble_eq_true rfl) dL_law_2240 ⟨by show cells + 1 + 0 ≤ 601024; omega, by show slots + 6 + 0 ≤ 7293034; omega⟩ hL (fun H locs hP hL => ?_)
    have hP : BW G cA H0 lo aG aM aO bs (svOf ix bs) (β.1, μ1, β.2.2) H := hP
    refine lv_istore (lv' := [(7, .int bb), (6, .int (wCode 0 (.inl k : Nat ⊕ (Int32 × GLS)))), (5, .int (nI (6 * j))), (0, .ref b), (1, .ref aG), (2, .ref aM), (3, .ref aO), (4, .ref (aO + 1))]) hx hb dL_law_2243 hl (by decide) rfl (fun ls hl => ?_)
    refine lv_aload_n hx hb dL_law_2245 rfl (lv_at hl 5 rfl) ?_
    refine cx_callV (As := []) (rest := []) ⟨hx, hb, hml, hown, hts⟩ (c_X9_thrown (BW_M (G := G) (cA := cA) (H0 := H0) (sv := (svOf ix bs)) D (β.1, μ1, β.2.2)) h4) (cwV 0 hts (gV mw_155 mw_156 mw_157 mw_5 mw_158) rfl rfl rfl hd_X9_thrown ⟨Nat.le_of_ble_eq_true rfl, Nat.le_of_ble_eq_true rfl⟩) hK hP rfl (at_Model (BW_M (G := G) (cA := cA) (H0 := H0) (sv := (svOf ix bs)) D (β.1, μ1, β.2.2)) hP) rfl hl.1 rfl (Nat.le_of_ble_eq_true rfl) dL_law_2246 ⟨by show cells + 1 + 0 + 0 ≤ 601024; omega, by show slots + 6 + 0 + 0 ≤ 7293034; omega⟩ hL (fun H locs hP hL => ?_)
    refine lv_iload hx hb dL_law_2249 (lv_at hl 1 rfl) ?_
    refine lv_icmp_eq (tgt := 2256) hx hb dL_law_2251 (by decide) (fun _ => ?_) (fun c8 => absurd rfl c8)
    refine lv_iload hx hb dL_law_2256 (lv_at hl 1 rfl) ?_
    refine lv_if_ne (tgt := 2273) hx hb dL_law_2258 (by decide) (fun _ => ?_) (fun c8 => absurd c8 wCode_ne)
    refine lv_goto (tgt := 2386) hx hb dL_law_2273 (by decide) ?_
    exact next (β.1, μ1, β.2.2) ix bs _ _ _ _ _ ⟨D, hI, hP, (h5 k rfl), hL⟩ (by omega) (by omega) (lv_sub hl [2, 3, 4, 5, 6, 7] rfl)
  | inr r =>
    obtain ⟨hbb, h7⟩ := h6 r rfl
    replace hbb := hbb.symm
    subst hbb
    refine lv_aload_n hx hb dL_law_2220 rfl (lv_at hl 2 rfl) ?_
    refine lv_aload_n hx hb dL_law_2221 rfl (lv_at hl 1 rfl) ?_
    refine lv_iload hx hb dL_law_2222 (lv_at hl 0 rfl) ?_
    refine lv_iconst (v := 1) hx hb dL_law_2224 (by decide) ?_
    refine lv_iadd hx hb dL_law_2225 ?_
    rw [show nI (6 * j) + 1 = nI (6 * j + 1) from nI_add (6 * j) 1]
    refine lw_scr hx hb hX hbl hbo hL3 hL (by omega) dL_law_2226 ?_
    refine lv_aload_n hx hb dL_law_2227 rfl (lv_at hl 4 rfl) ?_
    refine wx_call (As := [.ref aG, .int (xs (6 * j + 1)), .ref aO]) (rest := []) ⟨hx, hb, hml, hown, hts⟩ (c_L_show (G := G) (cA := cA) (H0 := H0) (sv := svOf ix bs) hl0 D h1 h2) (vx_cwSW 3 hts (gSWx mw_1274 mw_1275 mw_130 mw_1276) rfl rfl rfl hd_L_show ⟨Nat.le_of_ble_eq_true rfl, Nat.le_of_ble_eq_true rfl⟩) hN hZ hX3 hP rfl hl.1 rfl (Nat.le_of_ble_eq_true rfl) dL_law_2228 ⟨by show cells + 1 ≤ 601024; omega, by show slots + 6 ≤ 7293034; omega⟩ hL (fun H locs hP hL => ?_)
    have hP : BW G cA H0 lo aG aM aO bs (svOf ix bs) (r.2, β.2.1, oUp β.2.2.1 (Int32.toInt64 r.1), β.2.2.2) H := hP
    refine lv_istore (lv' := [(6, .int 0), (5, .int (nI (6 * j))), (0, .ref b), (1, .ref aG), (2, .ref aM), (3, .ref aO), (4, .ref (aO + 1))]) hx hb dL_law_2231 hl (by decide) rfl (fun ls hl => ?_)
    refine lv_aload_n hx hb dL_law_2233 rfl (lv_at hl 4 rfl) ?_
    refine lv_aload_n hx hb dL_law_2234 rfl (lv_at hl 2 rfl) ?_
    refine lv_iload hx hb dL_law_2235 (lv_at hl 1 rfl) ?_
    refine lv_iconst (v := 1) hx hb dL_law_2237 (by decide) ?_
    refine lv_iadd hx hb dL_law_2238 ?_
    rw [show nI (6 * j) + 1 = nI (6 * j + 1) from nI_add (6 * j) 1]
    refine lw_scr hx hb hX hbl hbo hL3 hL (by omega) dL_law_2239 ?_
    refine cx_callV (As := [.int (xs (6 * j + 1))]) (rest := []) ⟨hx, hb, hml, hown, hts⟩ (c_X9_show (BW_M (G := G) (cA := cA) (H0 := H0) (sv := (svOf ix bs)) D (r.2, β.2.1, oUp β.2.2.1 (Int32.toInt64 r.1), β.2.2.2)) h3) (cwV 1 hts (gV mw_1294 mw_1295 mw_1296 mw_5 mw_1297) rfl rfl rfl hd_X9_show ⟨Nat.le_of_ble_eq_true rfl, Nat.le_of_ble_eq_true rfl⟩) hK hP rfl (at_Model (BW_M (G := G) (cA := cA) (H0 := H0) (sv := (svOf ix bs)) D (r.2, β.2.1, oUp β.2.2.1 (Int32.toInt64 r.1), β.2.2.2)) hP) rfl hl.1 rfl (Nat.le_of_ble_eq_true rfl) dL_law_2240 ⟨by show cells + 1 + 0 ≤ 601024; omega, by show slots + 6 + 0 ≤ 7293034; omega⟩ hL (fun H locs hP hL => ?_)
    have hP : BW G cA H0 lo aG aM aO bs (svOf ix bs) (r.2, μ1, oUp β.2.2.1 (Int32.toInt64 r.1), β.2.2.2) H := hP
    refine lv_istore (lv' := [(7, .int r.1), (6, .int 0), (5, .int (nI (6 * j))), (0, .ref b), (1, .ref aG), (2, .ref aM), (3, .ref aO), (4, .ref (aO + 1))]) hx hb dL_law_2243 hl (by decide) rfl (fun ls hl => ?_)
    refine lv_aload_n hx hb dL_law_2245 rfl (lv_at hl 5 rfl) ?_
    refine cx_callV (As := []) (rest := []) ⟨hx, hb, hml, hown, hts⟩ (c_X9_thrown (BW_M (G := G) (cA := cA) (H0 := H0) (sv := (svOf ix bs)) D (r.2, μ1, oUp β.2.2.1 (Int32.toInt64 r.1), β.2.2.2)) h4) (cwV 0 hts (gV mw_155 mw_156 mw_157 mw_5 mw_158) rfl rfl rfl hd_X9_thrown ⟨Nat.le_of_ble_eq_true rfl, Nat.le_of_ble_eq_true rfl⟩) hK hP rfl (at_Model (BW_M (G := G) (cA := cA) (H0 := H0) (sv := (svOf ix bs)) D (r.2, μ1, oUp β.2.2.1 (Int32.toInt64 r.1), β.2.2.2)) hP) rfl hl.1 rfl (Nat.le_of_ble_eq_true rfl) dL_law_2246 ⟨by show cells + 1 + 0 + 0 ≤ 601024; omega, by show slots + 6 + 0 + 0 ≤ 7293034; omega⟩ hL (fun H locs hP hL => ?_)
    refine lv_iload hx hb dL_law_2249 (lv_at hl 1 rfl) ?_
    refine lv_icmp_eq (tgt := 2256) hx hb dL_law_2251 (by decide) (fun _ => ?_) (fun c8 => absurd rfl c8)
    refine lv_iload hx hb dL_law_2256 (lv_at hl 1 rfl) ?_
    refine lv_if_ne (tgt := 2273) hx hb dL_law_2258 (by decide) (fun c8 => absurd rfl c8) (fun _ => ?_)
    refine lv_aload_n hx hb dL_law_2261 rfl (lv_at hl 6 rfl) ?_
    refine lv_iconst (v := 0) hx hb dL_law_2262 (by decide) ?_
    refine va_lald hx hb hK (cx_one ((BW_O (G := G) (cA := cA) (H0 := H0) (sv := (svOf ix bs)) D (r.2, μ1, oUp β.2.2.1 (Int32.toInt64 r.1), β.2.2.2)).1 _ H hP 0 (by decide))) 0 2 rfl rfl (nI_in (c := 0) (N := 1) (by decide) (by decide)) dL_law_2263 ?_
    rw [oUp_0]
    refine lv_iload hx hb dL_law_2264 (lv_at hl 0 rfl) ?_
    refine lv_i2l hx hb dL_law_2266 rfl ?_
    refine cx_lceq (tgt := 2273) hx hb dL_law_2267 dL_law_2268 (by decide) (fun _ => ?_) (fun c8 => absurd rfl c8)
    refine lv_goto (tgt := 2386) hx hb dL_law_2273 (by decide) ?_
    exact next (r.2, μ1, oUp β.2.2.1 (Int32.toInt64 r.1), β.2.2.2) ix bs _ _ _ _ _ ⟨D, hI, hP, h7, hL⟩ (by omega) (by omega) (lv_sub hl [2, 3, 4, 5, 6, 7] rfl)
def Sim_output (N : Nat) (Top Toq : TopT) : Prop := ∀ (γ : GLS) (μ : MdlS) (κ : Nat → CacS) (ix : Nat → Option Nat) (nb : Nat) (p0 : Int32), Top γ μ κ ix nb → ∃ (r : Int32) (μ1 : MdlS), f_X8_output γ p0 = some r ∧ f_X9_output μ p0 = some (r, μ1) ∧ Toq γ μ1 κ ix nb
set_option maxHeartbeats 2000000 in
set_option maxRecDepth 100000 in
theorem w_law_output {p : Program} {l : Launch} {e : Env} {s : State} {m : MethodId} {args : Array Value} {below : List Frame} {meth : Method} {c : Code} {G : va_G} {cA : Nat → ClassId} {H0 : Heap} {lo aG aM aO : Nat} {z : ZS} {Top Toq : TopT} {b L j N cells slots : Nat} {xs : Nat → Int32} {Q : State → Prop} (F : LwF l p s m args c G cA lo z b L xs) (hj : 6 * j + 5 < L) (hS : Sim_output N Top Toq) {β : BigS} {ix : Nat → Option Nat} {bs : List Nat} {H : Heap} {locs : List Loc} {ls : Array Slot} (St : LwS G cA H0 lo aG aM aO Top β ix bs H locs) (hcs : cells ≤ 500000) (hss : slots ≤ 7000000) (hl : lv_has ls 10 [(5, .int (nI (6 * j))), (0, .ref b), (1, .ref aG), (2, .ref aM), (3, .ref aO), (4, .ref (aO + 1))]) (next : LwN p l e s m args below meth c G cA H0 lo aG aM aO Toq b j cells slots Q) : W p l e room_1 s m args below meth c H locs cells slots Q (F0 m 2276 ls []) := by
  obtain ⟨⟨hl0, hx, hb, hml, hown, hts⟩, hN, hZ, hX3, hX, hbl, hbo, hL3⟩ := id F
  have hK := hN.1
  obtain ⟨D, hI, hP, hT, hL⟩ := St
  obtain ⟨r, μ1, h1, h3, hT⟩ := hS β.1 β.2.1 β.2.2.2.2 ix bs.length (xs (6 * j + 1)) hT
  refine lv_aload_n hx hb dL_law_2276 rfl (lv_at hl 2 rfl) ?_
  refine lv_aload_n hx hb dL_law_2277 rfl (lv_at hl 1 rfl) ?_
  refine lv_iload hx hb dL_law_2278 (lv_at hl 0 rfl) ?_
  refine lv_iconst (v := 1) hx hb dL_law_2280 (by decide) ?_
  refine lv_iadd hx hb dL_law_2281 ?_
  rw [show nI (6 * j) + 1 = nI (6 * j + 1) from nI_add (6 * j) 1]
  refine lw_scr hx hb hX hbl hbo hL3 hL (by omega) dL_law_2282 ?_
  refine cx_callV (As := [.int (xs (6 * j + 1))]) (rest := []) ⟨hx, hb, hml, hown, hts⟩ (c_X8_output (BW_G (G := G) (cA := cA) (H0 := H0) (sv := svOf ix bs) D β) h1) (cwV 1 hts (gV mw_1307 mw_1308 mw_1309 mw_2 mw_1310) rfl rfl rfl hd_X8_output ⟨Nat.le_of_ble_eq_true rfl, Nat.le_of_ble_eq_true rfl⟩) hK hP rfl (at_GL (BW_G (G := G) (cA := cA) (H0 := H0) (sv := svOf ix bs) D β) hP) rfl hl.1 rfl (Nat.le_of_ble_eq_true rfl) dL_law_2283 ⟨by show cells + 0 ≤ 601024; omega, by show slots + 0 ≤ 7293034; omega⟩ hL (fun H locs hP hL => ?_)
  have hP : BW G cA H0 lo aG aM aO bs (svOf ix bs) (β.1, β.2) H := hP
  refine lv_aload_n hx hb dL_law_2286 rfl (lv_at hl 3 rfl) ?_
  refine lv_aload_n hx hb dL_law_2287 rfl (lv_at hl 1 rfl) ?_
  refine lv_iload hx hb dL_law_2288 (lv_at hl 0 rfl) ?_
  refine lv_iconst (v := 1) hx hb dL_law_2290 (by decide) ?_
  refine lv_iadd hx hb dL_law_2291 ?_
  rw [show nI (6 * j) + 1 = nI (6 * j + 1) from nI_add (6 * j) 1]
  refine lw_scr hx hb hX hbl hbo hL3 hL (by omega) dL_law_2292 ?_
  refine cx_callV (As := [.int (xs (6 * j + 1))]) (rest := [.int r]) ⟨hx, hb, hml, hown, hts⟩ (c_X9_output (BW_M (G := G) (cA := cA) (H0 := H0) (sv := (svOf ix bs)) D (β.1, β.2)) h3) (cwV 1 hts (gV mw_1315 mw_1316 mw_1317 mw_5 mw_1318) rfl rfl rfl hd_X9_output ⟨Nat.le_of_ble_eq_true rfl, Nat.le_of_ble_eq_true rfl⟩) hK hP rfl (at_Model (BW_M (G := G) (cA := cA) (H0 := H0) (sv := (svOf ix bs)) D (β.1, β.2)) hP) rfl hl.1 rfl (Nat.le_of_ble_eq_true rfl) dL_law_2293 ⟨by show cells + 0 + 0 ≤ 601024; omega, by show slots + 0 + 0 ≤ 7293034; omega⟩ hL (fun H locs hP hL => ?_)
  have hP : BW G cA H0 lo aG aM aO bs (svOf ix bs) (β.1, μ1, β.2.2) H := hP
  refine lv_icmp_eq (tgt := 2386) hx hb dL_law_2296 (by decide) (fun _ => ?_) (fun c8 => absurd rfl c8)
  exact next (β.1, μ1, β.2.2) ix bs _ _ _ _ _ ⟨D, hI, hP, hT, hL⟩ (by omega) (by omega) (lv_sub hl [0, 1, 2, 3, 4, 5] rfl)
def Sim_undo (N : Nat) (Top Toq : TopT) : Prop := ∀ (γ : GLS) (μ : MdlS) (κ : Nat → CacS) (ix : Nat → Option Nat) (nb : Nat), Top γ μ κ ix nb → ∃ (r : Int32) (γ1 : GLS) (μ1 : MdlS), f_X8_undo N γ = some (r, γ1) ∧ f_X9_undo N μ = some (r, μ1) ∧ Toq γ1 μ1 κ ix nb
set_option maxHeartbeats 2000000 in
set_option maxRecDepth 100000 in
theorem w_law_undo {p : Program} {l : Launch} {e : Env} {s : State} {m : MethodId} {args : Array Value} {below : List Frame} {meth : Method} {c : Code} {G : va_G} {cA : Nat → ClassId} {H0 : Heap} {lo aG aM aO : Nat} {z : ZS} {Top Toq : TopT} {b L j N cells slots : Nat} {xs : Nat → Int32} {Q : State → Prop} (F : LwF l p s m args c G cA lo z b L xs) (hj : 6 * j + 5 < L) (hS : Sim_undo N Top Toq) {β : BigS} {ix : Nat → Option Nat} {bs : List Nat} {H : Heap} {locs : List Loc} {ls : Array Slot} (St : LwS G cA H0 lo aG aM aO Top β ix bs H locs) (hcs : cells ≤ 500000) (hss : slots ≤ 7000000) (hl : lv_has ls 10 [(5, .int (nI (6 * j))), (0, .ref b), (1, .ref aG), (2, .ref aM), (3, .ref aO), (4, .ref (aO + 1))]) (next : LwN p l e s m args below meth c G cA H0 lo aG aM aO Toq b j cells slots Q) : W p l e room_1 s m args below meth c H locs cells slots Q (F0 m 2301 ls []) := by
  obtain ⟨⟨hl0, hx, hb, hml, hown, hts⟩, hN, hZ, hX3, hX, hbl, hbo, hL3⟩ := id F
  have hK := hN.1
  obtain ⟨D, hI, hP, hT, hL⟩ := St
  obtain ⟨r, γ1, μ1, h1, h3, hT⟩ := hS β.1 β.2.1 β.2.2.2.2 ix bs.length hT
  refine lv_aload_n hx hb dL_law_2301 rfl (lv_at hl 2 rfl) ?_
  refine cx_callV (As := []) (rest := []) ⟨hx, hb, hml, hown, hts⟩ (c_X8_undo (BW_G (G := G) (cA := cA) (H0 := H0) (sv := svOf ix bs) D β) h1) (cwV 0 hts (gV mw_1319 mw_1320 mw_1321 mw_2 mw_1322) rfl rfl rfl hd_X8_undo ⟨Nat.le_of_ble_eq_true rfl, Nat.le_of_ble_eq_true rfl⟩) hK hP rfl (at_GL (BW_G (G := G) (cA := cA) (H0 := H0) (sv := svOf ix bs) D β) hP) rfl hl.1 rfl (Nat.le_of_ble_eq_true rfl) dL_law_2302 ⟨by show cells + 0 ≤ 601024; omega, by show slots + 0 ≤ 7293034; omega⟩ hL (fun H locs hP hL => ?_)
  have hP : BW G cA H0 lo aG aM aO bs (svOf ix bs) (γ1, β.2) H := hP
  refine lv_aload_n hx hb dL_law_2305 rfl (lv_at hl 3 rfl) ?_
  refine cx_callV (As := []) (rest := [.int r]) ⟨hx, hb, hml, hown, hts⟩ (c_X9_undo (BW_M (G := G) (cA := cA) (H0 := H0) (sv := (svOf ix bs)) D (γ1, β.2)) h3) (cwV 0 hts (gV mw_1327 mw_1328 mw_1329 mw_5 mw_1330) rfl rfl rfl hd_X9_undo ⟨Nat.le_of_ble_eq_true rfl, Nat.le_of_ble_eq_true rfl⟩) hK hP rfl (at_Model (BW_M (G := G) (cA := cA) (H0 := H0) (sv := (svOf ix bs)) D (γ1, β.2)) hP) rfl hl.1 rfl (Nat.le_of_ble_eq_true rfl) dL_law_2306 ⟨by show cells + 0 + 0 ≤ 601024; omega, by show slots + 0 + 0 ≤ 7293034; omega⟩ hL (fun H locs hP hL => ?_)
  have hP : BW G cA H0 lo aG aM aO bs (svOf ix bs) (γ1, μ1, β.2.2) H := hP
  refine lv_icmp_eq (tgt := 2386) hx hb dL_law_2309 (by decide) (fun _ => ?_) (fun c8 => absurd rfl c8)
  exact next (γ1, μ1, β.2.2) ix bs _ _ _ _ _ ⟨D, hI, hP, hT, hL⟩ (by omega) (by omega) (lv_sub hl [0, 1, 2, 3, 4, 5] rfl)
def Sim_save (N : Nat) (Top Toq : TopT) : Prop := ∀ (γ : GLS) (μ : MdlS) (κ : Nat → CacS) (ix : Nat → Option Nat) (nb : Nat) (p0 : Int32), Top γ μ κ ix nb → ∃ (res : Nat ⊕ SavR) (μ1 : MdlS), f_X8_save N nb ix γ.2.2.1 κ p0 = some res ∧ (∀ k, res = .inl k → k = 1) ∧ f_X9_save N μ p0 = some μ1 ∧ f_X9_thrown μ1 = some (wCode 1 res) ∧ (∀ k, res = .inl k → Toq γ μ1 κ ix nb) ∧ ∀ r, res = .inr r → IxOk r.1 r.2.1 ∧ Toq γ μ1 r.2.2 r.1 r.2.1
set_option maxHeartbeats 2000000 in
set_option maxRecDepth 100000 in
theorem w_law_save {p : Program} {l : Launch} {e : Env} {s : State} {m : MethodId} {args : Array Value} {below : List Frame} {meth : Method} {c : Code} {G : va_G} {cA : Nat → ClassId} {H0 : Heap} {lo aG aM aO : Nat} {z : ZS} {Top Toq : TopT} {b L j N cells slots : Nat} {xs : Nat → Int32} {Q : State → Prop} (F : LwF l p s m args c G cA lo z b L xs) (hj : 6 * j + 5 < L) (hS : Sim_save N Top Toq) {β : BigS} {ix : Nat → Option Nat} {bs : List Nat} {H : Heap} {locs : List Loc} {ls : Array Slot} (St : LwS G cA H0 lo aG aM aO Top β ix bs H locs) (hcs : cells ≤ 500000) (hss : slots ≤ 7000000) (hl : lv_has ls 10 [(5, .int (nI (6 * j))), (0, .ref b), (1, .ref aG), (2, .ref aM), (3, .ref aO), (4, .ref (aO + 1))]) (next : LwN p l e s m args below meth c G cA H0 lo aG aM aO Toq b j cells slots Q) : W p l e room_1 s m args below meth c H locs cells slots Q (F0 m 2314 ls []) := by
  obtain ⟨⟨hl0, hx, hb, hml, hown, hts⟩, hN, hZ, hX3, hX, hbl, hbo, hL3⟩ := id F
  have hK := hN.1
  obtain ⟨D, hI, hP, hT, hL⟩ := St
  obtain ⟨res, μ1, h1, h2, h3, h4, h5, h6⟩ := hS β.1 β.2.1 β.2.2.2.2 ix bs.length (xs (6 * j + 1)) hT
  cases res with
  | inl k =>
    refine lv_aload_n hx hb dL_law_2314 rfl (lv_at hl 2 rfl) ?_
    refine lv_aload_n hx hb dL_law_2315 rfl (lv_at hl 1 rfl) ?_
    refine lv_iload hx hb dL_law_2316 (lv_at hl 0 rfl) ?_
    refine lv_iconst (v := 1) hx hb dL_law_2318 (by decide) ?_
    refine lv_iadd hx hb dL_law_2319 ?_
    rw [show nI (6 * j) + 1 = nI (6 * j + 1) from nI_add (6 * j) 1]
    refine lw_scr hx hb hX hbl hbo hL3 hL (by omega) dL_law_2320 ?_
    refine wx_call (As := [.ref aG, .int (xs (6 * j + 1))]) (rest := []) ⟨hx, hb, hml, hown, hts⟩ (c_L_save (G := G) (cA := cA) (H0 := H0) hl0 D hI h1 h2) (vx_cwSW 2 hts (gSWx mw_1331 mw_1332 mw_130 mw_1333) rfl rfl rfl hd_L_save ⟨Nat.le_of_ble_eq_true rfl, Nat.le_of_ble_eq_true rfl⟩) hN hZ hX3 hP rfl hl.1 rfl (Nat.le_of_ble_eq_true rfl) dL_law_2321 ⟨by show cells + 25 ≤ 601024; omega, by show slots + 1404 ≤ 7293034; omega⟩ hL (fun H locs hP hL => ?_)
    have hP : BW G cA H0 lo aG aM aO bs (svOf ix bs) β H := hP
    refine lv_istore (lv' := [(6, .int (wCode 1 (.inl k : Nat ⊕ (SavR)))), (5, .int (nI (6 * j))), (0, .ref b), (1, .ref aG), (2, .ref aM), (3, .ref aO), (4, .ref (aO + 1))]) hx hb dL_law_2324 hl (by decide) rfl (fun ls hl => ?_)
    refine lv_aload_n hx hb dL_law_2326 rfl (lv_at hl 4 rfl) ?_
    refine lv_aload_n hx hb dL_law_2327 rfl (lv_at hl 2 rfl) ?_
    refine lv_iload hx hb dL_law_2328 (lv_at hl 1 rfl) ?_
    refine lv_iconst (v := 1) hx hb dL_law_2330 (by decide) ?_
    refine lv_iadd hx hb dL_law_2331 ?_
    rw [show nI (6 * j) + 1 = nI (6 * j + 1) from nI_add (6 * j) 1]
    refine lw_scr hx hb hX hbl hbo hL3 hL (by omega) dL_law_2332 ?_
    refine cx_callV (As := [.int (xs (6 * j + 1))]) (rest := []) ⟨hx, hb, hml, hown, hts⟩ (c_X9_save (BW_M (G := G) (cA := cA) (H0 := H0) (sv := (svOf ix bs)) D β) h3) (cwV 1 hts (gV mw_1338 mw_1339 mw_1340 mw_5 mw_1341) rfl rfl rfl hd_X9_save ⟨Nat.le_of_ble_eq_true rfl, Nat.le_of_ble_eq_true rfl⟩) hK hP rfl (at_Model (BW_M (G := G) (cA := cA) (H0 := H0) (sv := (svOf ix bs)) D β) hP) rfl hl.1 rfl (Nat.le_of_ble_eq_true rfl) dL_law_2333 ⟨by show cells + 25 + 0 ≤ 601024; omega, by show slots + 1404 + 0 ≤ 7293034; omega⟩ hL (fun H locs hP hL => ?_)
    have hP : BW G cA H0 lo aG aM aO bs (svOf ix bs) (β.1, μ1, β.2.2) H := hP
    refine lv_aload_n hx hb dL_law_2336 rfl (lv_at hl 4 rfl) ?_
    refine cx_callV (As := []) (rest := []) ⟨hx, hb, hml, hown, hts⟩ (c_X9_thrown (BW_M (G := G) (cA := cA) (H0 := H0) (sv := (svOf ix bs)) D (β.1, μ1, β.2.2)) h4) (cwV 0 hts (gV mw_155 mw_156 mw_157 mw_5 mw_158) rfl rfl rfl hd_X9_thrown ⟨Nat.le_of_ble_eq_true rfl, Nat.le_of_ble_eq_true rfl⟩) hK hP rfl (at_Model (BW_M (G := G) (cA := cA) (H0 := H0) (sv := (svOf ix bs)) D (β.1, μ1, β.2.2)) hP) rfl hl.1 rfl (Nat.le_of_ble_eq_true rfl) dL_law_2337 ⟨by show cells + 25 + 0 + 0 ≤ 601024; omega, by show slots + 1404 + 0 + 0 ≤ 7293034; omega⟩ hL (fun H locs hP hL => ?_)
    refine lv_iload hx hb dL_law_2340 (lv_at hl 0 rfl) ?_
    refine lv_icmp_eq (tgt := 2347) hx hb dL_law_2342 (by decide) (fun _ => ?_) (fun c8 => absurd rfl c8)
    refine lv_goto (tgt := 2386) hx hb dL_law_2347 (by decide) ?_
    exact next (β.1, μ1, β.2.2) ix bs _ _ _ _ _ ⟨D, hI, hP, (h5 k rfl), hL⟩ (by omega) (by omega) (lv_sub hl [1, 2, 3, 4, 5, 6] rfl)
  | inr r =>
    replace h6 := h6 r rfl
    refine lv_aload_n hx hb dL_law_2314 rfl (lv_at hl 2 rfl) ?_
    refine lv_aload_n hx hb dL_law_2315 rfl (lv_at hl 1 rfl) ?_
    refine lv_iload hx hb dL_law_2316 (lv_at hl 0 rfl) ?_
    refine lv_iconst (v := 1) hx hb dL_law_2318 (by decide) ?_
    refine lv_iadd hx hb dL_law_2319 ?_
    rw [show nI (6 * j) + 1 = nI (6 * j + 1) from nI_add (6 * j) 1]
    refine lw_scr hx hb hX hbl hbo hL3 hL (by omega) dL_law_2320 ?_
    refine wx_call (As := [.ref aG, .int (xs (6 * j + 1))]) (rest := []) ⟨hx, hb, hml, hown, hts⟩ (c_L_save (G := G) (cA := cA) (H0 := H0) hl0 D hI h1 h2) (vx_cwSW 2 hts (gSWx mw_1331 mw_1332 mw_130 mw_1333) rfl rfl rfl hd_L_save ⟨Nat.le_of_ble_eq_true rfl, Nat.le_of_ble_eq_true rfl⟩) hN hZ hX3 hP rfl hl.1 rfl (Nat.le_of_ble_eq_true rfl) dL_law_2321 ⟨by show cells + 25 ≤ 601024; omega, by show slots + 1404 ≤ 7293034; omega⟩ hL (fun H locs hP hL => ?_)
    obtain ⟨bs2, hb2, D2, hP⟩ := hP
    refine lv_istore (lv' := [(6, .int 0), (5, .int (nI (6 * j))), (0, .ref b), (1, .ref aG), (2, .ref aM), (3, .ref aO), (4, .ref (aO + 1))]) hx hb dL_law_2324 hl (by decide) rfl (fun ls hl => ?_)
    refine lv_aload_n hx hb dL_law_2326 rfl (lv_at hl 4 rfl) ?_
    refine lv_aload_n hx hb dL_law_2327 rfl (lv_at hl 2 rfl) ?_
    refine lv_iload hx hb dL_law_2328 (lv_at hl 1 rfl) ?_
    refine lv_iconst (v := 1) hx hb dL_law_2330 (by decide) ?_
    refine lv_iadd hx hb dL_law_2331 ?_
    rw [show nI (6 * j) + 1 = nI (6 * j + 1) from nI_add (6 * j) 1]
    refine lw_scr hx hb hX hbl hbo hL3 hL (by omega) dL_law_2332 ?_
    refine cx_callV (As := [.int (xs (6 * j + 1))]) (rest := []) ⟨hx, hb, hml, hown, hts⟩ (c_X9_save (BW_M (G := G) (cA := cA) (H0 := H0) (sv := (svOf r.1 bs2)) D2 (β.1, β.2.1, β.2.2.1, β.2.2.2.1, r.2.2)) h3) (cwV 1 hts (gV mw_1338 mw_1339 mw_1340 mw_5 mw_1341) rfl rfl rfl hd_X9_save ⟨Nat.le_of_ble_eq_true rfl, Nat.le_of_ble_eq_true rfl⟩) hK hP rfl (at_Model (BW_M (G := G) (cA := cA) (H0 := H0) (sv := (svOf r.1 bs2)) D2 (β.1, β.2.1, β.2.2.1, β.2.2.2.1, r.2.2)) hP) rfl hl.1 rfl (Nat.le_of_ble_eq_true rfl) dL_law_2333 ⟨by show cells + 25 + 0 ≤ 601024; omega, by show slots + 1404 + 0 ≤ 7293034; omega⟩ hL (fun H locs hP hL => ?_)
    have hP : BW G cA H0 lo aG aM aO bs2 (svOf r.1 bs2) (β.1, μ1, β.2.2.1, β.2.2.2.1, r.2.2) H := hP
    refine lv_aload_n hx hb dL_law_2336 rfl (lv_at hl 4 rfl) ?_
    refine cx_callV (As := []) (rest := []) ⟨hx, hb, hml, hown, hts⟩ (c_X9_thrown (BW_M (G := G) (cA := cA) (H0 := H0) (sv := (svOf r.1 bs2)) D2 (β.1, μ1, β.2.2.1, β.2.2.2.1, r.2.2)) h4) (cwV 0 hts (gV mw_155 mw_156 mw_157 mw_5 mw_158) rfl rfl rfl hd_X9_thrown ⟨Nat.le_of_ble_eq_true rfl, Nat.le_of_ble_eq_true rfl⟩) hK hP rfl (at_Model (BW_M (G := G) (cA := cA) (H0 := H0) (sv := (svOf r.1 bs2)) D2 (β.1, μ1, β.2.2.1, β.2.2.2.1, r.2.2)) hP) rfl hl.1 rfl (Nat.le_of_ble_eq_true rfl) dL_law_2337 ⟨by show cells + 25 + 0 + 0 ≤ 601024; omega, by show slots + 1404 + 0 + 0 ≤ 7293034; omega⟩ hL (fun H locs hP hL => ?_)
    refine lv_iload hx hb dL_law_2340 (lv_at hl 0 rfl) ?_
    refine lv_icmp_eq (tgt := 2347) hx hb dL_law_2342 (by decide) (fun _ => ?_) (fun c8 => absurd rfl c8)
    refine lv_goto (tgt := 2386) hx hb dL_law_2347 (by decide) ?_
    exact next (β.1, μ1, β.2.2.1, β.2.2.2.1, r.2.2) r.1 bs2 _ _ _ _ _ ⟨D2, (by rw [hb2]; exact h6.1), hP, (by rw [hb2]; exact h6.2), hL⟩ (by omega) (by omega) (lv_sub hl [1, 2, 3, 4, 5, 6] rfl)
def Sim_restore (N : Nat) (Top Toq : TopT) : Prop := ∀ (γ : GLS) (μ : MdlS) (κ : Nat → CacS) (ix : Nat → Option Nat) (nb : Nat) (p0 : Int32), Top γ μ κ ix nb → ∃ (res : Nat ⊕ GLS) (μ1 : MdlS), f_X8_restore N ix γ κ p0 = some res ∧ (∀ k, res = .inl k → k = 1 ∨ k = 2) ∧ f_X9_restore N μ p0 = some μ1 ∧ f_X9_thrown μ1 = some (wCode 1 res) ∧ (∀ k, res = .inl k → Toq γ μ1 κ ix nb) ∧ ∀ r, res = .inr r → Toq r μ1 κ ix nb
set_option maxHeartbeats 2000000 in
set_option maxRecDepth 100000 in
theorem w_law_restore {p : Program} {l : Launch} {e : Env} {s : State} {m : MethodId} {args : Array Value} {below : List Frame} {meth : Method} {c : Code} {G : va_G} {cA : Nat → ClassId} {H0 : Heap} {lo aG aM aO : Nat} {z : ZS} {Top Toq : TopT} {b L j N cells slots : Nat} {xs : Nat → Int32} {Q : State → Prop} (F : LwF l p s m args c G cA lo z b L xs) (hj : 6 * j + 5 < L) (hS : Sim_restore N Top Toq) {β : BigS} {ix : Nat → Option Nat} {bs : List Nat} {H : Heap} {locs : List Loc} {ls : Array Slot} (St : LwS G cA H0 lo aG aM aO Top β ix bs H locs) (hcs : cells ≤ 500000) (hss : slots ≤ 7000000) (hl : lv_has ls 10 [(5, .int (nI (6 * j))), (0, .ref b), (1, .ref aG), (2, .ref aM), (3, .ref aO), (4, .ref (aO + 1))]) (next : LwN p l e s m args below meth c G cA H0 lo aG aM aO Toq b j cells slots Q) : W p l e room_1 s m args below meth c H locs cells slots Q (F0 m 2350 ls []) := by
  obtain ⟨⟨hl0, hx, hb, hml, hown, hts⟩, hN, hZ, hX3, hX, hbl, hbo, hL3⟩ := id F
  have hK := hN.1
  obtain ⟨D, hI, hP, hT, hL⟩ := St
  obtain ⟨res, μ1, h1, h2, h3, h4, h5, h6⟩ := hS β.1 β.2.1 β.2.2.2.2 ix bs.length (xs (6 * j + 1)) hT
  cases res with
  | inl k =>
    refine lv_aload_n hx hb dL_law_2350 rfl (lv_at hl 2 rfl) ?_
    refine lv_aload_n hx hb dL_law_2351 rfl (lv_at hl 1 rfl) ?_
    refine lv_iload hx hb dL_law_2352 (lv_at hl 0 rfl) ?_
    refine lv_iconst (v := 1) hx hb dL_law_2354 (by decide) ?_
    refine lv_iadd hx hb dL_law_2355 ?_
    rw [show nI (6 * j) + 1 = nI (6 * j + 1) from nI_add (6 * j) 1]
    refine lw_scr hx hb hX hbl hbo hL3 hL (by omega) dL_law_2356 ?_
    refine wx_call (As := [.ref aG, .int (xs (6 * j + 1))]) (rest := []) ⟨hx, hb, hml, hown, hts⟩ (c_L_restore (G := G) (cA := cA) (H0 := H0) hl0 D hI h1 h2) (vx_cwSW 2 hts (gSWx mw_1342 mw_1343 mw_130 mw_1344) rfl rfl rfl hd_L_restore ⟨Nat.le_of_ble_eq_true rfl, Nat.le_of_ble_eq_true rfl⟩) hN hZ hX3 hP rfl hl.1 rfl (Nat.le_of_ble_eq_true rfl) dL_law_2357 ⟨by show cells + 1 ≤ 601024; omega, by show slots + 6 ≤ 7293034; omega⟩ hL (fun H locs hP hL => ?_)
    have hP : BW G cA H0 lo aG aM aO bs (svOf ix bs) β H := hP
    refine lv_istore (lv' := [(6, .int (wCode 1 (.inl k : Nat ⊕ (GLS)))), (5, .int (nI (6 * j))), (0, .ref b), (1, .ref aG), (2, .ref aM), (3, .ref aO), (4, .ref (aO + 1))]) hx hb dL_law_2360 hl (by decide) rfl (fun ls hl => ?_)
    refine lv_aload_n hx hb dL_law_2362 rfl (lv_at hl 4 rfl) ?_
    refine lv_aload_n hx hb dL_law_2363 rfl (lv_at hl 2 rfl) ?_
    refine lv_iload hx hb dL_law_2364 (lv_at hl 1 rfl) ?_
    refine lv_iconst (v := 1) hx hb dL_law_2366 (by decide) ?_
    refine lv_iadd hx hb dL_law_2367 ?_
    rw [show nI (6 * j) + 1 = nI (6 * j + 1) from nI_add (6 * j) 1]
    refine lw_scr hx hb hX hbl hbo hL3 hL (by omega) dL_law_2368 ?_
    refine cx_callV (As := [.int (xs (6 * j + 1))]) (rest := []) ⟨hx, hb, hml, hown, hts⟩ (c_X9_restore (BW_M (G := G) (cA := cA) (H0 := H0) (sv := (svOf ix bs)) D β) h3) (cwV 1 hts (gV mw_1349 mw_1350 mw_1351 mw_5 mw_1352) rfl rfl rfl hd_X9_restore ⟨Nat.le_of_ble_eq_true rfl, Nat.le_of_ble_eq_true rfl⟩) hK hP rfl (at_Model (BW_M (G := G) (cA := cA) (H0 := H0) (sv := (svOf ix bs)) D β) hP) rfl hl.1 rfl (Nat.le_of_ble_eq_true rfl) dL_law_2369 ⟨by show cells + 1 + 0 ≤ 601024; omega, by show slots + 6 + 0 ≤ 7293034; omega⟩ hL (fun H locs hP hL => ?_)
    have hP : BW G cA H0 lo aG aM aO bs (svOf ix bs) (β.1, μ1, β.2.2) H := hP
    refine lv_aload_n hx hb dL_law_2372 rfl (lv_at hl 4 rfl) ?_
    refine cx_callV (As := []) (rest := []) ⟨hx, hb, hml, hown, hts⟩ (c_X9_thrown (BW_M (G := G) (cA := cA) (H0 := H0) (sv := (svOf ix bs)) D (β.1, μ1, β.2.2)) h4) (cwV 0 hts (gV mw_155 mw_156 mw_157 mw_5 mw_158) rfl rfl rfl hd_X9_thrown ⟨Nat.le_of_ble_eq_true rfl, Nat.le_of_ble_eq_true rfl⟩) hK hP rfl (at_Model (BW_M (G := G) (cA := cA) (H0 := H0) (sv := (svOf ix bs)) D (β.1, μ1, β.2.2)) hP) rfl hl.1 rfl (Nat.le_of_ble_eq_true rfl) dL_law_2373 ⟨by show cells + 1 + 0 + 0 ≤ 601024; omega, by show slots + 6 + 0 + 0 ≤ 7293034; omega⟩ hL (fun H locs hP hL => ?_)
    refine lv_iload hx hb dL_law_2376 (lv_at hl 0 rfl) ?_
    refine lv_icmp_eq (tgt := 2383) hx hb dL_law_2378 (by decide) (fun _ => ?_) (fun c8 => absurd rfl c8)
    refine lv_goto (tgt := 2386) hx hb dL_law_2383 (by decide) ?_
    exact next (β.1, μ1, β.2.2) ix bs _ _ _ _ _ ⟨D, hI, hP, (h5 k rfl), hL⟩ (by omega) (by omega) (lv_sub hl [1, 2, 3, 4, 5, 6] rfl)
  | inr r =>
    replace h6 := h6 r rfl
    refine lv_aload_n hx hb dL_law_2350 rfl (lv_at hl 2 rfl) ?_
    refine lv_aload_n hx hb dL_law_2351 rfl (lv_at hl 1 rfl) ?_
    refine lv_iload hx hb dL_law_2352 (lv_at hl 0 rfl) ?_
    refine lv_iconst (v := 1) hx hb dL_law_2354 (by decide) ?_
    refine lv_iadd hx hb dL_law_2355 ?_
    rw [show nI (6 * j) + 1 = nI (6 * j + 1) from nI_add (6 * j) 1]
    refine lw_scr hx hb hX hbl hbo hL3 hL (by omega) dL_law_2356 ?_
    refine wx_call (As := [.ref aG, .int (xs (6 * j + 1))]) (rest := []) ⟨hx, hb, hml, hown, hts⟩ (c_L_restore (G := G) (cA := cA) (H0 := H0) hl0 D hI h1 h2) (vx_cwSW 2 hts (gSWx mw_1342 mw_1343 mw_130 mw_1344) rfl rfl rfl hd_L_restore ⟨Nat.le_of_ble_eq_true rfl, Nat.le_of_ble_eq_true rfl⟩) hN hZ hX3 hP rfl hl.1 rfl (Nat.le_of_ble_eq_true rfl) dL_law_2357 ⟨by show cells + 1 ≤ 601024; omega, by show slots + 6 ≤ 7293034; omega⟩ hL (fun H locs hP hL => ?_)
    have hP : BW G cA H0 lo aG aM aO bs (svOf ix bs) (r, β.2) H := hP
    refine lv_istore (lv' := [(6, .int 0), (5, .int (nI (6 * j))), (0, .ref b), (1, .ref aG), (2, .ref aM), (3, .ref aO), (4, .ref (aO + 1))]) hx hb dL_law_2360 hl (by decide) rfl (fun ls hl => ?_)
    refine lv_aload_n hx hb dL_law_2362 rfl (lv_at hl 4 rfl) ?_
    refine lv_aload_n hx hb dL_law_2363 rfl (lv_at hl 2 rfl) ?_
    refine lv_iload hx hb dL_law_2364 (lv_at hl 1 rfl) ?_
    refine lv_iconst (v := 1) hx hb dL_law_2366 (by decide) ?_
    refine lv_iadd hx hb dL_law_2367 ?_
    rw [show nI (6 * j) + 1 = nI (6 * j + 1) from nI_add (6 * j) 1]
    refine lw_scr hx hb hX hbl hbo hL3 hL (by omega) dL_law_2368 ?_
    refine cx_callV (As := [.int (xs (6 * j + 1))]) (rest := []) ⟨hx, hb, hml, hown, hts⟩ (c_X9_restore (BW_M (G := G) (cA := cA) (H0 := H0) (sv := (svOf ix bs)) D (r, β.2)) h3) (cwV 1 hts (gV mw_1349 mw_1350 mw_1351 mw_5 mw_1352) rfl rfl rfl hd_X9_restore ⟨Nat.le_of_ble_eq_true rfl, Nat.le_of_ble_eq_true rfl⟩) hK hP rfl (at_Model (BW_M (G := G) (cA := cA) (H0 := H0) (sv := (svOf ix bs)) D (r, β.2)) hP) rfl hl.1 rfl (Nat.le_of_ble_eq_true rfl) dL_law_2369 ⟨by show cells + 1 + 0 ≤ 601024; omega, by show slots + 6 + 0 ≤ 7293034; omega⟩ hL (fun H locs hP hL => ?_)
    have hP : BW G cA H0 lo aG aM aO bs (svOf ix bs) (r, μ1, β.2.2) H := hP
    refine lv_aload_n hx hb dL_law_2372 rfl (lv_at hl 4 rfl) ?_
    refine cx_callV (As := []) (rest := []) ⟨hx, hb, hml, hown, hts⟩ (c_X9_thrown (BW_M (G := G) (cA := cA) (H0 := H0) (sv := (svOf ix bs)) D (r, μ1, β.2.2)) h4) (cwV 0 hts (gV mw_155 mw_156 mw_157 mw_5 mw_158) rfl rfl rfl hd_X9_thrown ⟨Nat.le_of_ble_eq_true rfl, Nat.le_of_ble_eq_true rfl⟩) hK hP rfl (at_Model (BW_M (G := G) (cA := cA) (H0 := H0) (sv := (svOf ix bs)) D (r, μ1, β.2.2)) hP) rfl hl.1 rfl (Nat.le_of_ble_eq_true rfl) dL_law_2373 ⟨by show cells + 1 + 0 + 0 ≤ 601024; omega, by show slots + 6 + 0 + 0 ≤ 7293034; omega⟩ hL (fun H locs hP hL => ?_)
    refine lv_iload hx hb dL_law_2376 (lv_at hl 0 rfl) ?_
    refine lv_icmp_eq (tgt := 2383) hx hb dL_law_2378 (by decide) (fun _ => ?_) (fun c8 => absurd rfl c8)
    refine lv_goto (tgt := 2386) hx hb dL_law_2383 (by decide) ?_
    exact next (r, μ1, β.2.2) ix bs _ _ _ _ _ ⟨D, hI, hP, h6, hL⟩ (by omega) (by omega) (lv_sub hl [1, 2, 3, 4, 5, 6] rfl)
