/-! queries: what there is, what follows -/
section CC
variable {σ : CacS} {S : AS}
theorem cl_at (h : RepC σ S E0) {k c : Nat} (hk : aN S 6 = nI k) (hk4 : k ≤ 4) (hc : c < k) : f_X1_clientOf σ (nI c) = some (some c) := cl_of (h.1.1.trans hk) hk4 hc
theorem cl_f (h : RepC σ S E0) {k c f : Nat} (hk : aN S 6 = nI k) (hk4 : k ≤ 4) (hc : c < k) (hf : f < 8) : (σ (8 + c)).2 f = aC S c f := h.2.2.2.2 c (by omega) (by rw [hk]; exact nI_lt hc (by omega)) f hf
theorem c_owned_b5 {N l c : Nat} (h : RepC σ S E0) (hI : Inv S) (hl : l < 3) (hc : c < 4) : ∀ r n i q, i + r = (aL S l).length → r < n → f_X1_howManyOwned_b5 N n σ l (nI c) (nI q) (nI i) = some (nI (q + aCn S ((aL S l).drop i) c)) := by
  have hr := h.2.2.2.1 l (by omega)
  have h24 := hr.1
  intro r
  induction r with
  | zero =>
    intro n i q hi hn
    obtain ⟨n, rfl⟩ : ∃ m, n = m + 1 := ⟨n - 1, by omega⟩
    have : i = (aL S l).length := by omega
    subst this
    rw [f_X1_howManyOwned_b5, hr.2.1, if_pos (nI_le (Nat.le_refl _) (by omega)), List.drop_length]
    rfl
  | succ r ih =>
    intro n i q hi hn
    obtain ⟨n, rfl⟩ : ∃ m, n = m + 1 := ⟨n - 1, by omega⟩
    obtain ⟨hx, -, -, o, ho, eo, -⟩ := hI.mem hl (pu_getD_mem (show i < (aL S l).length by omega))
    rw [f_X1_howManyOwned_b5, hr.2.1]
    refine e_f (nI_ge (by omega) (by omega)) (e_b (p5_blockAt hr (by omega)) (e_b (p0_ownerOf h.2.1 hx) ?_))
    rw [eo, nI_1, nI_1, pu_dropD (show i < (aL S l).length by omega)]
    unfold aCn
    rw [List.countP_cons]
    by_cases e : o = c
    · subst e
      refine e_t rfl ((ih n (i + 1) (q + 1) (by omega) (by omega)).trans ?_)
      rw [if_pos (decide_eq_true eo)]
      unfold aCn
      rw [show q + 1 + List.countP (fun b => decide (aB S 2 b = nI o)) (List.drop (i + 1) (aL S l)) = q + (List.countP (fun b => decide (aB S 2 b = nI o)) (List.drop (i + 1) (aL S l)) + 1) by omega]
    · refine e_f (fun q => e ((nI_eq (by omega) (by omega)).mp q)) ((ih n (i + 1) q (by omega) (by omega)).trans ?_)
      rw [if_neg (fun q => e ((nI_eq (by omega) (by omega)).mp (eo.symm.trans (of_decide_eq_true q))))]
      rfl
theorem c_owned {N l c : Nat} (hN : 100 ≤ N) (h : RepC σ S E0) (hI : Inv S) (hl : l < 3) (hc : c < 4) : f_X1_howManyOwned N σ l (nI c) = some (nI (aCn S (aL S l) c)) := by
  have h24 := (h.2.2.2.1 l (by omega)).1
  have := c_owned_b5 (N := N) h hI hl hc (aL S l).length N 0 0 (by omega) (by omega)
  rw [List.drop_zero, Nat.zero_add] at this
  exact this
theorem c_upper {N c : Nat} (hN : 100 ≤ N) (h : RepC σ S E0) (hI : Inv S) (hc : c < 4) : f_X1_upperUnitsOf N σ (nI c) = some (nI (aUn S c)) := by
  unfold f_X1_upperUnitsOf
  refine e_b (c_owned hN h hI (l := 0) (by decide) hc) (e_b (c_owned hN h hI (l := 1) (by decide) hc) ?_)
  rw [nI_add]
  rfl
theorem c_above {c k : Nat} {u s : Int32} (h : RepC σ S E0) (hk : aN S 6 = nI k) (hk4 : k ≤ 4) (hc : c < k) : f_X1_unitsAbove σ (nI c) u s = some (u * s - aN S 2 * aC S c 0) := by
  unfold f_X1_unitsAbove
  refine e_b (cl_at h hk hk4 hc) (e_o ?_)
  rw [h.1.2.2.2.1, cl_f h hk hk4 hc (by decide)]
theorem aSw_le (hO : cliOk S) : aSw S ≤ 36 := by
  obtain ⟨k, k1, k2, k3⟩ := hO
  unfold aSw
  rw [k1, nI_clamp (by omega)]
  have := aSwN_le (S := S) (k := k) (fun c hc => (k3 c hc).1)
  omega
theorem aUn_le (hI : Inv S) (c : Nat) : aUn S c ≤ 16 := by
  obtain ⟨u, u1, u2, u3, u4, -⟩ := hI.1.2.2.1
  have q0 := aCn_le (S := S) (aL S 0) c
  have q1 := aCn_le (S := S) (aL S 1) c
  unfold aUn
  omega
theorem aTM_iff (hI : Inv S) {k c : Nat} (hk : aN S 6 = nI k) (hc : c < k) (hk4 : k ≤ 4) : nI (aUn S c) * nI (aSw S) - aN S 2 * aC S c 0 ≤ 0 ↔ ¬ aTM S c = true := by
  obtain ⟨u, u1, u2, u3, u4, -⟩ := hI.1.2.2.1
  obtain ⟨k', k1, kl, k3⟩ := hI.1.2.2.2.1
  have ek : k' = k := (nI_eq (by omega) (by omega)).mp (k1.symm.trans hk)
  subst ek
  obtain ⟨w, w1, -, w9⟩ := (k3 c hc).1
  have h1 : aUn S c * aSw S < 2 ^ 30 := Nat.lt_of_le_of_lt (Nat.mul_le_mul (aUn_le hI c) (aSw_le hI.1.2.2.2.1)) (by decide)
  have h2 : u * w < 2 ^ 30 := Nat.lt_of_le_of_lt (Nat.mul_le_mul u3 w9) (by decide)
  unfold aTM
  rw [u1, w1, pu_above h1 h2, decide_eq_true_iff, Classical.not_not]
end CC
theorem s_client {N K L : Nat} (hN : 1000 ≤ N) (hL : K ≤ L) : Sim_client N (TopK K) (TopK L) := by
  intro γ μ κ ix nb p0 p1 h
  obtain ⟨⟨S, hI, hC, hM, hK⟩, hR⟩ := id h
  have hT := h.mono hL
  obtain ⟨k, k1, k2, k3⟩ := id hI.1.2.2.2.1
  have e6 : μ.1.1 0 6 = nI k := (hM.1 6 (by omega)).trans k1
  rcases r_client (γ := γ) (hC.1.1.trans k1) k2 p0 with ⟨c, hc, rfl, e1, e2⟩ | ⟨e1, e2⟩
  · have e2 := e2 (oI μ.1 6 0, μ.2) e6
    have hc4 : c < 4 := by omega
    have hn : nI c < aN S 6 := by rw [k1]; exact nI_lt hc (by omega)
    rcases r_rangeN p1 10 (n := 10) rfl with ⟨j, hj, rfl, e3, -⟩ | ⟨e3, e4⟩
    · have key : ∀ v, f_X1_numberOfClient N γ.2.2.1 (nI c) (nI j) = some v → f_X9_client N μ (nI c) (nI j) = some (v, ((oI μ.1 6 0, μ.2) : MdlS)) → _ := fun v a b => sq_r (T := fun μ1 => TopK L γ μ1 κ ix nb) (hk := fun k => k = 0 ∨ k = 1) (k1 := 0) (x8 := f_X8_client N γ (nI c) (nI j)) (v := v) (e_x e1 (e_x e3 (e_b a rfl))) b rfl (hT.t6 0)
      have cls : ∀ f v, (∀ q, f_X1_numberOfClient N γ.2.2.1 (nI c) q = (f_X1_clientOf γ.2.2.1 (nI c)).bind fun r1 => on_ r1 (some (-1)) (fun k3 => if q = 1 then (f_X1_upperUnitsOf N γ.2.2.1 (nI c)).bind fun r5 => some r5 else if q = 2 then (f_X1_howManyOwned N γ.2.2.1 2 (nI c)).bind fun r8 => some r8 else if q = 10 then (f_X1_upperUnitsOf N γ.2.2.1 (nI c)).bind fun r11 => (f_X1_sumOfWeights N γ.2.2.1).bind fun r13 => (f_X1_unitsAbove γ.2.2.1 (nI c) r11 r13).bind fun r15 => if r15 ≤ 0 then some 0 else some 1 else (f_X2_numberOf (γ.2.2.1 (8 + k3)) q).bind fun r18 => some r18)) → f < 8 → f_X2_numberOf (γ.2.2.1 (8 + c)) v = some ((γ.2.2.1 (8 + c)).2 f) → v ≠ 1 → v ≠ 2 → v ≠ 10 → f_X1_numberOfClient N γ.2.2.1 (nI c) v = some (aC S c f) := fun f v h0 hf h1 h2 h3 h4 => by
        rw [h0 v]
        refine e_b (cl_at hC k1 k2 hc) (e_o (e_f h2 (e_f h3 (e_f h4 (e_b h1 ?_)))))
        rw [cl_f hC k1 k2 hc hf]
      have cls := fun f v => cls f v (fun q => rfl)
      have mc : ∀ f, f < 8 → f_X9_ofClient ((oI μ.1 6 0, μ.2) : MdlS) (nI c) (nI f) = some (aC S c f) := fun f hf => n_ofC (μ := (oI μ.1 6 0, μ.2)) hM c f hc4 hn hf
      rcases (show j = 0 ∨ j = 1 ∨ j = 2 ∨ j = 3 ∨ j = 4 ∨ j = 5 ∨ j = 6 ∨ j = 7 ∨ j = 8 ∨ j = 9 ∨ j = 10 by omega) with rfl | rfl | rfl | rfl | rfl | rfl | rfl | rfl | rfl | rfl | rfl
      · exact key _ (cls 0 _ (by decide) rfl (by decide) (by decide) (by decide)) (e_l (e_b e2 (e_f (by decide) (e_t rfl (e_b (mc 0 (by decide)) rfl)))))
      · exact key _ (e_b (cl_at hC k1 k2 hc) (e_o (e_t rfl (e_b (c_upper (by omega) hC hI hc4) rfl)))) (e_l (e_b e2 (e_f (by decide) (e_f (by decide) (e_t rfl (e_t rfl (e_b (n_units (μ := (oI μ.1 6 0, μ.2)) (by omega) hM hI hc4) rfl)))))))
      · exact key _ (e_b (cl_at hC k1 k2 hc) (e_o (e_f (by decide) (e_t rfl (e_b (c_owned (by omega) hC hI (by decide) hc4) rfl))))) (e_l (e_b e2 (e_f (by decide) (e_f (by decide) (e_f (by decide) (e_t rfl (e_f (by decide) (e_b (n_unitsLow (μ := (oI μ.1 6 0, μ.2)) (by omega) hM hI hc4) rfl))))))))
      · exact key _ (cls 1 _ (by decide) rfl (by decide) (by decide) (by decide)) (e_l (e_b e2 (e_f (by decide) (e_f (by decide) (e_f (by decide) (e_f (by decide) (e_t rfl (e_b (mc 1 (by decide)) rfl))))))))
      · exact key _ (cls 2 _ (by decide) rfl (by decide) (by decide) (by decide)) (e_l (e_b e2 (e_f (by decide) (e_f (by decide) (e_f (by decide) (e_f (by decide) (e_f (by decide) (e_t rfl (e_b (mc 2 (by decide)) rfl)))))))))
      · exact key _ (cls 3 _ (by decide) rfl (by decide) (by decide) (by decide)) (e_l (e_b e2 (e_f (by decide) (e_f (by decide) (e_f (by decide) (e_f (by decide) (e_f (by decide) (e_f (by decide) (e_t rfl (e_b (mc 3 (by decide)) rfl))))))))))
      · exact key _ (cls 4 _ (by decide) rfl (by decide) (by decide) (by decide)) (e_l (e_b e2 (e_f (by decide) (e_f (by decide) (e_f (by decide) (e_f (by decide) (e_f (by decide) (e_f (by decide) (e_f (by decide) (e_t rfl (e_b (mc 4 (by decide)) rfl)))))))))))
      · exact key _ (cls 5 _ (by decide) rfl (by decide) (by decide) (by decide)) (e_l (e_b e2 (e_f (by decide) (e_f (by decide) (e_f (by decide) (e_f (by decide) (e_f (by decide) (e_f (by decide) (e_f (by decide) (e_f (by decide) (e_t rfl (e_b (mc 5 (by decide)) rfl))))))))))))
      · exact key _ (cls 6 _ (by decide) rfl (by decide) (by decide) (by decide)) (e_l (e_b e2 (e_f (by decide) (e_f (by decide) (e_f (by decide) (e_f (by decide) (e_f (by decide) (e_f (by decide) (e_f (by decide) (e_f (by decide) (e_f (by decide) (e_t rfl (e_b (mc 6 (by decide)) rfl)))))))))))))
      · exact key _ (cls 7 _ (by decide) rfl (by decide) (by decide) (by decide)) (e_l (e_b e2 (e_f (by decide) (e_f (by decide) (e_f (by decide) (e_f (by decide) (e_f (by decide) (e_f (by decide) (e_f (by decide) (e_f (by decide) (e_f (by decide) (e_f (by decide) (e_t rfl (e_b (mc 7 (by decide)) rfl))))))))))))))
      · have tm := aTM_iff hI k1 hc k2
        have pm : ∀ v, (if aTM S c then (1 : Int32) else 0) = v → f_X9_client N μ (nI c) (nI 10) = some (v, ((oI μ.1 6 0, μ.2) : MdlS)) := fun v hv => by
          refine e_l (e_b e2 (e_f (by decide) (e_f (by decide) (e_f (by decide) (e_f (by decide) (e_f (by decide) (e_f (by decide) (e_f (by decide) (e_f (by decide) (e_f (by decide) (e_f (by decide) (e_f (by decide) (e_t rfl (e_b (n_tooMuch (μ := (oI μ.1 6 0, μ.2)) (by omega) hM hI hc4 hn) ?_))))))))))))))
          rw [hv]
          by_cases c9 : aTM S c = true
          · rw [if_pos c9] at hv; subst hv; exact e_f (by decide) rfl
          · rw [if_neg c9] at hv; subst hv; exact e_t rfl rfl
        have pc : ∀ v, (if aTM S c then (1 : Int32) else 0) = v → f_X1_numberOfClient N γ.2.2.1 (nI c) (nI 10) = some v := fun v hv => by
          refine e_b (cl_at hC k1 k2 hc) (e_o (e_f (by decide) (e_f (by decide) (e_t rfl (e_b (c_upper (by omega) hC hI hc4) (e_b (c_sum (by omega) hC hI.1.2.2.2.1) (e_b (c_above hC k1 k2 hc) ?_)))))))
          by_cases c9 : aTM S c = true
          · rw [if_pos c9] at hv; subst hv; exact e_f (fun q => (tm.mp q) c9) rfl
          · rw [if_neg c9] at hv; subst hv; exact e_t (tm.mpr c9) rfl
        exact key _ (pc _ rfl) (pm _ rfl)
    · have nj : ∀ q : Nat, q ≤ 10 → p1 ≠ nI q := fun q hq e => by
        rw [e] at e4
        unfold f_X9_isBetween at e4
        rw [if_neg (nI_pos (by omega)), if_neg (show ¬ (10 : Int32) < nI q from nI_nlt (a := 10) hq (by decide))] at e4
        cases e4
      exact sq_l (k := 1) (b := 0) (μ1 := (oI (oI μ.1 6 0) 6 2, μ.2)) (e_x e1 (e_xl e3)) (Or.inr rfl) (e_l (e_b e2 (e_f (by decide) (e_f (nj 0 (by decide)) (e_f (nj 1 (by decide)) (e_f (nj 2 (by decide)) (e_f (nj 3 (by decide)) (e_f (nj 4 (by decide)) (e_f (nj 5 (by decide)) (e_f (nj 6 (by decide)) (e_f (nj 7 (by decide)) (e_f (nj 8 (by decide)) (e_f (nj 9 (by decide)) (e_f (nj 10 (by decide)) rfl)))))))))))))) rfl ((hT.t6 0).t6 2)
  · exact sq_l (k := 0) (b := 0) (μ1 := (oI (oI μ.1 6 0) 6 1, μ.2)) (e_xl e1) (Or.inl rfl) (e_l (e_b (e2 (oI μ.1 6 0, μ.2) e6) (e_t rfl rfl))) rfl ((hT.t6 0).t6 1)
theorem s_block {N K L : Nat} (hN : 1000 ≤ N) (hL : K ≤ L) : Sim_block N (TopK K) (TopK L) := by
  intro γ μ κ ix nb p0 p1 h
  obtain ⟨⟨S, hI, hC, hM, hK⟩, hR⟩ := id h
  have hT := h.mono hL
  rcases r_block p0 with ⟨b, hb, rfl, e1, e2⟩ | ⟨e1, e2⟩
  · rcases r_rangeN p1 6 (n := 6) rfl with ⟨j, hj, rfl, e3, e4⟩ | ⟨e3, e4⟩
    · have key : ∀ v, f_X1_numberOfBlock N γ.2.2.1 (nI b) (nI j) = some v → (f_X9_block N μ (nI b) (nI j) = some (v, ((oI μ.1 6 0, μ.2) : MdlS))) → _ := fun v a c => sq_r (T := fun μ1 => TopK L γ μ1 κ ix nb) (hk := fun k => k = 1) (k1 := 1) (x8 := f_X8_block N γ (nI b) (nI j)) (v := v) (e_x e1 (e_x e3 (e_b a rfl))) c rfl (hT.t6 0)
      obtain ⟨a1, a2, a3, a4, a5, a6, a7⟩ := hI.2 b hb
      have mo (f : Nat) (hf : f < 5) (q : f = 0 ∨ f = 4 ∨ aB S 0 b ≠ -1) : f_X9_of ((oI μ.1 6 0, μ.2) : MdlS) (nI b) (nI f) = some (aB S f b) := n_of (μ := (oI μ.1 6 0, μ.2)) hM b f hb hf q
      have e0 := mo 0 (by decide) (Or.inl rfl)
      have nE : ¬ E0 b := fun q => q
      have nin (f : Nat) (hf : f = 1 ∨ f = 2 ∨ f = 3) (hw : aB S 0 b = -1) : aB S f b = -1 := by
        rcases hf with rfl | rfl | rfl
        · exact (a5 hw).1
        · exact (a5 hw).2.1
        · exact (a5 hw).2.2
      have val (j f : Nat) (h1 : nI j ≠ 5) (h2 : nI j ≠ 6) (h3 : nI j ≠ 0) (h4 : nI j ≠ 1) (hf : f = 1 ∨ f = 2 ∨ f = 3) (ef : nI j - 1 = nI f) (e4 : f_X9_isBetween (nI j) 0 6 = some 1) : f_X9_block N μ (nI b) (nI j) = some (aB S f b, ((oI μ.1 6 0, μ.2) : MdlS)) := by
        refine e_l (e_b e2 (e_f (by decide) (e_b e4 (e_f (by decide) (e_f h1 (e_f h2 (e_b e0 ?_)))))))
        by_cases hw : aB S 0 b = -1
        · exact e_t hw (by rw [nin f hf hw])
        · rw [ef]
          exact e_f hw (e_f h3 (e_f h4 (e_b (mo f (by omega) (Or.inr (Or.inr hw))) rfl)))
      rcases (show j = 0 ∨ j = 1 ∨ j = 2 ∨ j = 3 ∨ j = 4 ∨ j = 5 ∨ j = 6 by omega) with rfl | rfl | rfl | rfl | rfl | rfl | rfl
      · refine key _ (e_t rfl (e_b (p0_listOf hC.2.1 nE hb) rfl)) (e_l (e_b e2 (e_f (by decide) (e_b e4 (e_f (by decide) (e_f (by decide) (e_f (by decide) (e_b e0 ?_))))))))
        by_cases hw : aB S 0 b = -1
        · exact e_t hw (by rw [hw])
        · exact e_f hw (e_t rfl rfl)
      · by_cases hw : aB S 0 b = -1
        · refine key (-1) (e_f (by decide) (e_t rfl (e_b (a := -1) ?_ rfl))) (e_l (e_b e2 (e_f (by decide) (e_b e4 (e_f (by decide) (e_f (by decide) (e_f (by decide) (e_b e0 (e_t hw rfl)))))))))
          exact e_b (p0_listOf hC.2.1 nE hb) (e_t hw rfl)
        · obtain ⟨l, hl, el⟩ := a2.resolve_left hw
          have hm := (a1 l hl).mpr el
          rw [el] at e0
          refine key (pu_pl b (aL S l) 0) ?_ ?_
          · refine e_f (by decide) (e_t rfl (e_b (a := pu_pl b (aL S l) 0) ?_ rfl))
            refine e_b (p0_listOf hC.2.1 nE hb) (e_f hw ?_)
            rw [el]
            exact e_b (c_rowOf (by omega)) (e_b (p5_placeOf (hC.2.2.2.1 l (by omega)) (hI.1.1 l (by omega)).2 hb (by omega)) rfl)
          · refine e_l (e_b e2 (e_f (by decide) (e_b e4 (e_f (by decide) (e_f (by decide) (e_f (by decide) (e_b e0 (e_f (pu_m1 (by omega)) ?_))))))))
            exact e_f (show ¬ nI 1 = 0 by decide) (e_t rfl (e_b (n_placeOf (μ := (oI μ.1 6 0, μ.2)) (by omega) hM hI (by omega) hb hm) rfl))
      · exact key _ (e_f (by decide) (e_f (by decide) (e_t rfl (e_b (p0_valueOf hC.2.1 hb) rfl)))) (val 2 1 (by decide) (by decide) (by decide) (by decide) (Or.inl rfl) (by decide) e4)
      · exact key _ (e_f (by decide) (e_f (by decide) (e_f (by decide) (e_t rfl (e_b (p0_ownerOf hC.2.1 hb) rfl))))) (val 3 2 (by decide) (by decide) (by decide) (by decide) (Or.inr (Or.inl rfl)) (by decide) e4)
      · exact key _ (e_f (by decide) (e_f (by decide) (e_f (by decide) (e_f (by decide) (e_t rfl (e_b (p0_sinceOf hC.2.1 hb) rfl)))))) (val 4 3 (by decide) (by decide) (by decide) (by decide) (Or.inr (Or.inr rfl)) (by decide) e4)
      · exact key _ (e_f (by decide) (e_f (by decide) (e_f (by decide) (e_f (by decide) (e_f (by decide) (e_t rfl (e_b (p0_ghostListOf hC.2.1 hb) rfl))))))) (e_l (e_b e2 (e_f (by decide) (e_b e4 (e_f (by decide) (e_t rfl (e_b (mo 4 (by decide) (Or.inr (Or.inl rfl))) rfl)))))))
      · refine key _ (e_f (by decide) (e_f (by decide) (e_f (by decide) (e_f (by decide) (e_f (by decide) (e_f (by decide) (e_b (p0_storedOf hC.2.1 hb) rfl))))))) (e_l (e_b e2 (e_f (by decide) (e_b e4 (e_f (by decide) (e_f (by decide) (e_t rfl (e_g (1184 + b) (pu_st b) (by omega) (by decide) ?_))))))))
        rw [pu_st, nI_clamp (by omega)]
        exact congrArg (fun q => some (q, ((oI μ.1 6 0, μ.2) : MdlS))) (hM.2.2.2 b hb).1
    · exact sq_l (k := 1) (b := 0) (μ1 := (oI (oI μ.1 6 0) 6 1, μ.2)) (e_x e1 (e_xl e3)) rfl (e_l (e_b e2 (e_f (by decide) (e_b e4 (e_t rfl rfl))))) rfl ((hT.t6 0).t6 1)
  · exact sq_l (k := 1) (b := 0) (μ1 := (oI (oI μ.1 6 0) 6 1, μ.2)) (e_xl e1) rfl (e_l (e_b e2 (e_t rfl rfl))) rfl ((hT.t6 0).t6 1)
theorem r_nonneg (p : Int32) : (∃ j, j < 2 ^ 31 ∧ p = nI j ∧ f_X8_needNoLessThanZero p = some (.inr ()) ∧ (0 : Int32) ≤ p) ∨ (f_X8_needNoLessThanZero p = some (.inl 0) ∧ ¬ (0 : Int32) ≤ p) := by
  unfold f_X8_needNoLessThanZero
  by_cases h : (0 : Int32) ≤ p
  · obtain ⟨j, hj, e⟩ := nI_of (x := p) (Int32.not_lt.mpr h)
    exact Or.inl ⟨j, hj, e, if_pos h, h⟩
  · exact Or.inr ⟨if_neg h, h⟩
theorem s_at {N K L : Nat} (hL : K ≤ L) : Sim_at N (TopK K) (TopK L) := by
  intro γ μ κ ix nb p0 p1 h
  obtain ⟨⟨S, hI, hC, hM, hK⟩, hR⟩ := id h
  have hT := h.mono hL
  rcases r_list p0 (oI μ.1 6 0, μ.2) with ⟨l, hl, rfl, e1, e2⟩ | ⟨e1, e2⟩
  · rcases r_nonneg p1 with ⟨j, hj, rfl, e3, e4⟩ | ⟨e3, e4⟩
    · have h24 := (hM.2.1 l hl).1
      by_cases c1 : j < (aL S l).length
      · exact sq_r (μ1 := (oI μ.1 6 0, μ.2)) (e_x e1 (e_x e3 (e_b (c_rowOf hl) (e_b (p5_blockAt (hC.2.2.2.1 l hl) c1) rfl)))) (e_l (e_b e2 (e_f (by decide) (e_t e4 (e_b (n_len (μ := (oI μ.1 6 0, μ.2)) hM l hl) (e_f (nI_ge c1 (by omega)) (e_b (n_bAt (μ := (oI μ.1 6 0, μ.2)) hM l j hl c1) rfl))))))) rfl (hT.t6 0)
      · exact sq_r (μ1 := (oI μ.1 6 0, μ.2)) (e_x e1 (e_x e3 (e_b (c_rowOf hl) (e_b (p5_blockAtN (hC.2.2.2.1 l hl) (Or.inr (nI_le (Nat.not_lt.mp c1) hj))) rfl)))) (e_l (e_b e2 (e_f (by decide) (e_t e4 (e_b (n_len (μ := (oI μ.1 6 0, μ.2)) hM l hl) (e_t (nI_le (Nat.not_lt.mp c1) hj) rfl)))))) rfl (hT.t6 0)
    · exact sq_l (k := 0) (b := 0) (μ1 := (oI (oI μ.1 6 0) 6 1, μ.2)) (e_x e1 (e_xl e3)) rfl (e_l (e_b e2 (e_f (by decide) (e_f e4 rfl)))) rfl ((hT.t6 0).t6 1)
  · exact sq_l (k := 0) (b := 0) (μ1 := (oI (oI μ.1 6 0) 6 1, μ.2)) (e_xl e1) rfl (e_l (e_b e2 (e_t rfl rfl))) rfl ((hT.t6 0).t6 1)
theorem s_order {N K L : Nat} (hN : 1000 ≤ N) (hL : K ≤ L) : Sim_order N (TopK K) (TopK L) := by
  intro γ μ κ ix nb p0 h
  obtain ⟨⟨S, hI, hC, hM, hK⟩, hR⟩ := id h
  have hT := h.mono hL
  rcases r_nonneg p0 with ⟨j, hj, rfl, e3, e4⟩ | ⟨e3, e4⟩
  · exact sq_r (μ1 := (oI μ.1 6 0, μ.2)) (e_x e3 (e_b (p0_dirtyAt hC.2.1 hI.1.2.2.2.2.1.1 hI.1.2.2.2.2.1.2 hN) rfl)) (e_l (e_t e4 (e_b (n_inOrder (μ := (oI μ.1 6 0, μ.2)) hM hI hN) rfl))) rfl (hT.t6 0)
  · exact sq_l (k := 0) (b := 0) (μ1 := (oI (oI μ.1 6 0) 6 1, μ.2)) (e_xl e3) rfl (e_l (e_f e4 rfl)) rfl ((hT.t6 0).t6 1)
theorem s_victim {N K L : Nat} (hN : 1000 ≤ N) (hL : K ≤ L) : Sim_victim N (TopK K) (TopK L) := by
  intro γ μ κ ix nb p0 h hp
  obtain ⟨⟨S, hI, hC, hM, hK⟩, hR⟩ := id h
  obtain ⟨t, c1, c2, c3, c4⟩ := c_victim (N := N) (wf := p0) (by omega) hC hI.1.2.2.1 hI.1.2.2.2.1 (fun k hk x hx => ⟨(hI.mem (show k < 3 by omega) hx).1, (hI.mem (show k < 3 by omega) hx).2.2.2⟩)
  have hT : TopK L (γ.1, γ.2.1, t.2, γ.2.2.2) (oI μ.1 6 0, μ.2) κ ix nb := ⟨⟨S, hI, c3, hM, hK.mono hL⟩, hR.mono hL⟩
  refine ⟨t.1, (γ.1, γ.2.1, t.2, γ.2.2.2), (oI μ.1 6 0, μ.2), e_b c1 rfl, ?_, hT⟩
  refine e_l (e_b (n_isFull (μ := (oI μ.1 6 0, μ.2)) hM) ?_)
  obtain ⟨u, u1, u2, u3, u4, -⟩ := id hI.1.2.2.1
  by_cases e : aFull S
  · rw [if_pos e] at c2
    have hl := (aFull_iff u1 u3 u4).mp e
    rw [if_pos e, c2]
    exact e_f (by decide) (e_b (n_victimList (μ := (oI μ.1 6 0, μ.2)) hM) (e_b (n_victimOf (μ := (oI μ.1 6 0, μ.2)) (by omega) (aVl_lt _) hM hI (aVl_pos _ (by omega))) rfl))
  · rw [if_neg e] at c2
    rw [if_neg e, c2]
    exact e_t rfl rfl
theorem s_leaving {N K L : Nat} (hN : 1000 ≤ N) (hL : K ≤ L) : Sim_leaving N (TopK K) (TopK L) := by
  intro γ μ κ ix nb h
  obtain ⟨⟨S, hI, hC, hM, hK⟩, hR⟩ := id h
  have hT := (h.mono hL).t6 0
  refine ⟨aLf S (-1), (oI μ.1 6 0, μ.2), e_b (c_leave (by omega) hC (hI.1.1 2 (by decide)).2 hI.1.2.1) rfl, ?_, hT⟩
  have e3 : ((oI μ.1 6 0, μ.2) : MdlS).1.1 0 (Int32.toNatClampNeg 3) = aN S 3 := hM.1 3 (by omega)
  refine e_l (e_b (n_len (μ := (oI μ.1 6 0, μ.2)) hM 2 (by decide)) (e_g 3 rfl (by decide) (by decide) ?_))
  rw [e3]
  obtain ⟨w, w1, w2, w3, w4⟩ := id hI.1.2.1
  by_cases e : aLow S
  · have hl := (aLow_iff w1 w3 w4).mp e
    rw [aLf_t e]
    exact e_t (show nI (aL S 2).length = aN S 3 from Eq.symm e) (e_b (n_leave (μ := (oI μ.1 6 0, μ.2)) (by omega) hM hI (by omega)) rfl)
  · rw [aLf_f e]
    exact e_f (fun q => e (Eq.symm q)) rfl
