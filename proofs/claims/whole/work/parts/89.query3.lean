/-! queries: sums, counts, the order -/
theorem sq_n {α : Type} {T : MdlS → Prop} {hk : Nat → Prop} {k1 : Nat} {x8 : Option (Nat ⊕ α)} {x9 : Option (α × MdlS)} {v : α} {μ1 : MdlS} {Z : α → Prop} (e8 : x8 = some (.inr v)) (e9 : x9 = some (v, μ1)) (et : μ1.1.2 6 = 0) (hT : T μ1) (hz : Z v) :
    ∃ (res : Nat ⊕ α) (b : α) (μ1 : MdlS), x8 = some res ∧ (∀ k, res = .inl k → hk k) ∧ x9 = some (b, μ1) ∧ f_X9_thrown μ1 = some (wCode k1 res) ∧ (∀ k, res = .inl k → T μ1) ∧ ∀ r, res = .inr r → b = r ∧ T μ1 ∧ Z r :=
  ⟨.inr v, v, μ1, e8, fun k' e => (by cases e), e9, congrArg some et, fun _ _ => hT, fun r e => by cases e; exact ⟨rfl, hT, hz⟩⟩
theorem sq_m {α : Type} {T : MdlS → Prop} {hk : Nat → Prop} {k1 k : Nat} {x8 : Option (Nat ⊕ α)} {x9 : Option (α × MdlS)} {b : α} {μ1 : MdlS} {Z : α → Prop} (e8 : x8 = some (.inl k)) (h0 : hk k) (e9 : x9 = some (b, μ1)) (et : μ1.1.2 6 = wCode k1 (.inl k : Nat ⊕ α)) (hT : T μ1) :
    ∃ (res : Nat ⊕ α) (b : α) (μ1 : MdlS), x8 = some res ∧ (∀ k, res = .inl k → hk k) ∧ x9 = some (b, μ1) ∧ f_X9_thrown μ1 = some (wCode k1 res) ∧ (∀ k, res = .inl k → T μ1) ∧ ∀ r, res = .inr r → b = r ∧ T μ1 ∧ Z r :=
  ⟨.inl k, b, μ1, e8, fun k' e => (by cases e; exact h0), e9, congrArg some et, fun _ _ => hT, fun r e => by cases e⟩
theorem aSw_pos {S : AS} {k : Nat} (hI : Inv S) (hk : aN S 6 = nI k) (h0 : 0 < k) (h4 : k ≤ 4) : aSw S ≠ 0 := by
  obtain ⟨k', k1, kl, k3⟩ := hI.1.2.2.2.1
  have ek : k' = k := (nI_eq (by omega) (by omega)).mp (k1.symm.trans hk)
  subst ek
  obtain ⟨w, w1, w2, w9⟩ := (k3 (k' - 1) (by omega)).1
  unfold aSw
  rw [hk, nI_clamp (by omega)]
  obtain ⟨j, rfl⟩ : ∃ j, k' = j + 1 := ⟨k' - 1, by omega⟩
  rw [show j + 1 - 1 = j by omega] at w1
  rw [aSwN, w1, nI_clamp (by omega)]
  omega
theorem nz_sw {S : AS} {k : Nat} (hI : Inv S) (hk : aN S 6 = nI k) (h0 : 0 < k) (h4 : k ≤ 4) : nI (aSw S) ≠ 0 := nI_ne0 (Nat.pos_of_ne_zero (aSw_pos hI hk h0 h4)) (by have := aSw_le hI.1.2.2.2.1; omega)
theorem s_share {N K L : Nat} (hN : 1000 ≤ N) (hL : K ≤ L) : Sim_share N (TopK K) (TopK L) := by
  intro γ μ κ ix nb p0 h
  obtain ⟨⟨S, hI, hC, hM, hK⟩, hR⟩ := id h
  have hT := h.mono hL
  obtain ⟨k, k1, k2, k3⟩ := id hI.1.2.2.2.1
  have e6 : μ.1.1 0 6 = nI k := (hM.1 6 (by omega)).trans k1
  rcases r_client (γ := γ) (hC.1.1.trans k1) k2 p0 with ⟨c, hc, rfl, e1, e2⟩ | ⟨e1, e2⟩
  · have e2 := e2 μ e6
    have hc4 : c < 4 := by omega
    have hn : nI c < aN S 6 := by rw [k1]; exact nI_lt hc (by omega)
    have hz := nz_sw hI k1 (by omega) k2
    have hf := fl_d (aN S 2 * aC S c 0) (nI (aSw S)) hz
    have e12 : (γ.2.2.1 0).2 12 = aN S 2 := hC.1.2.2.2.1
    have m2 : ((oI μ.1 6 0, μ.2) : MdlS).1.1 0 (Int32.toNatClampNeg 2) = aN S 2 := hM.1 2 (by omega)
    refine sq_n (v := FP.ddiv (FP.i2d (aN S 2 * aC S c 0)) (FP.i2d (nI (aSw S)))) (μ1 := (oI μ.1 6 0, μ.2)) (e_x e1 (e_b (c_sum (by omega) hC hI.1.2.2.2.1) (e_f hz (e_b (a := aC S c 0) ?_ ?_)))) (e_b e2 (e_f (by decide) (e_l (e_t rfl (e_g 2 rfl (by decide) (by decide) (e_b (n_ofC (μ := (oI μ.1 6 0, μ.2)) hM c 0 hc4 hn (by decide)) (e_b (n_weights (μ := (oI μ.1 6 0, μ.2)) (by omega) hM hI.1.2.2.2.1) ?_))))))) rfl (hT.t6 0) hf.2
    · exact e_b (cl_at hC k1 k2 hc) (e_o (by rw [cl_f hC k1 k2 hc (by decide)]))
    · rw [e12]
      exact if_pos hf.1
    · rw [m2]
      exact if_pos hf.1
  · exact sq_m (k := 0) (b := FP.dconst0) (μ1 := (oI μ.1 6 1, μ.2)) (e_xl e1) rfl (e_b (e2 μ e6) (e_t rfl (e_l (e_f (show ¬ (1 : Int32) = 0 by decide) rfl)))) rfl (hT.t6 1)
theorem s_hitShare {N K L : Nat} (hL : K ≤ L) : Sim_hitShare N (TopK K) (TopK L) := by
  intro γ μ κ ix nb h
  obtain ⟨⟨S, hI, hC, hM, hK⟩, hR⟩ := id h
  have hT := (h.mono hL).t6 0
  have e0 : (γ.2.2.1 2).2 0 = aN S 5 := hC.2.2.1.1
  have e1 : (γ.2.2.1 2).2 1 = aN S 14 := hC.2.2.1.2.1
  have m5 : ((oI μ.1 6 0, μ.2) : MdlS).1.1 0 (Int32.toNatClampNeg 5) = aN S 5 := hM.1 5 (by omega)
  have m14 : ((oI μ.1 6 0, μ.2) : MdlS).1.1 0 (Int32.toNatClampNeg 14) = aN S 14 := hM.1 14 (by omega)
  unfold f_X8_hitShare f_X9_hitShare
  rw [e0, e1]
  by_cases c : aN S 5 = 0
  · refine ⟨FP.fconst0, (oI μ.1 6 0, μ.2), if_pos c, e_l (e_g 5 rfl (by decide) (by decide) ?_), hT, fl_0.1, fl_0.2⟩
    rw [m5]
    exact if_pos c
  · have hf := fl_f (aN S 14) (aN S 5) c
    refine ⟨_, (oI μ.1 6 0, μ.2), e_f c (if_pos hf.1), e_l (e_g 5 rfl (by decide) (by decide) ?_), hT, hf.2.1, hf.2.2⟩
    rw [m5, m14]
    exact e_f c (e_g 14 rfl (by decide) (by decide) (e_g 5 rfl (by decide) (by decide) (if_pos hf.1)))
theorem s_excess {N K L : Nat} (hN : 1000 ≤ N) (hL : K ≤ L) : Sim_excess N (TopK K) (TopK L) := by
  intro γ μ κ ix nb p0 h
  obtain ⟨⟨S, hI, hC, hM, hK⟩, hR⟩ := id h
  have hT := h.mono hL
  obtain ⟨k, k1, k2, k3⟩ := id hI.1.2.2.2.1
  have e6 : μ.1.1 0 6 = nI k := (hM.1 6 (by omega)).trans k1
  rcases r_client (γ := γ) (hC.1.1.trans k1) k2 p0 with ⟨c, hc, rfl, e1, e2⟩ | ⟨e1, e2⟩
  · have e2 := e2 μ e6
    have hc4 : c < 4 := by omega
    have hn : nI c < aN S 6 := by rw [k1]; exact nI_lt hc (by omega)
    have hz := nz_sw hI k1 (by omega) k2
    have hf := fl_f (nI (aUn S c) * nI (aSw S) - aN S 2 * aC S c 0) (nI (aSw S)) hz
    have m2 : ((oI μ.1 6 0, μ.2) : MdlS).1.1 0 (Int32.toNatClampNeg 2) = aN S 2 := hM.1 2 (by omega)
    have mw : f_X9_allWeights N ((oI μ.1 6 0, μ.2) : MdlS) = some (nI (aSw S)) := n_weights (μ := (oI μ.1 6 0, μ.2)) (by omega) hM hI.1.2.2.2.1
    refine sq_n (v := FP.fdiv (FP.i2f (nI (aUn S c) * nI (aSw S) - aN S 2 * aC S c 0)) (FP.i2f (nI (aSw S)))) (μ1 := (oI μ.1 6 0, μ.2)) (e_x e1 (e_b (c_sum (by omega) hC hI.1.2.2.2.1) (e_b (c_upper (by omega) hC hI hc4) (e_b (c_above hC k1 k2 hc) (e_f hz (if_pos hf.1)))))) (e_b e2 (e_f (by decide) (e_l (e_t rfl (e_b (n_units (μ := (oI μ.1 6 0, μ.2)) (by omega) hM hI hc4) (e_b mw (e_g 2 rfl (by decide) (by decide) (e_b (n_ofC (μ := (oI μ.1 6 0, μ.2)) hM c 0 hc4 hn (by decide)) (e_b mw ?_))))))))) rfl (hT.t6 0) hf.2
    rw [m2]
    exact if_pos hf.1
  · exact sq_m (k := 0) (b := FP.fconst0) (μ1 := (oI μ.1 6 1, μ.2)) (e_xl e1) rfl (e_b (e2 μ e6) (e_t rfl (e_l (e_f (show ¬ (1 : Int32) = 0 by decide) rfl)))) rfl (hT.t6 1)
section LL
variable {σ : CacS} {μ : MdlS} {S : AS}
theorem l_oldest {N : Nat} (hC : RepC σ S E0) (hM : RepM (μ.1.1 0) S (UA S)) (hI : Inv S) : ∀ r n n' i (x : Int32), i + r = 200 → r < n → r < n' → (x = -1 ∨ ∃ b, b < 200 ∧ x = nI b ∧ aB S 0 b ≠ -1) → ∃ v, f_X0_dirtyLongest_b4 N n (σ 1) x (nI i) = some v ∧ f_X9_oldest_b9 N n' μ x (nI i) = some (v, μ) := by
  intro r
  induction r with
  | zero =>
    intro n n' i x hi hn hn' hx
    obtain ⟨n, rfl⟩ : ∃ m, n = m + 1 := ⟨n - 1, by omega⟩
    obtain ⟨n', rfl⟩ : ∃ m, n' = m + 1 := ⟨n' - 1, by omega⟩
    have : i = 200 := by omega
    subst this
    rw [f_X0_dirtyLongest_b4, f_X9_oldest_b9]
    exact ⟨x, e_t (show (200 : Int32) ≤ nI 200 by decide) rfl, e_t (show (200 : Int32) ≤ nI 200 by decide) rfl⟩
  | succ r ih =>
    intro n n' i x hi hn hn' hx
    obtain ⟨n, rfl⟩ : ∃ m, n = m + 1 := ⟨n - 1, by omega⟩
    obtain ⟨n', rfl⟩ : ∃ m, n' = m + 1 := ⟨n' - 1, by omega⟩
    have hi2 : i < 200 := by omega
    have s3 : (σ 1).1 3 i = aB S 3 i := (hC.2.1.2.2 i hi2).2.2.2.1
    rw [f_X0_dirtyLongest_b4, f_X9_oldest_b9, nI_clamp (show i < 2 ^ 31 by omega), s3]
    have ei := nI_1 i
    have ed := n_isDirty (μ := μ) hM hI i hi2
    by_cases c1 : aB S 3 i = -1
    · rw [if_pos c1] at ed
      obtain ⟨v, v1, v2⟩ := ih n n' (i + 1) x (by omega) (by omega) (by omega) hx
      rw [← ei] at v1 v2
      exact ⟨v, e_f (pu_ge200 hi2) (e_g i rfl hi2 (by decide) (e_t c1 v1)), e_f (pu_ge200 hi2) (e_b ed (e_t rfl v2))⟩
    · rw [if_neg c1] at ed
      have hw : aB S 0 i ≠ -1 := fun q => c1 (hI.nu i hi2 q)
      by_cases c2 : x = -1
      · obtain ⟨v, v1, v2⟩ := ih n n' (i + 1) (nI i) (by omega) (by omega) (by omega) (Or.inr ⟨i, hi2, rfl, hw⟩)
        rw [← ei] at v1 v2
        exact ⟨v, e_f (pu_ge200 hi2) (e_g i rfl hi2 (by decide) (e_f c1 (e_t c2 v1))), e_f (pu_ge200 hi2) (e_b ed (e_f (by decide) (e_t c2 v2)))⟩
      · obtain ⟨b, hb, rfl, hwb⟩ := hx.resolve_left c2
        have m3 := n_of (μ := μ) hM i 3 hi2 (by decide) (Or.inr (Or.inr hw))
        have m4 := n_of (μ := μ) hM b 3 hb (by decide) (Or.inr (Or.inr hwb))
        by_cases c3 : aB S 3 b ≤ aB S 3 i
        · obtain ⟨v, v1, v2⟩ := ih n n' (i + 1) (nI b) (by omega) (by omega) (by omega) (Or.inr ⟨b, hb, rfl, hwb⟩)
          rw [← ei] at v1 v2
          exact ⟨v, e_f (pu_ge200 hi2) (e_g i rfl hi2 (by decide) (e_f c1 (e_f c2 (e_g i rfl hi2 (by decide) (e_b (p0_sinceOf hC.2.1 hb) (e_t c3 v1)))))), e_f (pu_ge200 hi2) (e_b ed (e_f (by decide) (e_f c2 (e_b m3 (e_b m4 (e_t c3 v2))))))⟩
        · obtain ⟨v, v1, v2⟩ := ih n n' (i + 1) (nI i) (by omega) (by omega) (by omega) (Or.inr ⟨i, hi2, rfl, hw⟩)
          rw [← ei] at v1 v2
          exact ⟨v, e_f (pu_ge200 hi2) (e_g i rfl hi2 (by decide) (e_f c1 (e_f c2 (e_g i rfl hi2 (by decide) (e_b (p0_sinceOf hC.2.1 hb) (e_f c3 v1)))))), e_f (pu_ge200 hi2) (e_b ed (e_f (by decide) (e_f c2 (e_b m3 (e_b m4 (e_f c3 v2))))))⟩
theorem l_ages {N l : Nat} (hC : RepC σ S E0) (hM : RepM (μ.1.1 0) S (UA S)) (hI : Inv S) (hl : l < 3) : ∀ r n n' i (q : Int32), i + r = (aL S l).length → r < n → r < n' → ∃ v, f_X1_sumOfAges_b11 N n σ l q (nI i) = some v ∧ f_X9_ages_b24 N n' μ (nI l) q (nI i) = some (v, μ) := by
  have hr := hC.2.2.2.1 l (by omega)
  have h24 := hr.1
  intro r
  induction r with
  | zero =>
    intro n n' i q hi hn hn'
    obtain ⟨n, rfl⟩ : ∃ m, n = m + 1 := ⟨n - 1, by omega⟩
    obtain ⟨n', rfl⟩ : ∃ m, n' = m + 1 := ⟨n' - 1, by omega⟩
    rw [f_X1_sumOfAges_b11, f_X9_ages_b24, hr.2.1]
    have hle : nI (aL S l).length ≤ nI i := nI_le (by omega) (by omega)
    exact ⟨q, e_t hle rfl, e_b (n_len (μ := μ) hM l (by omega)) (e_t hle rfl)⟩
  | succ r ih =>
    intro n n' i q hi hn hn'
    obtain ⟨n, rfl⟩ : ∃ m, n = m + 1 := ⟨n - 1, by omega⟩
    obtain ⟨n', rfl⟩ : ∃ m, n' = m + 1 := ⟨n' - 1, by omega⟩
    have hli : i < (aL S l).length := by omega
    obtain ⟨hx, -, hw, -⟩ := hI.mem hl (pu_getD_mem hli)
    rw [f_X1_sumOfAges_b11, f_X9_ages_b24, hr.2.1]
    have hle : ¬ nI (aL S l).length ≤ nI i := nI_ge hli (by omega)
    have ei := nI_1 i
    have ed := n_isDirty (μ := μ) hM hI _ hx
    have ec := p0_isDirty hC.2.1 hx
    have t0 : (σ 2).2 0 = aN S 5 := hC.2.2.1.1
    have m5 : μ.1.1 0 (Int32.toNatClampNeg 5) = aN S 5 := hM.1 5 (by omega)
    by_cases c1 : aB S 3 ((aL S l).getD i 0) = -1
    · rw [if_pos c1] at ed ec
      obtain ⟨v, v1, v2⟩ := ih n n' (i + 1) q (by omega) (by omega) (by omega)
      rw [← ei] at v1 v2
      exact ⟨v, e_f hle (e_b (p5_blockAt hr hli) (e_b ec (e_t rfl v1))), e_b (n_len (μ := μ) hM l (by omega)) (e_f hle (e_b (n_bAt (μ := μ) hM l i (by omega) hli) (e_b ed (e_t rfl (by rw [Int32.add_zero]; exact v2)))))⟩
    · rw [if_neg c1] at ed ec
      obtain ⟨v, v1, v2⟩ := ih n n' (i + 1) (q + (aN S 5 - aB S 3 ((aL S l).getD i 0))) (by omega) (by omega) (by omega)
      rw [← ei] at v1 v2
      refine ⟨v, e_f hle (e_b (p5_blockAt hr hli) (e_b ec (e_f (by decide) (e_b (p0_sinceOf hC.2.1 hx) ?_)))), e_b (n_len (μ := μ) hM l (by omega)) (e_f hle (e_b (n_bAt (μ := μ) hM l i (by omega) hli) (e_b ed (e_f (by decide) (e_g 5 rfl (by decide) (by decide) (e_b (n_of (μ := μ) hM _ 3 hx (by decide) (Or.inr (Or.inr hw))) ?_))))))⟩
      · rw [t0]; exact v1
      · rw [m5]; exact v2
theorem l_ownedAt {N l c : Nat} {p2 : Int32} (hC : RepC σ S E0) (hM : RepM (μ.1.1 0) S (UA S)) (hI : Inv S) (hl : l < 3) : ∀ r n n' i k (y : Int32), i + r = (aL S l).length → r < n → r < n' → y + nI k = p2 → ∃ v, f_X1_ownedBlock_b13 N n σ (nI c) p2 l (nI k) (nI i) = some v ∧ f_X9_ownedAt_b38 N n' μ (nI c) (nI l) y (nI i) = some (v, μ) := by
  have hr := hC.2.2.2.1 l (by omega)
  have h24 := hr.1
  intro r
  induction r with
  | zero =>
    intro n n' i k y hi hn hn' hy
    obtain ⟨n, rfl⟩ : ∃ m, n = m + 1 := ⟨n - 1, by omega⟩
    obtain ⟨n', rfl⟩ : ∃ m, n' = m + 1 := ⟨n' - 1, by omega⟩
    rw [f_X1_ownedBlock_b13, f_X9_ownedAt_b38, hr.2.1]
    have hle : nI (aL S l).length ≤ nI i := nI_le (by omega) (by omega)
    exact ⟨-1, e_t hle rfl, e_b (n_len (μ := μ) hM l (by omega)) (e_t hle rfl)⟩
  | succ r ih =>
    intro n n' i k y hi hn hn' hy
    obtain ⟨n, rfl⟩ : ∃ m, n = m + 1 := ⟨n - 1, by omega⟩
    obtain ⟨n', rfl⟩ : ∃ m, n' = m + 1 := ⟨n' - 1, by omega⟩
    have hli : i < (aL S l).length := by omega
    obtain ⟨hx, -, hw, -⟩ := hI.mem hl (pu_getD_mem hli)
    rw [f_X1_ownedBlock_b13, f_X9_ownedAt_b38, hr.2.1]
    have hle : ¬ nI (aL S l).length ≤ nI i := nI_ge hli (by omega)
    have ei := nI_1 i
    have mb := n_bAt (μ := μ) hM l i (by omega) hli
    have mo := n_of (μ := μ) hM _ 2 hx (by decide) (Or.inr (Or.inr hw))
    by_cases c1 : aB S 2 ((aL S l).getD i 0) = nI c
    · by_cases c2 : nI k = p2
      · exact ⟨_, e_f hle (e_b (p5_blockAt hr hli) (e_b (p0_ownerOf hC.2.1 hx) (e_t c1 (e_t c2 rfl)))), e_b (n_len (μ := μ) hM l (by omega)) (e_f hle (e_b mb (e_b mo (e_t c1 (e_t ((pu_z hy).mpr c2) (e_b mb rfl))))))⟩
      · obtain ⟨v, v1, v2⟩ := ih n n' (i + 1) (k + 1) (y + (-1)) (by omega) (by omega) (by omega) (by rw [← nI_1, pu_cd]; exact hy)
        rw [← ei] at v1 v2
        rw [← nI_1 k] at v1
        exact ⟨v, e_f hle (e_b (p5_blockAt hr hli) (e_b (p0_ownerOf hC.2.1 hx) (e_t c1 (e_f c2 v1)))), e_b (n_len (μ := μ) hM l (by omega)) (e_f hle (e_b mb (e_b mo (e_t c1 (e_f (fun q => c2 ((pu_z hy).mp q)) v2)))))⟩
    · obtain ⟨v, v1, v2⟩ := ih n n' (i + 1) k y (by omega) (by omega) (by omega) hy
      rw [← ei] at v1 v2
      exact ⟨v, e_f hle (e_b (p5_blockAt hr hli) (e_b (p0_ownerOf hC.2.1 hx) (e_f c1 v1))), e_b (n_len (μ := μ) hM l (by omega)) (e_f hle (e_b mb (e_b mo (e_f c1 v2))))⟩
theorem l_between {N l : Nat} {f t : Int32} (hC : RepC σ S E0) (hM : RepM (μ.1.1 0) S (UA S)) (hl : l < 5) : ∀ r n n' i (q : Int32), i + r = (aL S l).length → r < n → r < n' → ∃ v, f_X5_howManyIn_b5 N n (σ (3 + l)) f t q (nI i) = some v ∧ f_X9_between_b49 N n' μ (nI l) f t q (nI i) = some (v, μ) := by
  have hr := hC.2.2.2.1 l (by omega)
  have h24 := hr.1
  intro r
  induction r with
  | zero =>
    intro n n' i q hi hn hn'
    obtain ⟨n, rfl⟩ : ∃ m, n = m + 1 := ⟨n - 1, by omega⟩
    obtain ⟨n', rfl⟩ : ∃ m, n' = m + 1 := ⟨n' - 1, by omega⟩
    rw [f_X5_howManyIn_b5, f_X9_between_b49, hr.2.1]
    have hle : nI (aL S l).length ≤ nI i := nI_le (by omega) (by omega)
    exact ⟨q, e_t hle rfl, e_b (n_len (μ := μ) hM l (by omega)) (e_t hle rfl)⟩
  | succ r ih =>
    intro n n' i q hi hn hn'
    obtain ⟨n, rfl⟩ : ∃ m, n = m + 1 := ⟨n - 1, by omega⟩
    obtain ⟨n', rfl⟩ : ∃ m, n' = m + 1 := ⟨n' - 1, by omega⟩
    have hli : i < (aL S l).length := by omega
    rw [f_X5_howManyIn_b5, f_X9_between_b49, hr.2.1, nI_clamp (show i < 2 ^ 31 by omega), hr.2.2 i hli]
    have hle : ¬ nI (aL S l).length ≤ nI i := nI_ge hli (by omega)
    have h24' : ¬ (24 : Int32) ≤ nI i := pu_ge24 (by omega)
    have ei := nI_1 i
    have ml := n_len (μ := μ) hM l (by omega)
    have mb := n_bAt (μ := μ) hM l i (by omega) hli
    by_cases c1 : nI ((aL S l).getD i 0) < f
    · obtain ⟨v, v1, v2⟩ := ih n n' (i + 1) q (by omega) (by omega) (by omega)
      rw [← ei] at v1 v2
      have hb : f_X9_isBetween (nI ((aL S l).getD i 0)) f t = some 0 := e_t c1 rfl
      exact ⟨v, e_f hle (e_f h24' (e_g i rfl (by omega) (by decide) (e_t c1 v1))), e_b ml (e_f hle (e_b mb (e_b hb (e_t rfl (by rw [Int32.add_zero]; exact v2)))))⟩
    · by_cases c2 : t < nI ((aL S l).getD i 0)
      · obtain ⟨v, v1, v2⟩ := ih n n' (i + 1) q (by omega) (by omega) (by omega)
        rw [← ei] at v1 v2
        have hb : f_X9_isBetween (nI ((aL S l).getD i 0)) f t = some 0 := e_f c1 (e_t c2 rfl)
        exact ⟨v, e_f hle (e_f h24' (e_g i rfl (by omega) (by decide) (e_f c1 (e_g i rfl (by omega) (by decide) (e_t c2 v1))))), e_b ml (e_f hle (e_b mb (e_b hb (e_t rfl (by rw [Int32.add_zero]; exact v2)))))⟩
      · obtain ⟨v, v1, v2⟩ := ih n n' (i + 1) (q + 1) (by omega) (by omega) (by omega)
        rw [← ei] at v1 v2
        have hb : f_X9_isBetween (nI ((aL S l).getD i 0)) f t = some 1 := e_f c1 (e_f c2 rfl)
        exact ⟨v, e_f hle (e_f h24' (e_g i rfl (by omega) (by decide) (e_f c1 (e_g i rfl (by omega) (by decide) (e_f c2 v1))))), e_b ml (e_f hle (e_b mb (e_b hb (e_f (by decide) v2))))⟩
theorem l_longest {N l : Nat} (hC : RepC σ S E0) (hM : RepM (μ.1.1 0) S (UA S)) (hI : Inv S) (hl : l < 5) : ∀ r n n' i (q z : Int32), i + r = 200 → r < n → r < n' → ∃ v, f_X0_longestChain_b7 N n (σ 1) (nI l) q z (nI i) = some v ∧ f_X9_longest_b26 N n' μ (nI l) q z (nI i) = some (v, μ) := by
  intro r
  induction r with
  | zero =>
    intro n n' i q z hi hn hn'
    obtain ⟨n, rfl⟩ : ∃ m, n = m + 1 := ⟨n - 1, by omega⟩
    obtain ⟨n', rfl⟩ : ∃ m, n' = m + 1 := ⟨n' - 1, by omega⟩
    have : i = 200 := by omega
    subst this
    rw [f_X0_longestChain_b7, f_X9_longest_b26]
    exact ⟨q, e_t (show (200 : Int32) ≤ nI 200 by decide) rfl, e_t (show (200 : Int32) ≤ nI 200 by decide) rfl⟩
  | succ r ih =>
    intro n n' i q z hi hn hn'
    obtain ⟨n, rfl⟩ : ∃ m, n = m + 1 := ⟨n - 1, by omega⟩
    obtain ⟨n', rfl⟩ : ∃ m, n' = m + 1 := ⟨n' - 1, by omega⟩
    have hi2 : i < 200 := by omega
    have s4 : (σ 1).1 4 i = aB S 0 i := (hC.2.1.2.2 i hi2).1 (fun q => q)
    have s5 : (σ 1).1 5 i = aB S 4 i := (hC.2.1.2.2 i hi2).2.2.2.2.1
    obtain ⟨a1, a2, a3, a4, -⟩ := hI.2 i hi2
    have m0 := n_of (μ := μ) hM i 0 hi2 (by decide) (Or.inl rfl)
    have m4 := n_of (μ := μ) hM i 4 hi2 (by decide) (Or.inr (Or.inl rfl))
    rw [f_X0_longestChain_b7, f_X9_longest_b26, nI_clamp (show i < 2 ^ 31 by omega), s4, s5]
    have ei := nI_1 i
    have hge := pu_ge200 hi2
    have key : ∀ (b : Bool), f_X9_isIn μ (nI l) (nI i) = some (if b then 1 else 0) → (b = true ↔ aB S 0 i = nI l ∨ aB S 4 i = nI l) → ∃ v, (if (200 : Int32) ≤ nI i then some q else gd (nI i) 200 (if aB S 0 i = nI l then f_X0_longestChain_b42 N (f_X0_longestChain_b7 N n) (σ 1) (nI l) q z (nI i) 1 else gd (nI i) 200 (if aB S 4 i = nI l then f_X0_longestChain_b42 N (f_X0_longestChain_b7 N n) (σ 1) (nI l) q z (nI i) 1 else f_X0_longestChain_b42 N (f_X0_longestChain_b7 N n) (σ 1) (nI l) q z (nI i) 0))) = some v ∧ (if (200 : Int32) ≤ nI i then some (q, μ) else (f_X9_isIn μ (nI l) (nI i)).bind fun r2 => if r2 = 0 then f_X9_longest_b26 N n' μ (nI l) (if q < 0 then 0 else q) 0 (nI i + 1) else f_X9_longest_b26 N n' μ (nI l) (if q < (z + 1) then (z + 1) else q) (z + 1) (nI i + 1)) = some (v, μ) := by
      intro b hb hbi
      cases b with
      | false =>
        have n1 : ¬ aB S 0 i = nI l := fun e => absurd (hbi.mpr (Or.inl e)) (by decide)
        have n2 : ¬ aB S 4 i = nI l := fun e => absurd (hbi.mpr (Or.inr e)) (by decide)
        obtain ⟨v, v1, v2⟩ := ih n n' (i + 1) (if q < 0 then 0 else q) 0 (by omega) (by omega) (by omega)
        rw [← ei] at v1 v2
        exact ⟨v, e_f hge (e_g i rfl hi2 (by decide) (e_f n1 (e_g i rfl hi2 (by decide) (e_f n2 (e_t rfl v1))))), e_f hge (e_b hb (e_t rfl v2))⟩
      | true =>
        obtain ⟨v, v1, v2⟩ := ih n n' (i + 1) (if q < (z + 1) then (z + 1) else q) (z + 1) (by omega) (by omega) (by omega)
        rw [← ei] at v1 v2
        refine ⟨v, e_f hge (e_g i rfl hi2 (by decide) ?_), e_f hge (e_b hb (e_f (by decide) v2))⟩
        by_cases n1 : aB S 0 i = nI l
        · exact e_t n1 (e_f (by decide) v1)
        · exact e_f n1 (e_g i rfl hi2 (by decide) (e_t ((hbi.mp rfl).resolve_left n1) (e_f (by decide) v1)))
    by_cases c : l < 3
    · have ng : ¬ aB S 4 i = nI l := fun e => by
        rcases a4 with q | ⟨m, hm, q⟩
        · rw [q] at e; exact pu_m1' (by omega) e
        · rw [q] at e; have := (nI_eq (by omega) (by omega)).mp e; omega
      have hin : f_X9_isIn μ (nI l) (nI i) = some (if decide (aB S 0 i = nI l) = true then 1 else 0) := by
        refine e_f (show ¬ (2 : Int32) < nI l from nI_nlt (a := 2) (by omega) (by decide)) (e_b m0 ?_)
        by_cases c2 : aB S 0 i = nI l
        · rw [if_pos (decide_eq_true c2)]; exact e_t c2 rfl
        · rw [if_neg (fun q => c2 (of_decide_eq_true q))]; exact e_f c2 rfl
      exact key _ hin ⟨fun q => Or.inl (of_decide_eq_true q), fun q => decide_eq_true (q.resolve_right ng)⟩
    · have ng : ¬ aB S 0 i = nI l := fun e => by
        rcases a2 with q | ⟨m, hm, q⟩
        · rw [q] at e; exact pu_m1' (by omega) e
        · rw [q] at e; have := (nI_eq (by omega) (by omega)).mp e; omega
      have hin : f_X9_isIn μ (nI l) (nI i) = some (if decide (aB S 4 i = nI l) = true then 1 else 0) := by
        refine e_t (show (2 : Int32) < nI l from nI_lt (a := 2) (by omega) (by omega)) (e_b m4 ?_)
        by_cases c2 : aB S 4 i = nI l
        · rw [if_pos (decide_eq_true c2)]; exact e_t c2 rfl
        · rw [if_neg (fun q => c2 (of_decide_eq_true q))]; exact e_f c2 rfl
      exact key _ hin ⟨fun q => Or.inr (of_decide_eq_true q), fun q => decide_eq_true (q.resolve_left ng)⟩
theorem l_differing {N : Nat} (hC : RepC σ S E0) (hM : RepM (μ.1.1 0) S (UA S)) : ∀ r n n' i (q : Int32), i + r = 200 → r < n → r < n' → ∃ v, f_X0_howManyDiffer_b4 N n (σ 1) q (nI i) = some v ∧ f_X9_differing_b9 N n' μ q (nI i) = some (v, μ) := by
  intro r
  induction r with
  | zero =>
    intro n n' i q hi hn hn'
    obtain ⟨n, rfl⟩ : ∃ m, n = m + 1 := ⟨n - 1, by omega⟩
    obtain ⟨n', rfl⟩ : ∃ m, n' = m + 1 := ⟨n' - 1, by omega⟩
    have : i = 200 := by omega
    subst this
    rw [f_X0_howManyDiffer_b4, f_X9_differing_b9]
    exact ⟨q, e_t (show (200 : Int32) ≤ nI 200 by decide) rfl, e_t (show (200 : Int32) ≤ nI 200 by decide) rfl⟩
  | succ r ih =>
    intro n n' i q hi hn hn'
    obtain ⟨n, rfl⟩ : ∃ m, n = m + 1 := ⟨n - 1, by omega⟩
    obtain ⟨n', rfl⟩ : ∃ m, n' = m + 1 := ⟨n' - 1, by omega⟩
    have hi2 : i < 200 := by omega
    obtain ⟨b0, b1, -, -, -, b5⟩ := hC.2.1.2.2 i hi2
    have b0 := b0 (fun q => q)
    have m0 := n_of (μ := μ) hM i 0 hi2 (by decide) (Or.inl rfl)
    have ms : μ.1.1 0 (1184 + i) = aB S 5 i := (hM.2.2.2 i hi2).1
    rw [f_X0_howManyDiffer_b4, f_X9_differing_b9, nI_clamp (show i < 2 ^ 31 by omega), b0, b1, b5, pu_st, nI_clamp (show 1184 + i < 2 ^ 31 by omega), ms]
    have ei := nI_1 i
    have hge := pu_ge200 hi2
    by_cases c1 : aB S 0 i = -1
    · obtain ⟨v, v1, v2⟩ := ih n n' (i + 1) q (by omega) (by omega) (by omega)
      rw [← ei] at v1 v2
      exact ⟨v, e_f hge (e_g i rfl hi2 (by decide) (e_t c1 v1)), e_f hge (e_b m0 (e_t c1 (by rw [Int32.add_zero]; exact v2)))⟩
    · have m1 := n_of (μ := μ) hM i 1 hi2 (by decide) (Or.inr (Or.inr c1))
      by_cases c2 : aB S 1 i = aB S 5 i
      · obtain ⟨v, v1, v2⟩ := ih n n' (i + 1) q (by omega) (by omega) (by omega)
        rw [← ei] at v1 v2
        exact ⟨v, e_f hge (e_g i rfl hi2 (by decide) (e_f c1 (e_g i rfl hi2 (by decide) (e_g i rfl hi2 (by decide) (e_t c2 v1))))), e_f hge (e_b m0 (e_f c1 (e_b m1 (e_g (1184 + i) rfl (by omega) (by decide) (e_t c2 (by rw [Int32.add_zero]; exact v2))))))⟩
      · obtain ⟨v, v1, v2⟩ := ih n n' (i + 1) (q + 1) (by omega) (by omega) (by omega)
        rw [← ei] at v1 v2
        exact ⟨v, e_f hge (e_g i rfl hi2 (by decide) (e_f c1 (e_g i rfl hi2 (by decide) (e_g i rfl hi2 (by decide) (e_f c2 v1))))), e_f hge (e_b m0 (e_f c1 (e_b m1 (e_g (1184 + i) rfl (by omega) (by decide) (e_f c2 v2)))))⟩
theorem l_stale {N : Nat} {p0 : Int32} (hC : RepC σ S E0) (hM : RepM (μ.1.1 0) S (UA S)) (hI : Inv S) : ∀ r n n' i (q : Int32), i + r = 200 → r < n → r < n' → ∃ v, f_X0_howManyDirtySince_b4 N n (σ 1) (aN S 5 - p0) q (nI i) = some v ∧ f_X9_stale_b19 N n' μ p0 q (nI i) = some (v, μ) := by
  intro r
  induction r with
  | zero =>
    intro n n' i q hi hn hn'
    obtain ⟨n, rfl⟩ : ∃ m, n = m + 1 := ⟨n - 1, by omega⟩
    obtain ⟨n', rfl⟩ : ∃ m, n' = m + 1 := ⟨n' - 1, by omega⟩
    have : i = 200 := by omega
    subst this
    rw [f_X0_howManyDirtySince_b4, f_X9_stale_b19]
    exact ⟨q, e_t (show (200 : Int32) ≤ nI 200 by decide) rfl, e_t (show (200 : Int32) ≤ nI 200 by decide) rfl⟩
  | succ r ih =>
    intro n n' i q hi hn hn'
    obtain ⟨n, rfl⟩ : ∃ m, n = m + 1 := ⟨n - 1, by omega⟩
    obtain ⟨n', rfl⟩ : ∃ m, n' = m + 1 := ⟨n' - 1, by omega⟩
    have hi2 : i < 200 := by omega
    have s3 : (σ 1).1 3 i = aB S 3 i := (hC.2.1.2.2 i hi2).2.2.2.1
    have m5 : μ.1.1 0 (Int32.toNatClampNeg 5) = aN S 5 := hM.1 5 (by omega)
    rw [f_X0_howManyDirtySince_b4, f_X9_stale_b19, nI_clamp (show i < 2 ^ 31 by omega), s3, m5]
    have ei := nI_1 i
    have hge := pu_ge200 hi2
    have ed := n_isDirty (μ := μ) hM hI i hi2
    by_cases c1 : aB S 3 i = -1
    · rw [if_pos c1] at ed
      obtain ⟨v, v1, v2⟩ := ih n n' (i + 1) q (by omega) (by omega) (by omega)
      rw [← ei] at v1 v2
      exact ⟨v, e_f hge (e_g i rfl hi2 (by decide) (e_t c1 v1)), e_f hge (e_b ed (e_t rfl (by rw [Int32.add_zero]; exact v2)))⟩
    · rw [if_neg c1] at ed
      have hw : aB S 0 i ≠ -1 := fun q => c1 (hI.nu i hi2 q)
      have m3 := n_of (μ := μ) hM i 3 hi2 (by decide) (Or.inr (Or.inr hw))
      by_cases c2 : aN S 5 - p0 < aB S 3 i
      · obtain ⟨v, v1, v2⟩ := ih n n' (i + 1) q (by omega) (by omega) (by omega)
        rw [← ei] at v1 v2
        exact ⟨v, e_f hge (e_g i rfl hi2 (by decide) (e_f c1 (e_g i rfl hi2 (by decide) (e_t c2 v1)))), e_f hge (e_b ed (e_f (by decide) (e_b m3 (e_g 5 rfl (by decide) (by decide) (e_t c2 (by rw [Int32.add_zero]; exact v2))))))⟩
      · obtain ⟨v, v1, v2⟩ := ih n n' (i + 1) (q + 1) (by omega) (by omega) (by omega)
        rw [← ei] at v1 v2
        exact ⟨v, e_f hge (e_g i rfl hi2 (by decide) (e_f c1 (e_g i rfl hi2 (by decide) (e_f c2 v1)))), e_f hge (e_b ed (e_f (by decide) (e_b m3 (e_g 5 rfl (by decide) (by decide) (e_f c2 v2)))))⟩
end LL
theorem s_oldest {N K L : Nat} (hN : 1000 ≤ N) (hL : K ≤ L) : Sim_oldest N (TopK K) (TopK L) := by
  intro γ μ κ ix nb h
  obtain ⟨⟨S, hI, hC, hM, hK⟩, hR⟩ := id h
  obtain ⟨v, v1, v2⟩ := l_oldest (N := N) (μ := (oI μ.1 6 0, μ.2)) hC hM hI 200 N N 0 (-1) rfl (by omega) (by omega) (Or.inl rfl)
  exact ⟨v, (oI μ.1 6 0, μ.2), e_b v1 rfl, e_l v2, (h.mono hL).t6 0⟩
theorem s_differing {N K L : Nat} (hN : 1000 ≤ N) (hL : K ≤ L) : Sim_differing N (TopK K) (TopK L) := by
  intro γ μ κ ix nb h
  obtain ⟨⟨S, hI, hC, hM, hK⟩, hR⟩ := id h
  obtain ⟨v, v1, v2⟩ := l_differing (N := N) (μ := (oI μ.1 6 0, μ.2)) hC hM 200 N N 0 0 rfl (by omega) (by omega)
  exact ⟨v, (oI μ.1 6 0, μ.2), e_b v1 rfl, e_l v2, (h.mono hL).t6 0⟩
theorem s_stale {N K L : Nat} (hN : 1000 ≤ N) (hL : K ≤ L) : Sim_stale N (TopK K) (TopK L) := by
  intro γ μ κ ix nb p0 h
  obtain ⟨⟨S, hI, hC, hM, hK⟩, hR⟩ := id h
  have hT := h.mono hL
  by_cases c : (0 : Int32) ≤ p0
  · obtain ⟨v, v1, v2⟩ := l_stale (N := N) (p0 := p0) (μ := (oI μ.1 6 0, μ.2)) hC hM hI 200 N N 0 0 rfl (by omega) (by omega)
    rw [← show (γ.2.2.1 2).2 0 = aN S 5 from hC.2.2.1.1] at v1
    exact sq_r (e_t c (e_b v1 rfl)) (e_l (e_t c v2)) rfl (hT.t6 0)
  · exact sq_l (k := 1) (b := 0) (μ1 := (oI (oI μ.1 6 0) 6 1, μ.2)) (e_f c rfl) rfl (e_l (e_f c rfl)) rfl ((hT.t6 0).t6 1)
theorem s_ages {N K L : Nat} (hN : 1000 ≤ N) (hL : K ≤ L) : Sim_ages N (TopK K) (TopK L) := by
  intro γ μ κ ix nb p0 h
  obtain ⟨⟨S, hI, hC, hM, hK⟩, hR⟩ := id h
  have hT := h.mono hL
  rcases r_index (n := 3) (by decide) (by decide) p0 with ⟨l, hl, rfl, e1, e2⟩ | ⟨e1, e2⟩
  · have h24 := (hM.2.1 l (by omega)).1
    obtain ⟨v, v1, v2⟩ := l_ages (N := N) (μ := (oI μ.1 6 0, μ.2)) hC hM hI hl (aL S l).length N N 0 0 (by omega) (by omega) (by omega)
    exact sq_r (e_x e1 (e_b (e_b (c_rowOf (by omega)) v1) rfl)) (e_l (e_b e2 (e_f (by decide) v2))) rfl (hT.t6 0)
  · exact sq_l (k := 0) (b := 0) (μ1 := (oI (oI μ.1 6 0) 6 1, μ.2)) (e_xl e1) rfl (e_l (e_b e2 (e_t rfl rfl))) rfl ((hT.t6 0).t6 1)
theorem s_ownedAt {N K L : Nat} (hN : 1000 ≤ N) (hL : K ≤ L) : Sim_ownedAt N (TopK K) (TopK L) := by
  intro γ μ κ ix nb p0 p1 p2 h
  obtain ⟨⟨S, hI, hC, hM, hK⟩, hR⟩ := id h
  have hT := h.mono hL
  obtain ⟨k, k1, k2, k3⟩ := id hI.1.2.2.2.1
  have e6 : μ.1.1 0 6 = nI k := (hM.1 6 (by omega)).trans k1
  rcases r_client (γ := γ) (hC.1.1.trans k1) k2 p0 with ⟨c, hc, rfl, e1, e2⟩ | ⟨e1, e2⟩
  · have e2 := e2 (oI μ.1 6 0, μ.2) e6
    rcases r_index (n := 3) (by decide) (by decide) p1 with ⟨l, hl, rfl, e3, e4⟩ | ⟨e3, e4⟩
    · rcases r_nonneg p2 with ⟨j, hj, rfl, e5, e6⟩ | ⟨e5, e6⟩
      · have h24 := (hM.2.1 l (by omega)).1
        obtain ⟨v, v1, v2⟩ := l_ownedAt (N := N) (c := c) (p2 := nI j) (μ := (oI μ.1 6 0, μ.2)) hC hM hI hl (aL S l).length N N 0 0 (nI j) (by omega) (by omega) (by omega) (Int32.add_zero _)
        exact sq_r (e_x e1 (e_x e3 (e_x e5 (e_b (e_b (c_rowOf (by omega)) v1) rfl)))) (e_l (e_b e2 (e_f (by decide) (e_b e4 (e_f (by decide) (e_t e6 v2)))))) rfl (hT.t6 0)
      · exact sq_l (k := 0) (b := 0) (μ1 := (oI (oI μ.1 6 0) 6 1, μ.2)) (e_x e1 (e_x e3 (e_xl e5))) rfl (e_l (e_b e2 (e_f (by decide) (e_b e4 (e_f (by decide) (e_f e6 rfl)))))) rfl ((hT.t6 0).t6 1)
    · exact sq_l (k := 0) (b := 0) (μ1 := (oI (oI μ.1 6 0) 6 1, μ.2)) (e_x e1 (e_xl e3)) rfl (e_l (e_b e2 (e_f (by decide) (e_b e4 (e_t rfl rfl))))) rfl ((hT.t6 0).t6 1)
  · exact sq_l (k := 0) (b := 0) (μ1 := (oI (oI μ.1 6 0) 6 1, μ.2)) (e_xl e1) rfl (e_l (e_b (e2 (oI μ.1 6 0, μ.2) e6) (e_t rfl rfl))) rfl ((hT.t6 0).t6 1)
theorem s_between {N K L : Nat} (hN : 1000 ≤ N) (hL : K ≤ L) : Sim_between N (TopK K) (TopK L) := by
  intro γ μ κ ix nb p0 p1 p2 h
  obtain ⟨⟨S, hI, hC, hM, hK⟩, hR⟩ := id h
  have hT := h.mono hL
  rcases r_list p0 (oI μ.1 6 0, μ.2) with ⟨l, hl, rfl, e1, e2⟩ | ⟨e1, e2⟩
  · rcases r_block p1 with ⟨f, hf, rfl, e3, e4⟩ | ⟨e3, e4⟩
    · rcases r_range p2 (nI f) 199 with ⟨-, -, e5, e6⟩ | ⟨e5, e6⟩
      · have h24 := (hM.2.1 l (by omega)).1
        obtain ⟨v, v1, v2⟩ := l_between (N := N) (f := nI f) (t := p2) (μ := (oI μ.1 6 0, μ.2)) hC hM hl (aL S l).length N N 0 0 (by omega) (by omega) (by omega)
        exact sq_r (e_x e1 (e_x e3 (e_x e5 (e_b (c_rowOf (by omega)) (e_b v1 rfl))))) (e_l (e_b e2 (e_f (by decide) (e_b e4 (e_f (by decide) (e_b e6 (e_f (by decide) v2))))))) rfl (hT.t6 0)
      · exact sq_l (k := 1) (b := 0) (μ1 := (oI (oI μ.1 6 0) 6 2, μ.2)) (e_x e1 (e_x e3 (e_xl e5))) (Or.inr rfl) (e_l (e_b e2 (e_f (by decide) (e_b e4 (e_f (by decide) (e_b e6 (e_t rfl rfl))))))) rfl ((hT.t6 0).t6 2)
    · exact sq_l (k := 1) (b := 0) (μ1 := (oI (oI μ.1 6 0) 6 2, μ.2)) (e_x e1 (e_xl e3)) (Or.inr rfl) (e_l (e_b e2 (e_f (by decide) (e_b e4 (e_t rfl rfl))))) rfl ((hT.t6 0).t6 2)
  · exact sq_l (k := 0) (b := 0) (μ1 := (oI (oI μ.1 6 0) 6 1, μ.2)) (e_xl e1) (Or.inl rfl) (e_l (e_b e2 (e_t rfl rfl))) rfl ((hT.t6 0).t6 1)
theorem s_longest {N K L : Nat} (hN : 1000 ≤ N) (hL : K ≤ L) : Sim_longest N (TopK K) (TopK L) := by
  intro γ μ κ ix nb p0 h
  obtain ⟨⟨S, hI, hC, hM, hK⟩, hR⟩ := id h
  have hT := h.mono hL
  rcases r_list p0 (oI μ.1 6 0, μ.2) with ⟨l, hl, rfl, e1, e2⟩ | ⟨e1, e2⟩
  · obtain ⟨v, v1, v2⟩ := l_longest (N := N) (μ := (oI μ.1 6 0, μ.2)) hC hM hI hl 200 N N 0 0 0 rfl (by omega) (by omega)
    exact sq_r (e_x e1 (e_b v1 rfl)) (e_l (e_b e2 (e_f (by decide) v2))) rfl (hT.t6 0)
  · exact sq_l (k := 0) (b := 0) (μ1 := (oI (oI μ.1 6 0) 6 1, μ.2)) (e_xl e1) rfl (e_l (e_b e2 (e_t rfl rfl))) rfl ((hT.t6 0).t6 1)
-- how many reads to a scan
theorem aRun_nI {S : AS} {k c b : Nat} (hI : Inv S) (hk : aN S 6 = nI k) (hc : c < k) (hk4 : k ≤ 4) : ∃ r, r ≤ 201 ∧ aRun S c b = nI r := by
  obtain ⟨k', k1, kl, k3⟩ := hI.1.2.2.2.1
  have ek : k' = k := (nI_eq (by omega) (by omega)).mp (k1.symm.trans hk)
  subst ek
  unfold aRun
  rcases (k3 c hc).2 with ⟨q, -⟩ | ⟨z, r, z1, r1, hz, -, hr⟩
  · rw [if_pos q]; exact ⟨1, by decide, rfl⟩
  · rw [z1, r1, if_neg (pu_m1 (by omega)), nI_1, nI_1]
    split
    · exact ⟨r + 1, by omega, rfl⟩
    · exact ⟨1, by decide, rfl⟩
theorem r_max {n r : Nat} (hn : n ≤ 20) (hr : r ≤ 201) : ∃ q, 1 ≤ q ∧ q ≤ 21 ∧ (if 1 < (nI n - nI r) + 1 then (nI n - nI r) + 1 else 1) = nI q := by
  have e : nI n - nI r + 1 = nI (n + 1) - nI r := by
    rw [← nI_1, Int32.sub_eq_add_neg, Int32.sub_eq_add_neg, Int32.add_assoc, Int32.add_assoc, Int32.add_comm (-nI r)]
  rw [e]
  by_cases c : r < n
  · rw [pk_sub (by omega), if_pos (show (1 : Int32) < nI (n + 1 - r) from nI_lt (a := 1) (by omega) (by omega))]
    exact ⟨n + 1 - r, by omega, by omega, rfl⟩
  · have h1 := pk_sub_toInt (a := n + 1) (b := r) (by omega) (by omega)
    have h2 : (1 : Int32).toInt = 1 := by decide
    rw [if_neg (fun q => by rw [Int32.lt_iff_toInt_lt, h1, h2] at q; omega)]
    exact ⟨1, by decide, by decide, rfl⟩
theorem s_toScan {N K L : Nat} (hL : K ≤ L) : Sim_toScan N (TopK K) (TopK L) := by
  intro γ μ κ ix nb p0 p1 h
  obtain ⟨⟨S, hI, hC, hM, hK⟩, hR⟩ := id h
  have hT := h.mono hL
  obtain ⟨k, k1, k2, k3⟩ := id hI.1.2.2.2.1
  have e6 : μ.1.1 0 6 = nI k := (hM.1 6 (by omega)).trans k1
  rcases r_client (γ := γ) (hC.1.1.trans k1) k2 p0 with ⟨c, hc, rfl, e1, e2⟩ | ⟨e1, e2⟩
  · have e2 := e2 (oI μ.1 6 0, μ.2) e6
    have hc4 : c < 4 := by omega
    have hn : nI c < aN S 6 := by rw [k1]; exact nI_lt hc (by omega)
    rcases r_block p1 with ⟨b, hb, rfl, e3, e4⟩ | ⟨e3, e4⟩
    · have cr : f_X1_runAt γ.2.2.1 (nI c) (nI b) = some (aRun S c b) := by
        refine e_b (cl_at hC k1 k2 hc) (e_o (e_b (a := aRun S c b) ?_ rfl))
        unfold f_X2_runWith aRun
        rw [cl_f hC k1 k2 hc (f := 2) (by decide), cl_f hC k1 k2 hc (f := 1) (by decide)]
        split
        · rfl
        · split <;> rfl
      have mr : f_X9_runWith ((oI μ.1 6 0, μ.2) : MdlS) (nI c) (nI b) = some (aRun S c b) := by
        refine e_b (n_ofC (μ := (oI μ.1 6 0, μ.2)) hM c 2 hc4 hn (by decide)) ?_
        unfold aRun
        by_cases q1 : aC S c 2 = -1
        · rw [if_pos q1, if_pos q1]
        · rw [if_neg q1, if_neg q1]
          by_cases q2 : nI b = aC S c 2 + 1
          · rw [if_pos q2, if_pos q2.symm]
            exact e_b (n_ofC (μ := (oI μ.1 6 0, μ.2)) hM c 1 hc4 hn (by decide)) rfl
          · rw [if_neg q2, if_neg (fun q => q2 q.symm)]
      obtain ⟨⟨n, n1, n2, n3⟩, -⟩ := id hI.1.2.2.2.2.2
      obtain ⟨r, hr, er⟩ := aRun_nI (b := b) hI k1 hc k2
      obtain ⟨q, q1, q2, eq⟩ := r_max n3 hr
      have e10 : (γ.2.2.1 0).2 10 = nI n := hC.1.2.1.trans n1
      have m0 : ((oI μ.1 6 0, μ.2) : MdlS).1.1 0 (Int32.toNatClampNeg 0) = nI n := (hM.1 0 (by omega)).trans n1
      by_cases cc : b + q ≤ 200
      · refine sq_r (v := nI q) (μ1 := (oI μ.1 6 0, μ.2)) (e_x e1 (e_x e3 (e_b cr ?_))) (e_l (e_b e2 (e_f (by decide) (e_b e4 (e_f (by decide) (e_g 0 rfl (by decide) (by decide) (e_b mr ?_))))))) rfl (hT.t6 0)
        · rw [e10, er, eq, nI_add]
          exact e_t (show nI (b + q) ≤ 200 from nI_le (b := 200) cc (by decide)) rfl
        · rw [m0, er, eq, nI_add, pu_sub1 (by omega)]
          exact e_f (show ¬ (200 : Int32) ≤ nI (b + q - 1) from nI_ge (b := 200) (by omega) (by decide)) rfl
      · refine sq_r (v := -1) (μ1 := (oI μ.1 6 0, μ.2)) (e_x e1 (e_x e3 (e_b cr ?_))) (e_l (e_b e2 (e_f (by decide) (e_b e4 (e_f (by decide) (e_g 0 rfl (by decide) (by decide) (e_b mr ?_))))))) rfl (hT.t6 0)
        · rw [e10, er, eq, nI_add]
          exact e_f (show ¬ nI (b + q) ≤ 200 from nI_ge (a := 200) (by omega) (by omega)) rfl
        · rw [m0, er, eq, nI_add, pu_sub1 (by omega)]
          exact e_t (show (200 : Int32) ≤ nI (b + q - 1) from nI_le (a := 200) (by omega) (by omega)) rfl
    · exact sq_l (k := 1) (b := 0) (μ1 := (oI (oI μ.1 6 0) 6 2, μ.2)) (e_x e1 (e_xl e3)) (Or.inr rfl) (e_l (e_b e2 (e_f (by decide) (e_b e4 (e_t rfl rfl))))) rfl ((hT.t6 0).t6 2)
  · exact sq_l (k := 0) (b := 0) (μ1 := (oI (oI μ.1 6 0) 6 1, μ.2)) (e_xl e1) (Or.inl rfl) (e_l (e_b (e2 (oI μ.1 6 0, μ.2) e6) (e_t rfl rfl))) rfl ((hT.t6 0).t6 1)
-- the place in the order
def aRk (S : AS) (h w : Nat) : Nat → Nat → Nat
  | 0, k => k
  | r + 1, k => if (h + (200 - (r + 1))) % 200 = w then k else aRk S h w r (if aB S 3 ((h + (200 - (r + 1))) % 200) = -1 then k else k + 1)
theorem aRk_spec {S : AS} {h w : Nat} (hw : w < 200) (hd : aB S 3 w ≠ -1) : ∀ r k, r ≤ 200 → k + r ≤ 200 → (∃ s, 200 - r ≤ s ∧ s < 200 ∧ (h + s) % 200 = w) → k ≤ aRk S h w r k ∧ aRk S h w r k ≤ 200 ∧ aDn S h (nI (aRk S h w r k)) r k = nI w ∧ ∀ j, k ≤ j → j < aRk S h w r k → aDn S h (nI j) r k ≠ nI w := by
  intro r
  induction r with
  | zero => intro k _ _ ⟨s, h1, h2, _⟩; omega
  | succ r ih =>
    intro k hr hk hs
    have hy : (h + (200 - (r + 1))) % 200 < 200 := Nat.mod_lt _ (by decide)
    unfold aRk
    by_cases e : (h + (200 - (r + 1))) % 200 = w
    · rw [if_pos e]
      refine ⟨Nat.le_refl _, by omega, ?_, fun j h1 h2 => absurd h1 (by omega)⟩
      rw [aDn, e, if_neg hd, if_pos rfl]
    · rw [if_neg e]
      have hs2 : ∃ s, 200 - r ≤ s ∧ s < 200 ∧ (h + s) % 200 = w := by
        obtain ⟨s, h1, h2, h3⟩ := hs
        refine ⟨s, ?_, h2, h3⟩
        by_cases q : s = 200 - (r + 1)
        · rw [q] at h3; exact absurd h3 e
        · omega
      by_cases c : aB S 3 ((h + (200 - (r + 1))) % 200) = -1
      · rw [if_pos c]
        obtain ⟨i1, i2, i3, i4⟩ := ih k (by omega) (by omega) hs2
        refine ⟨i1, i2, ?_, fun j h1 h2 => ?_⟩
        · rw [aDn, if_pos c]; exact i3
        · rw [aDn, if_pos c]; exact i4 j h1 h2
      · rw [if_neg c]
        obtain ⟨i1, i2, i3, i4⟩ := ih (k + 1) (by omega) (by omega) hs2
        refine ⟨by omega, i2, ?_, fun j h1 h2 => ?_⟩
        · rw [aDn, if_neg c, if_neg (fun q => by have := (nI_eq (by omega) (by omega)).mp q; omega)]; exact i3
        · rw [aDn, if_neg c]
          by_cases q : j = k
          · rw [q, if_pos rfl]
            exact fun z => e ((nI_eq (by omega) (by omega)).mp z)
          · rw [if_neg (fun z => q ((nI_eq (by omega) (by omega)).mp z).symm)]
            exact i4 j (by omega) h2
theorem c_rank_b14 {N w h : Nat} {σ : CacS} {S : AS} (H : RepB (σ 1) S E0) (hh : aN S 13 = nI h) (hh2 : h < 200) (hw : w < 200) : ∀ r n k, r ≤ 200 → r < n → (∃ s, 200 - r ≤ s ∧ s < 200 ∧ (h + s) % 200 = w) → f_X0_rankOf_b14 N n (σ 1) (nI w) (nI k) (nI (200 - r)) = some (nI (aRk S h w r k)) := by
  intro r
  induction r with
  | zero => intro n k _ _ ⟨s, h1, h2, _⟩; omega
  | succ r ih =>
    intro n k hr hn hs
    obtain ⟨n, rfl⟩ : ∃ m, n = m + 1 := ⟨n - 1, by omega⟩
    have hy : (h + (200 - (r + 1))) % 200 < 200 := Nat.mod_lt _ (by decide)
    rw [f_X0_rankOf_b14, if_neg (pu_ge200 (by omega)), H.1, hh, nI_add, pu_rem (by omega), aRk, nI_1, nI_1, show 200 - (r + 1) + 1 = 200 - r by omega]
    by_cases e : (h + (200 - (r + 1))) % 200 = w
    · rw [if_pos e, if_pos (by rw [e])]
    · rw [if_neg e, if_neg (fun q => e ((nI_eq (by omega) (by omega)).mp q)), p0_isDirty H hy, Option.bind_some]
      have hs2 : ∃ s, 200 - r ≤ s ∧ s < 200 ∧ (h + s) % 200 = w := by
        obtain ⟨s, h1, h2, h3⟩ := hs
        refine ⟨s, ?_, h2, h3⟩
        by_cases q : s = 200 - (r + 1)
        · rw [q] at h3; exact absurd h3 e
        · omega
      by_cases c : aB S 3 ((h + (200 - (r + 1))) % 200) = -1
      · rw [if_pos c, if_pos c, if_pos rfl]; exact ih n k (by omega) (by omega) hs2
      · rw [if_neg c, if_neg c, if_neg (by decide)]; exact ih n (k + 1) (by omega) (by omega) hs2
theorem m_rank_b30 {N w ρ : Nat} {μ : MdlS} {S : AS} (hN : 1000 ≤ N) (hM : RepM (μ.1.1 0) S (UA S)) (hI : Inv S) (h1 : aDn S (aHd S) (nI ρ) 200 0 = nI w) (h2 : ∀ j, j < ρ → aDn S (aHd S) (nI j) 200 0 ≠ nI w) : ∀ r n j, j + r = ρ → r < n → f_X9_rank_b30 N n μ (nI w) (nI j) = some (nI ρ, μ) := by
  intro r
  induction r with
  | zero =>
    intro n j hj hn
    obtain ⟨n, rfl⟩ : ∃ m, n = m + 1 := ⟨n - 1, by omega⟩
    have : j = ρ := by omega
    subst this
    rw [f_X9_rank_b30]
    exact e_b (n_inOrder (μ := μ) hM hI hN) (e_t h1 rfl)
  | succ r ih =>
    intro n j hj hn
    obtain ⟨n, rfl⟩ : ∃ m, n = m + 1 := ⟨n - 1, by omega⟩
    rw [f_X9_rank_b30]
    refine e_b (n_inOrder (μ := μ) hM hI hN) (e_f (h2 j (by omega)) ?_)
    rw [nI_1]
    exact ih n (j + 1) (by omega) (by omega)
theorem s_rank {N K L : Nat} (hN : 1000 ≤ N) (hL : K ≤ L) : Sim_rank N (TopK K) (TopK L) := by
  intro γ μ κ ix nb p0 h
  obtain ⟨⟨S, hI, hC, hM, hK⟩, hR⟩ := id h
  have hT := h.mono hL
  rcases r_block p0 with ⟨w, hw, rfl, e1, e2⟩ | ⟨e1, e2⟩
  · have ed := n_isDirty (μ := (oI μ.1 6 0, μ.2)) hM hI w hw
    have ec := p0_isDirty hC.2.1 hw
    obtain ⟨hh, hh2⟩ := hI.1.2.2.2.2.1
    by_cases c : aB S 3 w = -1
    · rw [if_pos c] at ed ec
      exact sq_r (v := -1) (e_x e1 (e_b (e_b ec (e_t rfl rfl)) rfl)) (e_l (e_b e2 (e_f (by decide) (e_b ed (e_t rfl rfl))))) rfl (hT.t6 0)
    · rw [if_neg c] at ed ec
      have hs : ∃ s, 200 - 200 ≤ s ∧ s < 200 ∧ (aHd S + s) % 200 = w := ⟨(w + 200 - aHd S) % 200, by omega, by omega, by omega⟩
      obtain ⟨-, i2, i3, i4⟩ := aRk_spec (h := aHd S) hw c 200 0 (Nat.le_refl _) (by omega) hs
      have v1 := c_rank_b14 (N := N) hC.2.1 hh hh2 hw 200 N 0 (Nat.le_refl _) (by omega) hs
      have v2 := m_rank_b30 (N := N) (w := w) (μ := (oI μ.1 6 0, μ.2)) hN hM hI i3 (fun j hj => i4 j (Nat.zero_le _) hj) (aRk S (aHd S) w 200 0) N 0 (by omega) (by omega)
      exact sq_r (e_x e1 (e_b (e_b ec (e_f (by decide) v1)) rfl)) (e_l (e_b e2 (e_f (by decide) (e_b ed (e_f (by decide) v2))))) rfl (hT.t6 0)
  · exact sq_l (k := 1) (b := 0) (μ1 := (oI (oI μ.1 6 0) 6 1, μ.2)) (e_xl e1) rfl (e_l (e_b e2 (e_t rfl rfl))) rfl ((hT.t6 0).t6 1)
