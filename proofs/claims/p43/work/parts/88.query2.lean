/-! queries: what there is, what follows -/
section CC
variable {σ : CacS} {S : AS}
theorem cl_at (h : RepC σ S E0) {k c : Nat} (hk : aN S 6 = nI k) (hk4 : k ≤ 4) (hc : c < k) : f_X1_clientOf σ (nI c) = some (some c) := cl_of (h.1.1.trans hk) hk4 hc
theorem cl_f (h : RepC σ S E0) {k c f : Nat} (hk : aN S 6 = nI k) (hk4 : k ≤ 4) (hc : c < k) (hf : f < 8) : (σ (8 + c)).2 f = aC S c f := h.2.2.2.2 c (by omega) (by rw [hk]; exact nI_lt hc (by omega)) f hf
theorem c_owned_b5 {N l c : Nat} (h : RepC σ S E0) (hI : Inv S) (hl : l < 3) (hc : c < 4) : ∀ r n i q, i + r = (aL S l).length → r < n → f_X1_howManyOwned_b5 N n σ l (nI c) (nI q) (nI i) = some (nI (q + aCn S ((aL S l).drop i) c)) := by
  have hr := h.2.2.2.1 l (by omega)
  have h24 := hr.1
  intro r
  induction r with
  | zero =>
    intro n i q hi hn
    obtain ⟨n, rfl⟩ : ∃ m, n = m + 1 := ⟨n - 1, by omega⟩
    have : i = (aL S l).length := by omega
    subst this
    rw [f_X1_howManyOwned_b5, hr.2.1, if_pos (nI_le (Nat.le_refl _) (by omega)), List.drop_length]
    rfl
  | succ r ih =>
    intro n i q hi hn
    obtain ⟨n, rfl⟩ : ∃ m, n = m + 1 := ⟨n - 1, by omega⟩
    obtain ⟨hx, -, -, o, ho, eo, -⟩ := hI.mem hl (pu_getD_mem (show i < (aL S l).length by omega))
    rw [f_X1_howManyOwned_b5, hr.2.1]
    refine e_f (nI_ge (by omega) (by omega)) (e_b (p5_blockAt hr (by omega)) (e_b (p0_ownerOf h.2.1 hx) ?_))
    rw [eo, nI_1, nI_1, pu_dropD (show i < (aL S l).length by omega)]
    unfold aCn
    rw [List.countP_cons]
    by_cases e : o = c
    · subst e
      refine e_t rfl ((ih n (i + 1) (q + 1) (by omega) (by omega)).trans ?_)
      rw [if_pos (decide_eq_true eo)]
      unfold aCn
      rw [show q + 1 + List.countP (fun b => decide (aB S 2 b = nI o)) (List.drop (i + 1) (aL S l)) = q + (List.countP (fun b => decide (aB S 2 b = nI o)) (List.drop (i + 1) (aL S l)) + 1) by omega]
    · refine e_f (fun q => e ((nI_eq (by omega) (by omega)).mp q)) ((ih n (i + 1) q (by omega) (by omega)).trans ?_)
      rw [if_neg (fun q => e ((nI_eq (by omega) (by omega)).mp (eo.symm.trans (of_decide_eq_true q))))]
      rfl
theorem c_owned {N l c : Nat} (hN : 100 ≤ N) (h : RepC σ S E0) (hI : Inv S) (hl : l < 3) (hc : c < 4) : f_X1_howManyOwned N σ l (nI c) = some (nI (aCn S (aL S l) c)) := by
  have h24 := (h.2.2.2.1 l (by omega)).1
  have := c_owned_b5 (N := N) h hI hl hc (aL S l).length N 0 0 (by omega) (by omega)
  rw [List.drop_zero, Nat.zero_add] at this
  exact this
theorem c_upper {N c : Nat} (hN : 100 ≤ N) (h : RepC σ S E0) (hI : Inv S) (hc : c < 4) : f_X1_upperUnitsOf N σ (nI c) = some (nI (aUn S c)) := by
  unfold f_X1_upperUnitsOf
  refine e_b (c_owned hN h hI (l := 0) (by decide) hc) (e_b (c_owned hN h hI (l := 1) (by decide) hc) ?_)
  rw [nI_add]
  rfl
theorem c_above {c k : Nat} {u s : Int32} (h : RepC σ S E0) (hk : aN S 6 = nI k) (hk4 : k ≤ 4) (hc : c < k) : f_X1_unitsAbove σ (nI c) u s = some (u * s - aN S 2 * aC S c 0) := by
  unfold f_X1_unitsAbove
  refine e_b (cl_at h hk hk4 hc) (e_o ?_)
  rw [h.1.2.2.2.1, cl_f h hk hk4 hc (by decide)]
theorem aSw_le (hO : cliOk S) : aSw S ≤ 36 := by
  obtain ⟨k, k1, k2, k3⟩ := hO
  unfold aSw
  rw [k1, nI_clamp (by omega)]
  have := aSwN_le (S := S) (k := k) (fun c hc => (k3 c hc).1)
  omega
theorem aUn_le (hI : Inv S) (c : Nat) : aUn S c ≤ 16 := by
  obtain ⟨u, u1, u2, u3, u4, -⟩ := hI.1.2.2.1
  have q0 := aCn_le (S := S) (aL S 0) c
  have q1 := aCn_le (S := S) (aL S 1) c
  unfold aUn
  omega
theorem aTM_iff (hI : Inv S) {k c : Nat} (hk : aN S 6 = nI k) (hc : c < k) (hk4 : k ≤ 4) : nI (aUn S c) * nI (aSw S) - aN S 2 * aC S c 0 ≤ 0 ↔ ¬ aTM S c = true := by
  obtain ⟨u, u1, u2, u3, u4, -⟩ := hI.1.2.2.1
  obtain ⟨k', k1, kl, k3⟩ := hI.1.2.2.2.1
  have ek : k' = k := (nI_eq (by omega) (by omega)).mp (k1.symm.trans hk)
  subst ek
  obtain ⟨w, w1, -, w9⟩ := (k3 c hc).1
  have h1 : aUn S c * aSw S < 2 ^ 30 := Nat.lt_of_le_of_lt (Nat.mul_le_mul (aUn_le hI c) (aSw_le hI.1.2.2.2.1)) (by decide)
  have h2 : u * w < 2 ^ 30 := Nat.lt_of_le_of_lt (Nat.mul_le_mul u3 w9) (by decide)
  unfold aTM
  rw [u1, w1, pu_above h1 h2, decide_eq_true_iff, Classical.not_not]
end CC
