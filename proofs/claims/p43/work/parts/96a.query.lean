/-! WHAT THE LAW ASKS OF THE CLASS: each answer in the words of the abstract state -/
theorem rg {p lo hi : Int32} (h1 : ¬ p < lo) (h2 : p ≤ hi) : f_X8_needRange p lo hi = some () := by
  unfold f_X8_needRange
  rw [if_neg h1, if_pos h2]
theorem rgN {n a b : Nat} (h1 : a ≤ n) (h2 : n ≤ b) (hb : b < 2 ^ 31) : f_X8_needRange (nI n) (nI a) (nI b) = some () := rg (nI_nlt h1 (by omega)) (nI_le h2 hb)
theorem ixN {n b : Nat} (h2 : n < b) (hb : b < 2 ^ 31) : f_X8_needIndex (nI n) (nI b) = some () := by
  unfold f_X8_needIndex
  rw [if_neg (nI_pos (by omega)), if_pos (nI_lt h2 hb)]
theorem nnN {n : Nat} (hb : n < 2 ^ 31) : f_X8_needNoLessThanZero (nI n) = some () := by
  unfold f_X8_needNoLessThanZero
  rw [if_pos (nI_pos' hb)]
section QQ
variable {N : Nat} {γ : GLS} {S : AS}
theorem ccN {k c : Nat} (hC : RepC γ.2.2.1 S E0) (hk : aN S 6 = nI k) (hk4 : k ≤ 4) (hc : c < k) : f_X8_needClient γ (nI c) = some () := by
  unfold f_X8_needClient
  rw [hC.1.1, hk, ixN hc (by omega)]
  rfl
theorem q_n (hC : RepC γ.2.2.1 S E0) {j : Nat} (hj : j < 7 ∨ 13 ≤ j ∧ j < 23) : f_L_count N γ (nI j) = some (aN S j) := by
  obtain ⟨⟨o1, o2, o3, o4, o5, o6⟩, ⟨b1, b2, hb⟩, ⟨t1, t2, t3, t4, t5, t6, t7, t8, t9⟩, hr, hk⟩ := hC
  refine e_b (e_b (rgN (a := 0) (b := 23) (Nat.zero_le _) (by omega) (by decide)) (e_f (fun q => by have := (nI_eq (b := 23) (by omega) (by decide)).mp q; omega) (e_b ?_ rfl))) rfl
  rcases (show j = 0 ∨ j = 1 ∨ j = 2 ∨ j = 3 ∨ j = 4 ∨ j = 5 ∨ j = 6 ∨ j = 13 ∨ j = 14 ∨ j = 15 ∨ j = 16 ∨ j = 17 ∨ j = 18 ∨ j = 19 ∨ j = 20 ∨ j = 21 ∨ j = 22 by omega) with rfl | rfl | rfl | rfl | rfl | rfl | rfl | rfl | rfl | rfl | rfl | rfl | rfl | rfl | rfl | rfl | rfl
  · exact congrArg some o2
  · exact congrArg some o3
  · exact congrArg some o4
  · exact congrArg some o5
  · exact congrArg some o6
  · exact congrArg some t1
  · exact congrArg some o1
  · exact congrArg some b1
  · exact congrArg some t2
  · exact congrArg some t3
  · exact congrArg some t4
  · exact congrArg some t5
  · exact congrArg some t6
  · exact congrArg some t7
  · exact congrArg some t8
  · exact congrArg some b2
  · exact congrArg some t9
theorem q_l (hC : RepC γ.2.2.1 S E0) {l : Nat} (hl : l < 5) : f_L_count N γ (nI (7 + l)) = some (nI (aL S l).length) := by
  obtain ⟨-, -, -, hr, -⟩ := hC
  refine e_b (e_b (rgN (a := 0) (b := 23) (Nat.zero_le _) (by omega) (by decide)) (e_f (fun q => by have := (nI_eq (b := 23) (by omega) (by decide)).mp q; omega) (e_b ?_ rfl))) rfl
  rcases (show l = 0 ∨ l = 1 ∨ l = 2 ∨ l = 3 ∨ l = 4 by omega) with rfl | rfl | rfl | rfl | rfl
  · exact congrArg some (hr 0 (by decide)).2.1
  · exact congrArg some (hr 1 (by decide)).2.1
  · exact congrArg some (hr 2 (by decide)).2.1
  · exact congrArg some (hr 3 (by decide)).2.1
  · exact congrArg some (hr 4 (by decide)).2.1
theorem q_d (hN : 1000 ≤ N) (hC : RepC γ.2.2.1 S E0) : f_L_count N γ 12 = some (nI (aCt (isD S) 200 0)) := by
  refine e_b (e_b (rgN (n := 12) (a := 0) (b := 23) (by decide) (by decide) (by decide)) (e_f (by decide) (e_b ?_ rfl))) rfl
  have h := p0_howManyDirty hC.2.1 hN
  exact e_b h rfl
theorem q_a : f_L_count N γ 23 = some (γ.2.2.2.2.1.2 2) := e_b (e_b (rgN (n := 23) (a := 0) (b := 23) (by decide) (by decide) (by decide)) (e_t rfl rfl)) rfl
-- clients
theorem q_cf (hC : RepC γ.2.2.1 S E0) {k c j f : Nat} (hk : aN S 6 = nI k) (hk4 : k ≤ 4) (hc : c < k) (hj : (j = 0 ∧ f = 0) ∨ (3 ≤ j ∧ j < 10 ∧ f = j - 2)) : f_L_client N γ (nI c) (nI j) = some (aC S c f) := by
  refine e_b (e_b (ccN hC hk hk4 hc) (e_b (rgN (a := 0) (b := 10) (Nat.zero_le _) (by omega) (by decide)) (e_b ?_ rfl))) rfl
  refine e_b (cl_at hC hk hk4 hc) (e_o ?_)
  have hf : (γ.2.2.1 (8 + c)).2 f = aC S c f := cl_f hC hk hk4 hc (by omega)
  rcases (show j = 0 ∧ f = 0 ∨ j = 3 ∧ f = 1 ∨ j = 4 ∧ f = 2 ∨ j = 5 ∧ f = 3 ∨ j = 6 ∧ f = 4 ∨ j = 7 ∧ f = 5 ∨ j = 8 ∧ f = 6 ∨ j = 9 ∧ f = 7 by omega) with ⟨rfl, rfl⟩ | ⟨rfl, rfl⟩ | ⟨rfl, rfl⟩ | ⟨rfl, rfl⟩ | ⟨rfl, rfl⟩ | ⟨rfl, rfl⟩ | ⟨rfl, rfl⟩ | ⟨rfl, rfl⟩
  all_goals exact e_f (by decide) (e_f (by decide) (e_f (by decide) (e_b (congrArg some hf) rfl)))
theorem q_c1 (hN : 1000 ≤ N) (hC : RepC γ.2.2.1 S E0) (hI : Inv S) {k c : Nat} (hk : aN S 6 = nI k) (hk4 : k ≤ 4) (hc : c < k) : f_L_client N γ (nI c) 1 = some (nI (aUn S c)) := by
  refine e_b (e_b (ccN hC hk hk4 hc) (e_b (rgN (n := 1) (a := 0) (b := 10) (by decide) (by decide) (by decide)) (e_b ?_ rfl))) rfl
  exact e_b (cl_at hC hk hk4 hc) (e_o (e_t rfl (e_b (c_upper (by omega) hC hI (by omega)) rfl)))
theorem q_c2 (hN : 1000 ≤ N) (hC : RepC γ.2.2.1 S E0) (hI : Inv S) {k c : Nat} (hk : aN S 6 = nI k) (hk4 : k ≤ 4) (hc : c < k) : f_L_client N γ (nI c) 2 = some (nI (aCn S (aL S 2) c)) := by
  refine e_b (e_b (ccN hC hk hk4 hc) (e_b (rgN (n := 2) (a := 0) (b := 10) (by decide) (by decide) (by decide)) (e_b ?_ rfl))) rfl
  exact e_b (cl_at hC hk hk4 hc) (e_o (e_f (by decide) (e_t rfl (e_b (c_owned (by omega) hC hI (by decide) (by omega)) rfl))))
theorem q_c10 (hN : 1000 ≤ N) (hC : RepC γ.2.2.1 S E0) (hI : Inv S) {k c : Nat} (hk : aN S 6 = nI k) (hk4 : k ≤ 4) (hc : c < k) : f_L_client N γ (nI c) 10 = some (if nI (aUn S c) * nI (aSw S) - aN S 2 * aC S c 0 ≤ 0 then 0 else 1) := by
  refine e_b (e_b (ccN hC hk hk4 hc) (e_b (rgN (n := 10) (a := 0) (b := 10) (by decide) (by decide) (by decide)) (e_b ?_ rfl))) rfl
  refine e_b (cl_at hC hk hk4 hc) (e_o (e_f (by decide) (e_f (by decide) (e_t rfl (e_b (c_upper (by omega) hC hI (by omega)) (e_b (c_sum (by omega) hC hI.1.2.2.2.1) (e_b (c_above hC hk hk4 hc) ?_)))))))
  by_cases h : nI (aUn S c) * nI (aSw S) - aN S 2 * aC S c 0 ≤ 0
  · rw [if_pos h, if_pos h]
  · rw [if_neg h, if_neg h]
-- blocks
theorem q_b0 (hC : RepC γ.2.2.1 S E0) {b : Nat} (hb : b < 200) : f_L_block N γ (nI b) 0 = some (aB S 0 b) :=
  e_b (e_b (rgN (a := 0) (b := 199) (Nat.zero_le _) (by omega) (by decide)) (e_b (rgN (n := 0) (a := 0) (b := 6) (by decide) (by decide) (by decide)) (e_b (e_t rfl (e_b (p0_listOf hC.2.1 (fun q => q) hb) rfl)) rfl))) rfl
theorem q_b2 (hC : RepC γ.2.2.1 S E0) {b : Nat} (hb : b < 200) : f_L_block N γ (nI b) 2 = some (aB S 1 b) :=
  e_b (e_b (rgN (a := 0) (b := 199) (Nat.zero_le _) (by omega) (by decide)) (e_b (rgN (n := 2) (a := 0) (b := 6) (by decide) (by decide) (by decide)) (e_b (e_f (by decide) (e_f (by decide) (e_t rfl (e_b (p0_valueOf hC.2.1 hb) rfl)))) rfl))) rfl
theorem q_b3 (hC : RepC γ.2.2.1 S E0) {b : Nat} (hb : b < 200) : f_L_block N γ (nI b) 3 = some (aB S 2 b) :=
  e_b (e_b (rgN (a := 0) (b := 199) (Nat.zero_le _) (by omega) (by decide)) (e_b (rgN (n := 3) (a := 0) (b := 6) (by decide) (by decide) (by decide)) (e_b (e_f (by decide) (e_f (by decide) (e_f (by decide) (e_t rfl (e_b (p0_ownerOf hC.2.1 hb) rfl))))) rfl))) rfl
theorem q_b4 (hC : RepC γ.2.2.1 S E0) {b : Nat} (hb : b < 200) : f_L_block N γ (nI b) 4 = some (aB S 3 b) :=
  e_b (e_b (rgN (a := 0) (b := 199) (Nat.zero_le _) (by omega) (by decide)) (e_b (rgN (n := 4) (a := 0) (b := 6) (by decide) (by decide) (by decide)) (e_b (e_f (by decide) (e_f (by decide) (e_f (by decide) (e_f (by decide) (e_t rfl (e_b (p0_sinceOf hC.2.1 hb) rfl)))))) rfl))) rfl
theorem q_b5 (hC : RepC γ.2.2.1 S E0) {b : Nat} (hb : b < 200) : f_L_block N γ (nI b) 5 = some (aB S 4 b) :=
  e_b (e_b (rgN (a := 0) (b := 199) (Nat.zero_le _) (by omega) (by decide)) (e_b (rgN (n := 5) (a := 0) (b := 6) (by decide) (by decide) (by decide)) (e_b (e_f (by decide) (e_f (by decide) (e_f (by decide) (e_f (by decide) (e_f (by decide) (e_t rfl (e_b (p0_ghostListOf hC.2.1 hb) rfl))))))) rfl))) rfl
theorem q_b6 (hC : RepC γ.2.2.1 S E0) {b : Nat} (hb : b < 200) : f_L_block N γ (nI b) 6 = some (aB S 5 b) :=
  e_b (e_b (rgN (a := 0) (b := 199) (Nat.zero_le _) (by omega) (by decide)) (e_b (rgN (n := 6) (a := 0) (b := 6) (by decide) (by decide) (by decide)) (e_b (e_f (by decide) (e_f (by decide) (e_f (by decide) (e_f (by decide) (e_f (by decide) (e_f (by decide) (e_b (p0_storedOf hC.2.1 hb) rfl))))))) rfl))) rfl
theorem q_b1 (hN : 1000 ≤ N) (hC : RepC γ.2.2.1 S E0) (hI : Inv S) {b l : Nat} (hb : b < 200) (hl : l < 3) (hw : aB S 0 b = nI l) : f_L_block N γ (nI b) 1 = some (pu_pl b (aL S l) 0) := by
  refine e_b (e_b (rgN (a := 0) (b := 199) (Nat.zero_le _) (by omega) (by decide)) (e_b (rgN (n := 1) (a := 0) (b := 6) (by decide) (by decide) (by decide)) (e_b (e_f (by decide) (e_t rfl (e_b ?_ rfl))) rfl))) rfl
  refine e_b (p0_listOf hC.2.1 (fun q => q) hb) ?_
  rw [hw]
  refine e_f (pu_m1 (by omega)) (e_b (c_rowOf (by omega)) (e_b (p5_placeOf (hC.2.2.2.1 l (by omega)) (hI.1.1 l (by omega)).2 hb (by omega)) rfl))
-- a place of a list
theorem q_at (hC : RepC γ.2.2.1 S E0) {l i : Nat} (hl : l < 5) (hi : i < 2 ^ 30) : f_L_at_ γ (nI l) (nI i) = some (if i < (aL S l).length then nI ((aL S l).getD i 0) else -1) := by
  have hr := hC.2.2.2.1 l hl
  refine e_b (e_b (ixN (b := 5) hl (by decide)) (e_b (nnN (by omega)) (e_b (c_rowOf hl) (e_b ?_ rfl)))) rfl
  by_cases h : i < (aL S l).length
  · rw [if_pos h]
    exact p5_blockAt hr h
  · rw [if_neg h]
    exact p5_blockAtN hr (Or.inr (nI_le (by omega) (by omega)))
-- the order of what is dirty
theorem q_ord (hN : 1000 ≤ N) (hC : RepC γ.2.2.1 S E0) (hI : Inv S) {i : Nat} (hi : i < 2 ^ 30) : f_L_order N γ (nI i) = some (aDn S (aHd S) (nI i) 200 0) :=
  e_b (e_b (nnN (by omega)) (e_b (p0_dirtyAt hC.2.1 hI.1.2.2.2.2.1.1 hI.1.2.2.2.2.1.2 hN) rfl)) rfl
theorem q_rank (hN : 1000 ≤ N) (hC : RepC γ.2.2.1 S E0) (hI : Inv S) {w : Nat} (hw : w < 200) (hd : aB S 3 w ≠ -1) : f_L_rank N γ (nI w) = some (nI (aRk S (aHd S) w 200 0)) := by
  have hh := hI.1.2.2.2.2.1
  refine e_b (e_b (rgN (a := 0) (b := 199) (Nat.zero_le _) (by omega) (by decide)) (e_b ?_ rfl)) rfl
  refine e_b (p0_isDirty hC.2.1 hw) ?_
  rw [if_neg hd]
  refine e_f (by decide) ?_
  exact c_rank_b14 hC.2.1 hh.1 hh.2 hw 200 N 0 (Nat.le_refl _) (by omega) ⟨(w + 200 - aHd S) % 200, by omega, by omega, by have := hh.2; omega⟩
end QQ
