/-! sumsAreSo() AND ordersAreSo() OF THE LAW -/
section SO
variable {N k t : Nat} {δ : LwS} {S : AS} {w : Nat → Int32}
theorem l_sums (hC : RepC δ.2.2.2.1 S E0) (hS : SI S w k t) (ht : t < 2 ^ 20) : ∀ r n i, i + r = k → r < n → f_L_sumsAreSo_b15 N n δ (aSm S 3 i) (aSm S 4 i) (aSm S 5 i) (aSm S 6 i) (aSm S 7 i) (nI i) = some 1 := by
  obtain ⟨hI, h6, k1, k4, hJ, h5, s1, s2, s3, s4, s5, ⟨l, m, p, q, e1, e2, e3, e4, e5, e6⟩, s, e7, e8⟩ := hS
  intro r
  induction r with
  | zero =>
    intro n i hi hn
    obtain ⟨n, rfl⟩ : ∃ m, n = m + 1 := ⟨n - 1, by omega⟩
    have e : i = k := by omega
    subst e
    rw [f_L_sumsAreSo_b15]
    refine e_b (q_n hC (j := 6) (by decide)) ?_
    rw [h6]
    refine e_t (Int32.le_refl _) (e_b (q_n hC (j := 5) (by decide)) (e_t s1 (e_b (q_n hC (j := 14) (by decide)) (e_t s2 (e_b (q_n hC (j := 15) (by decide)) (e_t s3 (e_b (q_n hC (j := 16) (by decide)) (e_t s4 (e_b (q_n hC (j := 5) (by decide)) (e_t ?_ (e_b (q_n hC (j := 17) (by decide)) (e_b (q_n hC (j := 18) (by decide)) (e_f ?_ (e_b (q_n hC (j := 22) (by decide)) (e_b (q_n hC (j := 5) (by decide)) (e_f ?_ rfl))))))))))))))))
    · rw [s2, s3, s4]; exact s5
    · rw [s3, s4, e1, e2, e3, e4, nI_add, nI_add]
      exact nI_nlt e5 (by omega)
    · rw [e7, h5]
      exact nI_nlt e8 (by omega)
  | succ r ih =>
    intro n i hi hn
    obtain ⟨n, rfl⟩ : ∃ m, n = m + 1 := ⟨n - 1, by omega⟩
    rw [f_L_sumsAreSo_b15]
    refine e_b (q_n hC (j := 6) (by decide)) ?_
    rw [h6]
    refine e_f (nI_ge (by omega) (by omega)) (e_b (q_cf hC h6 k4 (c := i) (j := 5) (f := 3) (by omega) (by decide)) (e_b (q_cf hC h6 k4 (c := i) (j := 6) (f := 4) (by omega) (by decide)) (e_b (q_cf hC h6 k4 (c := i) (j := 7) (f := 5) (by omega) (by decide)) (e_b (q_cf hC h6 k4 (c := i) (j := 8) (f := 6) (by omega) (by decide)) (e_b (q_cf hC h6 k4 (c := i) (j := 9) (f := 7) (by omega) (by decide)) ?_)))))
    rw [nI_1]
    exact ih n (i + 1) (by omega) (by omega)
theorem p_sums (hN : 1000 ≤ N) (hC : RepC δ.2.2.2.1 S E0) (hS : SI S w k t) (ht : t < 2 ^ 20) : f_L_sumsAreSo N δ = some 1 := by
  have := hS.2.2.2.1
  exact l_sums hC hS ht k N 0 (by omega) (by omega)
-- the order
def far (h x : Nat) : Nat := (x + 200 - h) % 200
theorem far_lt {h : Nat} (hh : h < 200) : ∀ r, r ≤ 200 → (∀ x ∈ aDs S h r, 200 - r ≤ far h x) ∧ (aDs S h r).Pairwise (fun x y => far h x < far h y) := by
  intro r
  induction r with
  | zero => intro _; exact ⟨fun x hx => absurd hx List.not_mem_nil, List.Pairwise.nil⟩
  | succ r ih =>
    intro hr
    obtain ⟨a1, a2⟩ := ih (by omega)
    rw [aDs]
    by_cases e : aB S 3 ((h + (200 - (r + 1))) % 200) = -1
    · rw [if_pos e]
      exact ⟨fun x hx => by have := a1 x hx; omega, a2⟩
    · rw [if_neg e]
      have e0 : far h ((h + (200 - (r + 1))) % 200) = 200 - (r + 1) := by unfold far; omega
      refine ⟨fun x hx => ?_, List.pairwise_cons.mpr ⟨fun x hx => ?_, a2⟩⟩
      · rcases List.mem_cons.mp hx with rfl | hx
        · omega
        · have := a1 x hx; omega
      · have := a1 x hx; omega
theorem farE {h x : Nat} (hh : h < 200) (hx : x < 200) : ((nI x - nI h) + 200) - ((nI x - nI h) + 200) / 200 * 200 = nI (far h x) := by
  have e : (nI x - nI h) + 200 = nI (x + 200 - h) := by
    have e1 : (nI x - nI h) + 200 = nI (x + 200) - nI h := by
      rw [show nI (x + 200) = nI x + 200 from (nI_add x 200).symm, Int32.sub_eq_add_neg, Int32.sub_eq_add_neg, Int32.add_assoc, Int32.add_assoc, Int32.add_comm (-nI h)]
    rw [e1, pk_sub (by omega)]
  rw [e]
  exact pk_rem (d := 200) (by omega) (by decide) (by decide)
theorem getD_pair {L : List Nat} {h i j : Nat} (hp : L.Pairwise (fun x y => far h x < far h y)) (hij : i < j) (hj : j < L.length) : far h (L.getD i 0) < far h (L.getD j 0) := by
  rw [List.getD_eq_getElem?_getD, List.getD_eq_getElem?_getD, List.getElem?_eq_getElem hj, List.getElem?_eq_getElem (by omega)]
  exact List.pairwise_iff_getElem.mp hp i j (by omega) hj hij
/-- since when the first of the order are dirty -/
def Snc (S : AS) (L : List Nat) (i : Nat) (x : Int32) : Prop := (i = 0 ∧ x = -1) ∨ ∃ s, s < 2 ^ 30 ∧ x = nI s ∧ (∃ j, j < i ∧ aB S 3 (L.getD j 0) = nI s) ∧ ∀ j, j < i → ∀ u, u < 2 ^ 30 → aB S 3 (L.getD j 0) = nI u → s ≤ u
theorem q_rk (hN : 1000 ≤ N) (hC : RepC δ.2.2.2.1 S E0) (hI : Inv S) {i : Nat} (hi : i < (aDs S (aHd S) 200).length) : f_L_rank N δ.2 (nI ((aDs S (aHd S) 200).getD i 0)) = some (nI i) := by
  have hh := hI.1.2.2.2.2.1
  have hm := pu_getD_mem hi
  have hx := aDs_lt hm
  have hlen : (aDs S (aHd S) 200).length ≤ 200 := by rw [aDs_len hh.2]; exact dC_le S
  have hd := (aDs_in hh.2 hx).mp hm
  rw [q_rank hN hC hI hx hd]
  obtain ⟨a1, a2, a3, -⟩ := aRk_spec (S := S) (h := aHd S) hx hd 200 0 (Nat.le_refl _) (by omega) ⟨((aDs S (aHd S) 200).getD i 0 + 200 - aHd S) % 200, by omega, by omega, by have := hh.2; omega⟩
  generalize aRk S (aHd S) ((aDs S (aHd S) 200).getD i 0) 200 0 = ρ at a1 a2 a3 ⊢
  rw [aDn_at 200 0 ρ (Nat.zero_le _) (by omega)] at a3
  by_cases h : ρ - 0 < (aDs S (aHd S) 200).length
  · rw [if_pos h] at a3
    have e := (nI_eq (by have := aDs_lt (pu_getD_mem h); omega) (by omega)).mp a3
    have hn := aDs_nodup (S := S) hh.2 200 (Nat.le_refl _)
    have : ρ - 0 = i := by
      rw [List.getD_eq_getElem?_getD, List.getD_eq_getElem?_getD, List.getElem?_eq_getElem h, List.getElem?_eq_getElem hi] at e
      exact (List.getElem_inj hn).mp e
    rw [show ρ = i by omega]
  · rw [if_neg h] at a3
    exact absurd a3 (pu_m1' (by omega))
theorem l_ord (hN : 1000 ≤ N) (hC : RepC δ.2.2.2.1 S E0) (hS : SI S w k t) (ht : t < 2 ^ 20) : ∀ r n i (x2 x4 : Int32), i + r = (aDs S (aHd S) 200).length → r < n → (i = 0 ∧ x2 = -1 ∨ 0 < i ∧ x2 = nI (far (aHd S) ((aDs S (aHd S) 200).getD (i - 1) 0))) → Snc S (aDs S (aHd S) 200) i x4 → f_L_ordersAreSo_b28 N n δ (nI (aHd S)) x2 (nI (aDs S (aHd S) 200).length) x4 (nI i) = some 1 := by
  obtain ⟨hI, h6, k1, k4, hJ, h5, -⟩ := hS
  have hh := hI.1.2.2.2.2.1
  have hlen : (aDs S (aHd S) 200).length ≤ 200 := by rw [aDs_len hh.2]; exact dC_le S
  have hord : ∀ i, i ≤ (aDs S (aHd S) 200).length → f_L_order N δ.2 (nI i) = some (if i < (aDs S (aHd S) 200).length then nI ((aDs S (aHd S) 200).getD i 0) else -1) := fun i hi => by
    rw [q_ord hN hC hI (by omega), aDn_at 200 0 i (Nat.zero_le _) (by omega), Nat.sub_zero]
  have hpw := (far_lt (S := S) hh.2 200 (Nat.le_refl _)).2
  intro r
  induction r with
  | zero =>
    intro n i x2 x4 hi hn hx2 hx4
    obtain ⟨n, rfl⟩ : ∃ m, n = m + 1 := ⟨n - 1, by omega⟩
    have e : i = (aDs S (aHd S) 200).length := by omega
    rw [f_L_ordersAreSo_b28]
    refine e_t (nI_le (by omega) (by omega)) (e_b (hord _ (Nat.le_refl _)) ?_)
    rw [if_neg (Nat.lt_irrefl _)]
    refine e_t rfl ?_
    obtain ⟨o, q1, q2⟩ := q_old hN hC hJ (by omega : t < 2 ^ 30)
    rcases hx4 with ⟨i0, -⟩ | ⟨s, s1, s2, ⟨j, j1, j2⟩, s3⟩
    · refine e_t (by rw [show (aDs S (aHd S) 200).length = 0 by omega]; rfl) (e_b q1 (e_t ?_ rfl))
      rcases q2 with ⟨a, -⟩ | ⟨o', s', a1, -, a3, a4, -⟩
      · exact a
      · have := (aDs_in hh.2 a1).mpr (by rw [a3]; exact pu_m1 (by omega))
        have := List.length_pos_of_mem this
        omega
    · refine e_f (nI_ne0 (by omega) (by omega)) (e_b q1 ?_)
      have hjl : j < (aDs S (aHd S) 200).length := by omega
      have hjm := aDs_lt (pu_getD_mem hjl)
      rcases q2 with ⟨-, a⟩ | ⟨o', s', a1, a2, a3, a4, a5⟩
      · rw [a _ hjm] at j2
        exact absurd j2 (pu_m1' (by omega))
      · rw [a2]
        refine e_b (q_b4 hC a1) (e_t ?_ rfl)
        rw [a3, s2]
        have g1 := a5 _ hjm s s1 j2
        have hm := (aDs_in hh.2 a1).mpr (by rw [a3]; exact pu_m1 (by omega))
        obtain ⟨j', hj', ej'⟩ := List.mem_iff_getElem.mp hm
        have g2 := s3 j' (by omega) s' a4 (by rw [List.getD_eq_getElem?_getD, List.getElem?_eq_getElem hj']; show aB S 3 (aDs S (aHd S) 200)[j'] = _; rw [ej']; exact a3)
        rw [show s' = s by omega]
  | succ r ih =>
    intro n i x2 x4 hi hn hx2 hx4
    obtain ⟨n, rfl⟩ : ∃ m, n = m + 1 := ⟨n - 1, by omega⟩
    have hil : i < (aDs S (aHd S) 200).length := by omega
    have hm := pu_getD_mem hil
    have hxl := aDs_lt hm
    have hd := (aDs_in hh.2 hxl).mp hm
    obtain ⟨s0, hs0, es0⟩ := (hJ _ hxl).2.2.resolve_left hd
    rw [f_L_ordersAreSo_b28]
    refine e_f (nI_ge hil (by omega)) (e_b (hord i (by omega)) ?_)
    rw [if_pos hil, farE hh.2 hxl]
    have hfar : far (aHd S) ((aDs S (aHd S) 200).getD i 0) < 200 := Nat.mod_lt _ (by decide)
    refine e_f ?_ (e_b (q_rk hN hC hI hil) (e_t rfl (e_b (q_b4 hC hxl) ?_)))
    · rcases hx2 with ⟨-, e⟩ | ⟨hp, e⟩
      · rw [e, Int32.le_iff_toInt_le, nI_toInt (by omega), show ((-1 : Int32)).toInt = -1 from by decide]
        omega
      · rw [e]
        exact nI_ge (getD_pair hpw (by omega) hil) (by omega)
    rw [es0]
    have hnx2 : i + 1 = 0 ∧ nI (far (aHd S) ((aDs S (aHd S) 200).getD i 0)) = -1 ∨ 0 < i + 1 ∧ nI (far (aHd S) ((aDs S (aHd S) 200).getD i 0)) = nI (far (aHd S) ((aDs S (aHd S) 200).getD (i + 1 - 1) 0)) := Or.inr ⟨by omega, rfl⟩
    have new : (∀ j, j < i → ∀ u, u < 2 ^ 30 → aB S 3 ((aDs S (aHd S) 200).getD j 0) = nI u → s0 ≤ u) → f_L_ordersAreSo_b117 N (f_L_ordersAreSo_b28 N n) δ (nI (aHd S)) (nI (far (aHd S) ((aDs S (aHd S) 200).getD i 0))) (nI (aDs S (aHd S) 200).length) (nI i) (nI ((aDs S (aHd S) 200).getD i 0)) = some 1 := fun h => by
      unfold f_L_ordersAreSo_b117
      refine e_b (q_b4 hC hxl) ?_
      rw [es0, nI_1]
      refine ih n (i + 1) _ _ (by omega) (by omega) hnx2 (Or.inr ⟨s0, by omega, rfl, ⟨i, by omega, es0⟩, fun j hj u hu q => ?_⟩)
      by_cases ej : j = i
      · subst ej
        rw [es0] at q
        have := (nI_eq (by omega) (by omega)).mp q
        omega
      · exact h j (by omega) u hu q
    refine e_t (nI_pos' (by omega)) ?_
    rcases hx4 with ⟨i0, e⟩ | ⟨s, s1, s2, ⟨j, j1, j2⟩, s3⟩
    · exact e_t (by rw [e]; decide) (new (fun j hj => by omega))
    · rw [s2]
      refine e_f (nI_pos (by omega)) (e_b (q_b4 hC hxl) ?_)
      rw [es0]
      by_cases h9 : s ≤ s0
      · refine e_t (nI_le h9 (by omega)) ?_
        rw [nI_1]
        refine ih n (i + 1) _ _ (by omega) (by omega) hnx2 (Or.inr ⟨s, s1, rfl, ⟨j, by omega, j2⟩, fun j' hj' u hu q => ?_⟩)
        by_cases ej : j' = i
        · subst ej
          rw [es0] at q
          have := (nI_eq (by omega) (by omega)).mp q
          omega
        · exact s3 j' (by omega) u hu q
      · exact e_f (nI_ge (by omega) (by omega)) (new (fun j' hj' u hu q => by have := s3 j' hj' u hu q; omega))
theorem p_orders (hN : 1000 ≤ N) (hC : RepC δ.2.2.2.1 S E0) (hS : SI S w k t) (ht : t < 2 ^ 20) : f_L_ordersAreSo N δ = some 1 := by
  have hh := hS.1.1.2.2.2.2.1
  have hlen := aDs_len (S := S) hh.2
  have hd := dC_le S
  unfold f_L_ordersAreSo
  refine e_b (q_n hC (j := 13) (by decide)) (e_b (q_d hN hC) ?_)
  rw [hh.1, show aCt (isD S) 200 0 = (aDs S (aHd S) 200).length from hlen.symm]
  exact l_ord hN hC hS ht (aDs S (aHd S) 200).length N 0 (-1) (-1) (by omega) (by omega) (Or.inl ⟨rfl, rfl⟩) (Or.inl ⟨rfl, rfl⟩)
end SO
