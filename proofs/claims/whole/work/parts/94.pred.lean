/-! predictions -/
theorem m_copy01 {N : Nat} {μ : MdlS} (hN : 2000 ≤ N) : f_X9_copyM_0_1 N μ 0 0 = some (((va_up μ.1.1 1 (va_cpy (μ.1.1 0) (μ.1.1 1) 0 0 1384), μ.1.2), μ.2) : MdlS) := by
  unfold f_X9_copyM_0_1
  exact e_b (m_copy (N := N) (p := 0) (q := 0) (nf := 1384) (nt := 1384) hN (by omega) (by omega) (by decide) (by decide)) rfl
theorem m_copy10 {N : Nat} {μ : MdlS} (hN : 2000 ≤ N) : f_X9_copyM_1_0 N μ 0 0 = some (((va_up μ.1.1 0 (va_cpy (μ.1.1 1) (μ.1.1 0) 0 0 1384), μ.1.2), μ.2) : MdlS) := by
  unfold f_X9_copyM_1_0
  exact e_b (m_copy (N := N) (p := 0) (q := 0) (nf := 1384) (nt := 1384) hN (by omega) (by omega) (by decide) (by decide)) rfl
theorem cpy_00 {f g : Nat → Int32} {j : Nat} (h : j < 1384) : va_cpy f g 0 0 1384 j = f j := by
  have := cpy_in (f := f) (g := g) (p := 0) (q := 0) h
  rwa [Nat.zero_add] at this
/-- behind a prediction all stands as before, but the trial, the row aside and what was last demoted and lost -/
theorem top_pred {K L : Nat} {γ : GLS} {μ ν : MdlS} {σ : CacS} {κ : Nat → CacS} {ix : Nat → Option Nat} {nb : Nat} (h : TopK K γ μ κ ix nb) (hL : K ≤ L) (h0 : ∀ j, j < 1384 → ν.1.1 0 j = μ.1.1 0 j) (h1 : ∀ k, k ≠ 0 → k ≠ 1 → ν.1.1 k = μ.1.1 k) (h2 : ∀ k, k ≠ 6 → k ≠ 19 → k ≠ 20 → ν.1.2 k = μ.1.2 k) : TopK L (γ.1, γ.2.1, γ.2.2.1, σ, γ.2.2.2.2) ν κ ix nb := by
  obtain ⟨⟨S, hS⟩, hR⟩ := h
  refine ⟨⟨S, (hS.eqOn h0).mono hL⟩, (RestOk.tr (γ' := (γ.1, γ.2.1, γ.2.2.1, σ, γ.2.2.2.2)) hR ?_ rfl rfl (fun k k0 k1 _ => h1 k k0 k1) (fun k _ k6 k19 k20 => h2 k k6 k19 k20)).mono hL⟩
  rw [h1 2 (by decide) (by decide), h2 5 (by decide) (by decide) (by decide)]
  exact hR.1
theorem s_wouldBe {N K L : Nat} (hN : 20000 ≤ N) (hL : K ≤ L) : Sim_wouldBe N (TopK K) (TopK L) := by
  intro γ μ κ ix nb p0 p1 p2 h
  obtain ⟨⟨S, hS⟩, hR⟩ := id h
  obtain ⟨hI, hC, hM, hK⟩ := id hS
  have hT := h.mono hL
  obtain ⟨k, k1, k2, k3⟩ := id hI.1.2.2.2.1
  have e6 : μ.1.1 0 6 = nI k := (hM.1 6 (by omega)).trans k1
  rcases r_client (γ := γ) (hC.1.1.trans k1) k2 p0 with ⟨c, hc, rfl, e1, e2⟩ | ⟨e1, e2⟩
  · have e2 := e2 (oI μ.1 6 0, μ.2) e6
    have hc4 : c < 4 := by omega
    have hn : nI c < aN S 6 := by rw [k1]; exact nI_lt hc (by omega)
    rcases r_block p1 with ⟨b, hb, rfl, e3, e4⟩ | ⟨e3, e4⟩
    · rcases r_rangeN p2 6 (n := 6) rfl with ⟨j, hj, rfl, e5, e6'⟩ | ⟨e5, e6'⟩
      · obtain ⟨r, c1, c2, -⟩ := c_copy (N := N) (σ := γ.2.2.2.1) (by omega) hC hI.1.2.2.2.1
        obtain ⟨t, d1, d2, d3, d4, d5⟩ := c_access (N := N) (w := 0) (by omega) c2 hI hb hc4 hn
        have hi := Inv_acc (w := 0) hI hb hc4 hn
        have hw := acc_w0 (c := c) (w := 0) hI hb
        have mz := m_copy01 (N := N) (μ := (oI μ.1 6 0, μ.2)) (by omega)
        obtain ⟨z, hz⟩ : ∃ z : MdlS, z = ((va_up μ.1.1 1 (va_cpy (μ.1.1 0) (μ.1.1 1) 0 0 1384), va_up (va_up (va_up μ.1.2 6 0) 19 (-1)) 20 (-1)), μ.2) := ⟨_, rfl⟩
        have hMz : RepM (z.1.1 0) S (UA S) := by rw [hz]; exact hM
        have z19 : z.1.2 19 = -1 := by rw [hz]; rfl
        have z20 : z.1.2 20 = -1 := by rw [hz]; rfl
        obtain ⟨a, m1, m2⟩ := mok_e (f := fun μ => f_X9_access N μ (nI c) (nI b) (-1)) (m_read (μ := z) (by omega) hMz hI hb hc4 hn)
        rw [z19, z20] at m1
        rw [dm_eq] at d4
        rw [le_eq] at d5
        generalize aDm (aM4 S c b) b (aSc S c b) (-1) = d9 at m1 d4
        generalize aLe (aM4 S c b) b (aSc S c b) (-1) = e9 at m1 d5
        have mb := m_copy10 (N := N) (μ := mM z a d9 e9) (by omega)
        obtain ⟨y, hy⟩ : ∃ y : MdlS, y = ((va_up (mM z a d9 e9).1.1 0 (va_cpy ((mM z a d9 e9).1.1 1) ((mM z a d9 e9).1.1 0) 0 0 1384), (mM z a d9 e9).1.2), (mM z a d9 e9).2) := ⟨_, rfl⟩
        rw [← hy] at mb
        have y0 : ∀ j, j < 1384 → y.1.1 0 j = μ.1.1 0 j := fun j hj => by
          rw [hy]
          show va_up (mM z a d9 e9).1.1 0 (va_cpy ((mM z a d9 e9).1.1 1) ((mM z a d9 e9).1.1 0) 0 0 1384) 0 j = _
          rw [va_up_self, cpy_00 hj, hz]
          show va_cpy (μ.1.1 0) (μ.1.1 1) 0 0 1384 j = _
          exact cpy_00 hj
        have y1 : ∀ k, k ≠ 0 → k ≠ 1 → y.1.1 k = μ.1.1 k := fun k q0 q1 => by
          rw [hy]
          refine (va_up_ne (mM z a d9 e9).1.1 _ q0).trans ((va_up_ne z.1.1 _ q0).trans ?_)
          rw [hz]
          exact va_up_ne μ.1.1 _ q1
        have y2 : ∀ k, k ≠ 6 → k ≠ 19 → k ≠ 20 → y.1.2 k = μ.1.2 k := fun k q6 q19 q20 => by
          rw [hy]
          refine (va_up_ne (va_up z.1.2 19 d9) _ q20).trans ((va_up_ne z.1.2 _ q19).trans ?_)
          rw [hz]
          exact (va_up_ne (va_up (va_up μ.1.2 6 0) 19 (-1)) _ q20).trans ((va_up_ne (va_up μ.1.2 6 0) _ q19).trans (va_up_ne μ.1.2 _ q6))
        have y6 : y.1.2 6 = 0 := by rw [hy, hz]; rfl
        have fin : ∀ v q, f_X8_predictionOf (γ.1, γ.2.1, γ.2.2.1, t.2, γ.2.2.2.2) (nI b) t.1 (nI j) = some v → f_X9_answerAbout (mM z a d9 e9) (nI b) (nI j) = some q → (if nI j = 0 then if aB S 0 b = (-1) then some (2, y) else if aB S 0 b = 2 then some (1, y) else some (0, y) else if nI j = 1 then gd 22 1384 (some ((q - (y.1.1 0 (Int32.toNatClampNeg 22))), y)) else if nI j = 5 then gd 21 1384 (some ((q - (y.1.1 0 (Int32.toNatClampNeg 21))), y)) else some (q, y)) = some (v, y) → _ := fun v q h8 q1 q2 => by
          exact sa_r (T := fun g m => TopK L g m κ ix nb) (hk := fun k => k = 0 ∨ k = 1) (k1 := 0) (γ := γ) (v := v) (γ1 := (γ.1, γ.2.1, γ.2.2.1, t.2, γ.2.2.2.2)) (μ1 := y) (x8 := f_X8_wouldBe N γ (nI c) (nI b) (nI j)) (x9 := f_X9_wouldBe N μ (nI c) (nI b) (nI j)) (e_x e1 (e_x e3 (e_x e5 (e_b c1 (e_l (e_b d1 (e_l (e_b h8 rfl)))))))) (e_l (e_b e2 (e_f (by decide) (e_b e4 (e_f (by decide) (e_b e6' (e_f (by decide) (e_b (n_of (μ := (oI μ.1 6 0, μ.2)) hM b 0 hb (by decide) (Or.inl rfl)) (e_b mz (e_l (e_l (e_b (a := mM z a d9 e9) (by rw [hz] at m1; rw [hz]; exact m1) (e_b q1 (e_b mb q2)))))))))))))) y6 (top_pred h hL y0 y1 y2)
        have n22 : y.1.1 0 (Int32.toNatClampNeg 22) = aN S 22 := (y0 22 (by decide)).trans (hM.1 22 (by omega))
        have n21 : y.1.1 0 (Int32.toNatClampNeg 21) = aN S 21 := (y0 21 (by decide)).trans (hM.1 21 (by omega))
        have a22 : a 22 = aN (aAcc S c b 0) 22 := m2.1 22 (by omega)
        have a21 : a 21 = aN (aAcc S c b 0) 21 := m2.1 21 (by omega)
        have a4 : a 4 = aN (aAcc S c b 0) 4 := m2.1 4 (by omega)
        have t22 : (t.2 2).2 8 = aN (aAcc S c b 0) 22 := d3.2.2.1.2.2.2.2.2.2.2.2
        have t21 : (t.2 1).2 7 = aN (aAcc S c b 0) 21 := d3.2.1.2.1
        have t4 : (t.2 0).2 14 = aN (aAcc S c b 0) 4 := d3.1.2.2.2.2.2
        have s22 : (γ.2.2.1 2).2 8 = aN S 22 := hC.2.2.1.2.2.2.2.2.2.2.2
        have s21 : (γ.2.2.1 1).2 7 = aN S 21 := hC.2.1.2.1
        rcases (show j = 0 ∨ j = 1 ∨ j = 2 ∨ j = 3 ∨ j = 4 ∨ j = 5 ∨ j = 6 by omega) with rfl | rfl | rfl | rfl | rfl | rfl | rfl
        · refine fin (nI (aK S b)) (a 4) (e_t rfl (by rw [d2])) rfl (e_t rfl ?_)
          unfold aK
          by_cases c1 : aB S 0 b = -1
          · exact e_t c1 (by rw [if_pos c1]; rfl)
          · by_cases c2 : aB S 0 b = 2
            · exact e_f c1 (e_t c2 (by rw [if_neg c1, if_pos c2]; rfl))
            · exact e_f c1 (e_f c2 (by rw [if_neg c1, if_neg c2]; rfl))
        · refine fin (aN (aAcc S c b 0) 22 - aN S 22) (a 22) (e_f (by decide) (e_t rfl ?_)) rfl (e_f (by decide) (e_t rfl (e_g 22 rfl (by decide) (by decide) ?_)))
          · show some ((t.2 2).2 8 - (γ.2.2.1 2).2 8) = _
            rw [t22, s22]
          · rw [n22, a22]
        · exact fin (aB (aAcc S c b 0) 0 b) (aB (aAcc S c b 0) 0 b) (e_f (by decide) (e_f (by decide) (e_t rfl (e_b (p0_listOf d3.2.1 (fun q => q) hb) rfl)))) (e_f (by decide) (e_t rfl (e_b (m_of m2 b 0 hb (by decide) (Or.inl rfl)) rfl))) (e_f (by decide) (e_f (by decide) (e_f (by decide) rfl)))
        · refine fin d9 d9 (e_f (by decide) (e_f (by decide) (e_f (by decide) (e_t rfl ?_)))) rfl (e_f (by decide) (e_f (by decide) (e_f (by decide) rfl)))
          show some ((t.2 2).2 9) = _
          rw [d4]
        · refine fin e9 e9 (e_f (by decide) (e_f (by decide) (e_f (by decide) (e_f (by decide) (e_t rfl ?_))))) rfl (e_f (by decide) (e_f (by decide) (e_f (by decide) rfl)))
          show some ((t.2 2).2 10) = _
          rw [d5]
        · refine fin (aN (aAcc S c b 0) 21 - aN S 21) (a 21) (e_f (by decide) (e_f (by decide) (e_f (by decide) (e_f (by decide) (e_f (by decide) (e_t rfl ?_)))))) rfl (e_f (by decide) (e_f (by decide) (e_t rfl (e_g 21 rfl (by decide) (by decide) ?_))))
          · show some ((t.2 1).2 7 - (γ.2.2.1 1).2 7) = _
            rw [t21, s21]
          · rw [n21, a21]
        · refine fin (aN (aAcc S c b 0) 4) (a 4) (e_f (by decide) (e_f (by decide) (e_f (by decide) (e_f (by decide) (e_f (by decide) (e_f (by decide) ?_)))))) rfl (e_f (by decide) (e_f (by decide) (e_f (by decide) ?_)))
          · show some ((t.2 0).2 14) = _
            rw [t4]
          · rw [a4]
      · exact sa_l (T := fun g m => TopK L g m κ ix nb) (γ := γ) (k := 1) (b := 0) (μ1 := (oI (oI μ.1 6 0) 6 2, μ.2)) (e_x e1 (e_x e3 (e_xl e5))) (Or.inr rfl) (e_l (e_b e2 (e_f (by decide) (e_b e4 (e_f (by decide) (e_b e6' (e_t rfl rfl))))))) rfl ((hT.t6 0).t6 2)
    · exact sa_l (T := fun g m => TopK L g m κ ix nb) (γ := γ) (k := 1) (b := 0) (μ1 := (oI (oI μ.1 6 0) 6 2, μ.2)) (e_x e1 (e_xl e3)) (Or.inr rfl) (e_l (e_b e2 (e_f (by decide) (e_b e4 (e_t rfl rfl))))) rfl ((hT.t6 0).t6 2)
  · exact sa_l (T := fun g m => TopK L g m κ ix nb) (γ := γ) (k := 0) (b := 0) (μ1 := (oI (oI μ.1 6 0) 6 1, μ.2)) (e_xl e1) (Or.inl rfl) (e_l (e_b (e2 (oI μ.1 6 0, μ.2) e6) (e_t rfl rfl))) rfl ((hT.t6 0).t6 1)
/-- a trial on both sides: what it holds, and its hits -/
def AR (S0 : AS) (μ0 : MdlS) (σ : CacS) (ν : MdlS) (u w : Nat) : Prop := ∃ S, Inv S ∧ RepC σ S E0 ∧ RepM (ν.1.1 0) S (UA S) ∧ aN S 6 = aN S0 6 ∧ aN S 14 = nI u ∧ aN S 15 = nI w ∧ (∀ k, k ≠ 0 → ν.1.1 k = μ0.1.1 k) ∧ (∀ k, k ≠ 19 → k ≠ 20 → ν.1.2 k = μ0.1.2 k)
theorem aN6_acc {S : AS} {c b : Nat} {w : Int32} : aN (aAcc S c b w) 6 = aN S 6 := by
  show aN (aMd (aS2 S c b w) b (aSc S c b)) 6 = _
  rw [aN_md (by decide) (by decide) (by decide) (by decide) (by decide) (by decide) (by decide), aN_s2 (by decide) (by decide) (Or.inl (by decide))]
theorem AR_acc {N c b u w : Nat} {S0 : AS} {μ0 ν : MdlS} {σ : CacS} (hN : 1000 ≤ N) (h : AR S0 μ0 σ ν u w) (hc : c < 4) (hn : nI c < aN S0 6) (hb : b < 200) : ∃ (t : Int32 × CacS) (ν' : MdlS) (u' w' : Nat), f_X1_access N σ (nI c) (nI b) 0 = some t ∧ f_X9_access N ν (nI c) (nI b) (-1) = some ν' ∧ AR S0 μ0 t.2 ν' u' w' ∧ u ≤ u' ∧ w ≤ w' ∧ u' + w' ≤ u + w + 1 := by
  obtain ⟨S, hI, hC, hM, h6, h14, h15, hr, hi⟩ := h
  have hn' : nI c < aN S 6 := by rw [h6]; exact hn
  obtain ⟨t, d1, d2, d3, -, -⟩ := c_access (N := N) (w := 0) (by omega) hC hI hb hc hn'
  obtain ⟨a, m1, m2⟩ := mok_e (f := fun μ => f_X9_access N μ (nI c) (nI b) (-1)) (m_read (μ := ν) (by omega) hM hI hb hc hn')
  have hk := aK_lt S b
  have mk : ∀ u' w', aN (aAcc S c b 0) 14 = nI u' → aN (aAcc S c b 0) 15 = nI w' → AR S0 μ0 t.2 (mM ν a (aDm (aM4 S c b) b (aSc S c b) (ν.1.2 19)) (aLe (aM4 S c b) b (aSc S c b) (ν.1.2 20))) u' w' := fun u' w' q14 q15 => ⟨_, Inv_acc (w := 0) hI hb hc hn', d3, m2, aN6_acc.trans h6, q14, q15, fun k k0 => (va_up_ne ν.1.1 _ k0).trans (hr k k0), fun k k19 k20 => (va_up_ne (va_up ν.1.2 19 _) _ k20).trans ((va_up_ne ν.1.2 _ k19).trans (hi k k19 k20))⟩
  have q14 := aN_acc (S := S) (c := c) (b := b) (w := 0) (j := 14) (Or.inl rfl)
  have q15 := aN_acc (S := S) (c := c) (b := b) (w := 0) (j := 15) (Or.inr rfl)
  by_cases c0 : aK S b = 0
  · rw [c0, if_pos rfl, h14, nI_1] at q14
    rw [c0, if_neg (by decide), h15] at q15
    exact ⟨t, _, u + 1, w, d1, m1, mk _ _ q14 q15, by omega, by omega, by omega⟩
  · by_cases c1 : aK S b = 1
    · rw [c1, if_neg (by decide), h14] at q14
      rw [c1, if_pos rfl, h15, nI_1] at q15
      exact ⟨t, _, u, w + 1, d1, m1, mk _ _ q14 q15, by omega, by omega, by omega⟩
    · rw [if_neg (by omega), h14] at q14
      rw [if_neg (by omega), h15] at q15
      exact ⟨t, _, u, w, d1, m1, mk _ _ q14 q15, by omega, by omega, by omega⟩
theorem l_row {N c f m : Nat} {S0 : AS} {μ0 : MdlS} {γ : GLS} {x4 : Int32} {k23 : GLS → Int32 → Int32 → Int32 → Int32 → Int32 → Option GLS} {k3 : MdlS → Int32 → Int32 → Int32 → Int32 → Int32 → Option MdlS} (hN : 1000 ≤ N) (hc : c < 4) (hn : nI c < aN S0 6) (hf : f + m ≤ 200) : ∀ r n n' s (σ : CacS) (ν : MdlS) u w (x6 : Int32), s + r = m → r < n → r < n' → AR S0 μ0 σ ν u w → ∃ (σ' : CacS) (ν' : MdlS) (u' w' : Nat), f_X8_readAhead_b33 N k23 n (γ.1, γ.2.1, γ.2.2.1, σ, γ.2.2.2.2) (nI c) (nI f) (nI m) x4 x6 (nI s) = k23 (γ.1, γ.2.1, γ.2.2.1, σ', γ.2.2.2.2) (nI c) (nI f) (nI m) x4 (x6 + 1) ∧ f_X9_readAll_b13 N k3 n' ν (nI c) (nI f) (nI m) x4 x6 (nI (f + s)) = k3 ν' (nI c) (nI f) (nI m) x4 (x6 + 1) ∧ AR S0 μ0 σ' ν' u' w' ∧ u ≤ u' ∧ w ≤ w' ∧ u' + w' ≤ u + w + r := by
  intro r
  induction r with
  | zero =>
    intro n n' s σ ν u w x6 hs hn2 hn3 hA
    obtain ⟨n, rfl⟩ : ∃ j, n = j + 1 := ⟨n - 1, by omega⟩
    obtain ⟨n', rfl⟩ : ∃ j, n' = j + 1 := ⟨n' - 1, by omega⟩
    refine ⟨σ, ν, u, w, ?_, ?_, hA, Nat.le_refl _, Nat.le_refl _, by omega⟩
    · rw [f_X8_readAhead_b33, if_pos (nI_le (by omega) (by omega))]
    · rw [f_X9_readAll_b13, nI_add, if_pos (nI_le (by omega) (by omega))]
  | succ r ih =>
    intro n n' s σ ν u w x6 hs hn2 hn3 hA
    obtain ⟨n, rfl⟩ : ∃ j, n = j + 1 := ⟨n - 1, by omega⟩
    obtain ⟨n', rfl⟩ : ∃ j, n' = j + 1 := ⟨n' - 1, by omega⟩
    obtain ⟨t, ν1, u1, w1, a1, a2, a3, a4, a5, a6⟩ := AR_acc hN hA hc hn (show f + s < 200 by omega)
    obtain ⟨σ', ν', u', w', i1, i2, i3, i4, i5, i6⟩ := ih n n' (s + 1) t.2 ν1 u1 w1 x6 (by omega) (by omega) (by omega) a3
    refine ⟨σ', ν', u', w', ?_, ?_, i3, by omega, by omega, by omega⟩
    · rw [f_X8_readAhead_b33]
      refine e_f (nI_ge (by omega) (by omega)) (e_b (a := t) (by rw [nI_add]; exact a1) (e_l ?_))
      rw [nI_1]
      exact i1
    · rw [f_X9_readAll_b13, nI_add]
      refine e_f (nI_ge (by omega) (by omega)) (e_b a2 ?_)
      rw [nI_1]
      exact i2
theorem l_all {N c f m R : Nat} {S0 : AS} {μ0 : MdlS} {γ : GLS} (hN : 1000 ≤ N) (hc : c < 4) (hn : nI c < aN S0 6) (hf : f + m ≤ 200) (hR : R ≤ 4) : ∀ r n n' q (σ : CacS) (ν : MdlS) u w, q + r = R → r < n → r < n' → AR S0 μ0 σ ν u w → ∃ (σ' : CacS) (ν' : MdlS) (u' w' : Nat), f_X8_readAhead_b23 N n (γ.1, γ.2.1, γ.2.2.1, σ, γ.2.2.2.2) (nI c) (nI f) (nI m) (nI R) (nI q) = some (γ.1, γ.2.1, γ.2.2.1, σ', γ.2.2.2.2) ∧ f_X9_readAll_b3 N n' ν (nI c) (nI f) (nI m) (nI R) (nI q) = some ν' ∧ AR S0 μ0 σ' ν' u' w' ∧ u ≤ u' ∧ w ≤ w' ∧ u' + w' ≤ u + w + 200 * r := by
  intro r
  induction r with
  | zero =>
    intro n n' q σ ν u w hq hn2 hn3 hA
    obtain ⟨n, rfl⟩ : ∃ j, n = j + 1 := ⟨n - 1, by omega⟩
    obtain ⟨n', rfl⟩ : ∃ j, n' = j + 1 := ⟨n' - 1, by omega⟩
    refine ⟨σ, ν, u, w, ?_, ?_, hA, Nat.le_refl _, Nat.le_refl _, by omega⟩
    · rw [f_X8_readAhead_b23, if_pos (nI_le (by omega) (by omega))]
    · rw [f_X9_readAll_b3, if_pos (nI_le (by omega) (by omega))]
  | succ r ih =>
    intro n n' q σ ν u w hq hn2 hn3 hA
    obtain ⟨n, rfl⟩ : ∃ j, n = j + 1 := ⟨n - 1, by omega⟩
    obtain ⟨n', rfl⟩ : ∃ j, n' = j + 1 := ⟨n' - 1, by omega⟩
    obtain ⟨σ1, ν1, u1, w1, a1, a2, a3, a4, a5, a6⟩ := l_row (γ := γ) (x4 := nI R) (k23 := f_X8_readAhead_b23 N n) (k3 := f_X9_readAll_b3 N n') hN hc hn hf m N N 0 σ ν u w (nI q) (by omega) (by omega) (by omega) hA
    obtain ⟨σ', ν', u', w', i1, i2, i3, i4, i5, i6⟩ := ih n n' (q + 1) σ1 ν1 u1 w1 (by omega) (by omega) (by omega) a3
    refine ⟨σ', ν', u', w', ?_, ?_, i3, by omega, by omega, by omega⟩
    · rw [f_X8_readAhead_b23]
      refine e_f (nI_ge (by omega) (by omega)) (a1.trans ?_)
      rw [nI_1]
      exact i1
    · rw [f_X9_readAll_b3]
      refine e_f (nI_ge (by omega) (by omega)) (a2.trans ?_)
      rw [nI_1]
      exact i2
def xPlan (p1 p2 p3 : Int32) : Option (Nat ⊕ Unit) := xb (f_X8_needRange p1 0 199) fun r4 => xb (f_X8_needRange p2 1 (if (200 - p1) < 40 then (200 - p1) else 40)) fun r7 => xb (f_X8_needRange p3 1 4) fun r10 => some (.inr ())
theorem r_plan (p1 p2 p3 : Int32) : (∃ f m R, f < 200 ∧ 1 ≤ m ∧ m ≤ 40 ∧ f + m ≤ 200 ∧ R ≤ 4 ∧ p1 = nI f ∧ p2 = nI m ∧ p3 = nI R ∧ xPlan p1 p2 p3 = some (.inr ()) ∧ f_X9_isPlan p1 p2 p3 = some 1) ∨ (xPlan p1 p2 p3 = some (.inl 1) ∧ f_X9_isPlan p1 p2 p3 = some 0) := by
  rcases r_block p1 with ⟨f, hf, rfl, e1, e2⟩ | ⟨e1, e2⟩
  · have em : (if (200 - nI f) < 40 then (200 - nI f) else (40 : Int32)) = nI (min (200 - f) 40) := by
      rw [show (200 : Int32) - nI f = nI (200 - f) from pk_sub (a := 200) (by omega)]
      by_cases c : 200 - f < 40
      · rw [if_pos (show nI (200 - f) < 40 from nI_lt (b := 40) c (by decide)), Nat.min_eq_left (by omega)]
      · rw [if_neg (show ¬ nI (200 - f) < 40 from nI_nlt (b := 40) (by omega) (by omega)), Nat.min_eq_right (by omega)]
        rfl
    by_cases c1 : p2 < 1
    · exact Or.inr ⟨e_x e1 (e_xl (e_t c1 rfl)), e_b e2 (e_f (by decide) (e_b (a := 0) (e_t c1 rfl) (e_t rfl rfl)))⟩
    · obtain ⟨m, hm, rfl⟩ := nI_of (x := p2) (fun q => c1 (Int32.lt_trans q (by decide)))
      have m1 : 1 ≤ m := by
        by_cases c : m < 1
        · exact absurd (show nI m < 1 from nI_lt (b := 1) c (by decide)) c1
        · omega
      by_cases c2 : m ≤ 40
      · by_cases c3 : f + m ≤ 200
        · have q2 : f_X8_needRange (nI m) 1 (if (200 - nI f) < 40 then (200 - nI f) else 40) = some (.inr ()) := by
            rw [em]
            exact e_f c1 (e_t (nI_le (by omega) (by omega)) rfl)
          have w2 : f_X9_isBetween (nI m) 1 40 = some 1 := e_f c1 (e_f (show ¬ (40 : Int32) < nI m from nI_nlt (a := 40) (by omega) (by decide)) rfl)
          have w3 : ¬ (200 : Int32) < nI f + nI m := by rw [nI_add]; exact nI_nlt (a := 200) (by omega) (by decide)
          rcases r_range p3 1 4 with ⟨h1, h2, e3, e4⟩ | ⟨e3, e4⟩
          · obtain ⟨R, hR, rfl⟩ := nI_of2 (M := 4) (n := 4) (x := p3) rfl (fun q => h1 (Int32.lt_trans q (by decide))) h2
            exact Or.inl ⟨f, m, R, hf, m1, c2, c3, hR, rfl, rfl, rfl, e_x e1 (e_x q2 (e_x e3 rfl)), e_b e2 (e_f (by decide) (e_b w2 (e_f (by decide) (e_f w3 (e_b e4 (e_f (by decide) rfl))))))⟩
          · exact Or.inr ⟨e_x e1 (e_x q2 (e_xl e3)), e_b e2 (e_f (by decide) (e_b w2 (e_f (by decide) (e_f w3 (e_b e4 (e_t rfl rfl))))))⟩
        · have q2 : f_X8_needRange (nI m) 1 (if (200 - nI f) < 40 then (200 - nI f) else 40) = some (.inl 1) := by
            rw [em]
            exact e_f c1 (e_f (nI_ge (by omega) (by omega)) rfl)
          have w2 : f_X9_isBetween (nI m) 1 40 = some 1 := e_f c1 (e_f (show ¬ (40 : Int32) < nI m from nI_nlt (a := 40) (by omega) (by decide)) rfl)
          have w3 : (200 : Int32) < nI f + nI m := by rw [nI_add]; exact nI_lt (a := 200) (by omega) (by omega)
          exact Or.inr ⟨e_x e1 (e_xl q2), e_b e2 (e_f (by decide) (e_b w2 (e_f (by decide) (e_t w3 rfl))))⟩
      · have q2 : f_X8_needRange (nI m) 1 (if (200 - nI f) < 40 then (200 - nI f) else 40) = some (.inl 1) := by
          rw [em]
          exact e_f c1 (e_f (nI_ge (by omega) (by omega)) rfl)
        have w2 : f_X9_isBetween (nI m) 1 40 = some 0 := e_f c1 (e_t (show (40 : Int32) < nI m from nI_lt (a := 40) (by omega) (by omega)) rfl)
        exact Or.inr ⟨e_x e1 (e_xl q2), e_b e2 (e_f (by decide) (e_b w2 (e_t rfl rfl)))⟩
  · exact Or.inr ⟨e_xl e1, e_b e2 (e_t rfl rfl)⟩
/-- a trial's start: the class copies, the model keeps a copy aside -/
theorem s_ahead {N K L : Nat} (hN : 20000 ≤ N) (hL : K ≤ L) : Sim_ahead N (TopK K) (TopK L) := by
  intro γ μ κ ix nb p0 p1 p2 p3 p4 h
  obtain ⟨⟨S, hS⟩, hR⟩ := id h
  obtain ⟨hI, hC, hM, hK⟩ := id hS
  have hT := h.mono hL
  obtain ⟨k, k1, k2, k3⟩ := id hI.1.2.2.2.1
  have e6 : μ.1.1 0 6 = nI k := (hM.1 6 (by omega)).trans k1
  rcases r_client (γ := γ) (hC.1.1.trans k1) k2 p0 with ⟨c, hc, rfl, e1, e2⟩ | ⟨e1, e2⟩
  · have e2 := e2 (oI μ.1 6 0, μ.2) e6
    have hc4 : c < 4 := by omega
    have hn : nI c < aN S 6 := by rw [k1]; exact nI_lt hc (by omega)
    rcases r_plan p1 p2 p3 with ⟨f, m, R, hf, hm1, hm, hfm, hRR, rfl, rfl, rfl, e3, e4⟩ | ⟨e3, e4⟩
    · rcases r_rangeN p4 6 (n := 6) rfl with ⟨j, hj, rfl, e5, e6'⟩ | ⟨e5, e6'⟩
      · obtain ⟨r, c1, c2, -⟩ := c_copy (N := N) (σ := γ.2.2.2.1) (by omega) hC hI.1.2.2.2.1
        have mz := m_copy01 (N := N) (μ := (oI μ.1 6 0, μ.2)) (by omega)
        obtain ⟨z, hz⟩ : ∃ z : MdlS, z = ((va_up μ.1.1 1 (va_cpy (μ.1.1 0) (μ.1.1 1) 0 0 1384), va_up μ.1.2 6 0), μ.2) := ⟨_, rfl⟩
        have hMz : RepM (z.1.1 0) S (UA S) := by rw [hz]; exact hM
        obtain ⟨u, w, hu, hw, huw⟩ := id hK
        have hc2 : RepC (va_up r 0 (oI (r 0) 10 (aN S 0))) S E0 := by
          have := c2.o10 (aN S 0)
          rwa [uN_id (S := S) (k := 0) (v := aN S 0) rfl] at this
        have hA : AR S z (va_up r 0 (oI (r 0) 10 (aN S 0))) z u w := ⟨S, hI, hc2, hMz, rfl, hu, hw, fun _ _ => rfl, fun _ _ _ => rfl⟩
        obtain ⟨σ', ν', u', w', i1, i2, ⟨T, t1, t2, t3, t4, t5, t6, t7, t8⟩, -, -, -⟩ := l_all (N := N) (γ := γ) (by omega) hc4 hn hfm hRR R N N 0 _ z u w (by omega) (by omega) (by omega) hA
        have e10 : (γ.2.2.1 0).2 10 = aN S 0 := hC.1.2.1
        have h8 : f_X8_readAhead N γ (nI c) (nI f) (nI m) (nI R) ((γ.2.2.1 0).2 10) = some (γ.1, γ.2.1, γ.2.2.1, σ', γ.2.2.2.2) := by
          rw [e10]
          exact e_b c1 (e_l (e_l i1))
        have mb := m_copy10 (N := N) (μ := ν') (by omega)
        obtain ⟨y, hy⟩ : ∃ y : MdlS, y = ((va_up ν'.1.1 0 (va_cpy (ν'.1.1 1) (ν'.1.1 0) 0 0 1384), ν'.1.2), ν'.2) := ⟨_, rfl⟩
        rw [← hy] at mb
        have z1 : z.1.1 1 = va_cpy (μ.1.1 0) (μ.1.1 1) 0 0 1384 := by rw [hz]; exact va_up_self μ.1.1 1 _
        have y0 : ∀ j, j < 1384 → y.1.1 0 j = μ.1.1 0 j := fun j hj => by
          rw [hy]
          show va_up ν'.1.1 0 (va_cpy (ν'.1.1 1) (ν'.1.1 0) 0 0 1384) 0 j = _
          rw [va_up_self, cpy_00 hj, t7 1 (by decide), z1, cpy_00 hj]
        have y1 : ∀ k, k ≠ 0 → k ≠ 1 → y.1.1 k = μ.1.1 k := fun k q0 q1 => by
          rw [hy]
          refine (va_up_ne ν'.1.1 _ q0).trans ((t7 k q0).trans ?_)
          rw [hz]
          exact va_up_ne μ.1.1 _ q1
        have y2 : ∀ k, k ≠ 6 → k ≠ 19 → k ≠ 20 → y.1.2 k = μ.1.2 k := fun k q6 q19 q20 => by
          rw [hy]
          refine (t8 k q19 q20).trans ?_
          rw [hz]
          exact va_up_ne μ.1.2 _ q6
        have y6 : y.1.2 6 = 0 := by rw [hy]; refine (t8 6 (by decide) (by decide)).trans ?_; rw [hz]; exact va_up_self μ.1.2 6 0
        have fin : ∀ v (q : Nat), q < 1384 → f_X8_differenceAhead (γ.1, γ.2.1, γ.2.2.1, σ', γ.2.2.2.2) (nI j) = some v → f_X9_numberFor (nI j) = some (nI q) → (if nI j = 5 then some (ν'.1.1 0 q, y) else some (ν'.1.1 0 q - y.1.1 0 q, y)) = some (v, y) → _ := fun v q hq a8 a9 a10 => by
          refine sa_r (T := fun g m => TopK L g m κ ix nb) (hk := fun k => k = 0 ∨ k = 1) (k1 := 0) (γ := γ) (v := v) (γ1 := (γ.1, γ.2.1, γ.2.2.1, σ', γ.2.2.2.2)) (μ1 := y) (x8 := f_X8_ahead N γ (nI c) (nI f) (nI m) (nI R) (nI j)) (x9 := f_X9_ahead N μ (nI c) (nI f) (nI m) (nI R) (nI j)) (e_x (a := ()) (e_x e1 e3) (e_x e5 (e_b h8 (e_b a8 rfl)))) (e_l (e_b e2 (e_f (by decide) (e_b e4 (e_f (by decide) (e_b e6' (e_f (by decide) (e_b mz (e_b (a := ν') (by rw [hz] at i2; exact i2) (e_b a9 (e_g q rfl hq (by decide) (e_b mb ?_)))))))))))) y6 (top_pred h hL y0 y1 y2)
          rw [nI_clamp (by omega)]
          by_cases c5 : nI j = 5
          · rw [if_pos c5] at a10 ⊢
            exact a10
          · rw [if_neg c5] at a10 ⊢
            refine e_b a9 (e_g q rfl hq (by decide) ?_)
            rw [nI_clamp (by omega)]
            exact a10
        have nn : ∀ q, q < 7 ∨ 13 ≤ q ∧ q < 23 → ν'.1.1 0 q = aN T q ∧ y.1.1 0 q = aN S q := fun q hq => ⟨t3.1 q hq, (y0 q (by omega)).trans (hM.1 q hq)⟩
        obtain ⟨-, T1, T2, T3, -, -, T6, -, T8⟩ := t2.2.2.1
        obtain ⟨-, S1, S2, S3, -, -, S6, -, S8⟩ := hC.2.2.1
        have T21 : (σ' 1).2 7 = aN T 21 := t2.2.1.2.1
        have S21 : (γ.2.2.1 1).2 7 = aN S 21 := hC.2.1.2.1
        have T4 : (σ' 0).2 14 = aN T 4 := t2.1.2.2.2.2.2
        have dif : ∀ q, q < 7 ∨ 13 ≤ q ∧ q < 23 → nI j ≠ 5 → (if nI j = 5 then some (ν'.1.1 0 q, y) else some (ν'.1.1 0 q - y.1.1 0 q, y)) = some (aN T q - aN S q, y) := fun q hq c5 => by
          rw [if_neg c5, (nn q hq).1, (nn q hq).2]
        rcases (show j = 0 ∨ j = 1 ∨ j = 2 ∨ j = 3 ∨ j = 4 ∨ j = 5 ∨ j = 6 by omega) with rfl | rfl | rfl | rfl | rfl | rfl | rfl
        · refine fin (aN T 14 - aN S 14) 14 (by decide) (e_t rfl ?_) rfl (dif 14 (by decide) (by decide))
          show some ((σ' 2).2 1 - (γ.2.2.1 2).2 1) = _
          rw [T1, S1]
        · refine fin (aN T 15 - aN S 15) 15 (by decide) (e_f (by decide) (e_t rfl ?_)) rfl (dif 15 (by decide) (by decide))
          show some ((σ' 2).2 2 - (γ.2.2.1 2).2 2) = _
          rw [T2, S2]
        · refine fin (aN T 16 - aN S 16) 16 (by decide) (e_f (by decide) (e_f (by decide) (e_t rfl ?_))) rfl (dif 16 (by decide) (by decide))
          show some ((σ' 2).2 3 - (γ.2.2.1 2).2 3) = _
          rw [T3, S3]
        · refine fin (aN T 19 - aN S 19) 19 (by decide) (e_f (by decide) (e_f (by decide) (e_f (by decide) (e_t rfl ?_)))) rfl (dif 19 (by decide) (by decide))
          show some ((σ' 2).2 6 - (γ.2.2.1 2).2 6) = _
          rw [T6, S6]
        · refine fin (aN T 21 - aN S 21) 21 (by decide) (e_f (by decide) (e_f (by decide) (e_f (by decide) (e_f (by decide) (e_t rfl ?_))))) rfl (dif 21 (by decide) (by decide))
          show some ((σ' 1).2 7 - (γ.2.2.1 1).2 7) = _
          rw [T21, S21]
        · refine fin (aN T 4) 4 (by decide) (e_f (by decide) (e_f (by decide) (e_f (by decide) (e_f (by decide) (e_f (by decide) (e_t rfl ?_)))))) rfl (e_t rfl ?_)
          · show some ((σ' 0).2 14) = _
            rw [T4]
          · rw [(nn 4 (by decide)).1]
        · refine fin (aN T 22 - aN S 22) 22 (by decide) (e_f (by decide) (e_f (by decide) (e_f (by decide) (e_f (by decide) (e_f (by decide) (e_f (by decide) ?_)))))) rfl (dif 22 (by decide) (by decide))
          show some ((σ' 2).2 8 - (γ.2.2.1 2).2 8) = _
          rw [T8, S8]
      · exact sa_l (T := fun g m => TopK L g m κ ix nb) (γ := γ) (k := 1) (b := 0) (μ1 := (oI (oI μ.1 6 0) 6 2, μ.2)) (e_x (a := ()) (e_x e1 e3) (e_xl e5)) (Or.inr rfl) (e_l (e_b e2 (e_f (by decide) (e_b e4 (e_f (by decide) (e_b e6' (e_t rfl rfl))))))) rfl ((hT.t6 0).t6 2)
    · exact sa_l (T := fun g m => TopK L g m κ ix nb) (γ := γ) (k := 1) (b := 0) (μ1 := (oI (oI μ.1 6 0) 6 2, μ.2)) (e_xl (e_x e1 e3)) (Or.inr rfl) (e_l (e_b e2 (e_f (by decide) (e_b e4 (e_t rfl rfl))))) rfl ((hT.t6 0).t6 2)
  · exact sa_l (T := fun g m => TopK L g m κ ix nb) (γ := γ) (k := 0) (b := 0) (μ1 := (oI (oI μ.1 6 0) 6 1, μ.2)) (e_xl (e_xl e1)) (Or.inl rfl) (e_l (e_b (e2 (oI μ.1 6 0, μ.2) e6) (e_t rfl rfl))) rfl ((hT.t6 0).t6 1)
