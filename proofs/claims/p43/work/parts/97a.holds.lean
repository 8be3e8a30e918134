/-! holds() OF THE LAW -/
/-- the state of the law behind some steps -/
def Ky (T D : Nat) (δ : LwS) : Prop := ∃ k t, t ≤ T ∧ Nz k t D δ
theorem Ky.mono {T T' D D' : Nat} {δ : LwS} (h : Ky T D δ) (h1 : T ≤ T') (h2 : D ≤ D') : Ky T' D' δ := by
  obtain ⟨k, t, h3, U, n, v, d, bb, w, h4, h5⟩ := h
  exact ⟨k, t, Nat.le_trans h3 h1, U, n, v, d, bb, w, Nat.le_trans h4 h2, h5⟩
abbrev NL : Nat := 20000
section KY
variable {T D : Nat} {z : ZS} {δ : LwS}
theorem ky_acc (hz : z.2.1 ≤ 260) (h : Ky T D δ) (h1 : T < 2 ^ 16) (h2 : D < 2 ^ 16) : ∃ δ', f_L_accesses NL z δ = some (1, δ') ∧ Ky (T + 1) (D + 10) δ' := by
  obtain ⟨k, t, h3, U, n, v, d, bb, w, h4, h5, h6⟩ := h
  obtain ⟨⟨a, δ'⟩, q, ra, U', n', v', d', w', r1, r2, r3⟩ := p_acc (N := NL) (by decide) hz h5 h6 (by omega) (by omega)
  simp only at ra
  subst ra
  exact ⟨δ', q, k, t + 1, by omega, U', n', v', d', bb, w', by omega, r2, r3⟩
theorem ky_draw (hz : z.2.1 ≤ 260) (h : Ky T D δ) (h2 : D < 2 ^ 16) : ∃ x δ', f_L_draw z δ 6 = some (x, δ') ∧ Ky T (D + 1) δ' := by
  obtain ⟨k, t, h3, U, n, v, d, bb, w, h4, h5, h6⟩ := h
  obtain ⟨⟨a, δ'⟩, q, -, r2⟩ := q_draw (n := 6) hz h5.2.2.2.1 (by omega) (by decide) (by decide)
  simp only at r2
  subst r2
  exact ⟨a, _, q, k, t, h3, U, n, v, d + 1, bb, w, by omega, h5.draw, h6⟩
theorem ky_others (hz : z.2.1 ≤ 260) (h : Ky T D δ) (h1 : T < 2 ^ 16) (h2 : D < 2 ^ 16) : ∃ δ', f_L_others NL z δ = some (1, δ') ∧ Ky T (D + 6) δ' := by
  obtain ⟨k, t, h3, U, n, v, d, bb, w, h4, h5, h6⟩ := h
  obtain ⟨⟨a, δ'⟩, q, ra, U', n', v', d', bb', w', r1, r2⟩ := p_others (N := NL) (by decide) hz h5 h6 (by omega) (by omega)
  simp only at ra
  subst ra
  exact ⟨δ', q, k, t, h3, U', n', v', d', bb', w', by omega, r2⟩
theorem ky_fore {bs : Option Nat} {κ : CacS} (hz : z.2.1 ≤ 260) (h : Ky T D δ) (h1 : T < 2 ^ 16) (h2 : D < 2 ^ 16) : ∃ δ' κ', f_L_foretells NL bs z δ κ = some (1, δ', κ') ∧ Ky (T + 60) (D + 5) δ' := by
  obtain ⟨k, t, h3, U, n, v, d, bb, w, h4, h5, h6⟩ := h
  obtain ⟨⟨a, δ', κ'⟩, q, ra, t', rt, U', n', v', d', bb', w', r1, r2⟩ := p_foretells (N := NL) (bs := bs) (κ := κ) (by decide) hz h5 h6 (by omega) (by omega)
  simp only at ra
  subst ra
  exact ⟨δ', κ', q, k, t', by omega, U', n', v', d', bb', w', by omega, r2⟩
theorem ky_lists (hFl : FlOk) (h : Ky T D δ) (h1 : T < 2 ^ 16) : f_L_listsAreSo NL δ = some 1 := by
  obtain ⟨k, t, h3, U, n, v, d, bb, w, h4, h5, h6⟩ := h
  exact p_lists hFl (by decide) h5.1 h5.2.2.1 h6 (by omega)
theorem ky_orders (h : Ky T D δ) (h1 : T < 2 ^ 16) : f_L_ordersAreSo NL δ = some 1 := by
  obtain ⟨k, t, h3, U, n, v, d, bb, w, h4, h5, h6⟩ := h
  exact p_orders (by decide) h5.1 h6 (by omega)
theorem ky_sums (h : Ky T D δ) (h1 : T < 2 ^ 16) : f_L_sumsAreSo NL δ = some 1 := by
  obtain ⟨k, t, h3, U, n, v, d, bb, w, h4, h5, h6⟩ := h
  exact p_sums (by decide) h5.1 h6 (by omega)
/-- the end: all written back, no block differs -/
theorem ky_end (h : Ky T D δ) (h1 : T < 2 ^ 16) : ∃ x γ', f_L_shape NL δ.2 5 5 = some (nI x, γ') ∧ x < 2 ^ 30 ∧ f_L_count NL γ' 12 = some 0 ∧ f_X8_differing NL γ' = some 0 := by
  obtain ⟨k, t, h3, U, n, v, d, bb, w, h4, h5, h6⟩ := h
  obtain ⟨⟨a, γ'⟩, q, ra, hd⟩ := q_shape (N := NL) (u := 5) (l := 5) (by decide) h5 h6.1 (by decide) (by decide) (by decide) (by decide)
  simp only at ra hd
  subst ra
  obtain ⟨hJ, hD⟩ := JN_sh (u := nI 5) (l := nI 5) h6.2.2.2.2.1 h6.1
  have hI := Inv_sh (u := 5) (l := 5) (Inv_WB (most := 200) 200 0 U h6.1) (by decide) (by decide) (by decide) (by decide)
  have a0 := (h5.1.2.2.2.1 0 (by decide)).1
  have a1 := (h5.1.2.2.2.1 1 (by decide)).1
  have a2 := (h5.1.2.2.2.1 2 (by decide)).1
  refine ⟨_, γ', q, by omega, ?_, ?_⟩
  · refine (q_d (N := NL) (by decide) hd.1).trans ?_
    rw [show aCt (isD (aSh (aWB 200 200 0 U).2 (nI 5) (nI 5))) 200 0 = dC (aSh (aWB 200 200 0 U).2 (nI 5) (nI 5)) from rfl, hD]
    rfl
  · obtain ⟨m, m1, m2⟩ := q_dif (N := NL) (γ := γ') (by decide) hd.1 hJ
    rw [hD] at m2
    rw [m1, show m = 0 by omega]
    rfl
end KY
