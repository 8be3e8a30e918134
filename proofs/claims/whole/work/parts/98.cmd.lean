/-! THE TRACE: a command read, all commands read -/
section PP
variable {N n k : Nat} {t : Nat → Nat} {τ : ObjS} {ν : MdlS}
theorem pn_e {lo hi : Int32} (h : ν.1.2 16 ≠ 0) : ∃ y, f_X9_parseNumber N ν lo hi = some (y, ν) := by
  have bt : ∀ q : Int32, ∃ r, f_X9_isBetween q lo hi = some r := fun q => by
    unfold f_X9_isBetween
    split
    · exact ⟨_, rfl⟩
    · split <;> exact ⟨_, rfl⟩
  obtain ⟨r, hr⟩ := bt (ν.1.2 15)
  refine ⟨ν.1.2 15, ?_⟩
  unfold f_X9_parseNumber
  by_cases c : ν.1.2 13 = 3
  · exact e_t c (e_b (rq_e h) (e_b hr (e_b (rq_e h) (e_b (ad_e h) rfl))))
  · exact e_f c (e_b (rq_e h) (e_b hr (e_b (rq_e h) (e_b (ad_e h) rfl))))
theorem if_164E {y1 y2 y3 y4 : Int32} (h : ν.1.2 16 ≠ 0) : (if ν.1.2 13 = 4 then f_X9_parseCommand_b164 N ν y1 y2 y3 y4 1 else f_X9_parseCommand_b164 N ν y1 y2 y3 y4 0) = some ν := by
  by_cases c : ν.1.2 13 = 4
  · exact e_t c (x_164E h)
  · exact e_f c (x_164E h)
theorem b100E {x1 y0 : Int32} (h : ν.1.2 16 ≠ 0) : f_X9_parseCommand_b100 N ν x1 y0 = some ν := e_b (fn_f h) (e_t rfl (if_164E h))
theorem b71_e {ν' : MdlS} {x1 y0 : Int32} (hr : f_X9_require ν y0 3 = some ν') (h : ν'.1.2 16 ≠ 0) : f_X9_parseCommand_b71 N ν x1 y0 = some ν' := by
  refine e_b hr (e_b (ad_e h) ?_)
  by_cases c : x1 = 2
  · obtain ⟨y, hy⟩ := pn_e (N := N) (lo := 1) (hi := 40) h
    exact e_t c (e_b hy (b100E h))
  · obtain ⟨y, hy⟩ := pn_e (N := N) (lo := 0) (hi := 3) h
    exact e_f c (e_b hy (b100E h))
theorem tn_E {lo hi : Int32} (h : τ.2 6 ≠ 0) : f_X7_takeNumber N τ lo hi = some (-1, τ) := e_f h rfl
theorem b79E {x1 x2 x3 : Int32} (h : ER τ ν) (hk : τ.2 4 = nI k) (hk2 : k < 40) : ∃ τ' : ObjS, f_X7_parseCommand_b79 N τ x1 x2 x3 = some τ' ∧ ER τ' ν := by
  unfold f_X7_parseCommand_b79
  by_cases c2 : x1 = 2
  · obtain ⟨τ', e1, e2⟩ := x_stE (N := N) (x1 := x1) (x2 := x2) (x3 := x3) (x4 := -1) h hk hk2
    exact ⟨τ', e_t c2 (e_b (tn_E h.1) e1), e2⟩
  · obtain ⟨τ', e1, e2⟩ := x_stE (N := N) (x1 := x1) (x2 := x2) (x3 := x3) (x4 := x3) h hk hk2
    by_cases c1 : x1 = 1
    · exact ⟨τ', e_f c2 (e_t c1 (e_f h.1 e1)), e2⟩
    · exact ⟨τ', e_f c2 (e_f c1 e1), e2⟩
theorem x_cmd (hN : 2000 ≤ N) (h : PS N n t k τ ν) (hk : k ≤ 40) : ∃ (τ' : ObjS) (ν' : MdlS), f_X7_parseCommand N τ = some τ' ∧ f_X9_parseCommand N ν = some ν' ∧ MF ν ν' ∧ (k < 40 ∧ PS N n t (k + 1) τ' ν' ∨ ER τ' ν') := by
  obtain ⟨s, p, κ, hp, a1, a2, a3, a4, a5, a6, a7, a8, a9, a10, a11, a12⟩ := id h.2.1
  have t4 : τ.2 4 = nI k := h.2.2.2.2.2.2.1
  have n9 : ν.1.2 9 = nI k := h.2.2.2.2.2.2.2.1
  by_cases c : κ = 1 ∨ κ = 2 ∨ κ = 3
  · have cls : ∀ r8, f_X7_parseCommand_b26 N τ (nI κ) = r8 → f_X7_parseCommand N τ = r8 := fun r8 h8 => by
      unfold f_X7_parseCommand
      rw [a7]
      rcases c with rfl | rfl | rfl
      · exact e_t rfl h8
      · exact e_f (by decide) (e_t rfl h8)
      · exact e_f (by decide) (e_f (by decide) (e_t rfl h8))
    have mdl : ∀ r9, f_X9_parseCommand_b52 N ν (nI (κ - 1)) 1 = r9 → f_X9_parseCommand N ν = r9 := fun r9 h9 => by
      have w0 := a8 0 (by decide)
      have w1 := a8 1 (by decide)
      have w2 := a8 2 (by decide)
      rcases c with rfl | rfl | rfl
      · exact e_b w0 (e_f (by decide) h9)
      · exact e_b w0 (e_t rfl (e_b w1 (e_f (by decide) h9)))
      · exact e_b w0 (e_t rfl (e_b w1 (e_t rfl (e_b w2 (e_f (by decide) h9)))))
    by_cases k40 : k < 40
    · have ck : τ.2 4 < 40 := by rw [t4]; exact nI_lt (b := 40) k40 (by decide)
      have mk : ¬ (40 : Int32) ≤ ν.1.2 9 := by rw [n9]; exact nI_ge (b := 40) k40 (by decide)
      obtain ⟨τ1, ν1, r1, r2, r3, r4⟩ := h.next hN
      have mdl2 : ∀ r9, (if nI (κ - 1) = 2 then (f_X9_parseNumber N ν1 1 40).bind fun r8 => f_X9_parseCommand_b100 N r8.2 (nI (κ - 1)) r8.1 else (f_X9_parseNumber N ν1 0 3).bind fun r6 => f_X9_parseCommand_b100 N r6.2 (nI (κ - 1)) r6.1) = r9 → f_X9_parseCommand N ν = r9 := fun r9 h9 => mdl _ (e_b rq_t (e_f mk (e_b rq_t (e_b (ad_t h.2.2.2.1 r2) h9))))
      have cls2 : ∀ r8, (if nI κ = 3 then (f_X7_takeNumber N τ1 1 40).bind fun r9 => f_X7_parseCommand_b79 N r9.2 (nI κ) (-1) r9.1 else (f_X7_takeNumber N τ1 0 3).bind fun r5 => (f_X7_takeNumber N r5.2 0 199).bind fun r7 => f_X7_parseCommand_b79 N r7.2 (nI κ) r5.1 r7.1) = r8 → f_X7_parseCommand N τ = r8 := fun r8 h8 => cls _ (e_t ck (e_b r1 h8))
      by_cases c3 : κ = 3
      · subst c3
        rcases x_num hN r3 (lo := 1) (hi := 40) (by decide) (by decide) with ⟨v, τ2, ν2, v1, v2, g1, g2, g3, g4⟩ | ⟨y, τ2, ν2, g1, g2, g3, g4, g5, g6⟩
        · obtain ⟨τ', ν', f1, f2, f3, f4⟩ := x_fin hN g3 k40 (x1 := 3) (x2 := -1) (x3 := nI v) (x4 := nI v) (y1 := 2) (y2 := nI v) (y3 := 0) (y4 := 0) (Or.inl ⟨v, v2, rfl, rfl, rfl, rfl⟩)
          exact ⟨τ', ν', cls2 _ (e_t rfl (e_b g1 (e_f (by decide) (e_f (by decide) f1)))), mdl2 _ (e_t rfl (e_b g2 (e_b (fn_t g3.2.2.2.1) (e_f (by decide) (e_t rfl f2))))), r4.tr (g4.tr f4), f3.imp (fun q => ⟨k40, q⟩) id⟩
        · obtain ⟨τ', f1, f2⟩ := b79E (N := N) (x1 := 3) (x2 := -1) (x3 := -1) g3 g4 k40
          exact ⟨τ', ν2, cls2 _ (e_t rfl (e_b g1 f1)), mdl2 _ (e_t rfl (e_b g2 (b100E g6))), r4.tr g5, Or.inr f2⟩
      · have k3 : ¬ nI κ = 3 := fun q => c3 ((nI_eq (b := 3) (by omega) (by decide)).mp q)
        have w3 : ¬ nI (κ - 1) = 2 := fun q => by have := (nI_eq (b := 2) (by omega) (by decide)).mp q; omega
        rcases x_num hN r3 (lo := 0) (hi := 3) (by decide) (by decide) with ⟨cl, τ2, ν2, v1, v2, g1, g2, g3, g4⟩ | ⟨y, τ2, ν2, g1, g2, g3, g4, g5, g6⟩
        · rcases x_num hN g3 (lo := 0) (hi := 199) (by decide) (by decide) with ⟨a, τ3, ν3, b1, b2, i1, i2, i3, i4⟩ | ⟨y, τ3, ν3, i1, i2, i3, i4, i5, i6⟩
          · have mdl3 : ∀ r9, (if nI (κ - 1) = 1 then (f_X9_parseNumber N ν3 0 999).bind fun r13 => if r13.2.1.2 13 = 4 then f_X9_parseCommand_b164 N r13.2 (nI (κ - 1)) (nI cl) (nI a) r13.1 1 else f_X9_parseCommand_b164 N r13.2 (nI (κ - 1)) (nI cl) (nI a) r13.1 0 else (f_X9_parseEnd N ν3 (nI a)).bind fun r10 => if r10.2.1.2 13 = 4 then f_X9_parseCommand_b164 N r10.2 (nI (κ - 1)) (nI cl) (nI a) r10.1 1 else f_X9_parseCommand_b164 N r10.2 (nI (κ - 1)) (nI cl) (nI a) r10.1 0) = r9 → f_X9_parseCommand N ν = r9 := fun r9 h9 => mdl2 _ (e_f w3 (e_b g2 (e_b (fn_t g3.2.2.2.1) (e_f (by decide) (e_f w3 (e_b i2 h9))))))
            have cls3 : ∀ r8, f_X7_parseCommand_b79 N τ3 (nI κ) (nI cl) (nI a) = r8 → f_X7_parseCommand N τ = r8 := fun r8 h8 => cls2 _ (e_f k3 (e_b g1 (e_b i1 h8)))
            by_cases c2 : κ = 2
            · subst c2
              rcases x_num hN i3 (lo := 0) (hi := 999) (by decide) (by decide) with ⟨v, τ4, ν4, d1, d2, j1, j2, j3, j4⟩ | ⟨y, τ4, ν4, j1, j2, j3, j4, j5, j6⟩
              · obtain ⟨τ', ν', f1, f2, f3, f4⟩ := x_fin hN j3 k40 (x1 := 2) (x2 := nI cl) (x3 := nI a) (x4 := nI v) (y1 := 1) (y2 := nI cl) (y3 := nI a) (y4 := nI v) (Or.inr (Or.inl ⟨cl, a, v, by omega, by omega, by omega, rfl, rfl, rfl, rfl, rfl, rfl, rfl, rfl⟩))
                exact ⟨τ', ν', cls3 _ (e_t rfl (e_b j1 f1)), mdl3 _ (e_t rfl (e_b j2 f2)), r4.tr (g4.tr (i4.tr (j4.tr f4))), f3.imp (fun q => ⟨k40, q⟩) id⟩
              · obtain ⟨τ', f1, f2⟩ := x_stE (N := N) (x1 := 2) (x2 := nI cl) (x3 := nI a) (x4 := -1) j3 j4 k40
                exact ⟨τ', ν4, cls3 _ (e_t rfl (e_b j1 f1)), mdl3 _ (e_t rfl (e_b j2 (if_164E j6))), r4.tr (g4.tr (i4.tr j5)), Or.inr f2⟩
            · have hκ : κ = 1 := by omega
              subst hκ
              obtain ⟨s3, p3, κ3, -, -, -, -, -, -, z6, z7, z8, -⟩ := id i3.2.1
              have z83 := z8 3 (by decide)
              by_cases c4 : κ3 = 4
              · have t10 : τ3.2 10 = 4 := by rw [z7, c4]; rfl
                rw [if_pos c4] at z83
                obtain ⟨τ5, ν5, q1, q2, q3, q4⟩ := i3.next hN
                rcases x_num hN q3 (lo := a) (hi := 199) (by omega) (by decide) with ⟨v, τ4, ν4, d1, d2, j1, j2, j3, j4⟩ | ⟨y, τ4, ν4, j1, j2, j3, j4, j5, j6⟩
                · obtain ⟨τ', ν', f1, f2, f3, f4⟩ := x_fin hN j3 k40 (x1 := 1) (x2 := nI cl) (x3 := nI a) (x4 := nI v) (y1 := 0) (y2 := nI cl) (y3 := nI a) (y4 := nI v) (Or.inr (Or.inr ⟨cl, a, v, by omega, by omega, by omega, rfl, rfl, rfl, rfl, rfl, rfl, rfl, rfl⟩))
                  exact ⟨τ', ν', cls3 _ (e_f (by decide) (e_t rfl (e_t i3.2.2.1 (e_t t10 (e_b q1 (e_b j1 f1)))))), mdl3 _ (e_f (by decide) (e_b (e_b (fn_t i3.2.2.2.1) (e_f (by decide) (e_b z83 (e_f (by decide) (e_b (ad_t i3.2.2.2.1 q2) (e_b j2 rfl)))))) f2)), r4.tr (g4.tr (i4.tr (q4.tr (j4.tr f4)))), f3.imp (fun q => ⟨k40, q⟩) id⟩
                · obtain ⟨τ', f1, f2⟩ := x_stE (N := N) (x1 := 1) (x2 := nI cl) (x3 := nI a) (x4 := -1) j3 j4 k40
                  exact ⟨τ', ν4, cls3 _ (e_f (by decide) (e_t rfl (e_t i3.2.2.1 (e_t t10 (e_b q1 (e_b j1 f1)))))), mdl3 _ (e_f (by decide) (e_b (e_b (fn_t i3.2.2.2.1) (e_f (by decide) (e_b z83 (e_f (by decide) (e_b (ad_t i3.2.2.2.1 q2) (e_b j2 rfl)))))) (if_164E j6))), r4.tr (g4.tr (i4.tr (q4.tr j5))), Or.inr f2⟩
              · have t10 : ¬ τ3.2 10 = 4 := fun q => by rw [z7] at q; exact c4 ((nI_eq (b := 4) (by omega) (by decide)).mp q)
                rw [if_neg c4] at z83
                obtain ⟨τ', ν', f1, f2, f3, f4⟩ := x_fin hN i3 k40 (x1 := 1) (x2 := nI cl) (x3 := nI a) (x4 := nI a) (y1 := 0) (y2 := nI cl) (y3 := nI a) (y4 := nI a) (Or.inr (Or.inr ⟨cl, a, a, by omega, by omega, by omega, rfl, rfl, rfl, rfl, rfl, rfl, rfl, rfl⟩))
                exact ⟨τ', ν', cls3 _ (e_f (by decide) (e_t rfl (e_t i3.2.2.1 (e_f t10 f1)))), mdl3 _ (e_f (by decide) (e_b (e_b (fn_t i3.2.2.2.1) (e_f (by decide) (e_b z83 (e_t rfl rfl)))) f2)), r4.tr (g4.tr (i4.tr f4)), f3.imp (fun q => ⟨k40, q⟩) id⟩
          · obtain ⟨τ', f1, f2⟩ := b79E (N := N) (x1 := nI κ) (x2 := nI cl) (x3 := -1) i3 i4 k40
            refine ⟨τ', ν3, cls2 _ (e_f k3 (e_b g1 (e_b i1 f1))), mdl2 _ (e_f w3 (e_b g2 (e_b (fn_t g3.2.2.2.1) (e_f (by decide) (e_f w3 (e_b i2 ?_)))))), r4.tr (g4.tr i5), Or.inr f2⟩
            by_cases c1 : nI (κ - 1) = 1
            · obtain ⟨z, hz⟩ := pn_e (N := N) (lo := 0) (hi := 999) i6
              exact e_t c1 (e_b hz (if_164E i6))
            · exact e_f c1 (e_b (a := (y, ν3)) (e_b (fn_f i6) (e_t rfl rfl)) (if_164E i6))
        · obtain ⟨τ', f1, f2⟩ := b79E (N := N) (x1 := nI κ) (x2 := -1) (x3 := -1) g3 g4 k40
          exact ⟨τ', ν2, cls2 _ (e_f k3 (e_b g1 (e_b (tn_E g3.1) f1))), mdl2 _ (e_f w3 (e_b g2 (b100E g6))), r4.tr g5, Or.inr f2⟩
    · have e40 : k = 40 := by omega
      obtain ⟨τ', ν', e1, -, e2, e3, e4, e5, e6⟩ := h.err (c := 3) (by decide)
      exact ⟨τ', ν', cls _ (e_f (by rw [t4, e40]; decide) (e_b e1 rfl)), mdl _ (e_b rq_t (e_t (by rw [n9, e40]; decide) (b71_e e2 e6))), e5, Or.inr e3⟩
  · obtain ⟨τ', ν', e1, -, e2, e3, e4, e5, e6⟩ := h.err (c := 1) (by decide)
    have nk : ∀ q, q = 1 ∨ q = 2 ∨ q = 3 → ¬ τ.2 10 = nI q := fun q hq z => by
      rw [a7] at z
      have := (nI_eq (by omega) (by omega)).mp z
      omega
    have w0 := a8 0 (by decide)
    have w1 := a8 1 (by decide)
    have w2 := a8 2 (by decide)
    rw [if_neg (by omega)] at w0 w1 w2
    refine ⟨τ', ν', e_f (nk 1 (Or.inl rfl)) (e_f (nk 2 (Or.inr (Or.inl rfl))) (e_f (nk 3 (Or.inr (Or.inr rfl))) (e_b e1 rfl))), e_b w0 (e_t rfl (e_b w1 (e_t rfl (e_b w2 (e_t rfl (e_b e2 ?_)))))), e5, Or.inr e3⟩
    by_cases c40 : (40 : Int32) ≤ ν'.1.2 9
    · exact e_t c40 (b71_e (rq_e e6) e6)
    · exact e_f c40 (b71_e (rq_e e6) e6)
theorem l_parse (hN : 2000 ≤ N) : ∀ r n1 n2 k (τ : ObjS) (ν : MdlS), k + r = 41 → r < n1 → r < n2 → k ≤ 40 → PS N n t k τ ν → ∃ (g : Int32) (τ' : ObjS) (ν' : MdlS), f_X7_parse_b26 N n1 τ (nI k) = some (g, τ') ∧ f_X9_runTrace_b29 N n2 ν = f_X9_runTrace_b50 N ν' ∧ MF ν ν' ∧ ((g = 1 ∧ ∃ k', k' ≤ 40 ∧ PS N n t k' τ' ν') ∨ (g = 0 ∧ ER τ' ν')) := by
  intro r
  induction r with
  | zero => intro n1 n2 k τ ν hr h1 h2 hk _; omega
  | succ r ih =>
    intro n1 n2 k τ ν hr h1 h2 hk h
    obtain ⟨n1, rfl⟩ : ∃ j, n1 = j + 2 := ⟨n1 - 2, by omega⟩
    obtain ⟨n2, rfl⟩ : ∃ j, n2 = j + 2 := ⟨n2 - 2, by omega⟩
    obtain ⟨s, p, κ, hp, a1, a2, a3, a4, a5, a6, a7, a8, a9, a10, a11, a12⟩ := id h.2.1
    have c600 : ∀ q, q ≤ 41 → ¬ (600 : Int32) < nI q := fun q hq => nI_nlt (a := 600) (by omega) (by decide)
    by_cases c : κ = 9
    · refine ⟨1, τ, ν, ?_, ?_, MF.rf _, Or.inl ⟨rfl, k, hk, h⟩⟩
      · rw [f_X7_parse_b26]
        exact e_f (c600 k (by omega)) (e_t h.2.2.1 (e_t (by rw [a7, c]; rfl) (e_t h.2.2.1 rfl)))
      · rw [f_X9_runTrace_b29]
        exact e_b (fn_t h.2.2.2.1) (e_f (by decide) (e_t (a11.mpr c) rfl))
    · obtain ⟨τ1, ν1, e1, e2, e3, e4⟩ := x_cmd hN h hk
      have t10 : ¬ τ.2 10 = 9 := fun q => by rw [a7] at q; exact c ((nI_eq (b := 9) (by omega) (by decide)).mp q)
      have cls : ∀ r8, f_X7_parse_b26 N (n1 + 1) τ1 (nI (k + 1)) = r8 → f_X7_parse_b26 N (n1 + 1 + 1) τ (nI k) = r8 := fun r8 h8 => by
        rw [f_X7_parse_b26]
        refine e_f (c600 k (by omega)) (e_t h.2.2.1 (e_f t10 (e_b e1 ?_)))
        rw [nI_1]
        exact h8
      have mdl : ∀ r9, f_X9_runTrace_b29 N (n2 + 1) ν1 = r9 → f_X9_runTrace_b29 N (n2 + 1 + 1) ν = r9 := fun r9 h9 => by
        rw [f_X9_runTrace_b29]
        exact e_b (fn_t h.2.2.2.1) (e_f (by decide) (e_f (fun q => c (a11.mp q)) (e_b e2 h9)))
      rcases e4 with ⟨k40, hP⟩ | hE
      · obtain ⟨g, τ', ν', i1, i2, i3, i4⟩ := ih (n1 + 1) (n2 + 1) (k + 1) τ1 ν1 (by omega) (by omega) (by omega) (by omega) hP
        exact ⟨g, τ', ν', cls _ i1, mdl _ i2, e3.tr i3, i4⟩
      · refine ⟨0, τ1, ν1, cls _ ?_, mdl _ ?_, e3, Or.inr ⟨rfl, hE⟩⟩
        · rw [f_X7_parse_b26]
          exact e_f (c600 (k + 1) (by omega)) (e_f hE.1 (e_f hE.1 rfl))
        · rw [f_X9_runTrace_b29]
          exact e_b (fn_f (by rw [hE.2.1]; exact hE.1)) (e_t rfl rfl)
end PP
