/-! the best length -/
theorem c_diff {T S : AS} {σ' : CacS} {γ : GLS} {u w u' w' : Nat} (hT : RepC σ' T E0) (hS : RepC γ.2.2.1 S E0) (h1 : aN S 14 = nI u) (h2 : aN S 15 = nI w) (h3 : aN T 14 = nI u') (h4 : aN T 15 = nI w') (hu : u ≤ u') (hw : w ≤ w') : f_X8_differenceAhead (γ.1, γ.2.1, γ.2.2.1, σ', γ.2.2.2.2) 0 = some (nI (u' - u)) ∧ f_X8_differenceAhead (γ.1, γ.2.1, γ.2.2.1, σ', γ.2.2.2.2) 1 = some (nI (w' - w)) := by
  obtain ⟨-, T1, T2, -⟩ := hT.2.2.1
  obtain ⟨-, S1, S2, -⟩ := hS.2.2.1
  refine ⟨e_t rfl ?_, e_f (by decide) (e_t rfl ?_)⟩
  · show some ((σ' 2).2 1 - (γ.2.2.1 2).2 1) = _
    rw [T1, S1, h1, h3, pk_sub hu]
  · show some ((σ' 2).2 2 - (γ.2.2.1 2).2 2) = _
    rw [T2, S2, h2, h4, pk_sub hw]
/-- the model between two trials: all as before, a copy aside -/
def BR (μ ν : MdlS) : Prop := (∀ j, j < 1384 → ν.1.1 0 j = μ.1.1 0 j) ∧ (∀ j, j < 1384 → ν.1.1 1 j = μ.1.1 0 j) ∧ (∀ k, k ≠ 0 → k ≠ 1 → ν.1.1 k = μ.1.1 k) ∧ (∀ k, k ≠ 19 → k ≠ 20 → ν.1.2 k = ((oI μ.1 6 0, μ.2) : MdlS).1.2 k)
theorem l_best {N K c f m R u w : Nat} {S : AS} {γ : GLS} {μ : MdlS} (hN : 20000 ≤ N) (hK : K + 1000 < 2 ^ 31) (hI : Inv S) (hC : RepC γ.2.2.1 S E0) (hM : RepM (μ.1.1 0) S (UA S)) (hu : aN S 14 = nI u) (hw : aN S 15 = nI w) (huw : u + w ≤ K) (hc : c < 4) (hn : nI c < aN S 6) (hf : f + m ≤ 200) (hR : R ≤ 4) : ∀ r n n' len (σ : CacS) (ν : MdlS) (x5 y5 x6 y6 : Int32), len + r = 21 → r < n → r < n' → 2 ≤ len → BR μ ν → (len = 2 ∧ x6 = -1 ∧ y6 = -1 ∨ ∃ h, h ≤ 800 ∧ x6 = nI h ∧ y6 = nI (u + w + h) ∧ x5 = y5) → len ≤ 20 ∨ len = 21 → ∃ (v : Int32) (σ' : CacS) (ν' : MdlS), f_X8_bestLength_b18 N n (γ.1, γ.2.1, γ.2.2.1, σ, γ.2.2.2.2) (nI c) (nI f) (nI m) (nI R) x5 x6 (nI len) = some (.inr (v, (γ.1, γ.2.1, γ.2.2.1, σ', γ.2.2.2.2))) ∧ f_X9_bestLength_b57 N n' ν (nI c) (nI f) (nI m) (nI R) y5 y6 (nI len) = some (v, ν') ∧ BR μ ν' := by
  intro r
  induction r with
  | zero =>
    intro n n' len σ ν x5 y5 x6 y6 hr hn2 hn3 hl2 hB hx hl
    obtain ⟨n, rfl⟩ : ∃ j, n = j + 1 := ⟨n - 1, by omega⟩
    obtain ⟨n', rfl⟩ : ∃ j, n' = j + 1 := ⟨n' - 1, by omega⟩
    have : len = 21 := by omega
    subst this
    obtain ⟨h, -, -, -, e5⟩ := hx.resolve_left (fun q => by omega)
    refine ⟨x5, σ, ν, ?_, ?_, hB⟩
    · rw [f_X8_bestLength_b18]
      exact e_t (show (20 : Int32) < nI 21 by decide) rfl
    · rw [f_X9_bestLength_b57, ← e5]
      exact e_t (show (20 : Int32) < nI 21 by decide) rfl
  | succ r ih =>
    intro n n' len σ ν x5 y5 x6 y6 hr hn2 hn3 hl2 hB hx hl
    obtain ⟨n, rfl⟩ : ∃ j, n = j + 1 := ⟨n - 1, by omega⟩
    obtain ⟨n', rfl⟩ : ∃ j, n' = j + 1 := ⟨n' - 1, by omega⟩
    have h20 : ¬ (20 : Int32) < nI len := nI_nlt (a := 20) (by omega) (by decide)
    obtain ⟨b0, b1, b2, b3⟩ := id hB
    obtain ⟨rc, c1, c2, -⟩ := c_copy (N := N) (σ := σ) (by omega) hC hI.1.2.2.2.1
    have hIl : Inv (uN S 0 (nI len)) := ⟨⟨hI.1.1, hI.1.2.1, hI.1.2.2.1, hI.1.2.2.2.1, hI.1.2.2.2.2.1, ⟨⟨len, rfl, hl2, by omega⟩, hI.1.2.2.2.2.2.2⟩⟩, hI.2⟩
    have hMν : RepM (ν.1.1 0) S (UA S) := hM.eqOn b0
    obtain ⟨z, hz⟩ : ∃ z : MdlS, z = ((va_up ν.1.1 0 (upd (ν.1.1 0) 0 (nI len)), ν.1.2), ν.2) := ⟨_, rfl⟩
    have z0 : z.1.1 0 = upd (ν.1.1 0) 0 (nI len) := by rw [hz]; exact va_up_self ν.1.1 0 _
    have zk : ∀ k, k ≠ 0 → z.1.1 k = ν.1.1 k := fun k q => by rw [hz]; exact va_up_ne ν.1.1 _ q
    have zi : z.1.2 = ν.1.2 := by rw [hz]
    have hMz : RepM (z.1.1 0) (uN S 0 (nI len)) (UA (uN S 0 (nI len))) := by rw [z0]; exact hMν.setN (by decide) (nI len)
    have hA : AR S z (va_up rc 0 (oI (rc 0) 10 (nI len))) z u w := ⟨uN S 0 (nI len), hIl, c2.o10 (nI len), hMz, aN_ne (by decide), (aN_ne (by decide)).trans hu, (aN_ne (by decide)).trans hw, fun _ _ => rfl, fun _ _ _ => rfl⟩
    obtain ⟨σ', ν', u', w', i1, i2, ⟨T, t1, t2, t3, t4, t5, t6, t7, t8⟩, hu', hw', hsum⟩ := l_all (N := N) (γ := γ) (by omega) hc hn hf hR R N N 0 _ z u w (by omega) (by omega) (by omega) hA
    obtain ⟨d1, d2⟩ := c_diff t2 hC hu hw t5 t6 hu' hw'
    have mb := m_copy10 (N := N) (μ := ν') (by omega)
    obtain ⟨y, hy⟩ : ∃ y : MdlS, y = ((va_up ν'.1.1 0 (va_cpy (ν'.1.1 1) (ν'.1.1 0) 0 0 1384), ν'.1.2), ν'.2) := ⟨_, rfl⟩
    rw [← hy] at mb
    have hBy : BR μ y := by
      rw [hy]
      refine ⟨fun j hj => ?_, fun j hj => ?_, fun k q0 q1 => (va_up_ne ν'.1.1 _ q0).trans ((t7 k q0).trans ((zk k q0).trans (b2 k q0 q1))), fun k q19 q20 => (t8 k q19 q20).trans (by rw [zi]; exact b3 k q19 q20)⟩
      · show va_up ν'.1.1 0 (va_cpy (ν'.1.1 1) (ν'.1.1 0) 0 0 1384) 0 j = _
        rw [va_up_self, cpy_00 hj, t7 1 (by decide), zk 1 (by decide)]
        exact b1 j hj
      · show va_up ν'.1.1 0 (va_cpy (ν'.1.1 1) (ν'.1.1 0) 0 0 1384) 1 j = _
        rw [va_up_ne _ _ (show 1 ≠ 0 by decide), t7 1 (by decide), zk 1 (by decide)]
        exact b1 j hj
    have h8 : f_X8_readAhead N (γ.1, γ.2.1, γ.2.2.1, σ, γ.2.2.2.2) (nI c) (nI f) (nI m) (nI R) (nI len) = some (γ.1, γ.2.1, γ.2.2.1, σ', γ.2.2.2.2) := e_b c1 (e_l (e_l i1))
    have s1 : nI (u' - u) + nI (w' - w) = nI (u' + w' - (u + w)) := by rw [nI_add]; congr 1; omega
    have m14 : ν'.1.1 0 (Int32.toNatClampNeg 14) = nI u' := (t3.1 14 (by omega)).trans t5
    have m15 : ν'.1.1 0 (Int32.toNatClampNeg 15) = nI w' := (t3.1 15 (by omega)).trans t6
    have go : ∀ (a5 a6 q5 q6 : Int32), (∃ h, h ≤ 800 ∧ a6 = nI h ∧ q6 = nI (u + w + h) ∧ a5 = q5) → ∃ (v : Int32) (σ1 : CacS) (ν1 : MdlS), f_X8_bestLength_b18 N n (γ.1, γ.2.1, γ.2.2.1, σ', γ.2.2.2.2) (nI c) (nI f) (nI m) (nI R) a5 a6 (nI len + 1) = some (.inr (v, (γ.1, γ.2.1, γ.2.2.1, σ1, γ.2.2.2.2))) ∧ f_X9_bestLength_b57 N n' y (nI c) (nI f) (nI m) (nI R) q5 q6 (nI len + 1) = some (v, ν1) ∧ BR μ ν1 := fun a5 a6 q5 q6 hq => by
      rw [nI_1]
      exact ih n n' (len + 1) σ' y a5 q5 a6 q6 (by omega) (by omega) (by omega) (by omega) hBy (Or.inr hq) (by omega)
    have w8 : ∀ (r8 : Option (Nat ⊕ (Int32 × GLS))), (if nI (u' + w' - (u + w)) ≤ x6 then f_X8_bestLength_b18 N n (γ.1, γ.2.1, γ.2.2.1, σ', γ.2.2.2.2) (nI c) (nI f) (nI m) (nI R) x5 x6 (nI len + 1) else f_X8_bestLength_b18 N n (γ.1, γ.2.1, γ.2.2.1, σ', γ.2.2.2.2) (nI c) (nI f) (nI m) (nI R) (nI len) (nI (u' + w' - (u + w))) (nI len + 1)) = r8 → f_X8_bestLength_b18 N (n + 1) (γ.1, γ.2.1, γ.2.2.1, σ, γ.2.2.2.2) (nI c) (nI f) (nI m) (nI R) x5 x6 (nI len) = r8 := fun r8 hr8 => by
      rw [f_X8_bestLength_b18]
      refine e_f h20 (e_b h8 (e_b d1 (e_b d2 ?_)))
      rw [s1]
      exact hr8
    have w9 : ∀ (r9 : Option (Int32 × MdlS)), (if nI (u' + w') ≤ y6 then f_X9_bestLength_b57 N n' y (nI c) (nI f) (nI m) (nI R) y5 y6 (nI len + 1) else f_X9_bestLength_b57 N n' y (nI c) (nI f) (nI m) (nI R) (nI len) (nI (u' + w')) (nI len + 1)) = r9 → f_X9_bestLength_b57 N (n' + 1) ν (nI c) (nI f) (nI m) (nI R) y5 y6 (nI len) = r9 := fun r9 hr9 => by
      rw [f_X9_bestLength_b57]
      refine e_f h20 (e_g 0 rfl (by decide) (by decide) (e_l (e_b (a := ν') (by rw [hz] at i2; exact i2) (e_g 14 rfl (by decide) (by decide) (e_g 15 rfl (by decide) (by decide) (e_b mb ?_))))))
      rw [m14, m15, nI_add]
      exact hr9
    have hge : u + w ≤ u' + w' := by omega
    rcases hx with ⟨-, rfl, rfl⟩ | ⟨h, hh, rfl, rfl, rfl⟩
    · have n1 : ∀ d, d < 2 ^ 31 → ¬ nI d ≤ -1 := fun d hd q => by
        rw [Int32.le_iff_toInt_le, nI_toInt hd, show (-1 : Int32).toInt = -1 from by decide] at q
        omega
      obtain ⟨v, σ1, ν1, g1, g2, g3⟩ := go (nI len) (nI (u' + w' - (u + w))) (nI len) (nI (u' + w')) ⟨u' + w' - (u + w), by omega, rfl, by congr 1; omega, rfl⟩
      exact ⟨v, σ1, ν1, w8 _ (e_f (n1 _ (by omega)) g1), w9 _ (e_f (n1 _ (by omega)) g2), g3⟩
    · by_cases cc : u' + w' - (u + w) ≤ h
      · obtain ⟨v, σ1, ν1, g1, g2, g3⟩ := go x5 (nI h) x5 (nI (u + w + h)) ⟨h, hh, rfl, rfl, rfl⟩
        exact ⟨v, σ1, ν1, w8 _ (e_t (nI_le cc (by omega)) g1), w9 _ (e_t (nI_le (by omega) (by omega)) g2), g3⟩
      · obtain ⟨v, σ1, ν1, g1, g2, g3⟩ := go (nI len) (nI (u' + w' - (u + w))) (nI len) (nI (u' + w')) ⟨u' + w' - (u + w), by omega, rfl, by congr 1; omega, rfl⟩
        exact ⟨v, σ1, ν1, w8 _ (e_f (nI_ge (by omega) (by omega)) g1), w9 _ (e_f (nI_ge (by omega) (by omega)) g2), g3⟩
theorem s_bestLength {N K L : Nat} (hN : 20000 ≤ N) (hL : K ≤ L) (hK : K + 1000 < 2 ^ 31) : Sim_bestLength N (TopK K) (TopK L) := by
  intro γ μ κ ix nb p0 p1 p2 p3 h
  obtain ⟨⟨S, hS⟩, hR⟩ := id h
  obtain ⟨hI, hC, hM, hK2⟩ := id hS
  have hT := h.mono hL
  obtain ⟨k, k1, k2, k3⟩ := id hI.1.2.2.2.1
  have e6 : μ.1.1 0 6 = nI k := (hM.1 6 (by omega)).trans k1
  rcases r_client (γ := γ) (hC.1.1.trans k1) k2 p0 with ⟨c, hc, rfl, e1, e2⟩ | ⟨e1, e2⟩
  · have e2 := e2 (oI μ.1 6 0, μ.2) e6
    have hc4 : c < 4 := by omega
    have hn : nI c < aN S 6 := by rw [k1]; exact nI_lt hc (by omega)
    rcases r_plan p1 p2 p3 with ⟨f, m, R, hf, hm1, hm, hfm, hRR, rfl, rfl, rfl, e3, e4⟩ | ⟨e3, e4⟩
    · obtain ⟨u, w, hu, hw, huw⟩ := id hK2
      have mz := m_copy01 (N := N) (μ := (oI μ.1 6 0, μ.2)) (by omega)
      have hB : BR μ (((va_up ((oI μ.1 6 0, μ.2) : MdlS).1.1 1 (va_cpy (((oI μ.1 6 0, μ.2) : MdlS).1.1 0) (((oI μ.1 6 0, μ.2) : MdlS).1.1 1) 0 0 1384), ((oI μ.1 6 0, μ.2) : MdlS).1.2), ((oI μ.1 6 0, μ.2) : MdlS).2) : MdlS) := ⟨fun j hj => rfl, fun j hj => cpy_00 (f := μ.1.1 0) (g := μ.1.1 1) hj, fun k q0 q1 => va_up_ne μ.1.1 _ q1, fun k _ _ => rfl⟩
      obtain ⟨v, σ', ν', i1, i2, b0, b1, b2, b3⟩ := l_best (N := N) (K := K) hN hK hI hC hM hu hw huw hc4 hn hfm hRR 19 N N 2 γ.2.2.2.1 _ (-1) 0 (-1) (-1) rfl (by omega) (by omega) (by decide) hB (Or.inl ⟨rfl, rfl, rfl⟩) (Or.inl (by decide))
      refine sa_r (T := fun g m => TopK L g m κ ix nb) (γ := γ) (γ1 := (γ.1, γ.2.1, γ.2.2.1, σ', γ.2.2.2.2)) (e_x (a := ()) (e_x e1 e3) i1) (e_l (e_b e2 (e_f (by decide) (e_b e4 (e_f (by decide) (e_b mz i2)))))) (b3 6 (by decide) (by decide)) (top_pred h hL b0 b2 (fun k k6 k19 k20 => (b3 k k19 k20).trans (va_up_ne μ.1.2 _ k6)))
    · exact sa_l (T := fun g m => TopK L g m κ ix nb) (γ := γ) (k := 1) (b := 0) (μ1 := (oI (oI μ.1 6 0) 6 2, μ.2)) (e_xl (e_x e1 e3)) (Or.inr rfl) (e_l (e_b e2 (e_f (by decide) (e_b e4 (e_t rfl rfl))))) rfl ((hT.t6 0).t6 2)
  · exact sa_l (T := fun g m => TopK L g m κ ix nb) (γ := γ) (k := 0) (b := 0) (μ1 := (oI (oI μ.1 6 0) 6 1, μ.2)) (e_xl (e_xl e1)) (Or.inl rfl) (e_l (e_b (e2 (oI μ.1 6 0, μ.2) e6) (e_t rfl rfl))) rfl ((hT.t6 0).t6 1)
