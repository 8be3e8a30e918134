/-! WHAT THE LAW DOES: drawn numbers, predictions, acts -/
theorem f_at_ok {z : ZS} {i : Nat} (hi : i < z.2.1 ∨ z.2.1 = 0 ∧ i = 0) (hL : z.2.1 < 2 ^ 30) : ∃ v, f_L_at z (nI i) = some v := by
  have hb13 : ∀ (x1 y0 : Int32), ∃ v, f_L_at_b13 z x1 y0 = some v := fun x1 y0 => by
    unfold f_L_at_b13
    split
    · exact ⟨_, rfl⟩
    · split <;> exact ⟨_, rfl⟩
  unfold f_L_at
  by_cases h : Int32.ofNat z.2.1 ≤ nI i
  · rw [if_pos h]; exact hb13 _ _
  · rw [if_neg h]
    have h2 : i < z.2.1 := by
      rcases hi with hi | ⟨h0, hi⟩
      · exact hi
      · subst hi
        exact absurd (by rw [h0]; decide) h
    rw [pu_gd i rfl h2 (by omega)]
    exact hb13 _ _
/-- a drawn number -/
theorem q_draw {z : ZS} {δ : LwS} {d n : Nat} (hL : z.2.1 ≤ 260) (hd : δ.1.2 2 = nI d) (hd2 : d < 2 ^ 30) (h1 : 1 ≤ n) (hn : n < 2 ^ 30) : Ok (f_L_draw z δ (nI n)) (fun r => (∃ v, v < n ∧ r.1 = nI v) ∧ r.2 = (oI δ.1 2 (nI (d + 1)), δ.2)) := by
  obtain ⟨m, hm1, hm2, hm⟩ : ∃ m, 1 ≤ m ∧ m ≤ 260 ∧ (if 1 < Int32.ofNat z.2.1 then Int32.ofNat z.2.1 else 1) = nI m ∧ (z.2.1 = 0 ∧ m = 1 ∨ m = z.2.1) := by
    by_cases h : 1 < z.2.1
    · refine ⟨z.2.1, by omega, by omega, ?_, Or.inr rfl⟩
      exact if_pos (show nI 1 < nI z.2.1 from nI_lt h (by omega))
    · refine ⟨1, by decide, by decide, ?_, ?_⟩
      · exact if_neg (show ¬ nI 1 < nI z.2.1 from nI_nlt (by omega) (by decide))
      · by_cases h0 : z.2.1 = 0
        · exact Or.inl ⟨h0, rfl⟩
        · exact Or.inr (by omega)
  obtain ⟨hm, hmz⟩ := hm
  unfold f_L_draw
  rw [hm, hd]
  have hz : ∀ {β : Type} (k : Nat) (x : Option β), 1 ≤ k → k < 2 ^ 31 → dz (nI k) x = x := fun k x a1 a2 => by
    unfold dz
    rw [if_neg (nI_ne0 (by omega) a2)]
  rw [hz m _ hm1 (by omega), show nI d - nI d / nI m * nI m = nI (d % m) from pk_rem (by omega) (by omega) (by omega)]
  have hlt : d % m < m := Nat.mod_lt _ (by omega)
  obtain ⟨v, hv⟩ := f_at_ok (z := z) (i := d % m) (by
    rcases hmz with ⟨a, b⟩ | a
    · exact Or.inr ⟨a, by omega⟩
    · exact Or.inl (by omega)) (by omega)
  refine ok_bindE hv (ok_let ?_)
  rw [hz n _ h1 (by omega)]
  generalize hX : (((v + nI d * 668265263) ^^^ ushr (v + nI d * 668265263) 15) * 739982445) = X
  obtain ⟨j, hj, he⟩ := pk_andE (X ^^^ ushr X 13) (m := 2147483647) 31 (by decide)
  rw [he, show nI j - nI j / nI n * nI n = nI (j % n) from pk_rem (by omega) (by omega) (by omega), nI_1]
  exact ok_some ⟨⟨j % n, Nat.mod_lt _ (by omega), rfl⟩, rfl⟩
-- the states ahead of the acts
def HisO (η : HisS) (n w : Nat) : Prop := n ≤ 8 ∧ w < 8 ∧ η.1.2 2 = nI n ∧ η.1.2 1 = nI w
theorem k_keep {N n w : Nat} {η : HisS} {σ : CacS} {S : AS} (hN : 1000 ≤ N) (hC : RepC σ S E0) (hc : cliOk S) (hH : HisO η n w) : ∃ η', f_X3_keep N η σ = some η' ∧ HisO η' (if n < 8 then n + 1 else 8) ((w + 1) % 8) ∧ RepC (η'.2 w) S E0 := by
  obtain ⟨h1, h2, h3, h5⟩ := hH
  obtain ⟨r4, c1, c2, -⟩ := c_copy (N := N) (σ := η.2 w) hN hC hc
  have hr : f_X3_keep N η σ = some ((oI (oI η.1 1 (nI ((w + 1) % 8))) 2 (nI (if n < 8 then n + 1 else 8)), va_up η.2 w r4) : HisS) := by
    unfold f_X3_keep
    rw [h5, if_neg (nI_pos (by omega)), if_neg (show ¬ (8 : Int32) ≤ nI w from nI_ge (b := 8) h2 (by decide)), pu_gd w rfl h2 (by decide), nI_clamp (by omega), c1, Option.bind_some]
    show some ((oI (oI η.1 1 ((η.1.2 1 + 1) - (η.1.2 1 + 1) / 8 * 8)) 2 (if η.1.2 2 + 1 < 8 then η.1.2 2 + 1 else 8), va_up η.2 w r4) : HisS) = _
    rw [h5, h3, nI_1, nI_1, show nI (w + 1) - nI (w + 1) / 8 * 8 = nI ((w + 1) % 8) from pk_rem (d := 8) (by omega) (by decide) (by decide)]
    refine congrArg (fun q => some ((oI (oI η.1 1 (nI ((w + 1) % 8))) 2 q, va_up η.2 w r4) : HisS)) ?_
    by_cases h8 : n < 8
    · rw [if_pos h8]
      by_cases h7 : n < 7
      · rw [if_pos (show nI (n + 1) < 8 from nI_lt (b := 8) (by omega) (by decide))]
      · rw [if_neg (show ¬ nI (n + 1) < 8 from nI_nlt (b := 8) (by omega) (by omega)), show n + 1 = 8 by omega]
        rfl
    · rw [if_neg h8, if_neg (show ¬ nI (n + 1) < 8 from nI_nlt (b := 8) (by omega) (by omega))]
      rfl
  refine ⟨_, hr, ⟨by split <;> omega, Nat.mod_lt _ (by decide), rfl, rfl⟩, ?_⟩
  show RepC (va_up η.2 w r4 w) S E0
  rw [va_up_self]
  exact c2
theorem r_max2 {n r : Nat} (hn : n ≤ 20) (hr : r ≤ 201) : ∃ q, 1 ≤ q ∧ q ≤ 21 ∧ (if 1 < (nI n - nI r) + 1 then (nI n - nI r) + 1 else 1) = nI q ∧ (q = 1 ↔ n ≤ r) := by
  have e : nI n - nI r + 1 = nI (n + 1) - nI r := by
    rw [← nI_1, Int32.sub_eq_add_neg, Int32.sub_eq_add_neg, Int32.add_assoc, Int32.add_assoc, Int32.add_comm (-nI r)]
  rw [e]
  by_cases c : r < n
  · rw [pk_sub (by omega), if_pos (show (1 : Int32) < nI (n + 1 - r) from nI_lt (a := 1) (by omega) (by omega))]
    exact ⟨n + 1 - r, by omega, by omega, rfl, by omega⟩
  · have h1 := pk_sub_toInt (a := n + 1) (b := r) (by omega) (by omega)
    have h2 : (1 : Int32).toInt = 1 := by decide
    rw [if_neg (fun q => by rw [Int32.lt_iff_toInt_lt, h1, h2] at q; omega)]
    exact ⟨1, by decide, by decide, rfl, by omega⟩
section AC
variable {N : Nat} {γ : GLS} {S : AS}
/-- undo of the latest act: the state that was kept ahead of it -/
theorem q_undo {n w : Nat} {T : AS} (hN : 1000 ≤ N) (hH : HisO γ.2.2.2.2 n w) (hn : 1 ≤ n) (hC : RepC (γ.2.2.2.2.2 ((w + 7) % 8)) T E0) (hc : cliOk T) : Ok (f_X8_undo N γ) (fun r => r.1 = nI (n - 1) ∧ RepC r.2.2.2.1 T E0 ∧ HisO r.2.2.2.2.2 (n - 1) ((w + 7) % 8) ∧ r.2.1 = γ.1) := by
  obtain ⟨h1, h2, h3, h5⟩ := id hH
  have tk : ∀ r, (if γ.2.2.2.2.1.2 2 = 0 then some ((0 : Int32), γ.2.2.2.2, γ.2.2.1) else (f_X1_copyFrom N γ.2.2.1 (γ.2.2.2.2.2 ((w + 7) % 8))).bind fun r8 => some ((1 : Int32), ((oI (oI γ.2.2.2.2.1 1 (nI ((w + 7) % 8))) 2 (γ.2.2.2.2.1.2 2 - 1), γ.2.2.2.2.2) : HisS), r8)) = r → f_X3_takeBack N γ.2.2.2.2 γ.2.2.1 = r := by
    intro r hr
    unfold f_X3_takeBack
    rw [h5]
    by_cases w0 : w = 0
    · subst w0
      exact e_t rfl (e_g 7 rfl (by decide) (by decide) hr)
    · have ew : nI w - 1 = nI ((w + 7) % 8) := by rw [pu_sub1 (by omega)]; congr 1; omega
      rw [ew, nI_clamp (by omega)]
      exact e_f (nI_ne0 (by omega) (by omega)) (e_f (nI_pos (by omega)) (e_f (show ¬ (8 : Int32) ≤ nI ((w + 7) % 8) from nI_ge (b := 8) (by omega) (by decide)) (e_g _ rfl (by omega) (by decide) hr)))
  obtain ⟨r, c1, c2, -⟩ := c_copy (N := N) (σ := γ.2.2.1) hN hC hc
  have en : nI n - 1 = nI (n - 1) := pu_sub1 (by omega)
  have hne : nI n ≠ 0 := nI_ne0 (by omega) (by omega)
  unfold f_X8_undo
  refine ok_bindE (tk _ (e_f (by rw [h3]; exact hne) (e_b c1 rfl))) (ok_let (ok_f (show ¬ (1 : Int32) = 0 by decide) (ok_some ⟨?_, c2, ⟨by omega, Nat.mod_lt _ (by decide), ?_, rfl⟩, rfl⟩)))
  · show γ.2.2.2.2.1.2 2 - 1 = _
    rw [h3, en]
  · show γ.2.2.2.2.1.2 2 - 1 = _
    rw [h3, en]
variable {k c b : Nat}
/-- whether an access would be a scan -/
theorem q_scan (hC : RepC γ.2.2.1 S E0) (hI : Inv S) (hk : aN S 6 = nI k) (hk4 : k ≤ 4) (hc : c < k) (hb : b < 200) : ∃ v, f_L_toScan γ (nI c) (nI b) = some v ∧ (v = 1 ↔ aSc S c b = 1) := by
  obtain ⟨r, hr, er⟩ := aRun_nI hI hk hc hk4 (b := b)
  obtain ⟨⟨n, en, n2, n20⟩, -⟩ := hI.1.2.2.2.2.2
  have hrun : f_X1_runAt γ.2.2.1 (nI c) (nI b) = some (aRun S c b) := by
    refine e_b (cl_at hC hk hk4 hc) (e_o (e_b ?_ rfl))
    unfold f_X2_runWith aRun
    rw [cl_f hC hk hk4 hc (f := 2) (by decide), cl_f hC hk hk4 hc (f := 1) (by decide)]
    by_cases h1 : aC S c 2 = -1
    · rw [if_pos h1, if_pos h1]
    · rw [if_neg h1, if_neg h1]
      by_cases h2 : nI b = aC S c 2 + 1
      · rw [if_pos h2, if_pos h2]
      · rw [if_neg h2, if_neg h2]
  have hlen : (γ.2.2.1 0).2 10 = nI n := hC.1.2.1.trans en
  have hsc : aSc S c b = if nI r < nI n then 0 else 1 := by unfold aSc; rw [er, en]
  obtain ⟨q, q1, q21, eq, hq⟩ := r_max2 n20 hr
  have hsc1 : aSc S c b = 1 ↔ n ≤ r := by
    rw [hsc]
    by_cases h : nI r < nI n
    · rw [if_pos h]
      have := (nI_ltI (by omega) (by omega)).mp h
      exact ⟨fun q => absurd q (by decide), fun q => by omega⟩
    · rw [if_neg h]
      exact ⟨fun _ => Nat.le_of_not_lt fun q => h (nI_lt q (by omega)), fun _ => rfl⟩
  have step : f_X8_toScan γ (nI c) (nI b) = (if (nI b + nI q) ≤ 200 then some (nI q) else some (-1)) :=
    e_b (ccN hC hk hk4 hc) (e_b (rgN (a := 0) (b := 199) (Nat.zero_le _) (by omega) (by decide)) (e_b hrun (by rw [hlen, er, eq])))
  by_cases h : b + q ≤ 200
  · refine ⟨nI q, e_b (step.trans (if_pos ?_)) rfl, ?_⟩
    · rw [nI_add]
      exact nI_le (b := 200) h (by decide)
    · rw [hsc1, ← hq]
      exact ⟨fun e => (nI_eq (b := 1) (by omega) (by decide)).mp e, fun e => by rw [e]; rfl⟩
  · refine ⟨-1, e_b (step.trans (if_neg ?_)) rfl, ?_⟩
    · rw [nI_add]
      exact nI_ge (a := 200) (by omega) (by omega)
    · rw [hsc1, ← hq]
      exact ⟨fun e => absurd e (by decide), fun e => by omega⟩
/-- a prediction: what a read would leave -/
def wbV (S : AS) (c b j : Nat) : Int32 :=
  if j = 0 then nI (aK S b) else if j = 1 then aN (aAcc S c b 0) 22 - aN S 22 else if j = 2 then aB (aAcc S c b 0) 0 b else if j = 3 then aDm (aM4 S c b) b (aSc S c b) (-1) else if j = 4 then aLe (aM4 S c b) b (aSc S c b) (-1) else if j = 5 then aN (aAcc S c b 0) 21 - aN S 21 else aN (aAcc S c b 0) 4
theorem q_would (hN : 1000 ≤ N) (hC : RepC γ.2.2.1 S E0) (hI : Inv S) (hk : aN S 6 = nI k) (hk4 : k ≤ 4) (hc : c < k) (hb : b < 200) {j : Nat} (hj : j < 7) : ∃ tr, f_L_wouldBe N γ (nI c) (nI b) (nI j) = some (wbV S c b j, (γ.1, γ.2.1, γ.2.2.1, tr, γ.2.2.2.2)) := by
  obtain ⟨r, e1, c1, -⟩ := c_copy (N := N) (σ := γ.2.2.2.1) hN hC hI.1.2.2.2.1
  obtain ⟨⟨y, τ⟩, e2, f1, f2, f3, f4⟩ := c_access (N := N) (σ := r) (w := 0) hN c1 hI hb (c := c) (by omega) (by rw [hk]; exact nI_lt hc (by omega))
  refine ⟨τ, ?_⟩
  refine e_b (e_b (ccN hC hk hk4 hc) (e_b (rgN (a := 0) (b := 199) (Nat.zero_le _) (by omega) (by decide)) (e_b (rgN (a := 0) (b := 6) (Nat.zero_le _) (by omega) (by decide)) (e_b e1 (e_l (e_b e2 (e_l (e_b (a := wbV S c b j) ?_ rfl)))))))) rfl
  have f1 : y = nI (aK S b) := f1
  have f2 : RepC τ (aAcc S c b 0) E0 := f2
  have f3 : (τ 2).2 9 = aDm (aS2 S c b 0) b (aSc S c b) (-1) := f3
  have f4 : (τ 2).2 10 = aLe (aS2 S c b 0) b (aSc S c b) (-1) := f4
  rw [dm_eq] at f3
  rw [le_eq] at f4
  rcases (show j = 0 ∨ j = 1 ∨ j = 2 ∨ j = 3 ∨ j = 4 ∨ j = 5 ∨ j = 6 by omega) with rfl | rfl | rfl | rfl | rfl | rfl | rfl
  · exact e_t rfl (congrArg some f1)
  · exact e_f (by decide) (e_t rfl (congrArg some (by show (τ 2).2 8 - (γ.2.2.1 2).2 8 = _; rw [f2.2.2.1.2.2.2.2.2.2.2.2, hC.2.2.1.2.2.2.2.2.2.2.2]; rfl)))
  · exact e_f (by decide) (e_f (by decide) (e_t rfl (e_b (p0_listOf f2.2.1 (fun q => q) hb) rfl)))
  · exact e_f (by decide) (e_f (by decide) (e_f (by decide) (e_t rfl (congrArg some f3))))
  · exact e_f (by decide) (e_f (by decide) (e_f (by decide) (e_f (by decide) (e_t rfl (congrArg some f4)))))
  · exact e_f (by decide) (e_f (by decide) (e_f (by decide) (e_f (by decide) (e_f (by decide) (e_t rfl (congrArg some (by show (τ 1).2 7 - (γ.2.2.1 1).2 7 = _; rw [f2.2.1.2.1, hC.2.1.2.1]; rfl)))))))
  · exact e_f (by decide) (e_f (by decide) (e_f (by decide) (e_f (by decide) (e_f (by decide) (e_f (by decide) (congrArg some f2.1.2.2.2.2.2))))))
/-- a read -/
theorem q_read (hN : 1000 ≤ N) (hC : RepC γ.2.2.1 S E0) (hI : Inv S) (hk : aN S 6 = nI k) (hk4 : k ≤ 4) (hc : c < k) (hb : b < 200) {n w : Nat} (hH : HisO γ.2.2.2.2 n w) : Ok (f_L_read N γ (nI c) (nI b)) (fun r => r.1 = aB (aAcc S c b 0) 1 b ∧ RepC r.2.2.2.1 (aAcc S c b 0) E0 ∧ HisO r.2.2.2.2.2 (if n < 8 then n + 1 else 8) ((w + 1) % 8)) := by
  obtain ⟨η', k1, k2, k3⟩ := k_keep hN hC hI.1.2.2.2.1 hH
  obtain ⟨⟨y, τ⟩, e2, f1, f2, f3, f4⟩ := c_access (N := N) (σ := γ.2.2.1) (w := 0) hN hC hI hb (c := c) (by omega) (by rw [hk]; exact nI_lt hc (by omega))
  have f2 : RepC τ (aAcc S c b 0) E0 := f2
  refine ⟨(aB (aAcc S c b 0) 1 b, γ.1, γ.2.1, τ, γ.2.2.2.1, η'), ?_, rfl, f2, k2⟩
  exact e_b (e_b (ccN hC hk hk4 hc) (e_b (rgN (a := 0) (b := 199) (Nat.zero_le _) (by omega) (by decide)) (e_b k1 (e_l (e_b e2 (e_l (e_b (p0_valueOf f2.2.1 hb) rfl))))))) rfl
theorem acc_k {v : Int32} : aN (aAcc S c b v) 6 = aN S 6 := aN6_acc
/-- a write -/
theorem q_write (hN : 1000 ≤ N) (hC : RepC γ.2.2.1 S E0) (hI : Inv S) (hk : aN S 6 = nI k) (hk4 : k ≤ 4) (hc : c < k) (hb : b < 200) {v : Nat} (hv : v < 1000) {n w : Nat} (hH : HisO γ.2.2.2.2 n w) : Ok (f_L_write N γ (nI c) (nI b) (nI v)) (fun r => r.1 = aN (aFin (aAcc S c b 1) b (nI v)) 21 - aN S 21 ∧ RepC r.2.2.2.1 (aFin (aAcc S c b 1) b (nI v)) E0 ∧ HisO r.2.2.2.2.2 (if n < 8 then n + 1 else 8) ((w + 1) % 8) ∧ RepC (r.2.2.2.2.2.2 w) S E0) := by
  obtain ⟨η', k1, k2, k3⟩ := k_keep hN hC hI.1.2.2.2.1 hH
  have hn4 : nI c < aN S 6 := by rw [hk]; exact nI_lt hc (by omega)
  obtain ⟨⟨y, τ⟩, e2, f1, f2, f3, f4⟩ := c_access (N := N) (σ := γ.2.2.1) (w := 1) hN hC hI hb (c := c) (by omega) hn4
  have f2 : RepC τ (aAcc S c b 1) E0 := f2
  obtain ⟨υ, e3, g1, g2⟩ := c_finish (v := nI v) hN f2 (Inv_acc hI hb (by omega) hn4) hb (acc_w0 hI hb)
  refine ⟨((υ 1).2 7 - (γ.2.2.1 1).2 7, γ.1, γ.2.1, υ, γ.2.2.2.1, η'), ?_, ?_, g1, k2, k3⟩
  · exact e_b (e_b (ccN hC hk hk4 hc) (e_b (rgN (a := 0) (b := 199) (Nat.zero_le _) (by omega) (by decide)) (e_b (rgN (a := 0) (b := 999) (Nat.zero_le _) (by omega) (by decide)) (e_b k1 (e_l (e_b e2 (e_l (e_b e3 (e_l rfl))))))))) rfl
  · show (υ 1).2 7 - (γ.2.2.1 1).2 7 = _
    rw [g1.2.1.2.1, hC.2.1.2.1]
end AC
