/-! accesses() OF THE LAW, from its beginning -/
section AB
variable {N n v d bb t k c b : Nat} {z : ZS} {δ : LwS} {S : AS} {w : Nat → Int32}
/-- a drawn block -/
theorem q_some (hz : z.2.1 ≤ 260) (hd : Hd δ S n v d bb w) (hd2 : d + 2 < 2 ^ 30) : Ok (f_L_someBlock z δ) (fun r => (∃ b, b < 200 ∧ r.1 = nI b) ∧ Hd r.2 S n v (d + 2) bb w) := by
  unfold f_L_someBlock
  refine ok_bind (q_draw hz hd.2.2.2.1 (by omega) (n := 9) (by decide) (by decide)) (fun r1 hr1 => ?_)
  obtain ⟨a1, δ1⟩ := r1
  obtain ⟨⟨x, hx, -⟩, e1⟩ := hr1
  simp only at e1
  subst e1
  have hd1 := hd.draw
  refine ok_if (fun _ => ?_) (fun _ => ?_)
  · refine ok_bind (q_draw hz hd1.2.2.2.1 (by omega) (n := 200) (by decide) (by decide)) (fun r6 hr => ?_)
    obtain ⟨a2, δ2⟩ := r6
    obtain ⟨⟨y, hy, ey⟩, e2⟩ := hr
    simp only at e2 ey
    subst e2
    exact ok_some ⟨⟨y, hy, ey⟩, hd1.draw⟩
  · refine ok_bind (q_draw hz hd1.2.2.2.1 (by omega) (n := 24) (by decide) (by decide)) (fun r4 hr => ?_)
    obtain ⟨a2, δ2⟩ := r4
    obtain ⟨⟨y, hy, ey⟩, e2⟩ := hr
    simp only at e2 ey
    subst e2 ey
    refine ok_some ⟨?_, hd1.draw⟩
    have hb4 : (oI δ.1 2 (nI (d + 1))).2 4 = nI bb := hd1.2.2.2.2.1
    show ∃ b, b < 200 ∧ (if ((oI δ.1 2 (nI (d + 1))).2 4 + nI y) < 199 then ((oI δ.1 2 (nI (d + 1))).2 4 + nI y) else 199) = nI b
    rw [hb4, nI_add]
    by_cases h : bb + y < 199
    · exact ⟨bb + y, by omega, if_pos (show nI (bb + y) < 199 from nI_lt (b := 199) h (by decide))⟩
    · exact ⟨199, by decide, if_neg (show ¬ nI (bb + y) < 199 from nI_nlt (b := 199) (by omega) (by have := hd.2.2.2.2.2; omega))⟩
abbrev kA (N : Nat) : ZS → LwS → Int32 → Int32 → Int32 → Int32 → Int32 → Int32 → Int32 → Int32 → Int32 → Int32 → Option (Int32 × LwS) := fun z δ x1 x2 x4 x5 x6 x7 x8 x9 x10 x11 => (f_L_accesses_b220 N 6 z δ (fun _ => 0) x1 x2 x4 x5 x6 x7 x8 x9 x10 x11).bind fun r => some (r.1, r.2.1)
theorem p_116 (hN : 1000 ≤ N) (hz : z.2.1 ≤ 260) (hd : Hd δ S n v d bb w) (hS : SI S w k t) (ht : t < 2 ^ 20) (hd2 : d + 1 < 2 ^ 20) (hc : c < k) (hb : b < 200) : Ok (f_L_accesses_b116 N (kA N) z δ (nI c) (nI b) (nI (aK S b)) (aSc S c b)) (fun r => r.1 = 1 ∧ Nx z n v d bb w k (t + 1) (d + 2) r.2) := by
  obtain ⟨hI, h6, k1, k4, -⟩ := id hS
  unfold f_L_accesses_b116
  obtain ⟨tr, q⟩ := q_would hN hd.1 hI h6 k4 hc hb (j := 2) (by decide)
  refine ok_bindE q (ok_letg (fun δ1 e => ?_))
  have hd := hd.trial e
  clear q e
  obtain ⟨tr, q⟩ := q_would hN hd.1 hI h6 k4 hc hb (j := 3) (by decide)
  refine ok_bindE q (ok_letg (fun δ2 e => ?_))
  have hd := hd.trial e
  clear q e
  obtain ⟨tr, q⟩ := q_would hN hd.1 hI h6 k4 hc hb (j := 4) (by decide)
  refine ok_bindE q (ok_letg (fun δ3 e => ?_))
  have hd := hd.trial e
  clear q e
  obtain ⟨tr, q⟩ := q_would hN hd.1 hI h6 k4 hc hb (j := 5) (by decide)
  refine ok_bindE q (ok_letg (fun δ4 e => ?_))
  have hd := hd.trial e
  clear q e
  obtain ⟨tr, q⟩ := q_would hN hd.1 hI h6 k4 hc hb (j := 6) (by decide)
  refine ok_bindE q (ok_letg (fun δ5 e => ?_))
  have hd := hd.trial e
  clear q e
  refine ok_bindE (q_l hd.1 (l := 0) (by decide)) (ok_bindE (q_l hd.1 (l := 1) (by decide)) (ok_bindE (q_n hd.1 (j := 2) (by decide)) ?_))
  have key (x11 : Int32) (hx : aFull S → x11 ≠ 0) : Ok (f_L_accesses_b214 N (kA N) z δ5 (nI c) (nI b) (nI (aK S b)) (aSc S c b) (wbV S c b 2) (wbV S c b 3) (wbV S c b 4) (wbV S c b 5) (wbV S c b 6) x11) (fun r => r.1 = 1 ∧ Nx z n v d bb w k (t + 1) (d + 2) r.2) := by
    unfold f_L_accesses_b214
    exact ok_bind (p_220 (h := fun _ => 0) hN hz hd hS ht hd2 hc hb hx) (fun r hr => ok_some hr)
  refine ok_if (fun _ => key 1 (fun _ => by decide)) (fun hne => key 0 (fun hf => absurd ?_ hne))
  rw [nI_add]
  exact (show aN S 2 = nI ((aL S 0).length + (aL S 1).length) from hf).symm
theorem p_96 (hN : 1000 ≤ N) (hz : z.2.1 ≤ 260) (hd : Hd δ S n v d bb w) (hS : SI S w k t) (ht : t < 2 ^ 20) (hd2 : d + 1 < 2 ^ 20) (hc : c < k) (hb : b < 200) : Ok (f_L_accesses_b96 N (kA N) z δ (nI c) (nI b) (nI (aK S b))) (fun r => r.1 = 1 ∧ Nx z n v d bb w k (t + 1) (d + 2) r.2) := by
  obtain ⟨hI, h6, k1, k4, -⟩ := id hS
  have h1 := p_116 hN hz hd hS ht hd2 hc hb
  unfold f_L_accesses_b96
  obtain ⟨u, q, hq⟩ := q_scan hd.1 hI h6 k4 hc hb
  refine ok_bindE q ?_
  rcases sc_01 S c b with s0 | s1
  · refine ok_f (fun e => by have := hq.mp e; rw [s0] at this; exact absurd this (by decide)) ?_
    rw [s0] at h1
    exact h1
  · refine ok_t (hq.mpr s1) ?_
    rw [s1] at h1
    exact h1
theorem p_67 (hN : 1000 ≤ N) (hz : z.2.1 ≤ 260) (hd : Hd δ S n v d bb w) (hS : SI S w k t) (ht : t < 2 ^ 20) (hd2 : d + 1 < 2 ^ 20) (hc : c < k) (hb : b < 200) : Ok (f_L_accesses_b67 N (kA N) z δ (nI c) (nI b)) (fun r => r.1 = 1 ∧ Nx z n v d bb w k (t + 1) (d + 2) r.2) := by
  have h1 := p_96 hN hz hd hS ht hd2 hc hb
  unfold f_L_accesses_b67
  refine ok_bindE (q_b0 hd.1 hb) ?_
  rcases wh_cases hS.1 hb with ⟨k0, e⟩ | ⟨k0, e⟩ | ⟨l, hl, k0, e⟩
  · rw [k0] at h1
    rw [e]
    exact ok_f (by decide) h1
  · rw [k0] at h1
    rw [e]
    exact ok_t (by decide) (ok_t rfl h1)
  · rw [k0] at h1
    rw [e]
    refine ok_t (nI_pos' (by omega)) (ok_f (fun q => ?_) h1)
    have := (nI_eq (b := 2) (by omega) (by decide)).mp q
    omega
theorem p_acc (hN : 1000 ≤ N) (hz : z.2.1 ≤ 260) (hd : Hd δ S n v d bb w) (hS : SI S w k t) (ht : t < 2 ^ 20) (hd2 : d + 10 < 2 ^ 20) : Ok (f_L_accesses N z δ) (fun r => r.1 = 1 ∧ Nx z n v d bb w k (t + 1) (d + 10) r.2) := by
  obtain ⟨hI, h6, k1, k4, -⟩ := id hS
  show Ok (f_L_accesses_b0 N (kA N) z δ) _
  unfold f_L_accesses_b0
  refine ok_bindE (q_n hd.1 (j := 6) (by decide)) ?_
  rw [h6]
  refine ok_bind (q_draw hz hd.2.2.2.1 (by omega) (n := k) (by omega) (by omega)) (fun r3 hr3 => ?_)
  obtain ⟨a1, δ1⟩ := r3
  obtain ⟨⟨c, hc, ec⟩, e1⟩ := hr3
  simp only at e1 ec
  subst e1 ec
  have hd1 := hd.draw
  have some (δ' : LwS) (d' : Nat) (h : Hd δ' S n v d' bb w) (h1 : d' ≤ d + 4) : Ok ((f_L_someBlock z δ').bind fun r8 => f_L_accesses_b67 N (kA N) z r8.2 (nI c) r8.1) (fun r => r.1 = 1 ∧ Nx z n v d bb w k (t + 1) (d + 10) r.2) := by
    refine ok_bind (q_some hz h (by omega)) (fun r hr => ?_)
    obtain ⟨⟨b, hb, eb⟩, h9⟩ := hr
    rw [eb]
    refine ok_mono (p_67 hN hz h9 hS ht (by omega) hc hb) (fun r hr => ⟨hr.1, ?_⟩)
    obtain ⟨U, n', v', d'', w', g1, g2, g3⟩ := hr.2
    exact ⟨U, n', v', d'', w', by omega, g2, g3⟩
  refine ok_bindE (q_cf hd1.1 h6 k4 hc (j := 4) (f := 2) (by decide)) ?_
  obtain ⟨kk, kk1, kk2, kk3⟩ := hI.1.2.2.2.1
  have ekk : kk = k := (nI_eq (by omega) (by omega)).mp (kk1.symm.trans h6)
  subst ekk
  rcases (kk3 c hc).2 with ⟨e, -⟩ | ⟨y, r, e, -, hy, -⟩
  · rw [e]
    exact ok_t (by decide) (some _ _ hd1 (by omega))
  · rw [e]
    refine ok_f (nI_pos (by omega)) (ok_bindE (q_cf hd1.1 h6 k4 hc (j := 4) (f := 2) (by decide)) ?_)
    rw [e]
    refine ok_if (fun _ => some _ _ hd1 (by omega)) (fun hlt => ?_)
    refine ok_bind (q_draw hz hd1.2.2.2.1 (by omega) (n := 3) (by decide) (by decide)) (fun r3 hr3 => ?_)
    obtain ⟨a2, δ2⟩ := r3
    obtain ⟨-, e2⟩ := hr3
    simp only at e2
    subst e2
    have hd2' := hd1.draw
    refine ok_if (fun _ => ?_) (fun _ => some _ _ hd2' (by omega))
    refine ok_bindE (q_cf hd2'.1 h6 k4 hc (j := 4) (f := 2) (by decide)) ?_
    rw [e, nI_1]
    have hy2 : y < 199 := Nat.lt_of_not_le fun q => hlt (nI_le (a := 199) q (by omega))
    refine ok_mono (p_67 hN hz hd2' hS ht (by omega) hc (b := y + 1) (by omega)) (fun r hr => ⟨hr.1, ?_⟩)
    obtain ⟨U, n', v', d'', w', g1, g2, g3⟩ := hr.2
    exact ⟨U, n', v', d'', w', by omega, g2, g3⟩
end AB
