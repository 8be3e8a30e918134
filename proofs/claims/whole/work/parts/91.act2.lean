/-! forgetting, undo, saved states -/
def aOut (S : AS) (b l : Nat) : AS := uB (uB (uB (uB (uL S l (pu_rm (aL S l) b)) 1 b (-1)) 2 b (-1)) 3 b (-1)) 0 b (-1)
theorem Mx_Inv {S : AS} {b : Nat} (h : Mx S b) (h1 : aB S 1 b = -1) (h2 : aB S 2 b = -1) (h3 : aB S 3 b = -1) : Inv S := by
  obtain ⟨h0, q1, q2, q3, q4, q5⟩ := h
  refine ⟨h0, fun x hx => ?_⟩
  by_cases e : x = b
  · subst e
    refine ⟨fun l hl => ⟨fun q => absurd q (q1 l hl), fun q => ?_⟩, Or.inl q2, q3, q4, fun _ => ⟨h1, h2, h3⟩, fun q => ?_, fun q => absurd q2 q⟩
    · rw [q2] at q; exact absurd q (pu_m1' (by omega))
    · rw [q2] at q; rcases q with q | q
      · exact absurd q (pu_m1' (by decide))
      · exact absurd q (pu_m1' (by decide))
  · exact q5 x hx e
theorem aOut_eq (S : AS) (b l : Nat) : aOut S b l = uB (uB (uB (uB (uL S l (pu_rm (aL S l) b)) 0 b (-1)) 1 b (-1)) 2 b (-1)) 3 b (-1) := by
  refine AS_ext (fun _ => rfl) (fun _ => rfl) (fun _ _ => rfl) (fun f x => ?_)
  unfold aOut
  rw [aB_uB, aB_uB, aB_uB, aB_uB, aB_uB, aB_uB, aB_uB, aB_uB]
  repeat' split
  all_goals first | rfl | (exfalso; omega)
theorem Mx_uB {S : AS} {b f : Nat} {v : Int32} (h : Mx S b) (hf : 1 ≤ f ∧ f < 4) : Mx (uB S f b v) b := by
  obtain ⟨h0, q1, q2, q3, q4, q5⟩ := h
  refine ⟨h0, q1, (aB_nf (by omega)).trans q2, fun l hl => ?_, ?_, fun x hx hn => (q5 x hx hn).congr (fun _ _ => Iff.rfl) (fun f _ => aB_ne hn) rfl⟩
  · rw [aB_nf (f := f) (g := 4) (by omega)]; exact q3 l hl
  · rw [aB_nf (f := f) (g := 4) (by omega)]; exact q4
theorem Mx_aOut {S : AS} {b l : Nat} (h : Inv S) (hb : b < 200) (hl : l < 3) (hw : aB S 0 b = nI l) : Mx (aOut S b l) b := by
  rw [aOut_eq]
  exact Mx_uB (Mx_uB (Mx_uB (Mx_out h hb hl hw) (by decide)) (by decide)) (by decide)
theorem aB_LG1 {S : AS} {b f x : Nat} (hf : f ≠ 4) : aB (aLG1 S b) f x = aB S f x := by
  unfold aLG1
  split
  · rfl
  · rw [aB_nf hf]; rfl
theorem aN_LG1 {S : AS} {b k : Nat} : aN (aLG1 S b) k = aN S k := by
  unfold aLG1
  split <;> rfl
theorem aOut_LG1 {S : AS} {b l : Nat} (hl : l < 3) (hg : aB S 4 b = -1 ∨ ∃ g, g < 2 ∧ aB S 4 b = nI (3 + g)) : aOut (aLG1 S b) b l = aLG1 (aOut S b l) b := by
  have e4 : aB (aOut S b l) 4 b = aB S 4 b := by
    unfold aOut
    rw [aB_nf (by decide), aB_nf (by decide), aB_nf (by decide), aB_nf (by decide)]
    rfl
  rcases hg with e | ⟨g, hg, e⟩
  · unfold aLG1
    rw [if_pos e, if_pos (e4.trans e)]
  · rw [LG1_eq hg e, LG1_eq hg (e4.trans e)]
    refine AS_ext (fun _ => rfl) (fun m => ?_) (fun _ _ => rfl) (fun f x => ?_)
    · show (if m = l then pu_rm (if l = 3 + g then pu_rm (aL S (3 + g)) b else aL S l) b else if m = 3 + g then pu_rm (aL S (3 + g)) b else aL S m) = if m = 3 + g then pu_rm (if 3 + g = l then pu_rm (aL S l) b else aL S (3 + g)) b else if m = l then pu_rm (aL S l) b else aL S m
      rw [if_neg (show ¬ l = 3 + g by omega), if_neg (show ¬ 3 + g = l by omega)]
      repeat' split
      all_goals first | rfl | (exfalso; omega)
    · unfold aOut aGo
      rw [aB_uB, aB_uB, aB_uB, aB_uB, aB_uL, aB_uB, aB_uL, aB_uB, aB_uL, aB_uB, aB_uB, aB_uB, aB_uB, aB_uL]
      repeat' split
      all_goals first | rfl | (exfalso; omega)
theorem c_lose {N b : Nat} {σ : CacS} {S : AS} (hN : 100 ≤ N) (h : RepC σ S E0) (hI : Inv S) (hb : b < 200) : (aB S 0 b = -1 → Ok (f_X1_loseBlock N σ (nI b)) (fun t => t.1 = 0 ∧ RepC t.2 (aLG1 S b) E0)) ∧ ∀ l, l < 3 → aB S 0 b = nI l → Ok (f_X1_loseBlock N σ (nI b)) (fun t => t.1 = 1 ∧ RepC t.2 (aOut (aLG1 S b) b l) E0) := by
  obtain ⟨a1, a2, a3, a4, a5, a6, a7⟩ := hI.2 b hb
  constructor
  · intro hw
    unfold f_X1_loseBlock
    refine ok_bindE (p0_listOf h.2.1 (fun q => q) hb) (ok_bind (c_loseGhost hN h hb hI.1.1 a4) (fun t ht => ok_t hw (ok_some ⟨rfl, ht.1⟩)))
  · intro l hl hw
    unfold f_X1_loseBlock
    refine ok_bindE (p0_listOf h.2.1 (fun q => q) hb) (ok_bind (c_loseGhost hN h hb hI.1.1 a4) (fun t ht => ?_))
    rw [hw]
    have eL : aL (aLG1 S b) l = aL S l := by
      unfold aLG1
      split
      · rfl
      · next q =>
        obtain ⟨g, hg, eg⟩ := a4.resolve_left q
        rw [eg, nI_clamp (by omega)]
        exact if_neg (by omega)
    refine ok_f (pu_m1 (by omega)) (ok_bindE (c_rowOf (by omega)) ?_)
    have hr : RowL (t (3 + l)) (aL (aLG1 S b) l) := ht.1.2.2.2.1 l (by omega)
    obtain ⟨τ, e1, h1⟩ := p5_takeOut (N := N) hr (by rw [eL]; exact (hI.1.1 l (by omega)).2) hb hN
    refine ok_bindE e1 (ok_let ?_)
    have hA := ht.1.row (l := l) (by omega) h1
    refine ok_bind (p0_dropUnit hA.2.1 hb) (fun t2 ht2 => ok_let (ok_some ⟨rfl, ?_⟩))
    exact (hA.b ht2 (((sB_uB _ _ _ _).tr (sB_uB _ _ _ _)).tr ((sB_uB _ _ _ _).tr (sB_uB _ _ _ _)))).wk (F := E0) (fun b _ q => q.1)
theorem s_forget {N K L : Nat} (hN : 20000 ≤ N) (hL : K ≤ L) : Sim_forget N (TopK K) (TopK L) := by
  intro γ μ κ ix nb p0 h
  obtain ⟨⟨S, hS⟩, hR⟩ := id h
  obtain ⟨hI, hC, hM, hK⟩ := id hS
  have hT := h.mono hL
  rcases r_block p0 with ⟨b, hb, rfl, e1, e2⟩ | ⟨e1, e2⟩
  · obtain ⟨η, ν, g1, g2, g3, g4, g5, g6⟩ := top_begin (μ := (oI μ.1 6 0, μ.2)) hN hS hR.1
    have hM2 : RepM (ν.1.1 0) S (UA S) := by rw [g4 0 (by decide)]; exact hM
    obtain ⟨a1, a2, a3, a4, a5, a6, a7⟩ := id (hI.2 b hb)
    have hl := c_lose (N := N) (by omega) hC hI hb
    have mo := n_of (μ := ν) hM2 b 0 hb (by decide) (Or.inl rfl)
    have hg : aB S 4 b = -1 ∨ ∃ l, l < 2 ∧ aB S 4 b = nI (3 + l) ∧ b ∈ aL S (3 + l) := a4.imp id (fun ⟨l, hl, e⟩ => ⟨l, hl, e, (a3 l hl).mpr e⟩)
    by_cases hw : aB S 0 b = -1
    · obtain ⟨t, c1, c2, c3⟩ := hl.1 hw
      obtain ⟨a, m1, m2⟩ := mok_e (f := fun μ => f_X9_dropGhost N μ (nI b)) (m_dropGhost (N := N) (μ := ν) (by omega) hM2 hI.1.1 hb hg)
      have hi : Inv (aLG1 S b) := Mx_Inv (Mx_LG1 (Mx_non hI hb hw)).1 ((aB_LG1 (by decide)).trans (a5 hw).1) ((aB_LG1 (by decide)).trans (a5 hw).2.1) ((aB_LG1 (by decide)).trans (a5 hw).2.2)
      refine sa_r (T := fun g m => TopK L g m κ ix nb) (γ := γ) (v := 0) (γ1 := (γ.1, γ.2.1, t.2, γ.2.2.2.1, η)) (μ1 := mM ν a (ν.1.2 19) (ν.1.2 20)) (e_x e1 (e_b g1 (e_l (e_b c1 (e_l ?_))))) (e_b e2 (e_f (by decide) (e_l (e_t rfl (e_b g2 (e_b mo (e_t hw (e_t rfl (e_b m1 rfl))))))))) ?_ ?_
      · rw [c2]; exact zb_0
      · exact g5 6 (by decide)
      · refine top_close (γ' := (γ.1, γ.2.1, t.2, γ.2.2.2.1, η)) hR hL g3 rfl rfl g4 g5 ⟨hi, c3, m2.weak (fun f x _ q => ?_), (cnt_eq hK (fun j hj => aN_LG1)).mono hL⟩
        unfold UA at q ⊢
        rwa [aB_LG1 (by decide)] at q
    · obtain ⟨l, hl3, el⟩ := a2.resolve_left hw
      obtain ⟨t, c1, c2, c3⟩ := hl.2 l hl3 el
      have hm := (a1 l hl3).mpr el
      obtain ⟨a, m1, m2⟩ := mok_e (f := fun μ => f_X9_move N μ (nI b) (-1)) (m_moveOut (N := N) (μ := ν) (by omega) hM2 (by omega) hb el hm (hI.1.1 l (by omega)).1 (hI.1.1 l (by omega)).2)
      have m3 := ((m2.drop (b := b) (f := 1) (by decide) (-1)).drop (b := b) (f := 2) (by decide) (-1)).drop (b := b) (f := 3) (by decide) (-1)
      rw [← aOut_eq] at m3
      have hX := Mx_aOut hI hb hl3 el
      have e4 : aB (aOut S b l) 4 b = aB S 4 b := by
        unfold aOut
        rw [aB_nf (by decide), aB_nf (by decide), aB_nf (by decide), aB_nf (by decide)]
        rfl
      have hg2 : aB (aOut S b l) 4 b = -1 ∨ ∃ g, g < 2 ∧ aB (aOut S b l) 4 b = nI (3 + g) ∧ b ∈ aL (aOut S b l) (3 + g) := hX.2.2.2.2.1.imp id (fun ⟨g, hg, e⟩ => ⟨g, hg, e, (hX.2.2.2.1 g hg).mpr e⟩)
      obtain ⟨a', m4, m5⟩ := mok_n (m_dropGhost (N := N) (μ := ν) (d := ν.1.2 19) (e := ν.1.2 20) (by omega) m3 hX.1.1 hb hg2)
      have q0 : aB (aOut S b l) 0 b = -1 := aB_eq
      have q3 : aB (aOut S b l) 3 b = -1 := (aB_nf (by decide)).trans aB_eq
      have q2 : aB (aOut S b l) 2 b = -1 := (aB_nf (by decide)).trans ((aB_nf (by decide)).trans aB_eq)
      have q1 : aB (aOut S b l) 1 b = -1 := (aB_nf (by decide)).trans ((aB_nf (by decide)).trans ((aB_nf (by decide)).trans aB_eq))
      have hi : Inv (aLG1 (aOut S b l) b) := Mx_Inv (Mx_LG1 hX).1 ((aB_LG1 (by decide)).trans q1) ((aB_LG1 (by decide)).trans q2) ((aB_LG1 (by decide)).trans q3)
      rw [aOut_LG1 hl3 a4] at c3
      refine sa_r (T := fun g m => TopK L g m κ ix nb) (γ := γ) (v := 1) (γ1 := (γ.1, γ.2.1, t.2, γ.2.2.2.1, η)) (μ1 := mM ν a' (ν.1.2 19) (ν.1.2 20)) (e_x e1 (e_b g1 (e_l (e_b c1 (e_l ?_))))) (e_b e2 (e_f (by decide) (e_l (e_t rfl (e_b g2 (e_b mo (e_f hw (e_f (by decide) (e_b m1 (e_b m4 rfl)))))))))) ?_ ?_
      · rw [c2]; exact zb_1
      · exact g5 6 (by decide)
      · refine top_close (γ' := (γ.1, γ.2.1, t.2, γ.2.2.2.1, η)) hR hL g3 rfl rfl g4 g5 ⟨hi, c3, m5.weak (fun f x _ q => ?_), (cnt_eq hK (fun j hj => (aN_LG1 (S := aOut S b l)).trans rfl)).mono hL⟩
        unfold UA at q
        rw [aB_LG1 (by decide)] at q
        have hx : x ≠ b := fun e => by rw [e, q0] at q; exact q rfl
        refine ⟨⟨⟨?_, fun z => hx z.2⟩, fun z => hx z.2⟩, fun z => hx z.2⟩
        show aB S 0 x ≠ -1
        have e0 : aB (aOut S b l) 0 x = aB S 0 x := by
          unfold aOut
          rw [aB_ne hx, aB_ne hx, aB_ne hx, aB_ne hx]
          rfl
        rwa [e0] at q
  · exact sa_l (T := fun g m => TopK L g m κ ix nb) (γ := γ) (k := 1) (b := 0) (μ1 := (oI μ.1 6 1, μ.2)) (e_xl e1) rfl (e_b e2 (e_t rfl (e_l (e_f (show ¬ (1 : Int32) = 0 by decide) rfl)))) rfl (hT.t6 1)
-- undo
theorem s_undo {N K L : Nat} (hN : 20000 ≤ N) (hL : K ≤ L) : Sim_undo N (TopK K) (TopK L) := by
  intro γ μ κ ix nb h
  obtain ⟨⟨S, hS⟩, hR⟩ := id h
  have hT := h.mono hL
  obtain ⟨n, w, h1, h2, h3, h4, h5, h6⟩ := id hR.1
  have tk : ∀ r, (if γ.2.2.2.2.1.2 2 = 0 then some ((0 : Int32), γ.2.2.2.2, γ.2.2.1) else (f_X1_copyFrom N γ.2.2.1 (γ.2.2.2.2.2 ((w + 7) % 8))).bind fun r8 => some ((1 : Int32), ((oI (oI γ.2.2.2.2.1 1 (nI ((w + 7) % 8))) 2 (γ.2.2.2.2.1.2 2 - 1), γ.2.2.2.2.2) : HisS), r8)) = r → f_X3_takeBack N γ.2.2.2.2 γ.2.2.1 = r := by
    intro r hr
    unfold f_X3_takeBack
    rw [h5]
    by_cases w0 : w = 0
    · subst w0
      exact e_t rfl (e_g 7 rfl (by decide) (by decide) hr)
    · have ew : nI w - 1 = nI ((w + 7) % 8) := by rw [pu_sub1 (by omega)]; congr 1; omega
      rw [ew, nI_clamp (by omega)]
      exact e_f (nI_ne0 (by omega) (by omega)) (e_f (nI_pos (by omega)) (e_f (show ¬ (8 : Int32) ≤ nI ((w + 7) % 8) from nI_ge (b := 8) (by omega) (by decide)) (e_g _ rfl (by omega) (by decide) hr)))
  by_cases n0 : n = 0
  · subst n0
    refine ⟨-1, γ, (oI μ.1 6 0, μ.2), ?_, e_l (e_t h4 rfl), hT.t6 0⟩
    exact e_b (tk _ (e_t h3 rfl)) (e_l (e_t rfl rfl))
  · obtain ⟨T, hT6⟩ := h6 0 (by omega)
    rw [show (w + 7 - 0) % 8 = (w + 7) % 8 by omega] at hT6
    obtain ⟨r, c1, c2, -⟩ := c_copy (N := N) (σ := γ.2.2.1) (by omega) hT6.2.1 hT6.1.1.2.2.2.1
    have en : nI n - 1 = nI (n - 1) := pu_sub1 (by omega)
    have hne : nI n ≠ 0 := nI_ne0 (by omega) (by omega)
    have mc := m_copy (N := N) (p := 1384 * (n - 1)) (q := 0) (nf := 11072) (nt := 1384) (f := μ.1.1 2) (g := μ.1.1 0) (by omega) (by omega) (by omega) (by decide) (by decide)
    refine ⟨nI (n - 1), (γ.1, γ.2.1, r, γ.2.2.2.1, ((oI (oI γ.2.2.2.2.1 1 (nI ((w + 7) % 8))) 2 (nI (n - 1)), γ.2.2.2.2.2) : HisS)), ((va_up μ.1.1 0 (va_cpy (μ.1.1 2) (μ.1.1 0) (1384 * (n - 1)) 0 1384), va_up (va_up μ.1.2 6 0) 5 (nI (n - 1))), μ.2), ?_, ?_, ?_⟩
    · refine e_b (tk _ (e_f (by rw [h3]; exact hne) (e_b c1 rfl))) (e_l (e_f (show ¬ (1 : Int32) = 0 by decide) ?_))
      show some (γ.2.2.2.2.1.2 2 - 1, ((γ.1, γ.2.1, r, γ.2.2.2.1, ((oI (oI γ.2.2.2.2.1 1 (nI ((w + 7) % 8))) 2 (γ.2.2.2.2.1.2 2 - 1), γ.2.2.2.2.2) : HisS)) : GLS)) = _
      rw [h3, en]
    · refine e_l (e_f (show ¬ μ.1.2 5 = 0 by rw [h4]; exact hne) (e_l ?_))
      unfold f_X9_copyM_2_0
      show ((f_X9_copy N 11072 1384 (μ.1.1 2) (μ.1.1 0) (1384 * (μ.1.2 5 - 1)) 0).bind _).bind _ = _
      rw [h4, en, pu_1384]
      refine e_b (e_b mc rfl) ?_
      show some (μ.1.2 5 - 1, (((va_up μ.1.1 0 (va_cpy (μ.1.1 2) (μ.1.1 0) (1384 * (n - 1)) 0 1384), va_up (va_up μ.1.2 6 0) 5 (μ.1.2 5 - 1)), μ.2) : MdlS)) = _
      rw [h4, en]
    · refine ⟨⟨T, ?_⟩, ?_⟩
      · refine ((show Snap K r (fun j => μ.1.1 2 (1384 * (n - 1 - 0) + j)) T from ⟨hT6.1, c2, hT6.2.2⟩).eqOn (fun j hj => ?_)).mono hL
        show va_cpy (μ.1.1 2) (μ.1.1 0) (1384 * (n - 1)) 0 1384 j = _
        have := cpy_in (f := μ.1.1 2) (g := μ.1.1 0) (p := 1384 * (n - 1)) (q := 0) hj
        rw [Nat.zero_add] at this
        exact this
      · refine (RestOk.tr (γ' := (γ.1, γ.2.1, r, γ.2.2.2.1, ((oI (oI γ.2.2.2.2.1 1 (nI ((w + 7) % 8))) 2 (nI (n - 1)), γ.2.2.2.2.2) : HisS))) (ν := ((va_up μ.1.1 0 (va_cpy (μ.1.1 2) (μ.1.1 0) (1384 * (n - 1)) 0 1384), va_up (va_up μ.1.2 6 0) 5 (nI (n - 1))), μ.2)) hR ⟨n - 1, (w + 7) % 8, by omega, Nat.mod_lt _ (by decide), rfl, rfl, rfl, fun i hi => ?_⟩ rfl rfl (fun k k0 k1 k2 => va_up_ne μ.1.1 _ k0) (fun k k5 k6 k19 k20 => (va_up_ne (va_up μ.1.2 6 0) _ k5).trans (va_up_ne μ.1.2 _ k6))).mono hL
        obtain ⟨V, hV⟩ := h6 (i + 1) (by omega)
        rw [show (w + 7 - (i + 1)) % 8 = ((w + 7) % 8 + 7 - i) % 8 by omega, show n - 1 - (i + 1) = n - 1 - 1 - i by omega] at hV
        exact ⟨V, hV⟩
-- saved states
theorem s_save {N K L : Nat} (hN : 20000 ≤ N) (hL : K ≤ L) : Sim_save N (TopK K) (TopK L) := by
  intro γ μ κ ix nb p0 h
  obtain ⟨⟨S, hS⟩, hR⟩ := id h
  obtain ⟨hI, hC, hM, hK⟩ := id hS
  have hT := h.mono hL
  obtain ⟨v1, v2, v3⟩ := id hR.2.1
  rcases r_rangeN p0 1 (n := 1) rfl with ⟨s, hs, rfl, e1, e2⟩ | ⟨e1, e2⟩
  · have hs2 : s < 2 := by omega
    have mc := m_copy (N := N) (p := 0) (q := 1384 * s) (nf := 1384) (nt := 2768) (f := μ.1.1 0) (g := μ.1.1 3) (by omega) (by omega) (by omega) (by decide) (by decide)
    have hm : f_X9_save N μ (nI s) = some (((va_up (va_up μ.1.1 3 (va_cpy (μ.1.1 0) (μ.1.1 3) 0 (1384 * s) 1384)) 4 (upd (μ.1.1 4) s 1), va_up μ.1.2 6 0), μ.2) : MdlS) := by
      refine e_b e2 (e_f (by decide) (e_l (e_t rfl ?_)))
      unfold f_X9_copyM_0_3
      show ((f_X9_copy N 1384 2768 (μ.1.1 0) (μ.1.1 3) 0 (1384 * nI s)).bind _).bind _ = _
      rw [pu_1384]
      refine e_b (e_b mc rfl) (e_g s rfl hs2 (by decide) (e_l ?_))
      rw [nI_clamp (by omega)]
      rfl
    have hrest : ∀ κ' ix' nb', SavOk K κ' ix' nb' (va_cpy (μ.1.1 0) (μ.1.1 3) 0 (1384 * s) 1384) (upd (μ.1.1 4) s 1) → TopK L γ (((va_up (va_up μ.1.1 3 (va_cpy (μ.1.1 0) (μ.1.1 3) 0 (1384 * s) 1384)) 4 (upd (μ.1.1 4) s 1), va_up μ.1.2 6 0), μ.2) : MdlS) κ' ix' nb' := fun κ' ix' nb' hs => ⟨⟨S, hS.mono hL⟩, hR.1.mono hL, hs.mono hL, hR.2.2.1, hR.2.2.2⟩
    have c8 : ∀ r, (match ix (nI s).toNatClampNeg with
        | some k => (f_X1_copyFrom N (κ k) γ.2.2.1).bind fun r => some (Sum.inr ((ix, nb, va_up κ k r) : SavR))
        | none => (f_X1_copyFrom N iCac γ.2.2.1).bind fun r => some (Sum.inr ((va_up ix (nI s).toNatClampNeg (some nb), nb + 1, va_up κ nb r) : SavR))) = some r → f_X8_save N nb ix γ.2.2.1 κ (nI s) = some (r : Nat ⊕ SavR) := fun r hr => by
      unfold f_X8_save
      exact e_f (nI_pos (by omega)) (e_t (show nI s < 2 from nI_lt (b := 2) hs2 (by decide)) hr)
    rw [nI_clamp (show s < 2 ^ 31 by omega)] at c8
    have other : ∀ t, t < 2 → t ≠ s → ∀ j, j < 1384 → va_cpy (μ.1.1 0) (μ.1.1 3) 0 (1384 * s) 1384 (1384 * t + j) = μ.1.1 3 (1384 * t + j) := fun t ht hts j hj => cpy_out (by omega)
    have same : ∀ j, j < 1384 → va_cpy (μ.1.1 0) (μ.1.1 3) 0 (1384 * s) 1384 (1384 * s + j) = μ.1.1 0 j := fun j hj => by rw [cpy_in hj, Nat.zero_add]
    cases hx : ix s with
    | some k =>
      rw [hx] at c8
      obtain ⟨r, c1, c2, -⟩ := c_copy (N := N) (σ := κ k) (by omega) hC hI.1.2.2.2.1
      refine ⟨.inr (ix, nb, va_up κ k r), _, c8 _ (e_b c1 rfl), (fun _ e => by cases e), hm, rfl, (fun _ e => by cases e), fun r' e => ?_⟩
      cases e
      refine ⟨v1, hrest (va_up κ k r) ix nb ⟨v1, v2, fun t ht => ?_⟩⟩
      by_cases ets : t = s
      · subst ets
        refine ⟨fun q => by rw [hx] at q; (cases q), fun k' hk' => ?_⟩
        rw [hx] at hk'
        cases hk'
        refine ⟨by rw [upd_eq rfl]; decide, S, ?_⟩
        rw [va_up_self]
        exact (show Snap K r (μ.1.1 0) S from ⟨hI, c2, hM, hK⟩).eqOn same
      · refine ⟨fun q => by rw [upd_ne ets]; exact (v3 t ht).1 q, fun k' hk' => ?_⟩
        obtain ⟨w1, T, w2⟩ := (v3 t ht).2 k' hk'
        rw [upd_ne ets, va_up_ne _ _ (show k' ≠ k from fun q => ets (v2 t s k (q ▸ hk') hx))]
        exact ⟨w1, T, w2.eqOn (other t ht ets)⟩
    | none =>
      rw [hx] at c8
      obtain ⟨r, c1, c2, -⟩ := c_copy (N := N) (σ := iCac) (by omega) hC hI.1.2.2.2.1
      refine ⟨.inr (va_up ix s (some nb), nb + 1, va_up κ nb r), _, c8 _ (e_b c1 rfl), (fun _ e => by cases e), hm, rfl, (fun _ e => by cases e), fun r' e => ?_⟩
      cases e
      have w1 : ∀ t k, va_up ix s (some nb) t = some k → k < nb + 1 := fun t k hk => by
        by_cases ets : t = s
        · rw [ets, va_up_self] at hk; cases hk; omega
        · rw [va_up_ne _ _ ets] at hk; have := v1 t k hk; omega
      refine ⟨w1, hrest (va_up κ nb r) (va_up ix s (some nb)) (nb + 1) ⟨w1, fun t u k ht hu => ?_, fun t ht => ?_⟩⟩
      · by_cases ets : t = s
        · by_cases eus : u = s
          · rw [ets, eus]
          · rw [ets, va_up_self] at ht
            rw [va_up_ne _ _ eus] at hu
            cases ht
            have := v1 u nb hu
            omega
        · rw [va_up_ne _ _ ets] at ht
          by_cases eus : u = s
          · rw [eus, va_up_self] at hu
            cases hu
            have := v1 t nb ht
            omega
          · rw [va_up_ne _ _ eus] at hu
            exact v2 t u k ht hu
      · by_cases ets : t = s
        · subst ets
          refine ⟨fun q => by rw [va_up_self] at q; (cases q), fun k' hk' => ?_⟩
          rw [va_up_self] at hk'
          cases hk'
          refine ⟨by rw [upd_eq rfl]; decide, S, ?_⟩
          rw [va_up_self]
          exact (show Snap K r (μ.1.1 0) S from ⟨hI, c2, hM, hK⟩).eqOn same
        · refine ⟨fun q => by rw [upd_ne ets]; rw [va_up_ne _ _ ets] at q; exact (v3 t ht).1 q, fun k' hk' => ?_⟩
          rw [va_up_ne _ _ ets] at hk'
          obtain ⟨w1, T, w2⟩ := (v3 t ht).2 k' hk'
          have := v1 t k' hk'
          rw [upd_ne ets, va_up_ne _ _ (show k' ≠ nb by omega)]
          exact ⟨w1, T, w2.eqOn (other t ht ets)⟩
  · have c8 : f_X8_save N nb ix γ.2.2.1 κ p0 = some (.inl 1) := by
      unfold f_X8_save
      by_cases c0 : p0 < 0
      · exact e_t c0 rfl
      · refine e_f c0 (e_f (fun q => ?_) rfl)
        obtain ⟨j, hj, rfl⟩ := nI_of c0
        have hj2 := (nI_ltI (b := 2) hj (by decide)).mp q
        unfold f_X9_isBetween at e2
        rw [if_neg c0, if_neg (show ¬ (1 : Int32) < nI j from nI_nlt (a := 1) (by omega) (by decide))] at e2
        cases e2
    refine ⟨.inl 1, (oI μ.1 6 1, μ.2), c8, (fun _ e => by cases e; rfl), e_b e2 (e_t rfl (e_l (e_f (show ¬ (1 : Int32) = 0 by decide) rfl))), rfl, (fun _ _ => hT.t6 1), (fun _ e => by cases e)⟩
theorem s_restore {N K L : Nat} (hN : 20000 ≤ N) (hL : K ≤ L) : Sim_restore N (TopK K) (TopK L) := by
  intro γ μ κ ix nb p0 h
  obtain ⟨⟨S, hS⟩, hR⟩ := id h
  obtain ⟨hI, hC, hM, hK⟩ := id hS
  have hT := h.mono hL
  obtain ⟨v1, v2, v3⟩ := id hR.2.1
  rcases r_rangeN p0 1 (n := 1) rfl with ⟨s, hs, rfl, e1, e2⟩ | ⟨e1, e2⟩
  · have hs2 : s < 2 := by omega
    have mc := m_copy (N := N) (p := 1384 * s) (q := 0) (nf := 2768) (nt := 1384) (f := μ.1.1 3) (g := μ.1.1 0) (by omega) (by omega) (by omega) (by decide) (by decide)
    have c8 : ∀ r, (match ix (nI s).toNatClampNeg with
        | some k => (f_X1_copyFrom N γ.2.2.1 (κ k)).bind fun r => some (Sum.inr ((γ.1, γ.2.1, r, γ.2.2.2.1, (oI γ.2.2.2.2.1 2 0, γ.2.2.2.2.2)) : GLS))
        | none => some (Sum.inl 2)) = some r → f_X8_restore N ix γ κ (nI s) = some (r : Nat ⊕ GLS) := fun r hr => by
      unfold f_X8_restore
      exact e_f (nI_pos (by omega)) (e_t (show nI s < 2 from nI_lt (b := 2) hs2 (by decide)) hr)
    rw [nI_clamp (show s < 2 ^ 31 by omega)] at c8
    have hm : ∀ r, (if μ.1.1 4 s = 0 then f_X9_restore_b28 N μ (nI s) 2 else f_X9_restore_b28 N μ (nI s) 0) = r → f_X9_restore N μ (nI s) = r := fun r hr => by
      refine e_b e2 (e_f (by decide) (e_g s rfl hs2 (by decide) ?_))
      rw [nI_clamp (by omega)]
      exact hr
    cases hx : ix s with
    | some k =>
      rw [hx] at c8
      obtain ⟨w1, T, w2⟩ := (v3 s hs2).2 k hx
      obtain ⟨r, c1, c2, -⟩ := c_copy (N := N) (σ := γ.2.2.1) (by omega) w2.2.1 w2.1.1.2.2.2.1
      refine ⟨.inr _, ((va_up μ.1.1 0 (va_cpy (μ.1.1 3) (μ.1.1 0) (1384 * s) 0 1384), va_up (va_up μ.1.2 6 0) 5 0), μ.2), c8 _ (e_b c1 rfl), (fun _ e => by cases e), hm _ (e_f w1 (e_l (e_t rfl ?_))), rfl, (fun _ e => by cases e), fun r' e => ?_⟩
      · unfold f_X9_copyM_3_0
        rw [pu_1384]
        exact e_b (e_b mc rfl) rfl
      · cases e
        refine ⟨⟨T, ?_⟩, ?_⟩
        · refine ((show Snap K r (fun j => μ.1.1 3 (1384 * s + j)) T from ⟨w2.1, c2, w2.2.2⟩).eqOn (fun j hj => ?_)).mono hL
          have := cpy_in (f := μ.1.1 3) (g := μ.1.1 0) (p := 1384 * s) (q := 0) hj
          rw [Nat.zero_add] at this
          exact this
        · obtain ⟨n, w, -, h2, -, -, h5, -⟩ := id hR.1
          exact (RestOk.tr (γ' := (γ.1, γ.2.1, r, γ.2.2.2.1, (oI γ.2.2.2.2.1 2 0, γ.2.2.2.2.2))) (ν := ((va_up μ.1.1 0 (va_cpy (μ.1.1 3) (μ.1.1 0) (1384 * s) 0 1384), va_up (va_up μ.1.2 6 0) 5 0), μ.2)) hR ⟨0, w, by omega, h2, rfl, rfl, h5, fun i hi => absurd hi (Nat.not_lt_zero _)⟩ rfl rfl (fun k k0 k1 k2 => va_up_ne μ.1.1 _ k0) (fun k k5 k6 k19 k20 => (va_up_ne (va_up μ.1.2 6 0) _ k5).trans (va_up_ne μ.1.2 _ k6))).mono hL
    | none =>
      rw [hx] at c8
      exact ⟨.inl 2, (oI μ.1 6 2, μ.2), c8 _ rfl, (fun _ e => by cases e; exact Or.inr rfl), hm _ (e_t ((v3 s hs2).1 hx) (e_l (e_f (show ¬ (2 : Int32) = 0 by decide) rfl))), rfl, (fun _ _ => hT.t6 2), (fun _ e => by cases e)⟩
  · have c8 : f_X8_restore N ix γ κ p0 = some (.inl 1) := by
      unfold f_X8_restore
      by_cases c0 : p0 < 0
      · exact e_t c0 rfl
      · refine e_f c0 (e_f (fun q => ?_) rfl)
        obtain ⟨j, hj, rfl⟩ := nI_of c0
        have hj2 := (nI_ltI (b := 2) hj (by decide)).mp q
        unfold f_X9_isBetween at e2
        rw [if_neg c0, if_neg (show ¬ (1 : Int32) < nI j from nI_nlt (a := 1) (by omega) (by decide))] at e2
        cases e2
    exact ⟨.inl 1, (oI μ.1 6 1, μ.2), c8, (fun _ e => by cases e; exact Or.inl rfl), e_b e2 (e_t rfl (e_l (e_f (show ¬ (1 : Int32) = 0 by decide) rfl))), rfl, (fun _ _ => hT.t6 1), (fun _ e => by cases e)⟩
