/-! forgetting, undo, saved states -/
def aOut (S : AS) (b l : Nat) : AS := uB (uB (uB (uB (uL S l (pu_rm (aL S l) b)) 1 b (-1)) 2 b (-1)) 3 b (-1)) 0 b (-1)
theorem Mx_Inv {S : AS} {b : Nat} (h : Mx S b) (h1 : aB S 1 b = -1) (h2 : aB S 2 b = -1) (h3 : aB S 3 b = -1) : Inv S := by
  obtain ⟨h0, q1, q2, q3, q4, q5⟩ := h
  refine ⟨h0, fun x hx => ?_⟩
  by_cases e : x = b
  · subst e
    refine ⟨fun l hl => ⟨fun q => absurd q (q1 l hl), fun q => ?_⟩, Or.inl q2, q3, q4, fun _ => ⟨h1, h2, h3⟩, fun q => ?_, fun q => absurd q2 q⟩
    · rw [q2] at q; exact absurd q (pu_m1' (by omega))
    · rw [q2] at q; rcases q with q | q
      · exact absurd q (pu_m1' (by decide))
      · exact absurd q (pu_m1' (by decide))
  · exact q5 x hx e
theorem aOut_eq (S : AS) (b l : Nat) : aOut S b l = uB (uB (uB (uB (uL S l (pu_rm (aL S l) b)) 0 b (-1)) 1 b (-1)) 2 b (-1)) 3 b (-1) := by
  refine AS_ext (fun _ => rfl) (fun _ => rfl) (fun _ _ => rfl) (fun f x => ?_)
  unfold aOut
  rw [aB_uB, aB_uB, aB_uB, aB_uB, aB_uB, aB_uB, aB_uB, aB_uB]
  repeat' split
  all_goals first | rfl | (exfalso; omega)
theorem Mx_uB {S : AS} {b f : Nat} {v : Int32} (h : Mx S b) (hf : 1 ≤ f ∧ f < 4) : Mx (uB S f b v) b := by
  obtain ⟨h0, q1, q2, q3, q4, q5⟩ := h
  refine ⟨h0, q1, (aB_nf (by omega)).trans q2, fun l hl => ?_, ?_, fun x hx hn => (q5 x hx hn).congr (fun _ _ => Iff.rfl) (fun f _ => aB_ne hn) rfl⟩
  · rw [aB_nf (f := f) (g := 4) (by omega)]; exact q3 l hl
  · rw [aB_nf (f := f) (g := 4) (by omega)]; exact q4
theorem Mx_aOut {S : AS} {b l : Nat} (h : Inv S) (hb : b < 200) (hl : l < 3) (hw : aB S 0 b = nI l) : Mx (aOut S b l) b := by
  rw [aOut_eq]
  exact Mx_uB (Mx_uB (Mx_uB (Mx_out h hb hl hw) (by decide)) (by decide)) (by decide)
theorem aB_LG1 {S : AS} {b f x : Nat} (hf : f ≠ 4) : aB (aLG1 S b) f x = aB S f x := by
  unfold aLG1
  split
  · rfl
  · rw [aB_nf hf]; rfl
theorem aN_LG1 {S : AS} {b k : Nat} : aN (aLG1 S b) k = aN S k := by
  unfold aLG1
  split <;> rfl
theorem aOut_LG1 {S : AS} {b l : Nat} (hl : l < 3) (hg : aB S 4 b = -1 ∨ ∃ g, g < 2 ∧ aB S 4 b = nI (3 + g)) : aOut (aLG1 S b) b l = aLG1 (aOut S b l) b := by
  have e4 : aB (aOut S b l) 4 b = aB S 4 b := by
    unfold aOut
    rw [aB_nf (by decide), aB_nf (by decide), aB_nf (by decide), aB_nf (by decide)]
    rfl
  rcases hg with e | ⟨g, hg, e⟩
  · unfold aLG1
    rw [if_pos e, if_pos (e4.trans e)]
  · rw [LG1_eq hg e, LG1_eq hg (e4.trans e)]
    refine AS_ext (fun _ => rfl) (fun m => ?_) (fun _ _ => rfl) (fun f x => ?_)
    · show (if m = l then pu_rm (if l = 3 + g then pu_rm (aL S (3 + g)) b else aL S l) b else if m = 3 + g then pu_rm (aL S (3 + g)) b else aL S m) = if m = 3 + g then pu_rm (if 3 + g = l then pu_rm (aL S l) b else aL S (3 + g)) b else if m = l then pu_rm (aL S l) b else aL S m
      rw [if_neg (show ¬ l = 3 + g by omega), if_neg (show ¬ 3 + g = l by omega)]
      repeat' split
      all_goals first | rfl | (exfalso; omega)
    · unfold aOut aGo
      rw [aB_uB, aB_uB, aB_uB, aB_uB, aB_uL, aB_uB, aB_uL, aB_uB, aB_uL, aB_uB, aB_uB, aB_uB, aB_uB, aB_uL]
      repeat' split
      all_goals first | rfl | (exfalso; omega)
theorem c_lose {N b : Nat} {σ : CacS} {S : AS} (hN : 100 ≤ N) (h : RepC σ S E0) (hI : Inv S) (hb : b < 200) : (aB S 0 b = -1 → Ok (f_X1_loseBlock N σ (nI b)) (fun t => t.1 = 0 ∧ RepC t.2 (aLG1 S b) E0)) ∧ ∀ l, l < 3 → aB S 0 b = nI l → Ok (f_X1_loseBlock N σ (nI b)) (fun t => t.1 = 1 ∧ RepC t.2 (aOut (aLG1 S b) b l) E0) := by
  obtain ⟨a1, a2, a3, a4, a5, a6, a7⟩ := hI.2 b hb
  constructor
  · intro hw
    unfold f_X1_loseBlock
    refine ok_bindE (p0_listOf h.2.1 (fun q => q) hb) (ok_bind (c_loseGhost hN h hb hI.1.1 a4) (fun t ht => ok_t hw (ok_some ⟨rfl, ht.1⟩)))
  · intro l hl hw
    unfold f_X1_loseBlock
    refine ok_bindE (p0_listOf h.2.1 (fun q => q) hb) (ok_bind (c_loseGhost hN h hb hI.1.1 a4) (fun t ht => ?_))
    rw [hw]
    have eL : aL (aLG1 S b) l = aL S l := by
      unfold aLG1
      split
      · rfl
      · next q =>
        obtain ⟨g, hg, eg⟩ := a4.resolve_left q
        rw [eg, nI_clamp (by omega)]
        exact if_neg (by omega)
    refine ok_f (pu_m1 (by omega)) (ok_bindE (c_rowOf (by omega)) ?_)
    have hr : RowL (t (3 + l)) (aL (aLG1 S b) l) := ht.1.2.2.2.1 l (by omega)
    obtain ⟨τ, e1, h1⟩ := p5_takeOut (N := N) hr (by rw [eL]; exact (hI.1.1 l (by omega)).2) hb hN
    refine ok_bindE e1 (ok_let ?_)
    have hA := ht.1.row (l := l) (by omega) h1
    refine ok_bind (p0_dropUnit hA.2.1 hb) (fun t2 ht2 => ok_let (ok_some ⟨rfl, ?_⟩))
    exact (hA.b ht2 (((sB_uB _ _ _ _).tr (sB_uB _ _ _ _)).tr ((sB_uB _ _ _ _).tr (sB_uB _ _ _ _)))).wk (F := E0) (fun b _ q => q.1)
