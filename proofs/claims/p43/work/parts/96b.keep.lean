/-! WHAT THE LAW KEEPS: each block's value and store as the law knows them, and since when it is dirty -/
def NB (S : AS) (w : Nat → Int32) (t x : Nat) : Prop := (aB S 0 x ≠ -1 → aB S 1 x = w x) ∧ (aB S 3 x = -1 → aB S 5 x = w x) ∧ (aB S 3 x = -1 ∨ ∃ s, s ≤ t ∧ aB S 3 x = nI s)
def VB (S : AS) (w : Nat → Int32) (t b : Nat) : Prop := aB S 1 b = w b ∧ (aB S 3 b = -1 → aB S 5 b = w b) ∧ (aB S 3 b = -1 ∨ ∃ s, s ≤ t ∧ aB S 3 b = nI s)
def JN (S : AS) (w : Nat → Int32) (t : Nat) : Prop := ∀ x, x < 200 → NB S w t x
def JX (S : AS) (w : Nat → Int32) (t b : Nat) : Prop := (∀ x, x < 200 → x ≠ b → NB S w t x) ∧ VB S w t b
def q4 (f : Nat) : Prop := f = 0 ∨ f = 1 ∨ f = 3 ∨ f = 5
theorem NB.congr {S T : AS} {w : Nat → Int32} {t x : Nat} (h : NB S w t x) (e : ∀ f, q4 f → aB T f x = aB S f x) : NB T w t x := by
  unfold NB
  rw [e 0 (Or.inl rfl), e 1 (Or.inr (Or.inl rfl)), e 3 (Or.inr (Or.inr (Or.inl rfl))), e 5 (Or.inr (Or.inr (Or.inr rfl)))]
  exact h
theorem VB.congr {S T : AS} {w : Nat → Int32} {t x : Nat} (h : VB S w t x) (e : ∀ f, f = 1 ∨ f = 3 ∨ f = 5 → aB T f x = aB S f x) : VB T w t x := by
  unfold VB
  rw [e 1 (Or.inl rfl), e 3 (Or.inr (Or.inl rfl)), e 5 (Or.inr (Or.inr rfl))]
  exact h
theorem NB.mono {S : AS} {w : Nat → Int32} {t u x : Nat} (h : NB S w t x) (hu : t ≤ u) : NB S w u x := ⟨h.1, h.2.1, h.2.2.imp id (fun ⟨s, a, b⟩ => ⟨s, Nat.le_trans a hu, b⟩)⟩
theorem JN.mono {S : AS} {w : Nat → Int32} {t u : Nat} (h : JN S w t) (hu : t ≤ u) : JN S w u := fun x hx => (h x hx).mono hu
theorem JX.congr {S T : AS} {w : Nat → Int32} {t b : Nat} (h : JX S w t b) (e : ∀ f x, q4 f → aB T f x = aB S f x) : JX T w t b :=
  ⟨fun x hx hne => (h.1 x hx hne).congr (fun f hf => e f x hf), h.2.congr (fun f hf => e f b (Or.inr hf))⟩
theorem JN.congr {S T : AS} {w : Nat → Int32} {t : Nat} (h : JN S w t) (e : ∀ f x, q4 f → aB T f x = aB S f x) : JN T w t := fun x hx => (h x hx).congr (fun f hf => e f x hf)
theorem m1_ne2 : (2 : Int32) ≠ -1 := by decide
theorem nIl_ne {l : Nat} (hl : l < 5) : nI l ≠ (-1 : Int32) := pu_m1 (by omega)
section JJ
variable {S : AS} {w : Nat → Int32} {t b : Nat}
/-- b goes out of LOWER, or is made a clean unit: what stands in no list then -/
theorem JX_out {l : Nat} {L : List Nat} (h : JN S w t) (hb : b < 200) (hw : aB S 0 b ≠ -1) : JX (uB (uL S l L) 0 b (-1)) w t b :=
  ⟨fun x hx hne => (h x hx).congr (fun f _ => aB_ne hne), ⟨(aB_nf (by decide)).trans ((h b hb).1 hw), fun q => (aB_nf (by decide)).trans ((h b hb).2.1 ((aB_nf (S := uL S l L) (by decide)).symm.trans q)), by
    have := (h b hb).2.2
    rw [aB_nf (by decide)]
    exact this⟩⟩
theorem JX_clean (h : ∀ x, x < 200 → x ≠ b → NB S w t x) (h5 : aB S 5 b = w b) : JX (aClean S b) w t b :=
  ⟨fun x hx hne => (h x hx hne).congr (fun f _ => (aB_ne hne).trans (aB_ne hne)), by
    have e3 : aB (aClean S b) 3 b = -1 := aB_eq
    refine ⟨(aB_nf (by decide)).trans (aB_eq.trans h5), fun _ => ((aB_nf (by decide)).trans (aB_nf (by decide))).trans h5, Or.inl e3⟩⟩
theorem JX_top (h : JN S w t) (hI : Inv S) (hb : b < 200) (hw : aB S 0 b = -1 ∨ aB S 0 b = 2) : JX (aTop S b) w t b := by
  by_cases e : aB S 0 b = 2
  · rw [aTop_2 e]
    exact JX_out h hb (by rw [e]; decide)
  · rw [aTop_n e]
    have e0 := hw.resolve_right e
    exact JX_clean (fun x hx _ => h x hx) ((h b hb).2.1 ((hI.2 b hb).2.2.2.2.1 e0).2.2)
theorem aB_Ln (S : AS) (g : Int32) (f x : Nat) : aB (aLn S g) f x = aB S f x := by
  unfold aLn
  split
  · rfl
  · split <;> rfl
theorem JX_s3 (h : JN S w t) (hI : Inv S) (hb : b < 200) (hw : aB S 0 b = -1 ∨ aB S 0 b = 2) : JX (aS3 S b) w t b :=
  ((JX_top h hI hb hw).congr (fun f x _ => aB_Ln (aTop S b) (aB S 4 b) f x)).congr (fun f x hf => aB_LG1 (by rcases hf with rfl | rfl | rfl | rfl <;> decide))
/-- the unit that leaves LOWER -/
theorem aX_in {S : AS} (hL : LOk S) (hw : lowOk S) (hl : aLow S) : aX S ∈ aL S 2 := by
  obtain ⟨u, h1, h2, h3, h4⟩ := hw
  have h5 : u ≤ (aL S 2).length := (aLow_iff h1 h3 h4).mp hl
  exact aLv_mem (by omega) _ (Nat.le_refl _)
theorem aB_dropne {S : AS} {y f x : Nat} (h : x ≠ y) : aB (aDrop S y) f x = aB S f x := by
  show aB (uB (uB (uB (uB (uL S 2 _) 1 y (-1)) 2 y (-1)) 3 y (-1)) 0 y (-1)) f x = _
  rw [aB_ne h, aB_ne h, aB_ne h, aB_ne h, aB_uL]
theorem aB_wune {S : AS} {y f x : Nat} (h : x ≠ y) : aB (aWU S y) f x = aB S f x := by
  show aB (uB (uB S 5 y _) 3 y (-1)) f x = _
  rw [aB_ne h, aB_ne h]
theorem aB_MRne {S : AS} {f x : Nat} (h : x ≠ aX S) : aB (aMR S) f x = aB S f x := by
  by_cases hl : aLow S
  · rw [aMR_t hl, aB_dropne h]
    unfold aCl
    split
    · rfl
    · exact aB_wune h
  · rw [aMR_f hl]
theorem NB_MR (hl : aLow S) (h : NB S w t (aX S)) (hu : aB S 0 (aX S) ≠ -1) : NB (aMR S) w t (aX S) := by
  rw [aMR_t hl]
  have e0 : aB (aDrop (aCl S (aX S)) (aX S)) 0 (aX S) = -1 := aB_eq
  have e3 : aB (aDrop (aCl S (aX S)) (aX S)) 3 (aX S) = -1 := (aB_nf (by decide)).trans aB_eq
  have e5 : aB (aDrop (aCl S (aX S)) (aX S)) 5 (aX S) = aB (aCl S (aX S)) 5 (aX S) := by
    show aB (uB (uB (uB (uB (uL _ 2 _) 1 _ (-1)) 2 _ (-1)) 3 _ (-1)) 0 _ (-1)) 5 _ = _
    rw [aB_nf (by decide), aB_nf (by decide), aB_nf (by decide), aB_nf (by decide), aB_uL]
  refine ⟨fun q => absurd e0 q, fun _ => ?_, Or.inl e3⟩
  rw [e5]
  unfold aCl
  by_cases hd : aB S 3 (aX S) = -1
  · rw [if_pos hd]; exact h.2.1 hd
  · rw [if_neg hd]
    show aB (uB (uB S 5 (aX S) (aB S 1 (aX S))) 3 (aX S) (-1)) 5 (aX S) = _
    rw [aB_nf (by decide), aB_eq]
    exact h.1 hu
theorem Mx_X {S : AS} {b : Nat} (hM : Mx S b) (hl : aLow S) : aX S < 200 ∧ aX S ≠ b ∧ aB S 0 (aX S) = 2 := by
  have h1 := aX_in hM.1.1 hM.1.2.1 hl
  have h2 := (hM.1.1 2 (by decide)).2 _ h1
  have h3 : aX S ≠ b := fun e => hM.2.1 2 (by decide) (by rw [← e]; exact h1)
  exact ⟨h2, h3, ((hM.2.2.2.2.2 _ h2 h3).1 2 (by decide)).mp h1⟩
theorem JX_MR (h : JX S w t b) (hM : Mx S b) : JX (aMR S) w t b := by
  by_cases hl : aLow S
  · obtain ⟨x1, x2, x3⟩ := Mx_X hM hl
    refine ⟨fun x hx hne => ?_, h.2.congr (fun f _ => aB_MRne (fun e => x2 e.symm))⟩
    by_cases e : x = aX S
    · subst e
      exact NB_MR hl (h.1 _ hx hne) (by rw [x3]; decide)
    · exact (h.1 x hx hne).congr (fun f _ => aB_MRne e)
  · rw [aMR_f hl]; exact h
theorem JN_MR (h : JN S w t) (hM : Mx S b) : JN (aMR S) w t := by
  by_cases hl : aLow S
  · obtain ⟨x1, x2, x3⟩ := Mx_X hM hl
    intro x hx
    by_cases e : x = aX S
    · subst e
      exact NB_MR hl (h _ hx) (by rw [x3]; decide)
    · exact (h x hx).congr (fun f _ => aB_MRne e)
  · rw [aMR_f hl]; exact h
theorem aB_LGn {S : AS} {l f x : Nat} (hf : f ≠ 4) : aB (aLG S (3 + l)) f x = aB S f x := by
  rcases LG_cases S l with ⟨-, e⟩ | ⟨-, e⟩
  · rw [e, aB_go hf]
  · rw [e]
theorem aB_dem {S : AS} {x l f y : Nat} (hl : l < 2) (hf : f ≠ 4) : aB (aDem S x l) f y = if f = 0 ∧ y = x then 2 else aB S f y := by
  rw [aDem_eq S x l hl]
  show aB (aMv (aLG S (3 + l)) x l) f y = _
  rw [aB_mv, if_neg (show ¬ (f = 4 ∧ y = x) from fun q => hf q.1), aB_LGn hf]
theorem JX_dem {x l : Nat} (h : JX S w t b) (hM : Mx S b) (hl : l < 2) (hx : x ∈ aL S l) : JX (aDem S x l) w t b := by
  have hx2 := (hM.1.1 l (by omega)).2 x hx
  have hne : x ≠ b := fun e => hM.2.1 l (by omega) (by rw [← e]; exact hx)
  have h0 : aB S 0 x = nI l := ((hM.2.2.2.2.2 x hx2 hne).1 l (by omega)).mp hx
  have g : ∀ f y, q4 f → f ≠ 0 → aB (aDem S x l) f y = aB S f y := fun f y hf h9 => by
    rw [aB_dem hl (by rcases hf with rfl | rfl | rfl | rfl <;> decide), if_neg (fun q => h9 q.1)]
  refine ⟨fun y hy hyb => ?_, h.2.congr (fun f hf => g f b (Or.inr hf) (by rcases hf with rfl | rfl | rfl <;> decide))⟩
  have hn := h.1 y hy hyb
  by_cases e : y = x
  · subst e
    refine ⟨fun _ => ?_, fun q => ?_, ?_⟩
    · rw [g 1 y (Or.inr (Or.inl rfl)) (by decide)]; exact hn.1 (by rw [h0]; exact nIl_ne (by omega))
    · rw [g 3 y (Or.inr (Or.inr (Or.inl rfl))) (by decide)] at q
      rw [g 5 y (Or.inr (Or.inr (Or.inr rfl))) (by decide)]; exact hn.2.1 q
    · rw [g 3 y (Or.inr (Or.inr (Or.inl rfl))) (by decide)]; exact hn.2.2
  · exact hn.congr (fun f hf => by rw [aB_dem hl (by rcases hf with rfl | rfl | rfl | rfl <;> decide), if_neg (fun q => e q.2)])
theorem JX_Mk {wf : Int32} (h : JX S w t b) (hM : Mx S b) : JX (aMk S wf) w t b := by
  by_cases hf : aFull S
  · rw [aMk_t hf]
    exact JX_dem (JX_MR h hM) (Mx_MR hM) (aVl_lt wf) (by rw [aL_MR (by have := aVl_lt (S := S) wf; omega)]; exact aV_mem hM.1.2.2.1 hf)
  · rw [aMk_f hf]; exact h
theorem JN_In {l : Nat} (h : JX S w t b) : JN (aIn S b l) w t := fun x hx => by
  have g : ∀ f y, f ≠ 0 → aB (aIn S b l) f y = aB S f y := fun f y hf => by
    show aB (uB S 0 b (nI l)) f y = _
    exact aB_nf hf
  by_cases e : x = b
  · subst e
    obtain ⟨a1, a2, a3⟩ := h.2
    refine ⟨fun _ => by rw [g 1 x (by decide)]; exact a1, fun q => ?_, ?_⟩
    · rw [g 3 x (by decide)] at q; rw [g 5 x (by decide)]; exact a2 q
    · rw [g 3 x (by decide)]; exact a3
  · exact (h.1 x hx e).congr (fun f hf => by
      show aB (uB S 0 b (nI l)) f x = _
      exact aB_ne e)
theorem JN_come (h : JN S w t) (hI : Inv S) (hb : b < 200) (hw : aB S 0 b = -1 ∨ aB S 0 b = 2) : JN (aCome S b) w t :=
  JN_In (JX_Mk (JX_s3 h hI hb hw) (Mx_s3 hI hb hw).1)
theorem JN_mt {l l2 : Nat} (h : JN S w t) (hb : b < 200) (hw : aB S 0 b ≠ -1) : JN (aMt S b l l2) w t := by
  rw [Mt_In]
  exact JN_In (JX_out h hb hw)
theorem JN_scan (h : JN S w t) (hI : Inv S) (hb : b < 200) (hw : aB S 0 b = -1 ∨ aB S 0 b = 2) : JN (aScan S b) w t := by
  unfold aScan
  by_cases e : aB S 0 b = 2
  · rw [if_pos e]; exact JN_mt h hb (by rw [e]; decide)
  · rw [if_neg e]
    have e0 := hw.resolve_right e
    have hM := Mx_non hI hb e0
    have h1 := JN_MR h hM
    refine JN_In (JX_clean (fun x hx _ => h1 x hx) ?_)
    refine (h1 b hb).2.1 ?_
    have e3 := ((hI.2 b hb).2.2.2.2.1 e0).2.2
    by_cases hl : aLow S
    · rw [aB_MRne (fun q => (Mx_X hM hl).2.1 q.symm)]; exact e3
    · rw [aMR_f hl]; exact e3
theorem JN_md {s : Int32} (h : JN S w t) (hI : Inv S) (hb : b < 200) : JN (aMd S b s) w t := by
  rcases wh_cases hI hb with ⟨k, e⟩ | ⟨k, e⟩ | ⟨l, hl, k, e⟩
  · by_cases hs : s = 0
    · rw [hs, md_c (by rw [k]; decide)]; exact JN_come h hI hb (Or.inl e)
    · rw [md_s (by rw [k]; decide) hs]; exact JN_scan h hI hb (Or.inl e)
  · by_cases hs : s = 0
    · rw [hs, md_c (by rw [k]; decide)]; exact JN_come h hI hb (Or.inr e)
    · rw [md_s (by rw [k]; decide) hs]; exact JN_scan h hI hb (Or.inr e)
  · by_cases hs : s = 0
    · rw [hs, md_0 k (by omega) e]; exact JN_mt h hb (by rw [e]; exact nIl_ne (by omega))
    · rw [md_1 k hs]; exact h
theorem JN_acc {c : Nat} {v : Int32} (h : JN S w t) (hI : Inv S) (hb : b < 200) : JN (aAcc S c b v) w t := by
  rw [acc_eq]
  have h4 : JN (aM4 S c b) w t := h.congr (fun f x _ => aB_M4 S c b f x)
  exact (JN_md (s := aSc S c b) h4 (Inv_M4 hI hb) hb).congr (fun f x hf => by
    show aB (uB (aMd (aM4 S c b) b (aSc S c b)) 2 b (nI c)) f x = _
    exact aB_nf (by rcases hf with rfl | rfl | rfl | rfl <;> decide))
end JJ
