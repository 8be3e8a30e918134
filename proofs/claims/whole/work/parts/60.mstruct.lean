/-! the model's steps of an access -/
theorem aB_wuN {S : AS} {y f x : Nat} (h3 : f ≠ 3) (h5 : f ≠ 5) : aB (aWU S y) f x = aB S f x := by
  show aB (uB (uB S 5 y (aB S 1 y)) 3 y (-1)) f x = _
  rw [aB_nf h3, aB_nf h5]
theorem aB_cl {S : AS} {y f x : Nat} (h3 : f ≠ 3) (h5 : f ≠ 5) : aB (aCl S y) f x = aB S f x := by
  unfold aCl
  split
  · rfl
  · exact aB_wuN h3 h5
theorem aB_MR0 (S : AS) (x : Nat) : aB (aMR S) 0 x = @ite _ (aLow S ∧ x = aX S) (@instDecidableAnd _ _ (inferInstanceAs (Decidable (_ = _))) (inferInstanceAs (Decidable (_ = _)))) (-1) (aB S 0 x) := by
  by_cases e : aLow S
  · rw [aMR_t e]
    show aB (uB _ 0 (aX S) (-1)) 0 x = _
    by_cases ex : x = aX S
    · rw [if_pos ⟨e, ex⟩, ex, aB_eq]
    · rw [if_neg (fun q => ex q.2), aB_ne ex]
      show aB (uB (uB (uB (uL (aCl S (aX S)) 2 _) 1 _ _) 2 _ _) 3 _ _) 0 x = _
      rw [aB_ne ex, aB_ne ex, aB_ne ex]
      exact aB_cl (by decide) (by decide)
  · rw [aMR_f e, if_neg (fun q => e q.1)]
theorem aB_MR4 (S : AS) (x : Nat) : aB (aMR S) 4 x = aB S 4 x := by
  by_cases e : aLow S
  · rw [aMR_t e]
    show aB (uB (uB (uB (uB (uL (aCl S (aX S)) 2 _) 1 _ _) 2 _ _) 3 _ _) 0 _ _) 4 x = _
    rw [aB_nf (by decide), aB_nf (by decide), aB_nf (by decide), aB_nf (by decide)]
    exact aB_cl (by decide) (by decide)
  · rw [aMR_f e]
theorem aX_congr {S T : AS} (h2 : aL T 2 = aL S 2) (h3 : ∀ x, aB T 3 x = aB S 3 x) : aX T = aX S := by
  have e (n : Nat) : aLv T n = aLv S n := by
    induction n with
    | zero => rw [aLv, aLv, h2]
    | succ n ih => rw [aLv, aLv, h2, h3, ih]
  unfold aX
  rw [h2]
  exact e _
theorem aMR_uL {S : AS} {g : Nat} {L : List Nat} (hg : g ≠ 2) : aMR (uL S g L) = uL (aMR S) g L := by
  have h2 : aL (uL S g L) 2 = aL S 2 := aL_ne hg.symm
  have hx : aX (uL S g L) = aX S := aX_congr h2 (fun _ => rfl)
  have hl : aLow (uL S g L) ↔ aLow S := by unfold aLow; rw [h2]; rfl
  by_cases e : aLow S
  · rw [aMR_t e, aMR_t (hl.mpr e), hx]
    have hc : aCl (uL S g L) (aX S) = uL (aCl S (aX S)) g L := by
      show (if aB S 3 (aX S) = -1 then _ else _) = uL (if aB S 3 (aX S) = -1 then _ else _) g L
      split <;> rfl
    have hc2 : aL (aCl S (aX S)) 2 = aL S 2 := by unfold aCl; split <;> rfl
    rw [hc]
    show uN (uB (uB (uB (uB (uL (uL (aCl S (aX S)) g L) 2 (pu_rm (aL (uL (aCl S (aX S)) g L) 2) (aX S))) 1 _ _) 2 _ _) 3 _ _) 0 _ _) 20 _ = _
    rw [aL_ne hg.symm, uL_comm hg]
    rfl
  · rw [aMR_f e, aMR_f (fun q => e (hl.mp q))]
theorem uB4_low {S : AS} {y f x : Nat} {v w : Int32} (hf : f ≠ 4) : uB (uB S 4 y v) f x w = uB (uB S f x w) 4 y v := uB_comm (fun q => hf q.1.symm)
theorem aMR_uB4 {S : AS} {y : Nat} {v : Int32} : aMR (uB S 4 y v) = uB (aMR S) 4 y v := by
  have h3 (x : Nat) : aB (uB S 4 y v) 3 x = aB S 3 x := aB_nf (by decide)
  have hx : aX (uB S 4 y v) = aX S := aX_congr rfl h3
  have hl : aLow (uB S 4 y v) ↔ aLow S := Iff.rfl
  by_cases e : aLow S
  · rw [aMR_t e, aMR_t (hl.mpr e), hx]
    have hw (z : Nat) : aWU (uB S 4 y v) z = uB (aWU S z) 4 y v := by
      show uN (uN (uB (uB (uB S 4 y v) 5 z (aB (uB S 4 y v) 1 z)) 3 z (-1)) 13 _) 21 _ = _
      rw [aB_nf (by decide), uB4_low (by decide), uB4_low (by decide)]
      rfl
    have hc : aCl (uB S 4 y v) (aX S) = uB (aCl S (aX S)) 4 y v := by
      unfold aCl
      rw [h3]
      split
      · rfl
      · exact hw _
    rw [hc]
    show uN (uB (uB (uB (uB (uB (uL (aCl S (aX S)) 2 _) 4 y v) 1 _ _) 2 _ _) 3 _ _) 0 _ _) 20 _ = _
    rw [uB4_low (by decide), uB4_low (by decide), uB4_low (by decide), uB4_low (by decide)]
    rfl
  · rw [aMR_f e, aMR_f (fun q => e (hl.mp q))]
theorem aMR_LG (S : AS) (l : Nat) : aMR (aLG S (3 + l)) = aLG (aMR S) (3 + l) := by
  have e1 : aN (aMR S) 2 = aN S 2 := aN_MR (by decide) (by decide) (by decide)
  have e2 : aL (aMR S) (3 + l) = aL S (3 + l) := aL_MR (by omega)
  unfold aLG
  rw [e1, e2]
  split
  · rw [aMR_uB4, aMR_uL (by omega)]
  · rfl
theorem aMR_G2 (S : AS) (x l : Nat) : aMR (aG2 S x l) = aG2 (aMR S) x l := by
  unfold aG2
  rw [aMR_uL (by omega), aMR_uB4, aL_MR (by omega)]
section MM
variable {μ : MdlS} {d e : Int32} {a : Nat → Int32} {S : AS} {U : Nat → Nat → Prop}
theorem m_isDirty1 (h : RepM a S U) {b : Nat} (hb : b < 200) (hw : aB S 0 b ≠ -1) (hU : U 3 b) : f_X9_isDirty (mM μ a d e) (nI b) = some (if aB S 3 b = -1 then 0 else 1) := by
  unfold f_X9_isDirty
  rw [show f_X9_of (mM μ a d e) (nI b) 0 = some (aB S 0 b) from m_of h b 0 hb (by decide) (Or.inl rfl), Option.bind_some, if_neg hw, show f_X9_of (mM μ a d e) (nI b) 3 = some (aB S 3 b) from m_of h b 3 hb (by decide) (Or.inr (Or.inr hU)), Option.bind_some]
  split <;> rfl
theorem m_leave_b8 {N : Nat} (h : RepM a S U) (hE : ∀ x ∈ aL S 2, x < 200 ∧ U 3 x) (hp : 0 < (aL S 2).length) : ∀ n m, n ≤ (aL S 2).length → n < m → f_X9_leavingUnit_b8 N m (mM μ a d e) (nI n - 1) = some (nI (aLv S n)) := by
  have h24 := (h.2.1 2 (by decide)).1
  have hlen : f_X9_length (mM μ a d e) 2 = some (nI (aL S 2).length) := m_len h 2 (by decide)
  have hbA (i : Nat) (hi : i < (aL S 2).length) : f_X9_blockAt (mM μ a d e) 2 (nI i) = some (nI ((aL S 2).getD i 0)) := m_bAt h 2 i (by decide) hi
  intro n
  induction n with
  | zero =>
    intro m hn hm
    obtain ⟨m, rfl⟩ : ∃ k, m = k + 1 := ⟨m - 1, by omega⟩
    rw [f_X9_leavingUnit_b8, if_pos (show nI 0 - 1 < 0 by decide), hlen, Option.bind_some, pu_sub1 (by omega), hbA _ (by omega)]
    rfl
  | succ n ih =>
    intro m hn hm
    obtain ⟨m, rfl⟩ : ∃ k, m = k + 1 := ⟨m - 1, by omega⟩
    obtain ⟨hx, hU⟩ := hE _ (pu_getD_mem (show n < (aL S 2).length by omega))
    rw [f_X9_leavingUnit_b8, nI_pred, if_neg (nI_pos (by omega)), hbA n (by omega), Option.bind_some, show f_X9_of (mM μ a d e) (nI ((aL S 2).getD n 0)) 3 = some (aB S 3 ((aL S 2).getD n 0)) from m_of h _ 3 hx (by decide) (Or.inr (Or.inr hU)), Option.bind_some, aLv]
    by_cases e : aB S 3 ((aL S 2).getD n 0) = -1
    · rw [if_pos e, if_pos e]; rfl
    · rw [if_neg e, if_neg e, pu_s]
      exact ih m (by omega) (by omega)
theorem m_leave {N : Nat} (hN : 100 ≤ N) (h : RepM a S U) (hE : ∀ x ∈ aL S 2, x < 200 ∧ U 3 x) (hp : 0 < (aL S 2).length) : f_X9_leavingUnit N (mM μ a d e) = some (nI (aX S)) := by
  have h24 := (h.2.1 2 (by decide)).1
  unfold f_X9_leavingUnit
  rw [show f_X9_length (mM μ a d e) 2 = some (nI (aL S 2).length) from m_len h 2 (by decide), Option.bind_some]
  exact m_leave_b8 h hE hp _ N (Nat.le_refl _) (by omega)
theorem m_room_b37 {N x : Nat} (hN : 100 ≤ N) (h : RepM a S U) (hL : (aL S 2).Nodup ∧ ∀ y ∈ aL S 2, y < 200) (hx : x ∈ aL S 2) (hw : aB S 0 x = 2) : MOk (f_X9_makeRoomBelow_b37 N (mM μ a d e) (nI x)) μ d e (fun a' => RepM a' (aDrop S x) (fun f y => U f y ∧ y ≠ x)) := by
  have hx2 := hL.2 x hx
  unfold f_X9_makeRoomBelow_b37
  refine mok_bind (m_moveOut (l := 2) hN h (by decide) hx2 hw hx hL.1 hL.2) (fun a1 h1 => ok_gd 20 rfl (by decide) (by decide) (ok_gd 20 rfl (by decide) (by decide) (ok_let ?_)))
  rw [mM_set, mM_a]
  refine ok_some ⟨_, rfl, ?_⟩
  have h2 := ((h1.drop (b := x) (f := 1) ⟨by decide, by decide⟩ (-1)).drop (b := x) (f := 2) ⟨by decide, by decide⟩ (-1)).drop (b := x) (f := 3) ⟨by decide, by decide⟩ (-1)
  have h3 := h2.setN (k := 20) (by omega) (aN S 20 + 1)
  rw [show a1 (Int32.toNatClampNeg 20) = aN S 20 from h1.1 20 (by omega)]
  have e1 : uB (uB (uB (uB (uL S 2 (pu_rm (aL S 2) x)) 0 x (-1)) 1 x (-1)) 2 x (-1)) 3 x (-1) = uB (uB (uB (uB (uL S 2 (pu_rm (aL S 2) x)) 1 x (-1)) 2 x (-1)) 3 x (-1)) 0 x (-1) := by
    rw [uB_comm (f := 0) (g := 1) (by omega), uB_comm (f := 0) (g := 2) (by omega), uB_comm (f := 0) (g := 3) (by omega)]
  rw [e1] at h3
  refine RepM.weak (V := fun f y => U f y ∧ y ≠ x) h3 (fun f y _ q => ⟨⟨⟨q.1, fun z => q.2 z.2⟩, fun z => q.2 z.2⟩, fun z => q.2 z.2⟩)
theorem m_makeRoom {N : Nat} (hN : 1000 ≤ N) (h : RepM a S U) (hL : (aL S 2).Nodup ∧ ∀ y ∈ aL S 2, y < 200) (hW : lowOk S) (hw : ∀ y ∈ aL S 2, aB S 0 y = 2) (hU : ∀ y ∈ aL S 2, U 1 y ∧ U 3 y) : MOk (f_X9_makeRoomBelow N (mM μ a d e)) μ d (aLf S e) (fun a' => RepM a' (aMR S) (fun f y => U f y ∧ (aLow S → y ≠ aX S))) := by
  obtain ⟨w, w1, w2, w3, w4⟩ := hW
  unfold f_X9_makeRoomBelow
  refine ok_bindE (m_len h 2 (by decide)) (ok_gd 3 rfl (by decide) (by decide) ?_)
  rw [show (mM μ a d e).1.1 0 (Int32.toNatClampNeg 3) = aN S 3 from m_num h (Or.inl (by decide))]
  by_cases e1 : aLow S
  · have hlow := (aLow_iff w1 w3 w4).mp e1
    have hx : aX S ∈ aL S 2 := aLv_mem (by omega) _ (Nat.le_refl _)
    have hx2 := hL.2 _ hx
    have hwx := hw _ hx
    have hne : aB S 0 (aX S) ≠ -1 := by rw [hwx]; decide
    rw [aLf_t e1, aMR_t e1]
    refine ok_t e1.symm (ok_bindE (m_leave (by omega) h (fun y hy => ⟨hL.2 y hy, (hU y hy).2⟩) (by omega)) (ok_let ?_))
    rw [mM_20]
    refine ok_bindE (m_isDirty1 h hx2 hne (hU _ hx).2) ?_
    unfold aCl
    by_cases e3 : aB S 3 (aX S) = -1
    · rw [if_pos e3, if_pos e3]
      exact ok_t rfl (mok_mono (m_room_b37 (by omega) h hL hx hwx) (fun a' ha => ha.weak (fun f y _ q => ⟨q.1, q.2 e1⟩)))
    · rw [if_neg e3, if_neg e3]
      refine ok_f (by decide) (mok_bind (m_writeUnit h hx2 (hU _ hx).1) (fun a1 h1 => ?_))
      refine mok_mono (m_room_b37 (by omega) h1 hL hx ?_) (fun a' ha => ha.weak (fun f y _ q => ⟨Or.inl q.1, q.2 e1⟩))
      rw [aB_wu0]; exact hwx
  · rw [aLf_f e1, aMR_f e1]
    refine ok_f (fun q => e1 q.symm) (mok_some (h.weak (fun f y _ q => q.1)))
theorem m_clean (h : RepM a S U) {b : Nat} (hb : b < 200) : MOk (f_X9_clean (mM μ a d e) (nI b)) μ d e (fun a' => RepM a' (aClean S b) (fun f y => U f y ∨ (f = 1 ∨ f = 3) ∧ y = b)) := by
  unfold f_X9_clean
  refine ok_gd (1184 + b) (pu_st b) (by omega) (by decide) ?_
  rw [pu_st, nI_clamp (by omega), mM_a, (h.2.2.2 b hb).1]
  refine ok_bindE (m_put b 1 hb (by decide) (aB S 5 b)) (ok_bindE (m_put b 3 hb (by decide) (-1)) (mok_some ?_))
  exact ((h.setB hb (f := 1) (by decide) (aB S 5 b)).setB hb (f := 3) (by decide) (-1)).weak (fun f y _ q => q.elim (fun q => Or.inl (Or.inl q)) (fun q => q.1.elim (fun z => Or.inl (Or.inr ⟨z, q.2⟩)) (fun z => Or.inr ⟨z, q.2⟩)))
theorem m_learn (h : RepM a S U) {g : Int32} (hg : g = 3 ∨ g = 4) (h3 : g = 3 → 0 < (aL S 3).length) (h4 : g = 4 → 0 < (aL S 4).length) : MOk (f_X9_learn (mM μ a d e) g) μ d e (fun a' => RepM a' (aLn S g) U) := by
  have l3 := (h.2.1 3 (by decide)).1
  have l4 := (h.2.1 4 (by decide)).1
  have q4 : (mM μ a d e).1.1 0 (Int32.toNatClampNeg 4) = aN S 4 := m_num h (Or.inl (by decide))
  have q2 : (mM μ a d e).1.1 0 (Int32.toNatClampNeg 2) = aN S 2 := m_num h (Or.inl (by decide))
  unfold f_X9_learn
  refine ok_bindE (m_len h 3 (by decide)) (ok_bindE (m_len h 4 (by decide)) ?_)
  rw [q4, q2]
  rcases hg with e3 | e4
  · subst e3
    refine ok_t rfl (ok_gd 2 rfl (by decide) (by decide) (ok_gd 4 rfl (by decide) (by decide) ?_))
    unfold dz
    refine ok_f (nI_ne0 (h3 rfl) (by omega)) (ok_gd 4 rfl (by decide) (by decide) (ok_let ?_))
    rw [mM_set]
    refine ok_gd 17 rfl (by decide) (by decide) (ok_gd 17 rfl (by decide) (by decide) (ok_let ?_))
    rw [mM_set, mM_a]
    refine mok_some ?_
    have hA := h.setN (k := 4) (by omega) (if aN S 4 + (if 1 < aQ S 4 3 then aQ S 4 3 else 1) < aN S 2 then aN S 4 + (if 1 < aQ S 4 3 then aQ S 4 3 else 1) else aN S 2)
    have hB := hA.setN (k := 17) (by omega) (aN S 17 + 1)
    rw [uN_comm (by decide)] at hB
    rw [show aLn S 3 = _ from if_pos rfl]
    rw [← h.1 17 (by omega)] at hB ⊢
    exact hB
  · subst e4
    refine ok_f (by decide) (ok_gd 4 rfl (by decide) (by decide) ?_)
    unfold dz
    refine ok_f (nI_ne0 (h4 rfl) (by omega)) (ok_gd 4 rfl (by decide) (by decide) (ok_let ?_))
    rw [mM_set]
    refine ok_gd 18 rfl (by decide) (by decide) (ok_gd 18 rfl (by decide) (by decide) (ok_let ?_))
    rw [mM_set, mM_a]
    refine mok_some ?_
    have hA := h.setN (k := 4) (by omega) (if 0 < aN S 4 - (if 1 < aQ S 3 4 then aQ S 3 4 else 1) then aN S 4 - (if 1 < aQ S 3 4 then aQ S 3 4 else 1) else 0)
    have hB := hA.setN (k := 18) (by omega) (aN S 18 + 1)
    rw [uN_comm (by decide)] at hB
    rw [show aLn S 4 = uN (uN S 18 (aN S 18 + 1)) 4 (if 0 < aN S 4 - (if 1 < aQ S 3 4 then aQ S 3 4 else 1) then aN S 4 - (if 1 < aQ S 3 4 then aQ S 3 4 else 1) else 0) from rfl]
    rw [← h.1 18 (by omega)] at hB ⊢
    exact hB
theorem m_go {N y l : Nat} (hN : 100 ≤ N) (h : RepM a S U) (hL : LOk S) (hl : l < 2) (hy : y < 200) (hm : y ∈ aL S (3 + l)) (hg : aB S 4 y = nI (3 + l)) : MOk (f_X9_dropGhost N (mM μ a d e) (nI y)) μ d e (fun a' => RepM a' (aGo S y l) U) := by
  unfold f_X9_dropGhost
  have e1 : f_X9_of (mM μ a d e) (nI y) 4 = some (nI (3 + l)) := (m_of h y 4 hy (by decide) (Or.inr (Or.inl rfl))).trans (by rw [hg])
  refine ok_bindE e1 (ok_f (pu_m1 (by omega)) (ok_bindE e1 (mok_bind (m_take hN h (l := 3 + l) (by omega) hy hm (hL _ (by omega)).1 (hL _ (by omega)).2) (fun a1 h1 => ?_))))
  refine ok_bindE (m_put y 4 hy (by decide) (-1)) (mok_some ?_)
  exact (h1.setB hy (f := 4) (by decide) (-1)).weak (fun f x _ q => Or.inl q)
theorem m_dropGhost {N y : Nat} (hN : 100 ≤ N) (h : RepM a S U) (hL : LOk S) (hy : y < 200) (hg : aB S 4 y = -1 ∨ ∃ l, l < 2 ∧ aB S 4 y = nI (3 + l) ∧ y ∈ aL S (3 + l)) : MOk (f_X9_dropGhost N (mM μ a d e) (nI y)) μ d e (fun a' => RepM a' (aLG1 S y) U) := by
  rcases hg with e0 | ⟨l, hl, e0, hm⟩
  · unfold f_X9_dropGhost aLG1
    rw [if_pos e0]
    exact ok_bindE (m_of h y 4 hy (by decide) (Or.inr (Or.inl rfl))) (ok_t e0 (mok_some h))
  · rw [LG1_eq hl e0]
    exact m_go hN h hL hl hy hm e0
theorem m_units_b30 {N c l : Nat} {x2 : Int32} (h : RepM a S U) (hl : l < 5) (hc : c < 4) (hE : ∀ x ∈ aL S l, x < 200 ∧ U 2 x ∧ ∃ o, o < 4 ∧ aB S 2 x = nI o) (k13 : MdlS → Int32 → Int32 → Int32 → Int32 → Option Int32) : ∀ r n i acc, i + r = (aL S l).length → r < n → f_X9_unitsOf_b30 N k13 n (mM μ a d e) (nI c) x2 (nI acc) (nI l) (nI i) = k13 (mM μ a d e) (nI c) x2 (nI (acc + aCn S ((aL S l).drop i) c)) (nI (l + 1)) := by
  have h24 := (h.2.1 l hl).1
  intro r
  induction r with
  | zero =>
    intro n i acc hi hn
    obtain ⟨n, rfl⟩ : ∃ m, n = m + 1 := ⟨n - 1, by omega⟩
    have : i = (aL S l).length := by omega
    subst this
    rw [f_X9_unitsOf_b30, m_len h l hl, Option.bind_some, if_pos (nI_le (Nat.le_refl _) (by omega)), nI_1, List.drop_length]
    rfl
  | succ r ih =>
    intro n i acc hi hn
    obtain ⟨n, rfl⟩ : ∃ m, n = m + 1 := ⟨n - 1, by omega⟩
    obtain ⟨hx, hU, o, ho, eo⟩ := hE _ (pu_getD_mem (show i < (aL S l).length by omega))
    rw [f_X9_unitsOf_b30, m_len h l hl, Option.bind_some, if_neg (nI_ge (by omega) (by omega)), m_bAt h l i hl (by omega), Option.bind_some, show f_X9_of (mM μ a d e) (nI ((aL S l).getD i 0)) 2 = some (aB S 2 ((aL S l).getD i 0)) from m_of h _ 2 hx (by decide) (Or.inr (Or.inr hU)), Option.bind_some, nI_1, nI_1, show nI acc + 0 = nI acc from nI_add acc 0, pu_dropD (show i < (aL S l).length by omega)]
    have ec : aCn S ((aL S l).getD i 0 :: (aL S l).drop (i + 1)) c = aCn S ((aL S l).drop (i + 1)) c + if decide (aB S 2 ((aL S l).getD i 0) = nI c) = true then 1 else 0 := List.countP_cons
    rw [ec]
    by_cases e : aB S 2 ((aL S l).getD i 0) = nI c
    · rw [if_pos e, if_pos (decide_eq_true e), ih n (i + 1) (acc + 1) (by omega) (by omega)]
      congr 2
      omega
    · rw [if_neg e, if_neg (fun q => e (of_decide_eq_true q)), ih n (i + 1) acc (by omega) (by omega)]
      rfl
theorem m_units {N c : Nat} (hN : 100 ≤ N) (h : RepM a S U) (hc : c < 4) (hE : ∀ l, l < 2 → ∀ x ∈ aL S l, x < 200 ∧ U 2 x ∧ ∃ o, o < 4 ∧ aB S 2 x = nI o) : f_X9_unitsOf N (mM μ a d e) (nI c) 1 = some (nI (aUn S c)) := by
  have h0 := (h.2.1 0 (by decide)).1
  have h1 := (h.2.1 1 (by decide)).1
  obtain ⟨N3, rfl⟩ : ∃ k, N = k + 3 := ⟨N - 3, by omega⟩
  unfold f_X9_unitsOf
  rw [if_neg (by decide), f_X9_unitsOf_b13, if_neg (by decide), if_neg (by decide)]
  have a0 := m_units_b30 (μ := μ) (d := d) (e := e) (N := N3 + 3) (x2 := 1) h (l := 0) (by decide) hc (hE 0 (by decide)) (f_X9_unitsOf_b13 (N3 + 3) (N3 + 2)) (aL S 0).length (N3 + 3) 0 0 (by omega) (by omega)
  refine Eq.trans a0 ?_
  rw [f_X9_unitsOf_b13, if_neg (by decide), if_neg (show ¬ (1 : Int32) < nI (0 + 1) by decide)]
  have a1 := m_units_b30 (μ := μ) (d := d) (e := e) (N := N3 + 3) (x2 := 1) h (l := 1) (by decide) hc (hE 1 (by decide)) (f_X9_unitsOf_b13 (N3 + 3) (N3 + 1)) (aL S 1).length (N3 + 3) 0 (0 + aCn S (List.drop 0 (aL S 0)) c) (by omega) (by omega)
  refine Eq.trans a1 ?_
  rw [f_X9_unitsOf_b13, if_neg (by decide), if_pos (show (1 : Int32) < nI (1 + 1) by decide), List.drop_zero, List.drop_zero, Nat.zero_add]
  rfl
theorem m_unitsLow {N c : Nat} (hN : 100 ≤ N) (h : RepM a S U) (hc : c < 4) (hE : ∀ x ∈ aL S 2, x < 200 ∧ U 2 x ∧ ∃ o, o < 4 ∧ aB S 2 x = nI o) : f_X9_unitsOf N (mM μ a d e) (nI c) 0 = some (nI (aCn S (aL S 2) c)) := by
  have h0 := (h.2.1 2 (by decide)).1
  obtain ⟨N3, rfl⟩ : ∃ k, N = k + 3 := ⟨N - 3, by omega⟩
  unfold f_X9_unitsOf
  rw [if_pos rfl, f_X9_unitsOf_b13, if_pos rfl, if_neg (by decide)]
  have a0 := m_units_b30 (μ := μ) (d := d) (e := e) (N := N3 + 3) (x2 := 0) h (l := 2) (by decide) hc hE (f_X9_unitsOf_b13 (N3 + 3) (N3 + 2)) (aL S 2).length (N3 + 3) 0 0 (by omega) (by omega)
  refine Eq.trans a0 ?_
  rw [f_X9_unitsOf_b13, if_pos rfl, if_pos (show (2 : Int32) < nI (2 + 1) by decide), List.drop_zero, Nat.zero_add]
theorem m_weights_b4 {N k : Nat} (h : RepM a S U) (hk : aN S 6 = nI k) (hk4 : k ≤ 4) (hw : ∀ c, c < k → ∃ w, aC S c 0 = nI w ∧ 1 ≤ w ∧ w ≤ 9) : ∀ r n i, i + r = k → r < n → f_X9_allWeights_b4 N n (mM μ a d e) (nI (aSwN S i)) (nI i) = some (nI (aSwN S k)) := by
  have q6 : (mM μ a d e).1.1 0 (Int32.toNatClampNeg 6) = aN S 6 := m_num h (Or.inl (by decide))
  intro r
  induction r with
  | zero =>
    intro n i hi hn
    obtain ⟨n, rfl⟩ : ∃ m, n = m + 1 := ⟨n - 1, by omega⟩
    have : i = k := by omega
    subst this
    rw [f_X9_allWeights_b4, pu_gd (i := 6) 6 rfl (by decide) (by decide), q6, hk, if_pos (nI_le (Nat.le_refl _) (by omega))]
  | succ r ih =>
    intro n i hi hn
    obtain ⟨n, rfl⟩ : ∃ m, n = m + 1 := ⟨n - 1, by omega⟩
    have hlt : nI i < aN S 6 := by rw [hk]; exact nI_lt (by omega) (by omega)
    obtain ⟨w, ew, -, h9⟩ := hw i (by omega)
    rw [f_X9_allWeights_b4, pu_gd (i := 6) 6 rfl (by decide) (by decide), q6, if_neg (fun q => absurd hlt (Int32.not_lt.mpr q)), show f_X9_ofClient (mM μ a d e) (nI i) 0 = some (aC S i 0) from m_ofC h i 0 (by omega) hlt (by decide), Option.bind_some, ew, nI_add, nI_1]
    have : aSwN S i + w = aSwN S (i + 1) := by rw [aSwN, ew, nI_clamp (by omega)]
    rw [this]
    exact ih n (i + 1) (by omega) (by omega)
theorem m_weights {N : Nat} (hN : 100 ≤ N) (h : RepM a S U) (hc : cliOk S) : f_X9_allWeights N (mM μ a d e) = some (nI (aSw S)) := by
  obtain ⟨k, hk, hk4, hw⟩ := hc
  have := m_weights_b4 (μ := μ) (d := d) (e := e) (N := N) h hk hk4 (fun c hc => (hw c hc).1) k N 0 (by omega) (by omega)
  unfold aSw
  rw [hk, nI_clamp (by omega)]
  exact this
theorem m_tooMuch {N c : Nat} (hN : 100 ≤ N) (h : RepM a S U) (hc : c < 4) (hn : nI c < aN S 6) (hO : cliOk S) (hE : ∀ l, l < 2 → ∀ x ∈ aL S l, x < 200 ∧ U 2 x ∧ ∃ o, o < 4 ∧ aB S 2 x = nI o) : f_X9_hasTooMuch N (mM μ a d e) (nI c) = some (if aTM S c then 1 else 0) := by
  unfold f_X9_hasTooMuch
  rw [m_units hN h hc hE, Option.bind_some, m_weights hN h hO, Option.bind_some, pu_gd (i := 2) 2 rfl (by decide) (by decide), show f_X9_ofClient (mM μ a d e) (nI c) 0 = some (aC S c 0) from m_ofC h c 0 hc hn (by decide), Option.bind_some, show (mM μ a d e).1.1 0 (Int32.toNatClampNeg 2) = aN S 2 from m_num h (Or.inl (by decide))]
  by_cases e : nI (aUn S c) * nI (aSw S) ≤ aN S 2 * aC S c 0
  · rw [if_pos e, if_neg (show ¬ aTM S c = true from fun q => of_decide_eq_true q e)]
  · rw [if_neg e, if_pos (show aTM S c = true from decide_eq_true e)]
theorem m_victim_b8 {N l : Nat} (hN : 100 ≤ N) (hl : l < 2) (h : RepM a S U) (hO : cliOk S) (hE : ∀ l, l < 2 → ∀ x ∈ aL S l, x < 200 ∧ U 2 x ∧ ∃ o, o < 4 ∧ aB S 2 x = nI o ∧ nI o < aN S 6) (hp : 0 < (aL S l).length) : ∀ n m, n ≤ (aL S l).length → n < m → f_X9_victimOf_b8 N m (mM μ a d e) (nI l) (nI n - 1) = some (nI (aVo S l n)) := by
  have h24 := (h.2.1 l (by omega)).1
  intro n
  induction n with
  | zero =>
    intro m hn hm
    obtain ⟨m, rfl⟩ : ∃ k, m = k + 1 := ⟨m - 1, by omega⟩
    rw [f_X9_victimOf_b8, if_pos (show nI 0 - 1 < 0 by decide), m_len h l (by omega), Option.bind_some, pu_sub1 (by omega), m_bAt h l _ (by omega) (by omega)]
    rfl
  | succ n ih =>
    intro m hn hm
    obtain ⟨m, rfl⟩ : ∃ k, m = k + 1 := ⟨m - 1, by omega⟩
    obtain ⟨hx, hU, c, hc, ec, hcn⟩ := hE l hl _ (pu_getD_mem (show n < (aL S l).length by omega))
    rw [f_X9_victimOf_b8, nI_pred, if_neg (nI_pos (by omega)), m_bAt h l n (by omega) (by omega), Option.bind_some, show f_X9_of (mM μ a d e) (nI ((aL S l).getD n 0)) 2 = some (aB S 2 ((aL S l).getD n 0)) from m_of h _ 2 hx (by decide) (Or.inr (Or.inr hU)), Option.bind_some, ec, m_tooMuch hN h hc hcn hO (fun l hl x hx => by obtain ⟨p1, p2, o, p3, p4, -⟩ := hE l hl x hx; exact ⟨p1, p2, o, p3, p4⟩), Option.bind_some, aVo, ec, nI_clamp (by omega)]
    by_cases e : aTM S c = true
    · rw [if_pos e, if_pos e, if_neg (by decide)]
      rfl
    · rw [if_neg e, if_neg e, if_pos rfl, pu_s]
      exact ih m (by omega) (by omega)
theorem m_victimList {wf : Int32} (h : RepM a S U) : f_X9_victimList (mM μ a d e) wf = some (nI (aVl S wf)) := by
  have l0 := (h.2.1 0 (by decide)).1
  have l1 := (h.2.1 1 (by decide)).1
  have q4 : (mM μ a d e).1.1 0 (Int32.toNatClampNeg 4) = aN S 4 := m_num h (Or.inl (by decide))
  have le0 : (nI (aL S 0).length ≤ 0) ↔ (aL S 0).length = 0 := (nI_leI (b := 0) (by omega) (by decide)).trans ⟨fun q => by omega, fun q => by omega⟩
  have e1 : (nI (aL S 1).length = 0) ↔ (aL S 1).length = 0 := nI_eq (b := 0) (by omega) (by decide)
  unfold f_X9_victimList aVl
  rw [show f_X9_length (mM μ a d e) 0 = some (nI (aL S 0).length) from m_len h 0 (by decide), Option.bind_some, pu_gd (i := 4) 4 rfl (by decide) (by decide), q4]
  have hb30 : f_X9_victimList_b30 (mM μ a d e) (nI (aL S 0).length) = some (if (aL S 1).length = 0 then (if (aL S 0).length = 0 then 1 else 0) else 1) := by
    unfold f_X9_victimList_b30
    rw [show f_X9_length (mM μ a d e) 1 = some (nI (aL S 1).length) from m_len h 1 (by decide), Option.bind_some]
    by_cases c4 : (aL S 1).length = 0
    · rw [if_pos (e1.mpr c4), if_pos c4]
      by_cases c0 : (aL S 0).length = 0
      · rw [if_pos (le0.mpr c0), if_pos c0]
      · rw [if_neg (fun q => c0 (le0.mp q)), if_neg c0]
    · rw [if_neg (fun q => c4 (e1.mp q)), if_neg c4]
      split <;> rfl
  by_cases c0 : (aL S 0).length = 0
  · rw [if_pos c0]
    rw [if_pos c0] at hb30
    rw [hb30, pu_gd (i := 4) 4 rfl (by decide) (by decide)]
    have t1 : (nI (aL S 0).length ≤ 0) := le0.mpr c0
    rw [if_pos t1]
    have t2 : (if (aL S 1).length = 0 then (1 : Int32) else 1) = 1 := by split <;> rfl
    rw [t2]
    repeat' split
    all_goals rfl
  · rw [if_neg c0]
    have t1 : ¬ (nI (aL S 0).length ≤ 0) := fun q => c0 (le0.mp q)
    rw [if_neg c0] at hb30
    rw [hb30, pu_gd (i := 4) 4 rfl (by decide) (by decide), if_neg t1]
    by_cases c1 : aN S 4 < nI (aL S 0).length
    · rw [if_pos c1, if_pos (Or.inl c1)]; rfl
    · rw [if_neg c1]
      by_cases c2 : nI (aL S 0).length = aN S 4
      · rw [if_pos c2]
        by_cases c3 : wf = 0
        · rw [if_pos c3]
          by_cases c4 : (aL S 1).length = 0
          · rw [if_pos c4, if_pos (Or.inr (Or.inr c4))]; rfl
          · rw [if_neg c4, if_neg (fun q => q.elim c1 (fun q => q.elim (fun q => q.2 c3) c4))]; rfl
        · rw [if_neg c3, if_pos (Or.inr (Or.inl ⟨c2, c3⟩))]; rfl
      · rw [if_neg c2]
        by_cases c4 : (aL S 1).length = 0
        · rw [if_pos c4, if_pos (Or.inr (Or.inr c4))]; rfl
        · rw [if_neg c4, if_neg (fun q => q.elim c1 (fun q => q.elim (fun q => c2 q.1) c4))]; rfl
theorem m_isFull (h : RepM a S U) : f_X9_isFull (mM μ a d e) = some (@ite _ (aFull S) (inferInstanceAs (Decidable (_ = _))) 1 0) := by
  unfold f_X9_isFull
  rw [show f_X9_length (mM μ a d e) 0 = some (nI (aL S 0).length) from m_len h 0 (by decide), Option.bind_some, show f_X9_length (mM μ a d e) 1 = some (nI (aL S 1).length) from m_len h 1 (by decide), Option.bind_some, pu_gd (i := 2) 2 rfl (by decide) (by decide), nI_add, show (mM μ a d e).1.1 0 (Int32.toNatClampNeg 2) = aN S 2 from m_num h (Or.inl (by decide))]
  by_cases c : aFull S
  · rw [if_pos c, if_pos (show nI ((aL S 0).length + (aL S 1).length) = aN S 2 from c.symm)]
  · rw [if_neg c, if_neg (show ¬ nI ((aL S 0).length + (aL S 1).length) = aN S 2 from fun q => c q.symm)]
end MM
