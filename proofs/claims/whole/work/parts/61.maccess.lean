/-! the model's access -/
theorem aLv_uC {S : AS} {c f : Nat} {v : Int32} (n : Nat) : aLv (uC S c f v) n = aLv S n := by
  induction n with
  | zero => rfl
  | succ n ih => rw [aLv, aLv, ih]; rfl
theorem aX_uC {S : AS} {c f : Nat} {v : Int32} : aX (uC S c f v) = aX S := aLv_uC _
theorem aMR_uC {S : AS} {c f : Nat} {v : Int32} : aMR (uC S c f v) = uC (aMR S) c f v := by
  by_cases e : aLow S
  · rw [aMR_t e, aMR_t (show aLow (uC S c f v) from e), aX_uC]
    have hc : aCl (uC S c f v) (aX S) = uC (aCl S (aX S)) c f v := by
      show (if aB S 3 (aX S) = -1 then _ else _) = uC (if aB S 3 (aX S) = -1 then _ else _) c f v
      split <;> rfl
    rw [hc]
    rfl
  · rw [aMR_f e, aMR_f (show ¬ aLow (uC S c f v) from e)]
theorem aLf_uC {S : AS} {c f : Nat} {v x : Int32} : aLf (uC S c f v) x = aLf S x := by
  by_cases e : aLow S
  · rw [aLf_t e, aLf_t (show aLow (uC S c f v) from e), aX_uC]
  · rw [aLf_f e, aLf_f (show ¬ aLow (uC S c f v) from e)]
theorem aSwN_uC {S : AS} {c f : Nat} {v : Int32} (hf : f ≠ 0) (k : Nat) : aSwN (uC S c f v) k = aSwN S k := by
  induction k with
  | zero => rfl
  | succ k ih => rw [aSwN, aSwN, ih, aC_uC, if_neg (fun q => hf q.2.symm)]
theorem aTM_uC {S : AS} {c f x : Nat} {v : Int32} (hf : f ≠ 0) : aTM (uC S c f v) x = aTM S x := by
  have e1 : aSw (uC S c f v) = aSw S := aSwN_uC hf _
  have e2 : aC (uC S c f v) x 0 = aC S x 0 := by rw [aC_uC, if_neg (fun q => hf q.2.symm)]
  unfold aTM
  rw [e1, e2]
  rfl
theorem aVo_uC {S : AS} {c f l : Nat} {v : Int32} (hf : f ≠ 0) (n : Nat) : aVo (uC S c f v) l n = aVo S l n := by
  induction n with
  | zero => rfl
  | succ n ih => rw [aVo, aVo, ih, aTM_uC hf]; rfl
theorem aV_uC {S : AS} {c f : Nat} {v wf : Int32} (hf : f ≠ 0) : aV (uC S c f v) wf = aV S wf := aVo_uC hf _
theorem aDem_uC {S : AS} {c f x l : Nat} {v : Int32} : aDem (uC S c f v) x l = uC (aDem S x l) c f v := by
  have e : aLG (uC S c f v) (3 + l) = uC (aLG S (3 + l)) c f v := by
    show (if aN S 2 = nI (aL S (3 + l)).length then _ else _) = uC (if aN S 2 = nI (aL S (3 + l)).length then _ else _) c f v
    split <;> rfl
  unfold aDem
  rw [e]
  rfl
theorem aMk_uC {S : AS} {c f : Nat} {v wf : Int32} (hf : f ≠ 0) : aMk (uC S c f v) wf = uC (aMk S wf) c f v := by
  by_cases e : aFull S
  · rw [aMk_t e, aMk_t (show aFull (uC S c f v) from e), aMR_uC, aV_uC hf, aDem_uC]
    rfl
  · rw [aMk_f e, aMk_f (show ¬ aFull (uC S c f v) from e)]
theorem aS3_uC {S : AS} {c f b : Nat} {v : Int32} : aS3 (uC S c f v) b = uC (aS3 S b) c f v := by
  have e1 : aTop (uC S c f v) b = uC (aTop S b) c f v := by
    show (if aB S 0 b = 2 then _ else _) = uC (if aB S 0 b = 2 then _ else _) c f v
    split <;> rfl
  have e2 (T : AS) (g : Int32) : aLn (uC T c f v) g = uC (aLn T g) c f v := by
    unfold aLn
    split
    · rfl
    · split <;> rfl
  have e3 (T : AS) : aLG1 (uC T c f v) b = uC (aLG1 T b) c f v := by
    show (if aB T 4 b = -1 then _ else _) = uC (if aB T 4 b = -1 then _ else _) c f v
    split <;> rfl
  unfold aS3
  rw [e1, e2, e3]
  rfl
theorem aMd_uC {S : AS} {c f b : Nat} {v s : Int32} (hf : f ≠ 0) : aMd (uC S c f v) b s = uC (aMd S b s) c f v := by
  have hC : aCome (uC S c f v) b = uC (aCome S b) c f v := by
    unfold aCome
    rw [aS3_uC, aMk_uC hf]
    rfl
  have hS : aScan (uC S c f v) b = uC (aScan S b) c f v := by
    show (if aB S 0 b = 2 then _ else _) = uC (if aB S 0 b = 2 then _ else _) c f v
    split
    · rfl
    · rw [aMR_uC]; rfl
  show (if aK S b = 0 then _ else _) = uC (if aK S b = 0 then _ else _) c f v
  split
  · split <;> rfl
  · rw [hC, hS]
    split <;> rfl
theorem aDm_uC {S : AS} {c f b : Nat} {v s x : Int32} (hf : f ≠ 0) : aDm (uC S c f v) b s x = aDm S b s x := by
  have h1 : aDd (aS3 (uC S c f v) b) b (aB (uC S c f v) 4 b) x = aDd (aS3 S b) b (aB S 4 b) x := by
    rw [aS3_uC]
    unfold aDd
    rw [aV_uC hf]
    rfl
  unfold aDm
  rw [h1]
  rfl
theorem aLe_uC {S : AS} {c f b : Nat} {v s x : Int32} : aLe (uC S c f v) b s x = aLe S b s x := by
  have h1 : aDl (aS3 (uC S c f v) b) x = aDl (aS3 S b) x := by
    rw [aS3_uC]
    unfold aDl
    rw [aLf_uC]
    rfl
  unfold aLe
  rw [h1, aLf_uC]
  rfl
def Un (S : AS) (b f x : Nat) : Prop := x ≠ b ∧ aB S 0 x ≠ -1 ∨ x = b ∧ (f = 1 ∨ f = 3)
def UA (S : AS) (_ x : Nat) : Prop := aB S 0 x ≠ -1
section MM
variable {μ : MdlS} {d e : Int32} {a : Nat → Int32} {S : AS} {U : Nat → Nat → Prop}
theorem m_ghost_b30 {N x l : Nat} (hN : 100 ≤ N) (h : RepM a S U) (hl : l < 2) (hx : x < 200) (hlen : (aL S (3 + l)).length < 24) : MOk (f_X9_becomeGhost_b30 N (mM μ a d e) (nI x) (nI (3 + l))) μ d e (fun a' => RepM a' (aG2 S x l) U) := by
  unfold f_X9_becomeGhost_b30
  refine ok_bindE (m_put x 4 hx (by decide) (nI (3 + l))) ?_
  have h1 := (h.setB hx (f := 4) (by decide) (nI (3 + l))).weak (V := U) (fun f x _ q => Or.inl q)
  exact mok_bind (m_bring hN h1 (l := 3 + l) (by omega) hlen) (fun a2 h2 => mok_some h2)
theorem m_becomeGhost {N x l b : Nat} (hN : 100 ≤ N) (h : RepM a S U) (hM : Mx S b) (hl : l < 2) (hx : x < 200) : MOk (f_X9_becomeGhost N (mM μ a d e) (nI x) (nI (3 + l))) μ d e (fun a' => RepM a' (aG2 (aLG S (3 + l)) x l) U) := by
  obtain ⟨u, u1, u2, u3, u4, u5, u6, -⟩ := hM.1.2.2.1
  have hlu : (aL S (3 + l)).length ≤ u := by
    rcases (show l = 0 ∨ l = 1 by omega) with rfl | rfl
    · exact u5
    · exact u6
  unfold f_X9_becomeGhost
  refine ok_bindE (m_len h (3 + l) (by omega)) (ok_gd 2 rfl (by decide) (by decide) ?_)
  rw [show (mM μ a d e).1.1 0 (Int32.toNatClampNeg 2) = aN S 2 from m_num h (Or.inl (by decide))]
  rcases LG_cases S l with ⟨c, q⟩ | ⟨c, q⟩
  · rw [q]
    rw [u1] at c
    have hul := (nI_eq (by omega) (by omega)).mp c
    have hm : aLast S (3 + l) ∈ aL S (3 + l) := pu_getD_mem (by omega)
    have hy : aLast S (3 + l) < 200 := (hM.1.1 (3 + l) (by omega)).2 _ hm
    have hg : aB S 4 (aLast S (3 + l)) = nI (3 + l) := by
      by_cases eb : aLast S (3 + l) = b
      · rw [eb]; exact (hM.2.2.2.1 l hl).mp (eb ▸ hm)
      · exact gh_of (hM.2.2.2.2.2 _ hy eb) hl hm
    refine ok_t (by rw [u1, hul]) (ok_bindE (m_len h (3 + l) (by omega)) ?_)
    rw [pu_sub1 (by omega)]
    refine ok_bindE (m_bAt h (3 + l) _ (by omega) (by omega)) (mok_bind (m_go hN h hM.1.1 hl hy hm hg) (fun a1 h1 => ?_))
    refine m_ghost_b30 hN h1 hl hx ?_
    rw [aL_go, if_pos rfl]
    have := pu_rm_le (aL S (3 + l)) (aLast S (3 + l))
    omega
  · rw [q]
    exact ok_f (fun z => c z.symm) (m_ghost_b30 hN h hl hx (by omega))
theorem m_mk {N b : Nat} {g : Int32} (hN : 1000 ≤ N) (h : RepM a S (Un S b)) (hM : Mx S b) : MOk (f_X9_makeRoom N (mM μ a d e) (aWf g)) μ (aDd S b g d) (aDl S e) (fun a' => RepM a' (aMk S (aWf g)) (Un (aMk S (aWf g)) b)) := by
  unfold f_X9_makeRoom
  refine ok_bindE (m_isFull h) ?_
  by_cases c : aFull S
  · rw [if_pos c, aMk_t c, show aDd S b g d = nI (aV S (aWf g)) from if_pos c, show aDl S e = aLf S e from if_pos c]
    have hl := aVl_lt (S := S) (aWf g)
    have hm := aV_mem (wf := aWf g) hM.1.2.2.1 c
    obtain ⟨u, u1, u2, u3, u4, -⟩ := id hM.1.2.2.1
    have hful := (aFull_iff u1 u3 u4).mp c
    have hp := aVl_pos (S := S) (aWf g) (by omega)
    have hx2 : aV S (aWf g) < 200 := (hM.1.1 _ (by omega)).2 _ hm
    have hxb : aV S (aWf g) ≠ b := fun q => hM.2.1 _ (by omega) (q ▸ hm)
    have hwx := ((hM.2.2.2.2.2 _ hx2 hxb).1 _ (by omega)).mp hm
    have hE : ∀ l, l < 2 → ∀ x ∈ aL S l, x < 200 ∧ Un S b 2 x ∧ ∃ o, o < 4 ∧ aB S 2 x = nI o ∧ nI o < aN S 6 := fun l hl x hx => by
      obtain ⟨p1, o, p2, p3, p4⟩ := own_up hM l hl x hx
      have hxb : x ≠ b := fun q => hM.2.1 l (by omega) (q ▸ hx)
      have hw := ((hM.2.2.2.2.2 x p1 hxb).1 l (by omega)).mp hx
      exact ⟨p1, Or.inl ⟨hxb, by rw [hw]; exact pu_m1 (by omega)⟩, o, p2, p3, p4⟩
    refine ok_f (by decide) (ok_bindE (m_victimList h) ?_)
    have l24 := (h.2.1 (aVl S (aWf g)) (by omega)).1
    have hv : f_X9_victimOf N (mM μ a d e) (nI (aVl S (aWf g))) = some (nI (aV S (aWf g))) := by
      unfold f_X9_victimOf
      rw [m_len h _ (by omega), Option.bind_some]
      exact m_victim_b8 (by omega) hl h hM.1.2.2.2.1 hE hp _ N (Nat.le_refl _) (by omega)
    refine ok_bindE hv (ok_let ?_)
    rw [mM_19, show 3 + nI (aVl S (aWf g)) = nI (3 + aVl S (aWf g)) from nI_add 3 _]
    generalize aV S (aWf g) = x at *
    generalize aVl S (aWf g) = l at *
    refine mok_bind (m_becomeGhost (by omega) h hM hl hx2) (fun a1 h1 => ?_)
    -- the lower list behind the ghosts
    have eLL (m : Nat) (hm : m ≠ 3 + l) : aL (aG2 (aLG S (3 + l)) x l) m = aL S m := by
      show aL (uL _ (3 + l) _) m = _
      rw [aL_ne hm]
      rcases LG_cases S l with ⟨-, q⟩ | ⟨-, q⟩
      · show aL (aLG S (3 + l)) m = _
        rw [q, aL_go, if_neg hm]
      · show aL (aLG S (3 + l)) m = _
        rw [q]
    have eBB (f z : Nat) (hf : f ≠ 4) : aB (aG2 (aLG S (3 + l)) x l) f z = aB S f z := by
      show aB (uB (aLG S (3 + l)) 4 x _) f z = _
      rw [aB_nf hf]
      rcases LG_cases S l with ⟨-, q⟩ | ⟨-, q⟩
      · rw [q]; exact aB_go hf
      · rw [q]
    have eNN (k : Nat) : aN (aG2 (aLG S (3 + l)) x l) k = aN S k := by
      show aN (aLG S (3 + l)) k = _
      exact aN_LG S l k
    have hw2 : ∀ y ∈ aL S 2, y < 200 ∧ y ≠ b ∧ aB S 0 y = 2 := fun y hy => by
      have hy2 := (hM.1.1 2 (by decide)).2 y hy
      have hyb : y ≠ b := fun q => hM.2.1 2 (by decide) (q ▸ hy)
      exact ⟨hy2, hyb, ((hM.2.2.2.2.2 y hy2 hyb).1 2 (by decide)).mp hy⟩
    have hX : aX (aG2 (aLG S (3 + l)) x l) = aX S := aX_congr (eLL 2 (by omega)) (fun z => eBB 3 z (by decide))
    have hLo : aLow (aG2 (aLG S (3 + l)) x l) ↔ aLow S := by unfold aLow; rw [eNN, eLL 2 (by omega)]
    have hlf (v : Int32) : aLf (aG2 (aLG S (3 + l)) x l) v = aLf S v := by
      by_cases q : aLow S
      · rw [aLf_t q, aLf_t (hLo.mpr q), hX]
      · rw [aLf_f q, aLf_f (fun z => q (hLo.mp z))]
    have hmr := m_makeRoom (μ := μ) (d := nI x) (e := e) hN h1 (by rw [eLL 2 (by omega)]; exact hM.1.1 2 (by decide)) (by unfold lowOk; rw [eNN, eLL 2 (by omega)]; exact hM.1.2.1) (fun y hy => by rw [eLL 2 (by omega)] at hy; rw [eBB 0 y (by decide)]; exact (hw2 y hy).2.2) (fun y hy => by
      rw [eLL 2 (by omega)] at hy
      obtain ⟨y1, y2, y3⟩ := hw2 y hy
      exact ⟨Or.inl ⟨y2, by rw [y3]; decide⟩, Or.inl ⟨y2, by rw [y3]; decide⟩⟩)
    rw [hlf, aMR_G2, aMR_LG] at hmr
    refine mok_bind hmr (fun a2 h2 => ?_)
    -- then the unit itself
    have eT (m : Nat) (hm : m ≠ 3 + l) : aL (aG2 (aLG (aMR S) (3 + l)) x l) m = aL (aMR S) m := by
      show aL (uL _ (3 + l) _) m = _
      rw [aL_ne hm]
      show aL (aLG (aMR S) (3 + l)) m = _
      rcases LG_cases (aMR S) l with ⟨-, q⟩ | ⟨-, q⟩
      · rw [q, aL_go, if_neg hm]
      · rw [q]
    have eTB (f z : Nat) (hf : f ≠ 4) : aB (aG2 (aLG (aMR S) (3 + l)) x l) f z = aB (aMR S) f z := by
      show aB (uB (aLG (aMR S) (3 + l)) 4 x _) f z = _
      rw [aB_nf hf]
      rcases LG_cases (aMR S) l with ⟨-, q⟩ | ⟨-, q⟩
      · rw [q]; exact aB_go hf
      · rw [q]
    have hTl : aL (aG2 (aLG (aMR S) (3 + l)) x l) l = aL S l := (eT l (by omega)).trans (aL_MR (by omega))
    have hxX : aLow S → x ≠ aX S := fun lo q => by
      obtain ⟨w, w1, w2, w3, w4⟩ := hM.1.2.1
      have := (aLow_iff w1 w3 w4).mp lo
      have hy : aX S ∈ aL S 2 := aLv_mem (by omega) _ (Nat.le_refl _)
      have := (hw2 _ hy).2.2
      rw [← q, hwx] at this
      have := (nI_eq (b := 2) (by omega) (by decide)).mp this
      omega
    have hwT : aB (aG2 (aLG (aMR S) (3 + l)) x l) 0 x = nI l := by
      rw [eTB 0 x (by decide), aB_MR0, if_neg (fun q => hxX q.1 q.2)]; exact hwx
    obtain ⟨w, r1, r2, r3⟩ := MR_room hM.1.1 hM.1.2.1
    refine mok_bind (m_moveTo (l2 := 2) (by omega) h2 (show l < 5 by omega) (by decide) hx2 hwT (by rw [hTl]; exact hm) (by rw [hTl]; exact (hM.1.1 l (by omega)).1) (by rw [hTl]; exact (hM.1.1 l (by omega)).2) (by rw [aL_ne (by omega), eT 2 (by omega)]; omega)) (fun a3 h3 => ?_)
    refine ok_gd 19 rfl (by decide) (by decide) (ok_gd 19 rfl (by decide) (by decide) (ok_let ?_))
    rw [mM_set, mM_a]
    refine mok_some ?_
    have h4 := h3.setN (k := 19) (by omega) (aN (aMv (aLG (aMR S) (3 + l)) x l) 19 + 1)
    have e19 := h3.1 19 (by omega)
    rw [show a3 (Int32.toNatClampNeg 19) = aN (aMv (aLG (aMR S) (3 + l)) x l) 19 from e19]
    have hfin : uN (uL (uB (uL (aG2 (aLG (aMR S) (3 + l)) x l) l (pu_rm (aL (aG2 (aLG (aMR S) (3 + l)) x l) l) x)) 0 x (nI 2)) 2 (x :: aL (uL (aG2 (aLG (aMR S) (3 + l)) x l) l (pu_rm (aL (aG2 (aLG (aMR S) (3 + l)) x l) l) x)) 2)) 19 (aN (aMv (aLG (aMR S) (3 + l)) x l) 19 + 1) = aDem (aMR S) x l := by
      have e3 : aL (aG2 (aLG (aMR S) (3 + l)) x l) l = aL (aLG (aMR S) (3 + l)) l := by
        show aL (uL _ (3 + l) _) l = _
        rw [aL_ne (by omega)]
        rfl
      rw [aDem_eq _ _ _ hl, e3]
      rfl
    rw [hfin] at h4
    refine RepM.weak (V := Un (aDem (aMR S) x l) b) h4 (fun f z _ q => ?_)
    have e0 (z : Nat) (hz : z ≠ x) : aB (aDem (aMR S) x l) 0 z = aB (aMR S) 0 z := by
      rw [aDem_eq _ _ _ hl]
      show aB (aMv _ _ _) 0 z = _
      rw [aB_mv, if_neg (fun q => hz q.2), if_neg (fun q => hz q.2)]
      rcases LG_cases (aMR S) l with ⟨-, q⟩ | ⟨-, q⟩
      · rw [q]; exact aB_go (by decide)
      · rw [q]
    refine ⟨?_, fun lo => ?_⟩
    · rcases q with ⟨q1, q2⟩ | q
      · left
        refine ⟨q1, ?_⟩
        by_cases ez : z = x
        · rw [ez, hwx]; exact pu_m1 (by omega)
        · rw [e0 z ez, aB_MR0] at q2
          intro q3
          apply q2
          split
          · rfl
          · exact q3
      · exact Or.inr q
    · rw [hX]
      intro ez
      have lo := hLo.mp lo
      rcases q with ⟨q1, q2⟩ | q
      · by_cases ezx : z = x
        · exact hxX lo (ezx ▸ ez)
        · rw [e0 z ezx, aB_MR0, if_pos ⟨lo, ez⟩] at q2
          exact q2 rfl
      · obtain ⟨w, w1, w2, w3, w4⟩ := hM.1.2.1
        have := (aLow_iff w1 w3 w4).mp lo
        have hy : aX S ∈ aL S 2 := aLv_mem (by omega) _ (Nat.le_refl _)
        exact (hw2 _ hy).2.1 (ez ▸ q.1)
  · rw [if_neg c, aMk_f c, show aDd S b g d = d from if_neg c, show aDl S e = e from if_neg c]
    exact ok_t rfl (mok_some h)
theorem m_come69 {N b : Nat} {g : Int32} (hN : 1000 ≤ N) (h : RepM a S (Un S b)) (hM : Mx S b) (hb : b < 200) : MOk (f_X9_come_b69 N (mM μ a d e) (nI b) g (aWf g)) μ (aDd S b g d) (aDl S e) (fun a' => RepM a' (aIn (aMk S (aWf g)) b (aLt g)) (Un (aIn (aMk S (aWf g)) b (aLt g)) b)) := by
  obtain ⟨hk1, u, k1, k2, k3⟩ := Mx_Mk (wf := aWf g) hM
  unfold f_X9_come_b69
  refine mok_bind (m_mk hN h hM) (fun a1 h1 => ?_)
  have hU (l : Nat) : ∀ f x, x < 200 → Un (aIn (aMk S (aWf g)) b l) b f x → Un (aMk S (aWf g)) b f x := fun f x _ q => by
    rcases q with ⟨q1, q2⟩ | q
    · exact Or.inl ⟨q1, by rw [show aB (aIn (aMk S (aWf g)) b l) 0 x = aB (aMk S (aWf g)) 0 x from aB_ne q1] at q2; exact q2⟩
    · exact Or.inr q
  by_cases eg : g = -1
  · rw [show aLt g = 0 from if_pos eg]
    exact ok_t eg (mok_bind (m_moveIn (N := N) (l := 0) (by omega) h1 (by decide) hb hk1.2.2.1 (by omega)) (fun a2 h2 => mok_some (h2.weak (hU 0))))
  · rw [show aLt g = 1 from if_neg eg]
    exact ok_f eg (mok_bind (m_moveIn (N := N) (l := 1) (by omega) h1 (by decide) hb hk1.2.2.1 (by omega)) (fun a2 h2 => mok_some (h2.weak (hU 1))))
theorem m_come36 {N b : Nat} (hN : 1000 ≤ N) (h : RepM a (aTop S b) (Un (aTop S b) b)) (hI : Inv S) (hb : b < 200) (hw : aB S 0 b = -1 ∨ aB S 0 b = 2) : MOk (f_X9_come_b36 N (mM μ a d e) (nI b)) μ (aDd (aS3 S b) b (aB S 4 b) d) (aDl (aS3 S b) e) (fun a' => RepM a' (aCome S b) (Un (aCome S b) b)) := by
  have hM := Mx_top hI hb hw
  obtain ⟨hM3, -⟩ := Mx_s3 hI hb hw
  have hg := Mx_gh hM
  rw [aTop_g] at hg
  have eg := hM.2.2.2.2.1
  have eg2 := hM.2.2.2.1
  rw [aTop_g] at eg eg2
  have e1 : f_X9_of (mM μ a d e) (nI b) 4 = some (aB S 4 b) := (m_of h b 4 hb (by decide) (Or.inr (Or.inl rfl))).trans (by rw [aTop_g])
  have e0 (x : Nat) : aB (aS3 S b) 0 x = aB (aTop S b) 0 x := by
    show aB (aLG1 (aLn (aTop S b) _) b) 0 x = _
    have q1 (T : AS) : aB (aLG1 T b) 0 x = aB T 0 x := by
      unfold aLG1
      split
      · rfl
      · exact aB_nf (by decide)
    have q2 (T : AS) (g : Int32) : aB (aLn T g) 0 x = aB T 0 x := by
      unfold aLn
      repeat' split
      all_goals rfl
    rw [q1, q2]
  have hUn : ∀ f x, x < 200 → Un (aS3 S b) b f x → Un (aTop S b) b f x := fun f x _ q => by
    unfold Un at q ⊢
    rwa [e0] at q
  have fin (a1 : Nat → Int32) (h1 : RepM a1 (aS3 S b) (Un (aTop S b) b)) : MOk (if aB S 4 b = 4 then f_X9_come_b69 N (mM μ a1 d e) (nI b) (aB S 4 b) 1 else f_X9_come_b69 N (mM μ a1 d e) (nI b) (aB S 4 b) 0) μ (aDd (aS3 S b) b (aB S 4 b) d) (aDl (aS3 S b) e) (fun a' => RepM a' (aCome S b) (Un (aCome S b) b)) := by
    have := m_come69 (μ := μ) (d := d) (e := e) (g := aB S 4 b) hN (h1.weak hUn) hM3 hb
    by_cases e4 : aB S 4 b = 4
    · rw [if_pos e4]
      rw [show aWf (aB S 4 b) = 1 from if_pos e4] at this
      unfold aCome
      rw [show aWf (aB S 4 b) = 1 from if_pos e4]
      exact this
    · rw [if_neg e4]
      rw [show aWf (aB S 4 b) = 0 from if_neg e4] at this
      unfold aCome
      rw [show aWf (aB S 4 b) = 0 from if_neg e4]
      exact this
  unfold f_X9_come_b36
  refine ok_bindE e1 ?_
  by_cases em : aB S 4 b = -1
  · refine ok_t em (fin a ?_)
    have es : aS3 S b = aTop S b := by
      unfold aS3 aLn
      rw [em, if_neg (by decide), if_neg (by decide)]
      unfold aLG1
      rw [aTop_g, em, if_pos rfl]
    rw [es]; exact h
  · have e34 : aB S 4 b = 3 ∨ aB S 4 b = 4 := by
      obtain ⟨l, hl, q⟩ := eg.resolve_left em
      rcases (show l = 0 ∨ l = 1 by omega) with rfl | rfl
      · exact Or.inl q
      · exact Or.inr q
    have hMl := Mx_ln hM hg.1 hg.2
    refine ok_f em (mok_bind (m_learn h e34 hg.1 hg.2) (fun a1 h1 => mok_bind (m_dropGhost (by omega) h1 hMl.1.1 hb ?_) (fun a2 h2 => fin a2 h2)))
    rcases hMl.2.2.2.2.1 with q | ⟨l, hl, q⟩
    · exact Or.inl q
    · exact Or.inr ⟨l, hl, q, (hMl.2.2.2.1 l hl).mpr q⟩
end MM
