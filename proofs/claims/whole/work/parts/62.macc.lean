/-! the model's access as a whole, the end of a write on both sides -/
theorem RepM.weak3 {a : Nat → Int32} {S : AS} {U V : Nat → Nat → Prop} (h : RepM a S U) (hv : ∀ f b, b < 200 → 1 ≤ f → f ≤ 3 → V f b → U f b) : RepM a S V := by
  obtain ⟨h1, h2, h3, h4⟩ := h
  refine ⟨h1, h2, h3, fun b hb => ⟨(h4 b hb).1, fun f hf q => (h4 b hb).2 f hf ?_⟩⟩
  rcases q with q | q | q
  · exact Or.inl q
  · exact Or.inr (Or.inl q)
  · by_cases h0 : f = 0
    · exact Or.inl h0
    · by_cases h4 : f = 4
      · exact Or.inr (Or.inl h4)
      · exact Or.inr (Or.inr (hv f b hb (by omega) (by omega) q))
theorem Inv.nu {S : AS} (h : Inv S) : hNU S := fun b hb q => ((h.2 b hb).2.2.2.2.1 q).2.2
theorem hUA_UA (S : AS) : hUA S (UA S) := fun _ _ q => ⟨q, q, q⟩
def aHit (S : AS) (c k : Nat) : AS := uC (uN S (14 + k) (aN S (14 + k) + 1)) c (5 + k) (aC S c (5 + k) + 1)
def aM4 (S : AS) (c b : Nat) : AS := aHit (aRL (aT0 S (aSc S c b)) c b) c (aK S b)
theorem aRun_T0 {S : AS} {c b : Nat} {s : Int32} : aRun (aT0 S s) c b = aRun S c b := by
  unfold aT0
  split <;> rfl
theorem S2_eq (S : AS) (c b : Nat) (w : Int32) : aS2 S c b w = uC (aM4 S c b) c (aRf w) (aC S c (aRf w) + 1) := by
  have hr : aRf w ≠ 2 ∧ aRf w ≠ 1 ∧ aRf w < 5 := by unfold aRf; split <;> decide
  have hk := aK_lt S b
  refine AS_ext (fun j => ?_) (fun l => ?_) (fun d f => ?_) (fun f x => ?_)
  · show aN (uN (aT0 (aCc (aRL S c b) c w (aK S b)) (aSc S c b)) (14 + aK S b) (aN S (14 + aK S b) + 1)) j = aN (uN (aT0 S (aSc S c b)) (14 + aK S b) (aN (aT0 S (aSc S c b)) (14 + aK S b) + 1)) j
    have e1 (T : AS) (hT : ∀ i, aN T i = aN S i) (i : Nat) : aN (aT0 T (aSc S c b)) i = aN (aT0 S (aSc S c b)) i := by
      unfold aT0
      split
      · rw [aN_uN, aN_uN, hT, hT]
      · rw [aN_uN, aN_uN, aN_uN, aN_uN, hT, hT, hT]
    have e2 : aN (aT0 S (aSc S c b)) (14 + aK S b) = aN S (14 + aK S b) := by
      unfold aT0
      split
      · rw [aN_ne (by omega)]
      · rw [aN_ne (by omega), aN_ne (by omega)]
    rw [aN_uN, aN_uN, e2, e1 (aCc (aRL S c b) c w (aK S b)) (fun _ => rfl)]
  · rw [aL_s2]
    show _ = aL (aT0 S (aSc S c b)) l
    unfold aT0
    split <;> rfl
  · have e0 (d f : Nat) : aC (aRL (aT0 S (aSc S c b)) c b) d f = if d = c ∧ f = 2 then nI b else if d = c ∧ f = 1 then aRun S c b else aC S d f := by
      show aC (uC (uC (aT0 S (aSc S c b)) c 1 (aRun (aT0 S (aSc S c b)) c b)) c 2 (nI b)) d f = _
      rw [aRun_T0, aC_uC, aC_uC]
      have : aC (aT0 S (aSc S c b)) d f = aC S d f := by unfold aT0; split <;> rfl
      rw [this]
    rw [aC_s2, aC_uC]
    show _ = if d = c ∧ f = aRf w then _ else aC (uC (uN (aRL (aT0 S (aSc S c b)) c b) _ _) c (5 + aK S b) (aC (aRL (aT0 S (aSc S c b)) c b) c (5 + aK S b) + 1)) d f
    rw [aC_uC]
    show _ = if d = c ∧ f = aRf w then _ else if d = c ∧ f = 5 + aK S b then _ else aC (aRL (aT0 S (aSc S c b)) c b) d f
    rw [e0, e0, if_neg (show ¬ (c = c ∧ 5 + aK S b = 2) by omega), if_neg (show ¬ (c = c ∧ 5 + aK S b = 1) by omega)]
    by_cases q5 : d = c ∧ f = 5 + aK S b
    · rw [if_pos q5, if_neg (show ¬ (d = c ∧ f = aRf w) by omega), if_pos q5]
    · rw [if_neg q5, if_neg q5]
  · rw [aB_s2]
    show _ = aB (aT0 S (aSc S c b)) f x
    unfold aT0
    split <;> rfl
theorem Inv_uC {S : AS} {c f : Nat} {v : Int32} (hf : 3 ≤ f) (h : Inv (uC S c f v)) : Inv S := by
  obtain ⟨⟨hL, hW, hU, ⟨k, k1, k2, k3⟩, hH, hS⟩, hB⟩ := h
  refine ⟨⟨hL, hW, hU, ⟨k, k1, k2, fun d hd => ?_⟩, hH, hS⟩, fun x hx => (hB x hx).congr (fun _ _ => Iff.rfl) (fun _ _ => rfl) rfl⟩
  have := k3 d hd
  rw [aC_uC, if_neg (by omega), aC_uC, if_neg (by omega), aC_uC, if_neg (by omega)] at this
  exact this
theorem Inv_M4 {S : AS} {c b : Nat} (h : Inv S) (hb : b < 200) : Inv (aM4 S c b) := by
  have := Inv_s2 (c := c) (w := 0) h hb
  rw [S2_eq] at this
  exact Inv_uC (f := 3) (by decide) this
theorem aB_M4 (S : AS) (c b f x : Nat) : aB (aM4 S c b) f x = aB S f x := by
  show aB (aT0 S (aSc S c b)) f x = _
  unfold aT0
  split <;> rfl
theorem aL_M4 (S : AS) (c b l : Nat) : aL (aM4 S c b) l = aL S l := by
  show aL (aT0 S (aSc S c b)) l = _
  unfold aT0
  split <;> rfl
theorem aK_M4 (S : AS) (c b : Nat) : aK (aM4 S c b) b = aK S b := by unfold aK; rw [aB_M4]
theorem acc_eq (S : AS) (c b : Nat) (w : Int32) : aAcc S c b w = uC (uB (aMd (aM4 S c b) b (aSc S c b)) 2 b (nI c)) c (aRf w) (aC S c (aRf w) + 1) := by
  have hr : aRf w ≠ 0 := by unfold aRf; split <;> decide
  unfold aAcc
  rw [S2_eq, aMd_uC hr]
  rfl
theorem dm_eq (S : AS) (c b : Nat) (w s x : Int32) : aDm (aS2 S c b w) b s x = aDm (aM4 S c b) b s x := by
  have hr : aRf w ≠ 0 := by unfold aRf; split <;> decide
  rw [S2_eq, aDm_uC hr]
theorem le_eq (S : AS) (c b : Nat) (w s x : Int32) : aLe (aS2 S c b w) b s x = aLe (aM4 S c b) b s x := by rw [S2_eq, aLe_uC]
section MM
variable {μ : MdlS} {d e : Int32} {a : Nat → Int32} {S : AS} {U : Nat → Nat → Prop}
theorem m_hit {c k : Nat} (h : RepM a S U) (hc : c < 4) (hn : nI c < aN S 6) (hk : k < 3) : MOk (f_X9_countHit (mM μ a d e) (nI c) (nI k)) μ d e (fun a' => RepM a' (aHit S c k) U) := by
  have e14 : (14 : Int32) + nI k = nI (14 + k) := nI_add 14 k
  have e5 : (5 : Int32) + nI k = nI (5 + k) := nI_add 5 k
  unfold f_X9_countHit
  rw [e14, e5]
  refine ok_gd (14 + k) rfl (by omega) (by decide) (ok_gd (14 + k) rfl (by omega) (by decide) (ok_let ?_))
  rw [nI_clamp (by omega), mM_a, mM_set, h.1 _ (by omega)]
  have h1 := h.setN (k := 14 + k) (by omega) (aN S (14 + k) + 1)
  have hn1 : nI c < aN (uN S (14 + k) (aN S (14 + k) + 1)) 6 := by rw [aN_ne (by omega)]; exact hn
  refine ok_bindE (m_ofC h1 c (5 + k) hc hn1 (by omega)) (ok_bindE (m_putC c (5 + k) hc (by omega) _) (mok_some ?_))
  exact h1.setC hc (by omega) _
theorem m_isScan {c b : Nat} (h : RepM a S U) (hc : c < 4) (hn : nI c < aN S 6) (hb : b < 200) : Ok (f_X9_isScan (mM μ a d e) (nI c) (nI b)) (fun t => t.1 = aSc S c b ∧ ∃ a', t.2 = mM μ a' d e ∧ RepM a' (if aSc S c b = 0 then aRL S c b else uN (aRL S c b) 22 (aN S 22 + 1)) U) := by
  have b47 : Ok (f_X9_isScan_b47 (mM μ a d e) (nI c) (nI b) (aRun S c b) 1 (nI c)) (fun t => t.1 = aSc S c b ∧ ∃ a', t.2 = mM μ a' d e ∧ RepM a' (if aSc S c b = 0 then aRL S c b else uN (aRL S c b) 22 (aN S 22 + 1)) U) := by
    unfold f_X9_isScan_b47
    refine ok_bindE (m_putC c 1 hc (by decide) (aRun S c b)) (ok_bindE (m_putC c 2 hc (by decide) (nI b)) ?_)
    have h2 : RepM _ (aRL S c b) U := (h.setC hc (f := 1) (by decide) (aRun S c b)).setC hc (f := 2) (by decide) (nI b)
    have e1 : aC (aRL S c b) c 1 = aRun S c b := by
      show aC (uC (uC S c 1 _) c 2 _) c 1 = _
      rw [aC_uC, if_neg (by omega), aC_uC, if_pos ⟨rfl, rfl⟩]
    refine ok_bindE (m_ofC h2 c 1 hc hn (by decide)) (ok_gd 0 rfl (by decide) (by decide) ?_)
    rw [e1]
    have q0 := m_num (μ := μ) (d := d) (e := e) h2 (k := 0) (Or.inl (by decide))
    have q22 := m_num (μ := μ) (d := d) (e := e) h2 (k := 22) (Or.inr ⟨by decide, by decide⟩)
    rw [show (mM μ (upd (upd a (144 + 10 * c + 1) (aRun S c b)) (144 + 10 * c + 2) (nI b)) d e).1.1 0 (Int32.toNatClampNeg 0) = aN S 0 from q0]
    unfold aSc f_X9_isScan_b77
    by_cases c1 : aRun S c b < aN S 0
    · rw [if_pos c1, if_pos c1]
      refine ok_gd 22 rfl (by decide) (by decide) (ok_t rfl (ok_gd 22 rfl (by decide) (by decide) (ok_let ?_)))
      unfold zb
      rw [mM_set]
      refine ok_t (Or.inl rfl) (ok_some ⟨rfl, _, rfl, ?_⟩)
      rw [if_pos rfl, Int32.add_zero]
      have h3 := h2.setN (k := 22) (by omega) (aN S 22)
      rw [uN_id (show aN (aRL S c b) 22 = aN S 22 from rfl)] at h3
      rw [show (mM μ (upd (upd a (144 + 10 * c + 1) (aRun S c b)) (144 + 10 * c + 2) (nI b)) d e).1.1 0 (Int32.toNatClampNeg 22) = aN S 22 from q22]
      exact h3
    · rw [if_neg c1, if_neg c1]
      refine ok_gd 22 rfl (by decide) (by decide) (ok_f (by decide) (ok_gd 22 rfl (by decide) (by decide) (ok_let ?_)))
      unfold zb
      rw [mM_set]
      refine ok_t (Or.inr rfl) (ok_some ⟨rfl, _, rfl, ?_⟩)
      rw [if_neg (by decide)]
      have h3 := h2.setN (k := 22) (by omega) (aN S 22 + 1)
      rw [show (mM μ (upd (upd a (144 + 10 * c + 1) (aRun S c b)) (144 + 10 * c + 2) (nI b)) d e).1.1 0 (Int32.toNatClampNeg 22) = aN S 22 from q22]
      exact h3
  have r2 : f_X9_ofClient (mM μ a d e) (nI c) 2 = some (aC S c 2) := m_ofC h c 2 hc hn (by decide)
  have r1 : f_X9_ofClient (mM μ a d e) (nI c) 1 = some (aC S c 1) := m_ofC h c 1 hc hn (by decide)
  unfold f_X9_isScan f_X9_isScan_b27
  refine ok_bindE r2 ?_
  unfold aRun at b47
  by_cases c1 : aC S c 2 = -1
  · rw [if_pos c1] at b47
    exact ok_t c1 (ok_t rfl b47)
  · rw [if_neg c1] at b47
    refine ok_f c1 (ok_bindE r2 ?_)
    by_cases c2 : nI b = aC S c 2 + 1
    · rw [if_pos c2] at b47
      exact ok_t c2.symm (ok_f (by decide) (ok_bindE r1 b47))
    · rw [if_neg c2] at b47
      exact ok_f (fun q => c2 q.symm) (ok_t rfl b47)
theorem m_scan {N c b : Nat} (hN : 1000 ≤ N) (h : RepM a S (UA S)) (hI : Inv S) (hI2 : Inv (aHit S c (aK S b))) (hb : b < 200) (hc : c < 4) (hn : nI c < aN S 6) (hw : aB S 0 b = -1 ∨ aB S 0 b = 2) : MOk (f_X9_scan N (mM μ a d e) (nI c) (nI b)) μ d (if aB S 0 b = 2 then e else aLf (aHit S c (aK S b)) e) (fun a' => RepM a' (aScan (aHit S c (aK S b)) b) (Un (aScan (aHit S c (aK S b)) b) b)) := by
  unfold f_X9_scan
  refine ok_bindE (m_of h b 0 hb (by decide) (Or.inl rfl)) ?_
  by_cases e2 : aB S 0 b = 2
  · have k1 : aK S b = 1 := by unfold aK; rw [e2]; rfl
    rw [k1] at hI2 ⊢
    have es : aScan (aHit S c 1) b = aMt (aHit S c 1) b 2 2 := if_pos e2
    rw [es, show (if aB S 0 b = 2 then e else aLf (aHit S c 1) e) = e from if_pos e2]
    refine ok_t e2 (mok_bind (m_hit h hc hn (k := 1) (by decide)) (fun a1 h1 => ?_))
    have hm : b ∈ aL S 2 := ((hI.2 b hb).1 2 (by decide)).mpr e2
    have hlen := pu_rm_len (hI.1.1 2 (by decide)).1 hm
    obtain ⟨w, w1, w2, w3, w4⟩ := hI.1.2.1
    refine mok_bind (m_moveTo (N := N) (l := 2) (l2 := 2) (by omega) h1 (by decide) (by decide) hb e2 hm (hI.1.1 2 (by decide)).1 (hI.1.1 2 (by decide)).2 ?_) (fun a2 h2 => mok_some ?_)
    · rw [aL_eq]
      show (pu_rm (aL S 2) b).length < 24
      omega
    · refine RepM.weak (V := Un (aMt (aHit S c 1) b 2 2) b) h2 (fun f x _ q => ?_)
      show aB S 0 x ≠ -1
      rcases q with ⟨q1, q2⟩ | ⟨q1, -⟩
      · rw [show aB (aMt (aHit S c 1) b 2 2) 0 x = aB S 0 x from aB_ne q1] at q2; exact q2
      · rw [q1, e2]; decide
  · have em := hw.resolve_right e2
    have k1 : aK S b = 2 := by unfold aK; rw [em]; rfl
    rw [k1] at hI2 ⊢
    have es : aScan (aHit S c 2) b = aIn (aClean (aMR (aHit S c 2)) b) b 2 := if_neg e2
    rw [es, show (if aB S 0 b = 2 then e else aLf (aHit S c 2) e) = aLf (aHit S c 2) e from if_neg e2]
    have hw2 : ∀ y ∈ aL (aHit S c 2) 2, aB (aHit S c 2) 0 y = 2 := fun y hy => ((hI2.2 y ((hI2.1.1 2 (by decide)).2 y hy)).1 2 (by decide)).mp hy
    refine ok_f e2 (mok_bind (m_hit h hc hn (k := 2) (by decide)) (fun a1 h1 => ?_))
    refine mok_bind (m_makeRoom hN h1 (hI2.1.1 2 (by decide)) hI2.1.2.1 hw2 (fun y hy => ?_)) (fun a2 h2 => ?_)
    · have : aB S 0 y ≠ -1 := by rw [show aB S 0 y = 2 from hw2 y hy]; decide
      exact ⟨this, this⟩
    · have hM := Mx_MR (Mx_non hI2 hb em)
      refine mok_bind (m_clean h2 hb) (fun a3 h3 => ?_)
      obtain ⟨w, w1, w2, w3⟩ := MR_room hI2.1.1 hI2.1.2.1
      refine mok_bind (m_moveIn (N := N) (l := 2) (by omega) h3 (by decide) hb (Mx_clean hM).2.2.1 ?_) (fun a4 h4 => mok_some ?_)
      · show (aL (aMR (aHit S c 2)) 2).length < 24
        omega
      · refine RepM.weak (V := Un (aIn (aClean (aMR (aHit S c 2)) b) b 2) b) h4 (fun f x _ q => ?_)
        rcases q with ⟨q1, q2⟩ | ⟨q1, q2⟩
        · left
          rw [show aB (aIn (aClean (aMR (aHit S c 2)) b) b 2) 0 x = aB (aClean (aMR (aHit S c 2)) b) 0 x from aB_ne q1] at q2
          rw [show aB (aClean (aMR (aHit S c 2)) b) 0 x = aB (aMR (aHit S c 2)) 0 x from (aB_ne q1).trans (aB_ne q1), aB_MR0] at q2
          refine ⟨?_, fun lo ex => q2 (if_pos ⟨lo, ex⟩)⟩
          intro q3
          apply q2
          split
          · rfl
          · exact q3
        · exact Or.inr ⟨q2, q1⟩
theorem m_come {N c b : Nat} (hN : 1000 ≤ N) (h : RepM a S (UA S)) (hI2 : Inv (aHit S c (aK S b))) (hb : b < 200) (hc : c < 4) (hn : nI c < aN S 6) (hw : aB S 0 b = -1 ∨ aB S 0 b = 2) : MOk (f_X9_come N (mM μ a d e) (nI c) (nI b)) μ (aDd (aS3 (aHit S c (aK S b)) b) b (aB S 4 b) d) (aDl (aS3 (aHit S c (aK S b)) b) e) (fun a' => RepM a' (aCome (aHit S c (aK S b)) b) (Un (aCome (aHit S c (aK S b)) b) b)) := by
  unfold f_X9_come
  refine ok_bindE (m_of h b 0 hb (by decide) (Or.inl rfl)) ?_
  have h36 (a3 : Nat → Int32) (h3 : RepM a3 (aTop (aHit S c (aK S b)) b) (Un (aTop (aHit S c (aK S b)) b) b)) := m_come36 (μ := μ) (d := d) (e := e) hN h3 hI2 hb hw
  by_cases e2 : aB S 0 b = 2
  · have k1 : aK S b = 1 := by unfold aK; rw [e2]; rfl
    rw [k1] at hI2 h36 ⊢
    refine ok_t e2 (mok_bind (m_hit h hc hn (k := 1) (by decide)) (fun a1 h1 => ?_))
    have hm : b ∈ aL (aHit S c 1) 2 := ((hI2.2 b hb).1 2 (by decide)).mpr e2
    refine mok_bind (m_moveOut (N := N) (l := 2) (by omega) h1 (by decide) hb e2 hm (hI2.1.1 2 (by decide)).1 (hI2.1.1 2 (by decide)).2) (fun a2 h2 => h36 a2 ?_)
    rw [aTop_2 (show aB (aHit S c 1) 0 b = 2 from e2)]
    refine h2.weak (fun f x _ q => ?_)
    show aB S 0 x ≠ -1
    rcases q with ⟨q1, q2⟩ | ⟨q1, -⟩
    · rw [aB_ne q1] at q2; exact q2
    · rw [q1, e2]; decide
  · have em := hw.resolve_right e2
    have k1 : aK S b = 2 := by unfold aK; rw [em]; rfl
    rw [k1] at hI2 h36 ⊢
    refine ok_f e2 (mok_bind (m_hit h hc hn (k := 2) (by decide)) (fun a1 h1 => ?_))
    refine mok_bind (m_clean h1 hb) (fun a2 h2 => h36 a2 ?_)
    rw [aTop_n (show aB (aHit S c 2) 0 b ≠ 2 from e2)]
    refine h2.weak (fun f x _ q => ?_)
    rcases q with ⟨q1, q2⟩ | ⟨q1, q2⟩
    · left
      rw [show aB (aClean (aHit S c 2) b) 0 x = aB S 0 x from (aB_ne q1).trans (aB_ne q1)] at q2
      exact q2
    · exact Or.inr ⟨q2, q1⟩
end MM
