/-! the model's whole access; the end of a write -/
theorem Inv_uN {S : AS} {k : Nat} {v : Int32} (hk : k = 5 ∨ 14 ≤ k) (h : Inv (uN S k v)) : Inv S := by
  obtain ⟨⟨hL, hW, hU, hC, hH, hS⟩, hB⟩ := h
  have e (j : Nat) (hj : j < 14 ∧ j ≠ 5) : aN (uN S k v) j = aN S j := aN_ne (by omega)
  unfold lowOk at hW
  unfold upOk at hU
  unfold cliOk at hC
  unfold hdOk aHd at hH
  unfold setOk at hS
  rw [e 3 (by decide)] at hW
  rw [e 2 (by decide), e 4 (by decide)] at hU
  rw [e 6 (by decide)] at hC
  rw [e 13 (by decide)] at hH
  rw [e 0 (by decide), e 1 (by decide)] at hS
  exact ⟨⟨hL, hW, hU, hC, hH, hS⟩, fun x hx => (hB x hx).congr (fun _ _ => Iff.rfl) (fun _ _ => rfl) (e 6 (by decide)).symm⟩
theorem aB_T (S : AS) (s : Int32) (c b f x : Nat) : aB (aRL (aT0 S s) c b) f x = aB S f x := by
  show aB (aT0 S s) f x = _
  unfold aT0
  split <;> rfl
theorem aN6_T (S : AS) (s : Int32) (c b : Nat) : aN (aRL (aT0 S s) c b) 6 = aN S 6 := by
  show aN (aT0 S s) 6 = _
  unfold aT0
  split <;> rfl
theorem md_0 {S : AS} {b l : Nat} (hk : aK S b = 0) (hl : l < 3) (e : aB S 0 b = nI l) : aMd S b 0 = aMt S b l 1 := by
  unfold aMd
  rw [if_pos hk, if_pos rfl, e, nI_clamp (by omega)]
theorem md_1 {S : AS} {b : Nat} {s : Int32} (hk : aK S b = 0) (hs : s ≠ 0) : aMd S b s = S := by
  unfold aMd
  rw [if_pos hk, if_neg hs]
theorem md_c {S : AS} {b : Nat} (hk : aK S b ≠ 0) : aMd S b 0 = aCome S b := by
  unfold aMd
  rw [if_neg hk, if_pos rfl]
theorem md_s {S : AS} {b : Nat} {s : Int32} (hk : aK S b ≠ 0) (hs : s ≠ 0) : aMd S b s = aScan S b := by
  unfold aMd
  rw [if_neg hk, if_neg hs]
section MM
variable {μ : MdlS} {d e : Int32} {a : Nat → Int32} {S : AS} {U : Nat → Nat → Prop}
theorem m_accB {N c b : Nat} {v : Int32} (hN : 1000 ≤ N) (h : RepM a S (UA S)) (hI : Inv S) (hb : b < 200) (hc : c < 4) (hn : nI c < aN S 6) {Q : MdlS → Prop}
    (k : ∀ a1, RepM a1 (aMd (aM4 S c b) b (aSc S c b)) (Un (aMd (aM4 S c b) b (aSc S c b)) b) → Ok (f_X9_access_b77 N (mM μ a1 (aDm (aM4 S c b) b (aSc S c b) d) (aLe (aM4 S c b) b (aSc S c b) e)) (nI c) (nI b) v) Q) : Ok (f_X9_access N (mM μ a d e) (nI c) (nI b) v) Q := by
  unfold f_X9_access
  refine ok_gd 5 rfl (by decide) (by decide) (ok_gd 5 rfl (by decide) (by decide) (ok_let ?_))
  rw [mM_a, mM_set, show a (Int32.toNatClampNeg 5) = aN S 5 from h.1 5 (by omega)]
  have h1 := h.setN (k := 5) (by omega) (aN S 5 + 1)
  refine ok_bind (m_isScan h1 hc hn hb) (fun t ht => ?_)
  obtain ⟨t1, tμ⟩ := t
  obtain ⟨e1, a2, e2, h2⟩ := ht
  dsimp only at e1 e2 ⊢
  rw [show aSc (uN S 5 (aN S 5 + 1)) c b = aSc S c b from rfl] at e1 h2
  subst e1
  subst e2
  have hT : RepM a2 (aRL (aT0 S (aSc S c b)) c b) (UA (aRL (aT0 S (aSc S c b)) c b)) := by
    have e3 : (if aSc S c b = 0 then aRL (uN S 5 (aN S 5 + 1)) c b else uN (aRL (uN S 5 (aN S 5 + 1)) c b) 22 (aN (uN S 5 (aN S 5 + 1)) 22 + 1)) = aRL (aT0 S (aSc S c b)) c b := by
      unfold aT0
      split <;> rfl
    rw [e3] at h2
    refine h2.weak (fun f x _ q => ?_)
    unfold UA at q
    rw [aB_T] at q
    exact q
  have hI4 : Inv (aHit (aRL (aT0 S (aSc S c b)) c b) c (aK S b)) := Inv_M4 hI hb
  have hIT : Inv (aRL (aT0 S (aSc S c b)) c b) := Inv_uN (Or.inr (by omega)) (Inv_uC (by omega) hI4)
  have hnT : nI c < aN (aRL (aT0 S (aSc S c b)) c b) 6 := by rw [aN6_T]; exact hn
  have hkT : aK (aRL (aT0 S (aSc S c b)) c b) b = aK S b := by unfold aK; rw [aB_T]
  have e4 : aM4 S c b = aHit (aRL (aT0 S (aSc S c b)) c b) c (aK S b) := rfl
  rw [e4] at k
  generalize hs : aSc S c b = s at *
  generalize hTe : aRL (aT0 S s) c b = T at *
  clear e4 h2
  have ew : aB S 0 b = aB T 0 b := by rw [← hTe, aB_T]
  rw [← hkT] at k hI4
  have kk4 : aK (aHit T c (aK T b)) b = aK T b := rfl
  refine ok_bindE (m_of hT b 0 hb (by decide) (Or.inl rfl)) ?_
  have b37 (l : Nat) (hl : l < 2) (hw : aB T 0 b = nI l) (hk0 : aK T b = 0) : Ok (f_X9_access_b37 N (mM μ a2 d e) (nI c) (nI b) v s) Q := by
    unfold f_X9_access_b37
    rw [hk0] at k hI4 kk4
    refine mok_bind (m_hit hT hc hnT (k := 0) (by decide)) (fun a3 h3 => ?_)
    have hm : b ∈ aL T l := ((hIT.2 b hb).1 l (by omega)).mpr hw
    have hlen := pu_rm_len (hIT.1.1 l (by omega)).1 hm
    obtain ⟨u, u1, u2, u3, u4, -⟩ := hIT.1.2.2.1
    have kd : aDm (aHit T c 0) b s d = d := if_pos kk4
    have ke : aLe (aHit T c 0) b s e = e := if_pos kk4
    rw [kd, ke] at k
    by_cases s0 : s = 0
    · rw [s0] at k ⊢
      rw [md_0 kk4 (show l < 3 by omega) hw] at k
      refine ok_t rfl (mok_bind (m_moveTo (N := N) (l := l) (l2 := 1) (by omega) h3 (by omega) (by decide) hb hw hm (hIT.1.1 l (by omega)).1 (hIT.1.1 l (by omega)).2 ?_) (fun a4 h4 => k a4 ?_))
      · rw [aL_uL]
        split
        · next q => subst q; show (pu_rm (aL T 1) b).length < 24; omega
        · show (aL T 1).length < 24; omega
      · refine RepM.weak (V := Un (aMt (aHit T c 0) b l 1) b) h4 (fun f x _ q => ?_)
        show aB T 0 x ≠ -1
        rcases q with ⟨q1, q2⟩ | ⟨q1, -⟩
        · rw [show aB (aMt (aHit T c 0) b l 1) 0 x = aB T 0 x from aB_ne q1] at q2; exact q2
        · rw [q1, hw]; exact pu_m1 (by omega)
    · rw [md_1 kk4 s0] at k
      refine ok_f s0 (k a3 (h3.weak (fun f x _ q => ?_)))
      show aB T 0 x ≠ -1
      rcases q with ⟨q1, q2⟩ | ⟨q1, -⟩
      · exact q2
      · rw [q1, hw]; exact pu_m1 (by omega)
  rcases wh_cases hIT hb with ⟨k2, w2⟩ | ⟨k2, w2⟩ | ⟨l, hl, k2, w2⟩
  · rw [w2]
    refine ok_f (by decide) (ok_f (by decide) ?_)
    have hk : aK (aHit T c (aK T b)) b ≠ 0 := by rw [kk4, k2]; decide
    by_cases s0 : s = 0
    · rw [s0] at k ⊢
      rw [md_c hk, show aDm (aHit T c (aK T b)) b 0 d = _ from if_neg hk, show aLe (aHit T c (aK T b)) b 0 e = _ from if_neg hk, if_pos rfl, if_pos rfl] at k
      exact ok_t rfl (mok_bind (m_come hN hT hI4 hb hc hnT (Or.inl w2)) (fun a4 h4 => k a4 h4))
    · rw [md_s hk s0, show aDm (aHit T c (aK T b)) b s d = _ from if_neg hk, show aLe (aHit T c (aK T b)) b s e = _ from if_neg hk, if_neg s0, if_neg s0] at k
      exact ok_f s0 (mok_bind (m_scan hN hT hIT hI4 hb hc hnT (Or.inl w2)) (fun a4 h4 => k a4 h4))
  · rw [w2]
    refine ok_f (by decide) (ok_f (by decide) ?_)
    have hk : aK (aHit T c (aK T b)) b ≠ 0 := by rw [kk4, k2]; decide
    by_cases s0 : s = 0
    · rw [s0] at k ⊢
      rw [md_c hk, show aDm (aHit T c (aK T b)) b 0 d = _ from if_neg hk, show aLe (aHit T c (aK T b)) b 0 e = _ from if_neg hk, if_pos rfl, if_pos rfl] at k
      exact ok_t rfl (mok_bind (m_come hN hT hI4 hb hc hnT (Or.inr w2)) (fun a4 h4 => k a4 h4))
    · rw [md_s hk s0, show aDm (aHit T c (aK T b)) b s d = _ from if_neg hk, show aLe (aHit T c (aK T b)) b s e = _ from if_neg hk, if_neg s0, if_neg s0] at k
      exact ok_f s0 (mok_bind (m_scan hN hT hIT hI4 hb hc hnT (Or.inr w2)) (fun a4 h4 => k a4 h4))
  · rw [w2]
    rcases (show l = 0 ∨ l = 1 by omega) with rfl | rfl
    · exact ok_t rfl (b37 0 hl w2 k2)
    · exact ok_f (by decide) (ok_t rfl (b37 1 hl w2 k2))
end MM
