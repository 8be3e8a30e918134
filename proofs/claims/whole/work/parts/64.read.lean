/-! a read, a write's end -/
section MM
variable {μ : MdlS} {d e : Int32} {a : Nat → Int32} {S : AS} {U : Nat → Nat → Prop}
theorem md_c3 {S : AS} {c b : Nat} {s : Int32} {f : Nat} (hf : f = 3 ∨ f = 4) : aC (aMd (aM4 S c b) b s) c f = aC S c f := by
  rw [aC_md]
  show aC (uC (uN (aRL (aT0 S (aSc S c b)) c b) _ _) c (5 + aK S b) _) c f = _
  rw [aC_uC, if_neg (by omega)]
  show aC (uC (uC (aT0 S (aSc S c b)) c 1 _) c 2 _) c f = _
  rw [aC_uC, if_neg (by omega), aC_uC, if_neg (by omega)]
  unfold aT0
  split <;> rfl
theorem md_n6 {S : AS} {c b : Nat} {s : Int32} : aN (aMd (aM4 S c b) b s) 6 = aN S 6 := by
  rw [aN_md (by decide) (by decide) (by decide) (by decide) (by decide) (by decide) (by decide)]
  show aN (uN (aRL (aT0 S (aSc S c b)) c b) (14 + aK S b) _) 6 = _
  rw [aN_ne (by omega)]
  exact aN6_T S _ c b
theorem m_read {N c b : Nat} (hN : 1000 ≤ N) (h : RepM a S (UA S)) (hI : Inv S) (hb : b < 200) (hc : c < 4) (hn : nI c < aN S 6) : MOk (f_X9_access N (mM μ a d e) (nI c) (nI b) (-1)) μ (aDm (aM4 S c b) b (aSc S c b) d) (aLe (aM4 S c b) b (aSc S c b) e) (fun a' => RepM a' (aAcc S c b 0) (UA (aAcc S c b 0))) := by
  refine m_accB hN h hI hb hc hn (fun a1 h1 => ?_)
  unfold f_X9_access_b77
  refine ok_bindE (m_put b 2 hb (by decide) (nI c)) (ok_t rfl ?_)
  have h2 := h1.setB hb (f := 2) (by decide) (nI c)
  unfold f_X9_access_b94
  refine ok_bindE (m_ofC h2 c 3 hc (by rw [aN_uB, md_n6]; exact hn) (by decide)) (ok_bindE (m_putC c 3 hc (by decide) _) (ok_t rfl (mok_some ?_)))
  have h3 := h2.setC hc (f := 3) (by decide) (aC S c 3 + 1)
  rw [aC_uB, md_c3 (Or.inl rfl)]
  have e3 : aAcc S c b 0 = uC (uB (aMd (aM4 S c b) b (aSc S c b)) 2 b (nI c)) c 3 (aC S c 3 + 1) := acc_eq S c b 0
  rw [← e3] at h3
  refine h3.weak3 (fun f x _ hf1 hf3 q => ?_)
  unfold UA at q
  rw [e3] at q
  by_cases ex : x = b
  · by_cases e2 : f = 2
    · exact Or.inr ⟨e2, ex⟩
    · exact Or.inl (Or.inr ⟨ex, by omega⟩)
  · refine Or.inl (Or.inl ⟨ex, ?_⟩)
    rw [aB_uC, aB_ne ex] at q
    exact q
end MM
