/-! a write's end -/
-- a write's end
def aVal (S : AS) (b : Nat) (v : Int32) : AS := if aB S 3 b = -1 then uB (uB S 1 b v) 3 b (aN S 5) else uB S 1 b v
def aOv (S : AS) : Int32 := nI (aCt (isD S) 200 0) - aN S 1
def aFin (S : AS) (b : Nat) (v : Int32) : AS := if aOv (aVal S b v) ≤ 0 then aVal S b v else (aWB (aOv (aVal S b v)) 200 0 (aVal S b v)).2
theorem aB_val {S : AS} {b f x : Nat} {v : Int32} (h1 : f ≠ 1) (h3 : f ≠ 3) : aB (aVal S b v) f x = aB S f x := by
  unfold aVal
  split
  · rw [aB_nf h3, aB_nf h1]
  · rw [aB_nf h1]
theorem Inv_val {S : AS} {b : Nat} {v : Int32} (h : Inv S) (hw : aB S 0 b ≠ -1) : Inv (aVal S b v) := by
  have hL (l : Nat) : aL (aVal S b v) l = aL S l := by unfold aVal; split <;> rfl
  have hN (k : Nat) : aN (aVal S b v) k = aN S k := by unfold aVal; split <;> rfl
  have hC (c f : Nat) : aC (aVal S b v) c f = aC S c f := by unfold aVal; split <;> rfl
  refine ⟨?_, fun x hx => ?_⟩
  · have := h.1
    unfold aVal
    split
    · exact this
    · exact this
  · obtain ⟨a1, a2, a3, a4, a5, a6, a7⟩ := h.2 x hx
    unfold BOk
    rw [aB_val (f := 0) (by decide) (by decide), aB_val (f := 4) (by decide) (by decide), aB_val (f := 2) (by decide) (by decide), hN]
    refine ⟨fun l hl => by rw [hL]; exact a1 l hl, a2, fun l hl => by rw [hL]; exact a3 l hl, a4, fun q => ?_, a6, a7⟩
    have hxb : x ≠ b := fun e => hw (e ▸ q)
    have e (f : Nat) : aB (aVal S b v) f x = aB S f x := by
      unfold aVal
      split
      · rw [aB_ne hxb, aB_ne hxb]
      · rw [aB_ne hxb]
    rw [e, e]
    exact a5 q
theorem Inv_fin {S : AS} {b : Nat} {v : Int32} (h : Inv S) (hw : aB S 0 b ≠ -1) : Inv (aFin S b v) := by
  unfold aFin
  split
  · exact Inv_val h hw
  · exact Inv_WB _ _ _ (Inv_val h hw)
theorem sB_WB {most : Int32} : ∀ r k S, sB S (aWB most r k S).2 := by
  intro r
  induction r with
  | zero => exact fun k S => sB_rf S
  | succ r ih =>
    intro k S
    rw [aWB]
    split
    · exact sB_rf S
    · split
      · exact sB_rf S
      · exact (sB_wu _ _).tr (ih _ _)
theorem c_finish {N b : Nat} {v : Int32} {σ : CacS} {S : AS} (hN : 1000 ≤ N) (h : RepC σ S E0) (hI : Inv S) (hb : b < 200) (hw : aB S 0 b ≠ -1) : Ok (f_X1_finishWrite N σ (nI b) v) (fun t => RepC t (aFin S b v) E0 ∧ t 2 = σ 2) := by
  unfold f_X1_finishWrite
  have e0 : (σ 2).2 0 = aN S 5 := h.2.2.1.1
  rw [e0]
  have hv : Ok (f_X0_changeValue (σ 1) (nI b) v (aN S 5)) (fun t => RepB t (aVal S b v) E0) := by
    unfold f_X0_changeValue aVal
    refine ok_f (nI_pos (by omega)) (ok_f (pu_ge200 hb) (ok_gd b rfl hb (by decide) (ok_let (ok_gd b rfl hb (by decide) ?_))))
    rw [nI_clamp (by omega)]
    have e3 : (oA (σ 1) 1 b v).1 3 b = aB S 3 b := (h.2.1.2.2 b hb).2.2.2.1
    rw [e3]
    by_cases c : aB S 3 b = -1
    · rw [if_pos c, if_pos c]
      exact ok_gd b rfl hb (by decide) (ok_let (ok_some ((h.2.1.set1 b v).set3 b _)))
    · rw [if_neg c, if_neg c]
      exact ok_some (h.2.1.set1 b v)
  refine ok_bind hv (fun t ht => ok_let ?_)
  have hs : sB S (aVal S b v) := by
    unfold aVal
    split
    · exact (sB_uB _ _ _ _).tr (sB_uB _ _ _ _)
    · exact sB_uB _ _ _ _
  have hA := h.b ht hs
  refine ok_bindE (p0_howManyDirty hA.2.1 hN) ?_
  rw [show (va_up σ 1 t 0).2 11 = aN (aVal S b v) 1 from hA.1.2.2.1]
  unfold aFin
  rw [show nI (aCt (isD (aVal S b v)) 200 0) - aN (aVal S b v) 1 = aOv (aVal S b v) from rfl]
  by_cases c : aOv (aVal S b v) ≤ 0
  · rw [if_pos c, if_pos c]
    exact ok_some ⟨hA, rfl⟩
  · rw [if_neg c, if_neg c]
    refine ok_bind (p0_writeBackSome hN hA.2.1 (Inv_val hI hw).1.2.2.2.2.1) (fun r hr => ok_let (ok_some ⟨?_, rfl⟩))
    exact hA.b hr.2 (sB_WB _ _ _)
section MM
variable {μ : MdlS} {d e : Int32} {a : Nat → Int32} {S : AS} {U : Nat → Nat → Prop}
theorem UA_wu {S : AS} {most : Int32} : ∀ r k S f x, UA (aWB most r k S).2 f x ↔ UA S f x := by
  intro r
  induction r with
  | zero => exact fun _ _ _ _ => Iff.rfl
  | succ r ih =>
    intro k S f x
    rw [aWB]
    split
    · exact Iff.rfl
    · split
      · exact Iff.rfl
      · rw [ih]
        unfold UA
        rw [aB_wu0]
theorem m_b152 {N b : Nat} {v : Int32} (hN : 1000 ≤ N) (hb : b < 200) (h : RepM (upd a (184 + 5 * b + 3) v) S (UA S)) (hI : Inv S) : MOk (f_X9_access_b152 N (mM μ a d e) v 3 (nI b)) μ d e (fun a' => RepM a' (if aOv S ≤ 0 then S else (aWB (aOv S) 200 0 S).2) (UA (if aOv S ≤ 0 then S else (aWB (aOv S) 200 0 S).2))) := by
  have hct := aCt_le (isD S) 200 0
  unfold f_X9_access_b152
  refine ok_bindE (m_put b 3 hb (by decide) v) (ok_bindE (m_dirtyUnits hN h hI.nu (hUA_UA S)) (ok_gd 1 rfl (by decide) (by decide) ?_))
  rw [show (mM μ (upd a (184 + 5 * b + 3) v) d e).1.1 0 (Int32.toNatClampNeg 1) = aN S 1 from m_num h (Or.inl (by decide)), show nI (aCt (isD S) 200 0) - aN S 1 = aOv S from rfl]
  obtain ⟨m, m1, m2⟩ := hI.1.2.2.2.2.2.2
  have eo : (aOv S).toInt = (aCt (isD S) 200 0 : Int) - m := by
    unfold aOv
    rw [m1]
    exact pk_sub_toInt (by omega) (by omega)
  have h200 : (nI 200).toInt = 200 := by decide
  have hz : (0 : Int32).toInt = 0 := by decide
  by_cases c : aOv S ≤ 0
  · rw [if_pos c, if_neg (show ¬ 0 < aOv S from Int32.not_lt.mpr c)]
    refine ok_bind (m_writeBack hN (show (0 : Int32) ≤ nI 200 by decide) h hI.nu (hUA_UA S) hI.1.2.2.2.2.1) (fun t ht => ?_)
    obtain ⟨-, a', e1, h1⟩ := ht
    have ew : (aWB 0 200 0 S).2 = S := by rw [aWB, if_pos (show (0 : Int32) ≤ nI 0 by decide)]
    rw [ew] at h1
    refine ok_some ⟨a', e1, h1⟩
  · rw [if_neg c, if_pos (show 0 < aOv S from Int32.not_le.mp c)]
    have hm : aOv S ≤ nI 200 := by
      rw [Int32.le_iff_toInt_le, eo, h200]
      omega
    refine ok_bind (m_writeBack hN hm h hI.nu (hUA_UA S) hI.1.2.2.2.2.1) (fun t ht => ?_)
    obtain ⟨-, a', e1, h1⟩ := ht
    exact ok_some ⟨a', e1, h1.weak (fun f x _ q => (UA_wu (S := S) _ _ _ f x).mp q)⟩
theorem acc_w0 {S : AS} {c b : Nat} {w : Int32} (hI : Inv S) (hb : b < 200) : aB (aAcc S c b w) 0 b ≠ -1 := (Md_ok (s := aSc S c b) (Inv_s2 (c := c) (w := w) hI hb) hb).2.2.2
theorem m_write {N c b n : Nat} (hN : 1000 ≤ N) (h : RepM a S (UA S)) (hI : Inv S) (hb : b < 200) (hc : c < 4) (hn : nI c < aN S 6) (hv : n < 1000) : MOk (f_X9_access N (mM μ a d e) (nI c) (nI b) (nI n)) μ (aDm (aM4 S c b) b (aSc S c b) d) (aLe (aM4 S c b) b (aSc S c b) e) (fun a' => RepM a' (aFin (aAcc S c b 1) b (nI n)) (UA (aFin (aAcc S c b 1) b (nI n)))) := by
  have hIA := Inv_acc (w := 1) hI hb hc hn
  have hwA := acc_w0 (c := c) (w := 1) hI hb
  refine m_accB hN h hI hb hc hn (fun a1 h1 => ?_)
  unfold f_X9_access_b77
  refine ok_bindE (m_put b 2 hb (by decide) (nI c)) (ok_f (pu_m1 (by omega)) ?_)
  have h2 := h1.setB hb (f := 2) (by decide) (nI c)
  unfold f_X9_access_b94
  refine ok_bindE (m_ofC h2 c 4 hc (by rw [aN_uB, md_n6]; exact hn) (by decide)) (ok_bindE (m_putC c 4 hc (by decide) _) (ok_f (pu_m1 (by omega)) ?_))
  have h3 := h2.setC hc (f := 4) (by decide) (aC S c 4 + 1)
  rw [aC_uB, md_c3 (Or.inr rfl)]
  have e3 : aAcc S c b 1 = uC (uB (aMd (aM4 S c b) b (aSc S c b)) 2 b (nI c)) c 4 (aC S c 4 + 1) := acc_eq S c b 1
  rw [← e3] at h3
  have h4 : RepM _ (aAcc S c b 1) (UA (aAcc S c b 1)) := h3.weak3 (fun f x _ hf1 hf3 q => by
    unfold UA at q
    rw [e3] at q
    by_cases ex : x = b
    · by_cases e2 : f = 2
      · exact Or.inr ⟨e2, ex⟩
      · exact Or.inl (Or.inr ⟨ex, by omega⟩)
    · refine Or.inl (Or.inl ⟨ex, ?_⟩)
      rw [aB_uC, aB_ne ex] at q
      exact q)
  generalize aAcc S c b 1 = T at *
  refine ok_bindE (m_put b 1 hb (by decide) (nI n)) ?_
  have h5 := h4.setB hb (f := 1) (by decide) (nI n)
  have h5' : RepM _ (uB T 1 b (nI n)) (UA (uB T 1 b (nI n))) := h5.weak (fun f x _ q => Or.inl (by
    unfold UA at q ⊢
    rw [aB_nf (f := 1) (g := 0) (by decide)] at q
    exact q))
  have e8 := m_of (μ := μ) (d := aDm (aM4 S c b) b (aSc S c b) d) (e := aLe (aM4 S c b) b (aSc S c b) e) h5' b 3 hb (by decide) (Or.inr (Or.inr (by unfold UA; rw [aB_nf (f := 1) (g := 0) (by decide)]; exact hwA)))
  rw [aB_nf (f := 1) (g := 3) (by decide)] at e8
  refine ok_bindE e8 ?_
  have hIv := Inv_val (v := nI n) hIA hwA
  have hUv : ∀ f x, UA (aVal T b (nI n)) f x → UA (uB T 1 b (nI n)) f x := fun f x q => by
    unfold UA at q ⊢
    rw [aB_nf (f := 1) (g := 0) (by decide)]
    rw [aB_val (by decide) (by decide)] at q
    exact q
  by_cases c3 : aB T 3 b = -1
  · have ev : aVal T b (nI n) = uB (uB T 1 b (nI n)) 3 b (aN T 5) := if_pos c3
    refine ok_t c3 (ok_gd 5 rfl (by decide) (by decide) ?_)
    rw [show ∀ z : Nat → Int32, (mM μ z (aDm (aM4 S c b) b (aSc S c b) d) (aLe (aM4 S c b) b (aSc S c b) e)).1.1 0 (Int32.toNatClampNeg 5) = z 5 from fun _ => rfl, h5'.1 5 (by omega)]
    have h6 := h5'.setB hb (f := 3) (by decide) (aN (uB T 1 b (nI n)) 5)
    rw [show uB (uB T 1 b (nI n)) 3 b (aN (uB T 1 b (nI n)) 5) = aVal T b (nI n) from ev.symm] at h6
    exact m_b152 hN hb (h6.weak (fun f x _ q => Or.inl (hUv f x q))) hIv
  · have ev : aVal T b (nI n) = uB T 1 b (nI n) := if_neg c3
    refine ok_f c3 (ok_bindE e8 ?_)
    have h6 := h5'.setB hb (f := 3) (by decide) (aB T 3 b)
    rw [uB_id (S := uB T 1 b (nI n)) (f := 3) (b := b) (v := aB T 3 b) (aB_nf (by decide)), ← ev] at h6
    exact m_b152 hN hb (h6.weak (fun f x _ q => Or.inl q)) hIv
end MM
