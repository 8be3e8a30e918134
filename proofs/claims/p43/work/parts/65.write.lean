/-! a write's end -/
-- a write's end
def aVal (S : AS) (b : Nat) (v : Int32) : AS := if aB S 3 b = -1 then uB (uB S 1 b v) 3 b (aN S 5) else uB S 1 b v
def aOv (S : AS) : Int32 := nI (aCt (isD S) 200 0) - aN S 1
def aFin (S : AS) (b : Nat) (v : Int32) : AS := if aOv (aVal S b v) ≤ 0 then aVal S b v else (aWB (aOv (aVal S b v)) 200 0 (aVal S b v)).2
theorem aB_val {S : AS} {b f x : Nat} {v : Int32} (h1 : f ≠ 1) (h3 : f ≠ 3) : aB (aVal S b v) f x = aB S f x := by
  unfold aVal
  split
  · rw [aB_nf h3, aB_nf h1]
  · rw [aB_nf h1]
theorem Inv_val {S : AS} {b : Nat} {v : Int32} (h : Inv S) (hw : aB S 0 b ≠ -1) : Inv (aVal S b v) := by
  have hL (l : Nat) : aL (aVal S b v) l = aL S l := by unfold aVal; split <;> rfl
  have hN (k : Nat) : aN (aVal S b v) k = aN S k := by unfold aVal; split <;> rfl
  have hC (c f : Nat) : aC (aVal S b v) c f = aC S c f := by unfold aVal; split <;> rfl
  refine ⟨?_, fun x hx => ?_⟩
  · have := h.1
    unfold aVal
    split
    · exact this
    · exact this
  · obtain ⟨a1, a2, a3, a4, a5, a6, a7⟩ := h.2 x hx
    unfold BOk
    rw [aB_val (f := 0) (by decide) (by decide), aB_val (f := 4) (by decide) (by decide), aB_val (f := 2) (by decide) (by decide), hN]
    refine ⟨fun l hl => by rw [hL]; exact a1 l hl, a2, fun l hl => by rw [hL]; exact a3 l hl, a4, fun q => ?_, a6, a7⟩
    have hxb : x ≠ b := fun e => hw (e ▸ q)
    have e (f : Nat) : aB (aVal S b v) f x = aB S f x := by
      unfold aVal
      split
      · rw [aB_ne hxb, aB_ne hxb]
      · rw [aB_ne hxb]
    rw [e, e]
    exact a5 q
theorem Inv_fin {S : AS} {b : Nat} {v : Int32} (h : Inv S) (hw : aB S 0 b ≠ -1) : Inv (aFin S b v) := by
  unfold aFin
  split
  · exact Inv_val h hw
  · exact Inv_WB _ _ _ (Inv_val h hw)
theorem sB_WB {most : Int32} : ∀ r k S, sB S (aWB most r k S).2 := by
  intro r
  induction r with
  | zero => exact fun k S => sB_rf S
  | succ r ih =>
    intro k S
    rw [aWB]
    split
    · exact sB_rf S
    · split
      · exact sB_rf S
      · exact (sB_wu _ _).tr (ih _ _)
theorem c_finish {N b : Nat} {v : Int32} {σ : CacS} {S : AS} (hN : 1000 ≤ N) (h : RepC σ S E0) (hI : Inv S) (hb : b < 200) (hw : aB S 0 b ≠ -1) : Ok (f_X1_finishWrite N σ (nI b) v) (fun t => RepC t (aFin S b v) E0 ∧ t 2 = σ 2) := by
  unfold f_X1_finishWrite
  have e0 : (σ 2).2 0 = aN S 5 := h.2.2.1.1
  rw [e0]
  have hv : Ok (f_X0_changeValue (σ 1) (nI b) v (aN S 5)) (fun t => RepB t (aVal S b v) E0) := by
    unfold f_X0_changeValue aVal
    refine ok_f (nI_pos (by omega)) (ok_f (pu_ge200 hb) (ok_gd b rfl hb (by decide) (ok_let (ok_gd b rfl hb (by decide) ?_))))
    rw [nI_clamp (by omega)]
    have e3 : (oA (σ 1) 1 b v).1 3 b = aB S 3 b := (h.2.1.2.2 b hb).2.2.2.1
    rw [e3]
    by_cases c : aB S 3 b = -1
    · rw [if_pos c, if_pos c]
      exact ok_gd b rfl hb (by decide) (ok_let (ok_some ((h.2.1.set1 b v).set3 b _)))
    · rw [if_neg c, if_neg c]
      exact ok_some (h.2.1.set1 b v)
  refine ok_bind hv (fun t ht => ok_let ?_)
  have hs : sB S (aVal S b v) := by
    unfold aVal
    split
    · exact (sB_uB _ _ _ _).tr (sB_uB _ _ _ _)
    · exact sB_uB _ _ _ _
  have hA := h.b ht hs
  refine ok_bindE (p0_howManyDirty hA.2.1 hN) ?_
  rw [show (va_up σ 1 t 0).2 11 = aN (aVal S b v) 1 from hA.1.2.2.1]
  unfold aFin
  rw [show nI (aCt (isD (aVal S b v)) 200 0) - aN (aVal S b v) 1 = aOv (aVal S b v) from rfl]
  by_cases c : aOv (aVal S b v) ≤ 0
  · rw [if_pos c, if_pos c]
    exact ok_some ⟨hA, rfl⟩
  · rw [if_neg c, if_neg c]
    refine ok_bind (p0_writeBackSome hN hA.2.1 (Inv_val hI hw).1.2.2.2.2.1) (fun r hr => ok_let (ok_some ⟨?_, rfl⟩))
    exact hA.b hr.2 (sB_WB _ _ _)
section MM
variable {d e : Int32} {a : Nat → Int32} {S : AS} {U : Nat → Nat → Prop}
theorem acc_w0 {S : AS} {c b : Nat} {w : Int32} (hI : Inv S) (hb : b < 200) : aB (aAcc S c b w) 0 b ≠ -1 := (Md_ok (s := aSc S c b) (Inv_s2 (c := c) (w := w) hI hb) hb).2.2.2
end MM
