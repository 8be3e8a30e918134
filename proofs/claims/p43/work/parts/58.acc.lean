/-! an access as a whole: the abstract one, its order, the class's -/
def aRun (S : AS) (c b : Nat) : Int32 := if aC S c 2 = -1 then 1 else if nI b = aC S c 2 + 1 then aC S c 1 + 1 else 1
def aSc (S : AS) (c b : Nat) : Int32 := if aRun S c b < aN S 0 then 0 else 1
def aK (S : AS) (b : Nat) : Nat := if aB S 0 b = -1 then 2 else if aB S 0 b = 2 then 1 else 0
def aRL (S : AS) (c b : Nat) : AS := uC (uC S c 1 (aRun S c b)) c 2 (nI b)
def aRf (w : Int32) : Nat := if w = 0 then 3 else 4
def aCc (S : AS) (c : Nat) (w : Int32) (k : Nat) : AS := uC (uC S c (aRf w) (aC S c (aRf w) + 1)) c (5 + k) (aC S c (5 + k) + 1)
def aT0 (S : AS) (s : Int32) : AS := if s = 0 then uN S 5 (aN S 5 + 1) else uN (uN S 5 (aN S 5 + 1)) 22 (aN S 22 + 1)
def aTc (S : AS) (k : Nat) (s : Int32) : AS := uN (aT0 S s) (14 + k) (aN S (14 + k) + 1)
def aS2 (S : AS) (c b : Nat) (w : Int32) : AS := aTc (aCc (aRL S c b) c w (aK S b)) (aK S b) (aSc S c b)
def aMd (S : AS) (b : Nat) (s : Int32) : AS := if aK S b = 0 then (if s = 0 then aMt S b (aB S 0 b).toNatClampNeg 1 else S) else if s = 0 then aCome S b else aScan S b
def aAcc (S : AS) (c b : Nat) (w : Int32) : AS := uB (aMd (aS2 S c b w) b (aSc S c b)) 2 b (nI c)
def aDm (S : AS) (b : Nat) (s d : Int32) : Int32 := if aK S b = 0 then d else if s = 0 then aDd (aS3 S b) b (aB S 4 b) d else d
def aLe (S : AS) (b : Nat) (s d : Int32) : Int32 := if aK S b = 0 then d else if s = 0 then aDl (aS3 S b) d else if aB S 0 b = 2 then d else aLf S d
theorem aN_tc {S : AS} {k j : Nat} {s : Int32} (h5 : j ≠ 5) (h22 : j ≠ 22) (hk : j ≠ 14 + k) : aN (aTc S k s) j = aN S j := by
  show aN (uN (aT0 S s) (14 + k) _) j = _
  rw [aN_ne hk]
  unfold aT0
  split
  · rw [aN_ne h5]
  · rw [aN_ne h22, aN_ne h5]
theorem aL_tc {S : AS} {k l : Nat} {s : Int32} : aL (aTc S k s) l = aL S l := by
  show aL (aT0 S s) l = _
  unfold aT0
  split <;> rfl
theorem aC_tc {S : AS} {k c f : Nat} {s : Int32} : aC (aTc S k s) c f = aC S c f := by
  show aC (aT0 S s) c f = _
  unfold aT0
  split <;> rfl
theorem aB_tc {S : AS} {k f b : Nat} {s : Int32} : aB (aTc S k s) f b = aB S f b := by
  show aB (aT0 S s) f b = _
  unfold aT0
  split <;> rfl
theorem aN_s2 {S : AS} {c b j : Nat} {w : Int32} (h5 : j ≠ 5) (h22 : j ≠ 22) (hk : j < 14 ∨ 17 ≤ j) : aN (aS2 S c b w) j = aN S j := by
  have : j ≠ 14 + aK S b := by
    unfold aK
    repeat' split
    all_goals omega
  exact aN_tc h5 h22 this
theorem aL_s2 {S : AS} {c b l : Nat} {w : Int32} : aL (aS2 S c b w) l = aL S l := aL_tc
theorem aB_s2 {S : AS} {c b f x : Nat} {w : Int32} : aB (aS2 S c b w) f x = aB S f x := aB_tc
theorem aC_s2 {S : AS} {c b d f : Nat} {w : Int32} : aC (aS2 S c b w) d f = if d = c ∧ f = 5 + aK S b then aC S c (5 + aK S b) + 1 else if d = c ∧ f = aRf w then aC S c (aRf w) + 1 else if d = c ∧ f = 2 then nI b else if d = c ∧ f = 1 then aRun S c b else aC S d f := by
  have hr : aRf w ≠ 2 ∧ aRf w ≠ 1 := by unfold aRf; split <;> decide
  show aC (aTc _ _ _) d f = _
  rw [aC_tc]
  show aC (uC (uC (uC (uC S c 1 (aRun S c b)) c 2 (nI b)) c (aRf w) (aC (uC (uC S c 1 (aRun S c b)) c 2 (nI b)) c (aRf w) + 1)) c (5 + aK S b) (aC (uC (uC S c 1 (aRun S c b)) c 2 (nI b)) c (5 + aK S b) + 1)) d f = _
  have e1 : aC (uC (uC S c 1 (aRun S c b)) c 2 (nI b)) c (aRf w) = aC S c (aRf w) := by rw [aC_uC, if_neg (fun q => hr.1 q.2), aC_uC, if_neg (fun q => hr.2 q.2)]
  have e2 : aC (uC (uC S c 1 (aRun S c b)) c 2 (nI b)) c (5 + aK S b) = aC S c (5 + aK S b) := by rw [aC_uC, if_neg (by omega), aC_uC, if_neg (by omega)]
  rw [e1, e2, aC_uC, aC_uC, aC_uC, aC_uC]
theorem Inv_s2 {S : AS} {c b : Nat} {w : Int32} (h : Inv S) (hb : b < 200) : Inv (aS2 S c b w) := by
  obtain ⟨⟨hL, hW, hU, ⟨k, k1, k2, k3⟩, hH, hS⟩, hB⟩ := h
  have hr0 : aRf w ≠ 0 := by unfold aRf; split <;> decide
  have hr2 : aRf w ≠ 2 := by unfold aRf; split <;> decide
  have hr1 : aRf w ≠ 1 := by unfold aRf; split <;> decide
  refine ⟨⟨fun l hl => ?_, ?_, ?_, ⟨k, ?_, k2, fun d hd => ⟨?_, ?_⟩⟩, ?_, ?_⟩, fun x hx => (hB x hx).congr (fun l _ => by rw [aL_s2]) (fun f _ => aB_s2) (aN_s2 (by decide) (by decide) (Or.inl (by decide)))⟩
  · rw [aL_s2]; exact hL l hl
  · unfold lowOk
    rw [aL_s2, aN_s2 (by decide) (by decide) (Or.inl (by decide))]; exact hW
  · unfold upOk
    rw [aL_s2, aL_s2, aL_s2, aL_s2, aN_s2 (by decide) (by decide) (Or.inl (by decide)), aN_s2 (by decide) (by decide) (Or.inl (by decide))]; exact hU
  · rw [aN_s2 (by decide) (by decide) (Or.inl (by decide))]; exact k1
  · rw [aC_s2, if_neg (by omega), if_neg (fun q => hr0 q.2.symm), if_neg (by omega), if_neg (by omega)]
    exact (k3 d hd).1
  · by_cases e : d = c
    · subst e
      right
      have e2 : aC (aS2 S d b w) d 2 = nI b := by rw [aC_s2, if_neg (by omega), if_neg (fun q => hr2 q.2.symm), if_pos ⟨rfl, rfl⟩]
      have e1 : aC (aS2 S d b w) d 1 = aRun S d b := by rw [aC_s2, if_neg (by omega), if_neg (fun q => hr1 q.2.symm), if_neg (by omega), if_pos ⟨rfl, rfl⟩]
      rw [e1, e2]
      unfold aRun
      rcases (k3 d hd).2 with ⟨q1, q2⟩ | ⟨z, r, q1, q2, q3, q4, q5⟩
      · rw [if_pos q1]
        exact ⟨b, 1, rfl, rfl, hb, by decide, by omega⟩
      · rw [q1, q2, if_neg (pu_m1 (by omega)), nI_1, nI_1]
        by_cases eb : nI b = nI (z + 1)
        · have := (nI_eq (by omega) (by omega)).mp eb
          rw [if_pos eb]
          exact ⟨b, r + 1, rfl, rfl, hb, by omega, by omega⟩
        · rw [if_neg eb]
          exact ⟨b, 1, rfl, rfl, hb, by decide, by omega⟩
    · rw [aC_s2, if_neg (fun q => e q.1), if_neg (fun q => e q.1), if_neg (fun q => e q.1), if_neg (fun q => e q.1), aC_s2, if_neg (fun q => e q.1), if_neg (fun q => e q.1), if_neg (fun q => e q.1), if_neg (fun q => e q.1)]
      exact (k3 d hd).2
  · unfold hdOk aHd
    rw [aN_s2 (by decide) (by decide) (Or.inl (by decide))]; exact hH
  · unfold setOk
    rw [aN_s2 (by decide) (by decide) (Or.inl (by decide)), aN_s2 (by decide) (by decide) (Or.inl (by decide))]; exact hS
-- a block that goes in
def BOkN (S : AS) (x : Nat) : Prop :=
  (∀ l, l < 3 → (x ∈ aL S l ↔ aB S 0 x = nI l)) ∧ (aB S 0 x = -1 ∨ ∃ l, l < 3 ∧ aB S 0 x = nI l) ∧
  (∀ l, l < 2 → (x ∈ aL S (3 + l) ↔ aB S 4 x = nI (3 + l))) ∧ (aB S 4 x = -1 ∨ ∃ l, l < 2 ∧ aB S 4 x = nI (3 + l)) ∧
  (aB S 0 x = -1 → aB S 1 x = -1 ∧ aB S 2 x = -1 ∧ aB S 3 x = -1) ∧ (aB S 0 x = nI 0 ∨ aB S 0 x = nI 1 → aB S 4 x = -1)
def InvN (S : AS) (b : Nat) : Prop := Inv0 S ∧ (∀ x, x < 200 → x ≠ b → BOk S x) ∧ BOkN S b ∧ aB S 0 b ≠ -1
theorem InvN_own {S : AS} {b c : Nat} (h : InvN S b) (hb : b < 200) (hc : c < 4) (hn : nI c < aN S 6) : Inv (uB S 2 b (nI c)) := by
  obtain ⟨h0, h1, ⟨a1, a2, a3, a4, a5, a6⟩, h3⟩ := h
  refine ⟨h0, fun x hx => ?_⟩
  by_cases e : x = b
  · subst e
    unfold BOk
    rw [aB_nf (f := 2) (g := 0) (by decide), aB_nf (f := 2) (g := 4) (by decide)]
    exact ⟨a1, a2, a3, a4, fun q => absurd q h3, a6, fun _ => ⟨c, hc, aB_eq, hn⟩⟩
  · exact (h1 x hx e).congr (fun _ _ => Iff.rfl) (fun f _ => aB_ne e) rfl
theorem Inv.N {S : AS} {b : Nat} (h : Inv S) (hb : b < 200) (hw : aB S 0 b ≠ -1) : InvN S b := by
  obtain ⟨a1, a2, a3, a4, a5, a6, a7⟩ := h.2 b hb
  exact ⟨h.1, fun x hx _ => h.2 x hx, ⟨a1, a2, a3, a4, a5, a6⟩, hw⟩
theorem In_ok {S : AS} {b l : Nat} (h : Mx S b) (hb : b < 200) (hl : l < 3) (h1 : l < 2 → aB S 4 b = -1 ∧ ∃ u, aN S 2 = nI u ∧ u ≤ 16 ∧ (aL S 0).length + (aL S 1).length < u) (h2 : l = 2 → ∃ w, aN S 3 = nI w ∧ w ≤ 24 ∧ (aL S 2).length < w) : InvN (aIn S b l) b := by
  obtain ⟨⟨hL, ⟨w, w1, w2, w3, w4⟩, ⟨u, u1, u2, u3, u4, u5, u6, u7⟩, hC, hH, hS⟩, m1, m2, m3, m4, m5⟩ := h
  have eL (m : Nat) : aL (aIn S b l) m = if m = l then b :: aL S l else aL S m := rfl
  have eB (f x : Nat) (hx : x ≠ b) : aB (aIn S b l) f x = aB S f x := aB_ne hx
  have hm (m x : Nat) (hx : x ≠ b) : x ∈ aL (aIn S b l) m ↔ x ∈ aL S m := by
    rw [eL]
    by_cases e : m = l
    · rw [if_pos e, e]; exact mem_cons_ne hx
    · rw [if_neg e]
  have e0 : aB (aIn S b l) 0 b = nI l := aB_eq
  have e4 : aB (aIn S b l) 4 b = aB S 4 b := aB_nf (f := 0) (by decide)
  refine ⟨⟨LOk_cons (S := uB S 0 b (nI l)) hL (by omega) hb (m1 l hl), ⟨w, w1, w2, w3, ?_⟩, ⟨u, u1, u2, u3, ?_, ?_, ?_, u7⟩, hC, hH, hS⟩, fun x hx hn => (m5 x hx hn).congr (fun m _ => hm m x hn) (fun f _ => eB f x hn) rfl, ?_, by rw [e0]; exact pu_m1 (by omega)⟩
  · rw [eL]
    by_cases e : 2 = l
    · obtain ⟨w', q1, q2, q3⟩ := h2 e.symm
      have : w' = w := (nI_eq (by omega) (by omega)).mp (q1.symm.trans w1)
      rw [if_pos e, ← e, List.length_cons]
      omega
    · rw [if_neg e]; exact w4
  · rw [eL, eL]
    by_cases e : l < 2
    · obtain ⟨-, u', q1, q2, q3⟩ := h1 e
      have : u' = u := (nI_eq (by omega) (by omega)).mp (q1.symm.trans u1)
      rcases (show l = 0 ∨ l = 1 by omega) with rfl | rfl
      · rw [if_pos rfl, if_neg (by decide), List.length_cons]; omega
      · rw [if_neg (by decide), if_pos rfl, List.length_cons]; omega
    · rw [if_neg (by omega), if_neg (by omega)]; exact u4
  · rw [eL, if_neg (by omega)]; exact u5
  · rw [eL, if_neg (by omega)]; exact u6
  · unfold BOkN
    rw [e0, e4]
    refine ⟨fun m hm => ?_, Or.inr ⟨l, hl, rfl⟩, fun m hm => ?_, m4, fun q => absurd q (pu_m1 (by omega)), fun q => ?_⟩
    · rw [eL, nI_eq (by omega) (by omega)]
      by_cases e : m = l
      · rw [if_pos e, e]; exact ⟨fun _ => rfl, fun _ => List.mem_cons_self⟩
      · rw [if_neg e]; exact ⟨fun q => absurd q (m1 m hm), fun q => absurd q.symm e⟩
    · rw [eL, if_neg (by omega)]; exact m3 m hm
    · refine (h1 ?_).1
      rcases q with q | q
      · have := (nI_eq (by omega) (by decide)).mp q; omega
      · have := (nI_eq (by omega) (by decide)).mp q; omega
theorem uB_uB {S : AS} {f b : Nat} {v w : Int32} : uB (uB S f b v) f b w = uB S f b w := by
  refine AS_ext (fun _ => rfl) (fun _ => rfl) (fun _ _ => rfl) (fun g x => ?_)
  rw [aB_uB, aB_uB, aB_uB]
  by_cases e : g = f ∧ x = b
  · rw [if_pos e, if_pos e]
  · rw [if_neg e, if_neg e, if_neg e]
theorem Mt_In (S : AS) (b l l2 : Nat) : aMt S b l l2 = aIn (uB (uL S l (pu_rm (aL S l) b)) 0 b (-1)) b l2 := by
  unfold aIn
  rw [uB_uB]
  rfl
theorem Mx_out {S : AS} {b l : Nat} (h : Inv S) (hb : b < 200) (hl : l < 3) (hw : aB S 0 b = nI l) : Mx (uB (uL S l (pu_rm (aL S l) b)) 0 b (-1)) b := by
  obtain ⟨⟨hL, hW, hU, hC, hH, hS⟩, hB⟩ := h
  obtain ⟨a1, a2, a3, a4, a5, a6, a7⟩ := hB b hb
  have hlen := pu_rm_le (aL S l) b
  have eL (m : Nat) : aL (uB (uL S l (pu_rm (aL S l) b)) 0 b (-1)) m = if m = l then pu_rm (aL S l) b else aL S m := rfl
  have hne (m : Nat) (hm : m < 3) (h2 : m ≠ l) : b ∉ aL S m := fun q => by
    have := (a1 m hm).mp q
    rw [hw] at this
    exact h2 ((nI_eq (by omega) (by omega)).mp this).symm
  refine ⟨⟨LOk_rm hL (by omega), ?_, ?_, hC, hH, hS⟩, fun m hm => ?_, aB_eq, fun m hm => ?_, ?_, fun x hx hn => ?_⟩
  · obtain ⟨w, w1, w2, w3, w4⟩ := hW
    refine ⟨w, w1, w2, w3, ?_⟩
    rw [eL]
    split
    · next q => rw [← q] at hlen ⊢; omega
    · exact w4
  · obtain ⟨u, u1, u2, u3, u4, u5, u6, u7⟩ := hU
    refine ⟨u, u1, u2, u3, ?_, ?_, ?_, u7⟩
    · rw [eL, eL]
      rcases (show l = 0 ∨ l = 1 ∨ l = 2 by omega) with rfl | rfl | rfl
      · rw [if_pos rfl, if_neg (by decide)]; omega
      · rw [if_neg (by decide), if_pos rfl]; omega
      · rw [if_neg (by decide), if_neg (by decide)]; exact u4
    · rw [eL, if_neg (by omega)]; exact u5
    · rw [eL, if_neg (by omega)]; exact u6
  · rw [eL]
    by_cases e2 : m = l
    · rw [if_pos e2]; exact fun q => (pu_rm_mem.mp q).2 rfl
    · rw [if_neg e2]; exact hne m hm e2
  · rw [aB_nf (f := 0) (g := 4) (by decide), eL, if_neg (by omega)]; exact a3 m hm
  · rw [aB_nf (f := 0) (g := 4) (by decide)]; exact a4
  · refine (hB x hx).congr (fun m _ => ?_) (fun f _ => (aB_ne hn).trans rfl) rfl
    rw [eL]
    by_cases e2 : m = l
    · rw [if_pos e2, e2]; exact mem_rm_ne hn
    · rw [if_neg e2]
theorem Mt_ok {S : AS} {b l l2 : Nat} (h : Inv S) (hb : b < 200) (hw : aB S 0 b = nI l) (hl : l < 2 ∧ l2 = 1 ∨ l = 2 ∧ l2 = 2) : InvN (aMt S b l l2) b := by
  have hl3 : l < 3 := by omega
  have hM := Mx_out h hb hl3 hw
  have hm : b ∈ aL S l := ((h.2 b hb).1 l hl3).mpr hw
  have hlen := pu_rm_len (h.1.1 l (by omega)).1 hm
  have eL (m : Nat) : aL (uB (uL S l (pu_rm (aL S l) b)) 0 b (-1)) m = if m = l then pu_rm (aL S l) b else aL S m := rfl
  rw [Mt_In]
  refine In_ok hM hb (by omega) (fun q => ⟨?_, ?_⟩) (fun q => ?_)
  · rw [aB_nf (f := 0) (g := 4) (by decide)]
    refine (h.2 b hb).2.2.2.2.2.1 ?_
    rw [hw]
    rcases (show l = 0 ∨ l = 1 by omega) with rfl | rfl
    · exact Or.inl rfl
    · exact Or.inr rfl
  · obtain ⟨u, u1, u2, u3, u4, -⟩ := h.1.2.2.1
    refine ⟨u, u1, u3, ?_⟩
    rw [eL, eL]
    rcases (show l = 0 ∨ l = 1 by omega) with rfl | rfl
    · rw [if_pos rfl, if_neg (by decide)]; omega
    · rw [if_neg (by decide), if_pos rfl]; omega
  · obtain ⟨w, w1, w2, w3, w4⟩ := h.1.2.1
    have e : l = 2 := by omega
    refine ⟨w, w1, w3, ?_⟩
    rw [eL, if_pos e.symm]
    rw [e] at hlen ⊢
    omega
theorem wh_cases {S : AS} {b : Nat} (h : Inv S) (hb : b < 200) : (aK S b = 2 ∧ aB S 0 b = -1) ∨ (aK S b = 1 ∧ aB S 0 b = 2) ∨ ∃ l, l < 2 ∧ aK S b = 0 ∧ aB S 0 b = nI l := by
  unfold aK
  rcases (h.2 b hb).2.1 with e | ⟨l, hl, e⟩
  · rw [if_pos e]; exact Or.inl ⟨rfl, e⟩
  · have e2 : (nI l = 2) ↔ l = 2 := nI_eq (b := 2) (by omega) (by decide)
    rw [e, if_neg (pu_m1 (by omega))]
    by_cases q : l = 2
    · rw [if_pos (e2.mpr q)]; exact Or.inr (Or.inl ⟨rfl, e2.mpr q⟩)
    · rw [if_neg (fun c => q (e2.mp c))]; exact Or.inr (Or.inr ⟨l, by omega, rfl, rfl⟩)
theorem Mk_g {S : AS} {wf : Int32} {b : Nat} (hM : Mx S b) (hg : aB S 4 b = -1) : aB (aMk S wf) 4 b = -1 := by
  by_cases e : aFull S
  · have hm := aV_mem (wf := wf) hM.1.2.2.1 e
    have hl := aVl_lt (S := S) wf
    have hxb : aV S wf ≠ b := fun q => hM.2.1 _ (by omega) (q ▸ hm)
    have eM : aB (aMR S) 4 b = -1 := by
      have hMR := Mx_MR hM
      rcases hMR.2.2.2.2.1 with q | ⟨l, hl2, q⟩
      · exact q
      · have : b ∈ aL S (3 + l) := by
          have := (hMR.2.2.2.1 l hl2).mpr q
          rwa [aL_MR (by omega)] at this
        have := (hM.2.2.2.1 l hl2).mp this
        rw [hg] at this
        exact absurd this (pu_m1' (by omega))
    rw [aMk_t e, aDem_eq _ _ _ hl]
    show aB (aMv _ _ _) 4 b = _
    rw [aB_mv, if_neg (by omega), if_neg (fun q => hxb q.2.symm)]
    rcases LG_cases (aMR S) (aVl S wf) with ⟨-, q⟩ | ⟨-, q⟩
    · rw [q]
      show aB (uB _ 4 _ (-1)) 4 b = _
      rw [aB_uB]
      split
      · rfl
      · exact eM
    · rw [q]; exact eM
  · rw [aMk_f e]; exact hg
theorem Come_ok {S : AS} {b : Nat} (h : Inv S) (hb : b < 200) (hw : aB S 0 b = -1 ∨ aB S 0 b = 2) : InvN (aCome S b) b := by
  obtain ⟨hM, hg⟩ := Mx_s3 h hb hw
  obtain ⟨hK, hr⟩ := Mx_Mk (wf := aWf (aB S 4 b)) hM
  have hlt : aLt (aB S 4 b) < 2 := by unfold aLt; split <;> decide
  exact In_ok hK hb (by omega) (fun _ => ⟨Mk_g hM hg, hr⟩) (fun q => by omega)
theorem Mx_clean {S : AS} {b : Nat} (h : Mx S b) : Mx (aClean S b) b := by
  obtain ⟨h0, h1, h2, h3, h4, h5⟩ := h
  refine ⟨h0, h1, ?_, ?_, ?_, fun x hx hn => BOk_clean (h5 x hx hn) hn⟩
  · show aB (uB (uB S 1 b _) 3 b _) 0 b = _
    rw [aB_nf (by decide), aB_nf (by decide)]; exact h2
  · show ∀ l, l < 2 → (b ∈ aL S (3 + l) ↔ aB (uB (uB S 1 b _) 3 b _) 4 b = nI (3 + l))
    rw [aB_nf (by decide), aB_nf (by decide)]; exact h3
  · show aB (uB (uB S 1 b _) 3 b _) 4 b = -1 ∨ ∃ l, l < 2 ∧ aB (uB (uB S 1 b _) 3 b _) 4 b = nI (3 + l)
    rw [aB_nf (by decide), aB_nf (by decide)]; exact h4
theorem Mx_non {S : AS} {b : Nat} (h : Inv S) (hb : b < 200) (hw : aB S 0 b = -1) : Mx S b := by
  obtain ⟨a1, a2, a3, a4, a5, a6, a7⟩ := h.2 b hb
  refine ⟨h.1, fun l hl q => ?_, hw, a3, a4, fun x hx _ => h.2 x hx⟩
  have := (a1 l hl).mp q
  rw [hw] at this
  exact pu_m1' (by omega) this
theorem Scan_ok {S : AS} {b : Nat} (h : Inv S) (hb : b < 200) (hw : aB S 0 b = -1 ∨ aB S 0 b = 2) : InvN (aScan S b) b := by
  unfold aScan
  by_cases e : aB S 0 b = 2
  · rw [if_pos e]
    exact Mt_ok h hb e (Or.inr ⟨rfl, rfl⟩)
  · rw [if_neg e]
    have hM := Mx_MR (Mx_non h hb (hw.resolve_right e))
    obtain ⟨w, w1, w2, w3⟩ := MR_room h.1.1 h.1.2.1
    exact In_ok (Mx_clean hM) hb (by decide) (fun q => by omega) (fun _ => ⟨w, w1, w2, w3⟩)
theorem Md_ok {S : AS} {b : Nat} {s : Int32} (h : Inv S) (hb : b < 200) : InvN (aMd S b s) b := by
  unfold aMd
  rcases wh_cases h hb with ⟨k, e⟩ | ⟨k, e⟩ | ⟨l, hl, k, e⟩
  · rw [if_neg (by rw [k]; decide)]
    split
    · exact Come_ok h hb (Or.inl e)
    · exact Scan_ok h hb (Or.inl e)
  · rw [if_neg (by rw [k]; decide)]
    split
    · exact Come_ok h hb (Or.inr e)
    · exact Scan_ok h hb (Or.inr e)
  · rw [if_pos k, e, nI_clamp (by omega)]
    split
    · exact Mt_ok h hb e (Or.inl ⟨hl, rfl⟩)
    · exact h.N hb (by rw [e]; exact pu_m1 (by omega))
