/-! what an access leaves as it was; the class's access -/
theorem aN_LG (S : AS) (l k : Nat) : aN (aLG S (3 + l)) k = aN S k := by
  rcases LG_cases S l with ⟨-, q⟩ | ⟨-, q⟩
  · rw [q]; rfl
  · rw [q]
theorem aC_LG (S : AS) (l c f : Nat) : aC (aLG S (3 + l)) c f = aC S c f := by
  rcases LG_cases S l with ⟨-, q⟩ | ⟨-, q⟩
  · rw [q]; rfl
  · rw [q]
theorem aN_Mk {S : AS} {wf : Int32} {k : Nat} (h1 : k ≠ 13) (h2 : k ≠ 19) (h3 : k ≠ 20) (h4 : k ≠ 21) : aN (aMk S wf) k = aN S k := by
  by_cases e : aFull S
  · rw [aMk_t e, aDem_eq _ _ _ (aVl_lt wf)]
    show aN (uN (aMv _ _ _) 19 _) k = _
    rw [aN_ne h2]
    show aN (aLG _ _) k = _
    rw [aN_LG, aN_MR h1 h3 h4]
  · rw [aMk_f e]
theorem aC_Mk {S : AS} {wf : Int32} {c f : Nat} : aC (aMk S wf) c f = aC S c f := by
  by_cases e : aFull S
  · rw [aMk_t e, aDem_eq _ _ _ (aVl_lt wf)]
    show aC (aLG _ _) c f = _
    rw [aC_LG, aC_MR]
  · rw [aMk_f e]
theorem aN_s3 {S : AS} {b k : Nat} (h1 : k ≠ 4) (h2 : k ≠ 17) (h3 : k ≠ 18) : aN (aS3 S b) k = aN S k := by
  have e1 (T : AS) : aN (aLG1 T b) k = aN T k := by
    unfold aLG1
    split <;> rfl
  have e2 (T : AS) (g : Int32) : aN (aLn T g) k = aN T k := by
    unfold aLn
    split
    · rw [aN_ne h1, aN_ne h2]
    · split
      · rw [aN_ne h1, aN_ne h3]
      · rfl
  have e3 : aN (aTop S b) k = aN S k := by
    by_cases e : aB S 0 b = 2
    · rw [aTop_2 e]; rfl
    · rw [aTop_n e]; rfl
  exact (e1 _).trans ((e2 _ _).trans e3)
theorem aC_s3 {S : AS} {b c f : Nat} : aC (aS3 S b) c f = aC S c f := by
  have e1 (T : AS) : aC (aLG1 T b) c f = aC T c f := by
    unfold aLG1
    split <;> rfl
  have e2 (T : AS) (g : Int32) : aC (aLn T g) c f = aC T c f := by
    unfold aLn
    repeat' split
    all_goals rfl
  have e3 : aC (aTop S b) c f = aC S c f := by
    by_cases e : aB S 0 b = 2
    · rw [aTop_2 e]; rfl
    · rw [aTop_n e]; rfl
  exact (e1 _).trans ((e2 _ _).trans e3)
theorem aN_md {S : AS} {b k : Nat} {s : Int32} (h0 : k ≠ 4) (h1 : k ≠ 13) (h17 : k ≠ 17) (h18 : k ≠ 18) (h2 : k ≠ 19) (h3 : k ≠ 20) (h4 : k ≠ 21) : aN (aMd S b s) k = aN S k := by
  unfold aMd
  split
  · split <;> rfl
  · split
    · show aN (aMk _ _) k = _
      rw [aN_Mk h1 h2 h3 h4, aN_s3 h0 h17 h18]
    · unfold aScan
      split
      · rfl
      · exact aN_MR h1 h3 h4
theorem aC_md {S : AS} {b c f : Nat} {s : Int32} : aC (aMd S b s) c f = aC S c f := by
  unfold aMd
  split
  · split <;> rfl
  · split
    · show aC (aMk _ _) c f = _
      rw [aC_Mk, aC_s3]
    · unfold aScan
      split
      · rfl
      · exact aC_MR
theorem Inv_acc {S : AS} {c b : Nat} {w : Int32} (h : Inv S) (hb : b < 200) (hc : c < 4) (hn : nI c < aN S 6) : Inv (aAcc S c b w) := by
  refine InvN_own (Md_ok (Inv_s2 h hb) hb) hb hc ?_
  rw [aN_md (by decide) (by decide) (by decide) (by decide) (by decide) (by decide) (by decide), aN_s2 (by decide) (by decide) (Or.inl (by decide))]
  exact hn
theorem RepC.cliT {σ : CacS} {S T : AS} {E : Nat → Prop} {c : Nat} {τ : ObjS} (h : RepC σ S E) (hN : ∀ k, aN T k = aN S k) (hL : ∀ l, aL T l = aL S l) (hB : ∀ f b, aB T f b = aB S f b) (hC : ∀ d, d ≠ c → ∀ f, aC T d f = aC S d f) (hf : c < 4 → nI c < aN S 6 → ∀ f, f < 8 → τ.2 f = aC T c f) : RepC (va_up σ (8 + c) τ) T E := by
  obtain ⟨ho, hb, ht, hrr, hk⟩ := h
  refine ⟨?_, ?_, ?_, fun k hk2 => ?_, fun x hx hn g hg => ?_⟩
  · rw [va_up_ne _ _ (show 0 ≠ 8 + c by omega)]
    unfold RepO
    rw [hN, hN, hN, hN, hN, hN]; exact ho
  · rw [va_up_ne _ _ (show 1 ≠ 8 + c by omega)]
    unfold RepB
    rw [hN, hN]
    exact ⟨hb.1, hb.2.1, fun x hx => by rw [hB, hB, hB, hB, hB, hB]; exact hb.2.2 x hx⟩
  · rw [va_up_ne _ _ (show 2 ≠ 8 + c by omega)]
    unfold RepT
    rw [hN, hN, hN, hN, hN, hN, hN, hN, hN]; exact ht
  · rw [va_up_ne _ _ (show 3 + k ≠ 8 + c by omega), hL]; exact hrr k hk2
  · rw [hN] at hn
    by_cases e : x = c
    · subst e
      rw [va_up_self]; exact hf hx hn g hg
    · rw [va_up_ne _ _ (show 8 + x ≠ 8 + c by omega), hC x e]; exact hk x hx hn g hg
theorem RepC.talT {σ : CacS} {S T : AS} {E : Nat → Prop} {τ : ObjS} (h : RepC σ S E) (ht : RepT τ T) (hN : ∀ k, k < 5 ∨ k = 6 ∨ k = 13 ∨ k = 21 → aN T k = aN S k) (hL : ∀ l, aL T l = aL S l) (hB : ∀ f b, aB T f b = aB S f b) (hC : ∀ d f, aC T d f = aC S d f) : RepC (va_up σ 2 τ) T E := by
  obtain ⟨⟨o1, o2, o3, o4, o5, o6⟩, hb, -, hrr, hk⟩ := h
  refine ⟨⟨?_, ?_, ?_, ?_, ?_, ?_⟩, ?_, ht, fun k hk2 => ?_, fun x hx hn g hg => ?_⟩
  · rw [hN 6 (by omega)]; exact o1
  · rw [hN 0 (by omega)]; exact o2
  · rw [hN 1 (by omega)]; exact o3
  · rw [hN 2 (by omega)]; exact o4
  · rw [hN 3 (by omega)]; exact o5
  · rw [hN 4 (by omega)]; exact o6
  · refine ⟨?_, ?_, fun x hx => ?_⟩
    · rw [hN 13 (by omega)]; exact hb.1
    · rw [hN 21 (by omega)]; exact hb.2.1
    · rw [hB, hB, hB, hB, hB, hB]; exact hb.2.2 x hx
  · rw [va_up_ne _ _ (show 3 + k ≠ 2 by omega), hL]; exact hrr k hk2
  · rw [hN 6 (by omega)] at hn
    rw [va_up_ne _ _ (show 8 + x ≠ 2 by omega), hC]; exact hk x hx hn g hg
theorem c_cnt {τ : ObjS} {k : Nat} {w : Int32} (hk : k < 3) : Ok (f_X2_countAccess τ (nI k) w) (fun t => t.2 (aRf w) = τ.2 (aRf w) + 1 ∧ t.2 (5 + k) = τ.2 (5 + k) + 1 ∧ ∀ f, f ≠ aRf w → f ≠ 5 + k → t.2 f = τ.2 f) := by
  unfold f_X2_countAccess aRf
  rcases (show k = 0 ∨ k = 1 ∨ k = 2 by omega) with rfl | rfl | rfl <;> by_cases e : w = 0
  · rw [if_pos e, if_pos e]
    refine ok_let (ok_t rfl (ok_let (ok_some ⟨rfl, rfl, fun f h1 h2 => ?_⟩)))
    exact (va_up_ne _ _ h2).trans (va_up_ne _ _ h1)
  · rw [if_neg e, if_neg e]
    refine ok_let (ok_t rfl (ok_let (ok_some ⟨rfl, rfl, fun f h1 h2 => ?_⟩)))
    exact (va_up_ne _ _ h2).trans (va_up_ne _ _ h1)
  · rw [if_pos e, if_pos e]
    refine ok_let (ok_f (by decide) (ok_t rfl (ok_let (ok_some ⟨rfl, rfl, fun f h1 h2 => ?_⟩))))
    exact (va_up_ne _ _ h2).trans (va_up_ne _ _ h1)
  · rw [if_neg e, if_neg e]
    refine ok_let (ok_f (by decide) (ok_t rfl (ok_let (ok_some ⟨rfl, rfl, fun f h1 h2 => ?_⟩))))
    exact (va_up_ne _ _ h2).trans (va_up_ne _ _ h1)
  · rw [if_pos e, if_pos e]
    refine ok_let (ok_f (by decide) (ok_f (by decide) (ok_let (ok_some ⟨rfl, rfl, fun f h1 h2 => ?_⟩))))
    exact (va_up_ne _ _ h2).trans (va_up_ne _ _ h1)
  · rw [if_neg e, if_neg e]
    refine ok_let (ok_f (by decide) (ok_f (by decide) (ok_let (ok_some ⟨rfl, rfl, fun f h1 h2 => ?_⟩))))
    exact (va_up_ne _ _ h2).trans (va_up_ne _ _ h1)
theorem c_tal {τ : ObjS} {S : AS} {k : Nat} {s : Int32} (hk : k < 3) (h : RepT τ S) : Ok (f_X6_countAccess τ (nI k) s) (fun t => RepT t (aTc S k s) ∧ t.2 9 = -1 ∧ t.2 10 = -1) := by
  obtain ⟨t1, t2, t3, t4, t5, t6, t7, t8, t9⟩ := h
  unfold f_X6_countAccess aTc aT0
  refine ok_let (ok_let (ok_let ?_))
  by_cases e : s = 0
  · rw [if_pos e, if_pos e]
    rcases (show k = 0 ∨ k = 1 ∨ k = 2 by omega) with rfl | rfl | rfl
    · exact ok_t rfl (ok_let (ok_some ⟨⟨congrArg (· + 1) t1, congrArg (· + 1) t2, t3, t4, t5, t6, t7, t8, t9⟩, rfl, rfl⟩))
    · exact ok_f (by decide) (ok_t rfl (ok_let (ok_some ⟨⟨congrArg (· + 1) t1, t2, congrArg (· + 1) t3, t4, t5, t6, t7, t8, t9⟩, rfl, rfl⟩)))
    · exact ok_f (by decide) (ok_f (by decide) (ok_let (ok_some ⟨⟨congrArg (· + 1) t1, t2, t3, congrArg (· + 1) t4, t5, t6, t7, t8, t9⟩, rfl, rfl⟩)))
  · rw [if_neg e, if_neg e]
    refine ok_let ?_
    rcases (show k = 0 ∨ k = 1 ∨ k = 2 by omega) with rfl | rfl | rfl
    · exact ok_t rfl (ok_let (ok_some ⟨⟨congrArg (· + 1) t1, congrArg (· + 1) t2, t3, t4, t5, t6, t7, t8, congrArg (· + 1) t9⟩, rfl, rfl⟩))
    · exact ok_f (by decide) (ok_t rfl (ok_let (ok_some ⟨⟨congrArg (· + 1) t1, t2, congrArg (· + 1) t3, t4, t5, t6, t7, t8, congrArg (· + 1) t9⟩, rfl, rfl⟩)))
    · exact ok_f (by decide) (ok_f (by decide) (ok_let (ok_some ⟨⟨congrArg (· + 1) t1, t2, t3, congrArg (· + 1) t4, t5, t6, t7, t8, congrArg (· + 1) t9⟩, rfl, rfl⟩)))
theorem aK_lt (S : AS) (b : Nat) : aK S b < 3 := by
  unfold aK
  repeat' split
  all_goals decide
theorem aK_s2 {S : AS} {c b : Nat} {w : Int32} : aK (aS2 S c b w) b = aK S b := by
  unfold aK
  rw [aB_s2]
section CC
variable {σ : CacS} {S : AS}
theorem c_kind {b : Nat} (h : RepC σ S E0) (hb : b < 200) : f_X1_kindOf σ (nI b) = some (nI (aK S b)) := by
  unfold f_X1_kindOf aK
  rw [p0_listOf h.2.1 (fun q => q) hb, Option.bind_some]
  split
  · rfl
  · split <;> rfl
theorem c_acc48 {N c b : Nat} {w s : Int32} (hN : 1000 ≤ N) (h : RepC σ (aRL S c b) E0) (hI : Inv S) (hb : b < 200) (hc : c < 4) (hn : nI c < aN S 6) (hs : s = aSc S c b) : Ok (f_X1_access_b48 N σ (nI c) (nI b) w c s) (fun t => t.1 = nI (aK S b) ∧ RepC t.2 (aAcc S c b w) E0 ∧ (t.2 2).2 9 = aDm (aS2 S c b w) b s (-1) ∧ (t.2 2).2 10 = aLe (aS2 S c b w) b s (-1)) := by
  have hk := aK_lt S b
  unfold f_X1_access_b48
  refine ok_bindE (c_kind h hb) ?_
  rw [show aK (aRL S c b) b = aK S b from rfl]
  refine ok_bind (c_cnt hk) (fun t ht => ok_let ?_)
  have hf := h.2.2.2.2 c hc hn
  have hr8 : aRf w < 5 := by unfold aRf; split <;> decide
  have hA : RepC (va_up σ (8 + c) t) (aCc (aRL S c b) c w (aK S b)) E0 := by
    refine h.cliT (fun _ => rfl) (fun _ => rfl) (fun _ _ => rfl) (fun d hd f => ?_) (fun _ _ f hf8 => ?_)
    · show aC (uC (uC _ c _ _) c _ _) d f = _
      rw [aC_uC, if_neg (fun q => hd q.1), aC_uC, if_neg (fun q => hd q.1)]
    · show _ = aC (uC (uC _ c _ _) c _ _) c f
      rw [aC_uC, aC_uC]
      by_cases e5 : f = 5 + aK S b
      · rw [if_pos ⟨rfl, e5⟩, e5, ht.2.1, hf _ (by omega)]
      · rw [if_neg (fun q => e5 q.2)]
        by_cases e3 : f = aRf w
        · rw [if_pos ⟨rfl, e3⟩, e3, ht.1, hf _ (by omega)]
        · rw [if_neg (fun q => e3 q.2), ht.2.2 f e3 e5, hf f hf8]
  refine ok_bind (c_tal (s := s) hk hA.2.2.1) (fun t2 ht2 => ok_let ?_)
  have hkk : 14 + aK S b < 17 := by omega
  have hB : RepC (va_up (va_up σ (8 + c) t) 2 t2) (aS2 S c b w) E0 := by
    rw [hs] at ht2
    exact hA.talT ht2.1 (fun k hk => aN_tc (by omega) (by omega) (by omega)) (fun _ => aL_tc) (fun _ _ => aB_tc) (fun _ _ => aC_tc)
  have hI2 : Inv (aS2 S c b w) := Inv_s2 hI hb
  have e9 : (va_up (va_up σ (8 + c) t) 2 t2 2).2 9 = -1 := ht2.2.1
  have e10 : (va_up (va_up σ (8 + c) t) 2 t2 2).2 10 = -1 := ht2.2.2
  generalize va_up (va_up σ (8 + c) t) 2 t2 = σ2 at hB e9 e10 ⊢
  have last (τ : CacS) (d e : Int32) (h1 : RepC τ (aMd (aS2 S c b w) b s) E0) (h2 : (τ 2).2 9 = d) (h3 : (τ 2).2 10 = e) : Ok ((f_X0_giveTo (τ 1) (nI b) (nI c)).bind fun r13 => cx_let (va_up τ 1 r13) fun z15 => some (nI (aK S b), z15)) (fun t => t.1 = nI (aK S b) ∧ RepC t.2 (aAcc S c b w) E0 ∧ (t.2 2).2 9 = d ∧ (t.2 2).2 10 = e) := by
    refine ok_bind (p0_giveTo h1.2.1 hb (nI c)) (fun t ht => ok_let (ok_some ⟨rfl, ?_, h2, h3⟩))
    have := h1.b ht (sB_uB _ _ _ _)
    rw [hs] at this
    exact this
  have ek : aK (aS2 S c b w) b = aK S b := aK_s2
  rcases wh_cases hI2 hb with ⟨k, e⟩ | ⟨k, e⟩ | ⟨l, hl, k, e⟩
  · have ek2 : aK S b = 2 := ek.symm.trans k
    have eD (d : Int32) : aDm (aS2 S c b w) b s d = if s = 0 then aDd (aS3 (aS2 S c b w) b) b (aB (aS2 S c b w) 4 b) d else d := if_neg (by omega)
    have eL (d : Int32) : aLe (aS2 S c b w) b s d = if s = 0 then aDl (aS3 (aS2 S c b w) b) d else if aB (aS2 S c b w) 0 b = 2 then d else aLf (aS2 S c b w) d := if_neg (by omega)
    have eM : aMd (aS2 S c b w) b s = if s = 0 then aCome (aS2 S c b w) b else aScan (aS2 S c b w) b := if_neg (by omega)
    rw [eM] at last
    refine ok_f (fun q => by rw [ek2] at q; exact absurd q (by decide)) ?_
    by_cases e0 : s = 0
    · rw [if_pos e0] at last
      rw [if_pos e0, eD, eL, if_pos e0, if_pos e0]
      refine ok_bind (c_come hN hB hI2 hb (Or.inl e)) (fun r hr => last r _ _ hr.1 ?_ ?_)
      · rw [hr.2.1, e9]
      · rw [hr.2.2, e10]
    · rw [if_neg e0] at last
      rw [if_neg e0, eD, eL, if_neg e0, if_neg e0]
      refine ok_bind (c_scan hN hB hI2 hb (Or.inl e)) (fun r hr => last r _ _ hr.1 ?_ ?_)
      · rw [hr.2.1, e9]
      · rw [hr.2.2, e10]
  · have ek2 : aK S b = 1 := ek.symm.trans k
    have eD (d : Int32) : aDm (aS2 S c b w) b s d = if s = 0 then aDd (aS3 (aS2 S c b w) b) b (aB (aS2 S c b w) 4 b) d else d := if_neg (by omega)
    have eL (d : Int32) : aLe (aS2 S c b w) b s d = if s = 0 then aDl (aS3 (aS2 S c b w) b) d else if aB (aS2 S c b w) 0 b = 2 then d else aLf (aS2 S c b w) d := if_neg (by omega)
    have eM : aMd (aS2 S c b w) b s = if s = 0 then aCome (aS2 S c b w) b else aScan (aS2 S c b w) b := if_neg (by omega)
    rw [eM] at last
    refine ok_f (fun q => by rw [ek2] at q; exact absurd q (by decide)) ?_
    by_cases e0 : s = 0
    · rw [if_pos e0] at last
      rw [if_pos e0, eD, eL, if_pos e0, if_pos e0]
      refine ok_bind (c_come hN hB hI2 hb (Or.inr e)) (fun r hr => last r _ _ hr.1 ?_ ?_)
      · rw [hr.2.1, e9]
      · rw [hr.2.2, e10]
    · rw [if_neg e0] at last
      rw [if_neg e0, eD, eL, if_neg e0, if_neg e0]
      refine ok_bind (c_scan hN hB hI2 hb (Or.inr e)) (fun r hr => last r _ _ hr.1 ?_ ?_)
      · rw [hr.2.1, e9]
      · rw [hr.2.2, e10]
  · have ek2 : aK S b = 0 := ek.symm.trans k
    have eD (d : Int32) : aDm (aS2 S c b w) b s d = d := if_pos k
    have eL (d : Int32) : aLe (aS2 S c b w) b s d = d := if_pos k
    have eM : aMd (aS2 S c b w) b s = if s = 0 then aMt (aS2 S c b w) b l 1 else aS2 S c b w := by
      have : aMd (aS2 S c b w) b s = if s = 0 then aMt (aS2 S c b w) b (aB (aS2 S c b w) 0 b).toNatClampNeg 1 else aS2 S c b w := if_pos k
      rw [e, nI_clamp (by omega)] at this
      exact this
    rw [eM] at last
    refine ok_t (by rw [ek2]; rfl) ?_
    rw [eD, eL]
    by_cases e0 : s = 0
    · rw [if_pos e0] at last
      rw [if_pos e0]
      refine ok_bind (c_most hN hB hI2 hb hl e) (fun r hr => last r _ _ hr.1 ?_ ?_)
      · rw [hr.2, e9]
      · rw [hr.2, e10]
    · rw [if_neg e0] at last
      rw [if_neg e0]
      exact last σ2 _ _ hB e9 e10
theorem c_access {N c b : Nat} {w : Int32} (hN : 1000 ≤ N) (h : RepC σ S E0) (hI : Inv S) (hb : b < 200) (hc : c < 4) (hn : nI c < aN S 6) : Ok (f_X1_access N σ (nI c) (nI b) w) (fun t => t.1 = nI (aK S b) ∧ RepC t.2 (aAcc S c b w) E0 ∧ (t.2 2).2 9 = aDm (aS2 S c b w) b (aSc S c b) (-1) ∧ (t.2 2).2 10 = aLe (aS2 S c b w) b (aSc S c b) (-1)) := by
  have hf := h.2.2.2.2 c hc hn
  unfold f_X1_access
  refine ok_bindE (c_clientOf h hc hn) ?_
  show Ok ((f_X2_runWith (σ (8 + c)) (nI b)).bind _) _
  have er : f_X2_runWith (σ (8 + c)) (nI b) = some (aRun S c b) := by
    unfold f_X2_runWith aRun
    rw [hf 2 (by decide), hf 1 (by decide)]
    split
    · rfl
    · split <;> rfl
  refine ok_bindE er (ok_let (ok_let ?_))
  have hA := (h.cli (c := c) (f := 1) (aRun S c b)).cli (c := c) (f := 2) (nI b)
  generalize hz : va_up (va_up σ (8 + c) (oI (σ (8 + c)) 1 (aRun S c b))) (8 + c) (oI ((va_up σ (8 + c) (oI (σ (8 + c)) 1 (aRun S c b))) (8 + c)) 2 (nI b)) = σ7 at hA ⊢
  have e1 : (σ7 (8 + c)).2 1 = aRun S c b := by
    have := hA.2.2.2.2 c hc hn 1 (by decide)
    rw [this, aC_uC, if_neg (by omega), aC_uC, if_pos ⟨rfl, rfl⟩]
  have e2 : (σ7 0).2 10 = aN S 0 := hA.1.2.1
  rw [e1, e2]
  by_cases e : aRun S c b < aN S 0
  · have : aSc S c b = 0 := if_pos e
    rw [if_pos e, this]
    exact c_acc48 hN hA hI hb hc hn this.symm
  · have : aSc S c b = 1 := if_neg e
    rw [if_neg e, this]
    exact c_acc48 hN hA hI hb hc hn this.symm
end CC
