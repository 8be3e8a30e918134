/-! others() OF THE LAW: flush, forget, write and undo, base and weight -/
/-- all that stands behind a step -/
def Nz (k t d9 : Nat) (δ : LwS) : Prop := ∃ U n v d bb w, d ≤ d9 ∧ Hd δ U n v d bb w ∧ SI U w k t
theorem SI.keep {S T : AS} {w w' : Nat → Int32} {k t : Nat} (h : SI S w k t) (hI : Inv T) (hJ : JN T w' t) (eN : ∀ j, j ≠ 13 → j ≠ 21 → aN T j = aN S j) (eC : ∀ d f, f ≠ 0 → aC T d f = aC S d f) : SI T w' k t := by
  obtain ⟨-, h6, k1, k4, -, h5, s1, s2, s3, s4, s5, s6, s7⟩ := h
  have sm : ∀ f, f ≠ 0 → aSm T f k = aSm S f k := fun f hf => aSm_congr k (fun d _ => eC d f hf)
  refine ⟨hI, (eN 6 (by decide) (by decide)).trans h6, k1, k4, hJ, (eN 5 (by decide) (by decide)).trans h5, ?_⟩
  unfold SumOk
  rw [sm 3 (by decide), sm 4 (by decide), sm 5 (by decide), sm 6 (by decide), sm 7 (by decide), eN 5 (by decide) (by decide), eN 14 (by decide) (by decide), eN 15 (by decide) (by decide), eN 16 (by decide) (by decide), eN 17 (by decide) (by decide), eN 18 (by decide) (by decide), eN 22 (by decide) (by decide)]
  exact ⟨s1, s2, s3, s4, s5, s6, s7⟩
theorem aC_LG1 {S : AS} {b d f : Nat} : aC (aLG1 S b) d f = aC S d f := by
  unfold aLG1
  split <;> rfl
theorem LG1_4 {S : AS} {b : Nat} : aB (aLG1 S b) 4 b = -1 := by
  unfold aLG1
  split
  · next h => exact h
  · exact aB_eq
theorem aC_WB {most : Int32} {d f : Nat} : ∀ r k S, aC (aWB most r k S).2 d f = aC S d f := by
  intro r
  induction r with
  | zero => intro k S; rfl
  | succ r ih =>
    intro k S
    rw [aWB]
    split
    · rfl
    · split
      · rfl
      · rw [ih]; rfl
section OT
variable {N n v d bb t k c b : Nat} {z : ZS} {δ : LwS} {S : AS} {w : Nat → Int32}
theorem d_ok {α : Type} {F : Int32 × LwS → Option α} {Q : α → Prop} {m : Nat} (hz : z.2.1 ≤ 260) (hd : Hd δ S n v d bb w) (hd2 : d < 2 ^ 30) (h1 : 1 ≤ m) (hm : m < 2 ^ 30) (h : ∀ x δ', x < m → Hd δ' S n v (d + 1) bb w → Ok (F (nI x, δ')) Q) : Ok ((f_L_draw z δ (nI m)).bind F) Q := by
  refine ok_bind (q_draw hz hd.2.2.2.1 hd2 h1 hm) (fun r hr => ?_)
  obtain ⟨a, δ'⟩ := r
  obtain ⟨⟨x, hx, ex⟩, e⟩ := hr
  simp only at ex e
  subst ex e
  exact h x _ hx hd.draw
theorem q_ha (hd : Hd δ S n v d bb w) : f_L_count N δ.2 23 = some (nI n) := by
  rw [q_a, hd.2.1.2.2.1]
theorem n_up {n : Nat} (h8 : n ≤ 8) : nI (if n < 8 then n + 1 else 8) = if (nI n + 1) < 8 then nI n + 1 else 8 := by
  rw [nI_1]
  by_cases h : n < 8
  · rw [if_pos h]
    by_cases h7 : n = 7
    · subst h7; rfl
    · rw [if_pos (show nI (n + 1) < 8 from nI_lt (b := 8) (by omega) (by decide))]
  · rw [if_neg h, if_neg (show ¬ nI (n + 1) < 8 from nI_nlt (b := 8) (by omega) (by omega))]
    rfl
theorem q_b1x {N b : Nat} {S : AS} (hN : 1000 ≤ N) (hI : Inv S) (hb : b < 200) : ∃ v, ∀ γ : GLS, RepC γ.2.2.1 S E0 → f_L_block N γ (nI b) 1 = some v := by
  rcases (hI.2 b hb).2.1 with e | ⟨l, hl, e⟩
  · refine ⟨-1, fun γ hC => ?_⟩
    refine e_b (e_b (rgN (a := 0) (b := 199) (Nat.zero_le _) (by omega) (by decide)) (e_b (rgN (n := 1) (a := 0) (b := 6) (by decide) (by decide) (by decide)) (e_b (e_f (by decide) (e_t rfl (e_b (e_b (p0_listOf hC.2.1 (fun q => q) hb) (e_t e rfl)) rfl))) rfl))) rfl
  · exact ⟨_, fun γ hC => q_b1 hN hC hI hb hl e⟩
/-- what a flush leaves -/
theorem q_flush (hN : 1000 ≤ N) (hd : Hd δ S n v d bb w) (hI : Inv S) {m : Nat} (h1 : 1 ≤ m) (hm : m ≤ 40) : Ok (f_L_flush N δ.2 (nI m)) (fun r => r.1 = (aWB (nI m) 200 0 S).1 ∧ Hd (δ.1, r.2) (aWB (nI m) 200 0 S).2 (if n < 8 then n + 1 else 8) ((v + 1) % 8) d bb w) := by
  obtain ⟨hC, hH, hw, hd4, hb4, hb5⟩ := hd
  obtain ⟨η', k1, k2, k3⟩ := k_keep hN hC hI.1.2.2.2.1 hH
  obtain ⟨t, c1, c2, c3⟩ := p0_writeBackSome (N := N) (most := nI m) hN hC.2.1 hI.1.2.2.2.2.1
  exact ⟨(t.1, (δ.2.1, δ.2.2.1, va_up δ.2.2.2.1 1 t.2, δ.2.2.2.2.1, η')), e_b (e_b (rgN (a := 1) (b := 40) h1 hm (by decide)) (e_b k1 (e_l (e_b c1 (e_l rfl))))) rfl, c2, hC.b c3 (sB_WB _ _ _), k2, hw, hd4, hb4, hb5⟩
/-- what a forgetting leaves -/
theorem q_forget (hN : 1000 ≤ N) (hd : Hd δ S n v d bb w) (hI : Inv S) (hb : b < 200) : ∃ U, Inv U ∧ aB U 0 b = -1 ∧ aB U 4 b = -1 ∧ aB U 3 b = -1 ∧ aB U 5 b = aB S 5 b ∧ (∀ j, aN U j = aN S j) ∧ (∀ d f, aC U d f = aC S d f) ∧ (∀ f x, f ≠ 4 → x ≠ b → aB U f x = aB S f x) ∧ Ok (f_L_forget N δ.2 (nI b)) (fun r => r.1 = (if aB S 0 b = -1 then 0 else 1) ∧ Hd (δ.1, r.2) U (if n < 8 then n + 1 else 8) ((v + 1) % 8) d bb w) := by
  obtain ⟨hC, hH, hw4, hd4, hb4, hb5⟩ := hd
  obtain ⟨η', k1, k2, k3⟩ := k_keep hN hC hI.1.2.2.2.1 hH
  obtain ⟨a1, a2, a3, a4, a5, a6, a7⟩ := id (hI.2 b hb)
  have hl := c_lose (N := N) (by omega) hC hI hb
  by_cases hw : aB S 0 b = -1
  · obtain ⟨t, c1, c2, c3⟩ := hl.1 hw
    have hi : Inv (aLG1 S b) := Mx_Inv (Mx_LG1 (Mx_non hI hb hw)).1 ((aB_LG1 (by decide)).trans (a5 hw).1) ((aB_LG1 (by decide)).trans (a5 hw).2.1) ((aB_LG1 (by decide)).trans (a5 hw).2.2)
    refine ⟨aLG1 S b, hi, (aB_LG1 (by decide)).trans hw, LG1_4, (aB_LG1 (by decide)).trans (a5 hw).2.2, aB_LG1 (by decide), fun j => aN_LG1, fun d f => aC_LG1, fun f x hf _ => aB_LG1 hf, ?_⟩
    refine ⟨(0, (δ.2.1, δ.2.2.1, t.2, δ.2.2.2.2.1, η')), e_b (a := (0, (δ.2.1, δ.2.2.1, t.2, δ.2.2.2.2.1, η'))) (e_b (rgN (a := 0) (b := 199) (Nat.zero_le _) (by omega) (by decide)) (e_b k1 (e_l (e_b c1 (e_l ?_))))) (e_t rfl rfl), by rw [if_pos hw], c3, k2, hw4, hd4, hb4, hb5⟩
    rw [c2]; exact zb_0
  · obtain ⟨l, hl3, el⟩ := a2.resolve_left hw
    obtain ⟨t, c1, c2, c3⟩ := hl.2 l hl3 el
    have hX := Mx_aOut hI hb hl3 el
    have q0 : aB (aOut S b l) 0 b = -1 := aB_eq
    have q3 : aB (aOut S b l) 3 b = -1 := (aB_nf (by decide)).trans aB_eq
    have q2 : aB (aOut S b l) 2 b = -1 := (aB_nf (by decide)).trans ((aB_nf (by decide)).trans aB_eq)
    have q1 : aB (aOut S b l) 1 b = -1 := (aB_nf (by decide)).trans ((aB_nf (by decide)).trans ((aB_nf (by decide)).trans aB_eq))
    have hi : Inv (aLG1 (aOut S b l) b) := Mx_Inv (Mx_LG1 hX).1 ((aB_LG1 (by decide)).trans q1) ((aB_LG1 (by decide)).trans q2) ((aB_LG1 (by decide)).trans q3)
    rw [aOut_LG1 hl3 a4] at c3
    refine ⟨aLG1 (aOut S b l) b, hi, (aB_LG1 (by decide)).trans q0, LG1_4, (aB_LG1 (by decide)).trans q3, ?_, fun j => (aN_LG1 (S := aOut S b l)).trans rfl, fun d f => (aC_LG1 (S := aOut S b l)).trans rfl, fun f x hf hx => ?_, ?_⟩
    · rw [aB_LG1 (by decide)]
      unfold aOut
      rw [aB_nf (by decide), aB_nf (by decide), aB_nf (by decide), aB_nf (by decide)]
      rfl
    · rw [aB_LG1 hf]
      unfold aOut
      rw [aB_ne hx, aB_ne hx, aB_ne hx, aB_ne hx]
      rfl
    · refine ⟨(1, (δ.2.1, δ.2.2.1, t.2, δ.2.2.2.2.1, η')), e_b (a := (1, (δ.2.1, δ.2.2.1, t.2, δ.2.2.2.2.1, η'))) (e_b (rgN (a := 0) (b := 199) (Nat.zero_le _) (by omega) (by decide)) (e_b k1 (e_l (e_b c1 (e_l ?_))))) (e_f (show ¬ (1 : Int32) = 0 by decide) rfl), by rw [if_neg hw], c3, k2, hw4, hd4, hb4, hb5⟩
      rw [c2]; exact zb_1
/-- what a change of a weight leaves -/
theorem q_weight (hN : 1000 ≤ N) (hd : Hd δ S n v d bb w) (hI : Inv S) (hk : aN S 6 = nI k) (hk4 : k ≤ 4) (hc : c < k) {m : Nat} (h1 : 1 ≤ m) (hm : m ≤ 9) : Inv (uC S c 0 (nI m)) ∧ Ok (f_L_setWeight N δ.2 (nI c) (nI m)) (fun r => r.1 = aC S c 0 ∧ Hd (δ.1, r.2) (uC S c 0 (nI m)) (if n < 8 then n + 1 else 8) ((v + 1) % 8) d bb w) := by
  obtain ⟨hC, hH, hw4, hd4, hb4, hb5⟩ := hd
  obtain ⟨η', g1, g2, -⟩ := k_keep hN hC hI.1.2.2.2.1 hH
  obtain ⟨k', k1, k2, k3⟩ := id hI.1.2.2.2.1
  refine ⟨⟨⟨hI.1.1, hI.1.2.1, hI.1.2.2.1, ⟨k', k1, k2, fun x hx => ⟨?_, ?_⟩⟩, hI.1.2.2.2.2⟩, hI.2⟩, ?_⟩
  · rw [aC_uC]
    by_cases q : x = c ∧ 0 = 0
    · rw [if_pos q]; exact ⟨m, rfl, h1, hm⟩
    · rw [if_neg q]; exact (k3 x hx).1
  · rw [aC_uC, aC_uC, if_neg (by omega), if_neg (by omega)]; exact (k3 x hx).2
  · refine ⟨(aC S c 0, (δ.2.1, δ.2.2.1, va_up δ.2.2.2.1 (8 + c) (oI (δ.2.2.2.1 (8 + c)) 0 (nI m)), δ.2.2.2.2.1, η')), e_b (e_b (ccN hC hk hk4 hc) (e_b (rgN (a := 1) (b := 9) h1 hm (by decide)) (e_b g1 (e_l (e_b (a := (aC S c 0, va_up δ.2.2.2.1 (8 + c) (oI (δ.2.2.2.1 (8 + c)) 0 (nI m)))) (e_b (cl_at hC hk hk4 hc) (e_o (e_l ?_))) rfl))))) rfl, rfl, hC.cli (nI m), g2, hw4, hd4, hb4, hb5⟩
    rw [cl_f hC hk hk4 hc (by decide)]
theorem p_others (hN : 1000 ≤ N) (hz : z.2.1 ≤ 260) (hd : Hd δ S n v d bb w) (hS : SI S w k t) (ht : t < 2 ^ 20) (hd2 : d + 10 < 2 ^ 20) : Ok (f_L_others N z δ) (fun r => r.1 = 1 ∧ Nz k t (d + 6) r.2) := by
  obtain ⟨hI, h6, k1, k4, hJ, h5, hsum⟩ := id hS
  unfold f_L_others
  refine ok_bind (q_some hz hd (by omega)) (fun r1 hr => ?_)
  obtain ⟨a1, δ1⟩ := r1
  obtain ⟨⟨b, hb, eb⟩, hd⟩ := hr
  simp only at eb hd
  subst eb
  have h8 := hd.2.1.1
  refine ok_bindE (q_ha hd) (ok_bindE (q_d hN hd.1) (ok_bindE (q_n hd.1 (j := 21) (by decide)) ?_))
  have hdc : aCt (isD S) 200 0 = dC S := rfl
  rw [hdc]
  have hd0 := dC_le S
  refine d_ok (m := 4) hz hd (by omega) (by decide) (by decide) (fun x9 δ9 hx9 hd => ?_)
  refine ok_if (fun _ => ?_) (fun _ => ok_if (fun _ => ?_) (fun _ => ok_if (fun _ => ?_) (fun _ => ?_)))
  · -- flush
    refine d_ok (m := 12) hz hd (by omega) (by decide) (by decide) (fun y δ2 hy hd => ?_)
    have ey : (1 : Int32) + nI y = nI (1 + y) := nI_add 1 y
    rw [ey]
    refine ok_bind (q_flush hN hd hI (m := 1 + y) (by omega) (by omega)) (fun r14 hr => ?_)
    obtain ⟨a2, γ2⟩ := r14
    obtain ⟨e1, hd3⟩ := hr
    simp only at e1 hd3
    obtain ⟨j, j1, j2, j3, j4⟩ := WB_spec (m := 1 + y) (by omega) 200 0 S rfl (by omega) hI
    rw [Nat.zero_add] at j2
    have jm : (j = dC S ∨ j = 1 + y) ∧ j ≤ dC S ∧ j ≤ 1 + y := by omega
    clear j1
    have hI3 : Inv (aWB (nI (1 + y)) 200 0 S).2 := Inv_WB _ _ _ hI
    have hS3 : SI (aWB (nI (1 + y)) 200 0 S).2 w k t := hS.keep hI3 (JN_WB 200 0 S hJ hI) (fun i a c => (sB_WB (most := nI (1 + y)) 200 0 S).1 i a c) (fun d f _ => aC_WB 200 0 S)
    generalize (aWB (nI (1 + y)) 200 0 S).2 = T at *
    rw [j2] at e1
    subst e1
    refine ok_letg (fun δ3 e3 => ?_)
    subst e3
    refine ok_t ?_ (ok_bindE (q_d hN hd3.1) (ok_t ?_ (ok_bindE (q_n hd3.1 (j := 21) (by decide)) (ok_t j4 (ok_bindE (q_ha hd3) (ok_t (n_up h8) (ok_some ⟨rfl, _, _, _, _, _, _, ?_, hd3, hS3⟩)))))))
    · by_cases h : dC S < 1 + y
      · rw [if_pos (show nI (dC S) < nI (1 + y) from nI_lt h (by omega))]
        exact congrArg nI (show j = dC S by omega)
      · rw [if_neg (show ¬ nI (dC S) < nI (1 + y) from nI_nlt (by omega) (by omega))]
        exact congrArg nI (show j = 1 + y by omega)
    · rw [show aCt (isD T) 200 0 = dC T from rfl, pk_sub (by omega)]; congr 1; omega
    · omega
  · -- forget
    refine ok_bindE (q_b0 hd.1 hb) ?_
    obtain ⟨U, hU, u0, u4, u3, u5, uN', uC', uB', q⟩ := q_forget hN hd hI hb
    refine ok_bind q (fun r30 hr => ?_)
    obtain ⟨a2, γ2⟩ := r30
    obtain ⟨e1, hd3⟩ := hr
    simp only at e1 hd3
    have key : ∀ (δ3 : LwS) (w' : Nat → Int32) (y0 : Int32), Hd δ3 U (if n < 8 then n + 1 else 8) ((v + 1) % 8) (d + 2 + 1) bb w' → SI U w' k t → a2 = y0 → Ok (f_L_others_b213 N z δ3 (nI b) (aN S 21) y0 a2) (fun r => r.1 = 1 ∧ Nz k t (d + 6) r.2) := fun δ3 w' y0 hd4 hS4 e => by
      unfold f_L_others_b213
      exact ok_t e (ok_bindE (q_b0 hd4.1 hb) (ok_t u0 (ok_bindE (q_b5 hd4.1 hb) (ok_t u4 (ok_bindE (q_n hd4.1 (j := 21) (by decide)) (ok_t (uN' 21) (ok_some ⟨rfl, _, _, _, _, _, _, by omega, hd4, hS4⟩)))))))
    have jn : ∀ w' : Nat → Int32, (∀ x, x ≠ b → w' x = w x) → w' b = aB S 5 b → JN U w' t := fun w' h1 h2 x hx => by
      by_cases e : x = b
      · subst e
        exact ⟨fun q => absurd u0 q, fun _ => by rw [u5, h2], Or.inl u3⟩
      · have := (hJ x hx).congr (T := U) (fun f hf => uB' f x (by rcases hf with rfl | rfl | rfl | rfl <;> decide) e)
        unfold NB at this ⊢
        rw [h1 x e]
        exact this
    refine ok_letg (fun δ3 e3 => ?_)
    have hd4 : Hd δ3 U (if n < 8 then n + 1 else 8) ((v + 1) % 8) (d + 2 + 1) bb w := by rw [e3]; exact hd3
    rcases (hI.2 b hb).2.1 with e0 | ⟨l, hl, e0⟩
    · rw [if_pos e0] at e1
      have hS4 : SI U w k t := hS.keep hU (jn w (fun _ _ => rfl) ((hJ b hb).2.1 ((hI.2 b hb).2.2.2.2.1 e0).2.2).symm) (fun j _ _ => uN' j) (fun d f _ => uC' d f)
      exact ok_t (by rw [e0]; decide) (ok_f (by rw [e0]; decide) (key δ3 w 0 hd4 hS4 e1))
    · rw [if_neg (by rw [e0]; exact pu_m1 (by omega))] at e1
      refine ok_f (by rw [e0]; exact nI_pos (by omega)) (ok_bindE (q_b6 hd4.1 hb) (ok_gd b rfl hb (by decide) (ok_letg (fun δ5 e5 => ?_))))
      have hd5 : Hd δ5 U (if n < 8 then n + 1 else 8) ((v + 1) % 8) (d + 2 + 1) bb (upd w b (aB U 5 b)) := by
        rw [e5]
        refine ⟨hd4.1, hd4.2.1, ?_, hd4.2.2.2.1, hd4.2.2.2.2.1, hd4.2.2.2.2.2⟩
        show va_up δ3.1.1 3 (upd (δ3.1.1 3) (Int32.toNatClampNeg (nI b)) (aB U 5 b)) 3 = _
        rw [va_up_self, hd4.2.2.1, nI_clamp (by omega)]
      have hS4 : SI U (upd w b (aB U 5 b)) k t := hS.keep hU (jn _ (fun x hx => pk_un hx) ((pk_us).trans u5)) (fun j _ _ => uN' j) (fun d f _ => uC' d f)
      exact ok_t (by rw [e0]; exact nI_pos' (by omega)) (key δ5 _ 1 hd5 hS4 e1)
  · -- a write, and its undo
    obtain ⟨pv, hpv⟩ := q_b1x (N := N) hN hI hb
    refine ok_bindE (q_b2 hd.1 hb) (ok_bindE (q_b6 hd.1 hb) (ok_bindE (q_n hd.1 (j := 5) (by decide)) (ok_bindE (q_b0 hd.1 hb) (ok_bindE (hpv _ hd.1) ?_))))
    refine d_ok (m := 1000) hz hd (by omega) (by decide) (by decide) (fun x δ2 hx hd => ?_)
    refine ok_bind (q_write (c := 0) hN hd.1 hI h6 k4 (by omega) hb (v := x) hx hd.2.1) (fun r53 hr => ?_)
    obtain ⟨f1, f2, f3, f4⟩ := hr
    have hn4 : nI 0 < aN S 6 := by rw [h6]; exact nI_lt (by omega) (by omega)
    have hw0 := acc_w0 (S := S) (c := 0) (b := b) (w := 1) hI hb
    have hS1 := SI_acc (v := 1) (c := 0) hS (by omega) hb
    obtain ⟨-, ⟨dd, dd1, dd2⟩, -⟩ := fin_facts (v := nI x) hS1.2.2.2.2.1 hS1.1 hw0 hS1.2.2.2.2.2.1 (by omega)
    obtain ⟨ee, ee1, ee2⟩ := acc_21 (c := 0) (v := 1) hI hb
    have e13 : r53.1 = nI (ee + dd) := by
      rw [f1, dd2, ee2, Int32.add_assoc, add_sub, nI_add]
    refine ok_letg (fun δ3 e3 => ok_f (by rw [e13]; exact nI_pos (by omega)) ?_)
    have g1 : HisO δ3.2.2.2.2.2 (if n < 8 then n + 1 else 8) ((v + 1) % 8) := by rw [e3]; exact f3
    have hv8 := hd.2.1.2.1
    have g2 : RepC (δ3.2.2.2.2.2.2 (((v + 1) % 8 + 7) % 8)) S E0 := by
      rw [show ((v + 1) % 8 + 7) % 8 = v by omega, e3]; exact f4
    refine ok_bind (q_undo hN g1 (by split <;> omega) g2 hI.1.2.2.2.1) (fun r57 hr => ?_)
    obtain ⟨a2, γ2⟩ := r57
    obtain ⟨u1, u2, u3, u4⟩ := hr
    simp only at u1 u2 u3 u4
    refine ok_letg (fun δ5 e5 => ?_)
    have hd5 : Hd δ5 S ((if n < 8 then n + 1 else 8) - 1) (((v + 1) % 8 + 7) % 8) (d + 2 + 1 + 1) bb w := by
      rw [e5]
      refine ⟨u2, u3, ?_, ?_, ?_, hd.2.2.2.2.2⟩
      · show δ3.1.1 3 = w
        rw [e3]; exact hd.2.2.1
      · show δ3.1.2 2 = _
        rw [e3]; exact hd.2.2.2.1
      · show δ3.1.2 4 = _
        rw [e3]; exact hd.2.2.2.2.1
    refine ok_t ?_ (ok_bindE (q_b2 hd5.1 hb) (ok_t rfl (ok_bindE (q_b6 hd5.1 hb) (ok_t rfl (ok_bindE (q_n hd5.1 (j := 5) (by decide)) (ok_t rfl (ok_bindE (q_b0 hd5.1 hb) (ok_t rfl (ok_bindE (hpv _ hd5.1) (ok_t rfl (ok_bindE (q_d hN hd5.1) (ok_t rfl (ok_some ⟨rfl, _, _, _, _, _, _, by omega, hd5, hS⟩)))))))))))))
    show a2 = _
    rw [u1]
    by_cases h : n < 7
    · rw [if_pos (show nI n < 7 from nI_lt (b := 7) h (by decide)), if_pos (by omega)]; rfl
    · rw [if_neg (show ¬ nI n < 7 from nI_nlt (b := 7) (by omega) (by omega))]
      by_cases h2 : n < 8
      · rw [if_pos h2, show n = 7 by omega]; rfl
      · rw [if_neg h2]; rfl
  · -- base, weight
    refine d_ok (m := 176) hz hd (by omega) (by decide) (by decide) (fun y δ2 hy hd => ok_letg (fun δ3 e3 => ?_))
    have hd4 : Hd δ3 S n v (d + 2 + 1 + 1) y w := by
      rw [e3]
      exact ⟨hd.1, hd.2.1, hd.2.2.1, hd.2.2.2.1, rfl, hy⟩
    refine ok_bindE (q_n hd4.1 (j := 6) (by decide)) ?_
    rw [h6]
    refine d_ok (m := k) hz hd4 (by omega) k1 (by omega) (fun c δ4 hc hd5 => ?_)
    refine d_ok (m := 9) hz hd5 (by omega) (by decide) (by decide) (fun m δ5 hm hd6 => ?_)
    rw [show (1 : Int32) + nI m = nI (1 + m) from nI_add 1 m]
    obtain ⟨hi, q⟩ := q_weight hN hd6 hI h6 k4 hc (m := 1 + m) (by omega) (by omega)
    refine ok_bind q (fun r88 hr => ?_)
    obtain ⟨a2, γ2⟩ := r88
    obtain ⟨e1, hd7⟩ := hr
    simp only at e1 hd7
    have hS4 : SI (uC S c 0 (nI (1 + m))) w k t := hS.keep hi hJ (fun _ _ _ => rfl) (fun d f hf => by rw [aC_uC, if_neg (fun q => hf q.2)])
    obtain ⟨k', q1, q2, q3⟩ := id hI.1.2.2.2.1
    rw [h6] at q1
    have ek : k = k' := (nI_eq (by omega) (by omega)).mp q1
    obtain ⟨wt, w1, w2, w3⟩ := (q3 c (by omega)).1
    refine ok_letg (fun δ6 e6 => ?_)
    subst e6
    refine ok_f ?_ (ok_some ⟨rfl, _, _, _, _, _, _, Nat.le_refl _, hd7, hS4⟩)
    show ¬ a2 ≤ 0
    rw [e1, w1]
    exact fun q => by
      have := (nI_leI (b := 0) (by omega) (by omega)).mp q
      omega
end OT
