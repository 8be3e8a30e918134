/-! begins() OF THE LAW: from a new object on -/
def S0 : AS := (fun k => if k = 0 then 4 else if k = 1 then 8 else if k = 2 then 6 else if k = 3 then 10 else 0, fun _ => [], fun _ f => if f = 2 then -1 else 0, fun f b => if f = 5 then iSt b else -1)
theorem S0_6 : aN S0 6 = nI 0 := rfl
theorem S0_inv : Inv S0 := by
  refine ⟨⟨fun l _ => ⟨List.nodup_nil, fun x hx => nomatch hx⟩, ⟨10, rfl, by decide, by decide, Nat.zero_le _⟩, ⟨6, rfl, by decide, by decide, Nat.zero_le _, Nat.zero_le _, Nat.zero_le _, 0, rfl, by decide⟩, ⟨0, rfl, by decide, fun c hc => absurd hc (Nat.not_lt_zero _)⟩, ⟨rfl, (by decide : (0 : Nat) < 200)⟩, ⟨4, rfl, by decide, by decide⟩, ⟨8, rfl, by decide⟩⟩, fun x hx => ?_⟩
  have nn : ∀ {l : Nat}, l < 5 → ¬ (-1 : Int32) = nI l := fun {l} hl q => by
    rcases (show l = 0 ∨ l = 1 ∨ l = 2 ∨ l = 3 ∨ l = 4 by omega) with rfl | rfl | rfl | rfl | rfl <;> exact absurd q (by decide)
  refine ⟨fun l hl => ⟨fun q => (nomatch q), fun q => absurd q (nn (by omega))⟩, Or.inl rfl, fun l hl => ⟨fun q => (nomatch q), fun q => absurd q (nn (by omega))⟩, Or.inl rfl, fun _ => ⟨rfl, rfl, rfl⟩, fun _ => rfl, fun q => absurd rfl q⟩
theorem S0_nn {c : Nat} (hc : c < 4) : ¬ nI c < aN S0 6 := by
  rw [S0_6]
  exact nI_nlt (Nat.zero_le _) (by omega)
theorem S0_c : RepC iCac S0 E0 := by
  refine ⟨⟨rfl, rfl, rfl, rfl, rfl, rfl⟩, ⟨rfl, rfl, fun b hb => ⟨fun _ => if_pos hb, if_pos hb, if_pos hb, if_pos hb, if_pos hb, if_pos hb⟩⟩, ⟨rfl, rfl, rfl, rfl, rfl, rfl, rfl, rfl, rfl⟩, fun l hl => ?_, fun c hc hn => absurd hn (S0_nn hc)⟩
  rcases (show l = 0 ∨ l = 1 ∨ l = 2 ∨ l = 3 ∨ l = 4 by omega) with rfl | rfl | rfl | rfl | rfl <;> exact ⟨Nat.zero_le _, rfl, fun i hi => absurd hi (Nat.not_lt_zero _)⟩
/-- nothing has been accessed yet -/
def B0 (S : AS) (k : Nat) : Prop := Inv S ∧ aN S 6 = nI k ∧ k ≤ 4 ∧ (∀ j, j ≠ 0 → j ≠ 1 → j ≠ 2 → j ≠ 3 → j ≠ 6 → aN S j = 0) ∧ aN S 0 = 4 ∧ aN S 1 = 8 ∧ (∀ c, c < k → ∀ f, 3 ≤ f → f < 8 → aC S c f = 0) ∧ (∀ l, aL S l = []) ∧ ∀ f x, aB S f x = if f = 5 then iSt x else -1
theorem B0_S0 : B0 S0 0 := by
  refine ⟨S0_inv, rfl, Nat.zero_le _, fun j h0 h1 h2 h3 _ => ?_, rfl, rfl, fun c hc => absurd hc (Nat.not_lt_zero _), fun l => rfl, fun f x => rfl⟩
  show (if j = 0 then 4 else if j = 1 then 8 else if j = 2 then 6 else if j = 3 then 10 else 0) = (0 : Int32)
  rw [if_neg h0, if_neg h1, if_neg h2, if_neg h3]
theorem B0.add {S : AS} {k m : Nat} (h : B0 S k) (hk : k < 4) (h1 : 1 ≤ m) (h9 : m ≤ 9) : B0 (aAd S k (nI m)) (k + 1) := by
  obtain ⟨b1, b2, b3, b4, b5, b6, b7, b8, b9⟩ := h
  refine ⟨Inv_add b1 b2 hk h1 h9, aN_ad6, by omega, fun j h0 h1 h2 h3 h6 => (aN_ad h6).trans (b4 j h0 h1 h2 h3 h6), (aN_ad (by decide)).trans b5, (aN_ad (by decide)).trans b6, fun c hc f f3 f8 => ?_, b8, b9⟩
  by_cases e : c = k
  · subst e
    rw [aC_adk, if_neg (by omega), if_neg (by omega)]
  · rw [aC_ad e]
    exact b7 c (by omega) f f3 f8
theorem aSm_0 {S : AS} {f : Nat} : ∀ k, (∀ c, c < k → aC S c f = 0) → aSm S f k = 0 := by
  intro k
  induction k with
  | zero => intro _; rfl
  | succ k ih =>
    intro h
    rw [aSm, ih (fun c hc => h c (by omega)), h k (by omega)]
    rfl
theorem WB_none {S : AS} {most : Int32} (h : aDz S = -1) : ∀ r k, (aWB most r k S).2 = S := by
  intro r k
  cases r with
  | zero => rfl
  | succ r =>
    by_cases q : most ≤ nI k
    · rw [aWB, if_pos q]
    · rw [aWB, if_neg q, if_pos h]
theorem dC_0 {S : AS} (h : dC S = 0) {x : Nat} (hx : x < 200) : aB S 3 x = -1 := by
  by_cases e : aB S 3 x = -1
  · exact e
  · exfalso
    have h1 := aCt_cons (p := fun b => decide (b = x)) (q := fun _ => false) hx rfl (fun b => (Bool.false_or _).symm) 200 0 (Nat.le_refl _)
    rw [if_pos (by omega), aCt_z] at h1
    obtain ⟨q, hq⟩ : ∃ q : Nat → Bool, q = fun b => isD S b && !decide (b = x) := ⟨_, rfl⟩
    have h2 := aCt_cons (p := isD S) (q := q) hx (by rw [hq]; simp) (fun b => by
      rw [hq]
      by_cases eb : b = x
      · subst eb
        have := isD_iff.mpr e
        simp [this]
      · simp [eb]) 200 0 (Nat.le_refl _)
    rw [if_pos (by omega)] at h2
    unfold dC at h
    omega
section BG
variable {N n v d bb t k c b : Nat} {z : ZS} {δ : LwS} {S : AS} {w : Nat → Int32}
theorem q_addC (hN : 1000 ≤ N) (hd : Hd δ S n v d bb w) (hI : Inv S) (hk : aN S 6 = nI k) (hk3 : k < 4) {m : Nat} (h1 : 1 ≤ m) (hm : m ≤ 9) : Ok (f_L_addClient N δ.2 (nI m)) (fun r => r.1 = nI k ∧ Hd (δ.1, r.2) (aAd S k (nI m)) (if n < 8 then n + 1 else 8) ((v + 1) % 8) d bb w) := by
  obtain ⟨hC, hH, hw4, hd4, hb4, hb5⟩ := hd
  obtain ⟨η', g1, g2, -⟩ := k_keep hN hC hI.1.2.2.2.1 hH
  obtain ⟨t, c1, c2, c3⟩ := c_add (w := nI m) hC hk hk3
  refine ⟨(t.1, (δ.2.1, δ.2.2.1, t.2, δ.2.2.2.2.1, η')), e_b (e_b (rgN (a := 1) (b := 9) h1 hm (by decide)) (e_t ?_ (e_b g1 (e_l (e_b c1 (e_l rfl)))))) rfl, c2, c3, g2, hw4, hd4, hb4, hb5⟩
  rw [hC.1.1, hk]
  exact nI_lt (b := 4) hk3 (by decide)
theorem q_shape (hN : 1000 ≤ N) (hd : Hd δ S n v d bb w) (hI : Inv S) {u l : Nat} (h1 : 2 ≤ u) (h2 : u ≤ 16) (h3 : 2 ≤ l) (h4 : l ≤ 24) : Ok (f_L_shape N δ.2 (nI u) (nI l)) (fun r => r.1 = nI ((aL S 0).length + (aL S 1).length + (aL S 2).length) ∧ Hd (δ.1, r.2) (aSh (aWB 200 200 0 S).2 (nI u) (nI l)) (if n < 8 then n + 1 else 8) ((v + 1) % 8) d bb w) := by
  obtain ⟨hC, hH, hw4, hd4, hb4, hb5⟩ := hd
  obtain ⟨η', g1, g2, -⟩ := k_keep hN hC hI.1.2.2.2.1 hH
  obtain ⟨t, c1, c2, c3⟩ := c_reshape (up := nI u) (lo := nI l) hN hC hI
  exact ⟨(t.1, (δ.2.1, δ.2.2.1, t.2, δ.2.2.2.2.1, η')), e_b (e_b (rgN (a := 2) (b := 16) h1 h2 (by decide)) (e_b (rgN (a := 2) (b := 24) h3 h4 (by decide)) (e_b g1 (e_l (e_b c1 (e_l rfl)))))) rfl, c2, c3, g2, hw4, hd4, hb4, hb5⟩
theorem q_set0 (hN : 1000 ≤ N) (hd : Hd δ S n v d bb w) (hI : Inv S) {m : Nat} (h1 : 2 ≤ m) (hm : m ≤ 20) : Ok (f_L_set N δ.2 0 (nI m)) (fun r => r.1 = aN S 0 ∧ Hd (δ.1, r.2) (uN S 0 (nI m)) (if n < 8 then n + 1 else 8) ((v + 1) % 8) d bb w) := by
  obtain ⟨hC, hH, hw4, hd4, hb4, hb5⟩ := hd
  obtain ⟨η', g1, g2, -⟩ := k_keep hN hC hI.1.2.2.2.1 hH
  refine ⟨(aN S 0, (δ.2.1, δ.2.2.1, va_up δ.2.2.2.1 0 (oI (δ.2.2.2.1 0) 10 (nI m)), δ.2.2.2.2.1, η')), e_b (e_b (rgN (n := 0) (a := 0) (b := 1) (by decide) (by decide) (by decide)) (e_t rfl (e_b (rgN (a := 2) (b := 20) h1 hm (by decide)) (e_b g1 (e_l (e_b (a := (aN S 0, va_up δ.2.2.2.1 0 (oI (δ.2.2.2.1 0) 10 (nI m)))) (e_t rfl (e_t rfl (e_l ?_))) (e_l rfl))))))) rfl, rfl, hC.o10 (nI m), g2, hw4, hd4, hb4, hb5⟩
  show some ((δ.2.2.2.1 0).2 10, _) = _
  rw [hC.1.2.1]
theorem q_set1 (hN : 1000 ≤ N) (hd : Hd δ S n v d bb w) (hI : Inv S) {m : Nat} (hm : m ≤ 40) : Ok (f_L_set N δ.2 1 (nI m)) (fun r => r.1 = aN S 1 ∧ Hd (δ.1, r.2) (uN S 1 (nI m)) (if n < 8 then n + 1 else 8) ((v + 1) % 8) d bb w) := by
  obtain ⟨hC, hH, hw4, hd4, hb4, hb5⟩ := hd
  obtain ⟨η', g1, g2, -⟩ := k_keep hN hC hI.1.2.2.2.1 hH
  refine ⟨(aN S 1, (δ.2.1, δ.2.2.1, va_up δ.2.2.2.1 0 (oI (δ.2.2.2.1 0) 11 (nI m)), δ.2.2.2.2.1, η')), e_b (e_b (rgN (n := 1) (a := 0) (b := 1) (by decide) (by decide) (by decide)) (e_f (by decide) (e_b (rgN (a := 0) (b := 40) (Nat.zero_le _) hm (by decide)) (e_b g1 (e_l (e_b (a := (aN S 1, va_up δ.2.2.2.1 0 (oI (δ.2.2.2.1 0) 11 (nI m)))) (e_f (by decide) (e_f (by decide) (e_l ?_))) (e_l rfl))))))) rfl, rfl, hC.o11 (nI m), g2, hw4, hd4, hb4, hb5⟩
  show some ((δ.2.2.2.1 0).2 11, _) = _
  rw [hC.1.2.2.1]
/-- behind all: what stood in the layers is gone, everything written back -/
theorem JN_sh {u l : Int32} (h : JN S w t) (hI : Inv S) : JN (aSh (aWB 200 200 0 S).2 u l) w t ∧ dC (aSh (aWB 200 200 0 S).2 u l) = 0 := by
  obtain ⟨j, j1, -, j3, -⟩ := WB_spec (m := 200) (by omega) 200 0 S rfl (dC_le S) hI
  have hd := dC_le S
  have hj := JN_WB (most := nI 200) 200 0 S h hI
  have e : dC (aWB (nI 200) 200 0 S).2 = 0 := by omega
  refine ⟨fun x hx => ⟨fun q => absurd rfl q, fun _ => (hj x hx).2.1 (dC_0 e hx), Or.inl rfl⟩, ?_⟩
  have z : ∀ r k, aCt (isD (aSh (aWB 200 200 0 S).2 u l)) r k = k := fun r => by
    induction r with
    | zero => intro k; rfl
    | succ r ih =>
      intro k
      have := aCt_z (r + 1) k
      have e2 : ∀ b, isD (aSh (aWB 200 200 0 S).2 u l) b = false := fun b => by
        rw [Bool.eq_false_iff]
        exact fun q => (isD_iff.mp q) rfl
      rw [show isD (aSh (aWB 200 200 0 S).2 u l) = fun _ => false from funext e2]
      exact this
  exact z 200 0
theorem p_38 (hN : 1000 ≤ N) (hz : z.2.1 ≤ 260) {k0 : Nat} (h1 : 1 ≤ k0) (h4 : k0 ≤ 4) (hw : ∀ x, x < 200 → w x = iSt x) : ∀ r m i d n v (δ : LwS) S, i + r = k0 → r < m → d + r + 10 < 2 ^ 20 → Hd δ S n v d bb w → B0 S i → Ok (f_L_begins_b38 N m z δ (nI k0) (nI i)) (fun r' => r'.1 = 1 ∧ ∃ k, Nz k 0 (d + r + 5) r'.2) := by
  intro r
  induction r with
  | zero =>
    intro m i d n v δ S hi hm hd2 hd hB
    obtain ⟨m, rfl⟩ : ∃ j, m = j + 1 := ⟨m - 1, by omega⟩
    have ei : i = k0 := by omega
    subst ei
    obtain ⟨b1, b2, b3, b4, b5, b6, b7, b8, b9⟩ := hB
    rw [f_L_begins_b38]
    refine ok_t (Int32.le_refl _) (d_ok (m := 176) hz hd (by omega) (by decide) (by decide) (fun y δ2 hy hd => ok_letg (fun δ3 e3 => ?_)))
    have hd4 : Hd δ3 S n v (d + 1) y w := by
      rw [e3]
      exact ⟨hd.1, hd.2.1, hd.2.2.1, hd.2.2.2.1, rfl, hy⟩
    refine d_ok (m := 10) hz hd4 (by omega) (by decide) (by decide) (fun u δ4 hu hd5 => d_ok (m := 14) hz hd5 (by omega) (by decide) (by decide) (fun l δ5 hl hd6 => ?_))
    rw [show (2 : Int32) + nI u = nI (2 + u) from nI_add 2 u, show (2 : Int32) + nI l = nI (2 + l) from nI_add 2 l]
    refine ok_bind (q_shape hN hd6 b1 (u := 2 + u) (l := 2 + l) (by omega) (by omega) (by omega) (by omega)) (fun r9 hr => ?_)
    obtain ⟨a2, γ2⟩ := r9
    obtain ⟨e1, hd7⟩ := hr
    simp only at e1 hd7
    have hJ : JN S w 0 := fun x hx => ⟨fun q => absurd (by rw [b9]; rfl) q, fun _ => by rw [b9, hw x hx]; rfl, Or.inl (by rw [b9]; rfl)⟩
    have hJ2 := (JN_sh (u := nI (2 + u)) (l := nI (2 + l)) hJ b1).1
    have hI2 := Inv_sh (u := 2 + u) (l := 2 + l) (Inv_WB (most := 200) 200 0 S b1) (by omega) (by omega) (by omega) (by omega)
    have hz0 : aDz S = -1 := by
      rcases aDn_val S (aHd S) 0 200 0 with e | ⟨x, -, -, e⟩
      · exact e
      · exact absurd (by rw [b9]; rfl) e
    rw [WB_none hz0] at hd7 hJ2 hI2
    refine ok_letg (fun δ7 e7 => ?_)
    subst e7
    refine ok_t (by rw [e1, b8, b8, b8]; rfl) ?_
    refine d_ok (m := 8) hz hd7 (by omega) (by decide) (by decide) (fun x δ8 hx hd8 => ?_)
    rw [show (2 : Int32) + nI x = nI (2 + x) from nI_add 2 x]
    refine ok_bind (q_set0 hN hd8 hI2 (m := 2 + x) (by omega) (by omega)) (fun r15 hr => ?_)
    obtain ⟨a3, γ3⟩ := r15
    obtain ⟨e2, hd9⟩ := hr
    simp only at e2 hd9
    have hI3 : Inv (uN (aSh S (nI (2 + u)) (nI (2 + l))) 0 (nI (2 + x))) := ⟨⟨hI2.1.1, hI2.1.2.1, hI2.1.2.2.1, hI2.1.2.2.2.1, hI2.1.2.2.2.2.1, ⟨⟨2 + x, rfl, by omega, by omega⟩, hI2.1.2.2.2.2.2.2⟩⟩, hI2.2⟩
    refine ok_letg (fun δ9 e9 => ?_)
    subst e9
    refine ok_t (e2.trans b5) ?_
    refine d_ok (m := 10) hz hd9 (by omega) (by decide) (by decide) (fun y2 δ10 hy2 hd10 => ?_)
    refine ok_bind (q_set1 hN hd10 hI3 (m := y2) (by omega)) (fun r21 hr => ?_)
    obtain ⟨a4, γ4⟩ := r21
    obtain ⟨e4, hd11⟩ := hr
    simp only at e4 hd11
    refine ok_letg (fun δ11 e11 => ?_)
    subst e11
    refine ok_t (e4.trans b6) (ok_some ⟨rfl, i, _, _, _, _, _, _, Nat.le_refl _, hd11, ?_⟩)
    refine ⟨⟨⟨hI3.1.1, hI3.1.2.1, hI3.1.2.2.1, hI3.1.2.2.2.1, hI3.1.2.2.2.2.1, ⟨hI3.1.2.2.2.2.2.1, ⟨y2, rfl, by omega⟩⟩⟩, hI3.2⟩, b2, h1, h4, hJ2, b4 5 (by decide) (by decide) (by decide) (by decide) (by decide), ?_⟩
    have nn : ∀ j, j ≠ 0 → j ≠ 1 → j ≠ 2 → j ≠ 3 → j ≠ 4 → aN (uN (uN (aSh S (nI (2 + u)) (nI (2 + l))) 0 (nI (2 + x))) 1 (nI y2)) j = aN S j := fun j h0 h1 h2 h3 h4 => by
      rw [aN_ne h1, aN_ne h0]
      exact (upd_ne h4).trans ((upd_ne h3).trans (upd_ne h2))
    have sm : ∀ f, 3 ≤ f → f < 8 → aSm (uN (uN (aSh S (nI (2 + u)) (nI (2 + l))) 0 (nI (2 + x))) 1 (nI y2)) f i = 0 := fun f f3 f8 => aSm_0 i (fun c hc => b7 c hc f f3 f8)
    unfold SumOk
    rw [sm 3 (by decide) (by decide), sm 4 (by decide) (by decide), sm 5 (by decide) (by decide), sm 6 (by decide) (by decide), sm 7 (by decide) (by decide)]
    have g : ∀ j, j = 5 ∨ j = 14 ∨ j = 15 ∨ j = 16 ∨ j = 17 ∨ j = 18 ∨ j = 22 → aN (uN (uN (aSh S (nI (2 + u)) (nI (2 + l))) 0 (nI (2 + x))) 1 (nI y2)) j = 0 := fun j hj => by
      rw [nn j (by omega) (by omega) (by omega) (by omega) (by omega)]
      exact b4 j (by omega) (by omega) (by omega) (by omega) (by omega)
    rw [g 5 (by decide), g 14 (by decide), g 15 (by decide), g 16 (by decide), g 17 (by decide), g 18 (by decide), g 22 (by decide)]
    exact ⟨rfl, rfl, rfl, rfl, rfl, ⟨0, 0, 0, 0, rfl, rfl, rfl, rfl, Nat.le_refl _, Nat.le_refl _⟩, 0, rfl, Nat.le_refl _⟩
  | succ r ih =>
    intro m i d n v δ S hi hm hd2 hd hB
    obtain ⟨m, rfl⟩ : ∃ j, m = j + 1 := ⟨m - 1, by omega⟩
    rw [f_L_begins_b38]
    refine ok_f (nI_ge (by omega) (by omega)) (d_ok (m := 9) hz hd (by omega) (by decide) (by decide) (fun y δ2 hy hd => ?_))
    rw [show (1 : Int32) + nI y = nI (1 + y) from nI_add 1 y]
    refine ok_bind (q_addC hN hd hB.1 hB.2.1 (by omega) (m := 1 + y) (by omega) (by omega)) (fun r27 hr => ?_)
    obtain ⟨a2, γ2⟩ := r27
    obtain ⟨e1, hd7⟩ := hr
    simp only at e1 hd7
    refine ok_letg (fun δ7 e7 => ?_)
    subst e7
    refine ok_t e1 ?_
    rw [nI_1]
    refine ok_mono (ih m (i + 1) (d + 1) _ _ _ _ (by omega) (by omega) (by omega) hd7 (hB.add (by omega) (by omega) (by omega))) (fun r' hr' => ⟨hr'.1, ?_⟩)
    rw [show d + (r + 1) + 5 = d + 1 + r + 5 by omega]
    exact hr'.2
theorem p_2 (hN : 1000 ≤ N) (hz : z.2.1 ≤ 260) : ∀ r m i d n v w (δ : LwS) S, i + r = 200 → r < m → d + 20 < 2 ^ 20 → Hd δ S n v d bb w → B0 S 0 → (∀ x, x < i → w x = iSt x) → Ok (f_L_begins_b2 N m z δ (nI i)) (fun r' => r'.1 = 1 ∧ ∃ k, Nz k 0 (d + 10) r'.2) := by
  intro r
  induction r with
  | zero =>
    intro m i d n v w δ S hi hm hd2 hd hB hw
    obtain ⟨m, rfl⟩ : ∃ j, m = j + 1 := ⟨m - 1, by omega⟩
    have ei : i = 200 := by omega
    subst ei
    rw [f_L_begins_b2]
    refine ok_t (by decide) (d_ok (m := 4) hz hd (by omega) (by decide) (by decide) (fun y δ2 hy hd => ?_))
    rw [show (1 : Int32) + nI y = nI (1 + y) from nI_add 1 y]
    refine ok_mono (p_38 hN hz (by omega) (by omega) hw (1 + y) N 0 (d + 1) n v _ S (by omega) (by omega) (by omega) hd hB) (fun r' hr' => ⟨hr'.1, ?_⟩)
    obtain ⟨k, U, n', v', d', bb', w', e, q⟩ := hr'.2
    exact ⟨k, U, n', v', d', bb', w', by omega, q⟩
  | succ r ih =>
    intro m i d n v w δ S hi hm hd2 hd hB hw
    obtain ⟨m, rfl⟩ : ∃ j, m = j + 1 := ⟨m - 1, by omega⟩
    rw [f_L_begins_b2]
    refine ok_f (nI_ge (b := 200) (by omega) (by decide)) (ok_gd i rfl (by omega) (by decide) (ok_letg (fun δ5 e5 => ?_)))
    have hd5 : Hd δ5 S n v d bb (upd w i (iSt i)) := by
      rw [e5]
      refine ⟨hd.1, hd.2.1, ?_, hd.2.2.2.1, hd.2.2.2.2.1, hd.2.2.2.2.2⟩
      show va_up δ.1.1 3 (upd (δ.1.1 3) (Int32.toNatClampNeg (nI i)) (iSt i)) 3 = _
      rw [va_up_self, hd.2.2.1, nI_clamp (by omega)]
    rw [nI_1]
    exact ih m (i + 1) d n v _ _ S (by omega) (by omega) hd2 hd5 hB (fun x hx => by
      by_cases e : x = i
      · subst e; exact pk_us
      · rw [pk_un e]; exact hw x (by omega))
theorem p_begins (hN : 1000 ≤ N) (hz : z.2.1 ≤ 260) (hd : Hd δ S0 n v d bb w) (hd2 : d + 20 < 2 ^ 20) : Ok (f_L_begins N z δ) (fun r' => r'.1 = 1 ∧ ∃ k, Nz k 0 (d + 10) r'.2) := by
  unfold f_L_begins
  exact p_2 hN hz 200 N 0 d n v w δ S0 rfl (by omega) hd2 hd B0_S0 (fun x hx => absurd hx (Nat.not_lt_zero _))
end BG
