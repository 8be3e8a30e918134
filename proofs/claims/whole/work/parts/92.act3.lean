/-! a new client; new sizes of the layers -/
def aAd (S : AS) (k : Nat) (w : Int32) : AS := (upd S.1 6 (nI (k + 1)), S.2.1, va_up S.2.2.1 k (fun f => if f = 0 then w else if f = 2 then -1 else 0), S.2.2.2)
theorem aC_ad {S : AS} {k c f : Nat} {w : Int32} (h : c ≠ k) : aC (aAd S k w) c f = aC S c f := congrFun (va_up_ne S.2.2.1 _ h) f
theorem aC_adk {S : AS} {k f : Nat} {w : Int32} : aC (aAd S k w) k f = if f = 0 then w else if f = 2 then -1 else 0 := congrFun (va_up_self S.2.2.1 k _) f
theorem aN_ad {S : AS} {k j : Nat} {w : Int32} (h : j ≠ 6) : aN (aAd S k w) j = aN S j := upd_ne h
theorem aN_ad6 {S : AS} {k : Nat} {w : Int32} : aN (aAd S k w) 6 = nI (k + 1) := by
  show upd S.1 6 (nI (k + 1)) 6 = _
  exact upd_eq rfl
theorem c_add {σ : CacS} {S : AS} {k : Nat} {w : Int32} (h : RepC σ S E0) (hk : aN S 6 = nI k) (hk3 : k < 4) : Ok (f_X1_addOne σ w) (fun t => t.1 = nI k ∧ RepC t.2 (aAd S k w) E0) := by
  obtain ⟨⟨o1, o2, o3, o4, o5, o6⟩, hb, ht, hr, hc⟩ := h
  have e9 : (σ 0).2 9 = nI k := o1.trans hk
  unfold f_X1_addOne
  rw [e9]
  refine ok_t (show nI k < 4 from nI_lt (b := 4) hk3 (by decide)) (ok_let ?_)
  rw [nI_1]
  refine ok_bindE (cl_of (σ := va_up σ 0 (oI (σ 0) 9 (nI (k + 1)))) (c := k) (k := k + 1) rfl (by omega) (by omega)) (ok_o ?_)
  have hs : Ok (f_X2_startAfresh (va_up σ 0 (oI (σ 0) 9 (nI (k + 1))) (8 + k)) w) (fun t => ∀ f, f < 8 → t.2 f = if f = 0 then w else if f = 2 then -1 else 0) := by
    unfold f_X2_startAfresh
    refine ok_let (ok_let (ok_let (ok_let (ok_let (ok_let (ok_let (ok_let (ok_some fun f hf => ?_))))))))
    rcases (show f = 0 ∨ f = 1 ∨ f = 2 ∨ f = 3 ∨ f = 4 ∨ f = 5 ∨ f = 6 ∨ f = 7 by omega) with rfl | rfl | rfl | rfl | rfl | rfl | rfl | rfl <;> rfl
  refine ok_bind hs (fun t ht2 => ok_let (ok_some ⟨rfl, ?_⟩))
  show RepC (va_up (va_up σ 0 (oI (σ 0) 9 (nI (k + 1)))) (8 + k) t) (aAd S k w) E0
  have h0 : (va_up (va_up σ 0 (oI (σ 0) 9 (nI (k + 1)))) (8 + k) t) 0 = oI (σ 0) 9 (nI (k + 1)) := (va_up_ne _ _ (by omega)).trans (va_up_self _ _ _)
  have h1 : ∀ j, j ≠ 0 → j ≠ 8 + k → (va_up (va_up σ 0 (oI (σ 0) 9 (nI (k + 1)))) (8 + k) t) j = σ j := fun j j0 jk => (va_up_ne _ _ jk).trans (va_up_ne _ _ j0)
  refine ⟨?_, ?_, ?_, fun l hl => ?_, fun c hc4 hn f hf => ?_⟩
  · rw [h0]; exact ⟨rfl, o2, o3, o4, o5, o6⟩
  · rw [h1 1 (by decide) (by omega)]; exact hb
  · rw [h1 2 (by decide) (by omega)]; exact ht
  · rw [h1 (3 + l) (by omega) (by omega)]; exact hr l hl
  · by_cases e : c = k
    · subst e
      rw [va_up_self, aC_adk]; exact ht2 f hf
    · rw [h1 (8 + c) (by omega) (by omega), aC_ad e]
      rw [aN_ad6] at hn
      have := (nI_ltI (by omega) (by omega)).mp hn
      exact hc c hc4 (by rw [hk]; exact nI_lt (by omega) (by omega)) f hf
theorem m_add_b52 {N k : Nat} {w : Int32} {μ : MdlS} {d e : Int32} (hk : k < 4) : ∀ r n i (a : Nat → Int32), i + r = 10 → r < n → f_X9_addClient_b52 N n (mM μ a d e) w (nI k) (nI i) = some (nI k, mM μ (fun j => if j = 6 then a 6 + 1 else if j = 144 + 10 * k then w else if j = 146 + 10 * k then -1 else if 144 + 10 * k + i ≤ j ∧ j < 154 + 10 * k then 0 else a j) d e) := by
  intro r
  induction r with
  | zero =>
    intro n i a hi hn
    obtain ⟨n, rfl⟩ : ∃ m, n = m + 1 := ⟨n - 1, by omega⟩
    have : i = 10 := by omega
    subst this
    rw [f_X9_addClient_b52]
    refine e_t (show (10 : Int32) ≤ nI 10 by decide) (e_b (m_putC k 0 hk (by decide) w) (e_b (m_putC k 2 hk (by decide) (-1)) (e_g 6 rfl (by decide) (by decide) (e_g 6 rfl (by decide) (by decide) (e_l ?_)))))
    rw [mM_a, show Int32.toNatClampNeg 6 = 6 from rfl, mM_set, upd_ne (show 6 ≠ 144 + 10 * k + 2 by omega), upd_ne (show 6 ≠ 144 + 10 * k + 0 by omega)]
    refine congrArg (fun q => some (nI k, mM μ q d e)) (funext fun j => ?_)
    unfold upd
    repeat' split
    all_goals first | rfl | (exfalso; omega)
  | succ r ih =>
    intro n i a hi hn
    obtain ⟨n, rfl⟩ : ∃ m, n = m + 1 := ⟨n - 1, by omega⟩
    rw [f_X9_addClient_b52]
    refine e_f (show ¬ (10 : Int32) ≤ nI i from nI_ge (b := 10) (by omega) (by decide)) (e_b (m_putC k i hk (by omega) 0) ?_)
    rw [nI_1]
    refine (ih n (i + 1) _ (by omega) (by omega)).trans (congrArg (fun q => some (nI k, mM μ q d e)) (funext fun j => ?_))
    unfold upd
    repeat' split
    all_goals first | rfl | (exfalso; omega)
theorem RepM_add {a : Nat → Int32} {S : AS} {k : Nat} {w : Int32} (h : RepM a S (UA S)) (hk : aN S 6 = nI k) (hk3 : k < 4) : RepM (fun j => if j = 6 then a 6 + 1 else if j = 144 + 10 * k then w else if j = 146 + 10 * k then -1 else if 144 + 10 * k + 0 ≤ j ∧ j < 154 + 10 * k then 0 else a j) (aAd S k w) (UA (aAd S k w)) := by
  obtain ⟨h1, h2, h3, h4⟩ := h
  have e : ∀ j, j ≠ 6 → (j < 144 + 10 * k ∨ 154 + 10 * k ≤ j) → (if j = 6 then a 6 + 1 else if j = 144 + 10 * k then w else if j = 146 + 10 * k then -1 else if 144 + 10 * k + 0 ≤ j ∧ j < 154 + 10 * k then 0 else a j) = a j := fun j j6 hj => by
    rw [if_neg j6, if_neg (by omega), if_neg (by omega), if_neg (by omega)]
  refine ⟨fun j hj => ?_, fun l hl => ⟨(h2 l hl).1, ?_, fun i hi => ?_⟩, fun c hc hn f hf => ?_, fun b hb => ⟨?_, fun f hf q => ?_⟩⟩
  · by_cases j6 : j = 6
    · subst j6
      show (if 6 = 6 then a 6 + 1 else _) = _
      rw [if_pos rfl, aN_ad6, h1 6 (by decide), hk, nI_1]
    · show (if j = 6 then _ else _) = _
      rw [e j j6 (by omega), aN_ad j6]; exact h1 j hj
  · exact (e _ (by omega) (by omega)).trans (h2 l hl).2.1
  · have h9 := (h2 l hl).1
    have hi' : i < (aL S l).length := hi
    exact (e _ (by omega) (by omega)).trans ((h2 l hl).2.2 i hi)
  · rw [aN_ad6] at hn
    have hck := (nI_ltI (by omega) (by omega)).mp hn
    by_cases ec : c = k
    · subst ec
      rw [aC_adk]
      show (if 144 + 10 * c + f = 6 then _ else _) = _
      rw [if_neg (by omega)]
      repeat' split
      all_goals first | rfl | (exfalso; omega)
    · rw [aC_ad ec]
      exact (e _ (by omega) (by omega)).trans (h3 c hc (by rw [hk]; exact nI_lt (by omega) (by omega)) f hf)
  · exact (e _ (by omega) (by omega)).trans (h4 b hb).1
  · exact (e _ (by omega) (by omega)).trans ((h4 b hb).2 f hf q)
theorem Inv_add {S : AS} {k w : Nat} (h : Inv S) (hk : aN S 6 = nI k) (hk3 : k < 4) (h1 : 1 ≤ w) (h9 : w ≤ 9) : Inv (aAd S k (nI w)) := by
  obtain ⟨⟨hL, hW, hU, ⟨k', q1, q2, q3⟩, hH, hS⟩, hB⟩ := h
  have ek : k' = k := (nI_eq (by omega) (by omega)).mp (q1.symm.trans hk)
  subst ek
  refine ⟨⟨hL, hW, hU, ⟨k' + 1, aN_ad6, by omega, fun c hc => ?_⟩, hH, hS⟩, fun x hx => ?_⟩
  · by_cases e : c = k'
    · subst e
      rw [aC_adk, aC_adk, aC_adk]
      exact ⟨⟨w, if_pos rfl, h1, h9⟩, Or.inl ⟨rfl, rfl⟩⟩
    · rw [aC_ad e, aC_ad e, aC_ad e]
      exact q3 c (by omega)
  · obtain ⟨a1, a2, a3, a4, a5, a6, a7⟩ := hB x hx
    refine ⟨a1, a2, a3, a4, a5, a6, fun q => ?_⟩
    obtain ⟨c, c1, c2, c3⟩ := a7 q
    rw [hk] at c3
    have := (nI_ltI (by omega) (by omega)).mp c3
    exact ⟨c, c1, c2, by rw [aN_ad6]; exact nI_lt (by omega) (by omega)⟩
theorem s_addClient {N K L : Nat} (hN : 20000 ≤ N) (hL : K ≤ L) : Sim_addClient N (TopK K) (TopK L) := by
  intro γ μ κ ix nb p0 h
  obtain ⟨⟨S, hS⟩, hR⟩ := id h
  obtain ⟨hI, hC, hM, hK⟩ := id hS
  have hT := h.mono hL
  obtain ⟨k, k1, k2, k3⟩ := id hI.1.2.2.2.1
  have e9 : (γ.2.2.1 0).2 9 = nI k := hC.1.1.trans k1
  have e6 : ((oI μ.1 6 0, μ.2) : MdlS).1.1 0 (Int32.toNatClampNeg 6) = nI k := (hM.1 6 (by omega)).trans k1
  rcases r_range p0 1 9 with ⟨h1, h9, e1, e2⟩ | ⟨e1, e2⟩
  · obtain ⟨w, w9, rfl⟩ := nI_of2 (M := 9) (n := 9) (x := p0) rfl (fun q => h1 (Int32.lt_trans q (by decide))) h9
    have w1 : 1 ≤ w := by
      by_cases c : w < 1
      · exact absurd (show nI w < 1 from nI_lt (b := 1) c (by decide)) h1
      · omega
    by_cases k4 : k < 4
    · obtain ⟨η, ν, g1, g2, g3, g4, g5, g6⟩ := top_begin (μ := (oI μ.1 6 0, μ.2)) hN hS hR.1
      have hM2 : RepM (ν.1.1 0) S (UA S) := by rw [g4 0 (by decide)]; exact hM
      obtain ⟨t, c1, c2, c3⟩ := c_add (w := nI w) hC k1 k4
      have m1 := m_add_b52 (N := N) (w := nI w) (μ := ν) (d := ν.1.2 19) (e := ν.1.2 20) k4 10 N 0 (ν.1.1 0) rfl (by omega)
      rw [mM_eta] at m1
      have e6' : ν.1.1 0 (Int32.toNatClampNeg 6) = nI k := (hM2.1 6 (by omega)).trans k1
      refine sa_r (T := fun g m => TopK L g m κ ix nb) (γ := γ) (v := nI k) (γ1 := (γ.1, γ.2.1, t.2, γ.2.2.2.1, η)) (e_x e1 (e_t (by rw [e9]; exact nI_lt (b := 4) k4 (by decide)) (e_b g1 (e_l (e_b c1 (e_l ?_)))))) (e_l (e_b e2 (e_f (by decide) (e_g 6 rfl (by decide) (by decide) (e_f (by rw [e6]; exact fun q => absurd ((nI_eq (b := 4) (by omega) (by decide)).mp q) (by omega)) (e_b g2 (e_g 6 rfl (by decide) (by decide) ((congrArg (fun q => f_X9_addClient_b52 N N ν (nI w) q 0) e6').trans m1)))))))) ?_ ?_
      · rw [c2]
      · exact g5 6 (by decide)
      · exact top_close (γ' := (γ.1, γ.2.1, t.2, γ.2.2.2.1, η)) hR hL g3 rfl rfl g4 g5 ⟨Inv_add hI k1 k4 w1 w9, c3, RepM_add hM2 k1 k4, (cnt_eq hK (fun j hj => aN_ad (by omega))).mono hL⟩
    · refine sa_l (T := fun g m => TopK L g m κ ix nb) (γ := γ) (k := 2) (b := 0) (μ1 := (oI (oI μ.1 6 0) 6 2, μ.2)) (e_x e1 (e_f (by rw [e9]; exact nI_nlt (b := 4) (by omega) (by omega)) rfl)) (Or.inr rfl) (e_l (e_b e2 (e_f (by decide) (e_g 6 rfl (by decide) (by decide) (e_t (by rw [e6, show k = 4 by omega]; rfl) rfl))))) rfl ((hT.t6 0).t6 2)
  · exact sa_l (T := fun g m => TopK L g m κ ix nb) (γ := γ) (k := 1) (b := 0) (μ1 := (oI (oI μ.1 6 0) 6 1, μ.2)) (e_xl e1) (Or.inl rfl) (e_l (e_b e2 (e_t rfl rfl))) rfl ((hT.t6 0).t6 1)
-- new sizes: how many units there are
theorem aCt_S (p : Nat → Bool) : ∀ r k, aCt p r (k + 1) = aCt p r k + 1 := by
  intro r
  induction r with
  | zero => exact fun k => rfl
  | succ r ih =>
    intro k
    rw [aCt, aCt]
    by_cases c : p (200 - (r + 1)) = true
    · rw [if_pos c, if_pos c, ih]
    · rw [if_neg c, if_neg c, ih]
theorem aCt_congr {p q : Nat → Bool} (h : ∀ b, b < 200 → p b = q b) : ∀ r k, r ≤ 200 → aCt p r k = aCt q r k := by
  intro r
  induction r with
  | zero => exact fun k _ => rfl
  | succ r ih =>
    intro k hr
    rw [aCt, aCt, h _ (by omega), ih _ (by omega)]
theorem aCt_cons {p q : Nat → Bool} {x : Nat} (hx : x < 200) (hq : q x = false) (hp : ∀ b, p b = (q b || decide (b = x))) : ∀ r k, r ≤ 200 → aCt p r k = if 200 - r ≤ x then aCt q r k + 1 else aCt q r k := by
  intro r
  induction r with
  | zero => intro k _; rw [if_neg (by omega)]; rfl
  | succ r ih =>
    intro k hr
    rw [aCt, aCt, hp]
    by_cases c : 200 - (r + 1) = x
    · rw [c, hq, if_pos (Nat.le_refl _), if_neg (show ¬ (false = true) by decide), if_pos (show (false || decide (x = x)) = true by simp), ih _ (by omega), if_neg (by omega), aCt_S]
    · have e : (q (200 - (r + 1)) || decide (200 - (r + 1) = x)) = q (200 - (r + 1)) := by rw [decide_eq_false c, Bool.or_false]
      rw [e, ih _ (by omega)]
      by_cases c2 : 200 - r ≤ x
      · rw [if_pos c2, if_pos (show 200 - (r + 1) ≤ x by omega)]
      · rw [if_neg c2, if_neg (show ¬ 200 - (r + 1) ≤ x by omega)]
theorem aCt_list : ∀ (L : List Nat) (q : Nat → Bool), L.Nodup → (∀ x ∈ L, x < 200 ∧ q x = false) → aCt (fun b => q b || decide (b ∈ L)) 200 0 = aCt q 200 0 + L.length := by
  intro L
  induction L with
  | nil =>
    intro q _ _
    rw [aCt_congr (q := q) (fun b _ => by simp) 200 0 (Nat.le_refl _)]
    rfl
  | cons x xs ih =>
    intro q hn h
    rw [List.nodup_cons] at hn
    have hx := h x List.mem_cons_self
    have h1 := aCt_cons (p := fun b => q b || decide (b ∈ x :: xs)) (q := fun b => q b || decide (b ∈ xs)) hx.1 (by simp [hx.2, hn.1]) (fun b => by
      rw [Bool.or_assoc]
      congr 1
      by_cases c : b = x
      · subst c; simp
      · simp [c]) 200 0 (Nat.le_refl _)
    rw [h1, if_pos (by omega), ih q hn.2 (fun y hy => h y (List.mem_cons_of_mem _ hy)), List.length_cons]
    omega
theorem aCt_z : ∀ r k, aCt (fun _ => false) r k = k := by
  intro r
  induction r with
  | zero => exact fun k => rfl
  | succ r ih =>
    intro k
    rw [aCt, if_neg (by decide)]
    exact ih k
theorem units_all {S : AS} (h : Inv S) : aCt (fun b => decide (aB S 0 b ≠ -1)) 200 0 = (aL S 0).length + (aL S 1).length + (aL S 2).length := by
  have hm (l x : Nat) (hl : l < 3) (hx : x ∈ aL S l) : x < 200 ∧ aB S 0 x = nI l := ⟨(h.mem hl hx).1, (h.mem hl hx).2.1⟩
  have ne (l m x : Nat) (hl : l < 3) (hm' : m < 3) (hlm : l ≠ m) (hx : x ∈ aL S l) : x ∉ aL S m := fun q => by
    have h1 := (hm l x hl hx).2
    rw [(hm m x hm' q).2] at h1
    exact hlm ((nI_eq (by omega) (by omega)).mp h1).symm
  have n (l : Nat) (hl : l < 3) := (h.1.1 l (by omega)).1
  have e0 := aCt_list (aL S 0) (fun _ => false) (n 0 (by decide)) (fun x hx => ⟨(hm 0 x (by decide) hx).1, rfl⟩)
  have e1 := aCt_list (aL S 1) (fun b => false || decide (b ∈ aL S 0)) (n 1 (by decide)) (fun x hx => ⟨(hm 1 x (by decide) hx).1, by simp [ne 1 0 x (by decide) (by decide) (by decide) hx]⟩)
  have e2 := aCt_list (aL S 2) (fun b => (false || decide (b ∈ aL S 0)) || decide (b ∈ aL S 1)) (n 2 (by decide)) (fun x hx => ⟨(hm 2 x (by decide) hx).1, by simp [ne 2 0 x (by decide) (by decide) (by decide) hx, ne 2 1 x (by decide) (by decide) (by decide) hx]⟩)
  rw [e1, e0, aCt_z] at e2
  have e3 : aCt (fun b => ((false || decide (b ∈ aL S 0)) || decide (b ∈ aL S 1)) || decide (b ∈ aL S 2)) 200 0 = (aL S 0).length + (aL S 1).length + (aL S 2).length := by rw [e2]; omega
  refine (aCt_congr (fun b hb => ?_) 200 0 (Nat.le_refl _)).trans e3
  obtain ⟨a1, a2, -⟩ := h.2 b hb
  rcases a2 with q | ⟨l, hl, q⟩
  · have z (m : Nat) (hm : m < 3) : b ∉ aL S m := fun z => by rw [(a1 m hm).mp z] at q; exact pu_m1 (by omega) q
    simp [q, z 0 (by decide), z 1 (by decide), z 2 (by decide)]
  · have hb : b ∈ aL S l := (a1 l hl).mpr q
    have nq : aB S 0 b ≠ -1 := by rw [q]; exact pu_m1 (by omega)
    rcases (show l = 0 ∨ l = 1 ∨ l = 2 by omega) with rfl | rfl | rfl <;> simp [nq, hb]
def aSh (W : AS) (up lo : Int32) : AS := (upd (upd (upd W.1 2 up) 3 lo) 4 0, fun _ => [], W.2.2.1, fun f b => if f = 5 then aB W 5 b else -1)
theorem c_drop_b2 {N : Nat} : ∀ r n i (τ : ObjS), i + r = 200 → r < n → Ok (f_X0_dropAll_b2 N n τ (nI i)) (fun t => t.2 = τ.2 ∧ t.1 0 = τ.1 0 ∧ ∀ k, 1 ≤ k → k < 6 → ∀ b, b < 200 → t.1 k b = if i ≤ b then -1 else τ.1 k b) := by
  intro r
  induction r with
  | zero =>
    intro n i τ hi hn
    obtain ⟨n, rfl⟩ : ∃ m, n = m + 1 := ⟨n - 1, by omega⟩
    have : i = 200 := by omega
    subst this
    rw [f_X0_dropAll_b2]
    exact ok_t (show (200 : Int32) ≤ nI 200 by decide) (ok_some ⟨rfl, rfl, fun k _ _ b hb => by rw [if_neg (by omega)]⟩)
  | succ r ih =>
    intro n i τ hi hn
    obtain ⟨n, rfl⟩ : ∃ m, n = m + 1 := ⟨n - 1, by omega⟩
    have hi2 : i < 200 := by omega
    rw [f_X0_dropAll_b2]
    refine ok_f (pu_ge200 hi2) (ok_gd i rfl hi2 (by decide) (ok_let (ok_gd i rfl hi2 (by decide) (ok_let (ok_gd i rfl hi2 (by decide) (ok_let (ok_gd i rfl hi2 (by decide) (ok_let (ok_gd i rfl hi2 (by decide) (ok_let ?_))))))))))
    rw [nI_clamp (by omega), nI_1]
    refine ok_mono (ih n (i + 1) _ (by omega) (by omega)) (fun t ht => ⟨ht.1, ht.2.1, fun k k1 k6 b hb => ?_⟩)
    rw [ht.2.2 k k1 k6 b hb]
    by_cases c : i + 1 ≤ b
    · rw [if_pos c, if_pos (by omega)]
    · rw [if_neg c]
      rcases (show k = 1 ∨ k = 2 ∨ k = 3 ∨ k = 4 ∨ k = 5 by omega) with rfl | rfl | rfl | rfl | rfl
      · show upd (τ.1 1) i (-1) b = _
        by_cases e : b = i
        · rw [upd_eq e, if_pos (by omega)]
        · rw [upd_ne e, if_neg (by omega)]
      · show upd (τ.1 2) i (-1) b = _
        by_cases e : b = i
        · rw [upd_eq e, if_pos (by omega)]
        · rw [upd_ne e, if_neg (by omega)]
      · show upd (τ.1 3) i (-1) b = _
        by_cases e : b = i
        · rw [upd_eq e, if_pos (by omega)]
        · rw [upd_ne e, if_neg (by omega)]
      · show upd (τ.1 4) i (-1) b = _
        by_cases e : b = i
        · rw [upd_eq e, if_pos (by omega)]
        · rw [upd_ne e, if_neg (by omega)]
      · show upd (τ.1 5) i (-1) b = _
        by_cases e : b = i
        · rw [upd_eq e, if_pos (by omega)]
        · rw [upd_ne e, if_neg (by omega)]
theorem c_reshape {N : Nat} {σ : CacS} {S : AS} {up lo : Int32} (hN : 1000 ≤ N) (h : RepC σ S E0) (hI : Inv S) : Ok (f_X1_reshape N σ up lo) (fun t => t.1 = nI ((aL S 0).length + (aL S 1).length + (aL S 2).length) ∧ RepC t.2 (aSh (aWB 200 200 0 S).2 up lo) E0) := by
  unfold f_X1_reshape
  refine ok_bind (p0_writeBackSome (most := 200) hN h.2.1 hI.1.2.2.2.2.1) (fun t ht => ok_let ?_)
  have hA := h.b ht.2 (sB_WB _ _ _)
  obtain ⟨⟨o1, o2, o3, o4, o5, o6⟩, hb, htt, hr, hk⟩ := hA
  unfold f_X0_dropAll
  refine ok_bind (c_drop_b2 (N := N) 200 N 0 (va_up σ 1 t.2 1) rfl (by omega)) (fun t2 ht2 => ok_let (ok_let (ok_let (ok_let (ok_let (ok_let (ok_let (ok_let (ok_let (ok_some ⟨?_, ?_⟩)))))))))) 
  · have r0 : (σ 3).2 1 = nI (aL S 0).length := (h.2.2.2.1 0 (by decide)).2.1
    have r1 : (σ 4).2 1 = nI (aL S 1).length := (h.2.2.2.1 1 (by decide)).2.1
    have r2 : (σ 5).2 1 = nI (aL S 2).length := (h.2.2.2.1 2 (by decide)).2.1
    show (σ 3).2 1 + (σ 4).2 1 + (σ 5).2 1 = _
    rw [r0, r1, r2, nI_add, nI_add]
  · obtain ⟨q1, q2, q3⟩ := ht2
    refine ⟨⟨o1, o2, o3, rfl, rfl, rfl⟩, ⟨?_, ?_, fun b hb2 => ⟨fun _ => ?_, ?_, ?_, ?_, ?_, ?_⟩⟩, htt, fun l hl => ?_, fun c hc hn f hf => ?_⟩
    · exact (congrFun q1 6).trans hb.1
    · exact (congrFun q1 7).trans hb.2.1
    · exact (q3 4 (by decide) (by decide) b hb2).trans (if_pos (Nat.zero_le _))
    · exact (q3 1 (by decide) (by decide) b hb2).trans (if_pos (Nat.zero_le _))
    · exact (q3 2 (by decide) (by decide) b hb2).trans (if_pos (Nat.zero_le _))
    · exact (q3 3 (by decide) (by decide) b hb2).trans (if_pos (Nat.zero_le _))
    · exact (q3 5 (by decide) (by decide) b hb2).trans (if_pos (Nat.zero_le _))
    · exact (congrFun q2 b).trans (hb.2.2 b hb2).2.2.2.2.2
    · rcases (show l = 0 ∨ l = 1 ∨ l = 2 ∨ l = 3 ∨ l = 4 by omega) with rfl | rfl | rfl | rfl | rfl <;> exact ⟨Nat.zero_le _, rfl, fun i hi => absurd hi (Nat.not_lt_zero _)⟩
    · have := hk c hc hn f hf
      rcases (show c = 0 ∨ c = 1 ∨ c = 2 ∨ c = 3 by omega) with rfl | rfl | rfl | rfl <;> exact this
theorem m_shape103 {N : Nat} {up lo x4 : Int32} {μ : MdlS} {d e : Int32} : ∀ r n i (a : Nat → Int32), i + r = 5 → r < n → f_X9_shape_b103 N n (mM μ a d e) up lo x4 (nI i) = some (x4, mM μ (fun j => if j = 2 then up else if j = 3 then lo else if j = 4 then 0 else if 7 + i ≤ j ∧ j < 12 then 0 else a j) d e) := by
  intro r
  induction r with
  | zero =>
    intro n i a hi hn
    obtain ⟨n, rfl⟩ : ∃ m, n = m + 1 := ⟨n - 1, by omega⟩
    have : i = 5 := by omega
    subst this
    rw [f_X9_shape_b103]
    refine e_t (show (5 : Int32) ≤ nI 5 by decide) (e_g 2 rfl (by decide) (by decide) (e_l (e_g 3 rfl (by decide) (by decide) (e_l (e_g 4 rfl (by decide) (by decide) (e_l ?_))))))
    rw [mM_set, mM_set, mM_set]
    refine congrArg (fun q => some (x4, mM μ q d e)) (funext fun j => ?_)
    show upd (upd (upd a 2 up) 3 lo) 4 0 j = _
    unfold upd
    repeat' split
    all_goals first | rfl | (exfalso; omega)
  | succ r ih =>
    intro n i a hi hn
    obtain ⟨n, rfl⟩ : ∃ m, n = m + 1 := ⟨n - 1, by omega⟩
    rw [f_X9_shape_b103]
    refine e_f (show ¬ (5 : Int32) ≤ nI i from nI_ge (b := 5) (by omega) (by decide)) (e_g (7 + i) (pu_le i) (by omega) (by decide) (e_l ?_))
    rw [pu_le, nI_clamp (by omega), mM_set, nI_1]
    refine (ih n (i + 1) _ (by omega) (by omega)).trans (congrArg (fun q => some (x4, mM μ q d e)) (funext fun j => ?_))
    unfold upd
    repeat' split
    all_goals first | rfl | (exfalso; omega)
theorem m_shape49 {N : Nat} {up lo : Int32} {μ : MdlS} {d e : Int32} {W : AS} : ∀ r n (q : Nat) (a : Nat → Int32), r ≤ 200 → r < n → (∀ b, 200 - r ≤ b → b < 200 → a (184 + 5 * b) = aB W 0 b) → f_X9_shape_b49 N n (mM μ a d e) up lo (nI q) (nI (200 - r)) = f_X9_shape_b103 N N (mM μ (fun j => if 184 + 5 * (200 - r) ≤ j ∧ j < 1184 ∧ ((j - 184) % 5 = 0 ∨ (j - 184) % 5 = 4) then -1 else a j) d e) up lo (nI (aCt (fun b => decide (aB W 0 b ≠ -1)) r q)) 0 := by
  intro r
  induction r with
  | zero =>
    intro n q a hr hn ha
    obtain ⟨n, rfl⟩ : ∃ m, n = m + 1 := ⟨n - 1, by omega⟩
    rw [f_X9_shape_b49, if_pos (show (200 : Int32) ≤ nI (200 - 0) by decide)]
    refine congrArg (fun z => f_X9_shape_b103 N N (mM μ z d e) up lo (nI q) 0) (funext fun j => ?_)
    rw [if_neg (by omega)]
  | succ r ih =>
    intro n q a hr hn ha
    obtain ⟨n, rfl⟩ : ∃ m, n = m + 1 := ⟨n - 1, by omega⟩
    have hb : 200 - (r + 1) < 200 := by omega
    have h0 := ha (200 - (r + 1)) (Nat.le_refl _) hb
    have hof : f_X9_of (mM μ a d e) (nI (200 - (r + 1))) 0 = some (aB W 0 (200 - (r + 1))) := by
      unfold f_X9_of
      rw [show (184 + 5 * nI (200 - (r + 1))) + 0 = nI (184 + 5 * (200 - (r + 1)) + 0) from pu_of _ 0, pu_gd _ rfl (by omega) (by decide), nI_clamp (by omega)]
      exact congrArg some h0
    have step : ∀ y : Nat, f_X9_shape_b75 N (f_X9_shape_b49 N n) (mM μ a d e) up lo (nI (200 - (r + 1))) (nI y) (nI q) = f_X9_shape_b103 N N (mM μ (fun j => if 184 + 5 * (200 - (r + 1)) ≤ j ∧ j < 1184 ∧ ((j - 184) % 5 = 0 ∨ (j - 184) % 5 = 4) then -1 else a j) d e) up lo (nI (aCt (fun b => decide (aB W 0 b ≠ -1)) r (q + y))) 0 := by
      intro y
      unfold f_X9_shape_b75
      refine e_b (m_put _ 0 hb (by decide) (-1)) (e_b (m_put _ 4 hb (by decide) (-1)) ?_)
      rw [nI_add, nI_1, show 200 - (r + 1) + 1 = 200 - r by omega]
      rw [ih n (q + y) _ (by omega) (by omega) (fun b hb1 hb2 => by rw [upd_ne (by omega), upd_ne (by omega)]; exact ha b (by omega) hb2)]
      refine congrArg (fun z => f_X9_shape_b103 N N (mM μ z d e) up lo (nI (aCt (fun b => decide (aB W 0 b ≠ -1)) r (q + y))) 0) (funext fun j => ?_)
      unfold upd
      repeat' split
      all_goals first | rfl | (exfalso; omega)
    rw [f_X9_shape_b49, if_neg (pu_ge200 hb), hof, Option.bind_some, aCt]
    by_cases c : aB W 0 (200 - (r + 1)) = -1
    · rw [if_pos c, if_neg (show ¬ decide (aB W 0 (200 - (r + 1)) ≠ -1) = true from fun z => of_decide_eq_true z c)]
      exact step 0
    · rw [if_neg c, if_pos (show decide (aB W 0 (200 - (r + 1)) ≠ -1) = true from decide_eq_true c)]
      exact step 1
theorem RepM_sh {a : Nat → Int32} {W : AS} {U : Nat → Nat → Prop} {up lo : Int32} (h : RepM a W U) : RepM (fun j => if j = 2 then up else if j = 3 then lo else if j = 4 then 0 else if 7 + 0 ≤ j ∧ j < 12 then 0 else if 184 + 5 * (200 - 200) ≤ j ∧ j < 1184 ∧ ((j - 184) % 5 = 0 ∨ (j - 184) % 5 = 4) then -1 else a j) (aSh W up lo) (UA (aSh W up lo)) := by
  obtain ⟨h1, h2, h3, h4⟩ := h
  refine ⟨fun j hj => ?_, fun l hl => ⟨Nat.zero_le _, ?_, fun i hi => absurd hi (Nat.not_lt_zero _)⟩, fun c hc hn f hf => ?_, fun b hb => ⟨?_, fun f hf q => ?_⟩⟩
  · show (if j = 2 then up else if j = 3 then lo else if j = 4 then 0 else if 7 + 0 ≤ j ∧ j < 12 then 0 else if 184 + 5 * (200 - 200) ≤ j ∧ j < 1184 ∧ ((j - 184) % 5 = 0 ∨ (j - 184) % 5 = 4) then -1 else a j) = upd (upd (upd W.1 2 up) 3 lo) 4 0 j
    by_cases j2 : j = 2
    · rw [if_pos j2, upd_ne (by omega), upd_ne (by omega), upd_eq j2]
    · rw [if_neg j2]
      by_cases j3 : j = 3
      · rw [if_pos j3, upd_ne (by omega), upd_eq j3]
      · rw [if_neg j3]
        by_cases j4 : j = 4
        · rw [if_pos j4, upd_eq j4]
        · rw [if_neg j4, if_neg (by omega), if_neg (by omega), upd_ne j4, upd_ne j3, upd_ne j2]
          exact h1 j hj
  · show (if 7 + l = 2 then up else _) = nI 0
    rw [if_neg (by omega), if_neg (by omega), if_neg (by omega), if_pos (by omega)]
    rfl
  · refine Eq.trans ?_ (h3 c hc hn f hf)
    show (if 144 + 10 * c + f = 2 then up else _) = _
    rw [if_neg (by omega), if_neg (by omega), if_neg (by omega), if_neg (by omega), if_neg (by omega)]
  · refine Eq.trans ?_ (h4 b hb).1
    show (if 1184 + b = 2 then up else _) = _
    rw [if_neg (by omega), if_neg (by omega), if_neg (by omega), if_neg (by omega), if_neg (by omega)]
  · rcases q with q | q | q
    · subst q
      show (if 184 + 5 * b + 0 = 2 then up else _) = -1
      rw [if_neg (by omega), if_neg (by omega), if_neg (by omega), if_neg (by omega), if_pos (by omega)]
    · subst q
      show (if 184 + 5 * b + 4 = 2 then up else _) = -1
      rw [if_neg (by omega), if_neg (by omega), if_neg (by omega), if_neg (by omega), if_pos (by omega)]
    · exact absurd rfl q
theorem Inv_sh {W : AS} {u l : Nat} (h : Inv W) (u2 : 2 ≤ u) (u16 : u ≤ 16) (l2 : 2 ≤ l) (l24 : l ≤ 24) : Inv (aSh W (nI u) (nI l)) := by
  obtain ⟨⟨hL, hW, hU, hC, hH, hS⟩, hB⟩ := h
  refine ⟨⟨fun m _ => ⟨List.nodup_nil, fun x hx => absurd hx List.not_mem_nil⟩, ⟨l, rfl, l2, l24, Nat.zero_le _⟩, ⟨u, rfl, u2, u16, Nat.zero_le _, Nat.zero_le _, Nat.zero_le _, 0, rfl, Nat.zero_le _⟩, hC, hH, hS⟩, fun x hx => ?_⟩
  refine ⟨fun m hm => ⟨fun q => absurd q List.not_mem_nil, fun q => absurd q (pu_m1' (by omega))⟩, Or.inl rfl, fun m hm => ⟨fun q => absurd q List.not_mem_nil, fun q => absurd q (pu_m1' (by omega))⟩, Or.inl rfl, fun _ => ⟨rfl, rfl, rfl⟩, fun _ => rfl, fun q => absurd rfl q⟩
theorem s_shape {N K L : Nat} (hN : 20000 ≤ N) (hL : K ≤ L) : Sim_shape N (TopK K) (TopK L) := by
  intro γ μ κ ix nb p0 p1 h
  obtain ⟨⟨S, hS⟩, hR⟩ := id h
  obtain ⟨hI, hC, hM, hK⟩ := id hS
  have hT := h.mono hL
  rcases r_range p0 2 16 with ⟨h1, h2, e1, e2⟩ | ⟨e1, e2⟩
  · rcases r_range p1 2 24 with ⟨h3, h4, e3, e4⟩ | ⟨e3, e4⟩
    · obtain ⟨u, u16, rfl⟩ := nI_of2 (M := 16) (n := 16) (x := p0) rfl (fun q => h1 (Int32.lt_trans q (by decide))) h2
      obtain ⟨l, l24, rfl⟩ := nI_of2 (M := 24) (n := 24) (x := p1) rfl (fun q => h3 (Int32.lt_trans q (by decide))) h4
      have u2 : 2 ≤ u := by
        by_cases c : u < 2
        · exact absurd (show nI u < 2 from nI_lt (b := 2) c (by decide)) h1
        · omega
      have l2 : 2 ≤ l := by
        by_cases c : l < 2
        · exact absurd (show nI l < 2 from nI_lt (b := 2) c (by decide)) h3
        · omega
      obtain ⟨η, ν, g1, g2, g3, g4, g5, g6⟩ := top_begin (μ := (oI μ.1 6 0, μ.2)) hN hS hR.1
      have hM2 : RepM (ν.1.1 0) S (UA S) := by rw [g4 0 (by decide)]; exact hM
      obtain ⟨t, c1, c2, c3⟩ := c_reshape (N := N) (up := nI u) (lo := nI l) (by omega) hC hI
      have hm := m_writeBack (N := N) (most := 200) (μ := ν) (d := ν.1.2 19) (e := ν.1.2 20) (by omega) (show (200 : Int32) ≤ nI 200 by decide) hM2 hI.nu (hUA_UA S) hI.1.2.2.2.2.1
      rw [mM_eta] at hm
      obtain ⟨t9, m1, m2, a, m3, m4⟩ := hm
      have hW := Inv_WB (most := 200) 200 0 S hI
      have m5 := m_shape49 (N := N) (up := nI u) (lo := nI l) (μ := ν) (d := ν.1.2 19) (e := ν.1.2 20) (W := (aWB 200 200 0 S).2) 200 N 0 a (Nat.le_refl _) (by omega) (fun b _ hb => (m4.2.2.2 b hb).2 0 (by decide) (Or.inl rfl))
      rw [units_all hW, show (aL (aWB 200 200 0 S).2 0).length + (aL (aWB 200 200 0 S).2 1).length + (aL (aWB 200 200 0 S).2 2).length = (aL S 0).length + (aL S 1).length + (aL S 2).length by rw [(sB_WB (most := 200) 200 0 S).2.1 0, (sB_WB (most := 200) 200 0 S).2.1 1, (sB_WB (most := 200) 200 0 S).2.1 2]] at m5
      have m6 := m5.trans (m_shape103 (N := N) 5 N 0 _ rfl (by omega))
      rw [← m3] at m6
      refine sa_r (T := fun g m => TopK L g m κ ix nb) (γ := γ) (v := nI ((aL S 0).length + (aL S 1).length + (aL S 2).length)) (γ1 := (γ.1, γ.2.1, t.2, γ.2.2.2.1, η)) (e_x e1 (e_x e3 (e_b g1 (e_l (e_b c1 (e_l ?_)))))) (e_l (e_b e2 (e_f (by decide) (e_b e4 (e_f (by decide) (e_b g2 (e_b m1 m6))))))) ?_ ?_
      · rw [c2]
      · exact g5 6 (by decide)
      · exact top_close (γ' := (γ.1, γ.2.1, t.2, γ.2.2.2.1, η)) hR hL g3 rfl rfl g4 g5 ⟨Inv_sh hW u2 u16 l2 l24, c3, RepM_sh m4, (cnt_eq hK (fun j hj => by
          rcases hj with rfl | rfl
          · exact (sB_WB (most := 200) 200 0 S).1 14 (by decide) (by decide)
          · exact (sB_WB (most := 200) 200 0 S).1 15 (by decide) (by decide))).mono hL⟩
    · exact sa_l (T := fun g m => TopK L g m κ ix nb) (γ := γ) (k := 1) (b := 0) (μ1 := (oI (oI μ.1 6 0) 6 1, μ.2)) (e_x e1 (e_xl e3)) rfl (e_l (e_b e2 (e_f (by decide) (e_b e4 (e_t rfl rfl))))) rfl ((hT.t6 0).t6 1)
  · exact sa_l (T := fun g m => TopK L g m κ ix nb) (γ := γ) (k := 1) (b := 0) (μ1 := (oI (oI μ.1 6 0) 6 1, μ.2)) (e_xl e1) rfl (e_l (e_b e2 (e_t rfl rfl))) rfl ((hT.t6 0).t6 1)
