/-! a new client; new sizes of the layers -/
def aAd (S : AS) (k : Nat) (w : Int32) : AS := (upd S.1 6 (nI (k + 1)), S.2.1, va_up S.2.2.1 k (fun f => if f = 0 then w else if f = 2 then -1 else 0), S.2.2.2)
theorem aC_ad {S : AS} {k c f : Nat} {w : Int32} (h : c ≠ k) : aC (aAd S k w) c f = aC S c f := congrFun (va_up_ne S.2.2.1 _ h) f
theorem aC_adk {S : AS} {k f : Nat} {w : Int32} : aC (aAd S k w) k f = if f = 0 then w else if f = 2 then -1 else 0 := congrFun (va_up_self S.2.2.1 k _) f
theorem aN_ad {S : AS} {k j : Nat} {w : Int32} (h : j ≠ 6) : aN (aAd S k w) j = aN S j := upd_ne h
theorem aN_ad6 {S : AS} {k : Nat} {w : Int32} : aN (aAd S k w) 6 = nI (k + 1) := by
  show upd S.1 6 (nI (k + 1)) 6 = _
  exact upd_eq rfl
theorem c_add {σ : CacS} {S : AS} {k : Nat} {w : Int32} (h : RepC σ S E0) (hk : aN S 6 = nI k) (hk3 : k < 4) : Ok (f_X1_addOne σ w) (fun t => t.1 = nI k ∧ RepC t.2 (aAd S k w) E0) := by
  obtain ⟨⟨o1, o2, o3, o4, o5, o6⟩, hb, ht, hr, hc⟩ := h
  have e9 : (σ 0).2 9 = nI k := o1.trans hk
  unfold f_X1_addOne
  rw [e9]
  refine ok_t (show nI k < 4 from nI_lt (b := 4) hk3 (by decide)) (ok_let ?_)
  rw [nI_1]
  refine ok_bindE (cl_of (σ := va_up σ 0 (oI (σ 0) 9 (nI (k + 1)))) (c := k) (k := k + 1) rfl (by omega) (by omega)) (ok_o ?_)
  have hs : Ok (f_X2_startAfresh (va_up σ 0 (oI (σ 0) 9 (nI (k + 1))) (8 + k)) w) (fun t => ∀ f, f < 8 → t.2 f = if f = 0 then w else if f = 2 then -1 else 0) := by
    unfold f_X2_startAfresh
    refine ok_let (ok_let (ok_let (ok_let (ok_let (ok_let (ok_let (ok_let (ok_some fun f hf => ?_))))))))
    rcases (show f = 0 ∨ f = 1 ∨ f = 2 ∨ f = 3 ∨ f = 4 ∨ f = 5 ∨ f = 6 ∨ f = 7 by omega) with rfl | rfl | rfl | rfl | rfl | rfl | rfl | rfl <;> rfl
  refine ok_bind hs (fun t ht2 => ok_let (ok_some ⟨rfl, ?_⟩))
  show RepC (va_up (va_up σ 0 (oI (σ 0) 9 (nI (k + 1)))) (8 + k) t) (aAd S k w) E0
  have h0 : (va_up (va_up σ 0 (oI (σ 0) 9 (nI (k + 1)))) (8 + k) t) 0 = oI (σ 0) 9 (nI (k + 1)) := (va_up_ne _ _ (by omega)).trans (va_up_self _ _ _)
  have h1 : ∀ j, j ≠ 0 → j ≠ 8 + k → (va_up (va_up σ 0 (oI (σ 0) 9 (nI (k + 1)))) (8 + k) t) j = σ j := fun j j0 jk => (va_up_ne _ _ jk).trans (va_up_ne _ _ j0)
  refine ⟨?_, ?_, ?_, fun l hl => ?_, fun c hc4 hn f hf => ?_⟩
  · rw [h0]; exact ⟨rfl, o2, o3, o4, o5, o6⟩
  · rw [h1 1 (by decide) (by omega)]; exact hb
  · rw [h1 2 (by decide) (by omega)]; exact ht
  · rw [h1 (3 + l) (by omega) (by omega)]; exact hr l hl
  · by_cases e : c = k
    · subst e
      rw [va_up_self, aC_adk]; exact ht2 f hf
    · rw [h1 (8 + c) (by omega) (by omega), aC_ad e]
      rw [aN_ad6] at hn
      have := (nI_ltI (by omega) (by omega)).mp hn
      exact hc c hc4 (by rw [hk]; exact nI_lt (by omega) (by omega)) f hf
theorem Inv_add {S : AS} {k w : Nat} (h : Inv S) (hk : aN S 6 = nI k) (hk3 : k < 4) (h1 : 1 ≤ w) (h9 : w ≤ 9) : Inv (aAd S k (nI w)) := by
  obtain ⟨⟨hL, hW, hU, ⟨k', q1, q2, q3⟩, hH, hS⟩, hB⟩ := h
  have ek : k' = k := (nI_eq (by omega) (by omega)).mp (q1.symm.trans hk)
  subst ek
  refine ⟨⟨hL, hW, hU, ⟨k' + 1, aN_ad6, by omega, fun c hc => ?_⟩, hH, hS⟩, fun x hx => ?_⟩
  · by_cases e : c = k'
    · subst e
      rw [aC_adk, aC_adk, aC_adk]
      exact ⟨⟨w, if_pos rfl, h1, h9⟩, Or.inl ⟨rfl, rfl⟩⟩
    · rw [aC_ad e, aC_ad e, aC_ad e]
      exact q3 c (by omega)
  · obtain ⟨a1, a2, a3, a4, a5, a6, a7⟩ := hB x hx
    refine ⟨a1, a2, a3, a4, a5, a6, fun q => ?_⟩
    obtain ⟨c, c1, c2, c3⟩ := a7 q
    rw [hk] at c3
    have := (nI_ltI (by omega) (by omega)).mp c3
    exact ⟨c, c1, c2, by rw [aN_ad6]; exact nI_lt (by omega) (by omega)⟩
theorem aCt_S (p : Nat → Bool) : ∀ r k, aCt p r (k + 1) = aCt p r k + 1 := by
  intro r
  induction r with
  | zero => exact fun k => rfl
  | succ r ih =>
    intro k
    rw [aCt, aCt]
    by_cases c : p (200 - (r + 1)) = true
    · rw [if_pos c, if_pos c, ih]
    · rw [if_neg c, if_neg c, ih]
theorem aCt_congr {p q : Nat → Bool} (h : ∀ b, b < 200 → p b = q b) : ∀ r k, r ≤ 200 → aCt p r k = aCt q r k := by
  intro r
  induction r with
  | zero => exact fun k _ => rfl
  | succ r ih =>
    intro k hr
    rw [aCt, aCt, h _ (by omega), ih _ (by omega)]
theorem aCt_cons {p q : Nat → Bool} {x : Nat} (hx : x < 200) (hq : q x = false) (hp : ∀ b, p b = (q b || decide (b = x))) : ∀ r k, r ≤ 200 → aCt p r k = if 200 - r ≤ x then aCt q r k + 1 else aCt q r k := by
  intro r
  induction r with
  | zero => intro k _; rw [if_neg (by omega)]; rfl
  | succ r ih =>
    intro k hr
    rw [aCt, aCt, hp]
    by_cases c : 200 - (r + 1) = x
    · rw [c, hq, if_pos (Nat.le_refl _), if_neg (show ¬ (false = true) by decide), if_pos (show (false || decide (x = x)) = true by simp), ih _ (by omega), if_neg (by omega), aCt_S]
    · have e : (q (200 - (r + 1)) || decide (200 - (r + 1) = x)) = q (200 - (r + 1)) := by rw [decide_eq_false c, Bool.or_false]
      rw [e, ih _ (by omega)]
      by_cases c2 : 200 - r ≤ x
      · rw [if_pos c2, if_pos (show 200 - (r + 1) ≤ x by omega)]
      · rw [if_neg c2, if_neg (show ¬ 200 - (r + 1) ≤ x by omega)]
theorem aCt_list : ∀ (L : List Nat) (q : Nat → Bool), L.Nodup → (∀ x ∈ L, x < 200 ∧ q x = false) → aCt (fun b => q b || decide (b ∈ L)) 200 0 = aCt q 200 0 + L.length := by
  intro L
  induction L with
  | nil =>
    intro q _ _
    rw [aCt_congr (q := q) (fun b _ => by simp) 200 0 (Nat.le_refl _)]
    rfl
  | cons x xs ih =>
    intro q hn h
    rw [List.nodup_cons] at hn
    have hx := h x List.mem_cons_self
    have h1 := aCt_cons (p := fun b => q b || decide (b ∈ x :: xs)) (q := fun b => q b || decide (b ∈ xs)) hx.1 (by simp [hx.2, hn.1]) (fun b => by
      rw [Bool.or_assoc]
      congr 1
      by_cases c : b = x
      · subst c; simp
      · simp [c]) 200 0 (Nat.le_refl _)
    rw [h1, if_pos (by omega), ih q hn.2 (fun y hy => h y (List.mem_cons_of_mem _ hy)), List.length_cons]
    omega
theorem aCt_z : ∀ r k, aCt (fun _ => false) r k = k := by
  intro r
  induction r with
  | zero => exact fun k => rfl
  | succ r ih =>
    intro k
    rw [aCt, if_neg (by decide)]
    exact ih k
theorem units_all {S : AS} (h : Inv S) : aCt (fun b => decide (aB S 0 b ≠ -1)) 200 0 = (aL S 0).length + (aL S 1).length + (aL S 2).length := by
  have hm (l x : Nat) (hl : l < 3) (hx : x ∈ aL S l) : x < 200 ∧ aB S 0 x = nI l := ⟨(h.mem hl hx).1, (h.mem hl hx).2.1⟩
  have ne (l m x : Nat) (hl : l < 3) (hm' : m < 3) (hlm : l ≠ m) (hx : x ∈ aL S l) : x ∉ aL S m := fun q => by
    have h1 := (hm l x hl hx).2
    rw [(hm m x hm' q).2] at h1
    exact hlm ((nI_eq (by omega) (by omega)).mp h1).symm
  have n (l : Nat) (hl : l < 3) := (h.1.1 l (by omega)).1
  have e0 := aCt_list (aL S 0) (fun _ => false) (n 0 (by decide)) (fun x hx => ⟨(hm 0 x (by decide) hx).1, rfl⟩)
  have e1 := aCt_list (aL S 1) (fun b => false || decide (b ∈ aL S 0)) (n 1 (by decide)) (fun x hx => ⟨(hm 1 x (by decide) hx).1, by simp [ne 1 0 x (by decide) (by decide) (by decide) hx]⟩)
  have e2 := aCt_list (aL S 2) (fun b => (false || decide (b ∈ aL S 0)) || decide (b ∈ aL S 1)) (n 2 (by decide)) (fun x hx => ⟨(hm 2 x (by decide) hx).1, by simp [ne 2 0 x (by decide) (by decide) (by decide) hx, ne 2 1 x (by decide) (by decide) (by decide) hx]⟩)
  rw [e1, e0, aCt_z] at e2
  have e3 : aCt (fun b => ((false || decide (b ∈ aL S 0)) || decide (b ∈ aL S 1)) || decide (b ∈ aL S 2)) 200 0 = (aL S 0).length + (aL S 1).length + (aL S 2).length := by rw [e2]; omega
  refine (aCt_congr (fun b hb => ?_) 200 0 (Nat.le_refl _)).trans e3
  obtain ⟨a1, a2, -⟩ := h.2 b hb
  rcases a2 with q | ⟨l, hl, q⟩
  · have z (m : Nat) (hm : m < 3) : b ∉ aL S m := fun z => by rw [(a1 m hm).mp z] at q; exact pu_m1 (by omega) q
    simp [q, z 0 (by decide), z 1 (by decide), z 2 (by decide)]
  · have hb : b ∈ aL S l := (a1 l hl).mpr q
    have nq : aB S 0 b ≠ -1 := by rw [q]; exact pu_m1 (by omega)
    rcases (show l = 0 ∨ l = 1 ∨ l = 2 by omega) with rfl | rfl | rfl <;> simp [nq, hb]
def aSh (W : AS) (up lo : Int32) : AS := (upd (upd (upd W.1 2 up) 3 lo) 4 0, fun _ => [], W.2.2.1, fun f b => if f = 5 then aB W 5 b else -1)
theorem c_drop_b2 {N : Nat} : ∀ r n i (τ : ObjS), i + r = 200 → r < n → Ok (f_X0_dropAll_b2 N n τ (nI i)) (fun t => t.2 = τ.2 ∧ t.1 0 = τ.1 0 ∧ ∀ k, 1 ≤ k → k < 6 → ∀ b, b < 200 → t.1 k b = if i ≤ b then -1 else τ.1 k b) := by
  intro r
  induction r with
  | zero =>
    intro n i τ hi hn
    obtain ⟨n, rfl⟩ : ∃ m, n = m + 1 := ⟨n - 1, by omega⟩
    have : i = 200 := by omega
    subst this
    rw [f_X0_dropAll_b2]
    exact ok_t (show (200 : Int32) ≤ nI 200 by decide) (ok_some ⟨rfl, rfl, fun k _ _ b hb => by rw [if_neg (by omega)]⟩)
  | succ r ih =>
    intro n i τ hi hn
    obtain ⟨n, rfl⟩ : ∃ m, n = m + 1 := ⟨n - 1, by omega⟩
    have hi2 : i < 200 := by omega
    rw [f_X0_dropAll_b2]
    refine ok_f (pu_ge200 hi2) (ok_gd i rfl hi2 (by decide) (ok_let (ok_gd i rfl hi2 (by decide) (ok_let (ok_gd i rfl hi2 (by decide) (ok_let (ok_gd i rfl hi2 (by decide) (ok_let (ok_gd i rfl hi2 (by decide) (ok_let ?_))))))))))
    rw [nI_clamp (by omega), nI_1]
    refine ok_mono (ih n (i + 1) _ (by omega) (by omega)) (fun t ht => ⟨ht.1, ht.2.1, fun k k1 k6 b hb => ?_⟩)
    rw [ht.2.2 k k1 k6 b hb]
    by_cases c : i + 1 ≤ b
    · rw [if_pos c, if_pos (by omega)]
    · rw [if_neg c]
      rcases (show k = 1 ∨ k = 2 ∨ k = 3 ∨ k = 4 ∨ k = 5 by omega) with rfl | rfl | rfl | rfl | rfl
      · show upd (τ.1 1) i (-1) b = _
        by_cases e : b = i
        · rw [upd_eq e, if_pos (by omega)]
        · rw [upd_ne e, if_neg (by omega)]
      · show upd (τ.1 2) i (-1) b = _
        by_cases e : b = i
        · rw [upd_eq e, if_pos (by omega)]
        · rw [upd_ne e, if_neg (by omega)]
      · show upd (τ.1 3) i (-1) b = _
        by_cases e : b = i
        · rw [upd_eq e, if_pos (by omega)]
        · rw [upd_ne e, if_neg (by omega)]
      · show upd (τ.1 4) i (-1) b = _
        by_cases e : b = i
        · rw [upd_eq e, if_pos (by omega)]
        · rw [upd_ne e, if_neg (by omega)]
      · show upd (τ.1 5) i (-1) b = _
        by_cases e : b = i
        · rw [upd_eq e, if_pos (by omega)]
        · rw [upd_ne e, if_neg (by omega)]
theorem c_reshape {N : Nat} {σ : CacS} {S : AS} {up lo : Int32} (hN : 1000 ≤ N) (h : RepC σ S E0) (hI : Inv S) : Ok (f_X1_reshape N σ up lo) (fun t => t.1 = nI ((aL S 0).length + (aL S 1).length + (aL S 2).length) ∧ RepC t.2 (aSh (aWB 200 200 0 S).2 up lo) E0) := by
  unfold f_X1_reshape
  refine ok_bind (p0_writeBackSome (most := 200) hN h.2.1 hI.1.2.2.2.2.1) (fun t ht => ok_let ?_)
  have hA := h.b ht.2 (sB_WB _ _ _)
  obtain ⟨⟨o1, o2, o3, o4, o5, o6⟩, hb, htt, hr, hk⟩ := hA
  unfold f_X0_dropAll
  refine ok_bind (c_drop_b2 (N := N) 200 N 0 (va_up σ 1 t.2 1) rfl (by omega)) (fun t2 ht2 => ok_let (ok_let (ok_let (ok_let (ok_let (ok_let (ok_let (ok_let (ok_let (ok_some ⟨?_, ?_⟩)))))))))) 
  · have r0 : (σ 3).2 1 = nI (aL S 0).length := (h.2.2.2.1 0 (by decide)).2.1
    have r1 : (σ 4).2 1 = nI (aL S 1).length := (h.2.2.2.1 1 (by decide)).2.1
    have r2 : (σ 5).2 1 = nI (aL S 2).length := (h.2.2.2.1 2 (by decide)).2.1
    show (σ 3).2 1 + (σ 4).2 1 + (σ 5).2 1 = _
    rw [r0, r1, r2, nI_add, nI_add]
  · obtain ⟨q1, q2, q3⟩ := ht2
    refine ⟨⟨o1, o2, o3, rfl, rfl, rfl⟩, ⟨?_, ?_, fun b hb2 => ⟨fun _ => ?_, ?_, ?_, ?_, ?_, ?_⟩⟩, htt, fun l hl => ?_, fun c hc hn f hf => ?_⟩
    · exact (congrFun q1 6).trans hb.1
    · exact (congrFun q1 7).trans hb.2.1
    · exact (q3 4 (by decide) (by decide) b hb2).trans (if_pos (Nat.zero_le _))
    · exact (q3 1 (by decide) (by decide) b hb2).trans (if_pos (Nat.zero_le _))
    · exact (q3 2 (by decide) (by decide) b hb2).trans (if_pos (Nat.zero_le _))
    · exact (q3 3 (by decide) (by decide) b hb2).trans (if_pos (Nat.zero_le _))
    · exact (q3 5 (by decide) (by decide) b hb2).trans (if_pos (Nat.zero_le _))
    · exact (congrFun q2 b).trans (hb.2.2 b hb2).2.2.2.2.2
    · rcases (show l = 0 ∨ l = 1 ∨ l = 2 ∨ l = 3 ∨ l = 4 by omega) with rfl | rfl | rfl | rfl | rfl <;> exact ⟨Nat.zero_le _, rfl, fun i hi => absurd hi (Nat.not_lt_zero _)⟩
    · have := hk c hc hn f hf
      rcases (show c = 0 ∨ c = 1 ∨ c = 2 ∨ c = 3 by omega) with rfl | rfl | rfl | rfl <;> exact this
theorem Inv_sh {W : AS} {u l : Nat} (h : Inv W) (u2 : 2 ≤ u) (u16 : u ≤ 16) (l2 : 2 ≤ l) (l24 : l ≤ 24) : Inv (aSh W (nI u) (nI l)) := by
  obtain ⟨⟨hL, hW, hU, hC, hH, hS⟩, hB⟩ := h
  refine ⟨⟨fun m _ => ⟨List.nodup_nil, fun x hx => absurd hx List.not_mem_nil⟩, ⟨l, rfl, l2, l24, Nat.zero_le _⟩, ⟨u, rfl, u2, u16, Nat.zero_le _, Nat.zero_le _, Nat.zero_le _, 0, rfl, Nat.zero_le _⟩, hC, hH, hS⟩, fun x hx => ?_⟩
  refine ⟨fun m hm => ⟨fun q => absurd q List.not_mem_nil, fun q => absurd q (pu_m1' (by omega))⟩, Or.inl rfl, fun m hm => ⟨fun q => absurd q List.not_mem_nil, fun q => absurd q (pu_m1' (by omega))⟩, Or.inl rfl, fun _ => ⟨rfl, rfl, rfl⟩, fun _ => rfl, fun q => absurd rfl q⟩
