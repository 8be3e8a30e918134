/-! the steps keep the order of things -/
theorem BOk.congr {S T : AS} {x : Nat} (h : BOk S x) (hm : ∀ l, l < 5 → (x ∈ aL T l ↔ x ∈ aL S l)) (hf : ∀ f, f < 5 → aB T f x = aB S f x) (h6 : aN T 6 = aN S 6) : BOk T x := by
  obtain ⟨a1, a2, a3, a4, a5, a6, a7⟩ := h
  unfold BOk
  rw [hf 0 (by decide), hf 1 (by decide), hf 2 (by decide), hf 3 (by decide), hf 4 (by decide), h6]
  exact ⟨fun l hl => (hm l (by omega)).trans (a1 l hl), a2, fun l hl => (hm (3 + l) (by omega)).trans (a3 l hl), a4, a5, a6, a7⟩
theorem aB_ne {S : AS} {f b g x : Nat} {v : Int32} (h : x ≠ b) : aB (uB S f b v) g x = aB S g x := by rw [aB_uB, if_neg (fun q => h q.2)]
theorem aB_nf {S : AS} {f b g x : Nat} {v : Int32} (h : g ≠ f) : aB (uB S f b v) g x = aB S g x := by rw [aB_uB, if_neg (fun q => h q.1)]
theorem aB_eq {S : AS} {f b : Nat} {v : Int32} : aB (uB S f b v) f b = v := by rw [aB_uB, if_pos ⟨rfl, rfl⟩]
theorem aL_ne {S : AS} {l m : Nat} {L : List Nat} (h : m ≠ l) : aL (uL S l L) m = aL S m := by rw [aL_uL, if_neg h]
theorem aL_eq {S : AS} {l : Nat} {L : List Nat} : aL (uL S l L) l = L := by rw [aL_uL, if_pos rfl]
theorem aN_ne {S : AS} {k j : Nat} {v : Int32} (h : j ≠ k) : aN (uN S k v) j = aN S j := by rw [aN_uN, if_neg h]
theorem AS_ext {S T : AS} (h1 : ∀ k, aN S k = aN T k) (h2 : ∀ l, aL S l = aL T l) (h3 : ∀ c f, aC S c f = aC T c f) (h4 : ∀ f b, aB S f b = aB T f b) : S = T :=
  Prod.ext (funext h1) (Prod.ext (funext h2) (Prod.ext (funext fun c => funext fun f => h3 c f) (funext fun f => funext fun b => h4 f b)))
theorem uL_comm {S : AS} {l m : Nat} {L M : List Nat} (h : l ≠ m) : uL (uL S l L) m M = uL (uL S m M) l L := by
  refine AS_ext (fun _ => rfl) (fun k => ?_) (fun _ _ => rfl) (fun _ _ => rfl)
  rw [aL_uL, aL_uL, aL_uL, aL_uL]
  by_cases e : k = m
  · rw [if_pos e, if_pos e, if_neg (by omega)]
  · rw [if_neg e, if_neg e]
theorem uB_comm {S : AS} {f g b x : Nat} {v w : Int32} (h : ¬ (f = g ∧ b = x)) : uB (uB S f b v) g x w = uB (uB S g x w) f b v := by
  refine AS_ext (fun _ => rfl) (fun _ => rfl) (fun _ _ => rfl) (fun k y => ?_)
  rw [aB_uB, aB_uB, aB_uB, aB_uB]
  by_cases e : k = g ∧ y = x
  · rw [if_pos e, if_pos e, if_neg (fun q => h ⟨q.1.symm.trans e.1, q.2.symm.trans e.2⟩)]
  · rw [if_neg e, if_neg e]
theorem uN_comm {S : AS} {k j : Nat} {v w : Int32} (h : k ≠ j) : uN (uN S k v) j w = uN (uN S j w) k v := by
  refine AS_ext (fun i => ?_) (fun _ => rfl) (fun _ _ => rfl) (fun _ _ => rfl)
  rw [aN_uN, aN_uN, aN_uN, aN_uN]
  by_cases e : i = j
  · rw [if_pos e, if_pos e, if_neg (by omega)]
  · rw [if_neg e, if_neg e]
theorem uC_comm {S : AS} {c f d g : Nat} {v w : Int32} (h : ¬ (c = d ∧ f = g)) : uC (uC S c f v) d g w = uC (uC S d g w) c f v := by
  refine AS_ext (fun _ => rfl) (fun _ => rfl) (fun k y => ?_) (fun _ _ => rfl)
  rw [aC_uC, aC_uC, aC_uC, aC_uC]
  by_cases e : k = d ∧ y = g
  · rw [if_pos e, if_pos e, if_neg (fun q => h ⟨q.1.symm.trans e.1, q.2.symm.trans e.2⟩)]
  · rw [if_neg e, if_neg e]
theorem BOk_wu {S : AS} {x y : Nat} (h : BOk S x) : BOk (aWU S y) x := by
  obtain ⟨a1, a2, a3, a4, a5, a6, a7⟩ := h
  have e (f : Nat) (hf : f ≠ 5) (h3 : f ≠ 3) : aB (aWU S y) f x = aB S f x := by
    show aB (uB (uB S 5 y (aB S 1 y)) 3 y (-1)) f x = _
    rw [aB_nf h3, aB_nf hf]
  unfold BOk
  rw [e 0 (by decide) (by decide), e 1 (by decide) (by decide), e 2 (by decide) (by decide), e 4 (by decide) (by decide)]
  refine ⟨a1, a2, a3, a4, fun q => ⟨(a5 q).1, (a5 q).2.1, ?_⟩, a6, a7⟩
  show aB (uB (uB S 5 y (aB S 1 y)) 3 y (-1)) 3 x = _
  rw [aB_uB]
  split
  · rfl
  · rw [aB_nf (by decide)]
    exact (a5 q).2.2
theorem Inv0_wu {S : AS} {y : Nat} (h : Inv0 S) : Inv0 (aWU S y) := ⟨h.1, h.2.1, h.2.2.1, h.2.2.2.1, hdOk_wu, h.2.2.2.2.2⟩
theorem Mx_wu {S : AS} {b y : Nat} (h : Mx S b) : Mx (aWU S y) b := by
  obtain ⟨h0, h1, h2, h3, h4, h5⟩ := h
  have e (f : Nat) (hf : f ≠ 5) (h3 : f ≠ 3) : aB (aWU S y) f b = aB S f b := by
    show aB (uB (uB S 5 y (aB S 1 y)) 3 y (-1)) f b = _
    rw [aB_nf h3, aB_nf hf]
  refine ⟨Inv0_wu h0, h1, (e 0 (by decide) (by decide)).trans h2, ?_, ?_, fun x hx hn => BOk_wu (h5 x hx hn)⟩
  · rw [e 4 (by decide) (by decide)]; exact h3
  · rw [e 4 (by decide) (by decide)]; exact h4
theorem Inv_wu {S : AS} {y : Nat} (h : Inv S) : Inv (aWU S y) := ⟨Inv0_wu h.1, fun x hx => BOk_wu (h.2 x hx)⟩
theorem Inv_WB {most : Int32} : ∀ r k S, Inv S → Inv (aWB most r k S).2 := by
  intro r
  induction r with
  | zero => exact fun k S h => h
  | succ r ih =>
    intro k S h
    rw [aWB]
    split
    · exact h
    · split
      · exact h
      · exact ih _ _ (Inv_wu h)
theorem LOk_rm {S : AS} {l y : Nat} (h : LOk S) (hl : l < 5) : LOk (uL S l (pu_rm (aL S l) y)) := by
  intro m hm
  by_cases e : m = l
  · subst e
    rw [aL_eq]
    exact ⟨pu_rm_nodup (h m hm).1, fun x hx => (h m hm).2 x (pu_rm_mem.mp hx).1⟩
  · rw [aL_ne e]
    exact h m hm
theorem LOk_cons {S : AS} {l y : Nat} (h : LOk S) (hl : l < 5) (hy : y < 200) (hn : y ∉ aL S l) : LOk (uL S l (y :: aL S l)) := by
  intro m hm
  by_cases e : m = l
  · subst e
    rw [aL_eq]
    refine ⟨List.nodup_cons.mpr ⟨hn, (h m hm).1⟩, fun x hx => ?_⟩
    rcases List.mem_cons.mp hx with q | q
    · rw [q]; exact hy
    · exact (h m hm).2 x q
  · rw [aL_ne e]
    exact h m hm
theorem mem_rm_ne {L : List Nat} {x y : Nat} (h : x ≠ y) : x ∈ pu_rm L y ↔ x ∈ L := pu_rm_mem.trans ⟨fun q => q.1, fun q => ⟨q, h⟩⟩
theorem mem_cons_ne {L : List Nat} {x y : Nat} (h : x ≠ y) : x ∈ y :: L ↔ x ∈ L := List.mem_cons.trans ⟨fun q => q.resolve_left h, Or.inr⟩
theorem Mx_drop {S : AS} {b y : Nat} (h : Mx S b) (hy : y ∈ aL S 2) : Mx (aDrop S y) b := by
  obtain ⟨⟨hL, ⟨w, w1, w2, w3, w4⟩, hU, hC, hH, hS⟩, h1, h2, h3, h4, h5⟩ := h
  have hyb : y ≠ b := fun q => h1 2 (by decide) (q ▸ hy)
  have hy2 : y < 200 := (hL 2 (by decide)).2 y hy
  have hlen := pu_rm_len (hL 2 (by decide)).1 hy
  have eB (f x : Nat) (hx : x ≠ y) : aB (aDrop S y) f x = aB S f x := by
    show aB (uB (uB (uB (uB (uL S 2 (pu_rm (aL S 2) y)) 1 y (-1)) 2 y (-1)) 3 y (-1)) 0 y (-1)) f x = _
    rw [aB_ne hx, aB_ne hx, aB_ne hx, aB_ne hx]
    rfl
  have eL (l : Nat) : aL (aDrop S y) l = if l = 2 then pu_rm (aL S 2) y else aL S l := rfl
  have hm (l x : Nat) (hx : x ≠ y) : x ∈ aL (aDrop S y) l ↔ x ∈ aL S l := by
    rw [eL]
    by_cases e : l = 2
    · rw [if_pos e, e]; exact mem_rm_ne hx
    · rw [if_neg e]
  refine ⟨⟨LOk_rm hL (by decide), ⟨w, w1, w2, w3, ?_⟩, hU, hC, hH, hS⟩, fun l hl => ?_, ?_, fun l hl => ?_, ?_, fun x hx hn => ?_⟩
  · show (pu_rm (aL S 2) y).length ≤ w
    omega
  · rw [hm l b hyb.symm]; exact h1 l hl
  · rw [eB 0 b hyb.symm]; exact h2
  · rw [hm _ b hyb.symm, eB 4 b hyb.symm]; exact h3 l hl
  · rw [eB 4 b hyb.symm]; exact h4
  · by_cases e : x = y
    · subst e
      obtain ⟨a1, a2, a3, a4, a5, a6, a7⟩ := h5 x hx hn
      have e0 : aB (aDrop S x) 0 x = -1 := aB_eq
      have e1 : aB (aDrop S x) 1 x = -1 := by
        show aB (uB (uB (uB (uB (uL S 2 (pu_rm (aL S 2) x)) 1 x (-1)) 2 x (-1)) 3 x (-1)) 0 x (-1)) 1 x = _
        rw [aB_nf (by decide), aB_nf (by decide), aB_nf (by decide), aB_eq]
      have e2 : aB (aDrop S x) 2 x = -1 := by
        show aB (uB (uB (uB (uB (uL S 2 (pu_rm (aL S 2) x)) 1 x (-1)) 2 x (-1)) 3 x (-1)) 0 x (-1)) 2 x = _
        rw [aB_nf (by decide), aB_nf (by decide), aB_eq]
      have e3 : aB (aDrop S x) 3 x = -1 := by
        show aB (uB (uB (uB (uB (uL S 2 (pu_rm (aL S 2) x)) 1 x (-1)) 2 x (-1)) 3 x (-1)) 0 x (-1)) 3 x = _
        rw [aB_nf (by decide), aB_eq]
      have e4 : aB (aDrop S x) 4 x = aB S 4 x := by
        show aB (uB (uB (uB (uB (uL S 2 (pu_rm (aL S 2) x)) 1 x (-1)) 2 x (-1)) 3 x (-1)) 0 x (-1)) 4 x = _
        rw [aB_nf (by decide), aB_nf (by decide), aB_nf (by decide), aB_nf (by decide)]
        rfl
      have hw := (a1 2 (by decide)).mp hy
      unfold BOk
      rw [e0, e1, e2, e3, e4]
      refine ⟨fun l hl => ⟨fun q => ?_, fun q => absurd q (pu_m1' (by omega))⟩, Or.inl rfl, fun l hl => ?_, a4, fun _ => ⟨rfl, rfl, rfl⟩, fun q => q.elim (fun q => absurd q (by decide)) (fun q => absurd q (by decide)), fun q => absurd rfl q⟩
      · rw [eL] at q
        by_cases e : l = 2
        · rw [if_pos e] at q; exact absurd rfl (pu_rm_mem.mp q).2
        · rw [if_neg e] at q
          have := (a1 l hl).mp q
          rw [hw] at this
          exact absurd ((nI_eq (by omega) (by omega)).mp this) (fun q => e q.symm)
      · rw [eL, if_neg (by omega)]; exact a3 l hl
    · exact (h5 x hx hn).congr (fun l _ => hm l x e) (fun f _ => eB f x e) rfl
theorem Mx_MR {S : AS} {b : Nat} (h : Mx S b) : Mx (aMR S) b := by
  by_cases e : aLow S
  · rw [aMR_t e]
    obtain ⟨w, w1, w2, w3, w4⟩ := h.1.2.1
    have hl := (aLow_iff w1 w3 w4).mp e
    have hx : aX S ∈ aL S 2 := aLv_mem (by omega) _ (Nat.le_refl _)
    unfold aCl
    split
    · exact Mx_drop h hx
    · exact Mx_drop (Mx_wu h) hx
  · rw [aMR_f e]; exact h
/-- behind it there is room in the lower list -/
theorem MR_room {S : AS} (h1 : LOk S) (h : lowOk S) : ∃ w, aN (aMR S) 3 = nI w ∧ w ≤ 24 ∧ (aL (aMR S) 2).length < w := by
  obtain ⟨w, w1, w2, w3, w4⟩ := h
  by_cases e : aLow S
  · have hl := (aLow_iff w1 w3 w4).mp e
    have hx : aX S ∈ aL S 2 := aLv_mem (by omega) _ (Nat.le_refl _)
    have hlen := pu_rm_len (h1 2 (by decide)).1 hx
    rw [aMR_t e]
    unfold aCl
    split
    · exact ⟨w, w1, w3, by show (pu_rm (aL S 2) _).length < w; omega⟩
    · exact ⟨w, w1, w3, by show (pu_rm (aL S 2) _).length < w; omega⟩
  · rw [aMR_f e]
    exact ⟨w, w1, w3, by have : ¬ w ≤ (aL S 2).length := fun q => e ((aLow_iff w1 w3 w4).mpr q); omega⟩
theorem aN_MR {S : AS} {k : Nat} (h1 : k ≠ 13) (h2 : k ≠ 20) (h3 : k ≠ 21) : aN (aMR S) k = aN S k := by
  by_cases e : aLow S
  · rw [aMR_t e]
    show aN (uN _ 20 _) k = _
    rw [aN_ne h2]
    unfold aCl
    split
    · rfl
    · exact (sB_wu S _).1 k h1 h3
  · rw [aMR_f e]
theorem aL_MR {S : AS} {l : Nat} (h : l ≠ 2) : aL (aMR S) l = aL S l := by
  by_cases e : aLow S
  · rw [aMR_t e]
    unfold aCl
    split
    · exact if_neg h
    · exact if_neg h
  · rw [aMR_f e]
theorem aC_MR {S : AS} {c f : Nat} : aC (aMR S) c f = aC S c f := by
  by_cases e : aLow S
  · rw [aMR_t e]
    unfold aCl
    split <;> rfl
  · rw [aMR_f e]
-- the target
theorem aQ_nI {S : AS} {l m : Nat} (hl : (aL S l).length ≤ 24) (hm : (aL S m).length ≤ 24) (h0 : 0 < (aL S m).length) : ∃ q, q ≤ 24 ∧ (if 1 < aQ S l m then aQ S l m else 1) = nI q ∧ 1 ≤ q := by
  have e : aQ S l m = nI ((aL S l).length / (aL S m).length) := pk_div (by omega) h0 (by omega)
  have hd : (aL S l).length / (aL S m).length ≤ 24 := Nat.le_trans (Nat.div_le_self _ _) hl
  rw [e]
  by_cases q : (1 : Int32) < nI ((aL S l).length / (aL S m).length)
  · have := (nI_ltI (a := 1) (by decide) (by omega)).mp q
    rw [if_pos q]
    exact ⟨_, hd, rfl, by omega⟩
  · rw [if_neg q]
    exact ⟨1, by decide, rfl, by decide⟩
theorem upOk_set {S : AS} {v : Int32} {u t : Nat} (h : upOk S) (hu : aN S 2 = nI u) (hu2 : u ≤ 16) (hv : v = nI t) (ht : t ≤ u) : upOk (uN S 4 v) := by
  obtain ⟨u', u1, u2, u3, u4, u5, u6, -⟩ := h
  have : u' = u := (nI_eq (by omega) (by omega)).mp (u1.symm.trans hu)
  subst this
  exact ⟨u', u1, u2, u3, u4, u5, u6, t, hv, ht⟩
theorem Mx_uN4 {S : AS} {b k : Nat} {v w : Int32} (h : Mx S b) (hk : k = 17 ∨ k = 18) (hu : upOk (uN S 4 v)) : Mx (uN (uN S k w) 4 v) b := by
  obtain ⟨⟨hL, hW, hU, hC, hH, hS⟩, h1, h2, h3, h4, h5⟩ := h
  rcases hk with rfl | rfl
  · exact ⟨⟨hL, hW, hu, hC, hH, hS⟩, h1, h2, h3, h4, fun x hx hn => (h5 x hx hn).congr (fun _ _ => Iff.rfl) (fun _ _ => rfl) rfl⟩
  · exact ⟨⟨hL, hW, hu, hC, hH, hS⟩, h1, h2, h3, h4, fun x hx hn => (h5 x hx hn).congr (fun _ _ => Iff.rfl) (fun _ _ => rfl) rfl⟩
theorem Mx_ln {S : AS} {b : Nat} {g : Int32} (h : Mx S b) (h3 : g = 3 → 0 < (aL S 3).length) (h4 : g = 4 → 0 < (aL S 4).length) : Mx (aLn S g) b := by
  have hU := h.1.2.2.1
  obtain ⟨u, u1, u2, u3, u4, u5, u6, t, t1, t2⟩ := h.1.2.2.1
  unfold aLn
  by_cases e3 : g = 3
  · rw [if_pos e3]
    obtain ⟨q, q1, q2, q3⟩ := aQ_nI (S := S) (l := 4) (m := 3) (by omega) (by omega) (h3 e3)
    rw [q2, t1, u1, nI_add]
    refine Mx_uN4 h (Or.inl rfl) ?_
    by_cases c : nI (t + q) < nI u
    · rw [if_pos c]
      exact upOk_set hU u1 u3 rfl (by have := (nI_ltI (by omega) (by omega)).mp c; omega)
    · rw [if_neg c]
      exact upOk_set hU u1 u3 rfl (Nat.le_refl _)
  · rw [if_neg e3]
    by_cases e4 : g = 4
    · rw [if_pos e4]
      obtain ⟨q, q1, q2, q3⟩ := aQ_nI (S := S) (l := 3) (m := 4) (by omega) (by omega) (h4 e4)
      rw [q2, t1]
      refine Mx_uN4 h (Or.inr rfl) ?_
      by_cases c : 0 < nI t - nI q
      · rw [if_pos c]
        have hlt : q ≤ t := by
          rw [Int32.lt_iff_toInt_lt, pk_sub_toInt (by omega) (by omega)] at c
          have : (0 : Int32).toInt = 0 := by decide
          omega
        exact upOk_set hU u1 u3 (pk_sub hlt) (by omega)
      · rw [if_neg c]
        exact upOk_set hU u1 u3 (t := 0) rfl (Nat.zero_le _)
    · rw [if_neg e4]; exact h
-- a ghost less
theorem gh_of {S : AS} {x l : Nat} (h : BOk S x) (hl : l < 2) (hm : x ∈ aL S (3 + l)) : aB S 4 x = nI (3 + l) := (h.2.2.1 l hl).mp hm
theorem up_rm {S : AS} {l y : Nat} (h : upOk S) (hl : 3 ≤ l) : upOk (uL S l (pu_rm (aL S l) y)) := by
  obtain ⟨u, u1, u2, u3, u4, u5, u6, u7⟩ := h
  have := pu_rm_le (aL S l) y
  refine ⟨u, u1, u2, u3, ?_, ?_, ?_, u7⟩
  · rw [aL_ne (by omega), aL_ne (by omega)]; exact u4
  · rw [aL_uL]
    split
    · next q => rw [q] at u5; omega
    · exact u5
  · rw [aL_uL]
    split
    · next q => rw [q] at u6; omega
    · exact u6
theorem low_ne {S : AS} {l : Nat} {L : List Nat} (h : lowOk S) (hl : 3 ≤ l) : lowOk (uL S l L) := by
  obtain ⟨w, w1, w2, w3, w4⟩ := h
  exact ⟨w, w1, w2, w3, by rw [aL_ne (by omega)]; exact w4⟩
/-- the block y loses its place among the ghosts of list 3 + l -/
def aGo (S : AS) (y l : Nat) : AS := uB (uL S (3 + l) (pu_rm (aL S (3 + l)) y)) 4 y (-1)
theorem Inv0_go {S : AS} {y l : Nat} (h : Inv0 S) (hl : l < 2) : Inv0 (aGo S y l) := by
  obtain ⟨hL, hW, hU, hC, hH, hS⟩ := h
  exact ⟨LOk_rm hL (by omega), low_ne hW (by omega), up_rm hU (by omega), hC, hH, hS⟩
theorem aL_go {S : AS} {y l m : Nat} : aL (aGo S y l) m = if m = 3 + l then pu_rm (aL S (3 + l)) y else aL S m := aL_uL S (3 + l) m _
theorem aB_go {S : AS} {y l f x : Nat} (h : f ≠ 4) : aB (aGo S y l) f x = aB S f x := aB_nf h
theorem BOk_go {S : AS} {x y l : Nat} (hl : l < 2) (h : BOk S x) (hx : x = y → y ∈ aL S (3 + l)) : BOk (aGo S y l) x := by
  by_cases e : x = y
  · subst e
    have hg := gh_of h hl (hx rfl)
    obtain ⟨a1, a2, a3, a4, a5, a6, a7⟩ := h
    have e4 : aB (aGo S x l) 4 x = -1 := aB_eq
    unfold BOk
    rw [aB_go (f := 0) (by decide), aB_go (f := 1) (by decide), aB_go (f := 2) (by decide), aB_go (f := 3) (by decide), e4]
    refine ⟨fun m hm => ?_, a2, fun m hm => ⟨fun q => ?_, fun q => absurd q (pu_m1' (by omega))⟩, Or.inl rfl, a5, fun _ => rfl, a7⟩
    · rw [aL_go, if_neg (by omega)]; exact a1 m hm
    · rw [aL_go] at q
      by_cases em : m = l
      · rw [if_pos (by omega)] at q; exact absurd rfl (pu_rm_mem.mp q).2
      · rw [if_neg (by omega)] at q
        have := (a3 m hm).mp q
        rw [hg] at this
        exact absurd ((nI_eq (by omega) (by omega)).mp this) (by omega)
  · refine h.congr (fun m hm => ?_) (fun f hf => aB_ne e) rfl
    rw [aL_go]
    by_cases em : m = 3 + l
    · rw [if_pos em, em]; exact mem_rm_ne e
    · rw [if_neg em]
theorem Mx_go {S : AS} {b y l : Nat} (h : Mx S b) (hl : l < 2) (hy : y ∈ aL S (3 + l)) : Mx (aGo S y l) b := by
  obtain ⟨h0, h1, h2, h3, h4, h5⟩ := h
  refine ⟨Inv0_go h0 hl, fun m hm => ?_, ?_, fun m hm => ?_, ?_, fun x hx hn => BOk_go hl (h5 x hx hn) (fun _ => hy)⟩
  · rw [aL_go, if_neg (by omega)]; exact h1 m hm
  · rw [aB_go (by decide)]; exact h2
  · by_cases e : b = y
    · subst e
      have hg := (h3 l hl).mp hy
      have e4 : aB (aGo S b l) 4 b = -1 := aB_eq
      rw [e4, aL_go]
      refine ⟨fun q => ?_, fun q => absurd q (pu_m1' (by omega))⟩
      by_cases em : m = l
      · rw [if_pos (by omega)] at q; exact absurd rfl (pu_rm_mem.mp q).2
      · rw [if_neg (by omega)] at q
        have := (h3 m hm).mp q
        rw [hg] at this
        exact absurd ((nI_eq (by omega) (by omega)).mp this) (by omega)
    · have e4 : aB (aGo S y l) 4 b = aB S 4 b := aB_ne e
      rw [e4, aL_go]
      by_cases em : 3 + m = 3 + l
      · have : m = l := by omega
        subst this
        rw [if_pos rfl]; exact (mem_rm_ne e).trans (h3 m hm)
      · rw [if_neg em]; exact h3 m hm
  · by_cases e : b = y
    · subst e; exact Or.inl aB_eq
    · rw [show aB (aGo S y l) 4 b = aB S 4 b from aB_ne e]; exact h4
theorem LG1_eq {S : AS} {b l : Nat} (hl : l < 2) (h : aB S 4 b = nI (3 + l)) : aLG1 S b = aGo S b l := by
  unfold aLG1 aGo
  rw [h, if_neg (pu_m1 (by omega)), nI_clamp (by omega)]
theorem Mx_LG1 {S : AS} {b : Nat} (h : Mx S b) : Mx (aLG1 S b) b ∧ aB (aLG1 S b) 4 b = -1 := by
  rcases h.2.2.2.2.1 with e | ⟨l, hl, e⟩
  · unfold aLG1
    rw [if_pos e]
    exact ⟨h, e⟩
  · rw [LG1_eq hl e]
    exact ⟨Mx_go h hl ((h.2.2.2.1 l hl).mpr e), aB_eq⟩
def aLast (S : AS) (g : Nat) : Nat := (aL S g).getD ((aL S g).length - 1) 0
theorem LG_cases (S : AS) (l : Nat) : (aN S 2 = nI (aL S (3 + l)).length ∧ aLG S (3 + l) = aGo S (aLast S (3 + l)) l) ∨ (aN S 2 ≠ nI (aL S (3 + l)).length ∧ aLG S (3 + l) = S) := by
  unfold aLG aGo aLast
  by_cases e : aN S 2 = nI (aL S (3 + l)).length
  · exact Or.inl ⟨e, if_pos e⟩
  · exact Or.inr ⟨e, if_neg e⟩
theorem Mx_LG {S : AS} {b l : Nat} (h : Mx S b) (hl : l < 2) : Mx (aLG S (3 + l)) b ∧ (∃ u, aN (aLG S (3 + l)) 2 = nI u ∧ u ≤ 16 ∧ (aL (aLG S (3 + l)) (3 + l)).length < u) := by
  obtain ⟨u, u1, u2, u3, u4, u5, u6, -⟩ := h.1.2.2.1
  have hlu : (aL S (3 + l)).length ≤ u := by
    rcases (show l = 0 ∨ l = 1 by omega) with rfl | rfl
    · exact u5
    · exact u6
  rcases LG_cases S l with ⟨e, q⟩ | ⟨e, q⟩
  · rw [q]
    rw [u1] at e
    have hul := (nI_eq (by omega) (by omega)).mp e
    have hm : aLast S (3 + l) ∈ aL S (3 + l) := pu_getD_mem (by omega)
    refine ⟨Mx_go h hl hm, u, u1, u3, ?_⟩
    rw [aL_go, if_pos rfl]
    have := pu_rm_len (h.1.1 (3 + l) (by omega)).1 hm
    omega
  · rw [q]
    refine ⟨h, u, u1, u3, ?_⟩
    have : u ≠ (aL S (3 + l)).length := fun c => e (by rw [u1, c])
    omega

-- the demoted unit
def aMv (S : AS) (x l : Nat) : AS := aM2 (uL (aG2 S x l) l (pu_rm (aL S l) x)) x
theorem aDem_eq (S : AS) (x l : Nat) (hl : l < 2) : aDem S x l = aN19 (aMv (aLG S (3 + l)) x l) := by
  unfold aDem aMv
  have e : aL (aLG S (3 + l)) l = aL S l := by
    rcases LG_cases S l with ⟨-, q⟩ | ⟨-, q⟩
    · rw [q, aL_go, if_neg (by omega)]
    · rw [q]
  rw [e]
theorem aL_mv {S : AS} {x l : Nat} (hl : l < 2) (m : Nat) : aL (aMv S x l) m = if m = 2 then x :: aL S 2 else if m = l then pu_rm (aL S l) x else if m = 3 + l then x :: aL S (3 + l) else aL S m := by
  show aL (uL (uB (uL (uL (uB S 4 x (nI (3 + l))) (3 + l) (x :: aL S (3 + l))) l (pu_rm (aL S l) x)) 0 x 2) 2 (x :: aL (uL (uL (uB S 4 x (nI (3 + l))) (3 + l) (x :: aL S (3 + l))) l (pu_rm (aL S l) x)) 2)) m = _
  rw [aL_ne (show 2 ≠ l by omega), aL_ne (show 2 ≠ 3 + l by omega), aL_uB, aL_uL, aL_uB, aL_uL, aL_uL]
  rfl
theorem aB_mv {S : AS} {x l : Nat} (f z : Nat) : aB (aMv S x l) f z = if f = 0 ∧ z = x then 2 else if f = 4 ∧ z = x then nI (3 + l) else aB S f z := by
  show aB (uB (uL (uL (uB S 4 x (nI (3 + l))) (3 + l) (x :: aL S (3 + l))) l (pu_rm (aL S l) x)) 0 x 2) f z = _
  rw [aB_uB]
  show (if f = 0 ∧ z = x then 2 else aB (uB S 4 x (nI (3 + l))) f z) = _
  rw [aB_uB]
theorem Mx_mv {S : AS} {b x l : Nat} (h : Mx S b) (hl : l < 2) (hx : x ∈ aL S l) (hr2 : ∃ w, aN S 3 = nI w ∧ w ≤ 24 ∧ (aL S 2).length < w) (hrg : ∃ u, aN S 2 = nI u ∧ u ≤ 16 ∧ (aL S (3 + l)).length < u) : Mx (aMv S x l) b := by
  obtain ⟨⟨hL, ⟨w, w1, w2, w3, w4⟩, ⟨u, u1, u2, u3, u4, u5, u6, u7⟩, hC, hH, hS⟩, h1, h2, h3, h4, h5⟩ := h
  obtain ⟨w', q1, q2, q3⟩ := hr2
  obtain ⟨u', p1, p2, p3⟩ := hrg
  have ew : w' = w := (nI_eq (by omega) (by omega)).mp (q1.symm.trans w1)
  have eu : u' = u := (nI_eq (by omega) (by omega)).mp (p1.symm.trans u1)
  subst ew eu
  have hx2 : x < 200 := (hL l (by omega)).2 x hx
  have hxb : x ≠ b := fun q => h1 l (by omega) (q ▸ hx)
  obtain ⟨a1, a2, a3, a4, a5, a6, a7⟩ := h5 x hx2 hxb
  have hw := (a1 l (by omega)).mp hx
  have hg : aB S 4 x = -1 := a6 (by rcases (show l = 0 ∨ l = 1 by omega) with rfl | rfl; exact Or.inl hw; exact Or.inr hw)
  have hn2 : x ∉ aL S 2 := fun q => by
    have := (a1 2 (by decide)).mp q
    rw [hw] at this
    exact absurd ((nI_eq (by omega) (by omega)).mp this) (by omega)
  have hng (m : Nat) (hm : m < 2) : x ∉ aL S (3 + m) := fun q => by
    have := (a3 m hm).mp q
    rw [hg] at this
    exact pu_m1' (by omega) this
  have hlen := pu_rm_len (hL l (by omega)).1 hx
  have eN (k : Nat) : aN (aMv S x l) k = aN S k := rfl
  have eC (c f : Nat) : aC (aMv S x l) c f = aC S c f := rfl
  have hmem (m z : Nat) (hz : z ≠ x) : z ∈ aL (aMv S x l) m ↔ z ∈ aL S m := by
    rw [aL_mv hl]
    by_cases e2 : m = 2
    · rw [if_pos e2, e2]; exact mem_cons_ne hz
    · rw [if_neg e2]
      by_cases e3 : m = l
      · rw [if_pos e3, e3]; exact mem_rm_ne hz
      · rw [if_neg e3]
        by_cases e4 : m = 3 + l
        · rw [if_pos e4, e4]; exact mem_cons_ne hz
        · rw [if_neg e4]
  have hfld (f z : Nat) (hz : z ≠ x) : aB (aMv S x l) f z = aB S f z := by rw [aB_mv, if_neg (fun q => hz q.2), if_neg (fun q => hz q.2)]
  refine ⟨⟨fun m hm => ?_, ⟨w', w1, w2, w3, ?_⟩, ⟨u', u1, u2, u3, ?_, ?_, ?_, u7⟩, hC, hH, hS⟩, fun m hm => ?_, ?_, fun m hm => ?_, ?_, fun z hz hn => ?_⟩
  · rw [aL_mv hl]
    by_cases e2 : m = 2
    · rw [if_pos e2]
      exact ⟨List.nodup_cons.mpr ⟨hn2, (hL 2 (by decide)).1⟩, fun z hz => (List.mem_cons.mp hz).elim (fun q => by rw [q]; exact hx2) ((hL 2 (by decide)).2 z)⟩
    · rw [if_neg e2]
      by_cases e3 : m = l
      · rw [if_pos e3]
        exact ⟨pu_rm_nodup (hL l (by omega)).1, fun z hz => (hL l (by omega)).2 z (pu_rm_mem.mp hz).1⟩
      · rw [if_neg e3]
        by_cases e4 : m = 3 + l
        · rw [if_pos e4]
          exact ⟨List.nodup_cons.mpr ⟨hng l hl, (hL _ (by omega)).1⟩, fun z hz => (List.mem_cons.mp hz).elim (fun q => by rw [q]; exact hx2) ((hL (3 + l) (by omega)).2 z)⟩
        · rw [if_neg e4]; exact hL m hm
  · rw [aL_mv hl, if_pos rfl, List.length_cons]; omega
  · rw [aL_mv hl, aL_mv hl]
    rcases (show l = 0 ∨ l = 1 by omega) with rfl | rfl
    · show (pu_rm (aL S 0) x).length + (aL S 1).length ≤ u'
      omega
    · show (aL S 0).length + (pu_rm (aL S 1) x).length ≤ u'
      omega
  · rw [aL_mv hl, if_neg (by decide), if_neg (by omega)]
    by_cases e4 : 3 = 3 + l
    · have : l = 0 := by omega
      subst this
      rw [if_pos e4, List.length_cons]; omega
    · rw [if_neg e4]; exact u5
  · rw [aL_mv hl, if_neg (by decide), if_neg (by omega)]
    by_cases e4 : 4 = 3 + l
    · have : l = 1 := by omega
      subst this
      rw [if_pos e4, List.length_cons]; omega
    · rw [if_neg e4]; exact u6
  · rw [hmem m b hxb.symm]; exact h1 m hm
  · rw [hfld 0 b hxb.symm]; exact h2
  · rw [hmem _ b hxb.symm, hfld 4 b hxb.symm]; exact h3 m hm
  · rw [hfld 4 b hxb.symm]; exact h4
  · by_cases e : z = x
    · subst e
      have e0 : aB (aMv S z l) 0 z = 2 := by rw [aB_mv, if_pos ⟨rfl, rfl⟩]
      have e1 (f : Nat) (h0 : f ≠ 0) (h4 : f ≠ 4) : aB (aMv S z l) f z = aB S f z := by rw [aB_mv, if_neg (fun q => h0 q.1), if_neg (fun q => h4 q.1)]
      have e4 : aB (aMv S z l) 4 z = nI (3 + l) := by rw [aB_mv, if_neg (by omega), if_pos ⟨rfl, rfl⟩]
      unfold BOk
      rw [e0, e4, e1 1 (by decide) (by decide), e1 2 (by decide) (by decide), e1 3 (by decide) (by decide)]
      refine ⟨fun m hm => ?_, Or.inr ⟨2, by decide, rfl⟩, fun m hm => ?_, Or.inr ⟨l, hl, rfl⟩, fun q => absurd q (by decide), fun q => q.elim (fun q => absurd q (by decide)) (fun q => absurd q (by decide)), fun _ => a7 (by rw [hw]; exact pu_m1 (by omega))⟩
      · rw [aL_mv hl]
        by_cases e2 : m = 2
        · rw [if_pos e2, e2]; exact ⟨fun _ => rfl, fun _ => List.mem_cons_self⟩
        · rw [if_neg e2]
          have hne : ¬ (2 : Int32) = nI m := fun q => e2 ((nI_eq (a := 2) (by decide) (by omega)).mp q).symm
          refine ⟨fun q => ?_, fun q => absurd q hne⟩
          by_cases e3 : m = l
          · rw [if_pos e3] at q; exact absurd rfl (pu_rm_mem.mp q).2
          · rw [if_neg e3, if_neg (by omega)] at q
            have := (a1 m hm).mp q
            rw [hw] at this
            exact absurd ((nI_eq (by omega) (by omega)).mp this) (fun q => e3 q.symm)
      · rw [aL_mv hl, if_neg (by omega), if_neg (by omega)]
        by_cases e3 : m = l
        · rw [if_pos (by omega), e3]; exact ⟨fun _ => rfl, fun _ => List.mem_cons_self⟩
        · rw [if_neg (by omega)]
          exact ⟨fun q => absurd q (hng m hm), fun q => absurd ((nI_eq (by omega) (by omega)).mp q) (by omega)⟩
    · exact (h5 z hz hn).congr (fun m _ => hmem m z e) (fun f _ => hfld f z e) rfl
theorem Mx_n19 {S : AS} {b : Nat} (h : Mx S b) : Mx (aN19 S) b := by
  obtain ⟨⟨hL, hW, hU, hC, hH, hS⟩, h1, h2, h3, h4, h5⟩ := h
  exact ⟨⟨hL, hW, hU, hC, hH, hS⟩, h1, h2, h3, h4, fun x hx hn => (h5 x hx hn).congr (fun _ _ => Iff.rfl) (fun _ _ => rfl) rfl⟩
theorem Mx_dem {S : AS} {b x l : Nat} (h : Mx S b) (hl : l < 2) (hx : x ∈ aL S l) (hr2 : ∃ w, aN S 3 = nI w ∧ w ≤ 24 ∧ (aL S 2).length < w) : Mx (aDem S x l) b := by
  rw [aDem_eq S x l hl]
  obtain ⟨h1, h2⟩ := Mx_LG h hl
  refine Mx_n19 (Mx_mv h1 hl ?_ ?_ h2)
  · rcases LG_cases S l with ⟨-, q⟩ | ⟨-, q⟩
    · rw [q, aL_go, if_neg (by omega)]; exact hx
    · rw [q]; exact hx
  · rcases LG_cases S l with ⟨-, q⟩ | ⟨-, q⟩
    · obtain ⟨w, w1, w2, w3⟩ := hr2
      rw [q]
      exact ⟨w, w1, w2, by rw [aL_go, if_neg (by omega)]; exact w3⟩
    · rw [q]; exact hr2
theorem aVo_mem {S : AS} {l : Nat} (h : 0 < (aL S l).length) : ∀ n, n ≤ (aL S l).length → aVo S l n ∈ aL S l := by
  intro n
  induction n with
  | zero => exact fun _ => pu_getD_mem (by omega)
  | succ n ih =>
    intro hn
    rw [aVo]
    split
    · exact pu_getD_mem (by omega)
    · exact ih (by omega)
theorem aV_mem {S : AS} {wf : Int32} (hu : upOk S) (hf : aFull S) : aV S wf ∈ aL S (aVl S wf) := by
  obtain ⟨u, u1, u2, u3, u4, -⟩ := hu
  have := (aFull_iff u1 u3 u4).mp hf
  exact aVo_mem (aVl_pos wf (by omega)) _ (Nat.le_refl _)
theorem aMk_t {S : AS} {wf : Int32} (h : aFull S) : aMk S wf = aDem (aMR S) (aV S wf) (aVl S wf) := if_pos h
theorem aMk_f {S : AS} {wf : Int32} (h : ¬ aFull S) : aMk S wf = S := if_neg h
theorem Mx_Mk {S : AS} {b : Nat} {wf : Int32} (h : Mx S b) : Mx (aMk S wf) b ∧ ∃ u, aN (aMk S wf) 2 = nI u ∧ u ≤ 16 ∧ (aL (aMk S wf) 0).length + (aL (aMk S wf) 1).length < u := by
  obtain ⟨u, u1, u2, u3, u4, -⟩ := h.1.2.2.1
  by_cases e : aFull S
  · rw [aMk_t e]
    have hm := aV_mem (wf := wf) h.1.2.2.1 e
    have hl := aVl_lt (S := S) wf
    have hM := Mx_MR h
    refine ⟨Mx_dem hM hl (by rw [aL_MR (by omega)]; exact hm) (MR_room h.1.1 h.1.2.1), u, ?_, u3, ?_⟩
    · rw [aDem_eq _ _ _ hl]
      show aN (uN (aMv _ _ _) 19 _) 2 = _
      rw [aN_ne (by decide)]
      show aN (aLG (aMR S) (3 + aVl S wf)) 2 = _
      rcases LG_cases (aMR S) (aVl S wf) with ⟨-, q⟩ | ⟨-, q⟩
      · rw [q]
        exact (aN_MR (by decide) (by decide) (by decide)).trans u1
      · rw [q]
        exact (aN_MR (by decide) (by decide) (by decide)).trans u1
    · have eA (m : Nat) (hm : m < 2) : aL (aDem (aMR S) (aV S wf) (aVl S wf)) m = if m = aVl S wf then pu_rm (aL S m) (aV S wf) else aL S m := by
        rw [aDem_eq _ _ _ hl]
        show aL (aMv _ _ _) m = _
        rw [aL_mv hl, if_neg (by omega)]
        have eG (k : Nat) (hk : k < 2) : aL (aLG (aMR S) (3 + aVl S wf)) k = aL S k := by
          rcases LG_cases (aMR S) (aVl S wf) with ⟨-, q⟩ | ⟨-, q⟩
          · rw [q, aL_go, if_neg (by omega), aL_MR (by omega)]
          · rw [q, aL_MR (by omega)]
        by_cases e2 : m = aVl S wf
        · rw [if_pos e2, if_pos e2, eG _ hl, ← e2]
        · rw [if_neg e2, if_neg e2, if_neg (by omega), eG m hm]
      have hlen := pu_rm_len (h.1.1 (aVl S wf) (by omega)).1 hm
      rw [eA 0 (by decide), eA 1 (by decide)]
      generalize aVl S wf = v at *
      rcases (show v = 0 ∨ v = 1 by omega) with q | q
      · rw [q] at hlen
        rw [q, if_pos rfl, if_neg (by decide)]
        omega
      · rw [q] at hlen
        rw [q, if_neg (by decide), if_pos rfl]
        omega
  · rw [aMk_f e]
    refine ⟨h, u, u1, u3, ?_⟩
    have : ¬ u ≤ (aL S 0).length + (aL S 1).length := fun q => e ((aFull_iff u1 u3 u4).mpr q)
    omega
