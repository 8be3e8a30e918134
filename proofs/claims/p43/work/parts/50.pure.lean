/-! THE PURE LEVEL, its ground: an abstract state, what of it the class's cache holds (RepC) and what the model's row of 1384 ints holds (RepM) -/
def Ok {α : Type} (x : Option α) (Q : α → Prop) : Prop := ∃ r, x = some r ∧ Q r
theorem ok_some {α : Type} {a : α} {Q : α → Prop} (h : Q a) : Ok (some a) Q := ⟨a, rfl, h⟩
theorem ok_eq {α : Type} {x : Option α} {a : α} {Q : α → Prop} (e : x = some a) (h : Q a) : Ok x Q := ⟨a, e, h⟩
theorem ok_bind {α β : Type} {x : Option α} {k : α → Option β} {P : α → Prop} {Q : β → Prop} (h : Ok x P) (hk : ∀ a, P a → Ok (k a) Q) : Ok (x.bind k) Q := by
  obtain ⟨a, rfl, ha⟩ := h
  exact hk a ha
theorem ok_bindE {α β : Type} {x : Option α} {k : α → Option β} {a : α} {Q : β → Prop} (e : x = some a) (hk : Ok (k a) Q) : Ok (x.bind k) Q := by
  subst e
  exact hk
theorem ok_mono {α : Type} {x : Option α} {P Q : α → Prop} (h : Ok x P) (hk : ∀ a, P a → Q a) : Ok x Q := by
  obtain ⟨a, e, ha⟩ := h
  exact ⟨a, e, hk a ha⟩
theorem ok_let {α β : Type} {x : α} {k : α → Option β} {Q : β → Prop} (h : Ok (k x) Q) : Ok (cx_let x k) Q := h
theorem pu_gd {β : Type} {i : Int32} {n : Nat} {x : Option β} (j : Nat) (hi : i = nI j) (h : j < n) (hn : n < 2 ^ 31) : gd i n x = x := by
  subst hi
  unfold gd
  rw [if_pos]
  unfold inb
  rw [nI_toInt (by omega)]
  omega
theorem ok_gd {β : Type} {i : Int32} {n : Nat} {x : Option β} {Q : β → Prop} (j : Nat) (hi : i = nI j) (h : j < n) (hn : n < 2 ^ 31) (k : Ok x Q) : Ok (gd i n x) Q := by rwa [pu_gd j hi h hn]
theorem ok_t {β : Type} {c : Prop} [Decidable c] {x y : Option β} {Q : β → Prop} (hc : c) (h : Ok x Q) : Ok (if c then x else y) Q := by rwa [if_pos hc]
theorem ok_f {β : Type} {c : Prop} [Decidable c] {x y : Option β} {Q : β → Prop} (hc : ¬ c) (h : Ok y Q) : Ok (if c then x else y) Q := by rwa [if_neg hc]
theorem ok_if {β : Type} {c : Prop} [Decidable c] {x y : Option β} {Q : β → Prop} (h : c → Ok x Q) (h2 : ¬ c → Ok y Q) : Ok (if c then x else y) Q := by
  by_cases hc : c
  · rw [if_pos hc]; exact h hc
  · rw [if_neg hc]; exact h2 hc
theorem pu_m1 {n : Nat} (h : n < 2 ^ 31) : nI n ≠ -1 := by
  intro e
  have := congrArg Int32.toInt e
  rw [nI_toInt h] at this
  have h2 : (-1 : Int32).toInt = -1 := by decide
  omega
theorem pu_m1' {n : Nat} (h : n < 2 ^ 31) : (-1 : Int32) ≠ nI n := fun e => pu_m1 h e.symm
theorem pu_neg {n : Nat} : nI 0 - 1 = (-1 : Int32) := by decide
-- the abstract state: numbers, lists, clients, blocks
abbrev AS : Type := (Nat → Int32) × (Nat → List Nat) × (Nat → Nat → Int32) × (Nat → Nat → Int32)
def aN (S : AS) (k : Nat) : Int32 := S.1 k
def aL (S : AS) (l : Nat) : List Nat := S.2.1 l
def aC (S : AS) (c f : Nat) : Int32 := S.2.2.1 c f
def aB (S : AS) (f b : Nat) : Int32 := S.2.2.2 f b
def uN (S : AS) (k : Nat) (v : Int32) : AS := (upd S.1 k v, S.2)
def uL (S : AS) (l : Nat) (L : List Nat) : AS := (S.1, va_up S.2.1 l L, S.2.2)
def uC (S : AS) (c f : Nat) (v : Int32) : AS := (S.1, S.2.1, va_up S.2.2.1 c (upd (S.2.2.1 c) f v), S.2.2.2)
def uB (S : AS) (f b : Nat) (v : Int32) : AS := (S.1, S.2.1, S.2.2.1, va_up S.2.2.2 f (upd (S.2.2.2 f) b v))
theorem aN_uN (S : AS) (k j : Nat) (v : Int32) : aN (uN S k v) j = if j = k then v else aN S j := rfl
theorem aN_uL (S : AS) (l j : Nat) (L : List Nat) : aN (uL S l L) j = aN S j := rfl
theorem aN_uC (S : AS) (c f j : Nat) (v : Int32) : aN (uC S c f v) j = aN S j := rfl
theorem aN_uB (S : AS) (f b j : Nat) (v : Int32) : aN (uB S f b v) j = aN S j := rfl
theorem aL_uN (S : AS) (k j : Nat) (v : Int32) : aL (uN S k v) j = aL S j := rfl
theorem aL_uL (S : AS) (l j : Nat) (L : List Nat) : aL (uL S l L) j = if j = l then L else aL S j := rfl
theorem aL_uC (S : AS) (c f j : Nat) (v : Int32) : aL (uC S c f v) j = aL S j := rfl
theorem aL_uB (S : AS) (f b j : Nat) (v : Int32) : aL (uB S f b v) j = aL S j := rfl
theorem aC_uN (S : AS) (k c f : Nat) (v : Int32) : aC (uN S k v) c f = aC S c f := rfl
theorem aC_uL (S : AS) (l c f : Nat) (L : List Nat) : aC (uL S l L) c f = aC S c f := rfl
theorem va_up2 (F : Nat → Nat → Int32) (c f d g : Nat) (v : Int32) : va_up F c (upd (F c) f v) d g = if d = c ∧ g = f then v else F d g := by
  unfold va_up upd
  by_cases h : d = c
  · subst h
    by_cases h2 : g = f
    · rw [if_pos rfl, if_pos h2, if_pos ⟨rfl, h2⟩]
    · rw [if_pos rfl, if_neg h2, if_neg (fun q => h2 q.2)]
  · rw [if_neg h, if_neg (fun q => h q.1)]
theorem aC_uC (S : AS) (c f d g : Nat) (v : Int32) : aC (uC S c f v) d g = if d = c ∧ g = f then v else aC S d g := va_up2 _ c f d g v
theorem aC_uB (S : AS) (f b c g : Nat) (v : Int32) : aC (uB S f b v) c g = aC S c g := rfl
theorem aB_uN (S : AS) (k g x : Nat) (v : Int32) : aB (uN S k v) g x = aB S g x := rfl
theorem aB_uL (S : AS) (l g x : Nat) (L : List Nat) : aB (uL S l L) g x = aB S g x := rfl
theorem aB_uC (S : AS) (c f g x : Nat) (v : Int32) : aB (uC S c f v) g x = aB S g x := rfl
theorem aB_uB (S : AS) (f b g x : Nat) (v : Int32) : aB (uB S f b v) g x = if g = f ∧ x = b then v else aB S g x := va_up2 _ f b g x v
-- the class's side
def RowL (τ : ObjS) (L : List Nat) : Prop := L.length ≤ 24 ∧ τ.2 1 = nI L.length ∧ ∀ i, i < L.length → τ.1 0 i = nI (L.getD i 0)
def RepB (τ : ObjS) (S : AS) (E : Nat → Prop) : Prop := τ.2 6 = aN S 13 ∧ τ.2 7 = aN S 21 ∧
  ∀ b, b < 200 → (¬ E b → τ.1 4 b = aB S 0 b) ∧ τ.1 1 b = aB S 1 b ∧ τ.1 2 b = aB S 2 b ∧ τ.1 3 b = aB S 3 b ∧ τ.1 5 b = aB S 4 b ∧ τ.1 0 b = aB S 5 b
def RepO (τ : ObjS) (S : AS) : Prop := τ.2 9 = aN S 6 ∧ τ.2 10 = aN S 0 ∧ τ.2 11 = aN S 1 ∧ τ.2 12 = aN S 2 ∧ τ.2 13 = aN S 3 ∧ τ.2 14 = aN S 4
def RepT (τ : ObjS) (S : AS) : Prop := τ.2 0 = aN S 5 ∧ τ.2 1 = aN S 14 ∧ τ.2 2 = aN S 15 ∧ τ.2 3 = aN S 16 ∧ τ.2 4 = aN S 17 ∧ τ.2 5 = aN S 18 ∧ τ.2 6 = aN S 19 ∧ τ.2 7 = aN S 20 ∧ τ.2 8 = aN S 22
def RepK (σ : CacS) (S : AS) : Prop := ∀ c, c < 4 → nI c < aN S 6 → ∀ f, f < 8 → (σ (8 + c)).2 f = aC S c f
def RepC (σ : CacS) (S : AS) (E : Nat → Prop) : Prop := RepO (σ 0) S ∧ RepB (σ 1) S E ∧ RepT (σ 2) S ∧ (∀ l, l < 5 → RowL (σ (3 + l)) (aL S l)) ∧ RepK σ S
-- the model's side
theorem upd_ne {f : Nat → Int32} {k j : Nat} {x : Int32} (h : j ≠ k) : upd f k x j = f j := by unfold upd; rw [if_neg h]
theorem upd_eq {f : Nat → Int32} {k j : Nat} {x : Int32} (h : j = k) : upd f k x j = x := by unfold upd; rw [if_pos h]
