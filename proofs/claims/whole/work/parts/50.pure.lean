/-! THE PURE LEVEL, its ground: an abstract state, what of it the class's cache holds (RepC) and what the model's row of 1384 ints holds (RepM) -/
def Ok {α : Type} (x : Option α) (Q : α → Prop) : Prop := ∃ r, x = some r ∧ Q r
theorem ok_some {α : Type} {a : α} {Q : α → Prop} (h : Q a) : Ok (some a) Q := ⟨a, rfl, h⟩
theorem ok_eq {α : Type} {x : Option α} {a : α} {Q : α → Prop} (e : x = some a) (h : Q a) : Ok x Q := ⟨a, e, h⟩
theorem ok_bind {α β : Type} {x : Option α} {k : α → Option β} {P : α → Prop} {Q : β → Prop} (h : Ok x P) (hk : ∀ a, P a → Ok (k a) Q) : Ok (x.bind k) Q := by
  obtain ⟨a, rfl, ha⟩ := h
  exact hk a ha
theorem ok_bindE {α β : Type} {x : Option α} {k : α → Option β} {a : α} {Q : β → Prop} (e : x = some a) (hk : Ok (k a) Q) : Ok (x.bind k) Q := by
  subst e
  exact hk
theorem ok_mono {α : Type} {x : Option α} {P Q : α → Prop} (h : Ok x P) (hk : ∀ a, P a → Q a) : Ok x Q := by
  obtain ⟨a, e, ha⟩ := h
  exact ⟨a, e, hk a ha⟩
theorem ok_let {α β : Type} {x : α} {k : α → Option β} {Q : β → Prop} (h : Ok (k x) Q) : Ok (cx_let x k) Q := h
theorem pu_gd {β : Type} {i : Int32} {n : Nat} {x : Option β} (j : Nat) (hi : i = nI j) (h : j < n) (hn : n < 2 ^ 31) : gd i n x = x := by
  subst hi
  unfold gd
  rw [if_pos]
  unfold inb
  rw [nI_toInt (by omega)]
  omega
theorem ok_gd {β : Type} {i : Int32} {n : Nat} {x : Option β} {Q : β → Prop} (j : Nat) (hi : i = nI j) (h : j < n) (hn : n < 2 ^ 31) (k : Ok x Q) : Ok (gd i n x) Q := by rwa [pu_gd j hi h hn]
theorem ok_t {β : Type} {c : Prop} [Decidable c] {x y : Option β} {Q : β → Prop} (hc : c) (h : Ok x Q) : Ok (if c then x else y) Q := by rwa [if_pos hc]
theorem ok_f {β : Type} {c : Prop} [Decidable c] {x y : Option β} {Q : β → Prop} (hc : ¬ c) (h : Ok y Q) : Ok (if c then x else y) Q := by rwa [if_neg hc]
theorem ok_if {β : Type} {c : Prop} [Decidable c] {x y : Option β} {Q : β → Prop} (h : c → Ok x Q) (h2 : ¬ c → Ok y Q) : Ok (if c then x else y) Q := by
  by_cases hc : c
  · rw [if_pos hc]; exact h hc
  · rw [if_neg hc]; exact h2 hc
theorem pu_m1 {n : Nat} (h : n < 2 ^ 31) : nI n ≠ -1 := by
  intro e
  have := congrArg Int32.toInt e
  rw [nI_toInt h] at this
  have h2 : (-1 : Int32).toInt = -1 := by decide
  omega
theorem pu_m1' {n : Nat} (h : n < 2 ^ 31) : (-1 : Int32) ≠ nI n := fun e => pu_m1 h e.symm
theorem pu_neg {n : Nat} : nI 0 - 1 = (-1 : Int32) := by decide
-- the abstract state: numbers, lists, clients, blocks
abbrev AS : Type := (Nat → Int32) × (Nat → List Nat) × (Nat → Nat → Int32) × (Nat → Nat → Int32)
def aN (S : AS) (k : Nat) : Int32 := S.1 k
def aL (S : AS) (l : Nat) : List Nat := S.2.1 l
def aC (S : AS) (c f : Nat) : Int32 := S.2.2.1 c f
def aB (S : AS) (f b : Nat) : Int32 := S.2.2.2 f b
def uN (S : AS) (k : Nat) (v : Int32) : AS := (upd S.1 k v, S.2)
def uL (S : AS) (l : Nat) (L : List Nat) : AS := (S.1, va_up S.2.1 l L, S.2.2)
def uC (S : AS) (c f : Nat) (v : Int32) : AS := (S.1, S.2.1, va_up S.2.2.1 c (upd (S.2.2.1 c) f v), S.2.2.2)
def uB (S : AS) (f b : Nat) (v : Int32) : AS := (S.1, S.2.1, S.2.2.1, va_up S.2.2.2 f (upd (S.2.2.2 f) b v))
theorem aN_uN (S : AS) (k j : Nat) (v : Int32) : aN (uN S k v) j = if j = k then v else aN S j := rfl
theorem aN_uL (S : AS) (l j : Nat) (L : List Nat) : aN (uL S l L) j = aN S j := rfl
theorem aN_uC (S : AS) (c f j : Nat) (v : Int32) : aN (uC S c f v) j = aN S j := rfl
theorem aN_uB (S : AS) (f b j : Nat) (v : Int32) : aN (uB S f b v) j = aN S j := rfl
theorem aL_uN (S : AS) (k j : Nat) (v : Int32) : aL (uN S k v) j = aL S j := rfl
theorem aL_uL (S : AS) (l j : Nat) (L : List Nat) : aL (uL S l L) j = if j = l then L else aL S j := rfl
theorem aL_uC (S : AS) (c f j : Nat) (v : Int32) : aL (uC S c f v) j = aL S j := rfl
theorem aL_uB (S : AS) (f b j : Nat) (v : Int32) : aL (uB S f b v) j = aL S j := rfl
theorem aC_uN (S : AS) (k c f : Nat) (v : Int32) : aC (uN S k v) c f = aC S c f := rfl
theorem aC_uL (S : AS) (l c f : Nat) (L : List Nat) : aC (uL S l L) c f = aC S c f := rfl
theorem va_up2 (F : Nat → Nat → Int32) (c f d g : Nat) (v : Int32) : va_up F c (upd (F c) f v) d g = if d = c ∧ g = f then v else F d g := by
  unfold va_up upd
  by_cases h : d = c
  · subst h
    by_cases h2 : g = f
    · rw [if_pos rfl, if_pos h2, if_pos ⟨rfl, h2⟩]
    · rw [if_pos rfl, if_neg h2, if_neg (fun q => h2 q.2)]
  · rw [if_neg h, if_neg (fun q => h q.1)]
theorem aC_uC (S : AS) (c f d g : Nat) (v : Int32) : aC (uC S c f v) d g = if d = c ∧ g = f then v else aC S d g := va_up2 _ c f d g v
theorem aC_uB (S : AS) (f b c g : Nat) (v : Int32) : aC (uB S f b v) c g = aC S c g := rfl
theorem aB_uN (S : AS) (k g x : Nat) (v : Int32) : aB (uN S k v) g x = aB S g x := rfl
theorem aB_uL (S : AS) (l g x : Nat) (L : List Nat) : aB (uL S l L) g x = aB S g x := rfl
theorem aB_uC (S : AS) (c f g x : Nat) (v : Int32) : aB (uC S c f v) g x = aB S g x := rfl
theorem aB_uB (S : AS) (f b g x : Nat) (v : Int32) : aB (uB S f b v) g x = if g = f ∧ x = b then v else aB S g x := va_up2 _ f b g x v
-- the class's side
def RowL (τ : ObjS) (L : List Nat) : Prop := L.length ≤ 24 ∧ τ.2 1 = nI L.length ∧ ∀ i, i < L.length → τ.1 0 i = nI (L.getD i 0)
def RepB (τ : ObjS) (S : AS) (E : Nat → Prop) : Prop := τ.2 6 = aN S 13 ∧ τ.2 7 = aN S 21 ∧
  ∀ b, b < 200 → (¬ E b → τ.1 4 b = aB S 0 b) ∧ τ.1 1 b = aB S 1 b ∧ τ.1 2 b = aB S 2 b ∧ τ.1 3 b = aB S 3 b ∧ τ.1 5 b = aB S 4 b ∧ τ.1 0 b = aB S 5 b
def RepO (τ : ObjS) (S : AS) : Prop := τ.2 9 = aN S 6 ∧ τ.2 10 = aN S 0 ∧ τ.2 11 = aN S 1 ∧ τ.2 12 = aN S 2 ∧ τ.2 13 = aN S 3 ∧ τ.2 14 = aN S 4
def RepT (τ : ObjS) (S : AS) : Prop := τ.2 0 = aN S 5 ∧ τ.2 1 = aN S 14 ∧ τ.2 2 = aN S 15 ∧ τ.2 3 = aN S 16 ∧ τ.2 4 = aN S 17 ∧ τ.2 5 = aN S 18 ∧ τ.2 6 = aN S 19 ∧ τ.2 7 = aN S 20 ∧ τ.2 8 = aN S 22
def RepK (σ : CacS) (S : AS) : Prop := ∀ c, c < 4 → nI c < aN S 6 → ∀ f, f < 8 → (σ (8 + c)).2 f = aC S c f
def RepC (σ : CacS) (S : AS) (E : Nat → Prop) : Prop := RepO (σ 0) S ∧ RepB (σ 1) S E ∧ RepT (σ 2) S ∧ (∀ l, l < 5 → RowL (σ (3 + l)) (aL S l)) ∧ RepK σ S
-- the model's side
def RepM (a : Nat → Int32) (S : AS) (U : Nat → Nat → Prop) : Prop :=
  (∀ k, (k < 7 ∨ 13 ≤ k ∧ k < 23) → a k = aN S k) ∧
  (∀ l, l < 5 → (aL S l).length ≤ 24 ∧ a (7 + l) = nI (aL S l).length ∧ ∀ i, i < (aL S l).length → a (24 + 24 * l + i) = nI ((aL S l).getD i 0)) ∧
  (∀ c, c < 4 → nI c < aN S 6 → ∀ f, f < 8 → a (144 + 10 * c + f) = aC S c f) ∧
  (∀ b, b < 200 → a (1184 + b) = aB S 5 b ∧ ∀ f, f < 5 → (f = 0 ∨ f = 4 ∨ U f b) → a (184 + 5 * b + f) = aB S f b)
theorem RepM.weak {a : Nat → Int32} {S : AS} {U V : Nat → Nat → Prop} (h : RepM a S U) (hv : ∀ f b, b < 200 → V f b → U f b) : RepM a S V := by
  obtain ⟨h1, h2, h3, h4⟩ := h
  exact ⟨h1, h2, h3, fun b hb => ⟨(h4 b hb).1, fun f hf q => (h4 b hb).2 f hf (q.imp id (fun q => q.imp id (hv f b hb)))⟩⟩
theorem upd_ne {f : Nat → Int32} {k j : Nat} {x : Int32} (h : j ≠ k) : upd f k x j = f j := by unfold upd; rw [if_neg h]
theorem upd_eq {f : Nat → Int32} {k j : Nat} {x : Int32} (h : j = k) : upd f k x j = x := by unfold upd; rw [if_pos h]
theorem RepM.setN {a : Nat → Int32} {S : AS} {U : Nat → Nat → Prop} (h : RepM a S U) {k : Nat} (hk : k < 6 ∨ 13 ≤ k ∧ k < 23) (v : Int32) : RepM (upd a k v) (uN S k v) U := by
  obtain ⟨h1, h2, h3, h4⟩ := h
  refine ⟨fun j hj => ?_, fun l hl => ⟨(h2 l hl).1, ?_, fun i hi => ?_⟩, fun c hc hn f hf => ?_, fun b hb => ⟨?_, fun f hf q => ?_⟩⟩
  · by_cases e : j = k
    · rw [upd_eq e, aN_uN, if_pos e]
    · rw [upd_ne e, aN_uN, if_neg e]; exact h1 j hj
  · rw [upd_ne (by omega)]; exact (h2 l hl).2.1
  · have := (h2 l hl).1
    rw [upd_ne (by omega)]; exact (h2 l hl).2.2 i hi
  · rw [upd_ne (by omega)]
    refine h3 c hc ?_ f hf
    rwa [aN_uN, if_neg (by omega)] at hn
  · rw [upd_ne (by omega)]; exact (h4 b hb).1
  · rw [upd_ne (by omega)]; exact (h4 b hb).2 f hf q
theorem RepM.setB {a : Nat → Int32} {S : AS} {U : Nat → Nat → Prop} (h : RepM a S U) {b f : Nat} (hb : b < 200) (hf : f < 5) (v : Int32) : RepM (upd a (184 + 5 * b + f) v) (uB S f b v) (fun g x => U g x ∨ g = f ∧ x = b) := by
  obtain ⟨h1, h2, h3, h4⟩ := h
  refine ⟨fun j hj => ?_, fun l hl => ⟨(h2 l hl).1, ?_, fun i hi => ?_⟩, fun c hc hn g hg => ?_, fun x hx => ⟨?_, fun g hg q => ?_⟩⟩
  · rw [upd_ne (by omega)]; exact h1 j hj
  · rw [upd_ne (by omega)]; exact (h2 l hl).2.1
  · have h9 := (h2 l hl).1
    have hi' : i < (aL S l).length := hi
    rw [upd_ne (by omega)]; exact (h2 l hl).2.2 i hi
  · rw [upd_ne (by omega)]; exact h3 c hc hn g hg
  · rw [upd_ne (by omega), aB_uB, if_neg (by omega)]; exact (h4 x hx).1
  · rw [aB_uB]
    by_cases e : g = f ∧ x = b
    · rw [if_pos e, upd_eq (by rw [e.1, e.2])]
    · rw [if_neg e, upd_ne (by omega)]
      exact (h4 x hx).2 g hg (q.imp id (fun q => q.imp id (fun q => q.resolve_right e)))
theorem RepM.setS {a : Nat → Int32} {S : AS} {U : Nat → Nat → Prop} (h : RepM a S U) {b : Nat} (hb : b < 200) (v : Int32) : RepM (upd a (1184 + b) v) (uB S 5 b v) U := by
  obtain ⟨h1, h2, h3, h4⟩ := h
  refine ⟨fun j hj => ?_, fun l hl => ⟨(h2 l hl).1, ?_, fun i hi => ?_⟩, fun c hc hn g hg => ?_, fun x hx => ⟨?_, fun g hg q => ?_⟩⟩
  · rw [upd_ne (by omega)]; exact h1 j hj
  · rw [upd_ne (by omega)]; exact (h2 l hl).2.1
  · have h9 := (h2 l hl).1
    have hi' : i < (aL S l).length := hi
    rw [upd_ne (by omega)]; exact (h2 l hl).2.2 i hi
  · rw [upd_ne (by omega)]; exact h3 c hc hn g hg
  · rw [aB_uB]
    by_cases e : x = b
    · rw [if_pos ⟨rfl, e⟩, upd_eq (by rw [e])]
    · rw [if_neg (fun q => e q.2), upd_ne (by omega)]; exact (h4 x hx).1
  · rw [upd_ne (by omega), aB_uB, if_neg (by omega)]; exact (h4 x hx).2 g hg q
theorem RepM.setC {a : Nat → Int32} {S : AS} {U : Nat → Nat → Prop} (h : RepM a S U) {c f : Nat} (hc : c < 4) (hf : f < 8) (v : Int32) : RepM (upd a (144 + 10 * c + f) v) (uC S c f v) U := by
  obtain ⟨h1, h2, h3, h4⟩ := h
  refine ⟨fun j hj => ?_, fun l hl => ⟨(h2 l hl).1, ?_, fun i hi => ?_⟩, fun d hd hn g hg => ?_, fun x hx => ⟨?_, fun g hg q => ?_⟩⟩
  · rw [upd_ne (by omega)]; exact h1 j hj
  · rw [upd_ne (by omega)]; exact (h2 l hl).2.1
  · have h9 := (h2 l hl).1
    have hi' : i < (aL S l).length := hi
    rw [upd_ne (by omega)]; exact (h2 l hl).2.2 i hi
  · rw [aC_uC]
    by_cases e : d = c ∧ g = f
    · rw [if_pos e, upd_eq (by rw [e.1, e.2])]
    · rw [if_neg e, upd_ne (by omega)]; exact h3 d hd hn g hg
  · rw [upd_ne (by omega)]; exact (h4 x hx).1
  · rw [upd_ne (by omega)]; exact (h4 x hx).2 g hg q
theorem RepM.drop {a : Nat → Int32} {S : AS} {U : Nat → Nat → Prop} (h : RepM a S U) {b f : Nat} (hf : 1 ≤ f ∧ f < 4) (v : Int32) : RepM a (uB S f b v) (fun g x => U g x ∧ ¬ (g = f ∧ x = b)) := by
  obtain ⟨h1, h2, h3, h4⟩ := h
  refine ⟨h1, h2, h3, fun x hx => ⟨?_, fun g hg q => ?_⟩⟩
  · rw [aB_uB, if_neg (by omega)]; exact (h4 x hx).1
  · have e : ¬ (g = f ∧ x = b) := fun e => by
      rcases q with q | q | q
      · omega
      · omega
      · exact q.2 e
    rw [aB_uB, if_neg e]
    exact (h4 x hx).2 g hg (q.imp id (fun q => q.imp id (fun q => q.1)))
theorem RepM.setL {a a' : Nat → Int32} {S : AS} {U : Nat → Nat → Prop} (h : RepM a S U) {l : Nat} (hl : l < 5) {L : List Nat} (hL : L.length ≤ 24) (e1 : a' (7 + l) = nI L.length) (e2 : ∀ i, i < L.length → a' (24 + 24 * l + i) = nI (L.getD i 0))
    (hq : ∀ j, j ≠ 7 + l → ¬ (24 + 24 * l ≤ j ∧ j < 24 + 24 * l + 24) → a' j = a j) : RepM a' (uL S l L) U := by
  obtain ⟨h1, h2, h3, h4⟩ := h
  refine ⟨fun j hj => ?_, fun k hk => ?_, fun d hd hn g hg => ?_, fun x hx => ⟨?_, fun g hg q => ?_⟩⟩
  · rw [hq j (by omega) (by omega)]; exact h1 j hj
  · rw [aL_uL]
    by_cases e : k = l
    · subst e
      rw [if_pos rfl]
      exact ⟨hL, e1, e2⟩
    · rw [if_neg e]
      refine ⟨(h2 k hk).1, ?_, fun i hi => ?_⟩
      · rw [hq _ (by omega) (by omega)]; exact (h2 k hk).2.1
      · have h9 := (h2 k hk).1
        rw [hq _ (by omega) (by omega)]; exact (h2 k hk).2.2 i hi
  · rw [hq _ (by omega) (by omega)]; exact h3 d hd hn g hg
  · rw [hq _ (by omega) (by omega)]; exact (h4 x hx).1
  · rw [hq _ (by omega) (by omega)]; exact (h4 x hx).2 g hg q
-- the model's state with its row, and what it last demoted and lost
def mM (μ : MdlS) (a : Nat → Int32) (d e : Int32) : MdlS := ((va_up μ.1.1 0 a, va_up (va_up μ.1.2 19 d) 20 e), μ.2)
theorem mM_a (μ : MdlS) (a : Nat → Int32) (d e : Int32) : (mM μ a d e).1.1 0 = a := rfl
theorem mM_set (μ : MdlS) (a : Nat → Int32) (d e : Int32) (k : Nat) (v : Int32) : ((oA (mM μ a d e).1 0 k v, (mM μ a d e).2) : MdlS) = mM μ (upd a k v) d e := by
  refine Prod.ext (Prod.ext (funext fun j => ?_) rfl) rfl
  show va_up (va_up μ.1.1 0 a) 0 (upd a k v) j = va_up μ.1.1 0 (upd a k v) j
  unfold va_up
  by_cases h : j = 0
  · rw [if_pos h, if_pos h]
  · rw [if_neg h, if_neg h, if_neg h]
theorem mM_19 (μ : MdlS) (a : Nat → Int32) (d e v : Int32) : ((oI (mM μ a d e).1 19 v, (mM μ a d e).2) : MdlS) = mM μ a v e := by
  refine Prod.ext (Prod.ext rfl (funext fun j => ?_)) rfl
  show va_up (va_up (va_up μ.1.2 19 d) 20 e) 19 v j = va_up (va_up μ.1.2 19 v) 20 e j
  unfold va_up
  by_cases h : j = 19
  · rw [if_pos h, if_neg (by omega), if_pos h]
  · rw [if_neg h, if_neg h, if_neg h]
theorem mM_20 (μ : MdlS) (a : Nat → Int32) (d e v : Int32) : ((oI (mM μ a d e).1 20 v, (mM μ a d e).2) : MdlS) = mM μ a d v := by
  refine Prod.ext (Prod.ext rfl (funext fun j => ?_)) rfl
  show va_up (va_up (va_up μ.1.2 19 d) 20 e) 20 v j = va_up (va_up μ.1.2 19 d) 20 v j
  unfold va_up
  by_cases h : j = 20
  · rw [if_pos h, if_pos h]
  · rw [if_neg h, if_neg h, if_neg h]
theorem mM_eta (μ : MdlS) : mM μ (μ.1.1 0) (μ.1.2 19) (μ.1.2 20) = μ := by
  refine Prod.ext (Prod.ext (funext fun j => ?_) (funext fun j => ?_)) rfl
  · show va_up μ.1.1 0 (μ.1.1 0) j = μ.1.1 j
    rw [va_up_id]
  · show va_up (va_up μ.1.2 19 (μ.1.2 19)) 20 (μ.1.2 20) j = μ.1.2 j
    rw [va_up_id, va_up_id]
theorem mM_mM (μ : MdlS) (a a' : Nat → Int32) (d e d' e' : Int32) : mM (mM μ a d e) a' d' e' = mM μ a' d' e' := by
  refine Prod.ext (Prod.ext (funext fun j => ?_) (funext fun j => ?_)) rfl
  · show va_up (va_up μ.1.1 0 a) 0 a' j = va_up μ.1.1 0 a' j
    unfold va_up
    by_cases h : j = 0
    · rw [if_pos h, if_pos h]
    · rw [if_neg h, if_neg h, if_neg h]
  · show va_up (va_up (va_up (va_up μ.1.2 19 d) 20 e) 19 d') 20 e' j = va_up (va_up μ.1.2 19 d') 20 e' j
    unfold va_up
    by_cases h : j = 20
    · rw [if_pos h, if_pos h]
    · by_cases h1 : j = 19
      · rw [if_neg h, if_pos h1, if_neg h, if_pos h1]
      · rw [if_neg h, if_neg h1, if_neg h, if_neg h1, if_neg h, if_neg h1]
