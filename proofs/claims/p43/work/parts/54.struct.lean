/-! abstract steps of an access, and the class's methods for them -/
def LOk (S : AS) : Prop := ∀ l, l < 5 → (aL S l).Nodup ∧ ∀ x ∈ aL S l, x < 200
def lowOk (S : AS) : Prop := ∃ w, aN S 3 = nI w ∧ 2 ≤ w ∧ w ≤ 24 ∧ (aL S 2).length ≤ w
def upOk (S : AS) : Prop := ∃ u, aN S 2 = nI u ∧ 2 ≤ u ∧ u ≤ 16 ∧ (aL S 0).length + (aL S 1).length ≤ u ∧ (aL S 3).length ≤ u ∧ (aL S 4).length ≤ u ∧ ∃ t, aN S 4 = nI t ∧ t ≤ u
def aLv (S : AS) : Nat → Nat
  | 0 => (aL S 2).getD ((aL S 2).length - 1) 0
  | n + 1 => if aB S 3 ((aL S 2).getD n 0) = -1 then (aL S 2).getD n 0 else aLv S n
def aLow (S : AS) : Prop := aN S 3 = nI (aL S 2).length
theorem aLv_mem {S : AS} (h : 0 < (aL S 2).length) : ∀ n, n ≤ (aL S 2).length → aLv S n ∈ aL S 2 := by
  intro n
  induction n with
  | zero => exact fun _ => pu_getD_mem (by omega)
  | succ n ih =>
    intro hn
    rw [aLv]
    split
    · exact pu_getD_mem (by omega)
    · exact ih (by omega)
def aX (S : AS) : Nat := aLv S (aL S 2).length
def aDrop (S : AS) (x : Nat) : AS := uN (uB (uB (uB (uB (uL S 2 (pu_rm (aL S 2) x)) 1 x (-1)) 2 x (-1)) 3 x (-1)) 0 x (-1)) 20 (aN S 20 + 1)
def aCl (S : AS) (x : Nat) : AS := if aB S 3 x = -1 then S else aWU S x
def aMR (S : AS) : AS := @ite _ (aLow S) (inferInstanceAs (Decidable (_ = _))) (aDrop (aCl S (aX S)) (aX S)) S
def aLf (S : AS) (d : Int32) : Int32 := @ite _ (aLow S) (inferInstanceAs (Decidable (_ = _))) (nI (aX S)) d
theorem aMR_t {S : AS} (h : aLow S) : aMR S = aDrop (aCl S (aX S)) (aX S) := if_pos h
theorem aMR_f {S : AS} (h : ¬ aLow S) : aMR S = S := if_neg h
theorem aLf_t {S : AS} {d : Int32} (h : aLow S) : aLf S d = nI (aX S) := if_pos h
theorem aLf_f {S : AS} {d : Int32} (h : ¬ aLow S) : aLf S d = d := if_neg h
-- the class's parts put back
def sB (S T : AS) : Prop := (∀ k, k ≠ 13 → k ≠ 21 → aN T k = aN S k) ∧ (∀ l, aL T l = aL S l) ∧ (∀ c f, aC T c f = aC S c f)
theorem sB_rf (S : AS) : sB S S := ⟨fun _ _ _ => rfl, fun _ => rfl, fun _ _ => rfl⟩
theorem sB_uB (S : AS) (f b : Nat) (v : Int32) : sB S (uB S f b v) := ⟨fun _ _ _ => rfl, fun _ => rfl, fun _ _ => rfl⟩
theorem sB.tr {S T R : AS} (h : sB S T) (k : sB T R) : sB S R := ⟨fun j a b => (k.1 j a b).trans (h.1 j a b), fun l => (k.2.1 l).trans (h.2.1 l), fun c f => (k.2.2 c f).trans (h.2.2 c f)⟩
theorem sB_wu (S : AS) (b : Nat) : sB S (aWU S b) := ⟨fun k h1 h2 => by
  show aN (uN (uN (uB (uB S 5 b (aB S 1 b)) 3 b (-1)) 13 _) 21 _) k = _
  rw [aN_uN, if_neg h2, aN_uN, if_neg h1]
  rfl, fun _ => rfl, fun _ _ => rfl⟩
theorem RepC.b {σ : CacS} {S T : AS} {E F : Nat → Prop} {τ : ObjS} (h : RepC σ S E) (hb : RepB τ T F) (hs : sB S T) : RepC (va_up σ 1 τ) T F := by
  obtain ⟨⟨o1, o2, o3, o4, o5, o6⟩, -, ⟨t1, t2, t3, t4, t5, t6, t7, t8, t9⟩, hr, hk⟩ := h
  obtain ⟨s1, s2, s3⟩ := hs
  refine ⟨⟨?_, ?_, ?_, ?_, ?_, ?_⟩, hb, ⟨?_, ?_, ?_, ?_, ?_, ?_, ?_, ?_, ?_⟩, fun l hl => ?_, fun c hc hn f hf => ?_⟩
  · rw [s1 6 (by decide) (by decide)]; exact o1
  · rw [s1 0 (by decide) (by decide)]; exact o2
  · rw [s1 1 (by decide) (by decide)]; exact o3
  · rw [s1 2 (by decide) (by decide)]; exact o4
  · rw [s1 3 (by decide) (by decide)]; exact o5
  · rw [s1 4 (by decide) (by decide)]; exact o6
  · rw [s1 5 (by decide) (by decide)]; exact t1
  · rw [s1 14 (by decide) (by decide)]; exact t2
  · rw [s1 15 (by decide) (by decide)]; exact t3
  · rw [s1 16 (by decide) (by decide)]; exact t4
  · rw [s1 17 (by decide) (by decide)]; exact t5
  · rw [s1 18 (by decide) (by decide)]; exact t6
  · rw [s1 19 (by decide) (by decide)]; exact t7
  · rw [s1 20 (by decide) (by decide)]; exact t8
  · rw [s1 22 (by decide) (by decide)]; exact t9
  · rw [s2 l, va_up_ne _ _ (show 3 + l ≠ 1 by omega)]; exact hr l hl
  · rw [s3 c f, va_up_ne _ _ (show 8 + c ≠ 1 by omega)]
    rw [s1 6 (by decide) (by decide)] at hn
    exact hk c hc hn f hf
theorem RepC.row {σ : CacS} {S : AS} {E : Nat → Prop} {τ : ObjS} {l : Nat} {L : List Nat} (h : RepC σ S E) (hl : l < 5) (hr : RowL τ L) : RepC (va_up σ (3 + l) τ) (uL S l L) E := by
  obtain ⟨ho, hb, ht, hrr, hk⟩ := h
  refine ⟨?_, ?_, ?_, fun k hk2 => ?_, fun c hc hn f hf => ?_⟩
  · rw [va_up_ne _ _ (show 0 ≠ 3 + l by omega)]; exact ho
  · rw [va_up_ne _ _ (show 1 ≠ 3 + l by omega)]; exact hb
  · rw [va_up_ne _ _ (show 2 ≠ 3 + l by omega)]; exact ht
  · rw [aL_uL]
    by_cases e : k = l
    · subst e
      rw [if_pos rfl, va_up_self]; exact hr
    · rw [if_neg e, va_up_ne _ _ (show 3 + k ≠ 3 + l by omega)]; exact hrr k hk2
  · rw [va_up_ne _ _ (show 8 + c ≠ 3 + l by omega)]; exact hk c hc hn f hf
theorem RepC.cli {σ : CacS} {S : AS} {E : Nat → Prop} (h : RepC σ S E) {c f : Nat} (v : Int32) : RepC (va_up σ (8 + c) (oI (σ (8 + c)) f v)) (uC S c f v) E := by
  obtain ⟨ho, hb, ht, hrr, hk⟩ := h
  refine ⟨?_, ?_, ?_, fun k hk2 => ?_, fun x hx hn g hg => ?_⟩
  · rw [va_up_ne _ _ (show 0 ≠ 8 + c by omega)]; exact ho
  · rw [va_up_ne _ _ (show 1 ≠ 8 + c by omega)]; exact hb
  · rw [va_up_ne _ _ (show 2 ≠ 8 + c by omega)]; exact ht
  · rw [va_up_ne _ _ (show 3 + k ≠ 8 + c by omega)]; exact hrr k hk2
  · rw [aC_uC]
    by_cases e : x = c
    · subst e
      rw [va_up_self]
      show (va_up (σ (8 + x)).2 f v) g = _
      by_cases e2 : g = f
      · rw [if_pos ⟨rfl, e2⟩, e2, va_up_self]
      · rw [if_neg (fun q => e2 q.2), va_up_ne _ _ e2]; exact hk x hx hn g hg
    · rw [if_neg (fun q => e q.1), va_up_ne _ _ (show 8 + x ≠ 8 + c by omega)]; exact hk x hx hn g hg
theorem RepC.t0 {σ : CacS} {S : AS} {E : Nat → Prop} (h : RepC σ S E) (v : Int32) : RepC (va_up σ 2 (oI (σ 2) 0 v)) (uN S 5 v) E := by
  obtain ⟨ho, hb, ⟨t1, t2, t3, t4, t5, t6, t7, t8, t9⟩, hr, hk⟩ := h
  exact ⟨ho, hb, ⟨rfl, t2, t3, t4, t5, t6, t7, t8, t9⟩, fun l hl => by rw [va_up_ne _ _ (show 3 + l ≠ 2 by omega)]; exact hr l hl, fun c hc hn f hf => by rw [va_up_ne _ _ (show 8 + c ≠ 2 by omega)]; exact hk c hc hn f hf⟩
theorem RepC.t1 {σ : CacS} {S : AS} {E : Nat → Prop} (h : RepC σ S E) (v : Int32) : RepC (va_up σ 2 (oI (σ 2) 1 v)) (uN S 14 v) E := by
  obtain ⟨ho, hb, ⟨t1, t2, t3, t4, t5, t6, t7, t8, t9⟩, hr, hk⟩ := h
  exact ⟨ho, hb, ⟨t1, rfl, t3, t4, t5, t6, t7, t8, t9⟩, fun l hl => by rw [va_up_ne _ _ (show 3 + l ≠ 2 by omega)]; exact hr l hl, fun c hc hn f hf => by rw [va_up_ne _ _ (show 8 + c ≠ 2 by omega)]; exact hk c hc hn f hf⟩
theorem RepC.t2 {σ : CacS} {S : AS} {E : Nat → Prop} (h : RepC σ S E) (v : Int32) : RepC (va_up σ 2 (oI (σ 2) 2 v)) (uN S 15 v) E := by
  obtain ⟨ho, hb, ⟨t1, t2, t3, t4, t5, t6, t7, t8, t9⟩, hr, hk⟩ := h
  exact ⟨ho, hb, ⟨t1, t2, rfl, t4, t5, t6, t7, t8, t9⟩, fun l hl => by rw [va_up_ne _ _ (show 3 + l ≠ 2 by omega)]; exact hr l hl, fun c hc hn f hf => by rw [va_up_ne _ _ (show 8 + c ≠ 2 by omega)]; exact hk c hc hn f hf⟩
theorem RepC.t3 {σ : CacS} {S : AS} {E : Nat → Prop} (h : RepC σ S E) (v : Int32) : RepC (va_up σ 2 (oI (σ 2) 3 v)) (uN S 16 v) E := by
  obtain ⟨ho, hb, ⟨t1, t2, t3, t4, t5, t6, t7, t8, t9⟩, hr, hk⟩ := h
  exact ⟨ho, hb, ⟨t1, t2, t3, rfl, t5, t6, t7, t8, t9⟩, fun l hl => by rw [va_up_ne _ _ (show 3 + l ≠ 2 by omega)]; exact hr l hl, fun c hc hn f hf => by rw [va_up_ne _ _ (show 8 + c ≠ 2 by omega)]; exact hk c hc hn f hf⟩
theorem RepC.t4 {σ : CacS} {S : AS} {E : Nat → Prop} (h : RepC σ S E) (v : Int32) : RepC (va_up σ 2 (oI (σ 2) 4 v)) (uN S 17 v) E := by
  obtain ⟨ho, hb, ⟨t1, t2, t3, t4, t5, t6, t7, t8, t9⟩, hr, hk⟩ := h
  exact ⟨ho, hb, ⟨t1, t2, t3, t4, rfl, t6, t7, t8, t9⟩, fun l hl => by rw [va_up_ne _ _ (show 3 + l ≠ 2 by omega)]; exact hr l hl, fun c hc hn f hf => by rw [va_up_ne _ _ (show 8 + c ≠ 2 by omega)]; exact hk c hc hn f hf⟩
theorem RepC.t5 {σ : CacS} {S : AS} {E : Nat → Prop} (h : RepC σ S E) (v : Int32) : RepC (va_up σ 2 (oI (σ 2) 5 v)) (uN S 18 v) E := by
  obtain ⟨ho, hb, ⟨t1, t2, t3, t4, t5, t6, t7, t8, t9⟩, hr, hk⟩ := h
  exact ⟨ho, hb, ⟨t1, t2, t3, t4, t5, rfl, t7, t8, t9⟩, fun l hl => by rw [va_up_ne _ _ (show 3 + l ≠ 2 by omega)]; exact hr l hl, fun c hc hn f hf => by rw [va_up_ne _ _ (show 8 + c ≠ 2 by omega)]; exact hk c hc hn f hf⟩
theorem RepC.t6 {σ : CacS} {S : AS} {E : Nat → Prop} (h : RepC σ S E) (v : Int32) : RepC (va_up σ 2 (oI (σ 2) 6 v)) (uN S 19 v) E := by
  obtain ⟨ho, hb, ⟨t1, t2, t3, t4, t5, t6, t7, t8, t9⟩, hr, hk⟩ := h
  exact ⟨ho, hb, ⟨t1, t2, t3, t4, t5, t6, rfl, t8, t9⟩, fun l hl => by rw [va_up_ne _ _ (show 3 + l ≠ 2 by omega)]; exact hr l hl, fun c hc hn f hf => by rw [va_up_ne _ _ (show 8 + c ≠ 2 by omega)]; exact hk c hc hn f hf⟩
theorem RepC.t7 {σ : CacS} {S : AS} {E : Nat → Prop} (h : RepC σ S E) (v : Int32) : RepC (va_up σ 2 (oI (σ 2) 7 v)) (uN S 20 v) E := by
  obtain ⟨ho, hb, ⟨t1, t2, t3, t4, t5, t6, t7, t8, t9⟩, hr, hk⟩ := h
  exact ⟨ho, hb, ⟨t1, t2, t3, t4, t5, t6, t7, rfl, t9⟩, fun l hl => by rw [va_up_ne _ _ (show 3 + l ≠ 2 by omega)]; exact hr l hl, fun c hc hn f hf => by rw [va_up_ne _ _ (show 8 + c ≠ 2 by omega)]; exact hk c hc hn f hf⟩
theorem RepC.t8 {σ : CacS} {S : AS} {E : Nat → Prop} (h : RepC σ S E) (v : Int32) : RepC (va_up σ 2 (oI (σ 2) 8 v)) (uN S 22 v) E := by
  obtain ⟨ho, hb, ⟨t1, t2, t3, t4, t5, t6, t7, t8, t9⟩, hr, hk⟩ := h
  exact ⟨ho, hb, ⟨t1, t2, t3, t4, t5, t6, t7, t8, rfl⟩, fun l hl => by rw [va_up_ne _ _ (show 3 + l ≠ 2 by omega)]; exact hr l hl, fun c hc hn f hf => by rw [va_up_ne _ _ (show 8 + c ≠ 2 by omega)]; exact hk c hc hn f hf⟩
theorem RepC.t9 {σ : CacS} {S : AS} {E : Nat → Prop} (h : RepC σ S E) (v : Int32) : RepC (va_up σ 2 (oI (σ 2) 9 v)) S E := by
  obtain ⟨ho, hb, ⟨t1, t2, t3, t4, t5, t6, t7, t8, t9⟩, hr, hk⟩ := h
  exact ⟨ho, hb, ⟨t1, t2, t3, t4, t5, t6, t7, t8, t9⟩, fun l hl => by rw [va_up_ne _ _ (show 3 + l ≠ 2 by omega)]; exact hr l hl, fun c hc hn f hf => by rw [va_up_ne _ _ (show 8 + c ≠ 2 by omega)]; exact hk c hc hn f hf⟩
theorem RepC.t10 {σ : CacS} {S : AS} {E : Nat → Prop} (h : RepC σ S E) (v : Int32) : RepC (va_up σ 2 (oI (σ 2) 10 v)) S E := by
  obtain ⟨ho, hb, ⟨t1, t2, t3, t4, t5, t6, t7, t8, t9⟩, hr, hk⟩ := h
  exact ⟨ho, hb, ⟨t1, t2, t3, t4, t5, t6, t7, t8, t9⟩, fun l hl => by rw [va_up_ne _ _ (show 3 + l ≠ 2 by omega)]; exact hr l hl, fun c hc hn f hf => by rw [va_up_ne _ _ (show 8 + c ≠ 2 by omega)]; exact hk c hc hn f hf⟩
theorem RepC.o10 {σ : CacS} {S : AS} {E : Nat → Prop} (h : RepC σ S E) (v : Int32) : RepC (va_up σ 0 (oI (σ 0) 10 v)) (uN S 0 v) E := by
  obtain ⟨⟨o1, o2, o3, o4, o5, o6⟩, hb, ht, hr, hk⟩ := h
  exact ⟨⟨o1, rfl, o3, o4, o5, o6⟩, hb, ht, fun l hl => by rw [va_up_ne _ _ (show 3 + l ≠ 0 by omega)]; exact hr l hl, fun c hc hn f hf => by rw [va_up_ne _ _ (show 8 + c ≠ 0 by omega)]; exact hk c hc hn f hf⟩
theorem RepC.o11 {σ : CacS} {S : AS} {E : Nat → Prop} (h : RepC σ S E) (v : Int32) : RepC (va_up σ 0 (oI (σ 0) 11 v)) (uN S 1 v) E := by
  obtain ⟨⟨o1, o2, o3, o4, o5, o6⟩, hb, ht, hr, hk⟩ := h
  exact ⟨⟨o1, o2, rfl, o4, o5, o6⟩, hb, ht, fun l hl => by rw [va_up_ne _ _ (show 3 + l ≠ 0 by omega)]; exact hr l hl, fun c hc hn f hf => by rw [va_up_ne _ _ (show 8 + c ≠ 0 by omega)]; exact hk c hc hn f hf⟩
theorem RepC.o12 {σ : CacS} {S : AS} {E : Nat → Prop} (h : RepC σ S E) (v : Int32) : RepC (va_up σ 0 (oI (σ 0) 12 v)) (uN S 2 v) E := by
  obtain ⟨⟨o1, o2, o3, o4, o5, o6⟩, hb, ht, hr, hk⟩ := h
  exact ⟨⟨o1, o2, o3, rfl, o5, o6⟩, hb, ht, fun l hl => by rw [va_up_ne _ _ (show 3 + l ≠ 0 by omega)]; exact hr l hl, fun c hc hn f hf => by rw [va_up_ne _ _ (show 8 + c ≠ 0 by omega)]; exact hk c hc hn f hf⟩
theorem RepC.o13 {σ : CacS} {S : AS} {E : Nat → Prop} (h : RepC σ S E) (v : Int32) : RepC (va_up σ 0 (oI (σ 0) 13 v)) (uN S 3 v) E := by
  obtain ⟨⟨o1, o2, o3, o4, o5, o6⟩, hb, ht, hr, hk⟩ := h
  exact ⟨⟨o1, o2, o3, o4, rfl, o6⟩, hb, ht, fun l hl => by rw [va_up_ne _ _ (show 3 + l ≠ 0 by omega)]; exact hr l hl, fun c hc hn f hf => by rw [va_up_ne _ _ (show 8 + c ≠ 0 by omega)]; exact hk c hc hn f hf⟩
theorem RepC.o14 {σ : CacS} {S : AS} {E : Nat → Prop} (h : RepC σ S E) (v : Int32) : RepC (va_up σ 0 (oI (σ 0) 14 v)) (uN S 4 v) E := by
  obtain ⟨⟨o1, o2, o3, o4, o5, o6⟩, hb, ht, hr, hk⟩ := h
  exact ⟨⟨o1, o2, o3, o4, o5, rfl⟩, hb, ht, fun l hl => by rw [va_up_ne _ _ (show 3 + l ≠ 0 by omega)]; exact hr l hl, fun c hc hn f hf => by rw [va_up_ne _ _ (show 8 + c ≠ 0 by omega)]; exact hk c hc hn f hf⟩
theorem RepC.u8 {σ : CacS} {S : AS} {E : Nat → Prop} (h : RepC σ S E) (k : Nat) (v : Int32) : RepC (va_up σ 0 (oA (σ 0) 8 k v)) S E := by
  obtain ⟨ho, hb, ht, hr, hk⟩ := h
  exact ⟨ho, hb, ht, fun l hl => by rw [va_up_ne _ _ (show 3 + l ≠ 0 by omega)]; exact hr l hl, fun c hc hn f hf => by rw [va_up_ne _ _ (show 8 + c ≠ 0 by omega)]; exact hk c hc hn f hf⟩
theorem RepC.wk {σ : CacS} {S : AS} {E F : Nat → Prop} (h : RepC σ S E) (hf : ∀ b, b < 200 → E b → F b) : RepC σ S F := ⟨h.1, h.2.1.wk hf, h.2.2⟩
theorem RepC.ex0 {σ : CacS} {S : AS} {E : Nat → Prop} (h : RepC σ S E) (b : Nat) (v : Int32) : RepC σ (uB S 0 b v) (fun x => E x ∨ x = b) := ⟨h.1, h.2.1.ex0 b v, h.2.2⟩
theorem c_rowOf {σ : CacS} {l : Nat} (hl : l < 5) : f_X1_rowOf σ (nI l) = some l := by
  rcases (show l = 0 ∨ l = 1 ∨ l = 2 ∨ l = 3 ∨ l = 4 by omega) with rfl | rfl | rfl | rfl | rfl <;> rfl
theorem c_clientOf {σ : CacS} {S : AS} {E : Nat → Prop} (h : RepC σ S E) {c : Nat} (hc : c < 4) (hn : nI c < aN S 6) : f_X1_clientOf σ (nI c) = some (some c) := by
  unfold f_X1_clientOf
  rw [if_neg (nI_pos (by omega)), h.1.1, if_neg (fun q => absurd hn (Int32.not_lt.mpr q)), if_neg (show ¬ (4 : Int32) ≤ nI c from nI_ge (b := 4) hc (by decide)), pu_gd c rfl hc (by decide), nI_clamp (by omega)]
theorem pu_sub1 {n : Nat} (h : 1 ≤ n) : nI n - 1 = nI (n - 1) := pk_sub (b := 1) h
theorem pu_s (x : Int32) : x + (-1) = x - 1 := (Int32.sub_eq_add_neg x 1).symm
theorem c_leave_b26 {N : Nat} {σ : CacS} {S : AS} {E : Nat → Prop} (h : RepC σ S E) (hE : ∀ x ∈ aL S 2, x < 200) (hp : 0 < (aL S 2).length) : ∀ n m, n ≤ (aL S 2).length → n < m → f_X1_unitToLeave_b26 N m σ (nI n - 1) = some (nI (aLv S n)) := by
  have hr := h.2.2.2.1 2 (by decide)
  have h24 := hr.1
  intro n
  induction n with
  | zero =>
    intro m hn hm
    obtain ⟨m, rfl⟩ : ∃ k, m = k + 1 := ⟨m - 1, by omega⟩
    rw [f_X1_unitToLeave_b26, if_pos (show nI 0 - 1 < 0 by decide), show (σ 5).2 1 = nI (aL S 2).length from hr.2.1, pu_sub1 (by omega), p5_blockAt (show RowL (σ 5) (aL S 2) from hr) (by omega)]
    rfl
  | succ n ih =>
    intro m hn hm
    obtain ⟨m, rfl⟩ : ∃ k, m = k + 1 := ⟨m - 1, by omega⟩
    have hx := hE _ (pu_getD_mem (show n < (aL S 2).length by omega))
    rw [f_X1_unitToLeave_b26, nI_pred, if_neg (nI_pos (by omega)), p5_blockAt (show RowL (σ 5) (aL S 2) from hr) (by omega), Option.bind_some, p0_isDirty h.2.1 hx, Option.bind_some, aLv]
    by_cases e : aB S 3 ((aL S 2).getD n 0) = -1
    · rw [if_pos e, if_pos e, if_pos rfl]
    · rw [if_neg e, if_neg e, if_neg (by decide)]
      rw [pu_s]
      exact ih m (by omega) (by omega)
theorem aLow_iff {S : AS} {w : Nat} (hw : aN S 3 = nI w) (h2 : w ≤ 24) (h3 : (aL S 2).length ≤ w) : aLow S ↔ w ≤ (aL S 2).length := by
  unfold aLow
  rw [hw, nI_eq (by omega) (by omega)]
  omega
theorem c_leave {N : Nat} {σ : CacS} {S : AS} {E : Nat → Prop} (hN : 100 ≤ N) (h : RepC σ S E) (hE : ∀ x ∈ aL S 2, x < 200) (hw : lowOk S) : f_X1_unitToLeave N σ = some (aLf S (-1)) := by
  obtain ⟨w, w1, w2, w3, w4⟩ := hw
  have hr := h.2.2.2.1 2 (by decide)
  unfold f_X1_unitToLeave
  rw [show (σ 0).2 13 = nI w from h.1.2.2.2.2.1.trans w1, show (σ 5).2 1 = nI (aL S 2).length from hr.2.1]
  by_cases e : w ≤ (aL S 2).length
  · rw [if_pos (nI_le e (by omega)), aLf_t ((aLow_iff w1 w3 w4).mpr e)]
    exact c_leave_b26 h hE (by omega) _ N (Nat.le_refl _) (by omega)
  · rw [if_neg (nI_ge (by omega) (by omega)), aLf_f (fun q => e ((aLow_iff w1 w3 w4).mp q))]
theorem c_makeRoom_b30 {N x : Nat} {σ : CacS} {S : AS} {E : Nat → Prop} (hN : 100 ≤ N) (h : RepC σ S E) (hE : ∀ x ∈ aL S 2, x < 200) (hx : x < 200) : Ok (f_X1_makeRoomInLower_b30 N σ (nI x)) (fun t => RepC t (aDrop S x) E ∧ (t 2).2 9 = (σ 2).2 9 ∧ (t 2).2 10 = nI x) := by
  unfold f_X1_makeRoomInLower_b30
  obtain ⟨τ, e1, h1⟩ := p5_takeOut (N := N) (h.2.2.2.1 2 (by decide)) hE hx hN
  refine ok_bindE e1 (ok_let ?_)
  have hA := h.row (l := 2) (by decide) h1
  refine ok_bind (p0_dropUnit hA.2.1 hx) (fun t ht => ok_let (ok_let (ok_let (ok_some ?_))))
  have hB := (hA.b ht (((sB_uB _ _ _ _).tr (sB_uB _ _ _ _)).tr ((sB_uB _ _ _ _).tr (sB_uB _ _ _ _)))).wk (F := E) (fun b _ q => q.1)
  refine ⟨?_, rfl, rfl⟩
  have hC := (hB.t7 (((va_up (va_up σ 5 τ) 1 t) 2).2 7 + 1)).t10 (nI x)
  have e7 : ((va_up (va_up σ 5 τ) 1 t) 2).2 7 = aN S 20 := h.2.2.1.2.2.2.2.2.2.2.1
  rw [e7] at hC ⊢
  exact hC
theorem c_makeRoom {N : Nat} {σ : CacS} {S : AS} {E : Nat → Prop} (hN : 1000 ≤ N) (h : RepC σ S E) (hE : ∀ x ∈ aL S 2, x < 200) (hw : lowOk S) : Ok (f_X1_makeRoomInLower N σ) (fun t => RepC t (aMR S) E ∧ (t 2).2 9 = (σ 2).2 9 ∧ (t 2).2 10 = aLf S ((σ 2).2 10)) := by
  unfold f_X1_makeRoomInLower
  refine ok_bindE (c_leave (by omega) h hE hw) ?_
  obtain ⟨w, w1, w2, w3, w4⟩ := hw
  by_cases e : aLow S
  · have hl := (aLow_iff w1 w3 w4).mp e
    have hx : aX S < 200 := hE _ (aLv_mem (by omega) _ (Nat.le_refl _))
    rw [aLf_t e, aLf_t e, aMR_t e]
    refine ok_f (pu_m1 (by omega)) (ok_bindE (p0_isDirty h.2.1 hx) ?_)
    unfold aCl
    by_cases e3 : aB S 3 (aX S) = -1
    · rw [if_pos e3, if_pos e3]
      exact ok_t rfl (c_makeRoom_b30 (by omega) h hE hx)
    · rw [if_neg e3, if_neg e3]
      refine ok_f (by decide) (ok_bind (p0_writeBack h.2.1 hx) (fun t ht => ok_let ?_))
      exact ok_mono (c_makeRoom_b30 (by omega) (h.b ht (sB_wu _ _)) hE hx) (fun r hr => hr)
  · rw [aLf_f e, aLf_f e, aMR_f e]
    exact ok_t rfl (ok_some ⟨h, rfl, rfl⟩)
