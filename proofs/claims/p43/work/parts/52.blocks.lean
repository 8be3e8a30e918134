/-! blocks: what is written back, counts over all blocks, in the class and in the model -/
theorem pu_rem {a : Nat} (ha : a < 2 ^ 31) : nI a - nI a / 200 * 200 = nI (a % 200) := pk_rem (d := 200) ha (by decide) (by decide)
def aWU (S : AS) (b : Nat) : AS := uN (uN (uB (uB S 5 b (aB S 1 b)) 3 b (-1)) 13 (nI ((b + 1) % 200))) 21 (aN S 21 + 1)
theorem p0_writeBack {τ : ObjS} {S : AS} {E : Nat → Prop} {b : Nat} (h : RepB τ S E) (hb : b < 200) : Ok (f_X0_writeBack τ (nI b)) (fun t => RepB t (aWU S b) E) := by
  unfold f_X0_writeBack
  refine ok_f (nI_pos (by omega)) (ok_f (pu_ge200 hb) ?_)
  refine ok_gd b rfl hb (by decide) (ok_gd b rfl hb (by decide) (ok_let (ok_gd b rfl hb (by decide) (ok_let ?_))))
  rw [nI_clamp (show b < 2 ^ 31 by omega), nI_1]
  have e7 : (oI (oA (oA τ 0 b (τ.1 1 b)) 3 b (-1)) 6 (nI ((b + 1) % 200))).2 7 + 1 = aN S 21 + 1 := by
    rw [← h.2.1]
    rfl
  have hR : RepB (oI (oI (oA (oA τ 0 b (τ.1 1 b)) 3 b (-1)) 6 (nI ((b + 1) % 200))) 7 (aN S 21 + 1)) (aWU S b) E := by
    rw [(h.2.2 b hb).2.1]
    exact (((h.set5 b _).set3 b _).head _).wrote _
  by_cases e : b + 1 = 200
  · have e0 : (b + 1) % 200 = 0 := by omega
    rw [e0] at e7 hR
    refine ok_t (by rw [e]; rfl) (ok_let (ok_let (ok_some ?_)))
    rw [show ((oI (oA (oA τ 0 b (τ.1 1 b)) 3 b (-1)) 6 0).2 7 + 1) = aN S 21 + 1 from e7]
    exact hR
  · have e0 : (b + 1) % 200 = b + 1 := by omega
    rw [e0] at e7 hR
    refine ok_f (fun q => e ((nI_eq (b := 200) (by omega) (by decide)).mp q)) (ok_let (ok_let (ok_some ?_)))
    rw [e7]
    exact hR
def aDn (S : AS) (h : Nat) (x1 : Int32) : Nat → Nat → Int32
  | 0, _ => -1
  | r + 1, k => if aB S 3 ((h + (200 - (r + 1))) % 200) = -1 then aDn S h x1 r k else if nI k = x1 then nI ((h + (200 - (r + 1))) % 200) else aDn S h x1 r (k + 1)
theorem aDn_val (S : AS) (h : Nat) (x1 : Int32) : ∀ r k, aDn S h x1 r k = -1 ∨ ∃ b, b < 200 ∧ aDn S h x1 r k = nI b ∧ aB S 3 b ≠ -1 := by
  intro r
  induction r with
  | zero => exact fun k => Or.inl rfl
  | succ r ih =>
    intro k
    rw [aDn]
    by_cases e : aB S 3 ((h + (200 - (r + 1))) % 200) = -1
    · rw [if_pos e]; exact ih k
    · rw [if_neg e]
      by_cases e2 : nI k = x1
      · rw [if_pos e2]; exact Or.inr ⟨_, Nat.mod_lt _ (by decide), rfl, e⟩
      · rw [if_neg e2]; exact ih (k + 1)
theorem p0_dirtyAt_b4 {N : Nat} {τ : ObjS} {S : AS} {E : Nat → Prop} (H : RepB τ S E) {h : Nat} (hh : aN S 13 = nI h) (hh2 : h < 200) {x1 : Int32} : ∀ r n k, r ≤ 200 → r < n → f_X0_dirtyAt_b4 N n τ x1 (nI k) (nI (200 - r)) = some (aDn S h x1 r k) := by
  intro r
  induction r with
  | zero =>
    intro n k _ hn
    obtain ⟨n, rfl⟩ : ∃ m, n = m + 1 := ⟨n - 1, by omega⟩
    rw [f_X0_dirtyAt_b4, if_pos (show (200 : Int32) ≤ nI (200 - 0) by decide)]
    rfl
  | succ r ih =>
    intro n k hr hn
    obtain ⟨n, rfl⟩ : ∃ m, n = m + 1 := ⟨n - 1, by omega⟩
    rw [f_X0_dirtyAt_b4, if_neg (pu_ge200 (by omega)), H.1, hh, nI_add, pu_rem (by omega), p0_isDirty H (Nat.mod_lt _ (by decide)), Option.bind_some, aDn, nI_1, nI_1, show 200 - (r + 1) + 1 = 200 - r by omega]
    by_cases e : aB S 3 ((h + (200 - (r + 1))) % 200) = -1
    · rw [if_pos e, if_pos e, if_pos rfl]
      exact ih n k (by omega) (by omega)
    · rw [if_neg e, if_neg e, if_neg (by decide)]
      by_cases e2 : nI k = x1
      · rw [if_pos e2, if_pos e2]
      · rw [if_neg e2, if_neg e2]
        exact ih n (k + 1) (by omega) (by omega)
theorem p0_dirtyAt {N : Nat} {τ : ObjS} {S : AS} {E : Nat → Prop} (H : RepB τ S E) {h : Nat} (hh : aN S 13 = nI h) (hh2 : h < 200) {x1 : Int32} (hN : 1000 ≤ N) : f_X0_dirtyAt N τ x1 = some (aDn S h x1 200 0) :=
  p0_dirtyAt_b4 H hh hh2 200 N 0 (Nat.le_refl _) (by omega)
def aHd (S : AS) : Nat := (aN S 13).toNatClampNeg
def hdOk (S : AS) : Prop := aN S 13 = nI (aHd S) ∧ aHd S < 200
def aDz (S : AS) : Int32 := aDn S (aHd S) 0 200 0
theorem hdOk_wu {S : AS} {b : Nat} : hdOk (aWU S b) := by
  have e : aN (aWU S b) 13 = nI ((b + 1) % 200) := rfl
  have hl : (b + 1) % 200 < 200 := Nat.mod_lt _ (by decide)
  unfold hdOk aHd
  rw [e, nI_clamp (by omega)]
  exact ⟨rfl, hl⟩
def aWB (most : Int32) : Nat → Nat → AS → Int32 × AS
  | 0, k, S => (nI k, S)
  | r + 1, k, S => if most ≤ nI k then (nI k, S) else if aDz S = -1 then (nI k, S) else aWB most r (k + 1) (aWU S (aDz S).toNatClampNeg)
theorem p0_wbs_b2 {N : Nat} {E : Nat → Prop} {most : Int32} (hN : 1000 ≤ N) : ∀ r n k (τ : ObjS) (S : AS), r + k = 200 → r < n → RepB τ S E → hdOk S → Ok (f_X0_writeBackSome_b2 N n τ most (nI k)) (fun t => t.1 = (aWB most r k S).1 ∧ RepB t.2 (aWB most r k S).2 E) := by
  intro r
  induction r with
  | zero =>
    intro n k τ S hk hn H hd
    obtain ⟨n, rfl⟩ : ∃ m, n = m + 1 := ⟨n - 1, by omega⟩
    have : k = 200 := by omega
    subst this
    rw [f_X0_writeBackSome_b2]
    exact ok_if (fun _ => ok_some ⟨rfl, H⟩) (fun _ => ok_t (show (200 : Int32) ≤ nI 200 by decide) (ok_some ⟨rfl, H⟩))
  | succ r ih =>
    intro n k τ S hk hn H hd
    obtain ⟨n, rfl⟩ : ∃ m, n = m + 1 := ⟨n - 1, by omega⟩
    rw [f_X0_writeBackSome_b2, aWB]
    by_cases e : most ≤ nI k
    · rw [if_pos e, if_pos e]; exact ok_some ⟨rfl, H⟩
    · rw [if_neg e, if_neg e]
      refine ok_f (pu_ge200 (by omega)) (ok_bindE (p0_dirtyAt H hd.1 hd.2 hN) ?_)
      rw [show aDn S (aHd S) 0 200 0 = aDz S from rfl]
      by_cases e2 : aDz S = -1
      · rw [if_pos e2, if_pos e2]; exact ok_some ⟨rfl, H⟩
      · rw [if_neg e2, if_neg e2]
        obtain ⟨b, hb, hbe, -⟩ := (aDn_val S (aHd S) 0 200 0).resolve_left e2
        rw [show aDz S = nI b from hbe, nI_clamp (by omega)]
        refine ok_bind (p0_writeBack H hb) (fun t ht => ?_)
        rw [nI_1]
        exact ih n (k + 1) t _ (by omega) (by omega) ht hdOk_wu
theorem p0_writeBackSome {N : Nat} {E : Nat → Prop} {most : Int32} {τ : ObjS} {S : AS} (hN : 1000 ≤ N) (H : RepB τ S E) (hd : hdOk S) : Ok (f_X0_writeBackSome N τ most) (fun t => t.1 = (aWB most 200 0 S).1 ∧ RepB t.2 (aWB most 200 0 S).2 E) :=
  p0_wbs_b2 hN 200 N 0 τ S rfl (by omega) H hd
def aCt (p : Nat → Bool) : Nat → Nat → Nat
  | 0, k => k
  | r + 1, k => aCt p r (if p (200 - (r + 1)) then k + 1 else k)
theorem aCt_le (p : Nat → Bool) : ∀ r k, aCt p r k ≤ k + r := by
  intro r
  induction r with
  | zero => exact fun k => Nat.le_refl _
  | succ r ih =>
    intro k
    rw [aCt]
    have := ih (if p (200 - (r + 1)) then k + 1 else k)
    by_cases e : p (200 - (r + 1)) = true
    · rw [if_pos e] at this ⊢; omega
    · rw [if_neg e] at this ⊢; omega
def isD (S : AS) (b : Nat) : Bool := decide (aB S 3 b ≠ -1)
theorem p0_hmd_b4 {N : Nat} {τ : ObjS} {S : AS} {E : Nat → Prop} (H : RepB τ S E) : ∀ r n k, r ≤ 200 → r < n → f_X0_howManyDirty_b4 N n τ (nI k) (nI (200 - r)) = some (nI (aCt (isD S) r k)) := by
  intro r
  induction r with
  | zero =>
    intro n k _ hn
    obtain ⟨n, rfl⟩ : ∃ m, n = m + 1 := ⟨n - 1, by omega⟩
    rw [f_X0_howManyDirty_b4, if_pos (show (200 : Int32) ≤ nI (200 - 0) by decide)]
    rfl
  | succ r ih =>
    intro n k hr hn
    obtain ⟨n, rfl⟩ : ∃ m, n = m + 1 := ⟨n - 1, by omega⟩
    rw [f_X0_howManyDirty_b4, if_neg (pu_ge200 (by omega)), pu_gd (200 - (r + 1)) rfl (by omega) (by decide), nI_clamp (by omega), (H.2.2 _ (show 200 - (r + 1) < 200 by omega)).2.2.2.1, nI_1, nI_1, aCt, show 200 - (r + 1) + 1 = 200 - r by omega]
    by_cases e : aB S 3 (200 - (r + 1)) = -1
    · rw [if_pos e, if_neg (show ¬ isD S (200 - (r + 1)) = true from fun q => of_decide_eq_true q e)]
      exact ih n k (by omega) (by omega)
    · rw [if_neg e, if_pos (show isD S (200 - (r + 1)) = true from decide_eq_true e)]
      exact ih n (k + 1) (by omega) (by omega)
theorem p0_howManyDirty {N : Nat} {τ : ObjS} {S : AS} {E : Nat → Prop} (H : RepB τ S E) (hN : 1000 ≤ N) : f_X0_howManyDirty N τ = some (nI (aCt (isD S) 200 0)) :=
  p0_hmd_b4 H 200 N 0 (Nat.le_refl _) (by omega)
-- the model's leaves
theorem pu_of (b f : Nat) : (184 + 5 * nI b) + nI f = nI (184 + 5 * b + f) := by
  show (nI 184 + nI 5 * nI b) + nI f = _
  rw [pk_mul, nI_add, nI_add]
theorem pu_cl (c f : Nat) : (144 + 10 * nI c) + nI f = nI (144 + 10 * c + f) := by
  show (nI 144 + nI 10 * nI c) + nI f = _
  rw [pk_mul, nI_add, nI_add]
theorem pu_la (l i : Nat) : (24 + 24 * nI l) + nI i = nI (24 + 24 * l + i) := by
  show (nI 24 + nI 24 * nI l) + nI i = _
  rw [pk_mul, nI_add, nI_add]
theorem pu_st (b : Nat) : 1184 + nI b = nI (1184 + b) := nI_add 1184 b
theorem pu_le (l : Nat) : 7 + nI l = nI (7 + l) := nI_add 7 l
section MM
variable {a : Nat → Int32} {d e : Int32} {S : AS} {U : Nat → Nat → Prop}
theorem pu_cd (x y : Int32) : (x + (-1)) + (y + 1) = x + y := by
  rw [Int32.add_assoc, Int32.add_comm (-1) (y + 1), Int32.add_assoc y, show (1 : Int32) + (-1) = 0 by decide, Int32.add_zero]
theorem pu_z {x y w : Int32} (h : x + y = w) : x = 0 ↔ y = w := by
  constructor
  · intro e
    rw [← h, e, Int32.zero_add]
  · intro e
    rw [← e] at h
    have := congrArg (· - y) h
    simpa using this
end MM
