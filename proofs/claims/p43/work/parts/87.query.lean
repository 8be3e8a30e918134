/-! queries: builders, ranges -/
theorem e_t {β : Type} {c : Prop} [Decidable c] {x y r : Option β} (hc : c) (h : x = r) : (if c then x else y) = r := by rwa [if_pos hc]
theorem e_f {β : Type} {c : Prop} [Decidable c] {x y r : Option β} (hc : ¬ c) (h : y = r) : (if c then x else y) = r := by rwa [if_neg hc]
theorem e_b {α β : Type} {x : Option α} {k : α → Option β} {a : α} {r : Option β} (e : x = some a) (h : k a = r) : x.bind k = r := by
  subst e
  exact h
theorem e_l {α β : Type} {x : α} {k : α → Option β} {r : Option β} (h : k x = r) : cx_let x k = r := h
theorem e_g {β : Type} {i : Int32} {n : Nat} {x r : Option β} (j : Nat) (hi : i = nI j) (h : j < n) (hn : n < 2 ^ 31) (k : x = r) : gd i n x = r := by rwa [pu_gd j hi h hn]
theorem e_o {α β : Type} {k : α} {a : Option β} {b : α → Option β} {r : Option β} (h : b k = r) : on_ (some k) a b = r := h
theorem zb_0 {β : Type} {x : Option β} : zb 0 x = x := if_pos (Or.inl rfl)
theorem zb_1 {β : Type} {x : Option β} : zb 1 x = x := if_pos (Or.inr rfl)
theorem Inv.mem {S : AS} (hI : Inv S) {l x : Nat} (hl : l < 3) (hx : x ∈ aL S l) : x < 200 ∧ aB S 0 x = nI l ∧ aB S 0 x ≠ -1 ∧ ∃ c, c < 4 ∧ aB S 2 x = nI c ∧ nI c < aN S 6 := by
  have h2 := (hI.1.1 l (by omega)).2 x hx
  have h3 := ((hI.2 x h2).1 l hl).mp hx
  have h4 : aB S 0 x ≠ -1 := by rw [h3]; exact pu_m1 (by omega)
  exact ⟨h2, h3, h4, (hI.2 x h2).2.2.2.2.2.2 h4⟩
-- the model's leaves again
section MM
variable {S : AS} {U : Nat → Nat → Prop}
end MM
-- the queries one by one
