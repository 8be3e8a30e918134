/-! queries: sums, counts, the order -/
theorem aSw_pos {S : AS} {k : Nat} (hI : Inv S) (hk : aN S 6 = nI k) (h0 : 0 < k) (h4 : k ≤ 4) : aSw S ≠ 0 := by
  obtain ⟨k', k1, kl, k3⟩ := hI.1.2.2.2.1
  have ek : k' = k := (nI_eq (by omega) (by omega)).mp (k1.symm.trans hk)
  subst ek
  obtain ⟨w, w1, w2, w9⟩ := (k3 (k' - 1) (by omega)).1
  unfold aSw
  rw [hk, nI_clamp (by omega)]
  obtain ⟨j, rfl⟩ : ∃ j, k' = j + 1 := ⟨k' - 1, by omega⟩
  rw [show j + 1 - 1 = j by omega] at w1
  rw [aSwN, w1, nI_clamp (by omega)]
  omega
theorem nz_sw {S : AS} {k : Nat} (hI : Inv S) (hk : aN S 6 = nI k) (h0 : 0 < k) (h4 : k ≤ 4) : nI (aSw S) ≠ 0 := nI_ne0 (Nat.pos_of_ne_zero (aSw_pos hI hk h0 h4)) (by have := aSw_le hI.1.2.2.2.1; omega)
section LL
variable {σ : CacS} {S : AS}
end LL
theorem aRun_nI {S : AS} {k c b : Nat} (hI : Inv S) (hk : aN S 6 = nI k) (hc : c < k) (hk4 : k ≤ 4) : ∃ r, r ≤ 201 ∧ aRun S c b = nI r := by
  obtain ⟨k', k1, kl, k3⟩ := hI.1.2.2.2.1
  have ek : k' = k := (nI_eq (by omega) (by omega)).mp (k1.symm.trans hk)
  subst ek
  unfold aRun
  rcases (k3 c hc).2 with ⟨q, -⟩ | ⟨z, r, z1, r1, hz, -, hr⟩
  · rw [if_pos q]; exact ⟨1, by decide, rfl⟩
  · rw [z1, r1, if_neg (pu_m1 (by omega)), nI_1, nI_1]
    split
    · exact ⟨r + 1, by omega, rfl⟩
    · exact ⟨1, by decide, rfl⟩
theorem r_max {n r : Nat} (hn : n ≤ 20) (hr : r ≤ 201) : ∃ q, 1 ≤ q ∧ q ≤ 21 ∧ (if 1 < (nI n - nI r) + 1 then (nI n - nI r) + 1 else 1) = nI q := by
  have e : nI n - nI r + 1 = nI (n + 1) - nI r := by
    rw [← nI_1, Int32.sub_eq_add_neg, Int32.sub_eq_add_neg, Int32.add_assoc, Int32.add_assoc, Int32.add_comm (-nI r)]
  rw [e]
  by_cases c : r < n
  · rw [pk_sub (by omega), if_pos (show (1 : Int32) < nI (n + 1 - r) from nI_lt (a := 1) (by omega) (by omega))]
    exact ⟨n + 1 - r, by omega, by omega, rfl⟩
  · have h1 := pk_sub_toInt (a := n + 1) (b := r) (by omega) (by omega)
    have h2 : (1 : Int32).toInt = 1 := by decide
    rw [if_neg (fun q => by rw [Int32.lt_iff_toInt_lt, h1, h2] at q; omega)]
    exact ⟨1, by decide, by decide, rfl⟩
def aRk (S : AS) (h w : Nat) : Nat → Nat → Nat
  | 0, k => k
  | r + 1, k => if (h + (200 - (r + 1))) % 200 = w then k else aRk S h w r (if aB S 3 ((h + (200 - (r + 1))) % 200) = -1 then k else k + 1)
theorem aRk_spec {S : AS} {h w : Nat} (hw : w < 200) (hd : aB S 3 w ≠ -1) : ∀ r k, r ≤ 200 → k + r ≤ 200 → (∃ s, 200 - r ≤ s ∧ s < 200 ∧ (h + s) % 200 = w) → k ≤ aRk S h w r k ∧ aRk S h w r k ≤ 200 ∧ aDn S h (nI (aRk S h w r k)) r k = nI w ∧ ∀ j, k ≤ j → j < aRk S h w r k → aDn S h (nI j) r k ≠ nI w := by
  intro r
  induction r with
  | zero => intro k _ _ ⟨s, h1, h2, _⟩; omega
  | succ r ih =>
    intro k hr hk hs
    have hy : (h + (200 - (r + 1))) % 200 < 200 := Nat.mod_lt _ (by decide)
    unfold aRk
    by_cases e : (h + (200 - (r + 1))) % 200 = w
    · rw [if_pos e]
      refine ⟨Nat.le_refl _, by omega, ?_, fun j h1 h2 => absurd h1 (by omega)⟩
      rw [aDn, e, if_neg hd, if_pos rfl]
    · rw [if_neg e]
      have hs2 : ∃ s, 200 - r ≤ s ∧ s < 200 ∧ (h + s) % 200 = w := by
        obtain ⟨s, h1, h2, h3⟩ := hs
        refine ⟨s, ?_, h2, h3⟩
        by_cases q : s = 200 - (r + 1)
        · rw [q] at h3; exact absurd h3 e
        · omega
      by_cases c : aB S 3 ((h + (200 - (r + 1))) % 200) = -1
      · rw [if_pos c]
        obtain ⟨i1, i2, i3, i4⟩ := ih k (by omega) (by omega) hs2
        refine ⟨i1, i2, ?_, fun j h1 h2 => ?_⟩
        · rw [aDn, if_pos c]; exact i3
        · rw [aDn, if_pos c]; exact i4 j h1 h2
      · rw [if_neg c]
        obtain ⟨i1, i2, i3, i4⟩ := ih (k + 1) (by omega) (by omega) hs2
        refine ⟨by omega, i2, ?_, fun j h1 h2 => ?_⟩
        · rw [aDn, if_neg c, if_neg (fun q => by have := (nI_eq (by omega) (by omega)).mp q; omega)]; exact i3
        · rw [aDn, if_neg c]
          by_cases q : j = k
          · rw [q, if_pos rfl]
            exact fun z => e ((nI_eq (by omega) (by omega)).mp z)
          · rw [if_neg (fun z => q ((nI_eq (by omega) (by omega)).mp z).symm)]
            exact i4 j (by omega) h2
theorem c_rank_b14 {N w h : Nat} {σ : CacS} {S : AS} (H : RepB (σ 1) S E0) (hh : aN S 13 = nI h) (hh2 : h < 200) (hw : w < 200) : ∀ r n k, r ≤ 200 → r < n → (∃ s, 200 - r ≤ s ∧ s < 200 ∧ (h + s) % 200 = w) → f_X0_rankOf_b14 N n (σ 1) (nI w) (nI k) (nI (200 - r)) = some (nI (aRk S h w r k)) := by
  intro r
  induction r with
  | zero => intro n k _ _ ⟨s, h1, h2, _⟩; omega
  | succ r ih =>
    intro n k hr hn hs
    obtain ⟨n, rfl⟩ : ∃ m, n = m + 1 := ⟨n - 1, by omega⟩
    have hy : (h + (200 - (r + 1))) % 200 < 200 := Nat.mod_lt _ (by decide)
    rw [f_X0_rankOf_b14, if_neg (pu_ge200 (by omega)), H.1, hh, nI_add, pu_rem (by omega), aRk, nI_1, nI_1, show 200 - (r + 1) + 1 = 200 - r by omega]
    by_cases e : (h + (200 - (r + 1))) % 200 = w
    · rw [if_pos e, if_pos (by rw [e])]
    · rw [if_neg e, if_neg (fun q => e ((nI_eq (by omega) (by omega)).mp q)), p0_isDirty H hy, Option.bind_some]
      have hs2 : ∃ s, 200 - r ≤ s ∧ s < 200 ∧ (h + s) % 200 = w := by
        obtain ⟨s, h1, h2, h3⟩ := hs
        refine ⟨s, ?_, h2, h3⟩
        by_cases q : s = 200 - (r + 1)
        · rw [q] at h3; exact absurd h3 e
        · omega
      by_cases c : aB S 3 ((h + (200 - (r + 1))) % 200) = -1
      · rw [if_pos c, if_pos c, if_pos rfl]; exact ih n k (by omega) (by omega) hs2
      · rw [if_neg c, if_neg c, if_neg (by decide)]; exact ih n (k + 1) (by omega) (by omega) hs2
