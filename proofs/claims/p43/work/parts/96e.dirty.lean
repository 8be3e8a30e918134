/-! WHAT IS DIRTY: counts, orders, writing back -/
def dC (S : AS) : Nat := aCt (isD S) 200 0
theorem dC_le (S : AS) : dC S ≤ 200 := by
  have := aCt_le (isD S) 200 0
  unfold dC
  omega
def aDs (S : AS) (h : Nat) : Nat → List Nat
  | 0 => []
  | r + 1 => if aB S 3 ((h + (200 - (r + 1))) % 200) = -1 then aDs S h r else ((h + (200 - (r + 1))) % 200) :: aDs S h r
theorem isD_iff {S : AS} {x : Nat} : isD S x = true ↔ aB S 3 x ≠ -1 := by
  unfold isD
  exact decide_eq_true_iff
section DD
variable {S : AS} {h : Nat}
/-- the elements of the order, by how far they are from the head -/
theorem aDs_mem : ∀ r, r ≤ 200 → ∀ x, x ∈ aDs S h r ↔ (aB S 3 x ≠ -1 ∧ ∃ j, 200 - r ≤ j ∧ j < 200 ∧ (h + j) % 200 = x) := by
  intro r
  induction r with
  | zero =>
    intro _ x
    rw [aDs]
    exact ⟨fun q => absurd q List.not_mem_nil, fun ⟨_, j, a, b, _⟩ => by omega⟩
  | succ r ih =>
    intro hr x
    rw [aDs]
    by_cases e : aB S 3 ((h + (200 - (r + 1))) % 200) = -1
    · rw [if_pos e, ih (by omega)]
      refine and_congr_right fun hx => ⟨fun ⟨j, a, b, c⟩ => ⟨j, by omega, b, c⟩, fun ⟨j, a, b, c⟩ => ⟨j, ?_, b, c⟩⟩
      by_cases ej : j = 200 - (r + 1)
      · subst ej; rw [c] at e; exact absurd e hx
      · omega
    · rw [if_neg e, List.mem_cons, ih (by omega)]
      constructor
      · rintro (rfl | ⟨hx, j, a, b, c⟩)
        · exact ⟨e, 200 - (r + 1), Nat.le_refl _, by omega, rfl⟩
        · exact ⟨hx, j, by omega, b, c⟩
      · rintro ⟨hx, j, a, b, c⟩
        by_cases ej : j = 200 - (r + 1)
        · subst ej; exact Or.inl c.symm
        · exact Or.inr ⟨hx, j, by omega, b, c⟩
theorem cyc_inj (hh : h < 200) {i j : Nat} (hi : i < 200) (hj : j < 200) (e : (h + i) % 200 = (h + j) % 200) : i = j := by omega
theorem aDs_nodup (hh : h < 200) : ∀ r, r ≤ 200 → (aDs S h r).Nodup := by
  intro r
  induction r with
  | zero => intro _; exact List.nodup_nil
  | succ r ih =>
    intro hr
    rw [aDs]
    by_cases e : aB S 3 ((h + (200 - (r + 1))) % 200) = -1
    · rw [if_pos e]; exact ih (by omega)
    · rw [if_neg e]
      refine List.nodup_cons.mpr ⟨fun q => ?_, ih (by omega)⟩
      obtain ⟨-, j, a, b, c⟩ := (aDs_mem r (by omega) _).mp q
      have := cyc_inj hh b (by omega) c
      omega
theorem aDs_in (hh : h < 200) {x : Nat} (hx : x < 200) : x ∈ aDs S h 200 ↔ aB S 3 x ≠ -1 := by
  rw [aDs_mem 200 (Nat.le_refl _)]
  exact ⟨fun q => q.1, fun q => ⟨q, (x + 200 - h) % 200, by omega, by omega, by omega⟩⟩
theorem aDs_lt {x : Nat} (hx : x ∈ aDs S h 200) : x < 200 := by
  obtain ⟨-, j, -, -, c⟩ := (aDs_mem 200 (Nat.le_refl _) x).mp hx
  omega
theorem aDs_len (hh : h < 200) : (aDs S h 200).length = dC S := by
  have h1 := aCt_list (aDs S h 200) (fun _ => false) (aDs_nodup hh 200 (Nat.le_refl _)) (fun x hx => ⟨aDs_lt hx, rfl⟩)
  rw [aCt_z, Nat.zero_add] at h1
  rw [← h1]
  unfold dC
  refine aCt_congr (fun b hb => ?_) 200 0 (Nat.le_refl _)
  rw [Bool.eq_iff_iff]
  simp only [Bool.false_or, decide_eq_true_eq]
  rw [aDs_in hh hb, isD_iff]
/-- the order's element at a place -/
theorem aDn_at : ∀ r k i, k ≤ i → i < 2 ^ 30 → aDn S h (nI i) r k = if i - k < (aDs S h r).length then nI ((aDs S h r).getD (i - k) 0) else -1 := by
  intro r
  induction r with
  | zero =>
    intro k i _ _
    rw [aDn, aDs, if_neg (by simp)]
  | succ r ih =>
    intro k i hk hi
    rw [aDn, aDs]
    by_cases e : aB S 3 ((h + (200 - (r + 1))) % 200) = -1
    · rw [if_pos e, if_pos e]; exact ih k i hk hi
    · rw [if_neg e, if_neg e]
      by_cases e2 : k = i
      · subst e2
        rw [if_pos rfl, if_pos (by rw [List.length_cons]; omega), Nat.sub_self]
        rfl
      · rw [if_neg (fun q => e2 ((nI_eq (by omega) (by omega)).mp q)), ih (k + 1) i (by omega) hi]
        obtain ⟨d, rfl⟩ : ∃ d, i = k + (d + 1) := ⟨i - k - 1, by omega⟩
        rw [show k + (d + 1) - (k + 1) = d by omega, show k + (d + 1) - k = d + 1 by omega, List.length_cons]
        by_cases hd : d < (aDs S h r).length
        · rw [if_pos hd, if_pos (by omega)]
          rfl
        · rw [if_neg hd, if_neg (by omega)]
theorem aDz_iff (hd : hdOk S) : aDz S = -1 ↔ dC S = 0 := by
  have h1 := aDn_at (S := S) (h := aHd S) 200 0 0 (Nat.le_refl _) (by decide)
  rw [← aDs_len hd.2]
  have h2 : aDz S = aDn S (aHd S) (nI 0) 200 0 := rfl
  rw [h2, h1]
  by_cases h : 0 - 0 < (aDs S (aHd S) 200).length
  · rw [if_pos h]
    have hx := aDs_lt (pu_getD_mem (L := aDs S (aHd S) 200) (i := 0 - 0) h)
    exact ⟨fun q => absurd q (pu_m1 (by omega)), fun q => by omega⟩
  · rw [if_neg h]
    exact ⟨fun _ => by omega, fun _ => rfl⟩
theorem wu_dC {b : Nat} (hb : b < 200) (hd : aB S 3 b ≠ -1) : dC (aWU S b) + 1 = dC S := by
  have e3 : aB (aWU S b) 3 b = -1 := by
    show aB (uB (uB S 5 b _) 3 b (-1)) 3 b = -1
    exact aB_eq
  have h1 := aCt_cons (p := isD S) (q := isD (aWU S b)) hb (by
    rw [Bool.eq_false_iff]
    exact fun q => (isD_iff.mp q) e3) (fun x => by
    rw [Bool.eq_iff_iff]
    simp only [Bool.or_eq_true, decide_eq_true_eq]
    rw [isD_iff, isD_iff]
    by_cases e : x = b
    · subst e; exact ⟨fun _ => Or.inr rfl, fun _ => hd⟩
    · rw [aB_wune e]; exact ⟨Or.inl, fun q => q.resolve_right e⟩) 200 0 (Nat.le_refl _)
  rw [if_pos (by omega)] at h1
  exact h1.symm
end DD
/-- what writing back some leaves -/
theorem WB_spec {m : Nat} (hm : m < 2 ^ 30) : ∀ r k S, r + k = 200 → dC S + k ≤ 200 → Inv S → ∃ j, j = min (m - k) (dC S) ∧ (aWB (nI m) r k S).1 = nI (k + j) ∧ dC (aWB (nI m) r k S).2 + j = dC S ∧ aN (aWB (nI m) r k S).2 21 = aN S 21 + nI j := by
  intro r
  induction r with
  | zero =>
    intro k S hk hd hI
    rw [aWB]
    exact ⟨0, by omega, rfl, Nat.add_zero _, i0 _⟩
  | succ r ih =>
    intro k S hk hd hI
    rw [aWB]
    by_cases e : nI m ≤ nI k
    · rw [if_pos e]
      have := (nI_leI (by omega) (by omega)).mp e
      exact ⟨0, by omega, rfl, Nat.add_zero _, i0 _⟩
    · rw [if_neg e]
      have e' : k < m := Nat.lt_of_not_le fun q => e (nI_le q (by omega))
      have hh := hI.1.2.2.2.2.1
      by_cases e2 : aDz S = -1
      · rw [if_pos e2]
        have := (aDz_iff hh).mp e2
        exact ⟨0, by omega, rfl, Nat.add_zero _, i0 _⟩
      · rw [if_neg e2]
        obtain ⟨b, hb, hbe, hbd⟩ := (aDn_val S (aHd S) 0 200 0).resolve_left e2
        rw [show aDz S = nI b from hbe, nI_clamp (by omega)]
        have h1 := wu_dC hb hbd
        obtain ⟨j, j1, j2, j3, j4⟩ := ih (k + 1) (aWU S b) (by omega) (by omega) (Inv_wu hI)
        refine ⟨j + 1, by omega, ?_, by omega, ?_⟩
        · rw [j2]; congr 1; omega
        · rw [j4]
          have e21 : aN (aWU S b) 21 = aN S 21 + 1 := rfl
          rw [e21, Int32.add_assoc, ← nI_1, Int32.add_comm 1]
theorem JN_WB {w : Nat → Int32} {t : Nat} {most : Int32} : ∀ r k S, JN S w t → Inv S → JN (aWB most r k S).2 w t := by
  intro r
  induction r with
  | zero => intro k S h hI; exact h
  | succ r ih =>
    intro k S h hI
    rw [aWB]
    split
    · exact h
    · split
      · exact h
      · next e2 =>
        obtain ⟨b, hb, hbe, hbd⟩ := (aDn_val S (aHd S) 0 200 0).resolve_left e2
        rw [show aDz S = nI b from hbe, nI_clamp (by omega)]
        refine ih (k + 1) _ ?_ (Inv_wu hI)
        have hu : aB S 0 b ≠ -1 := fun q => hbd ((hI.2 b hb).2.2.2.2.1 q).2.2
        intro x hx
        by_cases e : x = b
        · subst e
          have e3 : aB (aWU S x) 3 x = -1 := by
            show aB (uB (uB S 5 x _) 3 x (-1)) 3 x = -1
            exact aB_eq
          refine ⟨fun _ => ?_, fun _ => ?_, Or.inl e3⟩
          · rw [aB_wuN (by decide) (by decide)]; exact (h x hx).1 hu
          · show aB (uB (uB S 5 x (aB S 1 x)) 3 x (-1)) 5 x = _
            rw [aB_nf (by decide), aB_eq]
            exact (h x hx).1 hu
        · exact (h x hx).congr (fun f _ => aB_wune e)
/-- a write's end -/
theorem val_3 {S : AS} {b : Nat} {v : Int32} {t : Nat} (ht : aN S 5 = nI t) (h31 : t < 2 ^ 30) : aB (aVal S b v) 3 b ≠ -1 := by
  unfold aVal
  by_cases h : aB S 3 b = -1
  · rw [if_pos h, aB_eq, ht]; exact pu_m1 (by omega)
  · rw [if_neg h, aB_nf (by decide)]; exact h
theorem JN_val {S : AS} {w : Nat → Int32} {t b : Nat} {v : Int32} (h : JN S w t) (ht : aN S 5 = nI t) (h31 : t < 2 ^ 30) : JN (aVal S b v) (upd w b v) t := by
  intro x hx
  by_cases e : x = b
  · subst e
    refine ⟨fun _ => ?_, fun q => absurd q (val_3 ht h31), ?_⟩
    · rw [pk_us]
      unfold aVal
      split
      · rw [aB_nf (by decide), aB_eq]
      · exact aB_eq
    · unfold aVal
      split
      · rw [aB_eq, ht]; exact Or.inr ⟨t, Nat.le_refl _, rfl⟩
      · rw [aB_nf (by decide)]; exact (h x hx).2.2
  · have h1 : ∀ f, aB (aVal S b v) f x = aB S f x := fun f => by
      unfold aVal
      split
      · rw [aB_ne e, aB_ne e]
      · rw [aB_ne e]
    unfold NB
    rw [h1, h1, h1, h1, pk_un e]
    exact h x hx
theorem aOv_le {S : AS} {n : Nat} (hn : aN S 1 = nI n) (h40 : n ≤ 40) : (aOv S ≤ 0 ↔ dC S ≤ n) ∧ (n < dC S → aOv S = nI (dC S - n)) := by
  have hd := dC_le S
  have e : aOv S = nI (dC S) - nI n := by
    unfold aOv dC
    rw [hn]
  have h1 := pk_sub_toInt (a := dC S) (b := n) (by omega) (by omega)
  refine ⟨?_, fun h => by rw [e]; exact pk_sub (by omega)⟩
  rw [e, Int32.le_iff_toInt_le, h1]
  have h0 : (0 : Int32).toInt = 0 := rfl
  rw [h0]
  omega
theorem fin_facts {S : AS} {w : Nat → Int32} {t b : Nat} {v : Int32} (h : JN S w t) (hI : Inv S) (hb : aB S 0 b ≠ -1) (ht : aN S 5 = nI t) (h31 : t < 2 ^ 30) : JN (aFin S b v) (upd w b v) t ∧ (∃ d, d ≤ 200 ∧ aN (aFin S b v) 21 = aN S 21 + nI d) ∧ ∃ n, aN S 1 = nI n ∧ n ≤ 40 ∧ dC (aFin S b v) ≤ n := by
  obtain ⟨-, n, hn, h40⟩ := hI.1.2.2.2.2.2
  have hV := Inv_val (v := v) hI hb
  have hJ := JN_val (v := v) (b := b) h ht h31
  have nV : ∀ k, aN (aVal S b v) k = aN S k := fun k => by unfold aVal; split <;> rfl
  have ho := aOv_le (S := aVal S b v) ((nV 1).trans hn) h40
  unfold aFin
  by_cases hc : aOv (aVal S b v) ≤ 0
  · rw [if_pos hc]
    exact ⟨hJ, ⟨0, by decide, by rw [nV]; exact i0 _⟩, n, hn, h40, ho.1.mp hc⟩
  · rw [if_neg hc]
    have hlt : n < dC (aVal S b v) := Nat.lt_of_not_le fun q => hc (ho.1.mpr q)
    have hd := dC_le (aVal S b v)
    rw [ho.2 hlt]
    obtain ⟨j, j1, j2, j3, j4⟩ := WB_spec (m := dC (aVal S b v) - n) (by omega) 200 0 (aVal S b v) rfl (by omega) hV
    refine ⟨JN_WB 200 0 _ hJ hV, ⟨j, by omega, by rw [j4, nV]⟩, n, hn, h40, by omega⟩
