/-! THE WORLD OF A RUN: an object of the class, an object of the model, the two places of answers, the caches that are saved -/
abbrev BigS : Type := GLS × MdlS × (Nat → Int64) × (Nat → UInt64) × (Nat → CacS)
def adBig (aG aM aO : Nat) (bs : List Nat) : Nat → Nat := fun i => if i < 262 then adGL aG i else if i < 271 then aM + (i - 262) else if i < 273 then aO + (i - 271) else bs.getD ((i - 273) / 25) 0 + (i - 273) % 25
def ceBig (cA : Nat → ClassId) (aG aM : Nat) (bs : List Nat) (sv : Nat → Option Nat) (β : BigS) : Nat → va_E := fun i =>
  if i < 262 then ceGL sv cA (adGL aG) β.1 i
  else if i < 271 then ceModel cA (fun j => aM + j) β.2.1 (i - 262)
  else if i = 271 then .inl (cA 2, (1, .inr (.inl β.2.2.1)))
  else if i = 272 then .inl (cA 3, (1, .inr (.inr (.inr (.inl β.2.2.2.1)))))
  else ceCache cA (fun j => bs.getD ((i - 273) / 25) 0 + j) (β.2.2.2.2 ((i - 273) / 25)) ((i - 273) % 25)
def Dj (lo aG aM aO : Nat) (bs : List Nat) : Prop := lo ≤ aG ∧ aG + 262 ≤ aM ∧ aM + 9 ≤ aO ∧ ∀ k, k < bs.length → aO + 2 ≤ bs.getD k 0 ∧ ∀ k', k < k' → k' < bs.length → bs.getD k 0 + 25 ≤ bs.getD k' 0
def BW (G : va_G) (cA : Nat → ClassId) (H0 : Heap) (lo aG aM aO : Nat) (bs : List Nat) (sv : Nat → Option Nat) (β : BigS) (H : Heap) : Prop :=
  (∀ i, i < 273 + 25 * bs.length → va_at G vwCl (adBig aG aM aO bs i, ceBig cA aG aM bs sv β i) H) ∧ ∀ q : Nat, q < lo → H[q]? = H0[q]?
theorem cx_congr {S : Type} {G : va_G} {lo n : Nat} {ad ad' : Nat → Nat} {cell : S → Nat → va_E} {P : S → Heap → Prop} (h : cx G lo n ad cell P) (e : ∀ i, i < n → ad i = ad' i) : cx G lo n ad' cell P :=
  ⟨fun σ H hP i hi => by rw [← e i hi]; exact h.1 σ H hP i hi, fun i hi => by rw [← e i hi]; exact h.2.1 i hi, fun σ σ' H H1 i hi hP hz hq hat hc => h.2.2.1 σ σ' H H1 i hi hP hz (by rw [e i hi]; exact hq) (by rw [e i hi]; exact hat) hc, h.2.2.2⟩
theorem adGL_lt {a i : Nat} (h : i < 262) : a ≤ adGL a i ∧ adGL a i < a + 262 := by
  unfold adGL
  by_cases h0 : i = 0
  · rw [if_pos h0]; omega
  · rw [if_neg h0]
    by_cases h1 : i = 1
    · rw [if_pos h1]; omega
    · rw [if_neg h1]; omega
theorem adGL_inj {a i j : Nat} (hi : i < 262) (hj : j < 262) (h : adGL a i = adGL a j) : i = j := by
  unfold adGL at h
  by_cases h0 : i = 0
  · rw [if_pos h0] at h
    by_cases k0 : j = 0
    · omega
    · rw [if_neg k0] at h
      by_cases k1 : j = 1
      · rw [if_pos k1] at h; omega
      · rw [if_neg k1] at h; omega
  · rw [if_neg h0] at h
    by_cases h1 : i = 1
    · rw [if_pos h1] at h
      by_cases k0 : j = 0
      · rw [if_pos k0] at h; omega
      · rw [if_neg k0] at h
        by_cases k1 : j = 1
        · omega
        · rw [if_neg k1] at h; omega
    · rw [if_neg h1] at h
      by_cases k0 : j = 0
      · rw [if_pos k0] at h; omega
      · rw [if_neg k0] at h
        by_cases k1 : j = 1
        · rw [if_pos k1] at h; omega
        · rw [if_neg k1] at h; omega
section BIG
variable {G : va_G} {cA : Nat → ClassId} {H0 : Heap} {lo aG aM aO : Nat} {bs : List Nat} {sv : Nat → Option Nat} {β : BigS} {H H1 : Heap}
theorem ad_G {i : Nat} (h : i < 262) : adBig aG aM aO bs i = adGL aG i := if_pos h
theorem ad_M {i : Nat} (h : i < 9) : adBig aG aM aO bs (262 + i) = aM + i := by
  unfold adBig
  rw [if_neg (by omega), if_pos (by omega), show 262 + i - 262 = i by omega]
theorem ad_O {i : Nat} (h : i < 2) : adBig aG aM aO bs (271 + i) = aO + i := by
  unfold adBig
  rw [if_neg (by omega), if_neg (by omega), if_pos (by omega), show 271 + i - 271 = i by omega]
theorem ad_S {k r : Nat} (h : r < 25) : adBig aG aM aO bs (273 + (25 * k + r)) = bs.getD k 0 + r := by
  unfold adBig
  rw [if_neg (by omega), if_neg (by omega), if_neg (by omega), show (273 + (25 * k + r) - 273) / 25 = k by omega, show (273 + (25 * k + r) - 273) % 25 = r by omega]
theorem big_cases {i n : Nat} (h : i < 273 + 25 * n) : i < 262 ∨ (∃ j, j < 9 ∧ i = 262 + j) ∨ (∃ j, j < 2 ∧ i = 271 + j) ∨ ∃ k r, k < n ∧ r < 25 ∧ i = 273 + (25 * k + r) := by
  by_cases h1 : i < 262
  · exact Or.inl h1
  by_cases h2 : i < 271
  · exact Or.inr (Or.inl ⟨i - 262, by omega, by omega⟩)
  by_cases h3 : i < 273
  · exact Or.inr (Or.inr (Or.inl ⟨i - 271, by omega, by omega⟩))
  · exact Or.inr (Or.inr (Or.inr ⟨(i - 273) / 25, (i - 273) % 25, by omega, by omega, by omega⟩))
theorem ad_inj (D : Dj lo aG aM aO bs) : ∀ i j, i < 273 + 25 * bs.length → j < 273 + 25 * bs.length → adBig aG aM aO bs i = adBig aG aM aO bs j → i = j := by
  obtain ⟨d0, d1, d2, d3⟩ := D
  intro i j hi hj h
  rcases big_cases hi with h1 | ⟨i', hi', rfl⟩ | ⟨i', hi', rfl⟩ | ⟨k, r, hk, hr, rfl⟩
  · have b1 := adGL_lt (a := aG) h1
    rw [ad_G h1] at h
    rcases big_cases hj with g1 | ⟨j', hj', rfl⟩ | ⟨j', hj', rfl⟩ | ⟨k', r', hk', hr', rfl⟩
    · rw [ad_G g1] at h; exact adGL_inj h1 g1 h
    · rw [ad_M hj'] at h; omega
    · rw [ad_O hj'] at h; omega
    · rw [ad_S hr'] at h; have := (d3 k' hk').1; omega
  · rw [ad_M hi'] at h
    rcases big_cases hj with g1 | ⟨j', hj', rfl⟩ | ⟨j', hj', rfl⟩ | ⟨k', r', hk', hr', rfl⟩
    · have b1 := adGL_lt (a := aG) g1; rw [ad_G g1] at h; omega
    · rw [ad_M hj'] at h; omega
    · rw [ad_O hj'] at h; omega
    · rw [ad_S hr'] at h; have := (d3 k' hk').1; omega
  · rw [ad_O hi'] at h
    rcases big_cases hj with g1 | ⟨j', hj', rfl⟩ | ⟨j', hj', rfl⟩ | ⟨k', r', hk', hr', rfl⟩
    · have b1 := adGL_lt (a := aG) g1; rw [ad_G g1] at h; omega
    · rw [ad_M hj'] at h; omega
    · rw [ad_O hj'] at h; omega
    · rw [ad_S hr'] at h; have := (d3 k' hk').1; omega
  · rw [ad_S hr] at h
    have e3 := (d3 k hk).1
    rcases big_cases hj with g1 | ⟨j', hj', rfl⟩ | ⟨j', hj', rfl⟩ | ⟨k', r', hk', hr', rfl⟩
    · have b1 := adGL_lt (a := aG) g1; rw [ad_G g1] at h; omega
    · rw [ad_M hj'] at h; omega
    · rw [ad_O hj'] at h; omega
    · rw [ad_S hr'] at h
      by_cases c1 : k < k'
      · have := (d3 k hk).2 k' c1 hk'; omega
      · by_cases c2 : k' < k
        · have := (d3 k' hk').2 k c2 hk; omega
        · have c3 : k = k' := by omega
          subst c3
          omega
theorem ad_lo (D : Dj lo aG aM aO bs) : ∀ i, i < 273 + 25 * bs.length → lo ≤ adBig aG aM aO bs i := by
  obtain ⟨d0, d1, d2, d3⟩ := D
  intro i hi
  rcases big_cases hi with h1 | ⟨i', hi', rfl⟩ | ⟨i', hi', rfl⟩ | ⟨k, r, hk, hr, rfl⟩
  · have b1 := adGL_lt (a := aG) h1; rw [ad_G h1]; omega
  · rw [ad_M hi']; omega
  · rw [ad_O hi']; omega
  · rw [ad_S hr]; have := (d3 k hk).1; omega
theorem BW_cx (D : Dj lo aG aM aO bs) : cx G lo (273 + 25 * bs.length) (adBig aG aM aO bs) (ceBig cA aG aM bs sv) (BW G cA H0 lo aG aM aO bs sv) := cx_base (by omega) (ad_lo D) (ad_inj D)
theorem BW_G (D : Dj lo aG aM aO bs) (β : BigS) : cx G lo 262 (adGL aG) (ceGL sv cA (adGL aG)) (fun γ => BW G cA H0 lo aG aM aO bs sv (γ, β.2)) := by
  refine cx_congr (cx_sub (BW_cx D) (fun γ => (γ, β.2)) (fun i => i) (fun i hi => by omega) (fun τ i hi => if_pos hi) (fun τ τ' j hj hne => ?_) (fun i j _ _ e => e)) (fun i hi => ad_G hi)
  have h1 : ¬ j < 262 := fun q => hne j q rfl
  unfold ceBig
  rw [if_neg h1, if_neg h1]
theorem ce_M (i : Nat) (h : i < 9) (β : BigS) : ceBig cA aG aM bs sv β (262 + i) = ceModel cA (fun j => aM + j) β.2.1 i := by
  unfold ceBig
  rw [if_neg (by omega), if_pos (by omega), show 262 + i - 262 = i by omega]
theorem BW_M (D : Dj lo aG aM aO bs) (β : BigS) : cx G lo 9 (fun j => aM + j) (ceModel cA (fun j => aM + j)) (fun μ => BW G cA H0 lo aG aM aO bs sv (β.1, μ, β.2.2)) := by
  refine cx_congr (cx_sub (BW_cx D) (fun μ => (β.1, μ, β.2.2)) (fun i => 262 + i) (fun i hi => by omega) (fun τ i hi => ce_M i hi _) (fun τ τ' j hj hne => ?_) (fun i j _ _ e => by omega)) (fun i hi => ad_M hi)
  unfold ceBig
  by_cases h1 : j < 262
  · rw [if_pos h1, if_pos h1]
  · rw [if_neg h1, if_neg h1]
    have h2 : ¬ j < 271 := fun q => hne (j - 262) (by omega) (by omega)
    rw [if_neg h2, if_neg h2]
theorem BW_O (D : Dj lo aG aM aO bs) (β : BigS) : cx G lo 1 (fun _ => aO) (fun f _ => .inl (cA 2, (1, .inr (.inl f)))) (fun f => BW G cA H0 lo aG aM aO bs sv (β.1, β.2.1, f, β.2.2.2)) := by
  refine cx_congr (cx_sub (BW_cx D) (fun f => (β.1, β.2.1, f, β.2.2.2)) (fun i => 271 + i) (fun i hi => by omega) (fun τ i hi => ?_) (fun τ τ' j hj hne => ?_) (fun i j _ _ e => by omega)) (fun i hi => by rw [ad_O (by omega), show i = 0 by omega]; rfl)
  · rw [show i = 0 by omega]; rfl
  · unfold ceBig
    by_cases h1 : j < 262
    · rw [if_pos h1, if_pos h1]
    · rw [if_neg h1, if_neg h1]
      by_cases h2 : j < 271
      · rw [if_pos h2, if_pos h2]
      · have h3 : ¬ j = 271 := fun q => hne 0 (by omega) (by omega)
        rw [if_neg h2, if_neg h2, if_neg h3, if_neg h3]
theorem BW_D (D : Dj lo aG aM aO bs) (β : BigS) : cx G lo 1 (fun _ => aO + 1) (fun f _ => .inl (cA 3, (1, .inr (.inr (.inr (.inl f)))))) (fun f => BW G cA H0 lo aG aM aO bs sv (β.1, β.2.1, β.2.2.1, f, β.2.2.2.2)) := by
  refine cx_congr (cx_sub (BW_cx D) (fun f => (β.1, β.2.1, β.2.2.1, f, β.2.2.2.2)) (fun i => 271 + (1 + i)) (fun i hi => by omega) (fun τ i hi => ?_) (fun τ τ' j hj hne => ?_) (fun i j _ _ e => by omega)) (fun i hi => by rw [ad_O (by omega), show i = 0 by omega])
  · rw [show i = 0 by omega]; rfl
  · unfold ceBig
    by_cases h1 : j < 262
    · rw [if_pos h1, if_pos h1]
    · rw [if_neg h1, if_neg h1]
      by_cases h2 : j < 271
      · rw [if_pos h2, if_pos h2]
      · rw [if_neg h2, if_neg h2]
        by_cases h4 : j = 271
        · rw [if_pos h4, if_pos h4]
        · have h3 : ¬ j = 272 := fun q => hne 0 (by omega) (by omega)
          rw [if_neg h4, if_neg h4, if_neg h3, if_neg h3]
theorem ce_S (k r : Nat) (h : r < 25) (β : BigS) : ceBig cA aG aM bs sv β (273 + (25 * k + r)) = ceCache cA (fun j => bs.getD k 0 + j) (β.2.2.2.2 k) r := by
  unfold ceBig
  rw [if_neg (by omega), if_neg (by omega), if_neg (by omega), if_neg (by omega), show (273 + (25 * k + r) - 273) / 25 = k by omega, show (273 + (25 * k + r) - 273) % 25 = r by omega]
theorem BW_S (D : Dj lo aG aM aO bs) (β : BigS) (k : Nat) (hk : k < bs.length) : cx G lo 25 (fun j => bs.getD k 0 + j) (ceCache cA (fun j => bs.getD k 0 + j)) (fun σ => BW G cA H0 lo aG aM aO bs sv (β.1, β.2.1, β.2.2.1, β.2.2.2.1, va_up β.2.2.2.2 k σ)) := by
  refine cx_congr (cx_sub (BW_cx D) (fun σ => (β.1, β.2.1, β.2.2.1, β.2.2.2.1, va_up β.2.2.2.2 k σ)) (fun i => 273 + (25 * k + i)) (fun i hi => by omega) (fun τ i hi => ?_) (fun τ τ' j hj hne => ?_) (fun i j _ _ e => by omega)) (fun i hi => ad_S hi)
  · rw [ce_S k i hi]
    show ceCache cA _ (va_up β.2.2.2.2 k τ k) i = _
    rw [va_up_self]
  · rcases big_cases hj with h1 | ⟨i', hi', rfl⟩ | ⟨i', hi', rfl⟩ | ⟨k2, r, hk2, hr, rfl⟩
    · unfold ceBig; rw [if_pos h1, if_pos h1]
    · rw [ce_M i' hi', ce_M i' hi']
    · rcases (show i' = 0 ∨ i' = 1 by omega) with rfl | rfl <;> rfl
    · rw [ce_S k2 r hr, ce_S k2 r hr]
      have hne2 : k2 ≠ k := fun q => hne r hr (by rw [q])
      show ceCache cA _ (va_up β.2.2.2.2 k τ k2) r = ceCache cA _ (va_up β.2.2.2.2 k τ' k2) r
      rw [va_up_ne _ _ hne2, va_up_ne _ _ hne2]
/-- one more saved cache, new -/
theorem BW_push (D : Dj lo aG aM aO bs) (hP : BW G cA H0 lo aG aM aO bs sv β H) {b : Nat} (hb : b = H.size) (hG : gr G (lsX1 cA b) b H H1) : Dj lo aG aM aO (bs ++ [b]) ∧ BW G cA H0 lo aG aM aO (bs ++ [b]) sv (β.1, β.2.1, β.2.2.1, β.2.2.2.1, va_up β.2.2.2.2 bs.length iCac) H1 := by
  have hl : (bs ++ [b]).length = bs.length + 1 := by rw [List.length_append]; rfl
  have g1 : ∀ k, k < bs.length → (bs ++ [b]).getD k 0 = bs.getD k 0 := fun k hk => by
    rw [List.getD_eq_getElem?_getD, List.getD_eq_getElem?_getD, List.getElem?_append_left hk]
  have g2 : (bs ++ [b]).getD bs.length 0 = b := by
    rw [List.getD_eq_getElem?_getD, List.getElem?_append_right (Nat.le_refl _), Nat.sub_self]; rfl
  have hO : aO + 1 < H.size := by
    have e1 : adBig aG aM aO bs (271 + 1) = aO + 1 := ad_O (i := 1) (by decide)
    have h1 : adBig aG aM aO bs (271 + 1) < H.size := (hP.1 (271 + 1) (by omega)).lt
    rw [e1] at h1
    exact h1
  have hS : ∀ k, k < bs.length → bs.getD k 0 + 24 < H.size := fun k hk => by
    have e1 : adBig aG aM aO bs (273 + (25 * k + 24)) = bs.getD k 0 + 24 := ad_S (k := k) (r := 24) (by decide)
    have h1 : adBig aG aM aO bs (273 + (25 * k + 24)) < H.size := (hP.1 (273 + (25 * k + 24)) (by omega)).lt
    rw [e1] at h1
    exact h1
  refine ⟨⟨D.1, D.2.1, D.2.2.1, fun k hk => ?_⟩, fun i hi => ?_, fun q hq => ?_⟩
  · by_cases e : k = bs.length
    · subst e
      rw [g2]
      exact ⟨by omega, fun k' h1 h2 => by omega⟩
    · have hk2 : k < bs.length := by omega
      rw [g1 k hk2]
      refine ⟨(D.2.2.2 k hk2).1, fun k' h1 h2 => ?_⟩
      by_cases e2 : k' = bs.length
      · subst e2
        rw [g2]; have := hS k hk2; omega
      · rw [g1 k' (by omega)]
        exact (D.2.2.2 k hk2).2 k' h1 (by omega)
  · by_cases e : i < 273 + 25 * bs.length
    · have ea : adBig aG aM aO (bs ++ [b]) i = adBig aG aM aO bs i := by
        rcases big_cases e with h1 | ⟨i', hi', rfl⟩ | ⟨i', hi', rfl⟩ | ⟨k, r, hk, hr, rfl⟩
        · rw [ad_G h1, ad_G h1]
        · rw [ad_M hi', ad_M hi']
        · rw [ad_O hi', ad_O hi']
        · rw [ad_S hr, ad_S hr, g1 k hk]
      have ec : ceBig cA aG aM (bs ++ [b]) sv (β.1, β.2.1, β.2.2.1, β.2.2.2.1, va_up β.2.2.2.2 bs.length iCac) i = ceBig cA aG aM bs sv β i := by
        rcases big_cases e with h1 | ⟨i', hi', rfl⟩ | ⟨i', hi', rfl⟩ | ⟨k, r, hk, hr, rfl⟩
        · unfold ceBig; rw [if_pos h1, if_pos h1]
        · rw [ce_M i' hi', ce_M i' hi']
        · rcases (show i' = 0 ∨ i' = 1 by omega) with rfl | rfl <;> rfl
        · rw [ce_S k r hr, ce_S k r hr, g1 k hk]
          show ceCache cA _ (va_up β.2.2.2.2 bs.length iCac k) r = _
          rw [va_up_ne _ _ (show k ≠ bs.length by omega)]
      rw [ea, ec]
      have h1 := hP.1 i e
      exact h1.kept (hG.2.2 _ (by rw [hb]; exact h1.lt))
    · obtain ⟨r, hr, rfl⟩ : ∃ r, r < 25 ∧ i = 273 + (25 * bs.length + r) := ⟨i - 273 - 25 * bs.length, by omega, by omega⟩
      rw [ad_S hr, ce_S bs.length r hr, g2]
      show va_at G vwCl (b + r, ceCache cA (fun j => b + j) (va_up β.2.2.2.2 bs.length iCac bs.length) r) H1
      rw [va_up_self]
      exact hG.2.1 r _ (lsX1_at r hr)
  · have h1 : lo ≤ H.size := by have := D.1; have := D.2.1; have := D.2.2.1; omega
    exact (hG.2.2 q (by omega)).trans (hP.2 q hq)
/-- a place of the row of what is saved has got another reference -/
theorem BW_sv (D : Dj lo aG aM aO bs) (hP : BW G cA H0 lo aG aM aO bs sv β H) {sv2 : Nat → Option Nat} (hq : ∀ q : Nat, q ≠ aG + 261 → H1[q]? = H[q]?) (hat : va_at G vwCl (aG + 261, .inl (cA 4, (2, .inr (.inr (.inr (.inr sv2)))))) H1) : BW G cA H0 lo aG aM aO bs sv2 β H1 := by
  refine ⟨fun i hi => ?_, fun q hl => (hq q (by have := D.1; omega)).trans (hP.2 q hl)⟩
  by_cases e : i = 1
  · subst e
    exact hat
  · have h1 := hP.1 i hi
    have ec : ceBig cA aG aM bs sv2 β i = ceBig cA aG aM bs sv β i := by
      unfold ceBig
      by_cases h2 : i < 262
      · rw [if_pos h2, if_pos h2]
        unfold ceGL
        rw [if_neg e, if_neg e]
      · rw [if_neg h2, if_neg h2]
    rw [ec]
    refine h1.kept (hq _ (fun q => e (ad_inj D i 1 hi (by omega) ?_)))
    exact q
end BIG
