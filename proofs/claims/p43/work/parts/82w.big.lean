/-! THE WORLD OF A RUN: the law's object, its array, the object of the class, and what is saved -/
def adLw (aL aN aG : Nat) : Nat → Nat := fun i => if i = 0 then aL else if i = 1 then aN else adGL aG (i - 2)
def adBig (aL aN aG : Nat) (bs : Option Nat) : Nat → Nat := fun i => if i < 264 then adLw aL aN aG i else bs.getD 0 + (i - 264)
abbrev BigS : Type := LwS × CacS
def svB (bs : Option Nat) : Nat → Option Nat := fun t => if t = 1 then bs else none
def nB : Option Nat → Nat
  | none => 264
  | some _ => 289
def ceBig (cA : Nat → ClassId) (sa aL aN aG : Nat) (bs : Option Nat) (β : BigS) : Nat → va_E := fun i =>
  if i < 264 then ceLaw sa (svB bs) cA (adLw aL aN aG) β.1 i else ceCache cA (fun j => bs.getD 0 + j) β.2 (i - 264)
/-- the places are apart, behind lo, and none of them is frozen -/
def BD (Fz : Nat → Prop) (lo aL aN aG : Nat) (bs : Option Nat) : Prop :=
  (∀ i, i < nB bs → lo ≤ adBig aL aN aG bs i ∧ ¬ Fz (adBig aL aN aG bs i)) ∧ ∀ i j, i < nB bs → j < nB bs → adBig aL aN aG bs i = adBig aL aN aG bs j → i = j
def BW (G : va_G) (cA : Nat → ClassId) (H0 : Heap) (Fz : Nat → Prop) (sa aL aN aG : Nat) (bs : Option Nat) (β : BigS) (H : Heap) : Prop :=
  (∀ i, i < nB bs → va_at G vwCl (adBig aL aN aG bs i, ceBig cA sa aL aN aG bs β i) H) ∧ ∀ q : Nat, Fz q → q < H.size ∧ H[q]? = H0[q]?
theorem nB_ge (bs : Option Nat) : 264 ≤ nB bs := match bs with
  | none => Nat.le_refl _
  | some _ => (by decide : 264 ≤ 289)
theorem cx_congr {S : Type} {G : va_G} {lo n : Nat} {ad ad' : Nat → Nat} {cell : S → Nat → va_E} {P : S → Heap → Prop} (h : cx G lo n ad cell P) (e : ∀ i, i < n → ad i = ad' i) : cx G lo n ad' cell P :=
  ⟨fun σ H hP i hi => by rw [← e i hi]; exact h.1 σ H hP i hi, fun i hi => by rw [← e i hi]; exact h.2.1 i hi, fun σ σ' H H1 i hi hP hz hq hat hc => h.2.2.1 σ σ' H H1 i hi hP hz (by rw [e i hi]; exact hq) (by rw [e i hi]; exact hat) hc, h.2.2.2⟩
section BIG
variable {G : va_G} {cA : Nat → ClassId} {H0 : Heap} {Fz : Nat → Prop} {lo sa aL aN aG : Nat} {bs : Option Nat}
theorem BW_cx (D : BD Fz lo aL aN aG bs) : cx G lo (nB bs) (adBig aL aN aG bs) (ceBig cA sa aL aN aG bs) (BW G cA H0 Fz sa aL aN aG bs) := by
  refine ⟨fun σ H hP i hi => hP.1 i hi, fun i hi => (D.1 i hi).1, fun σ σ' H H1 i hi hP hz hq hat hc => ⟨fun j hj => ?_, fun q hf => ⟨by rw [hz]; exact (hP.2 q hf).1, (hq q (fun e => (D.1 i hi).2 (e ▸ hf))).trans (hP.2 q hf).2⟩⟩, fun σ H H1 hP hz hq => ⟨fun j hj => (hP.1 j hj).kept (hq _ (hP.1 j hj).lt), fun q hf => ⟨by have := (hP.2 q hf).1; omega, (hq q (hP.2 q hf).1).trans (hP.2 q hf).2⟩⟩⟩
  by_cases e : j = i
  · subst e; exact hat
  · rw [hc j hj e]; exact (hP.1 j hj).kept (hq _ (fun q => e (D.2 j i hj hi q)))
theorem ad_L {i : Nat} (h : i < 264) : adBig aL aN aG bs i = adLw aL aN aG i := if_pos h
theorem ad_S {b r : Nat} : adBig aL aN aG (some b) (264 + r) = b + r := by
  unfold adBig
  rw [if_neg (by omega), show 264 + r - 264 = r by omega]
  rfl
theorem BW_L (D : BD Fz lo aL aN aG bs) (κ : CacS) : cx G lo 264 (adLw aL aN aG) (ceLaw sa (svB bs) cA (adLw aL aN aG)) (fun δ => BW G cA H0 Fz sa aL aN aG bs (δ, κ)) := by
  refine cx_congr (cx_sub (BW_cx D) (fun δ => (δ, κ)) (fun i => i) (fun i hi => Nat.lt_of_lt_of_le hi (nB_ge bs)) (fun τ i hi => if_pos hi) (fun τ τ' j hj hne => ?_) (fun i j _ _ e => e)) (fun i hi => ad_L hi)
  have h1 : ¬ j < 264 := fun q => hne j q rfl
  unfold ceBig
  rw [if_neg h1, if_neg h1]
theorem BW_S {b : Nat} (D : BD Fz lo aL aN aG (some b)) (δ : LwS) : cx G lo 25 (fun j => b + j) (ceCache cA (fun j => b + j)) (fun κ => BW G cA H0 Fz sa aL aN aG (some b) (δ, κ)) := by
  refine cx_congr (cx_sub (BW_cx D) (fun κ => (δ, κ)) (fun i => 264 + i) (fun i hi => by show 264 + i < 289; omega) (fun τ i hi => ?_) (fun τ τ' j hj hne => ?_) (fun i j _ _ e => by omega)) (fun i hi => ad_S)
  · unfold ceBig
    rw [if_neg (show ¬ 264 + i < 264 by omega), show 264 + i - 264 = i by omega]
    rfl
  · have h1 : j < 264 := by
      have h2 : j < 289 := hj
      exact Nat.lt_of_not_le fun q => hne (j - 264) (by omega) (by omega)
    unfold ceBig
    rw [if_pos h1, if_pos h1]
/-- what is written behind the end leaves the world -/
theorem BW_loc (κ : CacS) : locA1 (fun δ => BW G cA H0 Fz sa aL aN aG bs (δ, κ)) := fun x0 h0 hP0 x H H1 hP hz hq =>
  ⟨fun i hi => (hP.1 i hi).kept (hq _ (fun e => by have h1 := (hP0.1 i hi).lt; simp only at h1; omega)), fun q hf => ⟨by rw [hz]; exact (hP.2 q hf).1, (hq q (fun e => by have := (hP0.2 q hf).1; omega)).trans (hP.2 q hf).2⟩⟩
theorem ceLaw_sv {sv sv' : Nat → Option Nat} {ad : Nat → Nat} {δ : LwS} {i : Nat} (h : i ≠ 3) : ceLaw sa sv cA ad δ i = ceLaw sa sv' cA ad δ i := by
  unfold ceLaw
  by_cases h0 : i = 0
  · rw [if_pos h0, if_pos h0]
  · rw [if_neg h0, if_neg h0]
    by_cases h1 : i = 1
    · rw [if_pos h1, if_pos h1]
    · rw [if_neg h1, if_neg h1]
      unfold ceGL
      by_cases h2 : i - 2 = 0
      · rw [if_pos h2, if_pos h2]
      · rw [if_neg h2, if_neg h2, if_neg (show ¬ i - 2 = 1 by omega), if_neg (show ¬ i - 2 = 1 by omega)]
theorem BW_saved {H H2 H3 : Heap} {δ : LwS} {κ : CacS} (D : BD Fz lo aL aN aG none) (hP : BW G cA H0 Fz sa aL aN aG none (δ, κ) H) (hG : gr G (lsX1 cA H.size) H.size H H2) (hz : H3.size = H2.size) (hq : ∀ q : Nat, q ≠ aG + 261 → H3[q]? = H2[q]?) (hat : va_at G vwCl (aG + 261, .inl (cA 4, (2, .inr (.inr (.inr (.inr (va_up (svB none) 1 (some H.size)))))))) H3) :
    BD Fz lo aL aN aG (some H.size) ∧ BW G cA H0 Fz sa aL aN aG (some H.size) (δ, iCac) H3 := by
  have h3 : adBig aL aN aG none 3 = aG + 261 := rfl
  have hlt : ∀ i, i < 264 → adLw aL aN aG i < H.size := fun i hi => by
    have := (hP.1 i hi).lt
    rw [ad_L hi] at this
    exact this
  have hlo : lo ≤ H.size := by
    have a1 := (D.1 0 (by decide)).1
    have a2 := hlt 0 (by decide)
    rw [ad_L (by decide)] at a1
    omega
  have hcase : ∀ i, i < 289 → i < 264 ∨ ∃ r, r < 25 ∧ i = 264 + r := fun i hi => by
    by_cases h : i < 264
    · exact Or.inl h
    · exact Or.inr ⟨i - 264, by omega, by omega⟩
  refine ⟨⟨fun i hi => ?_, fun i j hi hj e => ?_⟩, fun i hi => ?_, fun q hf => ?_⟩
  · rcases hcase i hi with h | ⟨r, hr, rfl⟩
    · have := D.1 i h
      rw [ad_L h] at this ⊢
      exact this
    · rw [ad_S]
      exact ⟨by omega, fun q => by have := (hP.2 _ q).1; omega⟩
  · rcases hcase i hi with h | ⟨r, hr, rfl⟩
    · rcases hcase j hj with h' | ⟨r', hr', rfl⟩
      · rw [ad_L h, ad_L h'] at e
        exact D.2 i j h h' (by rw [ad_L h, ad_L h']; exact e)
      · rw [ad_L h, ad_S] at e
        have := hlt i h
        omega
    · rcases hcase j hj with h' | ⟨r', hr', rfl⟩
      · rw [ad_L h', ad_S] at e
        have := hlt j h'
        omega
      · rw [ad_S, ad_S] at e
        omega
  · rcases hcase i hi with h | ⟨r, hr, rfl⟩
    · have hc := hP.1 i h
      have hl := hlt i h
      rw [ad_L h] at hc ⊢
      unfold ceBig at hc ⊢
      rw [if_pos h] at hc ⊢
      by_cases e : i = 3
      · subst e
        exact va_atq (fun j hj => by unfold va_up svB; by_cases h1 : j = 1 <;> simp [h1]) hat
      · rw [ceLaw_sv (sv' := svB none) e]
        refine hc.kept ((hq _ (fun q => e (D.2 i 3 h (by decide) ?_))).trans (hG.2.2 _ hl))
        rw [ad_L h, h3]
        exact q
    · rw [ad_S]
      unfold ceBig
      rw [if_neg (by omega), show 264 + r - 264 = r by omega]
      have hc : va_at G vwCl (H.size + r, ceCache cA (fun j => H.size + j) iCac r) H2 := hG.2.1 r _ (lsX1_at r hr)
      exact hc.kept (hq _ (fun q => by have := hlt 3 (by decide); rw [show adLw aL aN aG 3 = aG + 261 from rfl] at this; simp only at q; omega))
  · have hf1 := hP.2 q hf
    have hz2 : H.size ≤ H2.size := by rw [hG.1]; exact Nat.le_add_right _ _
    refine ⟨by omega, ((hq q (fun e => ?_)).trans (hG.2.2 q hf1.1)).trans hf1.2⟩
    exact (D.1 3 (by decide)).2 (by rw [h3, ← e]; exact hf)
end BIG
