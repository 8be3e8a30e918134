/-! THE TRACE: tokens -/
def TX (n : Nat) (t : Nat → Nat) (τ : ObjS) (ν : MdlS) : Prop := n ≤ 600 ∧ τ.2 5 = nI n ∧ ν.1.2 10 = nI n ∧ ∀ i, i < n → t i < 256 ∧ τ.1 8 i = nI (t i) ∧ ν.1.1 7 i = nI (t i)
/-- what reading tokens leaves alone -/
def Fz (τ0 τ : ObjS) (ν0 ν : MdlS) : Prop := τ.1 = τ0.1 ∧ (∀ k, k ≠ 9 → k ≠ 10 → k ≠ 11 → k ≠ 12 → τ.2 k = τ0.2 k) ∧ ν.1.1 = ν0.1.1 ∧ (∀ k, k ≠ 11 → k ≠ 12 → k ≠ 13 → k ≠ 14 → k ≠ 15 → ν.1.2 k = ν0.1.2 k)
theorem Fz.rf (τ : ObjS) (ν : MdlS) : Fz τ τ ν ν := ⟨rfl, fun _ _ _ _ _ => rfl, rfl, fun _ _ _ _ _ _ => rfl⟩
theorem Fz.tr {τ0 τ1 τ2 : ObjS} {ν0 ν1 ν2 : MdlS} (h : Fz τ0 τ1 ν0 ν1) (g : Fz τ1 τ2 ν1 ν2) : Fz τ0 τ2 ν0 ν2 := ⟨g.1.trans h.1, fun k a b c d => (g.2.1 k a b c d).trans (h.2.1 k a b c d), g.2.2.1.trans h.2.2.1, fun k a b c d e => (g.2.2.2 k a b c d e).trans (h.2.2.2 k a b c d e)⟩
theorem Fz.tx {n : Nat} {t : Nat → Nat} {τ0 τ : ObjS} {ν0 ν : MdlS} (h : Fz τ0 τ ν0 ν) (hx : TX n t τ0 ν0) : TX n t τ ν := by
  obtain ⟨h1, h2, h3, h4⟩ := hx
  refine ⟨h1, (h.2.1 5 (by decide) (by decide) (by decide) (by decide)).trans h2, (h.2.2.2 10 (by decide) (by decide) (by decide) (by decide) (by decide)).trans h3, fun i hi => ?_⟩
  rw [h.1, h.2.2.1]
  exact h4 i hi
theorem Fz.c {τ0 τ : ObjS} {ν0 ν : MdlS} (h : Fz τ0 τ ν0 ν) {k : Nat} (hk : 9 ≤ k ∧ k < 13) (v : Int32) : Fz τ0 (oI τ k v) ν0 ν := ⟨h.1, fun j a b c d => (va_up_ne τ.2 v (show j ≠ k by omega)).trans (h.2.1 j a b c d), h.2.2⟩
theorem Fz.m {τ0 τ : ObjS} {ν0 ν : MdlS} (h : Fz τ0 τ ν0 ν) {k : Nat} (hk : 11 ≤ k ∧ k < 16) (v : Int32) (w : Int64) : Fz τ0 τ ν0 (oI ν.1 k v, w) := ⟨h.1, h.2.1, h.2.2.1, fun j a b c d e => (va_up_ne ν.1.2 v (show j ≠ k by omega)).trans (h.2.2.2 j a b c d e)⟩
section TT
variable {n : Nat} {t : Nat → Nat} {τ : ObjS} {ν : MdlS}
theorem x_sign (h : TX n t τ ν) {p : Nat} (hp : p < n) : f_X7_signAt τ (nI p) = some (nI (t p)) := by
  obtain ⟨h1, h2, h3, h4⟩ := h
  refine e_f (nI_pos (by omega)) (e_f (show ¬ (600 : Int32) ≤ nI p from nI_ge (b := 600) (by omega) (by decide)) (e_g p rfl (by omega) (by decide) ?_))
  rw [nI_clamp (by omega), (h4 p hp).2.1]
theorem x_byte (h : TX n t τ ν) {p : Nat} (hp : p < n) : f_X9_byteAt ν (nI p) = some (nI (t p)) := by
  obtain ⟨h1, h2, h3, h4⟩ := h
  refine e_f (by rw [h3]; exact nI_ge hp (by omega)) (e_g p rfl (by omega) (by decide) ?_)
  rw [nI_clamp (by omega), (h4 p hp).2.2]
theorem x_byteN (h : TX n t τ ν) {p : Nat} (hp : n ≤ p) (hp2 : p < 2 ^ 31) : f_X9_byteAt ν (nI p) = some (-1) := e_t (by rw [h.2.2.1]; exact nI_le hp hp2) rfl
end TT
theorem x_let {b : Nat} (hb : b < 256) : f_X7_isLetter (nI b) = some (if 97 ≤ b ∧ b ≤ 122 then 1 else 0) ∧ f_X9_isLetter (nI b) = some (if 97 ≤ b ∧ b ≤ 122 then 1 else 0) := by
  unfold f_X7_isLetter f_X9_isLetter f_X9_isBetween
  by_cases c1 : b < 97
  · rw [if_pos (show nI b < 97 from nI_lt (b := 97) c1 (by decide)), if_neg (by omega)]
    exact ⟨rfl, zb_0⟩
  · rw [if_neg (show ¬ nI b < 97 from nI_nlt (b := 97) (by omega) (by omega))]
    by_cases c2 : 122 < b
    · rw [if_pos (show (122 : Int32) < nI b from nI_lt (a := 122) c2 (by omega)), if_neg (by omega)]
      exact ⟨rfl, zb_0⟩
    · rw [if_neg (show ¬ (122 : Int32) < nI b from nI_nlt (a := 122) (by omega) (by decide)), if_pos (by omega)]
      exact ⟨rfl, zb_1⟩
theorem x_dig {b : Nat} (hb : b < 256) : f_X7_isDigit (nI b) = some (if 48 ≤ b ∧ b ≤ 57 then 1 else 0) ∧ f_X9_isDigit (nI b) = some (if 48 ≤ b ∧ b ≤ 57 then 1 else 0) := by
  unfold f_X7_isDigit f_X9_isDigit f_X9_isBetween
  by_cases c1 : b < 48
  · rw [if_pos (show nI b < 48 from nI_lt (b := 48) c1 (by decide)), if_neg (by omega)]
    exact ⟨rfl, zb_0⟩
  · rw [if_neg (show ¬ nI b < 48 from nI_nlt (b := 48) (by omega) (by omega))]
    by_cases c2 : 57 < b
    · rw [if_pos (show (57 : Int32) < nI b from nI_lt (a := 57) c2 (by omega)), if_neg (by omega)]
      exact ⟨rfl, zb_0⟩
    · rw [if_neg (show ¬ (57 : Int32) < nI b from nI_nlt (a := 57) (by omega) (by decide)), if_pos (by omega)]
      exact ⟨rfl, zb_1⟩
theorem x_letN : f_X9_isLetter (-1) = some 0 := rfl
theorem x_digN : f_X9_isDigit (-1) = some 0 := rfl
def mTok (N : Nat) (μ : MdlS) : Option MdlS := cx_let ((oI μ.1 12 (μ.1.2 11), μ.2)) fun z8 => cx_let ((oI z8.1 14 0, z8.2)) fun z9 => cx_let ((z9.1, 0)) fun z10 => cx_let ((oI z10.1 15 0, z10.2)) fun z11 => (f_X9_byteAt z11 (z11.1.2 11)).bind fun r12 => if r12 = (-1) then cx_let ((oI z11.1 13 0, z11.2)) fun z28 => some z28 else (f_X9_isLetter r12).bind fun r15 => if r15 = 0 then (f_X9_isDigit r12).bind fun r18 => if r18 = 0 then if r12 = 59 then cx_let ((oI z11.1 13 4, z11.2)) fun z24 => cx_let ((oI z24.1 11 (z24.1.2 11 + 1), z24.2)) fun z25 => some z25 else cx_let ((oI z11.1 13 1, z11.2)) fun z22 => cx_let ((oI z22.1 11 (z22.1.2 11 + 1), z22.2)) fun z23 => some z23 else cx_let ((oI z11.1 13 3, z11.2)) fun z26 => f_X9_nextToken_b187 N N z26 else cx_let ((oI z11.1 13 2, z11.2)) fun z27 => f_X9_nextToken_b96 N N z27
theorem l_blank {N n : Nat} {t : Nat → Nat} : ∀ r n1 n2 p (τ : ObjS) (ν : MdlS), p + r = n → r < n1 → r < n2 → TX n t τ ν → τ.2 9 = nI p → ν.1.2 11 = nI p → ∃ (p' : Nat) (τ' : ObjS) (ν' : MdlS), p' ≤ n ∧ Fz τ τ' ν ν' ∧ τ'.2 9 = nI p' ∧ ν'.1.2 11 = nI p' ∧ f_X7_nextToken_b0 N n1 τ = f_X7_nextToken_b38 N τ' ∧ f_X9_nextToken_b0 N n2 ν = mTok N ν' := by
  intro r
  induction r with
  | zero =>
    intro n1 n2 p τ ν hp h1 h2 hx hc hm
    obtain ⟨n1, rfl⟩ : ∃ j, n1 = j + 1 := ⟨n1 - 1, by omega⟩
    obtain ⟨n2, rfl⟩ : ∃ j, n2 = j + 1 := ⟨n2 - 1, by omega⟩
    have hn := hx.1
    have hb : f_X9_byteAt ν (ν.1.2 11) = some (-1) := by rw [hm]; exact x_byteN hx (by omega) (by omega)
    refine ⟨p, τ, ν, by omega, Fz.rf _ _, hc, hm, ?_, ?_⟩
    · rw [f_X7_nextToken_b0, hc, hx.2.1, if_pos (nI_le (by omega) (by omega))]
    · rw [f_X9_nextToken_b0, hb, Option.bind_some, if_neg (by decide), Option.bind_some, if_neg (by decide)]
      rfl
  | succ r ih =>
    intro n1 n2 p τ ν hp h1 h2 hx hc hm
    obtain ⟨n1, rfl⟩ : ∃ j, n1 = j + 1 := ⟨n1 - 1, by omega⟩
    obtain ⟨n2, rfl⟩ : ∃ j, n2 = j + 1 := ⟨n2 - 1, by omega⟩
    have hn := hx.1
    have hpn : p < n := by omega
    have hb : f_X9_byteAt ν (ν.1.2 11) = some (nI (t p)) := by rw [hm]; exact x_byte hx hpn
    have hs : f_X7_signAt τ (τ.2 9) = some (nI (t p)) := by rw [hc]; exact x_sign hx hpn
    have ht := (hx.2.2.2 p hpn).1
    have hle : ¬ τ.2 5 ≤ τ.2 9 := by rw [hc, hx.2.1]; exact nI_ge hpn (by omega)
    have e1 : τ.2 9 + 1 = nI (p + 1) := by rw [hc, nI_1]
    have e2 : ν.1.2 11 + 1 = nI (p + 1) := by rw [hm, nI_1]
    have hF : Fz τ (oI τ 9 (nI (p + 1))) ν (oI ν.1 11 (nI (p + 1)), ν.2) := ((Fz.rf τ ν).c (by decide) _).m (by decide) _ _
    rw [f_X7_nextToken_b0, if_neg hle, hs, Option.bind_some, f_X9_nextToken_b0, hb, Option.bind_some, e1, e2]
    by_cases c1 : t p = 32
    · obtain ⟨p', τ', ν', q0, q1, q2, q3, q4, q5⟩ := ih n1 n2 (p + 1) _ _ (by omega) (by omega) (by omega) (hF.tx hx) rfl rfl
      refine ⟨p', τ', ν', q0, hF.tr q1, q2, q3, ?_, ?_⟩
      · rw [c1]
        exact q4
      · rw [if_pos (by rw [c1]; rfl)]
        exact q5
    · have n32 : ¬ nI (t p) = 32 := fun q => c1 ((nI_eq (b := 32) (by omega) (by decide)).mp q)
      by_cases c2 : t p = 10
      · obtain ⟨p', τ', ν', q0, q1, q2, q3, q4, q5⟩ := ih n1 n2 (p + 1) _ _ (by omega) (by omega) (by omega) (hF.tx hx) rfl rfl
        refine ⟨p', τ', ν', q0, hF.tr q1, q2, q3, ?_, ?_⟩
        · rw [c2]
          exact q4
        · rw [if_neg n32, Option.bind_some, if_pos (by rw [c2]; rfl)]
          exact q5
      · have n10 : ¬ nI (t p) = 10 := fun q => c2 ((nI_eq (b := 10) (by omega) (by decide)).mp q)
        refine ⟨p, τ, ν, by omega, Fz.rf _ _, hc, hm, ?_, ?_⟩
        · have e3 : f_X7_isBlank (nI (t p)) = some 0 := e_f n32 (e_f n10 rfl)
          rw [e3, Option.bind_some, if_pos rfl]
        · rw [if_neg n32, Option.bind_some, if_neg n10]
          rfl
def Tk (N n : Nat) (τ : ObjS) (ν : MdlS) : Prop := ∃ s p κ, p ≤ n ∧ τ.2 9 = nI p ∧ ν.1.2 11 = nI p ∧ τ.2 11 = nI s ∧ ν.1.2 12 = nI s ∧ 1 ≤ κ ∧ κ ≤ 9 ∧ τ.2 10 = nI κ ∧ (∀ i, i < 4 → f_X9_isWord N ν (4 + i) = some (if κ = i + 1 then 1 else 0)) ∧ (ν.1.2 13 = 3 ↔ κ = 6) ∧ (ν.1.2 13 = 4 ↔ κ = 7) ∧ (ν.1.2 13 = 0 ↔ κ = 9) ∧ (κ = 6 → ∃ w, w < 2 ^ 31 ∧ ν.1.2 15 = nI w ∧ τ.2 12 = nI (min w 1000))
theorem Tk_no {N n s p κ : Nat} {τ : ObjS} {ν : MdlS} {k : Int32} (h1 : p ≤ n) (h2 : τ.2 9 = nI p) (h3 : ν.1.2 11 = nI p) (h4 : τ.2 11 = nI s) (h5 : ν.1.2 12 = nI s) (h6 : 6 ≤ κ) (h7 : κ ≤ 9) (h8 : τ.2 10 = nI κ) (h9 : ν.1.2 13 = k) (h10 : k ≠ 2) (h11 : (k = 3 ↔ κ = 6) ∧ (k = 4 ↔ κ = 7) ∧ (k = 0 ↔ κ = 9)) (h12 : κ = 6 → ∃ w, w < 2 ^ 31 ∧ ν.1.2 15 = nI w ∧ τ.2 12 = nI (min w 1000)) : Tk N n τ ν := by
  refine ⟨s, p, κ, h1, h2, h3, h4, h5, by omega, h7, h8, fun i hi => ?_, by rw [h9]; exact h11.1, by rw [h9]; exact h11.2.1, by rw [h9]; exact h11.2.2, h12⟩
  unfold f_X9_isWord
  rw [h9, if_neg h10, if_neg (by omega)]
theorem l_num {N n : Nat} {t : Nat → Nat} : ∀ r n1 n2 p w (τ : ObjS) (ν : MdlS), p + r = n → r < n1 → r < n2 → TX n t τ ν → τ.2 9 = nI p → ν.1.2 11 = nI p → τ.2 12 = nI (min w 1000) → ν.1.2 15 = nI w → w ≤ 100000009 → ∃ (p' w' : Nat) (τ' : ObjS) (ν' : MdlS), p' ≤ n ∧ w' < 2 ^ 31 ∧ Fz τ τ' ν ν' ∧ τ'.2 9 = nI p' ∧ ν'.1.2 11 = nI p' ∧ τ'.2 12 = nI (min w' 1000) ∧ ν'.1.2 15 = nI w' ∧ τ'.2 10 = τ.2 10 ∧ τ'.2 11 = τ.2 11 ∧ ν'.1.2 12 = ν.1.2 12 ∧ ν'.1.2 13 = ν.1.2 13 ∧ f_X7_readNumber_b11 N n1 τ = some τ' ∧ f_X9_nextToken_b187 N n2 ν = some ν' := by
  intro r
  induction r with
  | zero =>
    intro n1 n2 p w τ ν hp h1 h2 hx hc hm h12 h15 hw
    obtain ⟨n1, rfl⟩ : ∃ j, n1 = j + 1 := ⟨n1 - 1, by omega⟩
    obtain ⟨n2, rfl⟩ : ∃ j, n2 = j + 1 := ⟨n2 - 1, by omega⟩
    have hn := hx.1
    have hb : f_X9_byteAt ν (ν.1.2 11) = some (-1) := by rw [hm]; exact x_byteN hx (by omega) (by omega)
    refine ⟨p, w, τ, ν, by omega, by omega, Fz.rf _ _, hc, hm, h12, h15, rfl, rfl, rfl, rfl, ?_, ?_⟩
    · rw [f_X7_readNumber_b11, hc, hx.2.1, if_pos (nI_le (by omega) (by omega))]
    · rw [f_X9_nextToken_b187]
      exact e_b hb (e_b x_digN (e_t rfl rfl))
  | succ r ih =>
    intro n1 n2 p w τ ν hp h1 h2 hx hc hm h12 h15 hw
    obtain ⟨n1, rfl⟩ : ∃ j, n1 = j + 1 := ⟨n1 - 1, by omega⟩
    obtain ⟨n2, rfl⟩ : ∃ j, n2 = j + 1 := ⟨n2 - 1, by omega⟩
    have hn := hx.1
    have hpn : p < n := by omega
    have hb : f_X9_byteAt ν (ν.1.2 11) = some (nI (t p)) := by rw [hm]; exact x_byte hx hpn
    have hs : f_X7_signAt τ (τ.2 9) = some (nI (t p)) := by rw [hc]; exact x_sign hx hpn
    have ht := (hx.2.2.2 p hpn).1
    have hle : ¬ τ.2 5 ≤ τ.2 9 := by rw [hc, hx.2.1]; exact nI_ge hpn (by omega)
    obtain ⟨d8, d9⟩ := x_dig ht
    rw [f_X7_readNumber_b11, f_X9_nextToken_b187]
    by_cases c : 48 ≤ t p ∧ t p ≤ 57
    · rw [if_pos c] at d8 d9
      obtain ⟨v, hv⟩ : ∃ v, v = 10 * w + t p - 48 := ⟨_, rfl⟩
      have ec : (if τ.2 12 * 10 + nI (t p) - 48 < 1000 then τ.2 12 * 10 + nI (t p) - 48 else 1000) = nI (min v 1000) := by
        have e : τ.2 12 * 10 + nI (t p) - 48 = nI (min w 1000 * 10 + t p - 48) := by
          rw [h12, show nI (min w 1000) * 10 = nI (min w 1000 * 10) from pk_mul _ 10, nI_add, show (48 : Int32) = nI 48 from rfl, pk_sub (by omega)]
        rw [e]
        by_cases q : min w 1000 * 10 + t p - 48 < 1000
        · rw [if_pos (show nI (min w 1000 * 10 + t p - 48) < 1000 from nI_lt (b := 1000) q (by decide))]
          exact congrArg nI (by omega)
        · rw [if_neg (show ¬ nI (min w 1000 * 10 + t p - 48) < 1000 from nI_nlt (b := 1000) (by omega) (by omega))]
          exact congrArg nI (show 1000 = min v 1000 by omega)
      have e1 : τ.2 9 + 1 = nI (p + 1) := by rw [hc, nI_1]
      have e2 : ν.1.2 11 + 1 = nI (p + 1) := by rw [hm, nI_1]
      have cls : ∀ r8, f_X7_readNumber_b11 N n1 (oI (oI τ 12 (nI (min v 1000))) 9 (nI (p + 1))) = r8 → (if τ.2 5 ≤ τ.2 9 then some τ else (f_X7_signAt τ (τ.2 9)).bind fun r2 => (f_X7_isDigit r2).bind fun r4 => if r4 = 0 then some τ else (f_X7_signAt τ (τ.2 9)).bind fun r7 => cx_let (oI τ 12 (if (((τ.2 12 * 10) + r7) - 48) < 1000 then (((τ.2 12 * 10) + r7) - 48) else 1000)) fun z9 => cx_let (oI z9 9 (z9.2 9 + 1)) fun z10 => f_X7_readNumber_b11 N n1 z10) = r8 := fun r8 h8 => by
        refine e_f hle (e_b hs (e_b d8 (e_f (by decide) (e_b hs (e_l (e_l ?_))))))
        rw [ec]
        show f_X7_readNumber_b11 N n1 (oI (oI τ 12 (nI (min v 1000))) 9 (τ.2 9 + 1)) = r8
        rw [e1]
        exact h8
      by_cases c7 : w ≤ 10000000
      · have hF : Fz τ (oI (oI τ 12 (nI (min v 1000))) 9 (nI (p + 1))) ν (oI (oI ν.1 15 (nI v)) 11 (nI (p + 1)), ν.2) := ((((Fz.rf τ ν).c (by decide) (nI (min v 1000))).c (by decide) (nI (p + 1))).m (k := 15) (by decide) (nI v) ν.2).m (k := 11) (by decide) (nI (p + 1)) ν.2
        obtain ⟨p', w', τ', ν', q0, q1, q2, q3, q4, q5, q6, q7, q8, q9, q10, q11, q12⟩ := ih n1 n2 (p + 1) v _ _ (by omega) (by omega) (by omega) (hF.tx hx) rfl rfl rfl rfl (by omega)
        refine ⟨p', w', τ', ν', q0, q1, hF.tr q2, q3, q4, q5, q6, q7, q8, q9, q10, cls _ q11, ?_⟩
        refine e_b hb (e_b d9 (e_f (by decide) (e_t (by rw [h15]; exact nI_le (b := 10000000) c7 (by decide)) (e_b hb (e_l (e_l ?_))))))
        show f_X9_nextToken_b187 N n2 ((oI (oI ν.1 15 (10 * ν.1.2 15 + nI (t p) - 48)) 11 (ν.1.2 11 + 1), ν.2) : MdlS) = _
        rw [e2, h15, show (10 : Int32) * nI w = nI (10 * w) from pk_mul 10 w, nI_add, show (48 : Int32) = nI 48 from rfl, pk_sub (by omega), ← hv]
        exact q12
      · have hmin : min v 1000 = min w 1000 := by omega
        have hF : Fz τ (oI (oI τ 12 (nI (min v 1000))) 9 (nI (p + 1))) ν (oI (oI ν.1 15 (nI w)) 11 (nI (p + 1)), ν.2) := ((((Fz.rf τ ν).c (by decide) (nI (min v 1000))).c (by decide) (nI (p + 1))).m (k := 15) (by decide) (nI w) ν.2).m (k := 11) (by decide) (nI (p + 1)) ν.2
        obtain ⟨p', w', τ', ν', q0, q1, q2, q3, q4, q5, q6, q7, q8, q9, q10, q11, q12⟩ := ih n1 n2 (p + 1) w _ _ (by omega) (by omega) (by omega) (hF.tx hx) rfl rfl (congrArg nI hmin) rfl (by omega)
        refine ⟨p', w', τ', ν', q0, q1, hF.tr q2, q3, q4, q5, q6, q7, q8, q9, q10, cls _ q11, ?_⟩
        refine e_b hb (e_b d9 (e_f (by decide) (e_f (by rw [h15]; exact nI_ge (a := 10000000) (by omega) (by omega)) (e_l (e_l ?_)))))
        show f_X9_nextToken_b187 N n2 ((oI (oI ν.1 15 (ν.1.2 15)) 11 (ν.1.2 11 + 1), ν.2) : MdlS) = _
        rw [e2, h15]
        exact q12
    · rw [if_neg c] at d8 d9
      exact ⟨p, w, τ, ν, by omega, by omega, Fz.rf _ _, hc, hm, h12, h15, rfl, rfl, rfl, rfl, e_f hle (e_b hs (e_b d8 (e_t rfl rfl))), e_b hb (e_b d9 (e_t rfl rfl))⟩
-- words
def encN (t : Nat → Nat) (s : Nat) : Nat → Nat
  | 0 => 0
  | j + 1 => 27 * encN t s j + (t (s + j) - 96)
theorem encN_lt {t : Nat → Nat} {s : Nat} : ∀ j, (∀ q, q < j → 97 ≤ t (s + q) ∧ t (s + q) ≤ 122) → encN t s j < 27 ^ j := by
  intro j
  induction j with
  | zero => intro _; exact Nat.one_pos
  | succ j ih =>
    intro h
    have h1 := ih (fun q hq => h q (by omega))
    have h2 := h j (by omega)
    rw [encN, Nat.pow_succ]
    omega
theorem encN_inj {t u : Nat → Nat} {s z : Nat} : ∀ j, (∀ q, q < j → 97 ≤ t (s + q) ∧ t (s + q) ≤ 122) → (∀ q, q < j → 97 ≤ u (z + q) ∧ u (z + q) ≤ 122) → encN t s j = encN u z j → ∀ q, q < j → t (s + q) = u (z + q) := by
  intro j
  induction j with
  | zero => intro _ _ _ q hq; omega
  | succ j ih =>
    intro h1 h2 he q hq
    rw [encN, encN] at he
    have a := h1 j (by omega)
    have b := h2 j (by omega)
    by_cases e : q = j
    · subst e
      omega
    · exact ih (fun q hq => h1 q (by omega)) (fun q hq => h2 q (by omega)) (by omega) q (by omega)
theorem encN_congr {t u : Nat → Nat} {s z : Nat} : ∀ j, (∀ q, q < j → t (s + q) = u (z + q)) → encN t s j = encN u z j := by
  intro j
  induction j with
  | zero => intro _; rfl
  | succ j ih =>
    intro h
    rw [encN, encN, ih (fun q hq => h q (by omega)), h j (by omega)]
def wN (i q : Nat) : Nat := (([[114, 101, 97, 100], [119, 114, 105, 116, 101], [102, 108, 117, 115, 104], [116, 111]] : List (List Nat)).getD (i % 4) []).getD q 0
def wL (i : Nat) : Nat := (wB i).length
theorem wB_at {i : Nat} (hi : i < 8) : 2 ≤ wL i ∧ wL i ≤ 5 ∧ ∀ q, q < wL i → (wB i).getD q 0 = nI (wN i q) ∧ 97 ≤ wN i q ∧ wN i q ≤ 122 := by
  rcases (show i = 0 ∨ i = 1 ∨ i = 2 ∨ i = 3 ∨ i = 4 ∨ i = 5 ∨ i = 6 ∨ i = 7 by omega) with rfl | rfl | rfl | rfl | rfl | rfl | rfl | rfl
  all_goals
    refine ⟨by decide, by decide, fun q hq => ?_⟩
    have hq5 : q < 5 := Nat.lt_of_lt_of_le hq (by decide)
    rcases (show q = 0 ∨ q = 1 ∨ q = 2 ∨ q = 3 ∨ q = 4 by omega) with rfl | rfl | rfl | rfl | rfl
    all_goals first | exact ⟨rfl, by decide, by decide⟩ | exact absurd hq (by decide)
theorem wL_4 {i : Nat} (hi : i < 4) : wL (4 + i) = wL i ∧ ∀ q, wN (4 + i) q = wN i q := by
  rcases (show i = 0 ∨ i = 1 ∨ i = 2 ∨ i = 3 by omega) with rfl | rfl | rfl | rfl <;> exact ⟨rfl, fun _ => rfl⟩
theorem c_word20 {N n s i : Nat} {t : Nat → Nat} {τ : ObjS} {ν : MdlS} (hx : TX n t τ ν) (hi : i < 8) (h11 : τ.2 11 = nI s) (hs : s + wL i ≤ n) : ∀ r n1 k, k + r = wL i → r < n1 → ((∀ q, q < wL i → k ≤ q → t (s + q) = wN i q) → f_X7_isWord_b20 N n1 τ i (nI k) = some 1) ∧ (¬ (∀ q, q < wL i → k ≤ q → t (s + q) = wN i q) → f_X7_isWord_b20 N n1 τ i (nI k) = some 0) := by
  obtain ⟨-, w5, hw⟩ := wB_at hi
  have hn := hx.1
  have hl : f_J0_length_8abf5 i = some (nI (wL i)) := rfl
  intro r
  induction r with
  | zero =>
    intro n1 k hk h1
    obtain ⟨n1, rfl⟩ : ∃ j, n1 = j + 1 := ⟨n1 - 1, by omega⟩
    rw [f_X7_isWord_b20]
    refine ⟨fun _ => e_b hl (e_t (nI_le (by omega) (by omega)) rfl), fun h => absurd (fun q h1 h2 => by omega) h⟩
  | succ r ih =>
    intro n1 k hk h1
    obtain ⟨n1, rfl⟩ : ∃ j, n1 = j + 1 := ⟨n1 - 1, by omega⟩
    have hkl : k < wL i := by omega
    have hch : f_J0_charAt_5068e i (nI k) = some (nI (wN i k)) := by
      refine e_g k rfl hkl (by have : (wB i).length = wL i := rfl; omega) ?_
      rw [nI_clamp (by omega), (hw k hkl).1]
    have ht := hx.2.2.2 (s + k) (by omega)
    have pre : ∀ r8, (if nI (t (s + k)) = nI (wN i k) then f_X7_isWord_b20 N n1 τ i (nI (k + 1)) else some 0) = r8 → f_X7_isWord_b20 N (n1 + 1) τ i (nI k) = r8 := fun r8 h8 => by
      rw [f_X7_isWord_b20]
      refine e_b hl (e_f (nI_ge hkl (by omega)) ?_)
      rw [h11, nI_add, nI_1]
      refine e_f (nI_pos (by omega)) (e_f (show ¬ (600 : Int32) ≤ nI (s + k) from nI_ge (b := 600) (by omega) (by decide)) (e_g (s + k) rfl (by omega) (by decide) (e_b hch ?_)))
      rw [nI_clamp (by omega), ht.2.1]
      exact h8
    have hwk := hw k hkl
    obtain ⟨i1, i2⟩ := ih n1 (k + 1) (by omega) (by omega)
    refine ⟨fun h => pre _ (e_t (by rw [h k hkl (Nat.le_refl _)]) (i1 (fun q q1 q2 => h q q1 (by omega)))), fun h => pre _ ?_⟩
    by_cases e : t (s + k) = wN i k
    · refine e_t (by rw [e]) (i2 (fun h2 => h (fun q q1 q2 => ?_)))
      by_cases eq : q = k
      · rw [eq]; exact e
      · exact h2 q q1 (by omega)
    · exact e_f (fun q => e ((nI_eq (by omega) (by omega)).mp q)) rfl
theorem m_word26 {N i : Nat} {ν : MdlS} (hi : i < 8) : ∀ r n1 k, k + r = wL i → r < n1 → (ν.2 = lN (encN (wN i) 0 (wL i)) → f_X9_isWord_b26 N n1 ν i (lN (encN (wN i) 0 k)) (nI k) = some 1) ∧ (ν.2 ≠ lN (encN (wN i) 0 (wL i)) → f_X9_isWord_b26 N n1 ν i (lN (encN (wN i) 0 k)) (nI k) = some 0) := by
  obtain ⟨-, w5, hw⟩ := wB_at hi
  have hl : f_J0_length_8abf5 i = some (nI (wL i)) := rfl
  intro r
  induction r with
  | zero =>
    intro n1 k hk h1
    obtain ⟨n1, rfl⟩ : ∃ j, n1 = j + 1 := ⟨n1 - 1, by omega⟩
    rw [f_X9_isWord_b26, show k = wL i by omega]
    exact ⟨fun h => e_b hl (e_t (nI_le (by omega) (by omega)) (e_t h rfl)), fun h => e_b hl (e_t (nI_le (by omega) (by omega)) (e_f h rfl))⟩
  | succ r ih =>
    intro n1 k hk h1
    obtain ⟨n1, rfl⟩ : ∃ j, n1 = j + 1 := ⟨n1 - 1, by omega⟩
    have hkl : k < wL i := by omega
    have hwk := hw k hkl
    have hch : f_J0_charAt_5068e i (nI k) = some (nI (wN i k)) := by
      refine e_g k rfl hkl (by have : (wB i).length = wL i := rfl; omega) ?_
      rw [nI_clamp (by omega), hwk.1]
    have en : ((27 * lN (encN (wN i) 0 k)) + (Int32.toInt64 (nI (wN i k)))) - 96 = lN (encN (wN i) 0 (k + 1)) := by
      rw [show (27 : Int64) * lN (encN (wN i) 0 k) = lN (27 * encN (wN i) 0 k) from lN_mul 27 _, nI_l (by omega), lN_add, show (96 : Int64) = lN 96 from rfl, lN_sub (by omega), encN, Nat.zero_add]
      exact congrArg lN (by omega)
    have pre : ∀ r8, f_X9_isWord_b26 N n1 ν i (lN (encN (wN i) 0 (k + 1))) (nI (k + 1)) = r8 → f_X9_isWord_b26 N (n1 + 1) ν i (lN (encN (wN i) 0 k)) (nI k) = r8 := fun r8 h8 => by
      rw [f_X9_isWord_b26]
      refine e_b hl (e_f (nI_ge hkl (by omega)) (e_b hch ?_))
      rw [en, nI_1]
      exact h8
    obtain ⟨i1, i2⟩ := ih n1 (k + 1) (by omega) (by omega)
    exact ⟨fun h => pre _ (i1 h), fun h => pre _ (i2 h)⟩
/-- the word that stands from s on, j letters long, is name i -/
def isW (t : Nat → Nat) (s j i : Nat) : Prop := j = wL i ∧ ∀ q, q < wL i → t (s + q) = wN i q
theorem c_isWord {N n s j i : Nat} {t : Nat → Nat} {τ : ObjS} {ν : MdlS} (hN : 100 ≤ N) (hx : TX n t τ ν) (hi : i < 8) (h11 : τ.2 11 = nI s) (h9 : τ.2 9 = nI (s + j)) (hj : s + j ≤ n) : (isW t s j i → f_X7_isWord N τ i = some 1) ∧ (¬ isW t s j i → f_X7_isWord N τ i = some 0) := by
  obtain ⟨-, w5, hw⟩ := wB_at hi
  have hn := hx.1
  have hl : f_J0_length_8abf5 i = some (nI (wL i)) := rfl
  have e : τ.2 9 - τ.2 11 = nI j := by rw [h9, h11, pk_sub (by omega)]; exact congrArg nI (by omega)
  unfold f_X7_isWord
  rw [e]
  by_cases c : j = wL i
  · obtain ⟨i1, i2⟩ := c_word20 (N := N) hx hi h11 (by omega) (wL i) N 0 (Nat.zero_add _) (by omega)
    refine ⟨fun h => e_b hl (e_t (by rw [c]) (i1 (fun q hq _ => h.2 q hq))), fun h => e_b hl (e_t (by rw [c]) (i2 (fun h2 => h ⟨c, fun q hq => h2 q hq (Nat.zero_le _)⟩)))⟩
  · exact ⟨fun h => absurd h.1 c, fun _ => e_b hl (e_f (fun q => c ((nI_eq (by omega) (by omega)).mp q)) rfl)⟩
theorem m_isWord {N n s j i : Nat} {t : Nat → Nat} {ν : MdlS} (hN : 100 ≤ N) (hi : i < 4) (h13 : ν.1.2 13 = 2) (h14 : ν.1.2 14 = nI j) (hj : j < 2 ^ 31) (hw2 : j ≤ 5 → ν.2 = lN (encN t s j)) (hlet : ∀ q, q < j → 97 ≤ t (s + q) ∧ t (s + q) ≤ 122) : (isW t s j i → f_X9_isWord N ν (4 + i) = some 1) ∧ (¬ isW t s j i → f_X9_isWord N ν (4 + i) = some 0) := by
  obtain ⟨-, w5, hw⟩ := wB_at (i := 4 + i) (by omega)
  obtain ⟨l4, n4⟩ := wL_4 hi
  have hl : f_J0_length_8abf5 (4 + i) = some (nI (wL (4 + i))) := rfl
  unfold f_X9_isWord
  rw [if_pos h13, h14]
  by_cases c : j = wL (4 + i)
  · obtain ⟨i1, i2⟩ := m_word26 (N := N) (ν := ν) (i := 4 + i) (by omega) (wL (4 + i)) N 0 (Nat.zero_add _) (by omega)
    have hv := hw2 (by omega)
    refine ⟨fun h => e_b hl (e_t (by rw [c]) (i1 ?_)), fun h => e_b hl (e_t (by rw [c]) (i2 (fun he => h ⟨by rw [← l4]; exact c, ?_⟩)))⟩
    · rw [hv, c]
      exact congrArg lN (encN_congr (z := 0) _ (fun q hq => by rw [h.2 q (by omega), Nat.zero_add, n4]))
    · rw [hv, c] at he
      have b1 := encN_lt (t := t) (s := s) (wL (4 + i)) (fun q hq => hlet q (by omega))
      have b2 := encN_lt (t := wN (4 + i)) (s := 0) (wL (4 + i)) (fun q hq => by rw [Nat.zero_add]; exact (hw q hq).2)
      have hp : 27 ^ wL (4 + i) ≤ 27 ^ 5 := Nat.pow_le_pow_right (by decide) w5
      have hb : (27 : Nat) ^ 5 < 2 ^ 31 := by decide
      have he2 := (lN_eq (by omega) (by omega)).mp he
      intro q hq
      have := encN_inj (t := t) (u := wN (4 + i)) (s := s) (z := 0) (wL (4 + i)) (fun q hq => hlet q (by omega)) (fun q hq => by rw [Nat.zero_add]; exact (hw q hq).2) he2 q (by omega)
      rw [this, Nat.zero_add, n4]
  · refine ⟨fun h => absurd (h.1.trans l4.symm) c, fun _ => e_b hl (e_f (fun q => c ((nI_eq (by omega) (by omega)).mp q)) rfl)⟩
theorem isW_one {t : Nat → Nat} {s j i k : Nat} (hi : i < 4) (hk : k < 4) (h1 : isW t s j i) (h2 : isW t s j k) : i = k := by
  have e : wL i = wL k := h1.1.symm.trans h2.1
  have p0 := (wB_at (i := i) (by omega)).1
  have p1 := (wB_at (i := k) (by omega)).1
  have f0 : wN i 0 = wN k 0 := (h1.2 0 (by omega)).symm.trans (h2.2 0 (by omega))
  rcases (show i = 0 ∨ i = 1 ∨ i = 2 ∨ i = 3 by omega) with rfl | rfl | rfl | rfl <;> rcases (show k = 0 ∨ k = 1 ∨ k = 2 ∨ k = 3 by omega) with rfl | rfl | rfl | rfl
  all_goals first | rfl | exact absurd f0 (by decide)
