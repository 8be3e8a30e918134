/-! THE TRACE: its parser -/
theorem l_word {N n s : Nat} {t : Nat → Nat} : ∀ r n1 n2 p j (τ : ObjS) (ν : MdlS), p + r = n → s + j = p → r < n1 → r < n2 → TX n t τ ν → τ.2 9 = nI p → ν.1.2 11 = nI p → ν.1.2 14 = nI j → (j ≤ 5 → ν.2 = lN (encN t s j)) → (∀ q, q < j → 97 ≤ t (s + q) ∧ t (s + q) ≤ 122) → ∃ (j' : Nat) (τ' : ObjS) (ν' : MdlS), s + j' ≤ n ∧ Fz τ τ' ν ν' ∧ τ'.2 9 = nI (s + j') ∧ ν'.1.2 11 = nI (s + j') ∧ ν'.1.2 14 = nI j' ∧ (j' ≤ 5 → ν'.2 = lN (encN t s j')) ∧ (∀ q, q < j' → 97 ≤ t (s + q) ∧ t (s + q) ≤ 122) ∧ τ'.2 11 = τ.2 11 ∧ ν'.1.2 12 = ν.1.2 12 ∧ ν'.1.2 13 = ν.1.2 13 ∧ f_X7_readWord_b0 N n1 τ = f_X7_readWord_b38 N τ' ∧ f_X9_nextToken_b96 N n2 ν = some ν' := by
  intro r
  induction r with
  | zero =>
    intro n1 n2 p j τ ν hp hj h1 h2 hx hc hm h14 hw hl
    obtain ⟨n1, rfl⟩ : ∃ j, n1 = j + 1 := ⟨n1 - 1, by omega⟩
    obtain ⟨n2, rfl⟩ : ∃ j, n2 = j + 1 := ⟨n2 - 1, by omega⟩
    have hn := hx.1
    have hb : f_X9_byteAt ν (ν.1.2 11) = some (-1) := by rw [hm]; exact x_byteN hx (by omega) (by omega)
    refine ⟨j, τ, ν, by omega, Fz.rf _ _, by rw [hj]; exact hc, by rw [hj]; exact hm, h14, hw, hl, rfl, rfl, rfl, ?_, ?_⟩
    · rw [f_X7_readWord_b0, hc, hx.2.1, if_pos (nI_le (by omega) (by omega))]
    · rw [f_X9_nextToken_b96]
      exact e_b hb (e_b x_letN (e_t rfl rfl))
  | succ r ih =>
    intro n1 n2 p j τ ν hp hj h1 h2 hx hc hm h14 hw hl
    obtain ⟨n1, rfl⟩ : ∃ j, n1 = j + 1 := ⟨n1 - 1, by omega⟩
    obtain ⟨n2, rfl⟩ : ∃ j, n2 = j + 1 := ⟨n2 - 1, by omega⟩
    have hn := hx.1
    have hpn : p < n := by omega
    have hb : f_X9_byteAt ν (ν.1.2 11) = some (nI (t p)) := by rw [hm]; exact x_byte hx hpn
    have hs : f_X7_signAt τ (τ.2 9) = some (nI (t p)) := by rw [hc]; exact x_sign hx hpn
    have ht := (hx.2.2.2 p hpn).1
    have hle : ¬ τ.2 5 ≤ τ.2 9 := by rw [hc, hx.2.1]; exact nI_ge hpn (by omega)
    obtain ⟨d8, d9⟩ := x_let ht
    by_cases c : 97 ≤ t p ∧ t p ≤ 122
    · rw [if_pos c] at d8 d9
      have e1 : τ.2 9 + 1 = nI (p + 1) := by rw [hc, nI_1]
      have e2 : ν.1.2 11 + 1 = nI (p + 1) := by rw [hm, nI_1]
      have e3 : ν.1.2 14 + 1 = nI (j + 1) := by rw [h14, nI_1]
      have hl2 : ∀ q, q < j + 1 → 97 ≤ t (s + q) ∧ t (s + q) ≤ 122 := fun q hq => by
        by_cases e : q = j
        · rw [e, hj]; exact c
        · exact hl q (by omega)
      have go : ∀ y : Int64, (j + 1 ≤ 5 → y = lN (encN t s (j + 1))) → (f_X9_nextToken_b96 N (n2 + 1) ν = f_X9_nextToken_b96 N n2 ((oI (oI ν.1 14 (nI (j + 1))) 11 (nI (p + 1)), y) : MdlS)) → ∃ (j' : Nat) (τ' : ObjS) (ν' : MdlS), s + j' ≤ n ∧ Fz τ τ' ν ν' ∧ τ'.2 9 = nI (s + j') ∧ ν'.1.2 11 = nI (s + j') ∧ ν'.1.2 14 = nI j' ∧ (j' ≤ 5 → ν'.2 = lN (encN t s j')) ∧ (∀ q, q < j' → 97 ≤ t (s + q) ∧ t (s + q) ≤ 122) ∧ τ'.2 11 = τ.2 11 ∧ ν'.1.2 12 = ν.1.2 12 ∧ ν'.1.2 13 = ν.1.2 13 ∧ f_X7_readWord_b0 N (n1 + 1) τ = f_X7_readWord_b38 N τ' ∧ f_X9_nextToken_b96 N (n2 + 1) ν = some ν' := fun y hy hstep => by
        have hF : Fz τ (oI τ 9 (nI (p + 1))) ν (oI (oI ν.1 14 (nI (j + 1))) 11 (nI (p + 1)), y) := (((Fz.rf τ ν).c (by decide) (nI (p + 1))).m (k := 14) (by decide) (nI (j + 1)) y).m (k := 11) (by decide) (nI (p + 1)) y
        obtain ⟨j', τ', ν', q0, q1, q2, q3, q4, q5, q6, q7, q8, q9, q10, q11⟩ := ih n1 n2 (p + 1) (j + 1) (oI τ 9 (nI (p + 1))) (oI (oI ν.1 14 (nI (j + 1))) 11 (nI (p + 1)), y) (by omega) (by omega) (by omega) (by omega) (hF.tx hx) rfl rfl rfl hy hl2
        refine ⟨j', τ', ν', q0, hF.tr q1, q2, q3, q4, q5, q6, q7, q8, q9, ?_, hstep.trans q11⟩
        rw [f_X7_readWord_b0, if_neg hle, hs, Option.bind_some, d8, Option.bind_some, if_neg (by decide), e1]
        exact q10
      by_cases c11 : j < 11
      · refine go (((27 * ν.2) + (Int32.toInt64 (nI (t p)))) - 96) (fun h5 => ?_) ?_
        · rw [hw (by omega), show (27 : Int64) * lN (encN t s j) = lN (27 * encN t s j) from lN_mul 27 _, nI_l (by omega), lN_add, show (96 : Int64) = lN 96 from rfl, lN_sub (by omega), encN, hj]
          exact congrArg lN (by omega)
        · rw [f_X9_nextToken_b96, hb, Option.bind_some, d9, Option.bind_some, if_neg (by decide), if_neg (show ¬ (11 : Int32) ≤ ν.1.2 14 by rw [h14]; exact nI_ge (b := 11) c11 (by decide)), Option.bind_some]
          show f_X9_nextToken_b96 N n2 ((oI (oI ν.1 14 (ν.1.2 14 + 1)) 11 (ν.1.2 11 + 1), _) : MdlS) = _
          rw [e2, e3]
      · refine go ν.2 (fun h5 => by omega) ?_
        rw [f_X9_nextToken_b96, hb, Option.bind_some, d9, Option.bind_some, if_neg (by decide), if_pos (show (11 : Int32) ≤ ν.1.2 14 by rw [h14]; exact nI_le (a := 11) (by omega) (by omega))]
        show f_X9_nextToken_b96 N n2 ((oI (oI ν.1 14 (ν.1.2 14 + 1)) 11 (ν.1.2 11 + 1), ν.2) : MdlS) = _
        rw [e2, e3]
    · rw [if_neg c] at d8 d9
      refine ⟨j, τ, ν, by omega, Fz.rf _ _, by rw [hj]; exact hc, by rw [hj]; exact hm, h14, hw, hl, rfl, rfl, rfl, ?_, ?_⟩
      · rw [f_X7_readWord_b0, if_neg hle, hs, Option.bind_some, d8, Option.bind_some, if_pos rfl]
      · rw [f_X9_nextToken_b96]
        exact e_b hb (e_b d9 (e_t rfl rfl))
theorem x_tok {N n p : Nat} {t : Nat → Nat} {τ : ObjS} {ν : MdlS} (hN : 2000 ≤ N) (hx : TX n t τ ν) (hp : p ≤ n) (hc : τ.2 9 = nI p) (hm : ν.1.2 11 = nI p) : ∃ (τ' : ObjS) (ν' : MdlS), f_X7_nextToken_b38 N τ = some τ' ∧ mTok N ν = some ν' ∧ Fz τ τ' ν ν' ∧ Tk N n τ' ν' := by
  have hn := hx.1
  obtain ⟨τ1, hτ1⟩ : ∃ q : ObjS, q = oI τ 11 (τ.2 9) := ⟨_, rfl⟩
  obtain ⟨ν1, hν1⟩ : ∃ q : MdlS, q = (oI (oI (oI ν.1 12 (ν.1.2 11)) 14 0) 15 0, 0) := ⟨_, rfl⟩
  have hF : Fz τ τ1 ν ν1 := by
    rw [hτ1, hν1]
    exact ((((Fz.rf τ ν).c (k := 11) (by decide) _).m (k := 12) (by decide) _ ν.2).m (k := 14) (by decide) 0 0).m (k := 15) (by decide) 0 0
  have hx1 := hF.tx hx
  have c9 : τ1.2 9 = nI p := by rw [hτ1]; exact hc
  have c11 : τ1.2 11 = nI p := by rw [hτ1]; exact hc
  have m11 : ν1.1.2 11 = nI p := by rw [hν1]; exact hm
  have m12 : ν1.1.2 12 = nI p := by rw [hν1]; exact hm
  have m14 : ν1.1.2 14 = nI 0 := by rw [hν1]; rfl
  have m15 : ν1.1.2 15 = nI 0 := by rw [hν1]; rfl
  have mw : ν1.2 = lN 0 := by rw [hν1]; rfl
  have ec : f_X7_nextToken_b38 N τ = if τ1.2 9 < τ1.2 5 then (f_X7_signAt τ1 (τ1.2 9)).bind fun r3 => (f_X7_isLetter r3).bind fun r5 => if r5 = 0 then (f_X7_isDigit r3).bind fun r8 => if r8 = 0 then if r3 = 59 then cx_let (oI τ1 10 7) fun z14 => cx_let (oI z14 9 (z14.2 9 + 1)) fun z15 => some z15 else cx_let (oI τ1 10 8) fun z12 => cx_let (oI z12 9 (z12.2 9 + 1)) fun z13 => some z13 else (f_X7_readNumber N τ1).bind fun r16 => some r16 else (f_X7_readWord N τ1).bind fun r18 => some r18 else cx_let (oI τ1 10 9) fun z20 => some z20 := by rw [hτ1]; rfl
  have em : mTok N ν = (f_X9_byteAt ν1 (ν1.1.2 11)).bind fun r12 => if r12 = (-1) then cx_let ((oI ν1.1 13 0, ν1.2)) fun z28 => some z28 else (f_X9_isLetter r12).bind fun r15 => if r15 = 0 then (f_X9_isDigit r12).bind fun r18 => if r18 = 0 then if r12 = 59 then cx_let ((oI ν1.1 13 4, ν1.2)) fun z24 => cx_let ((oI z24.1 11 (z24.1.2 11 + 1), z24.2)) fun z25 => some z25 else cx_let ((oI ν1.1 13 1, ν1.2)) fun z22 => cx_let ((oI z22.1 11 (z22.1.2 11 + 1), z22.2)) fun z23 => some z23 else cx_let ((oI ν1.1 13 3, ν1.2)) fun z26 => f_X9_nextToken_b187 N N z26 else cx_let ((oI ν1.1 13 2, ν1.2)) fun z27 => f_X9_nextToken_b96 N N z27 := by rw [hν1]; rfl
  rw [ec, em]
  by_cases hpn : p < n
  · have hb : f_X9_byteAt ν1 (ν1.1.2 11) = some (nI (t p)) := by rw [m11]; exact x_byte hx1 hpn
    have hs : f_X7_signAt τ1 (τ1.2 9) = some (nI (t p)) := by rw [c9]; exact x_sign hx1 hpn
    have ht := (hx1.2.2.2 p hpn).1
    have hlt : τ1.2 9 < τ1.2 5 := by rw [c9, hx1.2.1]; exact nI_lt hpn (by omega)
    have hne : ¬ nI (t p) = -1 := pu_m1 (by omega)
    obtain ⟨d8, d9⟩ := x_let ht
    obtain ⟨g8, g9⟩ := x_dig ht
    by_cases c1 : 97 ≤ t p ∧ t p ≤ 122
    · rw [if_pos c1] at d8 d9
      have hF2 : Fz τ1 τ1 ν1 ((oI ν1.1 13 2, ν1.2) : MdlS) := (Fz.rf τ1 ν1).m (k := 13) (by decide) 2 ν1.2
      obtain ⟨j', τ', ν', q0, q1, q2, q3, q4, q5, q6, q7, q8, q9, q10, q11⟩ := l_word (N := N) (s := p) (n - p) N N p 0 τ1 ((oI ν1.1 13 2, ν1.2) : MdlS) (by omega) rfl (by omega) (by omega) (hF2.tx hx1) c9 m11 m14 (fun _ => mw) (fun q hq => absurd hq (Nat.not_lt_zero _))
      have hx' := q1.tx (hF2.tx hx1)
      have t11 : τ'.2 11 = nI p := q7.trans c11
      have n13 : ν'.1.2 13 = 2 := q9
      have cW (i : Nat) (hi : i < 4) := c_isWord (N := N) (i := i) (j := j') (by omega) hx' (by omega) t11 q2 q0
      have mW (i : Nat) (hi : i < 4) := m_isWord (N := N) (n := n) (i := i) (by omega) hi n13 q4 (by omega) q5 q6
      have fin : ∀ κ, 1 ≤ κ → κ ≤ 5 → f_X7_readWord_b38 N τ' = some (oI τ' 10 (nI κ)) → (∀ i, i < 4 → (isW t p j' i ↔ κ = i + 1)) → ∃ (τ'' : ObjS) (ν'' : MdlS), (if τ1.2 9 < τ1.2 5 then (f_X7_signAt τ1 (τ1.2 9)).bind fun r3 => (f_X7_isLetter r3).bind fun r5 => if r5 = 0 then (f_X7_isDigit r3).bind fun r8 => if r8 = 0 then if r3 = 59 then cx_let (oI τ1 10 7) fun z14 => cx_let (oI z14 9 (z14.2 9 + 1)) fun z15 => some z15 else cx_let (oI τ1 10 8) fun z12 => cx_let (oI z12 9 (z12.2 9 + 1)) fun z13 => some z13 else (f_X7_readNumber N τ1).bind fun r16 => some r16 else (f_X7_readWord N τ1).bind fun r18 => some r18 else cx_let (oI τ1 10 9) fun z20 => some z20) = some τ'' ∧ ((f_X9_byteAt ν1 (ν1.1.2 11)).bind fun r12 => if r12 = (-1) then cx_let ((oI ν1.1 13 0, ν1.2)) fun z28 => some z28 else (f_X9_isLetter r12).bind fun r15 => if r15 = 0 then (f_X9_isDigit r12).bind fun r18 => if r18 = 0 then if r12 = 59 then cx_let ((oI ν1.1 13 4, ν1.2)) fun z24 => cx_let ((oI z24.1 11 (z24.1.2 11 + 1), z24.2)) fun z25 => some z25 else cx_let ((oI ν1.1 13 1, ν1.2)) fun z22 => cx_let ((oI z22.1 11 (z22.1.2 11 + 1), z22.2)) fun z23 => some z23 else cx_let ((oI ν1.1 13 3, ν1.2)) fun z26 => f_X9_nextToken_b187 N N z26 else cx_let ((oI ν1.1 13 2, ν1.2)) fun z27 => f_X9_nextToken_b96 N N z27) = some ν'' ∧ Fz τ τ'' ν ν'' ∧ Tk N n τ'' ν'' := fun κ k1 k5 h38 hiff => by
        refine ⟨oI τ' 10 (nI κ), ν', e_t hlt (e_b hs (e_b d8 (e_f (by decide) (e_b (q10.trans h38) rfl)))), e_b hb (e_f hne (e_b d9 (e_f (by decide) (e_l q11)))), (hF.tr (hF2.tr q1)).c (by decide) _, p, p + j', κ, q0, q2, q3, t11, q8.trans m12, k1, by omega, rfl, fun i hi => ?_, ?_, ?_, ?_, fun e => by omega⟩
        · by_cases hW : isW t p j' i
          · rw [if_pos ((hiff i hi).mp hW)]; exact (mW i hi).1 hW
          · rw [if_neg (fun e => hW ((hiff i hi).mpr e))]; exact (mW i hi).2 hW
        · rw [n13]; exact ⟨fun e => absurd e (by decide), fun e => by omega⟩
        · rw [n13]; exact ⟨fun e => absurd e (by decide), fun e => by omega⟩
        · rw [n13]; exact ⟨fun e => absurd e (by decide), fun e => by omega⟩
      by_cases w0 : isW t p j' 0
      · exact fin 1 (by decide) (by decide) (e_b ((cW 0 (by decide)).1 w0) (e_f (by decide) rfl)) (fun i hi => ⟨fun h => by have := isW_one (i := 0) (k := i) (by decide) hi w0 h; omega, fun e => by rw [show i = 0 by omega]; exact w0⟩)
      · by_cases w1 : isW t p j' 1
        · exact fin 2 (by decide) (by decide) (e_b ((cW 0 (by decide)).2 w0) (e_t rfl (e_b ((cW 1 (by decide)).1 w1) (e_f (by decide) rfl)))) (fun i hi => ⟨fun h => by have := isW_one (i := 1) (k := i) (by decide) hi w1 h; omega, fun e => by rw [show i = 1 by omega]; exact w1⟩)
        · by_cases w2 : isW t p j' 2
          · exact fin 3 (by decide) (by decide) (e_b ((cW 0 (by decide)).2 w0) (e_t rfl (e_b ((cW 1 (by decide)).2 w1) (e_t rfl (e_b ((cW 2 (by decide)).1 w2) (e_f (by decide) rfl)))))) (fun i hi => ⟨fun h => by have := isW_one (i := 2) (k := i) (by decide) hi w2 h; omega, fun e => by rw [show i = 2 by omega]; exact w2⟩)
          · by_cases w3 : isW t p j' 3
            · exact fin 4 (by decide) (by decide) (e_b ((cW 0 (by decide)).2 w0) (e_t rfl (e_b ((cW 1 (by decide)).2 w1) (e_t rfl (e_b ((cW 2 (by decide)).2 w2) (e_t rfl (e_b ((cW 3 (by decide)).1 w3) (e_f (by decide) rfl)))))))) (fun i hi => ⟨fun h => by have := isW_one (i := 3) (k := i) (by decide) hi w3 h; omega, fun e => by rw [show i = 3 by omega]; exact w3⟩)
            · refine fin 5 (by decide) (by decide) (e_b ((cW 0 (by decide)).2 w0) (e_t rfl (e_b ((cW 1 (by decide)).2 w1) (e_t rfl (e_b ((cW 2 (by decide)).2 w2) (e_t rfl (e_b ((cW 3 (by decide)).2 w3) (e_t rfl rfl)))))))) (fun i hi => ⟨fun h => ?_, fun e => by omega⟩)
              rcases (show i = 0 ∨ i = 1 ∨ i = 2 ∨ i = 3 by omega) with rfl | rfl | rfl | rfl
              · exact absurd h w0
              · exact absurd h w1
              · exact absurd h w2
              · exact absurd h w3
    · rw [if_neg c1] at d8 d9
      by_cases c2 : 48 ≤ t p ∧ t p ≤ 57
      · rw [if_pos c2] at g8 g9
        have hF2 : Fz τ1 (oI (oI τ1 10 6) 12 0) ν1 ((oI ν1.1 13 3, ν1.2) : MdlS) := (((Fz.rf τ1 ν1).c (k := 10) (by decide) 6).c (k := 12) (by decide) 0).m (k := 13) (by decide) 3 ν1.2
        obtain ⟨p', w', τ', ν', q0, q1, q2, q3, q4, q5, q6, q7, q8, q9, q10, q11, q12⟩ := l_num (N := N) (n - p) N N p 0 (oI (oI τ1 10 6) 12 0) ((oI ν1.1 13 3, ν1.2) : MdlS) (by omega) (by omega) (by omega) (hF2.tx hx1) c9 m11 rfl m15 (by omega)
        exact ⟨τ', ν', e_t hlt (e_b hs (e_b d8 (e_t rfl (e_b g8 (e_f (by decide) (e_b (e_l (e_l q11)) rfl)))))), e_b hb (e_f hne (e_b d9 (e_t rfl (e_b g9 (e_f (by decide) (e_l q12)))))), hF.tr (hF2.tr q2), Tk_no q0 q3 q4 (q8.trans c11) (q9.trans m12) (κ := 6) (k := 3) (by decide) (by decide) q7 q10 (by decide) (by decide) (fun _ => ⟨w', q1, q6, q5⟩)⟩
      · rw [if_neg c2] at g8 g9
        by_cases c3 : t p = 59
        · refine ⟨oI (oI τ1 10 7) 9 (nI (p + 1)), (oI (oI ν1.1 13 4) 11 (nI (p + 1)), ν1.2), e_t hlt (e_b hs (e_b d8 (e_t rfl (e_b g8 (e_t rfl (e_t (by rw [c3]; rfl) (e_l (e_l ?_)))))))), e_b hb (e_f hne (e_b d9 (e_t rfl (e_b g9 (e_t rfl (e_t (by rw [c3]; rfl) (e_l (e_l ?_)))))))), ?_, Tk_no (s := p) (p := p + 1) (κ := 7) (k := 4) (by omega) rfl rfl c11 m12 (by decide) (by decide) rfl rfl (by decide) (by decide) (fun e => by omega)⟩
          · show some (oI (oI τ1 10 7) 9 (τ1.2 9 + 1)) = _
            rw [c9, nI_1]
          · show some (((oI (oI ν1.1 13 4) 11 (ν1.1.2 11 + 1), ν1.2)) : MdlS) = _
            rw [m11, nI_1]
          · exact (((hF.c (k := 10) (by decide) 7).c (k := 9) (by decide) _).m (k := 13) (by decide) 4 ν1.2).m (k := 11) (by decide) _ ν1.2
        · have n59 : ¬ nI (t p) = 59 := fun q => c3 ((nI_eq (b := 59) (by omega) (by decide)).mp q)
          refine ⟨oI (oI τ1 10 8) 9 (nI (p + 1)), (oI (oI ν1.1 13 1) 11 (nI (p + 1)), ν1.2), e_t hlt (e_b hs (e_b d8 (e_t rfl (e_b g8 (e_t rfl (e_f n59 (e_l (e_l ?_)))))))), e_b hb (e_f hne (e_b d9 (e_t rfl (e_b g9 (e_t rfl (e_f n59 (e_l (e_l ?_)))))))), ?_, Tk_no (s := p) (p := p + 1) (κ := 8) (k := 1) (by omega) rfl rfl c11 m12 (by decide) (by decide) rfl rfl (by decide) (by decide) (fun e => by omega)⟩
          · show some (oI (oI τ1 10 8) 9 (τ1.2 9 + 1)) = _
            rw [c9, nI_1]
          · show some (((oI (oI ν1.1 13 1) 11 (ν1.1.2 11 + 1), ν1.2)) : MdlS) = _
            rw [m11, nI_1]
          · exact (((hF.c (k := 10) (by decide) 8).c (k := 9) (by decide) _).m (k := 13) (by decide) 1 ν1.2).m (k := 11) (by decide) _ ν1.2
  · have hb : f_X9_byteAt ν1 (ν1.1.2 11) = some (-1) := by rw [m11]; exact x_byteN hx1 (by omega) (by omega)
    have hlt : ¬ τ1.2 9 < τ1.2 5 := by rw [c9, hx1.2.1]; exact nI_nlt (by omega) (by omega)
    exact ⟨oI τ1 10 9, (oI ν1.1 13 0, ν1.2), e_f hlt rfl, e_b hb (e_t rfl rfl), (hF.c (k := 10) (by decide) 9).m (k := 13) (by decide) 0 ν1.2, Tk_no (s := p) (p := p) (κ := 9) (k := 0) hp c9 m11 c11 m12 (by decide) (by decide) rfl rfl (by decide) (by decide) (fun e => by omega)⟩
theorem x_next {N n p : Nat} {t : Nat → Nat} {τ : ObjS} {ν : MdlS} (hN : 2000 ≤ N) (hx : TX n t τ ν) (hp : p ≤ n) (hc : τ.2 9 = nI p) (hm : ν.1.2 11 = nI p) : ∃ (τ' : ObjS) (ν' : MdlS), f_X7_nextToken N τ = some τ' ∧ f_X9_nextToken N ν = some ν' ∧ Fz τ τ' ν ν' ∧ Tk N n τ' ν' := by
  have hn := hx.1
  obtain ⟨p', τ1, ν1, q0, q1, q2, q3, q4, q5⟩ := l_blank (N := N) (n - p) N N p τ ν (by omega) (by omega) (by omega) hx hc hm
  obtain ⟨τ', ν', r1, r2, r3, r4⟩ := x_tok hN (q1.tx hx) q0 q2 q3
  exact ⟨τ', ν', q4.trans r1, q5.trans r2, q1.tr r3, r4⟩
-- commands
def CR (x1 x2 x3 x4 y1 y2 y3 y4 : Int32) : Prop := (∃ m, m ≤ 40 ∧ x1 = 3 ∧ y1 = 2 ∧ x3 = nI m ∧ y2 = nI m) ∨ (∃ c a v, c < 4 ∧ a < 200 ∧ v < 1000 ∧ x1 = 2 ∧ y1 = 1 ∧ x2 = nI c ∧ y2 = nI c ∧ x3 = nI a ∧ y3 = nI a ∧ x4 = nI v ∧ y4 = nI v) ∨ (∃ c a b, c < 4 ∧ a ≤ b ∧ b < 200 ∧ x1 = 1 ∧ y1 = 0 ∧ x2 = nI c ∧ y2 = nI c ∧ x3 = nI a ∧ y3 = nI a ∧ x4 = nI b ∧ y4 = nI b)
def CmdOk (k : Nat) (A : Nat → Nat → Int32) (B : Nat → Int32) : Prop := ∀ i, i < k → CR (A 0 i) (A 1 i) (A 2 i) (A 3 i) (B (4 * i)) (B (4 * i + 1)) (B (4 * i + 2)) (B (4 * i + 3))
def PS (N n : Nat) (t : Nat → Nat) (k : Nat) (τ : ObjS) (ν : MdlS) : Prop := TX n t τ ν ∧ Tk N n τ ν ∧ τ.2 6 = 0 ∧ ν.1.2 16 = 0 ∧ τ.2 7 = -1 ∧ ν.1.2 17 = -1 ∧ τ.2 4 = nI k ∧ ν.1.2 9 = nI k ∧ CmdOk k τ.1 (ν.1.1 8)
def MF (ν0 ν : MdlS) : Prop := (∀ k, k ≠ 8 → ν.1.1 k = ν0.1.1 k) ∧ ∀ k, k ≠ 9 → (k < 11 ∨ 17 < k) → ν.1.2 k = ν0.1.2 k
theorem MF.rf (ν : MdlS) : MF ν ν := ⟨fun _ _ => rfl, fun _ _ _ => rfl⟩
theorem MF.tr {a b c : MdlS} (h : MF a b) (g : MF b c) : MF a c := ⟨fun k hk => (g.1 k hk).trans (h.1 k hk), fun k hk hr => (g.2 k hk hr).trans (h.2 k hk hr)⟩
theorem Fz.mf {τ0 τ : ObjS} {ν0 ν : MdlS} (h : Fz τ0 τ ν0 ν) : MF ν0 ν := ⟨fun k _ => by rw [h.2.2.1], fun k _ hr => h.2.2.2 k (by omega) (by omega) (by omega) (by omega) (by omega)⟩
def ER (τ : ObjS) (ν : MdlS) : Prop := τ.2 6 ≠ 0 ∧ ν.1.2 16 = τ.2 6 ∧ τ.2 7 = ν.1.2 17
section PP
variable {N n k : Nat} {t : Nat → Nat} {τ : ObjS} {ν : MdlS}
theorem PS.fz {τ' : ObjS} {ν' : MdlS} (h : PS N n t k τ ν) (hF : Fz τ τ' ν ν') (hT : Tk N n τ' ν') : PS N n t k τ' ν' := by
  obtain ⟨h1, h2, h3, h4, h5, h6, h7, h8, h9⟩ := h
  obtain ⟨f1, f2, f3, f4⟩ := hF
  refine ⟨Fz.tx ⟨f1, f2, f3, f4⟩ h1, hT, (f2 6 (by decide) (by decide) (by decide) (by decide)).trans h3, (f4 16 (by decide) (by decide) (by decide) (by decide) (by decide)).trans h4, (f2 7 (by decide) (by decide) (by decide) (by decide)).trans h5, (f4 17 (by decide) (by decide) (by decide) (by decide) (by decide)).trans h6, (f2 4 (by decide) (by decide) (by decide) (by decide)).trans h7, (f4 9 (by decide) (by decide) (by decide) (by decide) (by decide)).trans h8, ?_⟩
  rw [f1, f3]
  exact h9
theorem PS.next (hN : 2000 ≤ N) (h : PS N n t k τ ν) : ∃ (τ' : ObjS) (ν' : MdlS), f_X7_nextToken N τ = some τ' ∧ f_X9_nextToken N ν = some ν' ∧ PS N n t k τ' ν' ∧ MF ν ν' := by
  obtain ⟨s, p, κ, hp, a1, a2, -⟩ := id h.2.1
  obtain ⟨τ', ν', r1, r2, r3, r4⟩ := x_next hN h.1 hp a1 a2
  exact ⟨τ', ν', r1, r2, h.fz r3 r4, r3.mf⟩
theorem rq_t {c : Int32} : f_X9_require ν 1 c = some ν := e_f (by decide) rfl
theorem rq_f {c : Int32} (h : ν.1.2 16 = 0) : f_X9_require ν 0 c = some ((oI (oI ν.1 16 c) 17 (ν.1.2 12), ν.2) : MdlS) := e_t rfl (e_t h rfl)
theorem rq_e {y c : Int32} (h : ν.1.2 16 ≠ 0) : f_X9_require ν y c = some ν := by
  unfold f_X9_require
  by_cases e : y = 0
  · exact e_t e (e_f h rfl)
  · exact e_f e rfl
theorem fn_t (h : ν.1.2 16 = 0) : f_X9_isFine ν = some 1 := e_t h rfl
theorem fn_f (h : ν.1.2 16 ≠ 0) : f_X9_isFine ν = some 0 := e_f h rfl
theorem ad_t {ν' : MdlS} (h : ν.1.2 16 = 0) (hx : f_X9_nextToken N ν = some ν') : f_X9_advance N ν = some ν' := e_b (fn_t h) (e_f (by decide) (e_b hx rfl))
theorem ad_e (h : ν.1.2 16 ≠ 0) : f_X9_advance N ν = some ν := e_b (fn_f h) (e_t rfl rfl)
/-- both sides note the error -/
theorem PS.err (h : PS N n t k τ ν) {c : Int32} (hc : c ≠ 0) : ∃ (τ' : ObjS) (ν' : MdlS), f_X7_fail τ c = some τ' ∧ (∀ q, f_X9_require ν 0 c = q → q = some ν') ∧ f_X9_require ν 0 c = some ν' ∧ ER τ' ν' ∧ τ'.2 4 = nI k ∧ MF ν ν' ∧ ν'.1.2 16 ≠ 0 := by
  obtain ⟨s, p, κ, hp, a1, a2, a3, a4, -⟩ := id h.2.1
  have hr := rq_f (c := c) h.2.2.2.1
  refine ⟨oI (oI τ 6 c) 7 (τ.2 11), (oI (oI ν.1 16 c) 17 (ν.1.2 12), ν.2), rfl, fun q hq => hq.symm.trans hr, hr, ⟨hc, rfl, ?_⟩, h.2.2.2.2.2.2.1, ⟨fun _ _ => rfl, fun j _ hj => (va_up_ne (va_up ν.1.2 16 c) _ (by omega)).trans (va_up_ne ν.1.2 _ (by omega))⟩, hc⟩
  show τ.2 11 = ν.1.2 12
  rw [a3, a4]
theorem x_num (hN : 2000 ≤ N) (h : PS N n t k τ ν) {lo hi : Nat} (h1 : lo ≤ hi) (h2 : hi ≤ 999) : (∃ (v : Nat) (τ' : ObjS) (ν' : MdlS), lo ≤ v ∧ v ≤ hi ∧ f_X7_takeNumber N τ (nI lo) (nI hi) = some (nI v, τ') ∧ f_X9_parseNumber N ν (nI lo) (nI hi) = some (nI v, ν') ∧ PS N n t k τ' ν' ∧ MF ν ν') ∨ (∃ (y : Int32) (τ' : ObjS) (ν' : MdlS), f_X7_takeNumber N τ (nI lo) (nI hi) = some (-1, τ') ∧ f_X9_parseNumber N ν (nI lo) (nI hi) = some (y, ν') ∧ ER τ' ν' ∧ τ'.2 4 = nI k ∧ MF ν ν' ∧ ν'.1.2 16 ≠ 0) := by
  have bt : ∀ q : Int32, ∃ r, f_X9_isBetween q (nI lo) (nI hi) = some r := fun q => by
    unfold f_X9_isBetween
    split
    · exact ⟨_, rfl⟩
    · split <;> exact ⟨_, rfl⟩
  obtain ⟨s, p, κ, hp, a1, a2, a3, a4, a5, a6, a7, a8, a9, a10, a11, a12⟩ := id h.2.1
  by_cases c : κ = 6
  · obtain ⟨w, w1, w2, w3⟩ := a12 c
    have t13 : ν.1.2 13 = 3 := a9.mpr c
    have t10 : τ.2 10 = 6 := by rw [a7, c]; rfl
    have bad : (f_X9_isBetween (ν.1.2 15) (nI lo) (nI hi) = some 0) → f_X7_takeNumber N τ (nI lo) (nI hi) = ((f_X7_fail τ 2).bind fun r4 => some ((-1), r4)) → (∃ (y : Int32) (τ' : ObjS) (ν' : MdlS), f_X7_takeNumber N τ (nI lo) (nI hi) = some (-1, τ') ∧ f_X9_parseNumber N ν (nI lo) (nI hi) = some (y, ν') ∧ ER τ' ν' ∧ τ'.2 4 = nI k ∧ MF ν ν' ∧ ν'.1.2 16 ≠ 0) := fun hb hc => by
      obtain ⟨τ', ν', e1, -, e2, e3, e4, e5, e6⟩ := h.err (c := 2) (by decide)
      exact ⟨_, τ', ν', hc.trans (e_b e1 rfl), e_t t13 (e_b rq_t (e_b hb (e_b e2 (e_b (ad_e e6) rfl)))), e3, e4, e5, e6⟩
    by_cases c1 : w < lo
    · refine Or.inr (bad ?_ ?_)
      · rw [w2]; exact e_t (nI_lt c1 (by omega)) rfl
      · exact e_t h.2.2.1 (e_t t10 (e_t (by rw [w3]; exact nI_lt (by omega) (by omega)) rfl))
    · by_cases c2 : w ≤ hi
      · obtain ⟨τ', ν', r1, r2, r3, r4⟩ := h.next hN
        have ew : min w 1000 = w := by omega
        rw [ew] at w3
        have hb : f_X9_isBetween (ν.1.2 15) (nI lo) (nI hi) = some 1 := by
          rw [w2]
          exact e_f (nI_nlt (by omega) (by omega)) (e_f (nI_nlt (by omega) (by omega)) rfl)
        refine Or.inl ⟨w, τ', ν', by omega, c2, e_t h.2.2.1 (e_t t10 (e_f (by rw [w3]; exact nI_nlt (by omega) (by omega)) (e_t (by rw [w3]; exact nI_le c2 (by omega)) (e_b r1 (by rw [w3]))))), e_t t13 (e_b rq_t (e_b hb (e_b rq_t (e_b (ad_t h.2.2.2.1 r2) (by rw [w2]))))), r3, r4⟩
      · refine Or.inr (bad ?_ ?_)
        · rw [w2]; exact e_f (nI_nlt (by omega) (by omega)) (e_t (nI_lt (by omega) (by omega)) rfl)
        · exact e_t h.2.2.1 (e_t t10 (e_f (by rw [w3]; exact nI_nlt (by omega) (by omega)) (e_f (by rw [w3]; exact nI_ge (by omega) (by omega)) rfl)))
  · obtain ⟨τ', ν', e1, -, e2, e3, e4, e5, e6⟩ := h.err (c := 1) (by decide)
    obtain ⟨r, hr⟩ := bt (ν'.1.2 15)
    have t10 : ¬ τ.2 10 = 6 := fun q => by rw [a7] at q; exact c ((nI_eq (b := 6) (by omega) (by decide)).mp q)
    exact Or.inr ⟨_, τ', ν', e_t h.2.2.1 (e_f t10 (e_b e1 rfl)), e_f (fun q => c (a9.mp q)) (e_b e2 (e_b hr (e_b (rq_e e6) (e_b (ad_e e6) rfl)))), e3, e4, e5, e6⟩
theorem wd26_cg {ν' : MdlS} (h : ν'.2 = ν.2) : ∀ n1 i x k, f_X9_isWord_b26 N n1 ν' i x k = f_X9_isWord_b26 N n1 ν i x k := by
  intro n1
  induction n1 with
  | zero => intro i x k; rfl
  | succ n1 ih =>
    intro i x k
    rw [f_X9_isWord_b26, f_X9_isWord_b26, h]
    simp only [ih]
theorem wd_cg {ν' : MdlS} {i : Nat} (h : ν'.2 = ν.2) (h13 : ν'.1.2 13 = ν.1.2 13) (h14 : ν'.1.2 14 = ν.1.2 14) : f_X9_isWord N ν' i = f_X9_isWord N ν i := by
  unfold f_X9_isWord
  rw [h13, h14]
  simp only [wd26_cg h]
/-- what stands behind an error in a command -/
theorem x_stE {x1 x2 x3 x4 : Int32} (h : ER τ ν) (hk : τ.2 4 = nI k) (hk2 : k < 40) : ∃ τ' : ObjS, f_X7_parseCommand_b134 N τ x1 x2 x3 x4 = some τ' ∧ ER τ' ν := by
  unfold f_X7_parseCommand_b134
  refine ⟨_, e_b (a := τ) (e_f h.1 rfl) (e_g k hk (by omega) (by decide) (e_l (e_g k hk (by omega) (by decide) (e_l (e_g k hk (by omega) (by decide) (e_l (e_g k hk (by omega) (by decide) (e_l (e_l rfl))))))))), h⟩
theorem x_164E {y1 y2 y3 y4 y0 : Int32} (h : ν.1.2 16 ≠ 0) : f_X9_parseCommand_b164 N ν y1 y2 y3 y4 y0 = some ν := e_b (rq_e h) (e_b (ad_e h) (e_b (fn_f h) (e_t rfl rfl)))
theorem x_fin {x1 x2 x3 x4 y1 y2 y3 y4 : Int32} (hN : 2000 ≤ N) (h : PS N n t k τ ν) (hk : k < 40) (hC : CR x1 x2 x3 x4 y1 y2 y3 y4) : ∃ (τ' : ObjS) (ν' : MdlS), f_X7_parseCommand_b134 N τ x1 x2 x3 x4 = some τ' ∧ (if ν.1.2 13 = 4 then f_X9_parseCommand_b164 N ν y1 y2 y3 y4 1 else f_X9_parseCommand_b164 N ν y1 y2 y3 y4 0) = some ν' ∧ (PS N n t (k + 1) τ' ν' ∨ ER τ' ν') ∧ MF ν ν' := by
  obtain ⟨s, p, κ, hp, a1, a2, a3, a4, a5, a6, a7, a8, a9, a10, a11, a12⟩ := id h.2.1
  by_cases c : κ = 7
  · obtain ⟨τ1, ν1, r1, r2, r3, r4⟩ := h.next hN
    obtain ⟨q1, q2, q3, q4, q5, q6, q7, q8, q9⟩ := id r3
    have t10 : τ.2 10 = 7 := by rw [a7, c]; rfl
    have t13 : ν.1.2 13 = 4 := a10.mpr c
    obtain ⟨τ', hτ'⟩ : ∃ q : ObjS, q = oI (oA (oA (oA (oA τ1 0 k x1) 1 k x2) 2 k x3) 3 k x4) 4 (nI (k + 1)) := ⟨_, rfl⟩
    obtain ⟨ν', hν'⟩ : ∃ q : MdlS, q = (oI (oA (oA (oA (oA ν1.1 8 (4 * k) y1) 8 (4 * k + 1) y2) 8 (4 * k + 2) y3) 8 (4 * k + 3) y4) 9 (nI (k + 1)), ν1.2) := ⟨_, rfl⟩
    refine ⟨τ', ν', ?_, ?_, Or.inl ?_, r4.tr ?_⟩
    · refine e_b (a := τ1) (e_t h.2.2.1 (e_t t10 (e_b r1 rfl))) (e_g k q7 (by omega) (by decide) (e_l (e_g k q7 (by omega) (by decide) (e_l (e_g k q7 (by omega) (by decide) (e_l (e_g k q7 (by omega) (by decide) (e_l (e_l ?_)))))))))
      rw [hτ']
      show some (oI (oA (oA (oA (oA τ1 0 (τ1.2 4).toNatClampNeg x1) 1 (τ1.2 4).toNatClampNeg x2) 2 (τ1.2 4).toNatClampNeg x3) 3 (τ1.2 4).toNatClampNeg x4) 4 (τ1.2 4 + 1)) = _
      rw [q7, nI_clamp (by omega), nI_1]
    · have e4 : 4 * ν1.1.2 9 = nI (4 * k) := by rw [q8]; exact pk_mul 4 k
      have e41 : 4 * ν1.1.2 9 + 1 = nI (4 * k + 1) := by rw [e4, nI_1]
      have e42 : 4 * ν1.1.2 9 + 2 = nI (4 * k + 2) := by rw [e4]; exact nI_add _ 2
      have e43 : 4 * ν1.1.2 9 + 3 = nI (4 * k + 3) := by rw [e4]; exact nI_add _ 3
      refine e_t t13 (e_b rq_t (e_b (ad_t h.2.2.2.1 r2) (e_b (fn_t q4) (e_f (by decide) (e_g (4 * k) e4 (by omega) (by decide) (e_l (e_g (4 * k + 1) e41 (by omega) (by decide) (e_l (e_g (4 * k + 2) e42 (by omega) (by decide) (e_l (e_g (4 * k + 3) e43 (by omega) (by decide) (e_l (e_l ?_)))))))))))))
      rw [hν', e41, e42, e43, e4, nI_clamp (show 4 * k < 2 ^ 31 by omega), nI_clamp (show 4 * k + 1 < 2 ^ 31 by omega), nI_clamp (show 4 * k + 2 < 2 ^ 31 by omega), nI_clamp (show 4 * k + 3 < 2 ^ 31 by omega)]
      show some (((oI (oA (oA (oA (oA ν1.1 8 (4 * k) y1) 8 (4 * k + 1) y2) 8 (4 * k + 2) y3) 8 (4 * k + 3) y4) 9 (ν1.1.2 9 + 1), ν1.2)) : MdlS) = _
      rw [q8, nI_1]
    · have b8 : ν'.1.1 8 = upd (upd (upd (upd (ν1.1.1 8) (4 * k) y1) (4 * k + 1) y2) (4 * k + 2) y3) (4 * k + 3) y4 := by rw [hν']; rfl
      have A0 : τ'.1 0 = upd (τ1.1 0) k x1 := by rw [hτ']; rfl
      have A1 : τ'.1 1 = upd (τ1.1 1) k x2 := by rw [hτ']; rfl
      have A2 : τ'.1 2 = upd (τ1.1 2) k x3 := by rw [hτ']; rfl
      have A3 : τ'.1 3 = upd (τ1.1 3) k x4 := by rw [hτ']; rfl
      have hτk : ∀ j, j ≠ 4 → τ'.2 j = τ1.2 j := fun j hj => by rw [hτ']; exact va_up_ne τ1.2 _ hj
      have hνk : ∀ j, j ≠ 9 → ν'.1.2 j = ν1.1.2 j := fun j hj => by rw [hν']; exact va_up_ne ν1.1.2 _ hj
      have h8 : τ'.1 8 = τ1.1 8 := by rw [hτ']; rfl
      have h7 : ν'.1.1 7 = ν1.1.1 7 := by rw [hν']; rfl
      have hw : ν'.2 = ν1.2 := by rw [hν']
      refine ⟨⟨q1.1, (hτk 5 (by decide)).trans q1.2.1, (hνk 10 (by decide)).trans q1.2.2.1, fun i hi => by rw [h8, h7]; exact q1.2.2.2 i hi⟩, ?_, (hτk 6 (by decide)).trans q3, (hνk 16 (by decide)).trans q4, (hτk 7 (by decide)).trans q5, (hνk 17 (by decide)).trans q6, by rw [hτ']; rfl, by rw [hν']; rfl, fun i hi => ?_⟩
      · obtain ⟨s2, p2, κ2, z0, z1, z2, z3, z4, z5, z6, z7, z8, z9, z10, z11, z12⟩ := q2
        refine ⟨s2, p2, κ2, z0, (hτk 9 (by decide)).trans z1, (hνk 11 (by decide)).trans z2, (hτk 11 (by decide)).trans z3, (hνk 12 (by decide)).trans z4, z5, z6, (hτk 10 (by decide)).trans z7, fun i hi => ?_, by rw [hνk 13 (by decide)]; exact z9, by rw [hνk 13 (by decide)]; exact z10, by rw [hνk 13 (by decide)]; exact z11, fun e => ?_⟩
        · rw [wd_cg hw (hνk 13 (by decide)) (hνk 14 (by decide))]; exact z8 i hi
        · rw [hνk 15 (by decide), hτk 12 (by decide)]; exact z12 e
      · rw [b8, A0, A1, A2, A3]
        by_cases e : i = k
        · subst e
          rw [upd_eq rfl, upd_eq rfl, upd_eq rfl, upd_eq rfl, upd_ne (show 4 * i ≠ 4 * i + 3 by omega), upd_ne (show 4 * i ≠ 4 * i + 2 by omega), upd_ne (show 4 * i ≠ 4 * i + 1 by omega), upd_eq rfl, upd_ne (show 4 * i + 1 ≠ 4 * i + 3 by omega), upd_ne (show 4 * i + 1 ≠ 4 * i + 2 by omega), upd_eq rfl, upd_ne (show 4 * i + 2 ≠ 4 * i + 3 by omega), upd_eq rfl, upd_eq rfl]
          exact hC
        · have o : ∀ j, j < 4 * k → upd (upd (upd (upd (ν1.1.1 8) (4 * k) y1) (4 * k + 1) y2) (4 * k + 2) y3) (4 * k + 3) y4 j = ν1.1.1 8 j := fun j hj => by
            rw [upd_ne (by omega), upd_ne (by omega), upd_ne (by omega), upd_ne (by omega)]
          rw [upd_ne e, upd_ne e, upd_ne e, upd_ne e, o _ (by omega), o _ (by omega), o _ (by omega), o _ (by omega)]
          exact q9 i (by omega)
    · rw [hν']
      refine ⟨fun j hj => ?_, fun j hj _ => va_up_ne ν1.1.2 _ hj⟩
      exact (va_up_ne _ _ hj).trans ((va_up_ne _ _ hj).trans ((va_up_ne _ _ hj).trans (va_up_ne ν1.1.1 _ hj)))
  · obtain ⟨τ', ν', e1, -, e2, e3, e4, e5, e6⟩ := h.err (c := 1) (by decide)
    have t10 : ¬ τ.2 10 = 7 := fun q => by rw [a7] at q; exact c ((nI_eq (b := 7) (by omega) (by decide)).mp q)
    obtain ⟨τ2, g1, g2⟩ := x_stE (N := N) (x1 := x1) (x2 := x2) (x3 := x3) (x4 := x4) e3 e4 hk
    refine ⟨τ2, ν', ?_, e_f (fun q => c (a10.mp q)) (e_b e2 (e_b (ad_e e6) (e_b (fn_f e6) (e_t rfl rfl)))), Or.inr g2, e5⟩
    refine Eq.trans ?_ g1
    unfold f_X7_parseCommand_b134
    have s1 : f_X7_takeSemicolon N τ = some τ' := e_t h.2.2.1 (e_f t10 (e_b e1 rfl))
    have s2 : f_X7_takeSemicolon N τ' = some τ' := e_f e3.1 rfl
    rw [s1, s2]
end PP
