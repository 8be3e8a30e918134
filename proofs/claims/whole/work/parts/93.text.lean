/-! the text; the output -/
theorem by_eq (x : Int32) {q : Nat} (hq : q < 4) : ∃ v, v < 256 ∧ (ushr x (nI (8 * q))) &&& 255 = nI v ∧ (x >>> (nI (8 * q) &&& 31)) &&& 255 = nI v := by
  have key : ∀ (k : Nat) (s : Int32), k = 0 ∨ k = 8 ∨ k = 16 ∨ k = 24 → ((s.toUInt32 &&& Int32.toUInt32 31).toBitVec % 32).toNat = k → (((s &&& 31) : Int32).toBitVec.smod 32).toNat = k → ∃ v, v < 256 ∧ (ushr x s) &&& 255 = nI v ∧ (x >>> (s &&& 31)) &&& 255 = nI v := by
    intro k s hk h1 h2
    have e1 := pk_and (ushr x s) (m := 255) 8 (by decide)
    have e2 := pk_and (x >>> (s &&& 31)) (m := 255) 8 (by decide)
    have u := pk_ushr x s k h1
    have v := pk_shr x (s &&& 31) k h2
    rw [show (x.toUInt32 >>> (s.toUInt32 &&& Int32.toUInt32 31)).toInt32 = ushr x s from rfl] at u
    rw [Int.shiftRight_eq_div_pow] at v
    have w1 : x.toInt = _ := BitVec.toInt_eq_toNat_cond x.toBitVec
    have w2 : (x >>> (s &&& 31)).toInt = _ := BitVec.toInt_eq_toNat_cond (x >>> (s &&& 31)).toBitVec
    have b1 := x.toBitVec.isLt
    have b2 := (x >>> (s &&& 31)).toBitVec.isLt
    refine ⟨(ushr x s).toBitVec.toNat % 2 ^ 8, Nat.mod_lt _ (by decide), e1, e2.trans (congrArg nI ?_)⟩
    rw [u]
    rw [w1, w2] at v
    rcases hk with rfl | rfl | rfl | rfl
    · split at v <;> split at v <;> omega
    · split at v <;> split at v <;> omega
    · split at v <;> split at v <;> omega
    · split at v <;> split at v <;> omega
  rcases (show q = 0 ∨ q = 1 ∨ q = 2 ∨ q = 3 by omega) with rfl | rfl | rfl | rfl
  · exact key 0 _ (by decide) (by decide) (by decide)
  · exact key 8 _ (by decide) (by decide) (by decide)
  · exact key 16 _ (by decide) (by decide) (by decide)
  · exact key 24 _ (by decide) (by decide) (by decide)
/-- the text so far, on both sides -/
def TR (τ0 : ObjS) (μ0 : MdlS) (τ : ObjS) (ν : MdlS) (m : Nat) : Prop := m ≤ 600 ∧ τ.2 5 = nI m ∧ ν.1.2 10 = nI m ∧ (∀ i, i < m → ∃ v, v < 256 ∧ τ.1 8 i = nI v ∧ ν.1.1 7 i = nI v) ∧ (∀ k, k ≠ 5 → τ.2 k = τ0.2 k) ∧ (∀ k, k ≠ 7 → ν.1.1 k = μ0.1.1 k) ∧ (∀ k, k ≠ 10 → ν.1.2 k = μ0.1.2 k)
theorem TR_add {τ0 τ : ObjS} {μ0 ν : MdlS} {m v : Nat} (h : TR τ0 μ0 τ ν m) (hm : m < 600) (hv : v < 256) : f_X7_addByte τ (nI v) = some (oI (oA τ 8 m (nI v)) 5 (nI (m + 1))) ∧ TR τ0 μ0 (oI (oA τ 8 m (nI v)) 5 (nI (m + 1))) ((oI (oA ν.1 7 m (nI v)) 10 (nI (m + 1)), ν.2) : MdlS) (m + 1) := by
  obtain ⟨h1, h2, h3, h4, h5, h6, h7⟩ := h
  refine ⟨?_, by omega, rfl, rfl, fun i hi => ?_, fun k hk => (va_up_ne _ _ hk).trans (h5 k hk), fun k hk => (va_up_ne _ _ hk).trans (h6 k hk), fun k hk => (va_up_ne _ _ hk).trans (h7 k hk)⟩
  · unfold f_X7_addByte
    rw [h2]
    refine e_f (nI_pos (by omega)) (e_f (show ¬ (600 : Int32) ≤ nI m from nI_ge (b := 600) hm (by decide)) (e_g m rfl hm (by decide) (e_l (e_l ?_))))
    rw [nI_clamp (by omega)]
    show some (oI (oA τ 8 m (nI v)) 5 (τ.2 5 + 1)) = _
    rw [h2, nI_1]
  · show ∃ w, w < 256 ∧ upd (τ.1 8) m (nI v) i = nI w ∧ upd (ν.1.1 7) m (nI v) i = nI w
    by_cases e : i = m
    · rw [upd_eq e, upd_eq e]; exact ⟨v, hv, rfl, rfl⟩
    · rw [upd_ne e, upd_ne e]; exact h4 i (by omega)
theorem l_append {N : Nat} {γ : GLS} {τ0 : ObjS} {μ0 : MdlS} {x : Int32} : ∀ q n n' (τ : ObjS) (ν : MdlS) m, q < 4 → q + 1 < n → q + 1 < n' → TR τ0 μ0 τ ν m → m + (q + 1) ≤ 600 → ∃ (v : Int32) (τ' : ObjS) (ν' : MdlS), f_X8_appendText_b26 N n (τ, γ.2) x (nI (8 * q)) = some (.inr (v, (τ', γ.2))) ∧ f_X9_appendText_b26 N n' ν x (nI (8 * q)) = some (v, ν') ∧ TR τ0 μ0 τ' ν' (m + (q + 1)) := by
  have step : ∀ q (τ : ObjS) (ν : MdlS) m, q < 4 → TR τ0 μ0 τ ν m → m < 600 → ∃ (τ' : ObjS) (ν' : MdlS), TR τ0 μ0 τ' ν' (m + 1) ∧ ∀ n n' (r8 : Option (Nat ⊕ (Int32 × GLS))) (r9 : Option (Int32 × MdlS)), f_X8_appendText_b26 N n (τ', γ.2) x (nI (8 * q) + (-8)) = r8 → f_X9_appendText_b26 N n' ν' x (nI (8 * q) + (-8)) = r9 → f_X8_appendText_b26 N (n + 1) (τ, γ.2) x (nI (8 * q)) = r8 ∧ f_X9_appendText_b26 N (n' + 1) ν x (nI (8 * q)) = r9 := by
    intro q τ ν m hq hT hm
    obtain ⟨v, hv, b1, b2⟩ := by_eq x hq
    obtain ⟨a1, a2⟩ := TR_add hT hm hv
    refine ⟨_, _, a2, fun n n' r8 r9 h8 h9 => ⟨?_, ?_⟩⟩
    · rw [f_X8_appendText_b26]
      refine e_f (nI_pos (by omega)) (e_b (a := oI (oA τ 8 m (nI v)) 5 (nI (m + 1))) ?_ (e_l h8))
      rw [b1]
      exact a1
    · rw [f_X9_appendText_b26]
      refine e_f (nI_pos (by omega)) (e_g m hT.2.2.1 hm (by decide) (e_l (e_l ?_)))
      rw [b2, hT.2.2.1, nI_clamp (by omega)]
      show f_X9_appendText_b26 N n' ((oI (oA ν.1 7 m (nI v)) 10 (ν.1.2 10 + 1), ν.2) : MdlS) x (nI (8 * q) + (-8)) = r9
      rw [hT.2.2.1, nI_1]
      exact h9
  intro q
  induction q with
  | zero =>
    intro n n' τ ν m hq hn hn' hT hm
    obtain ⟨n, rfl⟩ : ∃ j, n = j + 2 := ⟨n - 2, by omega⟩
    obtain ⟨n', rfl⟩ : ∃ j, n' = j + 2 := ⟨n' - 2, by omega⟩
    obtain ⟨τ', ν', hT', st⟩ := step 0 τ ν m hq hT (by omega)
    have hneg : nI (8 * 0) + (-8) < 0 := by decide
    obtain ⟨s1, s2⟩ := st (n + 1) (n' + 1) (some (.inr (nI (m + 1), (τ', γ.2)))) (some (nI (m + 1), ν')) (by
      rw [f_X8_appendText_b26]
      exact e_t hneg (congrArg (fun q => some (Sum.inr (q, ((τ', γ.2) : GLS)))) hT'.2.1)) (by
      rw [f_X9_appendText_b26]
      exact e_t hneg (congrArg (fun q => some (q, ν')) hT'.2.2.1))
    exact ⟨_, _, _, s1, s2, hT'⟩
  | succ q ih =>
    intro n n' τ ν m hq hn hn' hT hm
    obtain ⟨n, rfl⟩ : ∃ j, n = j + 1 := ⟨n - 1, by omega⟩
    obtain ⟨n', rfl⟩ : ∃ j, n' = j + 1 := ⟨n' - 1, by omega⟩
    obtain ⟨τ', ν', hT', st⟩ := step (q + 1) τ ν m hq hT (by omega)
    obtain ⟨v, τ2, ν2, i1, i2, i3⟩ := ih n n' τ' ν' (m + 1) (by omega) (by omega) (by omega) hT' (by omega)
    have e8 : nI (8 * (q + 1)) + (-8) = nI (8 * q) := by
      rw [show (-8 : Int32) = -(nI 8) from by decide, ← Int32.sub_eq_add_neg, pk_sub (by omega)]
      exact congrArg nI (by omega)
    rw [← e8] at i1 i2
    obtain ⟨s1, s2⟩ := st n n' _ _ i1 i2
    rw [show m + 1 + (q + 1) = m + (q + 1 + 1) by omega] at i3
    exact ⟨v, τ2, ν2, s1, s2, i3⟩
theorem top_text {K L : Nat} {γ : GLS} {μ ν : MdlS} {τ : ObjS} {κ : Nat → CacS} {ix : Nat → Option Nat} {nb m : Nat} (h : TopK K γ μ κ ix nb) (hL : K ≤ L) (hT : TR γ.1 (oI μ.1 6 0, μ.2) τ ν m) : TopK L (τ, γ.2) ν κ ix nb := by
  obtain ⟨⟨S, hS⟩, hR1, hR2, hR3, hR4⟩ := h
  obtain ⟨t1, t2, t3, t4, t5, t6, t7⟩ := hT
  refine ⟨⟨S, ?_⟩, ?_, ?_, ⟨⟨m, t1, t2, t3, t4⟩, ?_, ?_⟩, ?_⟩
  · rw [t6 0 (by decide)]; exact hS.mono hL
  · rw [t6 2 (by decide), t7 5 (by decide)]; exact hR1.mono hL
  · rw [t6 3 (by decide), t6 4 (by decide)]; exact hR2.mono hL
  · rw [t5 6 (by decide), t7 16 (by decide)]; exact hR3.2.1
  · rw [t5 7 (by decide), t7 17 (by decide)]; exact hR3.2.2
  · unfold PagOk
    rw [t6 21 (by decide), t7 22 (by decide)]; exact hR4
theorem s_appendText {N K L : Nat} (hN : 20000 ≤ N) (hL : K ≤ L) : Sim_appendText N (TopK K) (TopK L) := by
  intro γ μ κ ix nb p0 h
  have hT := h.mono hL
  obtain ⟨m, t1, t2, t3, t4⟩ := id h.2.2.2.1.1
  have hTR : TR γ.1 (oI μ.1 6 0, μ.2) γ.1 (oI μ.1 6 0, μ.2) m := ⟨t1, t2, t3, t4, fun _ _ => rfl, fun _ _ => rfl, fun _ _ => rfl⟩
  by_cases c : m ≤ 596
  · obtain ⟨v, τ', ν', i1, i2, i3⟩ := l_append (N := N) (γ := γ) (x := p0) 3 N N γ.1 (oI μ.1 6 0, μ.2) m (by decide) (by omega) (by omega) hTR (by omega)
    refine sa_r (T := fun g m => TopK L g m κ ix nb) (γ := γ) (γ1 := (τ', γ.2)) (e_t (by rw [t2]; exact nI_le (b := 596) c (by decide)) i1) (e_l (e_t ?_ i2)) (i3.2.2.2.2.2.2 6 (by decide)) (top_text h hL i3)
    show μ.1.2 10 + 4 ≤ 600
    rw [t3, show nI m + 4 = nI (m + 4) from nI_add m 4]
    exact nI_le (b := 600) (by omega) (by decide)
  · refine sa_l (T := fun g m => TopK L g m κ ix nb) (γ := γ) (k := 2) (b := 0) (μ1 := (oI (oI μ.1 6 0) 6 1, μ.2)) (e_f (by rw [t2]; exact nI_ge (a := 596) (by omega) (by omega)) rfl) rfl (e_l (e_f ?_ rfl)) rfl ((hT.t6 0).t6 1)
    show ¬ μ.1.2 10 + 4 ≤ 600
    rw [t3, show nI m + 4 = nI (m + 4) from nI_add m 4]
    exact nI_ge (a := 600) (by omega) (by omega)
theorem s_truncateText {N K L : Nat} (hL : K ≤ L) : Sim_truncateText N (TopK K) (TopK L) := by
  intro γ μ κ ix nb p0 h
  have hT := h.mono hL
  obtain ⟨m, t1, t2, t3, t4⟩ := id h.2.2.2.1.1
  have e10 : ((oI μ.1 6 0, μ.2) : MdlS).1.2 10 = nI m := t3
  rcases r_rangeN p0 (nI m) (n := m) (nI_toInt (by omega)) with ⟨j, hj, rfl, e1, e2⟩ | ⟨e1, e2⟩
  · rw [← t2] at e1
    rw [← e10] at e2
    have hTR : TR γ.1 (oI μ.1 6 0, μ.2) (oI γ.1 5 (nI j)) (oI (oI μ.1 6 0) 10 (nI j), μ.2) j := ⟨by omega, rfl, rfl, fun i hi => t4 i (by omega), fun k hk => va_up_ne γ.1.2 _ hk, fun _ _ => rfl, fun k hk => va_up_ne (va_up μ.1.2 6 0) _ hk⟩
    exact sa_r (T := fun g m => TopK L g m κ ix nb) (γ := γ) (v := nI j) (γ1 := (oI γ.1 5 (nI j), γ.2)) (μ1 := (oI (oI μ.1 6 0) 10 (nI j), μ.2)) (e_x e1 (e_l rfl)) (e_l (e_b e2 (e_f (by decide) (e_l rfl)))) rfl (top_text h hL hTR)
  · rw [← t2] at e1
    rw [← e10] at e2
    exact sa_l (T := fun g m => TopK L g m κ ix nb) (γ := γ) (k := 1) (b := 0) (μ1 := (oI (oI μ.1 6 0) 6 1, μ.2)) (e_xl e1) rfl (e_l (e_b e2 (e_t rfl rfl))) rfl ((hT.t6 0).t6 1)
/-- the output so far, on both sides -/
def PR (μ0 : MdlS) (τ : ObjS) (ν : MdlS) (m : Nat) : Prop := m ≤ 120 ∧ τ.2 1 = nI m ∧ ν.1.2 22 = nI m ∧ (∀ i, i < m → τ.1 0 i = ν.1.1 21 i) ∧ (∀ k, k ≠ 21 → ν.1.1 k = μ0.1.1 k) ∧ (∀ k, k ≠ 22 → ν.1.2 k = μ0.1.2 k)
theorem PR_emit {μ0 ν : MdlS} {τ : ObjS} {m : Nat} (h : PR μ0 τ ν m) (hm : m < 120) (v : Int32) : ∃ (τ' : ObjS) (ν' : MdlS), f_X4_addByte τ v = some τ' ∧ f_X9_emit ν v = some ν' ∧ PR μ0 τ' ν' (m + 1) := by
  obtain ⟨h1, h2, h3, h4, h5, h6⟩ := h
  refine ⟨oI (oA τ 0 m v) 1 (nI (m + 1)), (oI (oA ν.1 21 m v) 22 (nI (m + 1)), ν.2), ?_, ?_, by omega, rfl, rfl, fun i hi => ?_, fun k hk => (va_up_ne _ _ hk).trans (h5 k hk), fun k hk => (va_up_ne _ _ hk).trans (h6 k hk)⟩
  · unfold f_X4_addByte
    rw [h2]
    refine e_f (nI_pos (by omega)) (e_f (show ¬ (120 : Int32) ≤ nI m from nI_ge (b := 120) hm (by decide)) (e_g m rfl hm (by decide) (e_l (e_l ?_))))
    rw [nI_clamp (by omega)]
    show some (oI (oA τ 0 m v) 1 (τ.2 1 + 1)) = _
    rw [h2, nI_1]
  · unfold f_X9_emit
    refine e_g m h3 (by omega) (by decide) (e_l (e_l ?_))
    rw [h3, nI_clamp (by omega)]
    show some (((oI (oA ν.1 21 m v) 22 (ν.1.2 22 + 1), ν.2) : MdlS)) = _
    rw [h3, nI_1]
  · show upd (τ.1 0) m v i = upd (ν.1.1 21) m v i
    by_cases e : i = m
    · rw [upd_eq e, upd_eq e]
    · rw [upd_ne e, upd_ne e]; exact h4 i (by omega)
theorem PR_b17 {μ0 ν : MdlS} {τ : ObjS} {m b : Nat} (h : PR μ0 τ ν m) (hb : b < 200) (hm : m + 2 ≤ 120) : ∃ (τ' : ObjS) (ν' : MdlS) (m' : Nat), m' ≤ m + 2 ∧ f_X4_addNumber_b20 τ (nI b) = some τ' ∧ f_X9_writeNumber_b17 ν (nI b) = some ν' ∧ PR μ0 τ' ν' m' := by
  unfold f_X4_addNumber_b20 f_X9_writeNumber_b17
  by_cases c : b < 10
  · obtain ⟨τ', ν', e1, e2, e3⟩ := PR_emit h (by omega) (48 + (nI b - nI b / 10 * 10))
    exact ⟨τ', ν', m + 1, by omega, e_t (nI_lt (b := 10) c (by decide)) (e_b e1 rfl), e_t (show nI b ≤ 9 from nI_le (b := 9) (by omega) (by decide)) (e_b e2 rfl), e3⟩
  · obtain ⟨τ', ν', e1, e2, e3⟩ := PR_emit h (by omega) (48 + ((nI b / 10) - (nI b / 10) / 10 * 10))
    obtain ⟨τ2, ν2, f1, f2, f3⟩ := PR_emit e3 (by omega) (48 + (nI b - nI b / 10 * 10))
    exact ⟨τ2, ν2, m + 1 + 1, by omega, e_f (nI_nlt (b := 10) (by omega) (by omega)) (e_b e1 (e_b f1 rfl)), e_f (show ¬ nI b ≤ 9 from nI_ge (a := 9) (by omega) (by omega)) (e_b e2 (e_b f2 rfl)), f3⟩
theorem PR_num {μ0 ν : MdlS} {τ : ObjS} {m b : Nat} (h : PR μ0 τ ν m) (hb : b < 200) (hm : m + 3 ≤ 120) : ∃ (τ' : ObjS) (ν' : MdlS) (m' : Nat), m' ≤ m + 3 ∧ f_X4_addNumber τ (nI b) = some τ' ∧ f_X9_writeNumber ν (nI b) = some ν' ∧ PR μ0 τ' ν' m' := by
  unfold f_X4_addNumber f_X9_writeNumber
  by_cases c : b < 100
  · obtain ⟨τ', ν', m', h1, e1, e2, e3⟩ := PR_b17 h hb (by omega)
    exact ⟨τ', ν', m', by omega, e_t (nI_lt (b := 100) c (by decide)) e1, e_t (show nI b ≤ 99 from nI_le (b := 99) (by omega) (by decide)) e2, e3⟩
  · obtain ⟨τ', ν', e1, e2, e3⟩ := PR_emit h (by omega) (48 + (nI b / 100))
    obtain ⟨τ2, ν2, m', h1, f1, f2, f3⟩ := PR_b17 e3 hb (by omega)
    have ed : nI b / 100 = nI (b / 100) := pk_div (d := 100) (by omega) (by decide) (by decide)
    have er : nI b / 100 - nI b / 100 / 10 * 10 = nI b / 100 := by
      rw [ed]
      refine (pk_rem (d := 10) (a := b / 100) (by omega) (by decide) (by decide)).trans ?_
      congr 1
      omega
    refine ⟨τ2, ν2, m', by omega, e_f (nI_nlt (b := 100) (by omega) (by omega)) (e_b (a := τ') ?_ f1), e_f (show ¬ nI b ≤ 99 from nI_ge (a := 99) (by omega) (by omega)) (e_b e2 f2), f3⟩
    rw [er]
    exact e1
theorem l_show {N l : Nat} {γ : GLS} {μ0 : MdlS} {S : AS} (hC : RepC γ.2.2.1 S E0) (hM : RepM (μ0.1.1 0) S (UA S)) (hI : Inv S) (hl : l < 5) : ∀ r n n' i (τ : ObjS) (ν : MdlS) m, i + r = (aL S l).length → r < n → r < n' → PR μ0 τ ν m → m + 5 * r ≤ 120 → ∃ (v : Int32) (τ' : ObjS) (ν' : MdlS) (m' : Nat), f_X8_show_b24 N n (γ.1, τ, γ.2.2) (nI l) l (nI i) = some (.inr (v, (γ.1, τ', γ.2.2))) ∧ f_X9_show_b26 N n' ν (nI l) (nI i) = some (v, ν') ∧ PR μ0 τ' ν' m' := by
  have hr := hC.2.2.2.1 l (by omega)
  have h24 := hr.1
  intro r
  induction r with
  | zero =>
    intro n n' i τ ν m hi hn hn' hP hm
    obtain ⟨n, rfl⟩ : ∃ j, n = j + 1 := ⟨n - 1, by omega⟩
    obtain ⟨n', rfl⟩ : ∃ j, n' = j + 1 := ⟨n' - 1, by omega⟩
    have hMν : RepM (ν.1.1 0) S (UA S) := by rw [hP.2.2.2.2.1 0 (by decide)]; exact hM
    have hle : nI (aL S l).length ≤ nI i := nI_le (by omega) (by omega)
    refine ⟨nI m, τ, ν, m, ?_, ?_, hP⟩
    · rw [f_X8_show_b24]
      refine e_t (by show (γ.2.2.1 (3 + l)).2 1 ≤ nI i; rw [hr.2.1]; exact hle) ?_
      exact congrArg (fun q => some (Sum.inr (q, ((γ.1, τ, γ.2.2) : GLS)))) hP.2.1
    · rw [f_X9_show_b26]
      exact e_b (n_len (μ := ν) hMν l hl) (e_t hle (congrArg (fun q => some (q, ν)) hP.2.2.1))
  | succ r ih =>
    intro n n' i τ ν m hi hn hn' hP hm
    obtain ⟨n, rfl⟩ : ∃ j, n = j + 1 := ⟨n - 1, by omega⟩
    obtain ⟨n', rfl⟩ : ∃ j, n' = j + 1 := ⟨n' - 1, by omega⟩
    have hMν : RepM (ν.1.1 0) S (UA S) := by rw [hP.2.2.2.2.1 0 (by decide)]; exact hM
    have hli : i < (aL S l).length := by omega
    have hx : (aL S l).getD i 0 < 200 := (hI.1.1 l hl).2 _ (pu_getD_mem hli)
    have hle : ¬ nI (aL S l).length ≤ nI i := nI_ge hli (by omega)
    have tail : ∀ (τ : ObjS) (ν : MdlS) m, PR μ0 τ ν m → m + 4 + 5 * r ≤ 120 → ∃ (v : Int32) (τ' : ObjS) (ν' : MdlS) (m' : Nat), f_X8_show_b52 N (f_X8_show_b24 N n) (γ.1, τ, γ.2.2) (nI l) l (nI i) (nI ((aL S l).getD i 0)) = some (.inr (v, (γ.1, τ', γ.2.2))) ∧ f_X9_show_b52 N (f_X9_show_b26 N n') ν (nI l) (nI i) (nI ((aL S l).getD i 0)) = some (v, ν') ∧ PR μ0 τ' ν' m' := by
      intro τ ν m hP hm
      obtain ⟨τ1, ν1, m1, q1, q2, q3, q4⟩ := PR_num hP hx (by omega)
      unfold f_X8_show_b52 f_X9_show_b52
      by_cases c : l < 3
      · have c1 : ¬ (3 : Int32) ≤ nI l := nI_ge (b := 3) c (by decide)
        have c2 : ¬ (2 : Int32) < nI l := nI_nlt (a := 2) (by omega) (by decide)
        have hM1 : RepM (ν1.1.1 0) S (UA S) := by rw [q4.2.2.2.2.1 0 (by decide)]; exact hM
        have ed := n_isDirty (μ := ν1) hM1 hI _ hx
        have ec := p0_isDirty hC.2.1 hx
        by_cases d : aB S 3 ((aL S l).getD i 0) = -1
        · rw [if_pos d] at ed ec
          obtain ⟨v, τ', ν', m', i1, i2, i3⟩ := ih n n' (i + 1) τ1 ν1 m1 (by omega) (by omega) (by omega) q4 (by omega)
          rw [← nI_1] at i1 i2
          exact ⟨v, τ', ν', m', e_b q2 (e_l (e_f c1 (e_b ec (e_t rfl i1)))), e_b q3 (e_f c2 (e_b ed (e_t rfl i2))), i3⟩
        · rw [if_neg d] at ed ec
          obtain ⟨τ2, ν2, z1, z2, z3⟩ := PR_emit q4 (by omega) 42
          obtain ⟨v, τ', ν', m', i1, i2, i3⟩ := ih n n' (i + 1) τ2 ν2 (m1 + 1) (by omega) (by omega) (by omega) z3 (by omega)
          rw [← nI_1] at i1 i2
          exact ⟨v, τ', ν', m', e_b q2 (e_l (e_f c1 (e_b ec (e_f (by decide) (e_b z1 (e_l i1)))))), e_b q3 (e_f c2 (e_b ed (e_f (by decide) (e_b z2 i2)))), i3⟩
      · have c1 : (3 : Int32) ≤ nI l := nI_le (a := 3) (by omega) (by omega)
        have c2 : (2 : Int32) < nI l := nI_lt (a := 2) (by omega) (by omega)
        obtain ⟨v, τ', ν', m', i1, i2, i3⟩ := ih n n' (i + 1) τ1 ν1 m1 (by omega) (by omega) (by omega) q4 (by omega)
        rw [← nI_1] at i1 i2
        exact ⟨v, τ', ν', m', e_b q2 (e_l (e_t c1 i1)), e_b q3 (e_t c2 i2), i3⟩
    rw [f_X8_show_b24, f_X9_show_b26]
    have hle8 : ¬ (γ.2.2.1 (3 + l)).2 1 ≤ nI i := by rw [hr.2.1]; exact hle
    by_cases i0 : i = 0
    · subst i0
      obtain ⟨v, τ', ν', m', i1, i2, i3⟩ := tail τ ν m hP (by omega)
      exact ⟨v, τ', ν', m', e_f hle8 (e_b (p5_blockAt hr hli) (e_t (by decide) i1)), e_b (n_len (μ := ν) hMν l hl) (e_f hle (e_b (n_bAt (μ := ν) hMν l 0 hl hli) (e_t (by decide) i2))), i3⟩
    · obtain ⟨τ1, ν1, z1, z2, z3⟩ := PR_emit hP (by omega) 44
      obtain ⟨v, τ', ν', m', i1, i2, i3⟩ := tail τ1 ν1 (m + 1) z3 (by omega)
      have ip : ¬ nI i ≤ 0 := nI_nle (by omega) (by omega)
      exact ⟨v, τ', ν', m', e_f hle8 (e_b (p5_blockAt hr hli) (e_f ip (e_b z1 (e_l i1)))), e_b (n_len (μ := ν) hMν l hl) (e_f hle (e_b (n_bAt (μ := ν) hMν l i hl hli) (e_f ip (e_b z2 i2)))), i3⟩
theorem s_show {N K L : Nat} (hN : 20000 ≤ N) (hL : K ≤ L) : Sim_show N (TopK K) (TopK L) := by
  intro γ μ κ ix nb p0 h
  have hT := h.mono hL
  obtain ⟨⟨S, hS⟩, hR1, hR2, hR3, hR4⟩ := id h
  obtain ⟨hI, hC, hM, hK⟩ := id hS
  rcases r_list p0 (oI μ.1 6 0, μ.2) with ⟨l, hl, rfl, e1, e2⟩ | ⟨e1, e2⟩
  · have h24 := (hM.2.1 l hl).1
    have hP : PR (oI μ.1 6 0, μ.2) (oI γ.2.1 1 0) ((oI (oI μ.1 6 0) 22 0, μ.2) : MdlS) 0 := ⟨Nat.zero_le _, rfl, rfl, fun i hi => absurd hi (Nat.not_lt_zero _), fun _ _ => rfl, fun k hk => va_up_ne (va_up μ.1.2 6 0) _ hk⟩
    obtain ⟨v, τ', ν', m', i1, i2, i3⟩ := l_show (N := N) (γ := γ) (μ0 := (oI μ.1 6 0, μ.2)) hC hM hI hl (aL S l).length N N 0 (oI γ.2.1 1 0) _ 0 (by omega) (by omega) (by omega) hP (by omega)
    obtain ⟨p1, p2, p3, p4, p5, p6⟩ := id i3
    refine sa_r (T := fun g m => TopK L g m κ ix nb) (γ := γ) (γ1 := (γ.1, τ', γ.2.2)) (e_x e1 (e_b (c_rowOf (by omega)) (e_l i1))) (e_l (e_b e2 (e_f (by decide) (e_l i2)))) (p6 6 (by decide)) ⟨⟨S, ?_⟩, ?_, ?_, ?_, m', p1, p2, p3, p4⟩
    · rw [p5 0 (by decide)]; exact hS.mono hL
    · rw [p5 2 (by decide), p6 5 (by decide)]; exact hR1.mono hL
    · rw [p5 3 (by decide), p5 4 (by decide)]; exact hR2.mono hL
    · unfold TraOk
      rw [p5 7 (by decide), p6 10 (by decide), p6 16 (by decide), p6 17 (by decide)]; exact hR3
  · exact sa_l (T := fun g m => TopK L g m κ ix nb) (γ := γ) (k := 0) (b := 0) (μ1 := (oI (oI μ.1 6 0) 6 1, μ.2)) (e_xl e1) rfl (e_l (e_b e2 (e_t rfl rfl))) rfl ((hT.t6 0).t6 1)
