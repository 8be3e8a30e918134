/-! queries: builders, ranges -/
theorem sq_l {α : Type} {T : MdlS → Prop} {hk : Nat → Prop} {k1 k : Nat} {x8 : Option (Nat ⊕ α)} {x9 : Option (α × MdlS)} {b : α} {μ1 : MdlS} (e8 : x8 = some (.inl k)) (h0 : hk k) (e9 : x9 = some (b, μ1)) (et : μ1.1.2 6 = wCode k1 (.inl k : Nat ⊕ α)) (hT : T μ1) :
    ∃ (res : Nat ⊕ α) (b : α) (μ1 : MdlS), x8 = some res ∧ (∀ k, res = .inl k → hk k) ∧ x9 = some (b, μ1) ∧ f_X9_thrown μ1 = some (wCode k1 res) ∧ (∀ k, res = .inl k → T μ1) ∧ ∀ r, res = .inr r → b = r ∧ T μ1 :=
  ⟨.inl k, b, μ1, e8, fun k' e => (by cases e; exact h0), e9, congrArg some et, fun _ _ => hT, fun r e => by cases e⟩
theorem sq_r {α : Type} {T : MdlS → Prop} {hk : Nat → Prop} {k1 : Nat} {x8 : Option (Nat ⊕ α)} {x9 : Option (α × MdlS)} {v : α} {μ1 : MdlS} (e8 : x8 = some (.inr v)) (e9 : x9 = some (v, μ1)) (et : μ1.1.2 6 = 0) (hT : T μ1) :
    ∃ (res : Nat ⊕ α) (b : α) (μ1 : MdlS), x8 = some res ∧ (∀ k, res = .inl k → hk k) ∧ x9 = some (b, μ1) ∧ f_X9_thrown μ1 = some (wCode k1 res) ∧ (∀ k, res = .inl k → T μ1) ∧ ∀ r, res = .inr r → b = r ∧ T μ1 :=
  ⟨.inr v, v, μ1, e8, fun k' e => (by cases e), e9, congrArg some et, fun _ _ => hT, fun r e => by cases e; exact ⟨rfl, hT⟩⟩
theorem sa_l {T : GLS → MdlS → Prop} {hk : Nat → Prop} {k1 k : Nat} {γ : GLS} {x8 : Option (Nat ⊕ (Int32 × GLS))} {x9 : Option (Int32 × MdlS)} {b : Int32} {μ1 : MdlS} (e8 : x8 = some (.inl k)) (h0 : hk k) (e9 : x9 = some (b, μ1)) (et : μ1.1.2 6 = wCode k1 (.inl k : Nat ⊕ (Int32 × GLS))) (hT : T γ μ1) :
    ∃ (res : Nat ⊕ (Int32 × GLS)) (b : Int32) (μ1 : MdlS), x8 = some res ∧ (∀ k, res = .inl k → hk k) ∧ x9 = some (b, μ1) ∧ f_X9_thrown μ1 = some (wCode k1 res) ∧ (∀ k, res = .inl k → T γ μ1) ∧ ∀ r, res = .inr r → b = r.1 ∧ T r.2 μ1 :=
  ⟨.inl k, b, μ1, e8, fun k' e => (by cases e; exact h0), e9, congrArg some et, fun _ _ => hT, fun r e => by cases e⟩
theorem sa_r {T : GLS → MdlS → Prop} {hk : Nat → Prop} {k1 : Nat} {γ γ1 : GLS} {x8 : Option (Nat ⊕ (Int32 × GLS))} {x9 : Option (Int32 × MdlS)} {v : Int32} {μ1 : MdlS} (e8 : x8 = some (.inr (v, γ1))) (e9 : x9 = some (v, μ1)) (et : μ1.1.2 6 = 0) (hT : T γ1 μ1) :
    ∃ (res : Nat ⊕ (Int32 × GLS)) (b : Int32) (μ1 : MdlS), x8 = some res ∧ (∀ k, res = .inl k → hk k) ∧ x9 = some (b, μ1) ∧ f_X9_thrown μ1 = some (wCode k1 res) ∧ (∀ k, res = .inl k → T γ μ1) ∧ ∀ r, res = .inr r → b = r.1 ∧ T r.2 μ1 :=
  ⟨.inr (v, γ1), v, μ1, e8, fun k' e => (by cases e), e9, congrArg some et, fun _ e => (by cases e), fun r e => by cases e; exact ⟨rfl, hT⟩⟩
theorem e_t {β : Type} {c : Prop} [Decidable c] {x y r : Option β} (hc : c) (h : x = r) : (if c then x else y) = r := by rwa [if_pos hc]
theorem e_f {β : Type} {c : Prop} [Decidable c] {x y r : Option β} (hc : ¬ c) (h : y = r) : (if c then x else y) = r := by rwa [if_neg hc]
theorem e_b {α β : Type} {x : Option α} {k : α → Option β} {a : α} {r : Option β} (e : x = some a) (h : k a = r) : x.bind k = r := by
  subst e
  exact h
theorem e_l {α β : Type} {x : α} {k : α → Option β} {r : Option β} (h : k x = r) : cx_let x k = r := h
theorem e_g {β : Type} {i : Int32} {n : Nat} {x r : Option β} (j : Nat) (hi : i = nI j) (h : j < n) (hn : n < 2 ^ 31) (k : x = r) : gd i n x = r := by rwa [pu_gd j hi h hn]
theorem e_x {α β : Type} {x : Option (Nat ⊕ α)} {k : α → Option (Nat ⊕ β)} {a : α} {r : Option (Nat ⊕ β)} (e : x = some (.inr a)) (h : k a = r) : xb x k = r := by
  subst e
  exact h
theorem e_xl {α β : Type} {x : Option (Nat ⊕ α)} {k : α → Option (Nat ⊕ β)} {a : Nat} (e : x = some (.inl a)) : xb x k = some (.inl a) := by
  subst e
  rfl
theorem e_o {α β : Type} {k : α} {a : Option β} {b : α → Option β} {r : Option β} (h : b k = r) : on_ (some k) a b = r := h
theorem zb_0 {β : Type} {x : Option β} : zb 0 x = x := if_pos (Or.inl rfl)
theorem zb_1 {β : Type} {x : Option β} : zb 1 x = x := if_pos (Or.inr rfl)
theorem r_range (p lo hi : Int32) : (¬ p < lo ∧ p ≤ hi ∧ f_X8_needRange p lo hi = some (.inr ()) ∧ f_X9_isBetween p lo hi = some 1) ∨ (f_X8_needRange p lo hi = some (.inl 1) ∧ f_X9_isBetween p lo hi = some 0) := by
  unfold f_X8_needRange f_X9_isBetween
  by_cases h1 : p < lo
  · rw [if_pos h1, if_pos h1]; exact Or.inr ⟨rfl, rfl⟩
  · rw [if_neg h1, if_neg h1]
    by_cases h2 : p ≤ hi
    · rw [if_pos h2, if_neg (Int32.not_lt.mpr h2)]; exact Or.inl ⟨h1, h2, rfl, rfl⟩
    · rw [if_neg h2, if_pos (Int32.not_le.mp h2)]; exact Or.inr ⟨rfl, rfl⟩
theorem r_rangeN (p M : Int32) {n : Nat} (hM : M.toInt = n) : (∃ b, b ≤ n ∧ p = nI b ∧ f_X8_needRange p 0 M = some (.inr ()) ∧ f_X9_isBetween p 0 M = some 1) ∨ (f_X8_needRange p 0 M = some (.inl 1) ∧ f_X9_isBetween p 0 M = some 0) := by
  rcases r_range p 0 M with ⟨h1, h2, h3, h4⟩ | h
  · obtain ⟨j, hj, e⟩ := nI_of2 hM h1 h2
    exact Or.inl ⟨j, hj, e, h3, h4⟩
  · exact Or.inr h
theorem r_block (p : Int32) : (∃ b, b < 200 ∧ p = nI b ∧ f_X8_needRange p 0 199 = some (.inr ()) ∧ f_X9_isBlock p = some 1) ∨ (f_X8_needRange p 0 199 = some (.inl 1) ∧ f_X9_isBlock p = some 0) := by
  unfold f_X9_isBlock
  rcases r_rangeN p 199 (n := 199) rfl with ⟨b, hb, e, h3, h4⟩ | ⟨h3, h4⟩
  · rw [h4, Option.bind_some, zb_1]; exact Or.inl ⟨b, by omega, e, h3, rfl⟩
  · rw [h4, Option.bind_some, zb_0]; exact Or.inr ⟨h3, rfl⟩
theorem r_index {n : Nat} (h0 : 0 < n) (hn : n < 2 ^ 30) (p : Int32) : (∃ l, l < n ∧ p = nI l ∧ f_X8_needIndex p (nI n) = some (.inr ()) ∧ f_X9_isBetween p 0 (nI (n - 1)) = some 1) ∨ (f_X8_needIndex p (nI n) = some (.inl 0) ∧ f_X9_isBetween p 0 (nI (n - 1)) = some 0) := by
  unfold f_X8_needIndex f_X9_isBetween
  by_cases h1 : p < 0
  · rw [if_pos h1, if_pos h1]; exact Or.inr ⟨rfl, rfl⟩
  · obtain ⟨j, hj, rfl⟩ := nI_of h1
    rw [if_neg h1, if_neg h1]
    by_cases h2 : j < n
    · rw [if_pos (nI_lt h2 (by omega)), if_neg (nI_nlt (by omega) (by omega))]; exact Or.inl ⟨j, h2, rfl, rfl, rfl⟩
    · rw [if_neg (nI_nlt (by omega) (by omega)), if_pos (nI_lt (by omega) hj)]; exact Or.inr ⟨rfl, rfl⟩
theorem r_list (p : Int32) (μ : MdlS) : (∃ l, l < 5 ∧ p = nI l ∧ f_X8_needIndex p 5 = some (.inr ()) ∧ f_X9_isList μ p = some 1) ∨ (f_X8_needIndex p 5 = some (.inl 0) ∧ f_X9_isList μ p = some 0) := by
  unfold f_X9_isList
  rcases r_index (n := 5) (by decide) (by decide) p with ⟨l, hl, e, h3, h4⟩ | ⟨h3, h4⟩
  · rw [show f_X9_isBetween p 0 4 = some 1 from h4, Option.bind_some, zb_1]; exact Or.inl ⟨l, hl, e, h3, rfl⟩
  · rw [show f_X9_isBetween p 0 4 = some 0 from h4, Option.bind_some, zb_0]; exact Or.inr ⟨h3, rfl⟩
theorem r_client {γ : GLS} {k : Nat} (h9 : (γ.2.2.1 0).2 9 = nI k) (hk : k ≤ 4) (p : Int32) : (∃ c, c < k ∧ p = nI c ∧ f_X8_needClient γ p = some (.inr ()) ∧ ∀ μ : MdlS, μ.1.1 0 6 = nI k → f_X9_isClient μ p = some 1) ∨ (f_X8_needClient γ p = some (.inl 0) ∧ ∀ μ : MdlS, μ.1.1 0 6 = nI k → f_X9_isClient μ p = some 0) := by
  have e9 (μ : MdlS) (h : μ.1.1 0 6 = nI k) : f_X9_isClient μ p = (f_X9_isBetween p 0 (nI k - 1)).bind fun r2 => zb r2 (some r2) := by
    unfold f_X9_isClient
    rw [pu_gd (i := 6) 6 rfl (by decide) (by decide), show μ.1.1 0 (Int32.toNatClampNeg 6) = nI k from h]
  unfold f_X8_needClient f_X8_needIndex
  rw [h9]
  by_cases h1 : p < 0
  · rw [if_pos h1]
    refine Or.inr ⟨rfl, fun μ hμ => ?_⟩
    rw [e9 μ hμ]
    unfold f_X9_isBetween
    rw [if_pos h1, Option.bind_some, zb_0]
  · obtain ⟨j, hj, rfl⟩ := nI_of h1
    rw [if_neg h1]
    by_cases h2 : j < k
    · rw [if_pos (nI_lt h2 (by omega))]
      refine Or.inl ⟨j, h2, rfl, rfl, fun μ hμ => ?_⟩
      rw [e9 μ hμ]
      unfold f_X9_isBetween
      rw [if_neg h1, pu_sub1 (by omega), if_neg (nI_nlt (by omega) (by omega)), Option.bind_some, zb_1]
    · rw [if_neg (nI_nlt (by omega) (by omega))]
      refine Or.inr ⟨rfl, fun μ hμ => ?_⟩
      rw [e9 μ hμ]
      unfold f_X9_isBetween
      have h3 : nI k - 1 < nI j := by
        by_cases k0 : k = 0
        · rw [k0, show nI 0 - 1 = (-1 : Int32) from by decide, Int32.lt_iff_toInt_lt, nI_toInt hj, show (-1 : Int32).toInt = -1 from by decide]
          omega
        · rw [pu_sub1 (by omega)]; exact nI_lt (by omega) hj
      rw [if_neg h1, if_pos h3, Option.bind_some, zb_0]
theorem Inv.mem {S : AS} (hI : Inv S) {l x : Nat} (hl : l < 3) (hx : x ∈ aL S l) : x < 200 ∧ aB S 0 x = nI l ∧ aB S 0 x ≠ -1 ∧ ∃ c, c < 4 ∧ aB S 2 x = nI c ∧ nI c < aN S 6 := by
  have h2 := (hI.1.1 l (by omega)).2 x hx
  have h3 := ((hI.2 x h2).1 l hl).mp hx
  have h4 : aB S 0 x ≠ -1 := by rw [h3]; exact pu_m1 (by omega)
  exact ⟨h2, h3, h4, (hI.2 x h2).2.2.2.2.2.2 h4⟩
-- the model's leaves again
section MM
variable {μ : MdlS} {S : AS} {U : Nat → Nat → Prop}
theorem n_of (h : RepM (μ.1.1 0) S U) (b f : Nat) (hb : b < 200) (hf : f < 5) (q : f = 0 ∨ f = 4 ∨ U f b) : f_X9_of μ (nI b) (nI f) = some (aB S f b) := by
  have := m_of (μ := μ) (d := μ.1.2 19) (e := μ.1.2 20) h b f hb hf q
  rwa [mM_eta] at this
theorem n_ofC (h : RepM (μ.1.1 0) S U) (c f : Nat) (hc : c < 4) (hn : nI c < aN S 6) (hf : f < 8) : f_X9_ofClient μ (nI c) (nI f) = some (aC S c f) := by
  have := m_ofC (μ := μ) (d := μ.1.2 19) (e := μ.1.2 20) h c f hc hn hf
  rwa [mM_eta] at this
theorem n_len (h : RepM (μ.1.1 0) S U) (l : Nat) (hl : l < 5) : f_X9_length μ (nI l) = some (nI (aL S l).length) := by
  have := m_len (μ := μ) (d := μ.1.2 19) (e := μ.1.2 20) h l hl
  rwa [mM_eta] at this
theorem n_bAt (h : RepM (μ.1.1 0) S U) (l i : Nat) (hl : l < 5) (hi : i < (aL S l).length) : f_X9_blockAt μ (nI l) (nI i) = some (nI ((aL S l).getD i 0)) := by
  have := m_bAt (μ := μ) (d := μ.1.2 19) (e := μ.1.2 20) h l i hl hi
  rwa [mM_eta] at this
theorem n_isDirty (h : RepM (μ.1.1 0) S (UA S)) (hI : Inv S) (b : Nat) (hb : b < 200) : f_X9_isDirty μ (nI b) = some (if aB S 3 b = -1 then 0 else 1) := by
  have := m_isDirty (μ := μ) (d := μ.1.2 19) (e := μ.1.2 20) h hI.nu (fun x _ q => q) b hb
  rwa [mM_eta] at this
theorem n_inOrder {N : Nat} (H : RepM (μ.1.1 0) S (UA S)) (hI : Inv S) {x1 : Int32} (hN : 1000 ≤ N) : f_X9_inOrder N μ x1 = some (aDn S (aHd S) x1 200 0) := by
  have := m_inOrder (μ := μ) (d := μ.1.2 19) (e := μ.1.2 20) (N := N) (x1 := x1) H hI.nu (fun x _ q => q) hI.1.2.2.2.2.1.1 hI.1.2.2.2.2.1.2 hN
  rwa [mM_eta] at this
theorem n_dirtyUnits {N : Nat} (hN : 1000 ≤ N) (H : RepM (μ.1.1 0) S (UA S)) (hI : Inv S) : f_X9_dirtyUnits N μ = some (nI (aCt (isD S) 200 0)) := by
  have := m_dirtyUnits (μ := μ) (d := μ.1.2 19) (e := μ.1.2 20) hN H hI.nu (hUA_UA S)
  rwa [mM_eta] at this
theorem own2 (hI : Inv S) : ∀ l, l < 2 → ∀ x ∈ aL S l, x < 200 ∧ UA S 2 x ∧ ∃ o, o < 4 ∧ aB S 2 x = nI o ∧ nI o < aN S 6 := fun l hl x hx => by
  obtain ⟨a, b, c, d⟩ := hI.mem (show l < 3 by omega) hx
  exact ⟨a, c, d⟩
theorem own2' (hI : Inv S) : ∀ l, l < 2 → ∀ x ∈ aL S l, x < 200 ∧ UA S 2 x ∧ ∃ o, o < 4 ∧ aB S 2 x = nI o := fun l hl x hx => by
  obtain ⟨a, b, c, d⟩ := hI.mem (show l < 3 by omega) hx
  exact ⟨a, c, d.choose, d.choose_spec.1, d.choose_spec.2.1⟩
theorem n_units {N c : Nat} (hN : 100 ≤ N) (h : RepM (μ.1.1 0) S (UA S)) (hI : Inv S) (hc : c < 4) : f_X9_unitsOf N μ (nI c) 1 = some (nI (aUn S c)) := by
  have := m_units (μ := μ) (d := μ.1.2 19) (e := μ.1.2 20) hN h hc (own2' hI)
  rwa [mM_eta] at this
theorem n_unitsLow {N c : Nat} (hN : 100 ≤ N) (h : RepM (μ.1.1 0) S (UA S)) (hI : Inv S) (hc : c < 4) : f_X9_unitsOf N μ (nI c) 0 = some (nI (aCn S (aL S 2) c)) := by
  have := m_unitsLow (μ := μ) (d := μ.1.2 19) (e := μ.1.2 20) hN h hc (fun x hx => by
    obtain ⟨a, b, c, d⟩ := hI.mem (show 2 < 3 by omega) hx
    exact ⟨a, c, d.choose, d.choose_spec.1, d.choose_spec.2.1⟩)
  rwa [mM_eta] at this
theorem n_weights {N : Nat} (hN : 100 ≤ N) (h : RepM (μ.1.1 0) S U) (hc : cliOk S) : f_X9_allWeights N μ = some (nI (aSw S)) := by
  have := m_weights (μ := μ) (d := μ.1.2 19) (e := μ.1.2 20) hN h hc
  rwa [mM_eta] at this
theorem n_tooMuch {N c : Nat} (hN : 100 ≤ N) (h : RepM (μ.1.1 0) S (UA S)) (hI : Inv S) (hc : c < 4) (hn : nI c < aN S 6) : f_X9_hasTooMuch N μ (nI c) = some (if aTM S c then 1 else 0) := by
  have := m_tooMuch (μ := μ) (d := μ.1.2 19) (e := μ.1.2 20) hN h hc hn hI.1.2.2.2.1 (own2' hI)
  rwa [mM_eta] at this
theorem n_isFull (h : RepM (μ.1.1 0) S U) : f_X9_isFull μ = some (@ite _ (aFull S) (inferInstanceAs (Decidable (_ = _))) 1 0) := by
  have := m_isFull (μ := μ) (d := μ.1.2 19) (e := μ.1.2 20) h
  rwa [mM_eta] at this
theorem n_victimList {wf : Int32} (h : RepM (μ.1.1 0) S U) : f_X9_victimList μ wf = some (nI (aVl S wf)) := by
  have := m_victimList (μ := μ) (d := μ.1.2 19) (e := μ.1.2 20) (wf := wf) h
  rwa [mM_eta] at this
theorem n_victimOf {N l : Nat} (hN : 100 ≤ N) (hl : l < 2) (h : RepM (μ.1.1 0) S (UA S)) (hI : Inv S) (hp : 0 < (aL S l).length) : f_X9_victimOf N μ (nI l) = some (nI (aVo S l (aL S l).length)) := by
  unfold f_X9_victimOf
  have h24 := (h.2.1 l (by omega)).1
  have := m_victim_b8 (μ := μ) (d := μ.1.2 19) (e := μ.1.2 20) hN hl h hI.1.2.2.2.1 (own2 hI) hp (aL S l).length N (Nat.le_refl _) (by omega)
  rw [mM_eta] at this
  rw [n_len h l (by omega), Option.bind_some]
  exact this
theorem n_leave {N : Nat} (hN : 100 ≤ N) (h : RepM (μ.1.1 0) S (UA S)) (hI : Inv S) (hp : 0 < (aL S 2).length) : f_X9_leavingUnit N μ = some (nI (aX S)) := by
  have := m_leave (μ := μ) (d := μ.1.2 19) (e := μ.1.2 20) hN h (fun x hx => ⟨(hI.mem (show 2 < 3 by omega) hx).1, (hI.mem (show 2 < 3 by omega) hx).2.2.1⟩) hp
  rwa [mM_eta] at this
theorem n_placeOf {N l b : Nat} (hN : 100 ≤ N) (h : RepM (μ.1.1 0) S U) (hI : Inv S) (hl : l < 5) (hb : b < 200) (hm : b ∈ aL S l) : f_X9_placeOf N μ (nI l) (nI b) = some (pu_pl b (aL S l) 0) := by
  have := m_placeOf (μ := μ) (d := μ.1.2 19) (e := μ.1.2 20) (a := μ.1.1 0) hN hl hb (h.2.1 l hl).1 (hI.1.1 l hl).2 (h.2.1 l hl).2.2 hm
  rwa [mM_eta] at this
end MM
-- the queries one by one
theorem s_errorCode {N K L : Nat} (hL : K ≤ L) : Sim_errorCode N (TopK K) (TopK L) := fun γ μ κ ix nb h => ⟨γ.1.2 6, (oI μ.1 6 0, μ.2), rfl, congrArg (fun q => some (q, ((oI μ.1 6 0, μ.2) : MdlS))) h.2.2.2.1.2.1.symm, (h.mono hL).t6 0⟩
theorem s_errorPosition {N K L : Nat} (hL : K ≤ L) : Sim_errorPosition N (TopK K) (TopK L) := fun γ μ κ ix nb h => ⟨γ.1.2 7, (oI μ.1 6 0, μ.2), rfl, congrArg (fun q => some (q, ((oI μ.1 6 0, μ.2) : MdlS))) h.2.2.2.1.2.2.symm, (h.mono hL).t6 0⟩
theorem s_output {N K L : Nat} (hL : K ≤ L) : Sim_output N (TopK K) (TopK L) := by
  intro γ μ κ ix nb p0 h
  obtain ⟨n, h1, h2, h3, h4⟩ := h.2.2.2.2
  have hT := (h.mono hL).t6 0
  unfold f_X8_output f_X4_byteAt f_X9_output f_X9_isBetween
  rw [h2]
  by_cases c0 : p0 < 0
  · refine ⟨-1, (oI μ.1 6 0, μ.2), by rw [if_pos c0]; rfl, ?_, hT⟩
    show ((if p0 < 0 then some (0 : Int32) else _).bind _) = _
    rw [if_pos c0]
    rfl
  · obtain ⟨j, hj, rfl⟩ := nI_of c0
    by_cases c1 : j < n
    · refine ⟨γ.2.1.1 0 j, (oI μ.1 6 0, μ.2), ?_, ?_, hT⟩
      · rw [if_neg c0, if_neg (nI_ge c1 (by omega)), if_neg (show ¬ (120 : Int32) ≤ nI j from nI_ge (b := 120) (by omega) (by decide)), pu_gd j rfl (by omega) (by decide), nI_clamp (by omega)]
        rfl
      · show ((if nI j < 0 then some (0 : Int32) else if μ.1.2 22 - 1 < nI j then some 0 else some 1).bind fun r2 => if r2 = 0 then some ((-1 : Int32), ((oI μ.1 6 0, μ.2) : MdlS)) else gd (nI j) 200 (some (μ.1.1 21 (Int32.toNatClampNeg (nI j)), ((oI μ.1 6 0, μ.2) : MdlS)))) = _
        rw [if_neg c0, h3, pu_sub1 (by omega), if_neg (nI_nlt (by omega) (by omega)), Option.bind_some, if_neg (by decide), pu_gd j rfl (by omega) (by decide), nI_clamp (by omega), h4 j c1]
    · refine ⟨-1, (oI μ.1 6 0, μ.2), ?_, ?_, hT⟩
      · rw [if_neg c0, if_pos (nI_le (by omega) hj)]
        rfl
      · show ((if nI j < 0 then some (0 : Int32) else if μ.1.2 22 - 1 < nI j then some 0 else some 1).bind fun r2 => if r2 = 0 then some ((-1 : Int32), ((oI μ.1 6 0, μ.2) : MdlS)) else gd (nI j) 200 (some (μ.1.1 21 (Int32.toNatClampNeg (nI j)), ((oI μ.1 6 0, μ.2) : MdlS)))) = _
        have h5 : nI n - 1 < nI j := by
          by_cases k0 : n = 0
          · rw [k0, show nI 0 - 1 = (-1 : Int32) from by decide, Int32.lt_iff_toInt_lt, nI_toInt hj, show (-1 : Int32).toInt = -1 from by decide]
            omega
          · rw [pu_sub1 (by omega)]; exact nI_lt (by omega) hj
        rw [if_neg c0, h3, if_pos h5]
        rfl
theorem c_number {N : Nat} {σ : CacS} {a : Nat → Int32} {S : AS} (h : RepC σ S E0) (hM : RepM a S (UA S)) {j : Nat} (hj : j < 23) (h12 : j ≠ 12) : f_X1_numberOf N σ (nI j) = some (a j) := by
  obtain ⟨⟨o1, o2, o3, o4, o5, o6⟩, ⟨b1, b2, -⟩, ⟨t1, t2, t3, t4, t5, t6, t7, t8, t9⟩, hr, -⟩ := h
  have m (k : Nat) (hk : k < 7 ∨ 13 ≤ k ∧ k < 23) := (hM.1 k hk).symm
  have r (l : Nat) (hl : l < 5) : (σ (3 + l)).2 1 = a (7 + l) := (hr l hl).2.1.trans (hM.2.1 l hl).2.1.symm
  rcases (show j = 0 ∨ j = 1 ∨ j = 2 ∨ j = 3 ∨ j = 4 ∨ j = 5 ∨ j = 6 ∨ j = 7 ∨ j = 8 ∨ j = 9 ∨ j = 10 ∨ j = 11 ∨ j = 13 ∨ j = 14 ∨ j = 15 ∨ j = 16 ∨ j = 17 ∨ j = 18 ∨ j = 19 ∨ j = 20 ∨ j = 21 ∨ j = 22 by omega) with rfl | rfl | rfl | rfl | rfl | rfl | rfl | rfl | rfl | rfl | rfl | rfl | rfl | rfl | rfl | rfl | rfl | rfl | rfl | rfl | rfl | rfl
  · exact congrArg some (o2.trans (m 0 (by decide)))
  · exact congrArg some (o3.trans (m 1 (by decide)))
  · exact congrArg some (o4.trans (m 2 (by decide)))
  · exact congrArg some (o5.trans (m 3 (by decide)))
  · exact congrArg some (o6.trans (m 4 (by decide)))
  · exact congrArg some (t1.trans (m 5 (by decide)))
  · exact congrArg some (o1.trans (m 6 (by decide)))
  · exact congrArg some (r 0 (by decide))
  · exact congrArg some (r 1 (by decide))
  · exact congrArg some (r 2 (by decide))
  · exact congrArg some (r 3 (by decide))
  · exact congrArg some (r 4 (by decide))
  · exact congrArg some (b1.trans (m 13 (by decide)))
  · exact congrArg some (t2.trans (m 14 (by decide)))
  · exact congrArg some (t3.trans (m 15 (by decide)))
  · exact congrArg some (t4.trans (m 16 (by decide)))
  · exact congrArg some (t5.trans (m 17 (by decide)))
  · exact congrArg some (t6.trans (m 18 (by decide)))
  · exact congrArg some (t7.trans (m 19 (by decide)))
  · exact congrArg some (t8.trans (m 20 (by decide)))
  · exact congrArg some (b2.trans (m 21 (by decide)))
  · exact congrArg some (t9.trans (m 22 (by decide)))
theorem s_count {N K L : Nat} (hN : 1000 ≤ N) (hL : K ≤ L) : Sim_count N (TopK K) (TopK L) := by
  intro γ μ κ ix nb p0 h
  obtain ⟨⟨S, hI, hC, hM, hK⟩, hR⟩ := id h
  have hT := h.mono hL
  obtain ⟨n, w, h1, h2, h3, h4, -⟩ := hR.1
  rcases r_rangeN p0 23 (n := 23) rfl with ⟨j, hj, rfl, e1, -⟩ | ⟨e1, e2⟩
  · by_cases c23 : j = 23
    · subst c23
      exact sq_r (v := nI n) (μ1 := (oI μ.1 6 0, μ.2)) (e_x e1 (e_t rfl (congrArg (fun q => some (Sum.inr q)) h3))) (e_l (e_f (by decide) (e_t rfl (congrArg (fun q => some (q, ((oI μ.1 6 0, μ.2) : MdlS))) h4)))) rfl (hT.t6 0)
    · by_cases c12 : j = 12
      · subst c12
        exact sq_r (v := nI (aCt (isD S) 200 0)) (μ1 := (oI μ.1 6 0, μ.2)) (e_x e1 (e_f (by decide) (e_b ((show f_X1_numberOf N γ.2.2.1 (nI 12) = (f_X0_howManyDirty N (γ.2.2.1 1)).bind fun r26 => some r26 from rfl).trans (e_b (p0_howManyDirty hC.2.1 hN) rfl)) rfl))) (e_l (e_t rfl (e_b (n_dirtyUnits (μ := (oI μ.1 6 0, μ.2)) hN hM hI) rfl))) rfl (hT.t6 0)
      · have n12 : nI j ≠ 12 := fun q => c12 ((nI_eq (b := 12) (by omega) (by decide)).mp q)
        have n23 : nI j ≠ 23 := fun q => c23 ((nI_eq (b := 23) (by omega) (by decide)).mp q)
        rcases r_rangeN (nI j) 22 (n := 22) rfl with ⟨i, -, -, -, e2⟩ | ⟨e3, -⟩
        · exact sq_r (v := μ.1.1 0 j) (μ1 := (oI μ.1 6 0, μ.2)) (e_x e1 (e_f n23 (e_b (c_number hC hM (by omega) c12) rfl))) (e_l (e_f n12 (e_f n23 (e_b e2 (e_f (by decide) (e_g j rfl (by omega) (by decide) (by rw [nI_clamp (show j < 2 ^ 31 by omega)]; rfl))))))) rfl (hT.t6 0)
        · exfalso
          unfold f_X8_needRange at e3
          rw [if_neg (nI_pos (by omega)), if_pos (show nI j ≤ 22 from nI_le (b := 22) (by omega) (by decide))] at e3
          cases e3
  · have n12 : p0 ≠ 12 := fun q => by rw [q] at e2; exact absurd e2 (by decide)
    have n23 : p0 ≠ 23 := fun q => by rw [q] at e2; exact absurd e2 (by decide)
    have e3 : f_X9_isBetween p0 0 22 = some 0 := by
      rcases r_rangeN p0 22 (n := 22) rfl with ⟨i, hi, rfl, -, -⟩ | ⟨-, e3⟩
      · unfold f_X9_isBetween at e2
        rw [if_neg (nI_pos (by omega)), if_neg (show ¬ (23 : Int32) < nI i from nI_nlt (a := 23) (by omega) (by decide))] at e2
        cases e2
      · exact e3
    exact sq_l (k := 1) (b := 0) (μ1 := (oI (oI μ.1 6 0) 6 1, μ.2)) (e_xl e1) rfl (e_l (e_f n12 (e_f n23 (e_b e3 (e_t rfl rfl))))) rfl ((hT.t6 0).t6 1)
