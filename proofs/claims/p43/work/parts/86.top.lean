/-! THE TOP: both sides' whole state over abstract ones -/
def cntOk (S : AS) (K : Nat) : Prop := ∃ u w, aN S 14 = nI u ∧ aN S 15 = nI w ∧ u + w ≤ K
theorem cntOk.mono {S : AS} {K L : Nat} (h : cntOk S K) (hk : K ≤ L) : cntOk S L := by
  obtain ⟨u, w, h1, h2, h3⟩ := h
  exact ⟨u, w, h1, h2, by omega⟩
theorem p5_copy_b10 {N : Nat} {υ : ObjS} {L : List Nat} (h : RowL υ L) : ∀ r n i (τ : ObjS), i + r = L.length → r < n → τ.2 1 = nI L.length → (∀ j, j < i → τ.1 0 j = nI (L.getD j 0)) → Ok (f_X5_copyFrom_b10 N n τ υ (nI i)) (fun t => RowL t L) := by
  intro r
  induction r with
  | zero =>
    intro n i τ hi hn h1 hj
    obtain ⟨n, rfl⟩ : ∃ m, n = m + 1 := ⟨n - 1, by omega⟩
    have h24 := h.1
    have : i = L.length := by omega
    subst this
    rw [f_X5_copyFrom_b10, h1, if_pos (nI_le (Nat.le_refl _) (by omega))]
    exact ok_some ⟨h24, h1, hj⟩
  | succ r ih =>
    intro n i τ hi hn h1 hj
    obtain ⟨n, rfl⟩ : ∃ m, n = m + 1 := ⟨n - 1, by omega⟩
    have h24 := h.1
    rw [f_X5_copyFrom_b10, h1, if_neg (nI_ge (by omega) (by omega)), if_neg (pu_ge24 (by omega)), p5_blockAt h (by omega), Option.bind_some, pu_gd i rfl (by omega) (by decide), nI_1, nI_clamp (by omega)]
    refine ok_let (ih n (i + 1) (oA τ 0 i (nI (L.getD i 0))) (by omega) (by omega) h1 (fun j hj2 => ?_))
    show upd (τ.1 0) i (nI (L.getD i 0)) j = _
    by_cases e : j = i
    · rw [upd_eq e, e]
    · rw [upd_ne e]; exact hj j (by omega)
theorem p5_copy {N : Nat} {τ υ : ObjS} {L : List Nat} (hN : 100 ≤ N) (h : RowL υ L) : Ok (f_X5_copyFrom N τ υ) (fun t => RowL t L) := by
  unfold f_X5_copyFrom
  have h24 := h.1
  exact ok_let (p5_copy_b10 h L.length N 0 (oI τ 1 (υ.2 1)) (by omega) (by omega) h.2.1 (fun j hj => absurd hj (Nat.not_lt_zero _)))
theorem pu_cpy {f g : Nat → Int32} {b : Nat} (hb : b < 200) : va_cpy f g 0 0 200 b = f b := by
  rw [pk_cpy_in (Nat.zero_le _) (by omega), show 0 + (b - 0) = b by omega]
theorem p0_copy {τ υ : ObjS} {S : AS} {E : Nat → Prop} (h : RepB υ S E) : Ok (f_X0_copyFrom τ υ) (fun t => RepB t S E) := by
  unfold f_X0_copyFrom
  refine ok_let (ok_let (ok_let (ok_let (ok_let (ok_let (ok_let (ok_let (ok_some ⟨h.1, h.2.1, fun b hb => ?_⟩))))))))
  obtain ⟨q0, q1, q2, q3, q4, q5⟩ := h.2.2 b hb
  exact ⟨fun he => (pu_cpy hb).trans (q0 he), (pu_cpy hb).trans q1, (pu_cpy hb).trans q2, (pu_cpy hb).trans q3, (pu_cpy hb).trans q4, (pu_cpy hb).trans q5⟩
theorem p6_copy {τ υ : ObjS} {S : AS} (h : RepT υ S) : Ok (f_X6_copyFrom τ υ) (fun t => RepT t S ∧ t.2 9 = υ.2 9 ∧ t.2 10 = υ.2 10) := by
  unfold f_X6_copyFrom
  obtain ⟨t1, t2, t3, t4, t5, t6, t7, t8, t9⟩ := h
  exact ok_let (ok_let (ok_let (ok_let (ok_let (ok_let (ok_let (ok_let (ok_let (ok_let (ok_let (ok_some ⟨⟨t1, t2, t3, t4, t5, t6, t7, t8, t9⟩, rfl, rfl⟩)))))))))))
theorem p2_copy {τ υ : ObjS} : Ok (f_X2_copyFrom τ υ) (fun t => ∀ f, f < 8 → t.2 f = υ.2 f) := by
  unfold f_X2_copyFrom
  refine ok_let (ok_let (ok_let (ok_let (ok_let (ok_let (ok_let (ok_let (ok_some fun f hf => ?_))))))))
  rcases (show f = 0 ∨ f = 1 ∨ f = 2 ∨ f = 3 ∨ f = 4 ∨ f = 5 ∨ f = 6 ∨ f = 7 by omega) with rfl | rfl | rfl | rfl | rfl | rfl | rfl | rfl <;> rfl
theorem cl_of {σ : CacS} {c k : Nat} (h9 : (σ 0).2 9 = nI k) (hk : k ≤ 4) (hc : c < k) : f_X1_clientOf σ (nI c) = some (some c) := by
  unfold f_X1_clientOf
  rw [if_neg (nI_pos (by omega)), h9, if_neg (nI_ge hc (by omega)), if_neg (show ¬ (4 : Int32) ≤ nI c from nI_ge (b := 4) (by omega) (by decide)), pu_gd c rfl (by omega) (by decide), nI_clamp (by omega)]
theorem ok_o {α β : Type} {k : α} {a : Option β} {b : α → Option β} {Q : β → Prop} (h : Ok (b k) Q) : Ok (on_ (some k) a b) Q := h
/-- a copy whose clients below i are there -/
def CW (σ : CacS) (S : AS) (i : Nat) : Prop := RepO (σ 0) S ∧ RepB (σ 1) S E0 ∧ RepT (σ 2) S ∧ (∀ l, l < 5 → RowL (σ (3 + l)) (aL S l)) ∧ ∀ c, c < i → ∀ f, f < 8 → (σ (8 + c)).2 f = aC S c f
theorem c_copy_b127 {N k : Nat} {ς : CacS} {S : AS} (hk : aN S 6 = nI k) (hk4 : k ≤ 4) (h : RepC ς S E0) : ∀ r n i (σ : CacS), i + r = k → r < n → CW σ S i → Ok (f_X1_copyFrom_b127 N n σ ς (nI i)) (fun t => RepC t S E0 ∧ t 2 = σ 2) := by
  intro r
  induction r with
  | zero =>
    intro n i σ hi hn hw
    obtain ⟨n, rfl⟩ : ∃ m, n = m + 1 := ⟨n - 1, by omega⟩
    obtain ⟨w1, w2, w3, w4, w5⟩ := hw
    have e9 : (σ 0).2 9 = nI k := w1.1.trans hk
    rw [f_X1_copyFrom_b127, e9, if_pos (nI_le (by omega) (by omega))]
    refine ok_some ⟨⟨w1, w2, w3, w4, fun c hc hn f hf => w5 c ?_ f hf⟩, rfl⟩
    rw [hk] at hn
    have := (nI_ltI (by omega) (by omega)).mp hn
    omega
  | succ r ih =>
    intro n i σ hi hn hw
    obtain ⟨n, rfl⟩ : ∃ m, n = m + 1 := ⟨n - 1, by omega⟩
    obtain ⟨w1, w2, w3, w4, w5⟩ := hw
    have e9 : (σ 0).2 9 = nI k := w1.1.trans hk
    have e9' : (ς 0).2 9 = nI k := h.1.1.trans hk
    rw [f_X1_copyFrom_b127, e9, if_neg (nI_ge (by omega) (by omega)), cl_of e9 hk4 (by omega), Option.bind_some]
    refine ok_o (ok_bindE (cl_of e9' hk4 (by omega)) (ok_o (ok_bind p2_copy (fun t ht => ok_let ?_))))
    rw [nI_1]
    have hlt : nI i < aN S 6 := by rw [hk]; exact nI_lt (by omega) (by omega)
    refine ok_mono (ih n (i + 1) (va_up σ (8 + i) t) (by omega) (by omega) ⟨?_, ?_, ?_, fun l hl => ?_, fun c hc f hf => ?_⟩) (fun q hq => ⟨hq.1, hq.2.trans (va_up_ne _ _ (by omega))⟩)
    · rw [va_up_ne _ _ (show 0 ≠ 8 + i by omega)]; exact w1
    · rw [va_up_ne _ _ (show 1 ≠ 8 + i by omega)]; exact w2
    · rw [va_up_ne _ _ (show 2 ≠ 8 + i by omega)]; exact w3
    · rw [va_up_ne _ _ (show 3 + l ≠ 8 + i by omega)]; exact w4 l hl
    · by_cases e : c = i
      · subst e
        rw [va_up_self, ht f hf]
        exact h.2.2.2.2 c (by omega) hlt f hf
      · rw [va_up_ne _ _ (show 8 + c ≠ 8 + i by omega)]
        exact w5 c (by omega) f hf
theorem c_copy {N : Nat} {σ ς : CacS} {S : AS} (hN : 1000 ≤ N) (h : RepC ς S E0) (hc : cliOk S) : Ok (f_X1_copyFrom N σ ς) (fun t => RepC t S E0 ∧ (t 2).2 9 = (ς 2).2 9 ∧ (t 2).2 10 = (ς 2).2 10) := by
  obtain ⟨k, k1, k2, -⟩ := hc
  obtain ⟨⟨o1, o2, o3, o4, o5, o6⟩, hb, ht, hr, hk⟩ := id h
  unfold f_X1_copyFrom
  refine ok_bind (p0_copy hb) (fun r1 h1 => ok_let ?_)
  refine ok_bind (p6_copy (υ := ς 2) ht) (fun r2 h2 => ok_let ?_)
  refine ok_bind (p5_copy (N := N) (by omega) (hr 0 (by decide))) (fun r3 h3 => ok_let ?_)
  refine ok_bind (p5_copy (N := N) (by omega) (hr 1 (by decide))) (fun r4 h4 => ok_let ?_)
  refine ok_bind (p5_copy (N := N) (by omega) (hr 2 (by decide))) (fun r5 h5 => ok_let ?_)
  refine ok_bind (p5_copy (N := N) (by omega) (hr 3 (by decide))) (fun r6 h6 => ok_let ?_)
  refine ok_bind (p5_copy (N := N) (by omega) (hr 4 (by decide))) (fun r7 h7 => ok_let ?_)
  refine ok_let (ok_let (ok_let (ok_let (ok_let (ok_let ?_)))))
  refine ok_mono (c_copy_b127 k1 k2 h k N 0 _ (by omega) (by omega) ⟨⟨o1, o2, o3, o4, o5, o6⟩, h1, h2.1, fun l hl => ?_, fun c hc => absurd hc (Nat.not_lt_zero _)⟩) (fun t ht => ⟨ht.1, by rw [ht.2]; exact h2.2.1, by rw [ht.2]; exact h2.2.2⟩)
  rcases (show l = 0 ∨ l = 1 ∨ l = 2 ∨ l = 3 ∨ l = 4 by omega) with rfl | rfl | rfl | rfl | rfl
  · exact h3
  · exact h4
  · exact h5
  · exact h6
  · exact h7
-- copies, on the model's side
theorem cpy_in {f g : Nat → Int32} {p q j : Nat} (h : j < 1384) : va_cpy f g p q 1384 (q + j) = f (p + j) := by
  rw [pk_cpy_in (by omega) (by omega), show p + (q + j - q) = p + j by omega]
theorem cpy_out {f g : Nat → Int32} {p q j : Nat} (h : j < q ∨ q + 1384 ≤ j) : va_cpy f g p q 1384 j = g j := pk_cpy_out h
-- an act begins
theorem pu_1384 (n : Nat) : 1384 * nI n = nI (1384 * n) := pk_mul 1384 n
