/-! THE TOP: both sides' whole state over abstract ones -/
theorem RepM.eqOn {a a' : Nat → Int32} {S : AS} {U : Nat → Nat → Prop} (h : RepM a S U) (he : ∀ j, j < 1384 → a' j = a j) : RepM a' S U := by
  obtain ⟨h1, h2, h3, h4⟩ := h
  refine ⟨fun k hk => (he k (by omega)).trans (h1 k hk), fun l hl => ⟨(h2 l hl).1, (he _ (by omega)).trans (h2 l hl).2.1, fun i hi => ?_⟩, fun c hc hn f hf => (he _ (by omega)).trans (h3 c hc hn f hf), fun b hb => ⟨(he _ (by omega)).trans (h4 b hb).1, fun f hf q => (he _ (by omega)).trans ((h4 b hb).2 f hf q)⟩⟩
  have h9 := (h2 l hl).1
  exact (he _ (by omega)).trans ((h2 l hl).2.2 i hi)
def cntOk (S : AS) (K : Nat) : Prop := ∃ u w, aN S 14 = nI u ∧ aN S 15 = nI w ∧ u + w ≤ K
def Snap (K : Nat) (σ : CacS) (a : Nat → Int32) (S : AS) : Prop := Inv S ∧ RepC σ S E0 ∧ RepM a S (UA S) ∧ cntOk S K
theorem cntOk.mono {S : AS} {K L : Nat} (h : cntOk S K) (hk : K ≤ L) : cntOk S L := by
  obtain ⟨u, w, h1, h2, h3⟩ := h
  exact ⟨u, w, h1, h2, by omega⟩
theorem Snap.mono {K L : Nat} {σ : CacS} {a : Nat → Int32} {S : AS} (h : Snap K σ a S) (hk : K ≤ L) : Snap L σ a S := ⟨h.1, h.2.1, h.2.2.1, h.2.2.2.mono hk⟩
theorem Snap.eqOn {K : Nat} {σ : CacS} {a a' : Nat → Int32} {S : AS} (h : Snap K σ a S) (he : ∀ j, j < 1384 → a' j = a j) : Snap K σ a' S := ⟨h.1, h.2.1, h.2.2.1.eqOn he, h.2.2.2⟩
def HisOk (K : Nat) (η : HisS) (pa : Nat → Int32) (ac : Int32) : Prop := ∃ n w, n ≤ 8 ∧ w < 8 ∧ η.1.2 2 = nI n ∧ ac = nI n ∧ η.1.2 1 = nI w ∧ ∀ i, i < n → ∃ S, Snap K (η.2 ((w + 7 - i) % 8)) (fun j => pa (1384 * (n - 1 - i) + j)) S
def SavOk (K : Nat) (κ : Nat → CacS) (ix : Nat → Option Nat) (nb : Nat) (sa iss : Nat → Int32) : Prop := (∀ s k, ix s = some k → k < nb) ∧ (∀ s t k, ix s = some k → ix t = some k → s = t) ∧ ∀ s, s < 2 → (ix s = none → iss s = 0) ∧ ∀ k, ix s = some k → iss s ≠ 0 ∧ ∃ S, Snap K (κ k) (fun j => sa (1384 * s + j)) S
def TraOk (τ : ObjS) (A : Nat → Nat → Int32) (I : Nat → Int32) : Prop := (∃ n, n ≤ 600 ∧ τ.2 5 = nI n ∧ I 10 = nI n ∧ ∀ i, i < n → ∃ v, v < 256 ∧ τ.1 8 i = nI v ∧ A 7 i = nI v) ∧ τ.2 6 = I 16 ∧ τ.2 7 = I 17
def PagOk (τ : ObjS) (A : Nat → Nat → Int32) (I : Nat → Int32) : Prop := ∃ n, n ≤ 120 ∧ τ.2 1 = nI n ∧ I 22 = nI n ∧ ∀ i, i < n → τ.1 0 i = A 21 i
def RestOk (K : Nat) (γ : GLS) (μ : MdlS) (κ : Nat → CacS) (ix : Nat → Option Nat) (nb : Nat) : Prop := HisOk K γ.2.2.2.2 (μ.1.1 2) (μ.1.2 5) ∧ SavOk K κ ix nb (μ.1.1 3) (μ.1.1 4) ∧ TraOk γ.1 μ.1.1 μ.1.2 ∧ PagOk γ.2.1 μ.1.1 μ.1.2
def TopK (K : Nat) (γ : GLS) (μ : MdlS) (κ : Nat → CacS) (ix : Nat → Option Nat) (nb : Nat) : Prop := (∃ S, Snap K γ.2.2.1 (μ.1.1 0) S) ∧ RestOk K γ μ κ ix nb
theorem HisOk.mono {K L : Nat} {η : HisS} {pa : Nat → Int32} {ac : Int32} (h : HisOk K η pa ac) (hk : K ≤ L) : HisOk L η pa ac := by
  obtain ⟨n, w, h1, h2, h3, h4, h5, h6⟩ := h
  refine ⟨n, w, h1, h2, h3, h4, h5, fun i hi => ?_⟩
  obtain ⟨S, hS⟩ := h6 i hi
  exact ⟨S, hS.mono hk⟩
theorem SavOk.mono {K L : Nat} {κ : Nat → CacS} {ix : Nat → Option Nat} {nb : Nat} {sa iss : Nat → Int32} (h : SavOk K κ ix nb sa iss) (hk : K ≤ L) : SavOk L κ ix nb sa iss := by
  obtain ⟨h1, h2, h3⟩ := h
  refine ⟨h1, h2, fun s hs => ⟨(h3 s hs).1, fun k hk2 => ⟨((h3 s hs).2 k hk2).1, ?_⟩⟩⟩
  obtain ⟨S, hS⟩ := ((h3 s hs).2 k hk2).2
  exact ⟨S, hS.mono hk⟩
theorem RestOk.mono {K L : Nat} {γ : GLS} {μ : MdlS} {κ : Nat → CacS} {ix : Nat → Option Nat} {nb : Nat} (h : RestOk K γ μ κ ix nb) (hk : K ≤ L) : RestOk L γ μ κ ix nb := ⟨h.1.mono hk, h.2.1.mono hk, h.2.2.1, h.2.2.2⟩
theorem TopK.mono {K L : Nat} {γ : GLS} {μ : MdlS} {κ : Nat → CacS} {ix : Nat → Option Nat} {nb : Nat} (h : TopK K γ μ κ ix nb) (hk : K ≤ L) : TopK L γ μ κ ix nb := by
  obtain ⟨⟨S, hS⟩, hR⟩ := h
  exact ⟨⟨S, hS.mono hk⟩, hR.mono hk⟩
theorem TopK.t6 {K : Nat} {γ : GLS} {μ : MdlS} {κ : Nat → CacS} {ix : Nat → Option Nat} {nb : Nat} (h : TopK K γ μ κ ix nb) (v : Int32) : TopK K γ (oI μ.1 6 v, μ.2) κ ix nb := h
theorem RestOk.tr {K : Nat} {γ γ' : GLS} {μ ν : MdlS} {κ : Nat → CacS} {ix : Nat → Option Nat} {nb : Nat} (h : RestOk K γ μ κ ix nb) (hη : HisOk K γ'.2.2.2.2 (ν.1.1 2) (ν.1.2 5)) (e1 : γ'.1 = γ.1) (e2 : γ'.2.1 = γ.2.1) (h1 : ∀ k, k ≠ 0 → k ≠ 1 → k ≠ 2 → ν.1.1 k = μ.1.1 k) (h2 : ∀ k, k ≠ 5 → k ≠ 6 → k ≠ 19 → k ≠ 20 → ν.1.2 k = μ.1.2 k) : RestOk K γ' ν κ ix nb := by
  obtain ⟨-, hs, ht, hp⟩ := h
  refine ⟨hη, ?_, ?_, ?_⟩
  · rw [h1 3 (by decide) (by decide) (by decide), h1 4 (by decide) (by decide) (by decide)]; exact hs
  · unfold TraOk
    rw [e1, h1 7 (by decide) (by decide) (by decide), h2 10 (by decide) (by decide) (by decide) (by decide), h2 16 (by decide) (by decide) (by decide) (by decide), h2 17 (by decide) (by decide) (by decide) (by decide)]
    exact ht
  · unfold PagOk
    rw [e2, h1 21 (by decide) (by decide) (by decide), h2 22 (by decide) (by decide) (by decide) (by decide)]
    exact hp
-- copies, on the class's side
theorem p5_copy_b10 {N : Nat} {υ : ObjS} {L : List Nat} (h : RowL υ L) : ∀ r n i (τ : ObjS), i + r = L.length → r < n → τ.2 1 = nI L.length → (∀ j, j < i → τ.1 0 j = nI (L.getD j 0)) → Ok (f_X5_copyFrom_b10 N n τ υ (nI i)) (fun t => RowL t L) := by
  intro r
  induction r with
  | zero =>
    intro n i τ hi hn h1 hj
    obtain ⟨n, rfl⟩ : ∃ m, n = m + 1 := ⟨n - 1, by omega⟩
    have h24 := h.1
    have : i = L.length := by omega
    subst this
    rw [f_X5_copyFrom_b10, h1, if_pos (nI_le (Nat.le_refl _) (by omega))]
    exact ok_some ⟨h24, h1, hj⟩
  | succ r ih =>
    intro n i τ hi hn h1 hj
    obtain ⟨n, rfl⟩ : ∃ m, n = m + 1 := ⟨n - 1, by omega⟩
    have h24 := h.1
    rw [f_X5_copyFrom_b10, h1, if_neg (nI_ge (by omega) (by omega)), if_neg (pu_ge24 (by omega)), p5_blockAt h (by omega), Option.bind_some, pu_gd i rfl (by omega) (by decide), nI_1, nI_clamp (by omega)]
    refine ok_let (ih n (i + 1) (oA τ 0 i (nI (L.getD i 0))) (by omega) (by omega) h1 (fun j hj2 => ?_))
    show upd (τ.1 0) i (nI (L.getD i 0)) j = _
    by_cases e : j = i
    · rw [upd_eq e, e]
    · rw [upd_ne e]; exact hj j (by omega)
theorem p5_copy {N : Nat} {τ υ : ObjS} {L : List Nat} (hN : 100 ≤ N) (h : RowL υ L) : Ok (f_X5_copyFrom N τ υ) (fun t => RowL t L) := by
  unfold f_X5_copyFrom
  have h24 := h.1
  exact ok_let (p5_copy_b10 h L.length N 0 (oI τ 1 (υ.2 1)) (by omega) (by omega) h.2.1 (fun j hj => absurd hj (Nat.not_lt_zero _)))
theorem pu_cpy {f g : Nat → Int32} {b : Nat} (hb : b < 200) : va_cpy f g 0 0 200 b = f b := by
  rw [pk_cpy_in (Nat.zero_le _) (by omega), show 0 + (b - 0) = b by omega]
theorem p0_copy {τ υ : ObjS} {S : AS} {E : Nat → Prop} (h : RepB υ S E) : Ok (f_X0_copyFrom τ υ) (fun t => RepB t S E) := by
  unfold f_X0_copyFrom
  refine ok_let (ok_let (ok_let (ok_let (ok_let (ok_let (ok_let (ok_let (ok_some ⟨h.1, h.2.1, fun b hb => ?_⟩))))))))
  obtain ⟨q0, q1, q2, q3, q4, q5⟩ := h.2.2 b hb
  exact ⟨fun he => (pu_cpy hb).trans (q0 he), (pu_cpy hb).trans q1, (pu_cpy hb).trans q2, (pu_cpy hb).trans q3, (pu_cpy hb).trans q4, (pu_cpy hb).trans q5⟩
theorem p6_copy {τ υ : ObjS} {S : AS} (h : RepT υ S) : Ok (f_X6_copyFrom τ υ) (fun t => RepT t S ∧ t.2 9 = υ.2 9 ∧ t.2 10 = υ.2 10) := by
  unfold f_X6_copyFrom
  obtain ⟨t1, t2, t3, t4, t5, t6, t7, t8, t9⟩ := h
  exact ok_let (ok_let (ok_let (ok_let (ok_let (ok_let (ok_let (ok_let (ok_let (ok_let (ok_let (ok_some ⟨⟨t1, t2, t3, t4, t5, t6, t7, t8, t9⟩, rfl, rfl⟩)))))))))))
theorem p2_copy {τ υ : ObjS} : Ok (f_X2_copyFrom τ υ) (fun t => ∀ f, f < 8 → t.2 f = υ.2 f) := by
  unfold f_X2_copyFrom
  refine ok_let (ok_let (ok_let (ok_let (ok_let (ok_let (ok_let (ok_let (ok_some fun f hf => ?_))))))))
  rcases (show f = 0 ∨ f = 1 ∨ f = 2 ∨ f = 3 ∨ f = 4 ∨ f = 5 ∨ f = 6 ∨ f = 7 by omega) with rfl | rfl | rfl | rfl | rfl | rfl | rfl | rfl <;> rfl
theorem cl_of {σ : CacS} {c k : Nat} (h9 : (σ 0).2 9 = nI k) (hk : k ≤ 4) (hc : c < k) : f_X1_clientOf σ (nI c) = some (some c) := by
  unfold f_X1_clientOf
  rw [if_neg (nI_pos (by omega)), h9, if_neg (nI_ge hc (by omega)), if_neg (show ¬ (4 : Int32) ≤ nI c from nI_ge (b := 4) (by omega) (by decide)), pu_gd c rfl (by omega) (by decide), nI_clamp (by omega)]
theorem ok_o {α β : Type} {k : α} {a : Option β} {b : α → Option β} {Q : β → Prop} (h : Ok (b k) Q) : Ok (on_ (some k) a b) Q := h
/-- a copy whose clients below i are there -/
def CW (σ : CacS) (S : AS) (i : Nat) : Prop := RepO (σ 0) S ∧ RepB (σ 1) S E0 ∧ RepT (σ 2) S ∧ (∀ l, l < 5 → RowL (σ (3 + l)) (aL S l)) ∧ ∀ c, c < i → ∀ f, f < 8 → (σ (8 + c)).2 f = aC S c f
theorem c_copy_b127 {N k : Nat} {ς : CacS} {S : AS} (hk : aN S 6 = nI k) (hk4 : k ≤ 4) (h : RepC ς S E0) : ∀ r n i (σ : CacS), i + r = k → r < n → CW σ S i → Ok (f_X1_copyFrom_b127 N n σ ς (nI i)) (fun t => RepC t S E0 ∧ t 2 = σ 2) := by
  intro r
  induction r with
  | zero =>
    intro n i σ hi hn hw
    obtain ⟨n, rfl⟩ : ∃ m, n = m + 1 := ⟨n - 1, by omega⟩
    obtain ⟨w1, w2, w3, w4, w5⟩ := hw
    have e9 : (σ 0).2 9 = nI k := w1.1.trans hk
    rw [f_X1_copyFrom_b127, e9, if_pos (nI_le (by omega) (by omega))]
    refine ok_some ⟨⟨w1, w2, w3, w4, fun c hc hn f hf => w5 c ?_ f hf⟩, rfl⟩
    rw [hk] at hn
    have := (nI_ltI (by omega) (by omega)).mp hn
    omega
  | succ r ih =>
    intro n i σ hi hn hw
    obtain ⟨n, rfl⟩ : ∃ m, n = m + 1 := ⟨n - 1, by omega⟩
    obtain ⟨w1, w2, w3, w4, w5⟩ := hw
    have e9 : (σ 0).2 9 = nI k := w1.1.trans hk
    have e9' : (ς 0).2 9 = nI k := h.1.1.trans hk
    rw [f_X1_copyFrom_b127, e9, if_neg (nI_ge (by omega) (by omega)), cl_of e9 hk4 (by omega), Option.bind_some]
    refine ok_o (ok_bindE (cl_of e9' hk4 (by omega)) (ok_o (ok_bind p2_copy (fun t ht => ok_let ?_))))
    rw [nI_1]
    have hlt : nI i < aN S 6 := by rw [hk]; exact nI_lt (by omega) (by omega)
    refine ok_mono (ih n (i + 1) (va_up σ (8 + i) t) (by omega) (by omega) ⟨?_, ?_, ?_, fun l hl => ?_, fun c hc f hf => ?_⟩) (fun q hq => ⟨hq.1, hq.2.trans (va_up_ne _ _ (by omega))⟩)
    · rw [va_up_ne _ _ (show 0 ≠ 8 + i by omega)]; exact w1
    · rw [va_up_ne _ _ (show 1 ≠ 8 + i by omega)]; exact w2
    · rw [va_up_ne _ _ (show 2 ≠ 8 + i by omega)]; exact w3
    · rw [va_up_ne _ _ (show 3 + l ≠ 8 + i by omega)]; exact w4 l hl
    · by_cases e : c = i
      · subst e
        rw [va_up_self, ht f hf]
        exact h.2.2.2.2 c (by omega) hlt f hf
      · rw [va_up_ne _ _ (show 8 + c ≠ 8 + i by omega)]
        exact w5 c (by omega) f hf
theorem c_copy {N : Nat} {σ ς : CacS} {S : AS} (hN : 1000 ≤ N) (h : RepC ς S E0) (hc : cliOk S) : Ok (f_X1_copyFrom N σ ς) (fun t => RepC t S E0 ∧ (t 2).2 9 = (ς 2).2 9 ∧ (t 2).2 10 = (ς 2).2 10) := by
  obtain ⟨k, k1, k2, -⟩ := hc
  obtain ⟨⟨o1, o2, o3, o4, o5, o6⟩, hb, ht, hr, hk⟩ := id h
  unfold f_X1_copyFrom
  refine ok_bind (p0_copy hb) (fun r1 h1 => ok_let ?_)
  refine ok_bind (p6_copy (υ := ς 2) ht) (fun r2 h2 => ok_let ?_)
  refine ok_bind (p5_copy (N := N) (by omega) (hr 0 (by decide))) (fun r3 h3 => ok_let ?_)
  refine ok_bind (p5_copy (N := N) (by omega) (hr 1 (by decide))) (fun r4 h4 => ok_let ?_)
  refine ok_bind (p5_copy (N := N) (by omega) (hr 2 (by decide))) (fun r5 h5 => ok_let ?_)
  refine ok_bind (p5_copy (N := N) (by omega) (hr 3 (by decide))) (fun r6 h6 => ok_let ?_)
  refine ok_bind (p5_copy (N := N) (by omega) (hr 4 (by decide))) (fun r7 h7 => ok_let ?_)
  refine ok_let (ok_let (ok_let (ok_let (ok_let (ok_let ?_)))))
  refine ok_mono (c_copy_b127 k1 k2 h k N 0 _ (by omega) (by omega) ⟨⟨o1, o2, o3, o4, o5, o6⟩, h1, h2.1, fun l hl => ?_, fun c hc => absurd hc (Nat.not_lt_zero _)⟩) (fun t ht => ⟨ht.1, by rw [ht.2]; exact h2.2.1, by rw [ht.2]; exact h2.2.2⟩)
  rcases (show l = 0 ∨ l = 1 ∨ l = 2 ∨ l = 3 ∨ l = 4 by omega) with rfl | rfl | rfl | rfl | rfl
  · exact h3
  · exact h4
  · exact h5
  · exact h6
  · exact h7
-- copies, on the model's side
theorem m_copy_b3 {N p q nf nt : Nat} {f : Nat → Int32} (hp : p + 1384 ≤ nf) (hq : q + 1384 ≤ nt) (hf : nf < 2 ^ 30) (ht : nt < 2 ^ 30) : ∀ r n i (g : Nat → Int32), i + r = 1384 → r < n → f_X9_copy_b3 N n nf nt f g (nI p) (nI q) (nI i) = some (fun j => if q + i ≤ j ∧ j < q + 1384 then f (p + (j - q)) else g j) := by
  intro r
  induction r with
  | zero =>
    intro n i g hi hn
    obtain ⟨n, rfl⟩ : ∃ m, n = m + 1 := ⟨n - 1, by omega⟩
    rw [f_X9_copy_b3, if_pos (show (1384 : Int32) ≤ nI i from nI_le (a := 1384) (by omega) (by omega))]
    refine congrArg some (funext fun j => ?_)
    rw [if_neg (by omega)]
  | succ r ih =>
    intro n i g hi hn
    obtain ⟨n, rfl⟩ : ∃ m, n = m + 1 := ⟨n - 1, by omega⟩
    rw [f_X9_copy_b3, if_neg (show ¬ (1384 : Int32) ≤ nI i from nI_ge (b := 1384) (by omega) (by decide)), nI_add, nI_add, pu_gd _ rfl (by omega) (by omega), pu_gd _ rfl (by omega) (by omega), nI_clamp (by omega), nI_clamp (by omega), nI_1]
    refine (ih n (i + 1) (upd g (q + i) (f (p + i))) (by omega) (by omega)).trans (congrArg some (funext fun j => ?_))
    by_cases e : j = q + i
    · subst e
      rw [if_neg (by omega), if_pos (by omega), upd_eq rfl, show p + (q + i - q) = p + i by omega]
    · rw [upd_ne e]
      by_cases e2 : q + (i + 1) ≤ j ∧ j < q + 1384
      · rw [if_pos e2, if_pos (by omega)]
      · rw [if_neg e2, if_neg (by omega)]
theorem m_copy {N p q nf nt : Nat} {f g : Nat → Int32} (hN : 2000 ≤ N) (hp : p + 1384 ≤ nf) (hq : q + 1384 ≤ nt) (hf : nf < 2 ^ 30) (ht : nt < 2 ^ 30) : f_X9_copy N nf nt f g (nI p) (nI q) = some (va_cpy f g p q 1384) :=
  m_copy_b3 hp hq hf ht 1384 N 0 g (by omega) (by omega)
theorem cpy_in {f g : Nat → Int32} {p q j : Nat} (h : j < 1384) : va_cpy f g p q 1384 (q + j) = f (p + j) := by
  rw [pk_cpy_in (by omega) (by omega), show p + (q + j - q) = p + j by omega]
theorem cpy_out {f g : Nat → Int32} {p q j : Nat} (h : j < q ∨ q + 1384 ≤ j) : va_cpy f g p q 1384 j = g j := pk_cpy_out h
-- an act begins
theorem pu_1384 (n : Nat) : 1384 * nI n = nI (1384 * n) := pk_mul 1384 n
theorem m_begin50 {N n : Nat} {μ : MdlS} (hN : 2000 ≤ N) (hn : n < 8) (ha : μ.1.2 5 = nI n) : f_X9_beginAct_b50 N μ = some (((va_up μ.1.1 2 (va_cpy (μ.1.1 0) (μ.1.1 2) 0 (1384 * n) 1384), va_up μ.1.2 5 (nI (n + 1))), μ.2) : MdlS) := by
  unfold f_X9_beginAct_b50 f_X9_copyM_0_2
  rw [ha, pu_1384, show (0 : Int32) = nI 0 from rfl, m_copy hN (by omega) (by omega) (by decide) (by decide), Option.bind_some, Option.bind_some]
  show some (((va_up μ.1.1 2 (va_cpy (μ.1.1 0) (μ.1.1 2) 0 (1384 * n) 1384), va_up μ.1.2 5 (μ.1.2 5 + 1)), μ.2) : MdlS) = _
  rw [ha, nI_1]
theorem m_begin11 {N : Nat} {a0 : Nat → Nat → Int32} {i0 : Nat → Int32} {w : Int64} (hN : 2000 ≤ N) (ha : i0 5 = nI 8) : ∀ r n i (g : Nat → Int32), i + r = 9688 → r < n → f_X9_beginAct_b11 N n (((va_up a0 2 g, i0), w) : MdlS) (nI i) = f_X9_beginAct_b50 N (((va_up a0 2 (fun j => if i ≤ j ∧ j < 9688 then g (j + 1384) else g j), va_up i0 5 (nI 7)), w) : MdlS) := by
  intro r
  induction r with
  | zero =>
    intro n i g hi hn
    obtain ⟨n, rfl⟩ : ∃ m, n = m + 1 := ⟨n - 1, by omega⟩
    rw [f_X9_beginAct_b11, if_pos (show (9688 : Int32) ≤ nI i from nI_le (a := 9688) (by omega) (by omega))]
    show f_X9_beginAct_b50 N (((va_up a0 2 g, va_up i0 5 (i0 5 - 1)), w) : MdlS) = _
    rw [ha, show nI 8 - 1 = nI 7 from nI_pred 7]
    refine congrArg (fun q => f_X9_beginAct_b50 N (((va_up a0 2 q, va_up i0 5 (nI 7)), w) : MdlS)) (funext fun j => ?_)
    rw [if_neg (by omega)]
  | succ r ih =>
    intro n i g hi hn
    obtain ⟨n, rfl⟩ : ∃ m, n = m + 1 := ⟨n - 1, by omega⟩
    rw [f_X9_beginAct_b11, if_neg (show ¬ (9688 : Int32) ≤ nI i from nI_ge (b := 9688) (by omega) (by decide)), show nI i + 1384 = nI (i + 1384) from nI_add i 1384, pu_gd _ rfl (by omega) (by decide), pu_gd _ rfl (by omega) (by decide), nI_clamp (by omega), nI_clamp (by omega), nI_1]
    show f_X9_beginAct_b11 N n (((va_up (va_up a0 2 g) 2 (upd (va_up a0 2 g 2) i (va_up a0 2 g 2 (i + 1384))), i0), w) : MdlS) (nI (i + 1)) = _
    rw [va_up_self, show va_up (va_up a0 2 g) 2 (upd g i (g (i + 1384))) = va_up a0 2 (upd g i (g (i + 1384))) from funext fun k => by
      unfold va_up
      by_cases e : k = 2
      · rw [if_pos e, if_pos e]
      · rw [if_neg e, if_neg e, if_neg e], ih n (i + 1) (upd g i (g (i + 1384))) (by omega) (by omega)]
    refine congrArg (fun q => f_X9_beginAct_b50 N (((va_up a0 2 q, va_up i0 5 (nI 7)), w) : MdlS)) (funext fun j => ?_)
    by_cases e : j = i
    · subst e
      rw [if_neg (by omega), if_pos (by omega), upd_eq rfl]
    · by_cases e2 : i + 1 ≤ j ∧ j < 9688
      · rw [if_pos e2, if_pos (by omega), upd_ne (by omega)]
      · rw [if_neg e2, if_neg (by omega), upd_ne e]
theorem m_begin {N n : Nat} {μ : MdlS} (hN : 20000 ≤ N) (hn : n ≤ 8) (ha : μ.1.2 5 = nI n) : ∃ (m : Nat) (pa : Nat → Int32) (ν : MdlS), m = (if n < 8 then n + 1 else 8) ∧ f_X9_beginAct N μ = some ν ∧ ν.1.1 2 = pa ∧ ν.1.2 5 = nI m ∧ (∀ k, k ≠ 2 → ν.1.1 k = μ.1.1 k) ∧ (∀ k, k ≠ 5 → ν.1.2 k = μ.1.2 k) ∧ ν.2 = μ.2 ∧
    (∀ j, j < 1384 → pa (1384 * (m - 1) + j) = μ.1.1 0 j) ∧ ∀ i, i + 1 < m → ∀ j, j < 1384 → pa (1384 * (m - 1 - (i + 1)) + j) = μ.1.1 2 (1384 * (n - 1 - i) + j) := by
  unfold f_X9_beginAct
  by_cases h8 : n < 8
  · rw [if_neg (show ¬ μ.1.2 5 = 8 from fun q => by rw [ha] at q; have := (nI_eq (b := 8) (by omega) (by decide)).mp q; omega), m_begin50 (by omega) h8 ha, if_pos h8]
    refine ⟨n + 1, va_cpy (μ.1.1 0) (μ.1.1 2) 0 (1384 * n) 1384, _, rfl, rfl, va_up_self μ.1.1 2 (va_cpy (μ.1.1 0) (μ.1.1 2) 0 (1384 * n) 1384), va_up_self μ.1.2 5 (nI (n + 1)), fun k hk => va_up_ne μ.1.1 _ hk, fun k hk => va_up_ne μ.1.2 _ hk, rfl, fun j hj => ?_, fun i hi j hj => ?_⟩
    · rw [show 1384 * (n + 1 - 1) + j = 1384 * n + j by omega, cpy_in hj, Nat.zero_add]
    · rw [show 1384 * (n + 1 - 1 - (i + 1)) + j = 1384 * (n - 1 - i) + j by omega, cpy_out (Or.inl (by omega))]
  · have e8 : n = 8 := by omega
    subst e8
    rw [if_pos (show μ.1.2 5 = 8 from ha), if_neg h8]
    have h1 := m_begin11 (N := N) (a0 := μ.1.1) (i0 := μ.1.2) (w := μ.2) (by omega) ha 9688 N 0 (μ.1.1 2) (by omega) (by omega)
    rw [va_up_id] at h1
    rw [show f_X9_beginAct_b11 N N μ 0 = _ from h1, m_begin50 (n := 7) (by omega) (by omega) (show va_up μ.1.2 5 (nI 7) 5 = nI 7 from va_up_self _ _ _)]
    refine ⟨8, va_cpy (va_up μ.1.1 2 (fun j => if 0 ≤ j ∧ j < 9688 then μ.1.1 2 (j + 1384) else μ.1.1 2 j) 0) (va_up μ.1.1 2 (fun j => if 0 ≤ j ∧ j < 9688 then μ.1.1 2 (j + 1384) else μ.1.1 2 j) 2) 0 (1384 * 7) 1384, _, rfl, rfl, va_up_self (va_up μ.1.1 2 (fun j => if 0 ≤ j ∧ j < 9688 then μ.1.1 2 (j + 1384) else μ.1.1 2 j)) 2 (va_cpy ((va_up μ.1.1 2 (fun j => if 0 ≤ j ∧ j < 9688 then μ.1.1 2 (j + 1384) else μ.1.1 2 j)) 0) ((va_up μ.1.1 2 (fun j => if 0 ≤ j ∧ j < 9688 then μ.1.1 2 (j + 1384) else μ.1.1 2 j)) 2) 0 (1384 * 7) 1384), va_up_self (va_up μ.1.2 5 (nI 7)) 5 (nI 8), fun k hk => (va_up_ne (va_up μ.1.1 2 _) _ hk).trans (va_up_ne μ.1.1 _ hk), fun k hk => (va_up_ne (va_up μ.1.2 5 (nI 7)) _ hk).trans (va_up_ne μ.1.2 _ hk), rfl, fun j hj => ?_, fun i hi j hj => ?_⟩
    · rw [show 1384 * (8 - 1) + j = 1384 * 7 + j by omega, cpy_in hj, Nat.zero_add, va_up_ne _ _ (show 0 ≠ 2 by decide)]
    · rw [cpy_out (Or.inl (by omega)), va_up_self, if_pos (by omega)]
      exact congrArg (μ.1.1 2) (by omega)
theorem top_begin {N K : Nat} {η : HisS} {σ : CacS} {μ : MdlS} {S : AS} (hN : 20000 ≤ N) (hS : Snap K σ (μ.1.1 0) S) (hH : HisOk K η (μ.1.1 2) (μ.1.2 5)) : ∃ (η' : HisS) (ν : MdlS), f_X3_keep N η σ = some η' ∧ f_X9_beginAct N μ = some ν ∧ HisOk K η' (ν.1.1 2) (ν.1.2 5) ∧ (∀ k, k ≠ 2 → ν.1.1 k = μ.1.1 k) ∧ (∀ k, k ≠ 5 → ν.1.2 k = μ.1.2 k) ∧ ν.2 = μ.2 := by
  obtain ⟨n, w, h1, h2, h3, h4, h5, h6⟩ := hH
  obtain ⟨m, pa, ν, em, e1, e2, e3, e4, e5, e6, e7, e8⟩ := m_begin hN h1 h4
  obtain ⟨r4, c1, c2, -⟩ := c_copy (N := N) (σ := η.2 w) (by omega) hS.2.1 hS.1.1.2.2.2.1
  have hr : f_X3_keep N η σ = some ((oI (oI η.1 1 (nI ((w + 1) % 8))) 2 (nI m), va_up η.2 w r4) : HisS) := by
    unfold f_X3_keep
    rw [h5, if_neg (nI_pos (by omega)), if_neg (show ¬ (8 : Int32) ≤ nI w from nI_ge (b := 8) h2 (by decide)), pu_gd w rfl h2 (by decide), nI_clamp (by omega), c1, Option.bind_some]
    show some ((oI (oI η.1 1 ((η.1.2 1 + 1) - (η.1.2 1 + 1) / 8 * 8)) 2 (if η.1.2 2 + 1 < 8 then η.1.2 2 + 1 else 8), va_up η.2 w r4) : HisS) = _
    rw [h5, h3, nI_1, nI_1, show nI (w + 1) - nI (w + 1) / 8 * 8 = nI ((w + 1) % 8) from pk_rem (d := 8) (by omega) (by decide) (by decide)]
    refine congrArg (fun q => some ((oI (oI η.1 1 (nI ((w + 1) % 8))) 2 q, va_up η.2 w r4) : HisS)) ?_
    rw [em]
    by_cases h8 : n < 8
    · rw [if_pos h8]
      by_cases h7 : n < 7
      · rw [if_pos (show nI (n + 1) < 8 from nI_lt (b := 8) (by omega) (by decide))]
      · rw [if_neg (show ¬ nI (n + 1) < 8 from nI_nlt (b := 8) (by omega) (by omega)), show n + 1 = 8 by omega]
        rfl
    · rw [if_neg h8, if_neg (show ¬ nI (n + 1) < 8 from nI_nlt (b := 8) (by omega) (by omega))]
      rfl
  refine ⟨_, ν, hr, e1, ⟨m, (w + 1) % 8, ?_, Nat.mod_lt _ (by decide), rfl, e3, rfl, fun i hi => ?_⟩, e4, e5, e6⟩
  · rw [em]; split <;> omega
  · have hm : m ≤ 8 := by rw [em]; split <;> omega
    show ∃ S, Snap K (va_up η.2 w r4 (((w + 1) % 8 + 7 - i) % 8)) _ S
    rw [e2]
    match i, hi with
    | 0, hi =>
      rw [show ((w + 1) % 8 + 7 - 0) % 8 = w by omega, va_up_self]
      exact ⟨S, (show Snap K r4 (μ.1.1 0) S from ⟨hS.1, c2, hS.2.2⟩).eqOn (fun j hj => e7 j hj)⟩
    | i + 1, hi =>
      rw [show ((w + 1) % 8 + 7 - (i + 1)) % 8 = (w + 7 - i) % 8 by omega, va_up_ne _ _ (show (w + 7 - i) % 8 ≠ w by omega)]
      obtain ⟨T, hT⟩ := h6 i (by rw [em] at hi; split at hi <;> omega)
      exact ⟨T, hT.eqOn (fun j hj => e8 i hi j hj)⟩
