/-! the model's writing back, its lists -/
def hNU (S : AS) : Prop := ∀ b, b < 200 → aB S 0 b = -1 → aB S 3 b = -1
def hUA (S : AS) (U : Nat → Nat → Prop) : Prop := ∀ b, b < 200 → aB S 0 b ≠ -1 → U 1 b ∧ U 2 b ∧ U 3 b
def MOk (x : Option MdlS) (μ : MdlS) (d e : Int32) (P : (Nat → Int32) → Prop) : Prop := Ok x (fun t => ∃ a', t = mM μ a' d e ∧ P a')
theorem mok_bind {β : Type} {x : Option MdlS} {μ : MdlS} {d e : Int32} {P : (Nat → Int32) → Prop} {k : MdlS → Option β} {Q : β → Prop} (h : MOk x μ d e P) (hk : ∀ a, P a → Ok (k (mM μ a d e)) Q) : Ok (x.bind k) Q :=
  ok_bind h (fun t ht => by obtain ⟨a, rfl, ha⟩ := ht; exact hk a ha)
theorem mok_some {a : Nat → Int32} {μ : MdlS} {d e : Int32} {P : (Nat → Int32) → Prop} (h : P a) : MOk (some (mM μ a d e)) μ d e P := ok_some ⟨a, rfl, h⟩
theorem mok_mono {x : Option MdlS} {μ : MdlS} {d e : Int32} {P Q : (Nat → Int32) → Prop} (h : MOk x μ d e P) (hk : ∀ a, P a → Q a) : MOk x μ d e Q :=
  ok_mono h (fun t ht => by obtain ⟨a, e, ha⟩ := ht; exact ⟨a, e, hk a ha⟩)
theorem hNU_wu {S : AS} {b : Nat} (h : hNU S) : hNU (aWU S b) := by
  intro x hx e0
  have : aB (aWU S b) 3 x = if 3 = 3 ∧ x = b then -1 else aB (uB S 5 b (aB S 1 b)) 3 x := aB_uB _ _ _ _ _ _
  rw [this]
  split
  · rfl
  · rw [aB_uB, if_neg (by omega)]
    refine h x hx ?_
    have e1 : aB (aWU S b) 0 x = aB S 0 x := by
      show aB (uB (uB S 5 b (aB S 1 b)) 3 b (-1)) 0 x = _
      rw [aB_uB, if_neg (by omega), aB_uB, if_neg (by omega)]
    rw [← e1]; exact e0
theorem aB_wu0 (S : AS) (b x : Nat) : aB (aWU S b) 0 x = aB S 0 x := by
  show aB (uB (uB S 5 b (aB S 1 b)) 3 b (-1)) 0 x = _
  rw [aB_uB, if_neg (by omega), aB_uB, if_neg (by omega)]
theorem hUA_wu {S : AS} {U : Nat → Nat → Prop} {b : Nat} (h : hUA S U) : hUA (aWU S b) U := by
  intro x hx e0
  rw [aB_wu0] at e0
  exact h x hx e0
section MM
variable {μ : MdlS} {d e : Int32}
theorem m_wb_b8 {N : Nat} {most : Int32} (hN : 1000 ≤ N) (hm : most ≤ nI 200) : ∀ r n k (a : Nat → Int32) (S : AS) (U : Nat → Nat → Prop), r + k = 200 → r < n → RepM a S U → hNU S → hUA S U → hdOk S → Ok (f_X9_writeBack_b8 N n (mM μ a d e) most (nI k) (aDz S)) (fun t => t.1 = (aWB most r k S).1 ∧ ∃ a', t.2 = mM μ a' d e ∧ RepM a' (aWB most r k S).2 U) := by
  intro r
  induction r with
  | zero =>
    intro n k a S U hk hn H _ _ _
    obtain ⟨n, rfl⟩ : ∃ m, n = m + 1 := ⟨n - 1, by omega⟩
    have : k = 200 := by omega
    subst this
    rw [f_X9_writeBack_b8, if_pos hm]
    exact ok_some ⟨rfl, a, rfl, H⟩
  | succ r ih =>
    intro n k a S U hk hn H h1 h2 hd
    obtain ⟨n, rfl⟩ : ∃ m, n = m + 1 := ⟨n - 1, by omega⟩
    rw [f_X9_writeBack_b8, aWB]
    by_cases e1 : most ≤ nI k
    · rw [if_pos e1, if_pos e1]; exact ok_some ⟨rfl, a, rfl, H⟩
    · rw [if_neg e1, if_neg e1]
      by_cases e2 : aDz S = -1
      · rw [if_pos e2, if_pos e2]; exact ok_some ⟨rfl, a, rfl, H⟩
      · rw [if_neg e2, if_neg e2]
        obtain ⟨b, hb, hbe, hbd⟩ := (aDn_val S (aHd S) 0 200 0).resolve_left e2
        rw [show aDz S = nI b from hbe, nI_clamp (by omega)]
        have hw : aB S 0 b ≠ -1 := fun q => hbd (h1 b hb q)
        refine mok_bind (m_writeUnit H hb (h2 b hb hw).1) (fun a' ha => ?_)
        have ha := ha.weak (V := U) (fun f x _ q => Or.inl q)
        refine ok_bindE (m_inOrder ha (hNU_wu h1) (fun x hx q => (hUA_wu h2 x hx q).2.2) hdOk_wu.1 hdOk_wu.2 hN) ?_
        rw [nI_1]
        exact ih n (k + 1) a' _ U (by omega) (by omega) ha (hNU_wu h1) (hUA_wu h2) hdOk_wu
theorem m_writeBack {N : Nat} {most : Int32} {a : Nat → Int32} {S : AS} {U : Nat → Nat → Prop} (hN : 1000 ≤ N) (hm : most ≤ nI 200) (H : RepM a S U) (h1 : hNU S) (h2 : hUA S U) (hd : hdOk S) : Ok (f_X9_writeBack N (mM μ a d e) most) (fun t => t.1 = (aWB most 200 0 S).1 ∧ ∃ a', t.2 = mM μ a' d e ∧ RepM a' (aWB most 200 0 S).2 U) := by
  unfold f_X9_writeBack
  refine ok_bindE (m_inOrder H h1 (fun x hx q => (h2 x hx q).2.2) hd.1 hd.2 hN) ?_
  exact m_wb_b8 hN hm 200 N 0 a S U rfl (by omega) H h1 h2 hd
theorem m_dirtyUnits_b4 {N : Nat} {a : Nat → Int32} {S : AS} {U : Nat → Nat → Prop} (H : RepM a S U) (h1 : hNU S) (h2 : hUA S U) : ∀ r n k, r ≤ 200 → r < n → f_X9_dirtyUnits_b4 N n (mM μ a d e) (nI k) (nI (200 - r)) = some (nI (aCt (isD S) r k)) := by
  intro r
  induction r with
  | zero =>
    intro n k _ hn
    obtain ⟨n, rfl⟩ : ∃ m, n = m + 1 := ⟨n - 1, by omega⟩
    rw [f_X9_dirtyUnits_b4, if_pos (show (200 : Int32) ≤ nI (200 - 0) by decide)]
    rfl
  | succ r ih =>
    intro n k hr hn
    obtain ⟨n, rfl⟩ : ∃ m, n = m + 1 := ⟨n - 1, by omega⟩
    rw [f_X9_dirtyUnits_b4, if_neg (pu_ge200 (by omega)), m_isDirty H h1 (fun x hx q => (h2 x hx q).2.2) _ (by omega), Option.bind_some, nI_1, nI_1, show nI k + 0 = nI k from nI_add k 0, aCt, show 200 - (r + 1) + 1 = 200 - r by omega]
    by_cases e : aB S 3 (200 - (r + 1)) = -1
    · rw [if_pos e, if_pos rfl, if_neg (show ¬ isD S (200 - (r + 1)) = true from fun q => of_decide_eq_true q e)]
      exact ih n k (by omega) (by omega)
    · rw [if_neg e, if_neg (by decide), if_pos (show isD S (200 - (r + 1)) = true from decide_eq_true e)]
      exact ih n (k + 1) (by omega) (by omega)
theorem m_dirtyUnits {N : Nat} {a : Nat → Int32} {S : AS} {U : Nat → Nat → Prop} (hN : 1000 ≤ N) (H : RepM a S U) (h1 : hNU S) (h2 : hUA S U) : f_X9_dirtyUnits N (mM μ a d e) = some (nI (aCt (isD S) 200 0)) :=
  m_dirtyUnits_b4 H h1 h2 200 N 0 (Nat.le_refl _) (by omega)
end MM
-- lists
def pu_shl (a : Nat → Int32) (t m : Nat) : Nat → Int32 := fun j => if t ≤ j ∧ j < t + m then a (j + 1) else a j
theorem pu_shl0 (a : Nat → Int32) (t : Nat) : pu_shl a t 0 = a := by
  funext j
  unfold pu_shl
  rw [if_neg (by omega)]
theorem pu_shlS (a : Nat → Int32) (t m : Nat) : pu_shl (upd a t (a (t + 1))) (t + 1) m = pu_shl a t (m + 1) := by
  funext j
  unfold pu_shl upd
  by_cases h : j = t
  · subst h
    rw [if_neg (by omega), if_pos rfl, if_pos (by omega)]
  · by_cases h2 : t + 1 ≤ j ∧ j < t + 1 + m
    · rw [if_pos h2, if_neg (by omega), if_pos (by omega)]
    · rw [if_neg h2, if_neg h, if_neg (by omega)]
theorem pu_lb (l : Nat) : 24 + 24 * nI l = nI (24 + 24 * l) := by
  show nI 24 + nI 24 * nI l = _
  rw [pk_mul, nI_add]
theorem pu_pl_spec {b : Nat} : ∀ (L : List Nat) (k : Nat), b ∈ L → L.Nodup → ∃ p, p < L.length ∧ pu_pl b L k = nI (k + p) ∧ ∀ i, (pu_rm L b).getD i 0 = if i < p then L.getD i 0 else L.getD (i + 1) 0 := by
  intro L
  induction L with
  | nil => intro k h; cases h
  | cons x xs ih =>
    intro k h hn
    rw [List.nodup_cons] at hn
    by_cases ex : x = b
    · subst ex
      refine ⟨0, by rw [List.length_cons]; omega, by rw [pu_pl, if_pos rfl]; rfl, fun i => ?_⟩
      rw [if_neg (by omega), pu_rm_eq, pu_rm_no hn.1]
      rfl
    · obtain ⟨p, hp, h1, h2⟩ := ih (k + 1) ((List.mem_cons.mp h).resolve_left (fun q => ex q.symm)) hn.2
      refine ⟨p + 1, by rw [List.length_cons]; omega, by rw [pu_pl, if_neg ex, h1]; congr 1; omega, fun i => ?_⟩
      rw [pu_rm_ne xs ex]
      match i with
      | 0 => rw [if_pos (by omega)]; rfl
      | i + 1 =>
        rw [pu_getD_cons, pu_getD_cons, pu_getD_cons, h2 i]
        by_cases q : i < p
        · rw [if_pos q, if_pos (by omega)]
        · rw [if_neg q, if_neg (by omega)]
section MM
variable {μ : MdlS} {d e : Int32}
theorem m_lenR {a : Nat → Int32} (l : Nat) (hl : l < 5) : f_X9_length (mM μ a d e) (nI l) = some (a (7 + l)) := by
  unfold f_X9_length
  rw [pu_le, pu_gd _ rfl (by omega) (by decide), nI_clamp (by omega)]
  rfl
theorem m_bAtR {a : Nat → Int32} (l i : Nat) (hl : l < 5) (hi : i < 40) : f_X9_blockAt (mM μ a d e) (nI l) (nI i) = some (a (24 + 24 * l + i)) := by
  unfold f_X9_blockAt
  rw [pu_la, pu_gd _ rfl (by omega) (by decide), nI_clamp (by omega)]
  rfl
theorem m_take_b29 {N l : Nat} (hl : l < 5) : ∀ m n q (a : Nat → Int32), a (7 + l) = nI (q + m) → m < n → q + m ≤ 24 → f_X9_take_b29 N n (mM μ a d e) (nI l) (nI (24 + 24 * l)) (nI q) = some (mM μ (pu_shl a (24 + 24 * l + q) m) d e) := by
  intro m
  induction m with
  | zero =>
    intro n q a h7 hn hq
    obtain ⟨n, rfl⟩ : ∃ m, n = m + 1 := ⟨n - 1, by omega⟩
    rw [f_X9_take_b29, m_lenR l hl, Option.bind_some, h7, if_pos (nI_le (by omega) (by omega)), pu_shl0]
  | succ m ih =>
    intro n q a h7 hn hq
    obtain ⟨n, rfl⟩ : ∃ m, n = m + 1 := ⟨n - 1, by omega⟩
    rw [f_X9_take_b29, m_lenR l hl, Option.bind_some, h7, if_neg (nI_ge (by omega) (by omega)), nI_add, nI_1, nI_1, pu_gd _ rfl (by omega) (by decide), pu_gd _ rfl (by omega) (by decide), nI_clamp (by omega), nI_clamp (by omega), mM_set, mM_a]
    have := ih n (q + 1) (upd a (24 + 24 * l + q) (a (24 + 24 * l + q + 1))) (by rw [upd_ne (by omega), h7]; congr 1; omega) (by omega) (by omega)
    rw [show 24 + 24 * l + (q + 1) = 24 + 24 * l + q + 1 by omega, pu_shlS] at this
    exact this
theorem m_placeOf_b2 {N l b : Nat} {a : Nat → Int32} {L : List Nat} (hl : l < 5) (hb : b < 200) (hL : L.length ≤ 24) (hE : ∀ x ∈ L, x < 200) (ha : ∀ i, i < L.length → a (24 + 24 * l + i) = nI (L.getD i 0)) : ∀ n i, i ≤ L.length → b ∈ L.drop i → L.length - i < n → f_X9_placeOf_b2 N n (mM μ a d e) (nI l) (nI b) (nI i) = some (pu_pl b (L.drop i) i) := by
  intro n
  induction n with
  | zero => intro i _ _ hn; omega
  | succ n ih =>
    intro i hi hm hn
    have hlt : i < L.length := by
      refine Nat.lt_of_le_of_ne hi (fun q => ?_)
      rw [q, List.drop_length] at hm
      cases hm
    have hx := hE _ (pu_getD_mem hlt)
    rw [f_X9_placeOf_b2, m_bAtR l i hl (by omega), Option.bind_some, ha i hlt, pu_dropD hlt, pu_pl]
    by_cases ex : L.getD i 0 = b
    · rw [if_pos ex, if_pos (by rw [ex])]
    · rw [if_neg ex, if_neg (fun q => ex ((nI_eq (by omega) (by omega)).mp q)), nI_1]
      rw [pu_dropD hlt] at hm
      exact ih (i + 1) (by omega) ((List.mem_cons.mp hm).resolve_left (fun q => ex q.symm)) (by omega)
theorem m_placeOf {N l b : Nat} {a : Nat → Int32} {L : List Nat} (hN : 100 ≤ N) (hl : l < 5) (hb : b < 200) (hL : L.length ≤ 24) (hE : ∀ x ∈ L, x < 200) (ha : ∀ i, i < L.length → a (24 + 24 * l + i) = nI (L.getD i 0)) (hm : b ∈ L) : f_X9_placeOf N (mM μ a d e) (nI l) (nI b) = some (pu_pl b L 0) := by
  have := m_placeOf_b2 (μ := μ) (d := d) (e := e) (N := N) hl hb hL hE ha N 0 (Nat.zero_le _) hm (by omega)
  rwa [List.drop_zero] at this
theorem m_take {N l b : Nat} {a : Nat → Int32} {S : AS} {U : Nat → Nat → Prop} (hN : 100 ≤ N) (H : RepM a S U) (hl : l < 5) (hb : b < 200) (hm : b ∈ aL S l) (hd : (aL S l).Nodup) (hE : ∀ x ∈ aL S l, x < 200) : MOk (f_X9_take N (mM μ a d e) (nI l) (nI b)) μ d e (fun a' => RepM a' (uL S l (pu_rm (aL S l) b)) U) := by
  obtain ⟨hL, h7, hA⟩ := H.2.1 l hl
  have hlen := pu_rm_len hd hm
  unfold f_X9_take
  refine ok_gd (7 + l) (pu_le l) (by omega) (by decide) (ok_gd (7 + l) (pu_le l) (by omega) (by decide) (ok_let ?_))
  rw [pu_le, nI_clamp (by omega), mM_a, mM_set, h7, ← hlen, nI_pred]
  obtain ⟨p, hp, hp1, hp2⟩ := pu_pl_spec (aL S l) 0 hm hd
  rw [Nat.zero_add] at hp1
  refine ok_bindE (m_placeOf (L := aL S l) hN hl hb hL hE (fun i hi => by rw [upd_ne (by omega)]; exact hA i hi) hm) ?_
  rw [hp1, pu_lb]
  refine ok_eq (m_take_b29 hl ((pu_rm (aL S l) b).length - p) N p _ (by rw [upd_eq rfl]; congr 1; omega) (by omega) (by omega)) ⟨_, rfl, ?_⟩
  refine H.setL hl (by omega) ?_ (fun i hi => ?_) (fun j h1 h2 => ?_)
  · unfold pu_shl
    rw [if_neg (by omega), upd_eq rfl]
  · rw [hp2 i]
    unfold pu_shl
    by_cases q : i < p
    · rw [if_neg (by omega), if_pos q, upd_ne (by omega)]
      exact hA i (by omega)
    · rw [if_pos (by omega), if_neg q, upd_ne (by omega)]
      exact hA (i + 1) (by omega)
  · unfold pu_shl
    rw [if_neg (by omega), upd_ne h1]
theorem m_bring_b15 {N l : Nat} {x : Int32} (hl : l < 5) : ∀ q n (a : Nat → Int32), q < n → q < 24 → f_X9_bring_b15 N n (mM μ a d e) (nI l) x (nI (24 + 24 * l)) (nI q) = some (mM μ (upd (upd (pu_shr a (24 + 24 * l) q) (24 + 24 * l) x) (7 + l) (a (7 + l) + 1)) d e) := by
  intro q
  induction q with
  | zero =>
    intro n a hn hq
    obtain ⟨n, rfl⟩ : ∃ m, n = m + 1 := ⟨n - 1, by omega⟩
    rw [f_X9_bring_b15, if_pos (show nI 0 ≤ 0 by decide), pu_gd _ rfl (by omega) (by decide), nI_clamp (by omega), mM_set, pu_shr0]
    show gd (7 + nI l) 1384 (gd (7 + nI l) 1384 (some ((oA (mM μ (upd a (24 + 24 * l) x) d e).1 0 (Int32.toNatClampNeg (7 + nI l)) ((mM μ (upd a (24 + 24 * l) x) d e).1.1 0 (Int32.toNatClampNeg (7 + nI l)) + 1), (mM μ (upd a (24 + 24 * l) x) d e).2) : MdlS))) = _
    rw [pu_gd _ (pu_le l) (by omega) (by decide), pu_gd _ (pu_le l) (by omega) (by decide), pu_le, nI_clamp (by omega), mM_set, mM_a, upd_ne (by omega)]
  | succ q ih =>
    intro n a hn hq
    obtain ⟨n, rfl⟩ : ∃ m, n = m + 1 := ⟨n - 1, by omega⟩
    rw [f_X9_bring_b15, if_neg (nI_nle (by omega) (by omega)), nI_add, show 24 + 24 * l + (q + 1) = (24 + 24 * l + q) + 1 by omega, nI_pred, pu_gd _ rfl (by omega) (by decide), pu_gd _ rfl (by omega) (by decide), nI_clamp (by omega), nI_clamp (by omega), mM_set, mM_a, pk_m1]
    have := ih n (upd a (24 + 24 * l + (q + 1)) (a (24 + 24 * l + q))) (by omega) (by omega)
    rw [pu_shrS, upd_ne (show 7 + l ≠ 24 + 24 * l + (q + 1) by omega)] at this
    exact this
theorem m_bring {N l b : Nat} {a : Nat → Int32} {S : AS} {U : Nat → Nat → Prop} (hN : 100 ≤ N) (H : RepM a S U) (hl : l < 5) (hlen : (aL S l).length < 24) : MOk (f_X9_bring N (mM μ a d e) (nI l) (nI b)) μ d e (fun a' => RepM a' (uL S l (b :: aL S l)) U) := by
  obtain ⟨hL, h7, hA⟩ := H.2.1 l hl
  unfold f_X9_bring
  refine ok_bindE (m_len H l hl) ?_
  rw [pu_lb]
  refine ok_eq (m_bring_b15 hl (aL S l).length N a (by omega) hlen) ⟨_, rfl, ?_⟩
  refine H.setL hl (by rw [List.length_cons]; omega) ?_ (fun i hi => ?_) (fun j h1 h2 => ?_)
  · rw [upd_eq rfl, h7, nI_1, List.length_cons]
  · rw [upd_ne (by omega)]
    rw [List.length_cons] at hi
    match i, hi with
    | 0, _ => exact upd_eq rfl
    | i + 1, hi =>
      rw [upd_ne (by omega), pu_getD_cons]
      unfold pu_shr
      rw [if_pos (by omega)]
      exact hA i (by omega)
  · rw [upd_ne h1, upd_ne (by omega)]
    unfold pu_shr
    rw [if_neg (by omega)]
-- a unit goes to another list
theorem m_moveOut {N l b : Nat} {a : Nat → Int32} {S : AS} {U : Nat → Nat → Prop} (hN : 100 ≤ N) (H : RepM a S U) (hl : l < 5) (hb : b < 200) (hw : aB S 0 b = nI l) (hm : b ∈ aL S l) (hd : (aL S l).Nodup) (hE : ∀ x ∈ aL S l, x < 200) : MOk (f_X9_move N (mM μ a d e) (nI b) (-1)) μ d e (fun a' => RepM a' (uB (uL S l (pu_rm (aL S l) b)) 0 b (-1)) U) := by
  unfold f_X9_move
  have e1 : f_X9_of (mM μ a d e) (nI b) 0 = some (nI l) := (m_of H b 0 hb (by decide) (Or.inl rfl)).trans (by rw [hw])
  refine ok_bindE e1 (ok_f (pu_m1 (by omega)) (ok_bindE e1 (mok_bind (m_take hN H hl hb hm hd hE) (fun a1 h1 => ?_))))
  unfold f_X9_move_b21
  refine ok_bindE (m_put b 0 hb (by decide) (-1)) (ok_t rfl (mok_some ?_))
  exact (h1.setB hb (f := 0) (by decide) (-1)).weak (fun f x _ q => Or.inl q)
theorem m_moveIn {N l b : Nat} {a : Nat → Int32} {S : AS} {U : Nat → Nat → Prop} (hN : 100 ≤ N) (H : RepM a S U) (hl : l < 5) (hb : b < 200) (hw : aB S 0 b = -1) (hlen : (aL S l).length < 24) : MOk (f_X9_move N (mM μ a d e) (nI b) (nI l)) μ d e (fun a' => RepM a' (uL (uB S 0 b (nI l)) l (b :: aL S l)) U) := by
  unfold f_X9_move
  have e1 : f_X9_of (mM μ a d e) (nI b) 0 = some (-1) := (m_of H b 0 hb (by decide) (Or.inl rfl)).trans (by rw [hw])
  refine ok_bindE e1 (ok_t rfl ?_)
  unfold f_X9_move_b21
  refine ok_bindE (m_put b 0 hb (by decide) (nI l)) (ok_f (pu_m1 (by omega)) ?_)
  have h1 := (H.setB hb (f := 0) (by decide) (nI l)).weak (V := U) (fun f x _ q => Or.inl q)
  exact mok_bind (m_bring hN h1 hl hlen) (fun a2 h2 => mok_some h2)
theorem m_moveTo {N l l2 b : Nat} {a : Nat → Int32} {S : AS} {U : Nat → Nat → Prop} (hN : 100 ≤ N) (H : RepM a S U) (hl : l < 5) (hl2 : l2 < 5) (hb : b < 200) (hw : aB S 0 b = nI l) (hm : b ∈ aL S l) (hd : (aL S l).Nodup) (hE : ∀ x ∈ aL S l, x < 200) (hlen : (aL (uL S l (pu_rm (aL S l) b)) l2).length < 24) :
    MOk (f_X9_move N (mM μ a d e) (nI b) (nI l2)) μ d e (fun a' => RepM a' (uL (uB (uL S l (pu_rm (aL S l) b)) 0 b (nI l2)) l2 (b :: aL (uL S l (pu_rm (aL S l) b)) l2)) U) := by
  unfold f_X9_move
  have e1 : f_X9_of (mM μ a d e) (nI b) 0 = some (nI l) := (m_of H b 0 hb (by decide) (Or.inl rfl)).trans (by rw [hw])
  refine ok_bindE e1 (ok_f (pu_m1 (by omega)) (ok_bindE e1 (mok_bind (m_take hN H hl hb hm hd hE) (fun a1 h1 => ?_))))
  unfold f_X9_move_b21
  refine ok_bindE (m_put b 0 hb (by decide) (nI l2)) (ok_f (pu_m1 (by omega)) ?_)
  have h1 := (h1.setB hb (f := 0) (by decide) (nI l2)).weak (V := U) (fun f x _ q => Or.inl q)
  exact mok_bind (m_bring hN h1 hl2 hlen) (fun a2 h2 => mok_some h2)
end MM
