/-! leaves: rows, reads of blocks, of the model's row -/
theorem pu_dropD {L : List Nat} {i : Nat} (h : i < L.length) : L.drop i = L.getD i 0 :: L.drop (i + 1) := by
  rw [List.drop_eq_getElem_cons h, List.getD_eq_getElem?_getD, List.getElem?_eq_getElem h]
  rfl
theorem pu_getD_mem {L : List Nat} {i : Nat} (h : i < L.length) : L.getD i 0 ∈ L := by
  rw [List.getD_eq_getElem?_getD, List.getElem?_eq_getElem h]
  exact List.getElem_mem h
theorem pu_ge24 {i : Nat} (h : i < 24) : ¬ (24 : Int32) ≤ nI i := nI_ge (b := 24) h (by decide)
theorem pu_ge200 {i : Nat} (h : i < 200) : ¬ (200 : Int32) ≤ nI i := nI_ge (b := 200) h (by decide)
theorem p5_blockAt {τ : ObjS} {L : List Nat} {i : Nat} (h : RowL τ L) (hi : i < L.length) : f_X5_blockAt τ (nI i) = some (nI (L.getD i 0)) := by
  obtain ⟨h1, h2, h3⟩ := h
  unfold f_X5_blockAt
  rw [if_neg (nI_pos (by omega)), h2, if_neg (nI_ge hi (by omega)), if_neg (pu_ge24 (by omega)), pu_gd i rfl (by omega) (by decide), nI_clamp (by omega), h3 i hi]
theorem p5_blockAtN {τ : ObjS} {L : List Nat} {x : Int32} (h : RowL τ L) (hx : x < 0 ∨ nI L.length ≤ x) : f_X5_blockAt τ x = some (-1) := by
  obtain ⟨h1, h2, h3⟩ := h
  unfold f_X5_blockAt
  by_cases h0 : x < 0
  · rw [if_pos h0]
  · rw [if_neg h0, h2, if_pos (hx.resolve_left h0)]
def pu_pl (b : Nat) : List Nat → Nat → Int32
  | [], _ => -1
  | x :: xs, i => if x = b then nI i else pu_pl b xs (i + 1)
theorem p5_placeOf_b2 {N : Nat} {τ : ObjS} {L : List Nat} {b : Nat} (h : RowL τ L) (hE : ∀ x ∈ L, x < 200) (hb : b < 200) : ∀ (n i : Nat), i ≤ L.length → L.length - i < n → f_X5_placeOf_b2 N n τ (nI b) (nI i) = some (pu_pl b (L.drop i) i) := by
  obtain ⟨h1, h2, h3⟩ := h
  intro n
  induction n with
  | zero => intro i _ hn; omega
  | succ n ih =>
    intro i hi hn
    rw [f_X5_placeOf_b2]
    by_cases hl : i < L.length
    · have hx := hE _ (pu_getD_mem hl)
      rw [h2, if_neg (nI_ge hl (by omega)), if_neg (pu_ge24 (by omega)), pu_gd i rfl (by omega) (by decide), nI_clamp (by omega), h3 i hl, pu_dropD hl, pu_pl]
      by_cases e : L.getD i 0 = b
      · rw [if_pos e, if_pos (by rw [e])]
      · rw [if_neg e, if_neg (fun q => e ((nI_eq (by omega) (by omega)).mp q)), nI_1]
        exact ih (i + 1) (by omega) (by omega)
    · have : i = L.length := by omega
      subst this
      rw [h2, if_pos (nI_le (Nat.le_refl _) (by omega)), List.drop_length]
      rfl
theorem p5_placeOf {N : Nat} {τ : ObjS} {L : List Nat} {b : Nat} (h : RowL τ L) (hE : ∀ x ∈ L, x < 200) (hb : b < 200) (hN : 100 ≤ N) : f_X5_placeOf N τ (nI b) = some (pu_pl b L 0) := by
  have := p5_placeOf_b2 (N := N) h hE hb N 0 (Nat.zero_le _) (by have := h.1; omega)
  rwa [List.drop_zero] at this
def pu_shr (a : Nat → Int32) (t m : Nat) : Nat → Int32 := fun j => if t < j ∧ j ≤ t + m then a (j - 1) else a j
theorem pu_shr0 (a : Nat → Int32) (t : Nat) : pu_shr a t 0 = a := by
  funext j
  unfold pu_shr
  rw [if_neg (by omega)]
theorem pu_shrS (a : Nat → Int32) (t m : Nat) : pu_shr (upd a (t + (m + 1)) (a (t + m))) t m = pu_shr a t (m + 1) := by
  funext j
  unfold pu_shr upd
  by_cases h : j = t + (m + 1)
  · subst h
    rw [if_neg (by omega), if_pos rfl, if_pos (by omega)]
    rfl
  · by_cases h2 : t < j ∧ j ≤ t + m
    · rw [if_pos h2, if_neg (by omega), if_pos (by omega)]
    · rw [if_neg h2, if_neg h, if_neg (by omega)]
theorem p5_put_b18 {N : Nat} {x : Int32} : ∀ (q n : Nat) (τ : ObjS), q < n → q < 24 → ∃ τ', f_X5_putFirst_b18 N n τ x (nI q) = some τ' ∧ τ'.2 1 = τ.2 1 + 1 ∧ τ'.1 0 = upd (pu_shr (τ.1 0) 0 q) 0 x := by
  intro q
  induction q with
  | zero =>
    intro n τ hn hq
    obtain ⟨n, rfl⟩ : ∃ k, n = k + 1 := ⟨n - 1, by omega⟩
    rw [f_X5_putFirst_b18, if_pos (show nI 0 ≤ 0 by decide), pu_gd (i := 0) (n := 24) 0 rfl (by decide) (by decide), pu_shr0]
    exact ⟨_, rfl, rfl, rfl⟩
  | succ q ih =>
    intro n τ hn hq
    obtain ⟨n, rfl⟩ : ∃ k, n = k + 1 := ⟨n - 1, by omega⟩
    rw [f_X5_putFirst_b18, if_neg (nI_nle (by omega) (by omega)), nI_pred, pu_gd q rfl (by omega) (by decide), pu_gd (q + 1) rfl (by omega) (by decide), nI_clamp (by omega), nI_clamp (by omega), pk_m1]
    obtain ⟨τ', e, e1, e2⟩ := ih n (oA τ 0 (q + 1) (τ.1 0 q)) (by omega) (by omega)
    refine ⟨τ', e, e1, e2.trans ?_⟩
    have := pu_shrS (τ.1 0) 0 q
    rw [Nat.zero_add, Nat.zero_add] at this
    rw [← this]
    rfl
theorem pu_getD_cons (b : Nat) (L : List Nat) (i : Nat) : (b :: L).getD (i + 1) 0 = L.getD i 0 := rfl
theorem p5_putFirst {N : Nat} {τ : ObjS} {L : List Nat} {b : Nat} (h : RowL τ L) (hl : L.length < 24) (hN : 100 ≤ N) : ∃ τ', f_X5_putFirst N τ (nI b) = some τ' ∧ RowL τ' (b :: L) := by
  obtain ⟨h1, h2, h3⟩ := h
  unfold f_X5_putFirst
  rw [h2, if_pos (show nI L.length < 24 from nI_lt (b := 24) hl (by decide))]
  obtain ⟨τ', e, e1, e2⟩ := p5_put_b18 (N := N) (x := nI b) L.length N τ (by omega) hl
  refine ⟨τ', e, by rw [List.length_cons]; omega, ?_, fun i hi => ?_⟩
  · rw [e1, h2, nI_1, List.length_cons]
  · rw [e2]
    rw [List.length_cons] at hi
    match i, hi with
    | 0, _ => exact upd_eq rfl
    | i + 1, hi =>
      rw [upd_ne (by omega), pu_getD_cons]
      unfold pu_shr
      rw [if_pos (by omega)]
      exact h3 i (by omega)
def pu_rm (L : List Nat) (b : Nat) : List Nat := L.filter (fun x => decide (x ≠ b))
theorem pu_rm_nil (b : Nat) : pu_rm [] b = [] := rfl
theorem pu_rm_eq (L : List Nat) (b : Nat) : pu_rm (b :: L) b = pu_rm L b := List.filter_cons_of_neg (by simp)
theorem pu_rm_ne {x b : Nat} (L : List Nat) (h : x ≠ b) : pu_rm (x :: L) b = x :: pu_rm L b := List.filter_cons_of_pos (by simpa using h)
theorem pu_rm_mem {L : List Nat} {b x : Nat} : x ∈ pu_rm L b ↔ x ∈ L ∧ x ≠ b := by
  unfold pu_rm
  rw [List.mem_filter]
  simp
theorem pu_rm_no {L : List Nat} {b : Nat} (h : b ∉ L) : pu_rm L b = L := by
  unfold pu_rm
  rw [List.filter_eq_self]
  intro x hx
  simp
  intro e
  exact h (e ▸ hx)
theorem pu_rm_nodup {L : List Nat} {b : Nat} (h : L.Nodup) : (pu_rm L b).Nodup := h.filter _
theorem pu_rm_len {L : List Nat} {b : Nat} (h : L.Nodup) (hb : b ∈ L) : (pu_rm L b).length + 1 = L.length := by
  induction L with
  | nil => cases hb
  | cons x xs ih =>
    rw [List.nodup_cons] at h
    by_cases e : x = b
    · subst e
      rw [pu_rm_eq, pu_rm_no h.1, List.length_cons]
    · rw [pu_rm_ne xs e, List.length_cons, List.length_cons, ih h.2 ((List.mem_cons.mp hb).resolve_left (fun q => e q.symm))]
theorem pu_rm_le (L : List Nat) (b : Nat) : (pu_rm L b).length ≤ L.length := List.length_filter_le _ _
theorem pu_getD_app {K : List Nat} {j : Nat} (L : List Nat) (h : j < K.length) : (K ++ L).getD j 0 = K.getD j 0 := by
  rw [List.getD_eq_getElem?_getD, List.getD_eq_getElem?_getD, List.getElem?_append_left h]
theorem pu_getD_last (K : List Nat) (x : Nat) : (K ++ [x]).getD K.length 0 = x := by
  rw [List.getD_eq_getElem?_getD, List.getElem?_append_right (Nat.le_refl _), Nat.sub_self]
  rfl
theorem p5_take_b4 {N : Nat} {L : List Nat} {b : Nat} (hE : ∀ x ∈ L, x < 200) (hb : b < 200) (h1 : L.length ≤ 24) : ∀ (n i : Nat) (τ : ObjS) (K : List Nat), i ≤ L.length → L.length - i < n → K.length ≤ i → τ.2 1 = nI L.length → (∀ j, j < K.length → τ.1 0 j = nI (K.getD j 0)) → (∀ j, i ≤ j → j < L.length → τ.1 0 j = nI (L.getD j 0)) →
    ∃ τ', f_X5_takeOut_b4 N n τ (nI b) (nI K.length) (nI i) = some τ' ∧ RowL τ' (K ++ pu_rm (L.drop i) b) := by
  intro n
  induction n with
  | zero => intro i τ K _ hn; omega
  | succ n ih =>
    intro i τ K hi hn hk h2 h3 h4
    rw [f_X5_takeOut_b4]
    by_cases hl : i < L.length
    · have hx := hE _ (pu_getD_mem hl)
      rw [h2, if_neg (nI_ge hl (by omega)), if_neg (pu_ge24 (by omega)), pu_gd i rfl (by omega) (by decide), nI_clamp (by omega), h4 i (Nat.le_refl _) hl, pu_dropD hl]
      by_cases e : L.getD i 0 = b
      · rw [if_pos (by rw [e]), nI_1, e, pu_rm_eq]
        exact ih (i + 1) τ K (by omega) (by omega) (by omega) h2 h3 (fun j hj => h4 j (by omega))
      · rw [if_neg (fun q => e ((nI_eq (by omega) (by omega)).mp q)), pu_gd i rfl (by omega) (by decide), pu_gd K.length rfl (by omega) (by decide), nI_1, nI_1, nI_clamp (by omega), pu_rm_ne _ e]
        have q := ih (i + 1) (oA τ 0 K.length (nI (L.getD i 0))) (K ++ [L.getD i 0]) (by omega) (by omega) (by rw [List.length_append]; simp; omega) h2 (fun j hj => ?_) (fun j hj hj2 => ?_)
        · rw [List.length_append, List.append_assoc] at q
          exact q
        · show upd (τ.1 0) K.length (nI (L.getD i 0)) j = _
          rw [List.length_append] at hj
          by_cases e2 : j = K.length
          · rw [upd_eq e2, e2, pu_getD_last]
          · have hj3 : j < K.length := by
              have : ([L.getD i 0] : List Nat).length = 1 := rfl
              omega
            rw [upd_ne e2, pu_getD_app _ hj3]
            exact h3 j hj3
        · show upd (τ.1 0) K.length (nI (L.getD i 0)) j = _
          rw [upd_ne (by omega)]
          exact h4 j (by omega) hj2
    · have e : i = L.length := by omega
      rw [h2, if_pos (nI_le (by omega) (by omega))]
      refine ⟨_, rfl, ?_, ?_, fun j hj => ?_⟩
      · rw [e, List.drop_length, pu_rm_nil, List.append_nil]; omega
      · rw [e, List.drop_length, pu_rm_nil, List.append_nil]; rfl
      · rw [e, List.drop_length, pu_rm_nil, List.append_nil] at hj ⊢
        exact h3 j hj
theorem p5_takeOut {N : Nat} {τ : ObjS} {L : List Nat} {b : Nat} (h : RowL τ L) (hE : ∀ x ∈ L, x < 200) (hb : b < 200) (hN : 100 ≤ N) : ∃ τ', f_X5_takeOut N τ (nI b) = some τ' ∧ RowL τ' (pu_rm L b) := by
  obtain ⟨h1, h2, h3⟩ := h
  have := p5_take_b4 (N := N) hE hb h1 N 0 τ [] (Nat.zero_le _) (by omega) (Nat.zero_le _) h2 (fun j hj => absurd hj (Nat.not_lt_zero _)) (fun j _ hj => h3 j hj)
  rw [List.drop_zero, List.nil_append] at this
  exact this
-- the class's blocks
theorem p0_storedOf {τ : ObjS} {S : AS} {E : Nat → Prop} {b : Nat} (h : RepB τ S E) (hb : b < 200) : f_X0_storedOf τ (nI b) = some (aB S 5 b) := by
  unfold f_X0_storedOf
  rw [if_neg (nI_pos (by omega)), if_neg (pu_ge200 hb), pu_gd b rfl hb (by decide), nI_clamp (by omega), (h.2.2 b hb).2.2.2.2.2]
theorem p0_valueOf {τ : ObjS} {S : AS} {E : Nat → Prop} {b : Nat} (h : RepB τ S E) (hb : b < 200) : f_X0_valueOf τ (nI b) = some (aB S 1 b) := by
  unfold f_X0_valueOf
  rw [if_neg (nI_pos (by omega)), if_neg (pu_ge200 hb), pu_gd b rfl hb (by decide), nI_clamp (by omega), (h.2.2 b hb).2.1]
theorem p0_ownerOf {τ : ObjS} {S : AS} {E : Nat → Prop} {b : Nat} (h : RepB τ S E) (hb : b < 200) : f_X0_ownerOf τ (nI b) = some (aB S 2 b) := by
  unfold f_X0_ownerOf
  rw [if_neg (nI_pos (by omega)), if_neg (pu_ge200 hb), pu_gd b rfl hb (by decide), nI_clamp (by omega), (h.2.2 b hb).2.2.1]
theorem p0_sinceOf {τ : ObjS} {S : AS} {E : Nat → Prop} {b : Nat} (h : RepB τ S E) (hb : b < 200) : f_X0_sinceOf τ (nI b) = some (aB S 3 b) := by
  unfold f_X0_sinceOf
  rw [if_neg (nI_pos (by omega)), if_neg (pu_ge200 hb), pu_gd b rfl hb (by decide), nI_clamp (by omega), (h.2.2 b hb).2.2.2.1]
theorem p0_listOf {τ : ObjS} {S : AS} {E : Nat → Prop} {b : Nat} (h : RepB τ S E) (hE : ¬ E b) (hb : b < 200) : f_X0_listOf τ (nI b) = some (aB S 0 b) := by
  unfold f_X0_listOf
  rw [if_neg (nI_pos (by omega)), if_neg (pu_ge200 hb), pu_gd b rfl hb (by decide), nI_clamp (by omega), (h.2.2 b hb).1 hE]
theorem p0_ghostListOf {τ : ObjS} {S : AS} {E : Nat → Prop} {b : Nat} (h : RepB τ S E) (hb : b < 200) : f_X0_ghostListOf τ (nI b) = some (aB S 4 b) := by
  unfold f_X0_ghostListOf
  rw [if_neg (nI_pos (by omega)), if_neg (pu_ge200 hb), pu_gd b rfl hb (by decide), nI_clamp (by omega), (h.2.2 b hb).2.2.2.2.1]
theorem p0_isDirty {τ : ObjS} {S : AS} {E : Nat → Prop} {b : Nat} (h : RepB τ S E) (hb : b < 200) : f_X0_isDirty τ (nI b) = some (if aB S 3 b = -1 then 0 else 1) := by
  unfold f_X0_isDirty
  rw [if_neg (nI_pos (by omega)), if_neg (pu_ge200 hb), pu_gd b rfl hb (by decide), nI_clamp (by omega), (h.2.2 b hb).2.2.2.1]
  split <;> rfl
theorem RepB.set0 {τ : ObjS} {S : AS} {E : Nat → Prop} (h : RepB τ S E) (b : Nat) (v : Int32) : RepB (oA τ 4 b v) (uB S 0 b v) (fun x => E x ∧ x ≠ b) := by
  refine ⟨h.1, h.2.1, fun x hx => ?_⟩
  obtain ⟨q0, q1, q2, q3, q4, q5⟩ := h.2.2 x hx
  refine ⟨fun he => ?_, q1, q2, q3, q4, q5⟩
  show upd (τ.1 4) b v x = _
  rw [aB_uB]
  by_cases e : x = b
  · rw [upd_eq e, if_pos ⟨rfl, e⟩]
  · rw [upd_ne e, if_neg (fun q => e q.2)]
    exact q0 (fun q => he ⟨q, e⟩)
theorem RepB.ex0 {τ : ObjS} {S : AS} {E : Nat → Prop} (h : RepB τ S E) (b : Nat) (v : Int32) : RepB τ (uB S 0 b v) (fun x => E x ∨ x = b) := by
  refine ⟨h.1, h.2.1, fun x hx => ?_⟩
  obtain ⟨q0, q1, q2, q3, q4, q5⟩ := h.2.2 x hx
  refine ⟨fun he => ?_, q1, q2, q3, q4, q5⟩
  rw [aB_uB, if_neg (fun q => he (Or.inr q.2))]
  exact q0 (fun q => he (Or.inl q))
theorem RepB.wk {τ : ObjS} {S : AS} {E F : Nat → Prop} (h : RepB τ S E) (hf : ∀ b, b < 200 → E b → F b) : RepB τ S F :=
  ⟨h.1, h.2.1, fun x hx => ⟨fun he => (h.2.2 x hx).1 (fun q => he (hf x hx q)), (h.2.2 x hx).2⟩⟩
theorem RepB.set1 {τ : ObjS} {S : AS} {E : Nat → Prop} (h : RepB τ S E) (b : Nat) (v : Int32) : RepB (oA τ 1 b v) (uB S 1 b v) E := by
  refine ⟨h.1, h.2.1, fun x hx => ?_⟩
  obtain ⟨q0, q1, q2, q3, q4, q5⟩ := h.2.2 x hx
  have hu : upd (τ.1 1) b v x = if x = b then v else τ.1 1 x := rfl
  simp [aB_uB, oA, va_up, hu, q1, q2, q3, q4, q5]
  exact q0
theorem RepB.set2 {τ : ObjS} {S : AS} {E : Nat → Prop} (h : RepB τ S E) (b : Nat) (v : Int32) : RepB (oA τ 2 b v) (uB S 2 b v) E := by
  refine ⟨h.1, h.2.1, fun x hx => ?_⟩
  obtain ⟨q0, q1, q2, q3, q4, q5⟩ := h.2.2 x hx
  have hu : upd (τ.1 2) b v x = if x = b then v else τ.1 2 x := rfl
  simp [aB_uB, oA, va_up, hu, q1, q2, q3, q4, q5]
  exact q0
theorem RepB.set3 {τ : ObjS} {S : AS} {E : Nat → Prop} (h : RepB τ S E) (b : Nat) (v : Int32) : RepB (oA τ 3 b v) (uB S 3 b v) E := by
  refine ⟨h.1, h.2.1, fun x hx => ?_⟩
  obtain ⟨q0, q1, q2, q3, q4, q5⟩ := h.2.2 x hx
  have hu : upd (τ.1 3) b v x = if x = b then v else τ.1 3 x := rfl
  simp [aB_uB, oA, va_up, hu, q1, q2, q3, q4, q5]
  exact q0
theorem RepB.set4 {τ : ObjS} {S : AS} {E : Nat → Prop} (h : RepB τ S E) (b : Nat) (v : Int32) : RepB (oA τ 5 b v) (uB S 4 b v) E := by
  refine ⟨h.1, h.2.1, fun x hx => ?_⟩
  obtain ⟨q0, q1, q2, q3, q4, q5⟩ := h.2.2 x hx
  have hu : upd (τ.1 5) b v x = if x = b then v else τ.1 5 x := rfl
  simp [aB_uB, oA, va_up, hu, q1, q2, q3, q4, q5]
  exact q0
theorem RepB.set5 {τ : ObjS} {S : AS} {E : Nat → Prop} (h : RepB τ S E) (b : Nat) (v : Int32) : RepB (oA τ 0 b v) (uB S 5 b v) E := by
  refine ⟨h.1, h.2.1, fun x hx => ?_⟩
  obtain ⟨q0, q1, q2, q3, q4, q5⟩ := h.2.2 x hx
  have hu : upd (τ.1 0) b v x = if x = b then v else τ.1 0 x := rfl
  simp [aB_uB, oA, va_up, hu, q1, q2, q3, q4, q5]
  exact q0
theorem RepB.head {τ : ObjS} {S : AS} {E : Nat → Prop} (h : RepB τ S E) (v : Int32) : RepB (oI τ 6 v) (uN S 13 v) E := ⟨rfl, h.2.1, h.2.2⟩
theorem RepB.wrote {τ : ObjS} {S : AS} {E : Nat → Prop} (h : RepB τ S E) (v : Int32) : RepB (oI τ 7 v) (uN S 21 v) E := ⟨h.1, rfl, h.2.2⟩
theorem p0_makeCleanUnit {τ : ObjS} {S : AS} {E : Nat → Prop} {b : Nat} (h : RepB τ S E) (hb : b < 200) : Ok (f_X0_makeCleanUnit τ (nI b)) (fun t => RepB t (uB (uB S 1 b (aB S 5 b)) 3 b (-1)) E) := by
  unfold f_X0_makeCleanUnit
  refine ok_f (nI_pos (by omega)) (ok_f (pu_ge200 hb) ?_)
  refine ok_gd b rfl hb (by decide) ?_
  refine ok_gd b rfl hb (by decide) ?_
  rw [nI_clamp (show b < 2 ^ 31 by omega)]
  rw [(h.2.2 b hb).2.2.2.2.2]
  exact ok_let (ok_gd b rfl hb (by decide) (ok_some ((h.set1 b _).set3 b _)))
theorem p0_putUnitIn {τ : ObjS} {S : AS} {E : Nat → Prop} {b : Nat} (h : RepB τ S E) (hb : b < 200) (v : Int32) : Ok (f_X0_putUnitIn τ (nI b) v) (fun t => RepB t (uB S 0 b v) (fun x => E x ∧ x ≠ b)) := by
  unfold f_X0_putUnitIn
  refine ok_f (nI_pos (by omega)) (ok_f (pu_ge200 hb) ?_)
  refine ok_gd b rfl hb (by decide) ?_
  rw [nI_clamp (show b < 2 ^ 31 by omega)]
  exact ok_some (h.set0 b v)
theorem p0_makeGhostOf {τ : ObjS} {S : AS} {E : Nat → Prop} {b : Nat} (h : RepB τ S E) (hb : b < 200) (v : Int32) : Ok (f_X0_makeGhostOf τ (nI b) v) (fun t => RepB t (uB S 4 b v) E) := by
  unfold f_X0_makeGhostOf
  refine ok_f (nI_pos (by omega)) (ok_f (pu_ge200 hb) ?_)
  refine ok_gd b rfl hb (by decide) ?_
  rw [nI_clamp (show b < 2 ^ 31 by omega)]
  exact ok_some (h.set4 b v)
theorem p0_giveTo {τ : ObjS} {S : AS} {E : Nat → Prop} {b : Nat} (h : RepB τ S E) (hb : b < 200) (v : Int32) : Ok (f_X0_giveTo τ (nI b) v) (fun t => RepB t (uB S 2 b v) E) := by
  unfold f_X0_giveTo
  refine ok_f (nI_pos (by omega)) (ok_f (pu_ge200 hb) ?_)
  refine ok_gd b rfl hb (by decide) ?_
  rw [nI_clamp (show b < 2 ^ 31 by omega)]
  exact ok_some (h.set2 b v)
theorem p0_dropUnit {τ : ObjS} {S : AS} {E : Nat → Prop} {b : Nat} (h : RepB τ S E) (hb : b < 200) : Ok (f_X0_dropUnit τ (nI b)) (fun t => RepB t (uB (uB (uB (uB S 1 b (-1)) 2 b (-1)) 3 b (-1)) 0 b (-1)) (fun x => E x ∧ x ≠ b)) := by
  unfold f_X0_dropUnit
  refine ok_f (nI_pos (by omega)) (ok_f (pu_ge200 hb) ?_)
  refine ok_gd b rfl hb (by decide) ?_
  rw [nI_clamp (show b < 2 ^ 31 by omega)]
  exact ok_let (ok_gd b rfl hb (by decide) (ok_let (ok_gd b rfl hb (by decide) (ok_let (ok_gd b rfl hb (by decide) (ok_some ((((h.set1 b _).set2 b _).set3 b _).set0 b _)))))))
