/-! listsAreSo() OF THE LAW -/
def dL (S : AS) (L : List Nat) : Nat := L.countP (fun b => isD S b)
section LS
variable {N k t : Nat} {δ : LwS} {S : AS} {w : Nat → Int32}
theorem dC_lists (hI : Inv S) : dC S = dL S (aL S 0) + dL S (aL S 1) + dL S (aL S 2) := by
  have hm : ∀ {l x}, l < 3 → x ∈ aL S l → aB S 0 x = nI l ∧ x < 200 := fun hl hx => ⟨(hI.mem hl hx).2.1, (hI.mem hl hx).1⟩
  have hdj : ∀ {l m x}, l < 3 → m < 3 → x ∈ aL S l → x ∈ aL S m → l = m := fun hl hm' hx hy => by
    have h1 := (hm hl hx).1
    rw [(hm hm' hy).1] at h1
    exact ((nI_eq (by omega) (by omega)).mp h1).symm
  have hn : ∀ l, l < 3 → ((aL S l).filter (fun b => isD S b)).Nodup := fun l hl => (hI.1.1 l (by omega)).1.filter _
  have h := aCt_in (p := isD S) (L := (aL S 0).filter (fun b => isD S b) ++ ((aL S 1).filter (fun b => isD S b) ++ (aL S 2).filter (fun b => isD S b))) (by
    refine List.nodup_append.mpr ⟨hn 0 (by decide), List.nodup_append.mpr ⟨hn 1 (by decide), hn 2 (by decide), fun x hx y hy e => ?_⟩, fun x hx y hy e => ?_⟩
    · subst e
      have := hdj (by decide) (by decide) (List.mem_filter.mp hx).1 (List.mem_filter.mp hy).1
      omega
    · subst e
      rcases List.mem_append.mp hy with hy | hy
      · have := hdj (by decide) (by decide) (List.mem_filter.mp hx).1 (List.mem_filter.mp hy).1
        omega
      · have := hdj (by decide) (by decide) (List.mem_filter.mp hx).1 (List.mem_filter.mp hy).1
        omega) (fun x hx => by
    rcases List.mem_append.mp hx with hx | hx
    · exact (hm (by decide) (List.mem_filter.mp hx).1).2
    · rcases List.mem_append.mp hx with hx | hx
      · exact (hm (by decide) (List.mem_filter.mp hx).1).2
      · exact (hm (by decide) (List.mem_filter.mp hx).1).2) (fun b hb => by
    refine ⟨fun q => ?_, fun q => ?_⟩
    · have hu : aB S 0 b ≠ -1 := fun e => (isD_iff.mp q) ((hI.2 b hb).2.2.2.2.1 e).2.2
      obtain ⟨l, hl, e⟩ := (hI.2 b hb).2.1.resolve_left hu
      have hin := ((hI.2 b hb).1 l hl).mpr e
      rcases (show l = 0 ∨ l = 1 ∨ l = 2 by omega) with rfl | rfl | rfl
      · exact List.mem_append_left _ (List.mem_filter.mpr ⟨hin, q⟩)
      · exact List.mem_append_right _ (List.mem_append_left _ (List.mem_filter.mpr ⟨hin, q⟩))
      · exact List.mem_append_right _ (List.mem_append_right _ (List.mem_filter.mpr ⟨hin, q⟩))
    · rcases List.mem_append.mp q with q | q
      · exact (List.mem_filter.mp q).2
      · rcases List.mem_append.mp q with q | q
        · exact (List.mem_filter.mp q).2
        · exact (List.mem_filter.mp q).2)
  unfold dC
  rw [h, List.length_append, List.length_append, ← List.countP_eq_length_filter, ← List.countP_eq_length_filter, ← List.countP_eq_length_filter]
  unfold dL
  omega
theorem pl_at : ∀ (L : List Nat) (i j : Nat), L.Nodup → i < L.length → pu_pl (L.getD i 0) L j = nI (j + i) := by
  intro L
  induction L with
  | nil => intro i j _ h; exact absurd h (Nat.not_lt_zero _)
  | cons x L ih =>
    intro i j hn hi
    rw [pu_pl]
    cases i with
    | zero => exact if_pos rfl
    | succ i =>
      have hi' : i < L.length := by rw [List.length_cons] at hi; omega
      have hne : ¬ x = (x :: L).getD (i + 1) 0 := fun e => (List.nodup_cons.mp hn).1 (by
        rw [pu_getD_cons] at e
        rw [e]
        exact pu_getD_mem hi')
      rw [if_neg hne, pu_getD_cons, ih i (j + 1) (List.nodup_cons.mp hn).2 hi', show j + 1 + i = j + (i + 1) by omega]
/-- dirty units of a list, from a place on -/
def dl (S : AS) (l i : Nat) : Nat := if l < 3 then dL S ((aL S l).drop i) else 0
abbrev K5 : Type := LwS → Int32 → Int32 → Int32 → Int32 → Int32 → Option Int32
abbrev K7 : Type := LwS → Int32 → Int32 → Int32 → Int32 → Int32 → Int32 → Int32 → Option Int32
theorem l_279 {k19 : K5} {k82 : K7} {x1 x3 x4 x6 x7 : Int32} {l q x : Nat} {R : Option Int32} (hC : RepC δ.2.2.2.1 S E0) (hJ : JN S w t) (ht : t < 2 ^ 20) (hl : l < 5) (hx : x < 200) (hk : k82 δ x1 (nI (q + (if l < 3 ∧ isD S x = true then 1 else 0))) x3 x4 (nI l) x6 (x7 + 1) = R) : f_L_listsAreSo_b279 N k19 k82 δ x1 (nI q) x3 x4 (nI l) x6 x7 (nI x) = R := by
  unfold f_L_listsAreSo_b279
  by_cases h3 : 3 ≤ l
  · rw [if_neg (by omega)] at hk
    exact e_t (nI_le (a := 3) h3 (by omega)) hk
  · refine e_f (nI_ge (b := 3) (by omega) (by decide)) (e_b (q_b4 hC hx) ?_)
    rcases (hJ x hx).2.2 with e | ⟨s, hs, e⟩
    · rw [e]
      rw [if_neg (fun h => (isD_iff.mp h.2) e), Nat.add_zero] at hk
      exact e_t (by decide) (by rw [Int32.add_zero]; exact hk)
    · rw [e]
      rw [if_pos ⟨by omega, isD_iff.mpr (by rw [e]; exact pu_m1 (by omega))⟩] at hk
      exact e_f (nI_pos (by omega)) (by rw [nI_1]; exact hk)
theorem l_145 {k19 : K5} {k82 : K7} {x1 x3 x4 x6 x7 : Int32} {l q x : Nat} {R : Option Int32} (hC : RepC δ.2.2.2.1 S E0) (hw : δ.1.1 3 = w) (hI : Inv S) (hJ : JN S w t) (ht : t < 2 ^ 20) (hl : l < 5) (hx : x ∈ aL S l) (hk : k82 δ x1 (nI (q + (if l < 3 ∧ isD S x = true then 1 else 0))) x3 x4 (nI l) x6 (x7 + 1) = R) : f_L_listsAreSo_b145 N k19 k82 δ x1 (nI q) x3 x4 (nI l) x6 x7 (nI x) = R := by
  have hx2 := (hI.1.1 l hl).2 x hx
  obtain ⟨b1, b2, b3, b4, b5, b6, -⟩ := hI.2 x hx2
  have h279 : f_L_listsAreSo_b279 N k19 k82 δ x1 (nI q) x3 x4 (nI l) x6 x7 (nI x) = R := l_279 hC hJ ht hl hx2 hk
  have hwv : δ.1.1 3 (Int32.toNatClampNeg (nI x)) = w x := by rw [hw, nI_clamp (by omega)]
  have h217 : f_L_listsAreSo_b217 N k19 k82 δ x1 (nI q) x3 x4 (nI l) x6 x7 (nI x) = R := by
    unfold f_L_listsAreSo_b217
    by_cases h3 : 3 ≤ l
    · exact e_t (nI_le (a := 3) h3 (by omega)) h279
    · have e0 := (b1 l (by omega)).mp hx
      have hu : aB S 0 x ≠ -1 := by rw [e0]; exact pu_m1 (by omega)
      refine e_f (nI_ge (b := 3) (by omega) (by decide)) (e_b (q_b2 hC hx2) (e_g x rfl hx2 (by decide) (e_t ?_ (e_b (q_b4 hC hx2) ?_))))
      · rw [hwv]; exact (hJ x hx2).1 hu
      · rcases (hJ x hx2).2.2 with e | ⟨s, hs, e⟩
        · refine e_f (by rw [e]; decide) (e_b (q_b6 hC hx2) (e_g x rfl hx2 (by decide) (e_t ?_ h279)))
          rw [hwv]; exact (hJ x hx2).2.1 e
        · exact e_t (by rw [e]; exact nI_pos' (by omega)) h279
  have h195 : f_L_listsAreSo_b195 N k19 k82 δ x1 (nI q) x3 x4 (nI l) x6 x7 (nI x) = R := by
    unfold f_L_listsAreSo_b195
    by_cases h2 : 2 ≤ l
    · exact e_t (nI_le (a := 2) h2 (by omega)) h217
    · refine e_f (nI_ge (b := 2) (by omega) (by decide)) (e_b (q_b5 hC hx2) (e_t ?_ h217))
      have e0 := (b1 l (by omega)).mp hx
      rcases (show l = 0 ∨ l = 1 by omega) with rfl | rfl
      · exact b6 (Or.inl e0)
      · exact b6 (Or.inr e0)
  unfold f_L_listsAreSo_b145
  by_cases h2 : l ≤ 2
  · exact e_t (nI_le (b := 2) h2 (by decide)) h195
  · obtain ⟨g, rfl⟩ : ∃ g, l = 3 + g := ⟨l - 3, by omega⟩
    have e4 := (b3 g (by omega)).mp hx
    have hno : ¬ (aB S 0 x = nI 0 ∨ aB S 0 x = nI 1) := fun q => by
      have := b6 q
      rw [e4] at this
      exact pu_m1 (by omega) this
    exact e_f (nI_ge (a := 2) (by omega) (by omega)) (e_b (q_b5 hC hx2) (e_t e4 (e_b (q_b0 hC hx2) (e_f (fun q => hno (Or.inl q)) (e_b (q_b0 hC hx2) (e_f (fun q => hno (Or.inr q)) h195))))))
theorem l_82 {k19 : K5} {x1 x3 x4 : Int32} {l : Nat} (hN : 1000 ≤ N) (hC : RepC δ.2.2.2.1 S E0) (hw : δ.1.1 3 = w) (hI : Inv S) (hJ : JN S w t) (ht : t < 2 ^ 20) (hl : l < 5) : ∀ r n i q, i + r = (aL S l).length → r < n → f_L_listsAreSo_b82 N k19 n δ x1 (nI q) x3 x4 (nI l) (nI (aL S l).length) (nI i) = k19 δ x1 (nI (q + dl S l i)) x3 x4 (nI (l + 1)) := by
  have h24 := (hC.2.2.2.1 l hl).1
  intro r
  induction r with
  | zero =>
    intro n i q hi hn
    obtain ⟨n, rfl⟩ : ∃ m, n = m + 1 := ⟨n - 1, by omega⟩
    obtain ⟨m, m1, m2, m3⟩ := q_long (γ := δ.2) hN hC hI hl
    have e0 : dl S l i = 0 := by
      unfold dl
      rw [List.drop_of_length_le (by omega)]
      split <;> rfl
    rw [f_L_listsAreSo_b82, e0, Nat.add_zero]
    refine e_t (nI_le (by omega) (by omega)) (e_b (q_btw hN hC hI hl) (e_b m1 (e_t rfl (e_f (nI_nlt m2 (by omega)) ?_))))
    by_cases h0 : (aL S l).length = 0
    · rw [h0]
      have m0 : m = 0 := by omega
      subst m0
      refine e_t (by decide) ?_
      unfold f_L_listsAreSo_b362
      exact e_t (by decide) (e_t rfl (by rw [nI_1]))
    · refine e_f (nI_nle (by omega) (by omega)) ?_
      unfold f_L_listsAreSo_b362
      exact e_f (nI_nle (by omega) (by omega)) (e_t rfl (by rw [nI_1]))
  | succ r ih =>
    intro n i q hi hn
    obtain ⟨n, rfl⟩ : ∃ m, n = m + 1 := ⟨n - 1, by omega⟩
    have hil : i < (aL S l).length := by omega
    have hm := pu_getD_mem hil
    have hx2 := (hI.1.1 l hl).2 _ hm
    have hat : f_L_at_ δ.2 (nI l) (nI i) = some (nI ((aL S l).getD i 0)) := by rw [q_at hC hl (by omega), if_pos hil]
    have hdl : dl S l i = dl S l (i + 1) + (if l < 3 ∧ isD S ((aL S l).getD i 0) = true then 1 else 0) := by
      unfold dl
      by_cases h3 : l < 3
      · rw [if_pos h3, if_pos h3]
        unfold dL
        rw [pu_dropD hil, List.countP_cons]
        by_cases hd : isD S ((aL S l).getD i 0) = true
        · rw [if_pos hd, if_pos ⟨h3, hd⟩]
        · rw [if_neg hd, if_neg (fun q => hd q.2)]
      · rw [if_neg h3, if_neg h3, if_neg (fun q => h3 q.1)]
    have go := l_145 (N := N) (k19 := k19) (k82 := f_L_listsAreSo_b82 N k19 n) (x1 := x1) (x3 := x3) (x4 := x4) (x6 := nI (aL S l).length) (x7 := nI i) (q := q) (R := k19 δ x1 (nI (q + dl S l i)) x3 x4 (nI (l + 1))) hC hw hI hJ ht hl hm (by
      rw [nI_1, ih n (i + 1) _ (by omega) (by omega), hdl]
      congr 2
      omega)
    rw [f_L_listsAreSo_b82]
    refine e_f (nI_ge hil (by omega)) (e_b hat (e_t (nI_pos' (by omega)) ?_))
    by_cases h3 : 3 ≤ l
    · exact e_t (nI_le (a := 3) h3 (by omega)) go
    · have e0 := ((hI.2 _ hx2).1 l (by omega)).mp hm
      refine e_f (nI_ge (b := 3) (by omega) (by decide)) (e_b (q_b0 hC hx2) (e_t e0 (e_b (q_b1 hN hC hI hx2 (by omega) e0) (e_t ?_ go))))
      rw [pl_at _ i 0 (hI.1.1 l hl).1 hil, Nat.zero_add]
theorem l_59 {k19 : K5} {x1 x3 x4 : Int32} {l q y : Nat} (hN : 1000 ≤ N) (hC : RepC δ.2.2.2.1 S E0) (hw : δ.1.1 3 = w) (hI : Inv S) (hJ : JN S w t) (ht : t < 2 ^ 20) (hl : l < 5) (hy : (aL S l).length ≤ y) (hy2 : y < 2 ^ 30) : f_L_listsAreSo_b59 N k19 δ x1 (nI q) x3 x4 (nI l) (nI (aL S l).length) (nI y) (nI (aL S l).length) = k19 δ x1 (nI (q + dl S l 0)) x3 x4 (nI (l + 1)) := by
  have h24 := (hC.2.2.2.1 l hl).1
  unfold f_L_listsAreSo_b59
  refine e_f (nI_nlt hy (by omega)) (e_b (q_at hC hl (by omega)) ?_)
  rw [if_neg (Nat.lt_irrefl _)]
  exact e_t rfl (l_82 hN hC hw hI hJ ht hl (aL S l).length N 0 q (by omega) (by omega))
-- what clients own
theorem l_412 {k386 : K5} {k403 : LwS → Int32 → Int32 → Int32 → Int32 → Int32 → Int32 → Option Int32} {x1 x2 x3 : Int32} {l c : Nat} (hN : 1000 ≤ N) (hC : RepC δ.2.2.2.1 S E0) (hI : Inv S) (hk : aN S 6 = nI k) (hk4 : k ≤ 4) (hc : c < k) (hl : l < 3) : ∀ r n i q, i + r = aCn S (aL S l) c → r < n → f_L_listsAreSo_b412 N k386 k403 n δ x1 x2 x3 (nI q) (nI c) (nI l) (nI i) = k403 δ x1 x2 x3 (nI (q + r)) (nI c) (nI (l + 1)) := by
  have h24 := (hC.2.2.2.1 l (by omega)).1
  have hle := aCn_le (S := S) (aL S l) c
  intro r
  induction r with
  | zero =>
    intro n i q hi hn
    obtain ⟨n, rfl⟩ : ∃ m, n = m + 1 := ⟨n - 1, by omega⟩
    obtain ⟨v, v1, v2⟩ := q_own (γ := δ.2) (idx := i) hN hC hI hk hk4 hc hl (by omega)
    rw [f_L_listsAreSo_b412]
    exact e_b v1 (e_t (v2.mpr (by omega)) (by rw [nI_1]; rfl))
  | succ r ih =>
    intro n i q hi hn
    obtain ⟨n, rfl⟩ : ∃ m, n = m + 1 := ⟨n - 1, by omega⟩
    obtain ⟨v, v1, v2⟩ := q_own (γ := δ.2) (idx := i) hN hC hI hk hk4 hc hl (by omega)
    rw [f_L_listsAreSo_b412]
    refine e_b v1 (e_f (fun h => by have := v2.mp h; omega) ?_)
    rw [nI_1, nI_1, ih n (i + 1) (q + 1) (by omega) (by omega), show q + 1 + r = q + (r + 1) by omega]
def tot (S : AS) (c : Nat) : Nat := aCn S (aL S 0) c + aCn S (aL S 1) c + aCn S (aL S 2) c
theorem l_403 {k386 : K5} {x1 x2 : Int32} {c p q : Nat} (hFl : FlOk) (hN : 1000 ≤ N) (hC : RepC δ.2.2.2.1 S E0) (hI : Inv S) (hk : aN S 6 = nI k) (h1 : 1 ≤ k) (hk4 : k ≤ 4) (hc : c < k) : f_L_listsAreSo_b403 N k386 N δ x1 x2 (nI p) (nI q) (nI c) 0 = k386 δ x1 x2 (nI (p + tot S c)) (nI (q + tot S c)) (nI (c + 1)) := by
  have a0 := (hC.2.2.2.1 0 (by decide)).1
  have a1 := (hC.2.2.2.1 1 (by decide)).1
  have a2 := (hC.2.2.2.1 2 (by decide)).1
  have b0 := aCn_le (S := S) (aL S 0) c
  have b1 := aCn_le (S := S) (aL S 1) c
  have b2 := aCn_le (S := S) (aL S 2) c
  obtain ⟨n, rfl⟩ : ∃ m, N = m + 4 := ⟨N - 4, by omega⟩
  have s3 : f_L_listsAreSo_b403 (n + 4) k386 (n + 1) δ x1 x2 (nI p) (nI (q + tot S c)) (nI c) (nI 3) = k386 δ x1 x2 (nI (p + tot S c)) (nI (q + tot S c)) (nI (c + 1)) := by
    rw [f_L_listsAreSo_b403]
    obtain ⟨x, ex, hx⟩ := q_exc (γ := δ.2) hFl hN hC hI hk h1 hk4 hc
    refine e_t (by decide) (e_b (q_c1 hN hC hI hk hk4 hc) (e_b (q_c2 hN hC hI hk hk4 hc) (e_b ex ?_)))
    have e3 : nI p + (nI (aUn S c) + nI (aCn S (aL S 2) c)) = nI (p + tot S c) := by
      rw [nI_add, nI_add]
      congr 1
    rw [e3]
    have hten := q_c10 (γ := δ.2) hN hC hI hk hk4 hc
    by_cases h : Op.cmpValue (FP.fcmp x FP.fconst0) .l ≤ 0
    · rw [if_pos (hx.mp h)] at hten
      refine e_t h ?_
      unfold f_L_listsAreSo_b486
      exact e_b hten (e_f (by decide) (e_t rfl (by rw [nI_1])))
    · rw [if_neg (fun q => h (hx.mpr q))] at hten
      refine e_f h ?_
      unfold f_L_listsAreSo_b486
      exact e_b hten (e_t rfl (e_t rfl (by rw [nI_1])))
  have s2 : f_L_listsAreSo_b403 (n + 4) k386 (n + 2) δ x1 x2 (nI p) (nI (q + (aCn S (aL S 0) c + aCn S (aL S 1) c))) (nI c) (nI 2) = k386 δ x1 x2 (nI (p + tot S c)) (nI (q + tot S c)) (nI (c + 1)) := by
    rw [f_L_listsAreSo_b403]
    refine e_f (by decide) ?_
    rw [show (0 : Int32) = nI 0 from rfl, l_412 hN hC hI hk hk4 hc (by decide) (aCn S (aL S 2) c) (n + 4) 0 _ (by omega) (by omega)]
    rw [show q + (aCn S (aL S 0) c + aCn S (aL S 1) c) + aCn S (aL S 2) c = q + tot S c by unfold tot; omega]
    exact s3
  have s1 : f_L_listsAreSo_b403 (n + 4) k386 (n + 3) δ x1 x2 (nI p) (nI (q + aCn S (aL S 0) c)) (nI c) (nI 1) = k386 δ x1 x2 (nI (p + tot S c)) (nI (q + tot S c)) (nI (c + 1)) := by
    rw [f_L_listsAreSo_b403]
    refine e_f (by decide) ?_
    rw [show (0 : Int32) = nI 0 from rfl, l_412 hN hC hI hk hk4 hc (by decide) (aCn S (aL S 1) c) (n + 4) 0 _ (by omega) (by omega)]
    rw [show q + aCn S (aL S 0) c + aCn S (aL S 1) c = q + (aCn S (aL S 0) c + aCn S (aL S 1) c) by omega]
    exact s2
  rw [show (0 : Int32) = nI 0 from rfl, f_L_listsAreSo_b403]
  refine e_f (by decide) ?_
  rw [show (0 : Int32) = nI 0 from rfl, l_412 hN hC hI hk hk4 hc (by decide) (aCn S (aL S 0) c) (n + 4) 0 _ (by omega) (by omega)]
  exact s1
def sC (S : AS) (L : List Nat) : Nat → Nat → Nat
  | 0, _ => 0
  | r + 1, c => aCn S L c + sC S L r (c + 1)
theorem sC_cons {L : List Nat} {x o : Nat} (e : aB S 2 x = nI o) (ho : o < 2 ^ 20) : ∀ r c, c + r < 2 ^ 20 → sC S (x :: L) r c = sC S L r c + (if c ≤ o ∧ o < c + r then 1 else 0) := by
  intro r
  induction r with
  | zero => intro c _; rw [sC, sC, if_neg (by omega)]
  | succ r ih =>
    intro c hc
    rw [sC, sC, ih (c + 1) (by omega)]
    have h1 : aCn S (x :: L) c = aCn S L c + (if o = c then 1 else 0) := by
      unfold aCn
      rw [List.countP_cons, e]
      simp only [decide_eq_true_eq]
      by_cases h : o = c
      · rw [if_pos h, if_pos (by rw [h])]
      · rw [if_neg h, if_neg (fun q => h ((nI_eq (by omega) (by omega)).mp q))]
    rw [h1]
    by_cases h : o = c
    · rw [if_pos h, if_neg (by omega), if_pos (by omega)]; omega
    · rw [if_neg h]
      by_cases h2 : c + 1 ≤ o ∧ o < c + 1 + r
      · rw [if_pos h2, if_pos (by omega)]; omega
      · rw [if_neg h2, if_neg (by omega)]; omega
theorem sC_all (hk4 : k ≤ 4) : ∀ L : List Nat, (∀ x ∈ L, ∃ o, o < k ∧ aB S 2 x = nI o) → sC S L k 0 = L.length := by
  intro L
  induction L with
  | nil =>
    intro _
    have : ∀ r c, sC S [] r c = 0 := fun r => by
      induction r with
      | zero => intro c; rfl
      | succ r ih => intro c; rw [sC, ih]; rfl
    exact this k 0
  | cons x L ih =>
    intro h
    obtain ⟨o, ho, e⟩ := h x List.mem_cons_self
    rw [sC_cons e (by omega) k 0 (by omega), ih (fun y hy => h y (List.mem_cons_of_mem _ hy)), if_pos (by omega), List.length_cons]
def sT (S : AS) : Nat → Nat → Nat
  | 0, _ => 0
  | r + 1, c => tot S c + sT S r (c + 1)
theorem sT_eq : ∀ r c, sT S r c = sC S (aL S 0) r c + sC S (aL S 1) r c + sC S (aL S 2) r c := by
  intro r
  induction r with
  | zero => intro c; rfl
  | succ r ih => intro c; rw [sT, sC, sC, sC, ih]; unfold tot; omega
theorem l_386 (hFl : FlOk) (hN : 1000 ≤ N) (hC : RepC δ.2.2.2.1 S E0) (hS : SI S w k t) (ht : t < 2 ^ 20) : ∀ r n c p, c + r = k → r < n → p + sT S r c = (aL S 0).length + (aL S 1).length + (aL S 2).length → f_L_listsAreSo_b386 N n δ (aN S 2) (nI (dC S)) (nI p) (nI p) (nI c) = some 1 := by
  obtain ⟨hI, h6, k1, k4, hJ, h5, -⟩ := hS
  have a0 := (hC.2.2.2.1 0 (by decide)).1
  have a1 := (hC.2.2.2.1 1 (by decide)).1
  have a2 := (hC.2.2.2.1 2 (by decide)).1
  intro r
  induction r with
  | zero =>
    intro n c p hc hn hp
    obtain ⟨n, rfl⟩ : ∃ m, n = m + 1 := ⟨n - 1, by omega⟩
    obtain ⟨u, u1, u2, u3, u4, -, -, tg, u5, u6⟩ := hI.1.2.2.1
    obtain ⟨m, m1, m2⟩ := q_dif (γ := δ.2) hN hC hJ
    have hd := dC_le S
    rw [sT] at hp
    rw [f_L_listsAreSo_b386]
    refine e_b (q_n hC (j := 6) (by decide)) ?_
    rw [h6]
    refine e_t (nI_le (by omega) (by omega)) (e_b (q_l hC (l := 0) (by decide)) (e_b (q_l hC (l := 1) (by decide)) (e_b (q_l hC (l := 2) (by decide)) (e_b (q_l hC (l := 0) (by decide)) (e_b (q_l hC (l := 1) (by decide)) ?_)))))
    rw [nI_add, nI_add, u1]
    refine e_f (nI_nlt u4 (by omega)) (e_b (q_n hC (j := 4) (by decide)) ?_)
    rw [u5]
    refine e_f (nI_pos (by omega)) (e_b (q_n hC (j := 4) (by decide)) ?_)
    rw [u5]
    refine e_f (nI_nlt u6 (by omega)) (e_b (q_d hN hC) (e_t rfl (e_t (by rw [← hp]; rfl) (e_t (by rw [← hp]; rfl) (e_b (q_stl hN hC hJ h5 (by omega)) (e_t rfl (e_b m1 (e_f (nI_nlt m2 (by omega)) rfl))))))))
  | succ r ih =>
    intro n c p hc hn hp
    obtain ⟨n, rfl⟩ : ∃ m, n = m + 1 := ⟨n - 1, by omega⟩
    rw [sT] at hp
    rw [f_L_listsAreSo_b386]
    refine e_b (q_n hC (j := 6) (by decide)) ?_
    rw [h6]
    refine e_f (nI_ge (by omega) (by omega)) ?_
    rw [l_403 hFl hN hC hI h6 k1 k4 (by omega)]
    exact ih n (c + 1) (p + tot S c) (by omega) (by omega) (by omega)
theorem l_19 (hFl : FlOk) (hN : 1000 ≤ N) (hC : RepC δ.2.2.2.1 S E0) (hw : δ.1.1 3 = w) (hS : SI S w k t) (ht : t < 2 ^ 20) : ∀ r n l q, l + r = 5 → r < n → q = dl S 0 0 * (if 0 < l then 1 else 0) + dl S 1 0 * (if 1 < l then 1 else 0) + dl S 2 0 * (if 2 < l then 1 else 0) → f_L_listsAreSo_b19 N n δ (aN S 2) (nI q) 0 0 (nI l) = some 1 := by
  obtain ⟨hI, h6, k1, k4, hJ, h5, -⟩ := id hS
  obtain ⟨u, u1, u2, u3, u4, u5, u6, -⟩ := hI.1.2.2.1
  obtain ⟨lw, w1, w2, w3, w4⟩ := hI.1.2.1
  intro r
  induction r with
  | zero =>
    intro n l q hl hn hq
    obtain ⟨n, rfl⟩ : ∃ m, n = m + 1 := ⟨n - 1, by omega⟩
    have e : l = 5 := by omega
    subst e
    rw [f_L_listsAreSo_b19]
    refine e_t (by decide) ?_
    have hd : q = dC S := by
      rw [dC_lists hI, hq]
      unfold dl
      simp
    rw [hd]
    refine l_386 hFl hN hC hS ht k N 0 0 (by omega) (by omega) ?_
    rw [Nat.zero_add, sT_eq, sC_all k4, sC_all k4, sC_all k4]
    all_goals
      intro x hx
      first
        | obtain ⟨-, -, -, o, o1, o2, o3⟩ := hI.mem (l := 0) (by decide) hx
          exact ⟨o, by rw [h6] at o3; exact (nI_ltI (by omega) (by omega)).mp o3, o2⟩
        | obtain ⟨-, -, -, o, o1, o2, o3⟩ := hI.mem (l := 1) (by decide) hx
          exact ⟨o, by rw [h6] at o3; exact (nI_ltI (by omega) (by omega)).mp o3, o2⟩
        | obtain ⟨-, -, -, o, o1, o2, o3⟩ := hI.mem (l := 2) (by decide) hx
          exact ⟨o, by rw [h6] at o3; exact (nI_ltI (by omega) (by omega)).mp o3, o2⟩
  | succ r ih =>
    intro n l q hl hn hq
    obtain ⟨n, rfl⟩ : ∃ m, n = m + 1 := ⟨n - 1, by omega⟩
    have next := ih n (l + 1) (q + dl S l 0) (by omega) (by omega) (by
      rw [hq]
      rcases (show l = 0 ∨ l = 1 ∨ l = 2 ∨ l = 3 ∨ l = 4 by omega) with rfl | rfl | rfl | rfl | rfl <;> simp [dl])
    rw [f_L_listsAreSo_b19]
    refine e_f (nI_ge (b := 5) (by omega) (by decide)) (e_b (a := nI (aL S l).length) ?_ ?_)
    · rw [show (7 : Int32) + nI l = nI (7 + l) from nI_add 7 l]
      exact q_l hC (by omega)
    · by_cases h2 : l = 2
      · subst h2
        refine e_t rfl (e_b (q_n hC (j := 3) (by decide)) ?_)
        rw [w1]
        exact (l_59 hN hC hw hI hJ ht (by decide) w4 (by omega)).trans next
      · refine e_f (fun q => h2 ((nI_eq (b := 2) (by omega) (by decide)).mp q)) ?_
        have hy : (aL S l).length ≤ u := by
          rcases (show l = 0 ∨ l = 1 ∨ l = 3 ∨ l = 4 by omega) with rfl | rfl | rfl | rfl <;> omega
        rw [u1] at next ⊢
        exact (l_59 hN hC hw hI hJ ht (by omega) hy (by omega)).trans next
theorem p_lists (hFl : FlOk) (hN : 1000 ≤ N) (hC : RepC δ.2.2.2.1 S E0) (hw : δ.1.1 3 = w) (hS : SI S w k t) (ht : t < 2 ^ 20) : f_L_listsAreSo N δ = some 1 := by
  unfold f_L_listsAreSo
  exact e_b (q_n hC (j := 2) (by decide)) (l_19 hFl hN hC hw hS ht 5 N 0 0 rfl (by omega) (by simp))
end LS
