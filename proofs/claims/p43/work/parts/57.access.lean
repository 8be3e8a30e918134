/-! the class's access -/
theorem uL_id {S : AS} {l : Nat} {L : List Nat} (h : aL S l = L) : uL S l L = S := by
  refine AS_ext (fun _ => rfl) (fun k => ?_) (fun _ _ => rfl) (fun _ _ => rfl)
  rw [aL_uL]
  split
  · next e => rw [e, h]
  · rfl
theorem uB_id {S : AS} {f b : Nat} {v : Int32} (h : aB S f b = v) : uB S f b v = S := by
  refine AS_ext (fun _ => rfl) (fun _ => rfl) (fun _ _ => rfl) (fun k x => ?_)
  rw [aB_uB]
  split
  · next e => rw [e.1, e.2, h]
  · rfl
theorem uN_id {S : AS} {k : Nat} {v : Int32} (h : aN S k = v) : uN S k v = S := by
  refine AS_ext (fun j => ?_) (fun _ => rfl) (fun _ _ => rfl) (fun _ _ => rfl)
  rw [aN_uN]
  split
  · next e => rw [e, h]
  · rfl
theorem aG2_uL {S : AS} {x l m : Nat} {M : List Nat} (h : m ≠ 3 + l) : aG2 (uL S m M) x l = uL (aG2 S x l) m M := by
  show uL (uL (uB S 4 x (nI (3 + l))) m M) (3 + l) (x :: aL (uL S m M) (3 + l)) = _
  rw [aL_ne h.symm, uL_comm h]
  rfl
theorem aGo_uL {S : AS} {y l m : Nat} {M : List Nat} (h : m ≠ 3 + l) : aGo (uL S m M) y l = uL (aGo S y l) m M := by
  show uB (uL (uL S m M) (3 + l) (pu_rm (aL (uL S m M) (3 + l)) y)) 4 y (-1) = _
  rw [aL_ne h.symm, uL_comm h]
  rfl
def E0 : Nat → Prop := fun _ => False
def E1 (b : Nat) : Nat → Prop := fun x => x = b
section CC
variable {σ : CacS} {S : AS} {E : Nat → Prop}
theorem c_dem_b94 {N x : Nat} {v : Int32} (hN : 100 ≤ N) (h : RepC σ S E) (hx : x < 200) (h2 : (aL S 2).length < 24) : Ok (f_X1_demote_b94 N σ (nI x) v (nI x)) (fun t => RepC t (aN19 (aM2 (uB S 4 x v) x)) E ∧ (t 2).2 9 = nI x ∧ (t 2).2 10 = (σ 2).2 10) := by
  unfold f_X1_demote_b94
  refine ok_bind (p0_makeGhostOf h.2.1 hx v) (fun t1 ht1 => ok_let ?_)
  have hA := h.b ht1 (sB_uB _ _ _ _)
  obtain ⟨τ, e1, h1⟩ := p5_putFirst (N := N) (b := x) (hA.2.2.2.1 2 (by decide)) h2 hN
  refine ok_bindE e1 (ok_let ?_)
  have hB := hA.row (l := 2) (by decide) h1
  refine ok_bind (p0_putUnitIn hB.2.1 hx 2) (fun t2 ht2 => ok_let (ok_let (ok_let (ok_some ?_))))
  have hC := (hB.b ht2 (sB_uB _ _ _ _)).wk (F := E) (fun b _ q => q.1)
  have e6 : ((va_up (va_up (va_up σ 1 t1) 5 τ) 1 t2) 2).2 6 = aN S 19 := h.2.2.1.2.2.2.2.2.2.1
  rw [e6]
  exact ⟨(hC.t6 (aN S 19 + 1)).t9 (nI x), rfl, rfl⟩
theorem c_dem_b75 {N x l : Nat} (hN : 100 ≤ N) (h : RepC σ S E) (hl : l < 2) (hx : x < 200) (h2 : (aL S 2).length < 24) (hg : (aL S (3 + l)).length < 24) : Ok (f_X1_demote_b75 N σ (nI x) (if l = 0 then 1 else 0) (3 + l)) (fun t => RepC t (aN19 (aM2 (aG2 S x l) x)) E ∧ (t 2).2 9 = nI x ∧ (t 2).2 10 = (σ 2).2 10) := by
  unfold f_X1_demote_b75
  obtain ⟨τ, e1, h1⟩ := p5_putFirst (N := N) (b := x) (h.2.2.2.1 (3 + l) (by omega)) hg hN
  refine ok_bindE e1 (ok_let ?_)
  have hB := h.row (l := 3 + l) (by omega) h1
  have e2 : (va_up σ (3 + (3 + l)) τ) 2 = σ 2 := va_up_ne _ _ (by omega)
  rcases (show l = 0 ∨ l = 1 by omega) with rfl | rfl
  · refine ok_f (by decide) (ok_mono (c_dem_b94 (v := 3) hN hB hx ?_) (fun t ht => ⟨ht.1, ht.2.1, ht.2.2.trans (by rw [e2])⟩))
    exact h2
  · refine ok_t (by decide) (ok_mono (c_dem_b94 (v := 4) hN hB hx ?_) (fun t ht => ⟨ht.1, ht.2.1, ht.2.2.trans (by rw [e2])⟩))
    exact h2
theorem c_dem_b43 {N x l b : Nat} (hN : 100 ≤ N) (h : RepC σ S E) (hM : Mx S b) (hl : l < 2) (hx : x ∈ aL S l) (h2 : (aL S 2).length < 24) : Ok (f_X1_demote_b43 N σ (nI x) (if l = 0 then 1 else 0) (3 + l) (nI l)) (fun t => RepC t (aDem S x l) E ∧ (t 2).2 9 = nI x ∧ (t 2).2 10 = (σ 2).2 10) := by
  have hL := hM.1.1
  have hx2 : x < 200 := (hL l (by omega)).2 x hx
  obtain ⟨u, u1, u2, u3, u4, u5, u6, -⟩ := hM.1.2.2.1
  have hlu : (aL S (3 + l)).length ≤ u := by
    rcases (show l = 0 ∨ l = 1 by omega) with rfl | rfl
    · exact u5
    · exact u6
  unfold f_X1_demote_b43
  refine ok_bindE (c_rowOf (by omega)) ?_
  obtain ⟨τ, e1, h1⟩ := p5_takeOut (N := N) (h.2.2.2.1 l (by omega)) (hL l (by omega)).2 hx2 hN
  refine ok_bindE e1 (ok_let ?_)
  have hA := h.row (l := l) (by omega) h1
  have e2 : (va_up σ (3 + l) τ) 2 = σ 2 := va_up_ne _ _ (by omega)
  have hgr := hA.2.2.2.1 (3 + l) (by omega)
  rw [aL_ne (show 3 + l ≠ l by omega)] at hgr
  rw [hgr.2.1, show ((va_up σ (3 + l) τ) 0).2 12 = nI u from hA.1.2.2.2.1.trans u1]
  have fin (T : AS) (m : Nat) (M : List Nat) : True := trivial
  rcases LG_cases S l with ⟨e, q⟩ | ⟨e, q⟩
  · rw [u1] at e
    have hul := (nI_eq (by omega) (by omega)).mp e
    have hm : aLast S (3 + l) ∈ aL S (3 + l) := pu_getD_mem (by omega)
    have hy : aLast S (3 + l) < 200 := (hL (3 + l) (by omega)).2 _ hm
    have hg : aB S 4 (aLast S (3 + l)) = nI (3 + l) := by
      by_cases eb : aLast S (3 + l) = b
      · rw [eb]; exact (hM.2.2.2.1 l hl).mp (eb ▸ hm)
      · exact gh_of (hM.2.2.2.2.2 _ hy eb) hl hm
    refine ok_f (nI_nlt (by omega) (by omega)) ?_
    rw [pu_sub1 (by omega)]
    refine ok_bindE (p5_blockAt hgr (by omega)) ?_
    refine ok_bind (c_loseGhost hN hA hy (LOk_rm hL (by omega)) (Or.inr ⟨l, hl, hg⟩)) (fun t ht => ?_)
    have hB : RepC t (aLG1 (uL S l (pu_rm (aL S l) x)) (aLast S (3 + l))) E := ht.1
    rw [LG1_eq hl (show aB (uL S l (pu_rm (aL S l) x)) 4 _ = nI (3 + l) from hg), aGo_uL (show l ≠ 3 + l by omega)] at hB
    refine ok_mono (c_dem_b75 hN hB hl hx2 ?_ ?_) (fun r hr => ⟨?_, hr.2.1, hr.2.2.trans (by rw [ht.2, e2])⟩)
    · rw [aL_ne (by omega), aL_go, if_neg (by omega)]; exact h2
    · rw [aL_ne (by omega), aL_go, if_pos rfl]
      have := pu_rm_le (aL S (3 + l)) (aLast S (3 + l))
      omega
    · have := hr.1
      rw [aG2_uL (by omega), ← q] at this
      exact this
  · have hne : (aL S (3 + l)).length < u := by
      have : u ≠ (aL S (3 + l)).length := fun c => e (by rw [u1, c])
      omega
    refine ok_t (nI_lt hne (by omega)) ?_
    refine ok_mono (c_dem_b75 hN hA hl hx2 ?_ ?_) (fun r hr => ⟨?_, hr.2.1, hr.2.2.trans (by rw [e2])⟩)
    · rw [aL_ne (by omega)]; exact h2
    · rw [aL_ne (by omega)]; omega
    · have := hr.1
      rw [aG2_uL (by omega)] at this
      unfold aDem
      rw [q]
      exact this
theorem c_demote {N x l b : Nat} (hN : 100 ≤ N) (h : RepC σ S E) (hM : Mx S b) (hE : ¬ E x) (hl : l < 2) (hx : x ∈ aL S l) (h2 : (aL S 2).length < 24) : Ok (f_X1_demote N σ (nI x)) (fun t => RepC t (aDem S x l) E ∧ (t 2).2 9 = nI x ∧ (t 2).2 10 = (σ 2).2 10) := by
  have hx2 : x < 200 := (hM.1.1 l (by omega)).2 x hx
  have hxb : x ≠ b := fun q => hM.2.1 l (by omega) (q ▸ hx)
  have hw := ((hM.2.2.2.2.2 x hx2 hxb).1 l (by omega)).mp hx
  unfold f_X1_demote
  refine ok_bindE (p0_listOf h.2.1 hE hx2) ?_
  rw [hw]
  have := c_dem_b43 hN h hM hl hx h2
  rcases (show l = 0 ∨ l = 1 by omega) with rfl | rfl
  · refine ok_t rfl ?_
    unfold f_X1_demote_b16
    exact ok_f (by decide) (ok_f (by decide) this)
  · refine ok_f (by decide) ?_
    unfold f_X1_demote_b16
    exact ok_t rfl (ok_t rfl this)
theorem c_b89 {N b l : Nat} (hN : 100 ≤ N) (h : RepC σ S (E1 b)) (hb : b < 200) (hl : l < 5) (hlen : (aL S l).length < 24) : Ok (f_X1_bringToUpper_b89 N σ (nI b) (nI l)) (fun t => RepC t (aIn S b l) E0 ∧ t 2 = σ 2) := by
  unfold f_X1_bringToUpper_b89
  refine ok_bindE (c_rowOf hl) ?_
  obtain ⟨τ, e1, h1⟩ := p5_putFirst (N := N) (b := b) (h.2.2.2.1 l hl) hlen hN
  refine ok_bindE e1 (ok_let ?_)
  have hA := h.row hl h1
  refine ok_bind (p0_putUnitIn hA.2.1 hb (nI l)) (fun t ht => ok_let (ok_some ⟨(hA.b ht (sB_uB _ _ _ _)).wk (fun x _ q => q.2 q.1), ?_⟩))
  rw [va_up_ne _ _ (show 2 ≠ 1 by decide), va_up_ne _ _ (show 2 ≠ 3 + l by omega)]
def aDd (S : AS) (b : Nat) (g d : Int32) : Int32 := @ite _ (aFull S) (inferInstanceAs (Decidable (_ = _))) (nI (aV S (aWf g))) d
def aDl (S : AS) (d : Int32) : Int32 := @ite _ (aFull S) (inferInstanceAs (Decidable (_ = _))) (aLf S d) d
theorem own_up {b : Nat} (hM : Mx S b) : ∀ k, k < 2 → ∀ x ∈ aL S k, x < 200 ∧ ∃ c, c < 4 ∧ aB S 2 x = nI c ∧ nI c < aN S 6 := by
  intro k hk x hx
  have hx2 : x < 200 := (hM.1.1 k (by omega)).2 x hx
  have hxb : x ≠ b := fun q => hM.2.1 k (by omega) (q ▸ hx)
  have hB := hM.2.2.2.2.2 x hx2 hxb
  have hw := (hB.1 k (by omega)).mp hx
  exact ⟨hx2, hB.2.2.2.2.2.2 (by rw [hw]; exact pu_m1 (by omega))⟩
theorem c_b61 {N b : Nat} {g : Int32} (hN : 1000 ≤ N) (h : RepC σ S (E1 b)) (hM : Mx S b) (hb : b < 200) : Ok (f_X1_bringToUpper_b61 N σ (nI b) g (aWf g)) (fun t => RepC t (aIn (aMk S (aWf g)) b (aLt g)) E0 ∧ (t 2).2 9 = aDd S b g ((σ 2).2 9) ∧ (t 2).2 10 = aDl S ((σ 2).2 10)) := by
  unfold f_X1_bringToUpper_b61
  refine ok_bind (c_victim (by omega) h hM.1.2.2.1 hM.1.2.2.2.1 (own_up hM)) (fun t ht => ?_)
  obtain ⟨t1, tσ⟩ := t
  obtain ⟨e1, hR, hj⟩ := ht
  dsimp only at e1 hR hj ⊢
  obtain ⟨hk1, u, k1, k2, k3⟩ := Mx_Mk (wf := aWf g) hM
  have last (τ : CacS) (hτ : RepC τ (aMk S (aWf g)) (E1 b)) : Ok (if g = -1 then f_X1_bringToUpper_b89 N τ (nI b) 0 else f_X1_bringToUpper_b89 N τ (nI b) 1) (fun t => RepC t (aIn (aMk S (aWf g)) b (aLt g)) E0 ∧ t 2 = τ 2) := by
    unfold aLt
    by_cases eg : g = -1
    · rw [if_pos eg, if_pos eg]
      exact c_b89 (l := 0) (by omega) hτ hb (by decide) (by omega)
    · rw [if_neg eg, if_neg eg]
      exact c_b89 (l := 1) (by omega) hτ hb (by decide) (by omega)
  by_cases e : aFull S
  · rw [if_pos e] at e1
    rw [e1]
    have hm := aV_mem (wf := aWf g) hM.1.2.2.1 e
    have hl := aVl_lt (S := S) (aWf g)
    have hx2 : aV S (aWf g) < 200 := (hM.1.1 _ (by omega)).2 _ hm
    have hxb : aV S (aWf g) ≠ b := fun q => hM.2.1 _ (by omega) (q ▸ hm)
    refine ok_f (pu_m1 (by omega)) (ok_bind (c_makeRoom hN hR (hM.1.1 2 (by decide)).2 hM.1.2.1) (fun t2 ht2 => ?_))
    obtain ⟨w, w1, w2, w3⟩ := MR_room hM.1.1 hM.1.2.1
    refine ok_bind (c_demote (b := b) (by omega) ht2.1 (Mx_MR hM) hxb hl (by rw [aL_MR (by omega)]; exact hm) (by omega)) (fun t3 ht3 => ?_)
    have h3 := ht3.1
    rw [← aMk_t e] at h3
    refine ok_mono (last t3 h3) (fun t4 ht4 => ⟨ht4.1, ?_, ?_⟩)
    · rw [ht4.2, ht3.2.1]
      exact (if_pos e).symm
    · rw [ht4.2, ht3.2.2, ht2.2.2, hj 2 (by decide)]
      exact (if_pos e).symm
  · rw [if_neg e] at e1
    rw [e1]
    refine ok_t rfl ?_
    have h3 := hR
    rw [← aMk_f (wf := aWf g) e] at h3
    refine ok_mono (last tσ h3) (fun t4 ht4 => ⟨ht4.1, ?_, ?_⟩)
    · rw [ht4.2, hj 2 (by decide)]
      exact (if_neg e).symm
    · rw [ht4.2, hj 2 (by decide)]
      exact (if_neg e).symm
end CC
theorem aTop_2 {S : AS} {b : Nat} (h : aB S 0 b = 2) : aTop S b = uB (uL S 2 (pu_rm (aL S 2) b)) 0 b (-1) := if_pos h
theorem aTop_n {S : AS} {b : Nat} (h : aB S 0 b ≠ 2) : aTop S b = aClean S b := if_neg h
theorem aTop_g (S : AS) (b x : Nat) : aB (aTop S b) 4 x = aB S 4 x := by
  by_cases e : aB S 0 b = 2
  · rw [aTop_2 e, aB_nf (by decide)]; rfl
  · rw [aTop_n e]
    show aB (uB (uB S 1 b _) 3 b _) 4 x = _
    rw [aB_nf (by decide), aB_nf (by decide)]
theorem aTop_L34 (S : AS) (b : Nat) {l : Nat} (hl : l ≠ 2) : aL (aTop S b) l = aL S l := by
  by_cases e : aB S 0 b = 2
  · rw [aTop_2 e]
    exact if_neg hl
  · rw [aTop_n e]; rfl
theorem BOk_clean {S : AS} {x b : Nat} (h : BOk S x) (hx : x ≠ b) : BOk (aClean S b) x := h.congr (fun _ _ => Iff.rfl) (fun f _ => (aB_ne hx).trans (aB_ne hx)) rfl
theorem Mx_top {S : AS} {b : Nat} (h : Inv S) (hb : b < 200) (hw : aB S 0 b = -1 ∨ aB S 0 b = 2) : Mx (aTop S b) b := by
  obtain ⟨⟨hL, hW, hU, hC, hH, hS⟩, hB⟩ := h
  obtain ⟨a1, a2, a3, a4, a5, a6, a7⟩ := hB b hb
  rcases hw with e | e
  · rw [aTop_n (by rw [e]; decide)]
    refine ⟨⟨hL, hW, hU, hC, hH, hS⟩, fun l hl q => ?_, ?_, a3, a4, fun x hx hn => BOk_clean (hB x hx) hn⟩
    · have := (a1 l hl).mp q
      rw [e] at this
      exact pu_m1' (by omega) this
    · show aB (uB (uB S 1 b _) 3 b _) 0 b = _
      rw [aB_nf (by decide), aB_nf (by decide)]; exact e
  · rw [aTop_2 e]
    have hm : b ∈ aL S 2 := (a1 2 (by decide)).mpr e
    have hne (l : Nat) (hl : l < 3) (h2 : l ≠ 2) : b ∉ aL S l := fun q => by
      have := (a1 l hl).mp q
      rw [e] at this
      exact h2 ((nI_eq (a := 2) (by decide) (by omega)).mp this).symm
    have hlen := pu_rm_le (aL S 2) b
    refine ⟨⟨LOk_rm hL (by decide), ?_, hU, hC, hH, hS⟩, fun l hl => ?_, aB_eq, fun l hl => ?_, ?_, fun x hx hn => ?_⟩
    · obtain ⟨w, w1, w2, w3, w4⟩ := hW
      exact ⟨w, w1, w2, w3, by show (pu_rm (aL S 2) b).length ≤ w; omega⟩
    · show b ∉ (if l = 2 then pu_rm (aL S 2) b else aL S l)
      by_cases e2 : l = 2
      · rw [if_pos e2]; exact fun q => (pu_rm_mem.mp q).2 rfl
      · rw [if_neg e2]; exact hne l hl e2
    · rw [aB_nf (by decide)]
      show b ∈ (if 3 + l = 2 then pu_rm (aL S 2) b else aL S (3 + l)) ↔ _
      rw [if_neg (by omega)]; exact a3 l hl
    · rw [aB_nf (by decide)]; exact a4
    · refine (hB x hx).congr (fun l _ => ?_) (fun f _ => (aB_ne hn).trans rfl) rfl
      show x ∈ (if l = 2 then pu_rm (aL S 2) b else aL S l) ↔ _
      by_cases e2 : l = 2
      · rw [if_pos e2, e2]; exact mem_rm_ne hn
      · rw [if_neg e2]
theorem Mx_gh {S : AS} {b : Nat} (h : Mx S b) : (aB S 4 b = 3 → 0 < (aL S 3).length) ∧ (aB S 4 b = 4 → 0 < (aL S 4).length) :=
  ⟨fun e => List.length_pos_of_mem ((h.2.2.2.1 0 (by decide)).mpr e), fun e => List.length_pos_of_mem ((h.2.2.2.1 1 (by decide)).mpr e)⟩
theorem ln_g (S : AS) (g : Int32) (x : Nat) : aB (aLn S g) 4 x = aB S 4 x := by
  unfold aLn
  repeat' split
  all_goals rfl
theorem Mx_s3 {S : AS} {b : Nat} (h : Inv S) (hb : b < 200) (hw : aB S 0 b = -1 ∨ aB S 0 b = 2) : Mx (aS3 S b) b ∧ aB (aS3 S b) 4 b = -1 := by
  have h1 := Mx_top h hb hw
  have hg := Mx_gh h1
  rw [aTop_g] at hg
  exact Mx_LG1 (Mx_ln h1 hg.1 hg.2)
section CC
variable {σ : CacS} {S : AS}
theorem c_come {N b : Nat} (hN : 1000 ≤ N) (h : RepC σ S E0) (hI : Inv S) (hb : b < 200) (hw : aB S 0 b = -1 ∨ aB S 0 b = 2) : Ok (f_X1_bringToUpper N σ (nI b)) (fun t => RepC t (aCome S b) E0 ∧ (t 2).2 9 = aDd (aS3 S b) b (aB S 4 b) ((σ 2).2 9) ∧ (t 2).2 10 = aDl (aS3 S b) ((σ 2).2 10)) := by
  have hM := Mx_top hI hb hw
  obtain ⟨hM3, -⟩ := Mx_s3 hI hb hw
  have rest (τ : CacS) (hτ : RepC τ (aTop S b) (E1 b)) : Ok (f_X1_bringToUpper_b31 N τ (nI b)) (fun t => RepC t (aCome S b) E0 ∧ (t 2).2 9 = aDd (aS3 S b) b (aB S 4 b) ((τ 2).2 9) ∧ (t 2).2 10 = aDl (aS3 S b) ((τ 2).2 10)) := by
    unfold f_X1_bringToUpper_b31
    have hg := Mx_gh hM
    rw [aTop_g] at hg
    refine ok_bindE (p0_ghostListOf hτ.2.1 hb) ?_
    rw [aTop_g]
    refine ok_bind (c_learn hτ hg.1 hg.2) (fun t ht => ?_)
    have hMl := Mx_ln hM hg.1 hg.2
    refine ok_bind (c_loseGhost (by omega) ht.1 hb hMl.1.1 hMl.2.2.2.2.1) (fun t2 ht2 => ?_)
    have e9 : (t2 2).2 9 = (τ 2).2 9 := by rw [ht2.2, ht.2.1]
    have e10 : (t2 2).2 10 = (τ 2).2 10 := by rw [ht2.2, ht.2.2]
    have fin := c_b61 (g := aB S 4 b) hN ht2.1 hM3 hb
    rw [e9, e10] at fin
    by_cases e4 : aB S 4 b = 4
    · refine ok_t e4 ?_
      rw [show aWf (aB S 4 b) = 1 from if_pos e4] at fin
      unfold aCome
      rw [show aWf (aB S 4 b) = 1 from if_pos e4]
      exact fin
    · refine ok_f e4 ?_
      rw [show aWf (aB S 4 b) = 0 from if_neg e4] at fin
      unfold aCome
      rw [show aWf (aB S 4 b) = 0 from if_neg e4]
      exact fin
  unfold f_X1_bringToUpper
  refine ok_bindE (p0_listOf h.2.1 (fun q => q) hb) ?_
  by_cases e : aB S 0 b = 2
  · obtain ⟨τ, e1, h1⟩ := p5_takeOut (N := N) (h.2.2.2.1 2 (by decide)) (hI.1.1 2 (by decide)).2 hb (by omega)
    refine ok_t e (ok_bindE e1 (ok_let ?_))
    have hA := ((h.row (l := 2) (by decide) h1).ex0 b (-1)).wk (F := E1 b) (fun x _ q => q.resolve_left id)
    rw [← aTop_2 e] at hA
    exact rest _ hA
  · refine ok_f e (ok_bind (p0_makeCleanUnit h.2.1 hb) (fun t ht => ok_let ?_))
    have hA := (h.b ht ((sB_uB _ _ _ _).tr (sB_uB _ _ _ _))).wk (F := E1 b) (fun x _ q => q.elim)
    have hA' : RepC (va_up σ 1 t) (aTop S b) (E1 b) := by rw [aTop_n e]; exact hA
    exact rest _ hA'
-- to another list
def aMt (S : AS) (b l l2 : Nat) : AS := uL (uB (uL S l (pu_rm (aL S l) b)) 0 b (nI l2)) l2 (b :: aL (uL S l (pu_rm (aL S l) b)) l2)
def aScan (S : AS) (b : Nat) : AS := if aB S 0 b = 2 then aMt S b 2 2 else aIn (aClean (aMR S) b) b 2
theorem c_scan {N b : Nat} (hN : 1000 ≤ N) (h : RepC σ S E0) (hI : Inv S) (hb : b < 200) (hw : aB S 0 b = -1 ∨ aB S 0 b = 2) : Ok (f_X1_scanInLower N σ (nI b)) (fun t => RepC t (aScan S b) E0 ∧ (t 2).2 9 = (σ 2).2 9 ∧ (t 2).2 10 = (if aB S 0 b = 2 then (σ 2).2 10 else aLf S ((σ 2).2 10))) := by
  unfold f_X1_scanInLower aScan
  refine ok_bindE (p0_listOf h.2.1 (fun q => q) hb) ?_
  have hL2 := hI.1.1 2 (by decide)
  obtain ⟨w, w1, w2, w3, w4⟩ := hI.1.2.1
  by_cases e : aB S 0 b = 2
  · rw [if_pos e, if_pos e]
    obtain ⟨τ, e1, h1⟩ := p5_takeOut (N := N) (h.2.2.2.1 2 (by decide)) hL2.2 hb (by omega)
    refine ok_bindE e1 (ok_let ?_)
    have hA := h.row (l := 2) (by decide) h1
    have hm : b ∈ aL S 2 := ((hI.2 b hb).1 2 (by decide)).mpr e
    have hlen := pu_rm_len hL2.1 hm
    obtain ⟨τ2, e2, h2⟩ := p5_putFirst (N := N) (b := b) (hA.2.2.2.1 2 (by decide)) (by show (pu_rm (aL S 2) b).length < 24; omega) (by omega)
    refine ok_bindE e2 (ok_let (ok_some ⟨?_, rfl, (if_pos e).symm⟩))
    have hB := hA.row (l := 2) (by decide) h2
    unfold aMt
    rw [uB_id (S := uL S 2 (pu_rm (aL S 2) b)) (f := 0) (b := b) (v := nI 2) e]
    exact hB
  · rw [if_neg e, if_neg e]
    refine ok_bind (c_makeRoom hN h hL2.2 hI.1.2.1) (fun t ht => ?_)
    refine ok_bind (p0_makeCleanUnit ht.1.2.1 hb) (fun t2 ht2 => ok_let ?_)
    have hA := ht.1.b ht2 ((sB_uB _ _ _ _).tr (sB_uB _ _ _ _))
    refine ok_bind (p0_putUnitIn hA.2.1 hb 2) (fun t3 ht3 => ok_let ?_)
    have hB := (hA.b ht3 (sB_uB _ _ _ _)).wk (F := E0) (fun x _ q => q.1)
    obtain ⟨w', v1, v2, v3⟩ := MR_room hI.1.1 hI.1.2.1
    obtain ⟨τ2, e2, h2⟩ := p5_putFirst (N := N) (b := b) (hB.2.2.2.1 2 (by decide)) (by show (aL (aMR S) 2).length < 24; omega) (by omega)
    refine ok_bindE e2 (ok_let (ok_some ⟨hB.row (l := 2) (by decide) h2, ht.2.1, ht.2.2.trans (if_neg e).symm⟩))
theorem c_most {N b l : Nat} (hN : 1000 ≤ N) (h : RepC σ S E0) (hI : Inv S) (hb : b < 200) (hl : l < 2) (hw : aB S 0 b = nI l) : Ok (f_X1_makeMostFrequent N σ (nI b)) (fun t => RepC t (aMt S b l 1) E0 ∧ t 2 = σ 2) := by
  unfold f_X1_makeMostFrequent
  refine ok_bindE (p0_listOf h.2.1 (fun q => q) hb) ?_
  rw [hw]
  refine ok_bindE (c_rowOf (by omega)) ?_
  have hm : b ∈ aL S l := ((hI.2 b hb).1 l (by omega)).mpr hw
  have hlen := pu_rm_len (hI.1.1 l (by omega)).1 hm
  obtain ⟨u, u1, u2, u3, u4, -⟩ := hI.1.2.2.1
  obtain ⟨τ, e1, h1⟩ := p5_takeOut (N := N) (h.2.2.2.1 l (by omega)) (hI.1.1 l (by omega)).2 hb (by omega)
  refine ok_bindE e1 (ok_let ?_)
  have hA := h.row (l := l) (by omega) h1
  have h24 : (aL (uL S l (pu_rm (aL S l) b)) 1).length < 24 := by
    rw [aL_uL]
    split
    · next q => subst q; omega
    · omega
  obtain ⟨τ2, e2, h2⟩ := p5_putFirst (N := N) (b := b) (hA.2.2.2.1 1 (by decide)) h24 (by omega)
  refine ok_bindE e2 (ok_let ?_)
  have hB := hA.row (l := 1) (by decide) h2
  refine ok_bind (p0_putUnitIn hB.2.1 hb 1) (fun t3 ht3 => ok_let (ok_some ⟨(hB.b ht3 (sB_uB _ _ _ _)).wk (fun x _ q => q.1), ?_⟩))
  rw [va_up_ne _ _ (show 2 ≠ 1 by decide), va_up_ne _ _ (show 2 ≠ 4 by decide), va_up_ne _ _ (show 2 ≠ 3 + l by omega)]
end CC
