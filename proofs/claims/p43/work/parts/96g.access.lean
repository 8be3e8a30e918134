/-! accesses() OF THE LAW -/
def Hd (δ : LwS) (S : AS) (n v d bb : Nat) (w : Nat → Int32) : Prop := RepC δ.2.2.2.1 S E0 ∧ HisO δ.2.2.2.2.2 n v ∧ δ.1.1 3 = w ∧ δ.1.2 2 = nI d ∧ δ.1.2 4 = nI bb ∧ bb < 176
theorem ok_letg {α β : Type} {x : α} {k : α → Option β} {Q : β → Prop} (h : ∀ y, y = x → Ok (k y) Q) : Ok (cx_let x k) Q := h x rfl
theorem ok_gdI {β : Type} {i : Int32} {n : Nat} {x : Option β} {Q : β → Prop} (j : Nat) (hi : i = nI j) (h : j < n) (hn : n < 2 ^ 31) (k : Ok x Q) : Ok (gd i n x) Q := ok_gd j hi h hn k
section AA
variable {N m n v d bb t k c b : Nat} {z : ZS} {δ : LwS} {S U : AS} {w : Nat → Int32} {h : Nat → Int32}
abbrev Qk (δ : LwS) : Int32 × LwS × (Nat → Int32) → Prop := fun r => r.1 = 1 ∧ r.2.1 = δ
theorem p_744 (hF : UF S U c b) : Ok (f_L_accesses_b744 N m z δ h (nI (aK S b)) (aSc S c b) (wbV S c b 2)) (Qk δ) := by
  obtain ⟨-, -, -, -, -, ⟨l, l3, -, l2, -, -, l5⟩, -⟩ := hF
  have hk := aK_lt S b
  unfold f_L_accesses_b744
  by_cases k0 : aK S b = 0
  · exact ok_t (by rw [k0]; rfl) (ok_some ⟨rfl, rfl⟩)
  · refine ok_f (nI_ne0 (by omega) (by omega)) ?_
    by_cases s0 : aSc S c b = 0
    · exact ok_t s0 (ok_some ⟨rfl, rfl⟩)
    · exact ok_f s0 (ok_t (by rw [l2, l5 k0 s0]; rfl) (ok_some ⟨rfl, rfl⟩))
theorem p_713 (hF : UF S U c b) (hC : RepC δ.2.2.2.1 U E0) : Ok (f_L_accesses_b713 N m z δ h (nI (aK S b)) (aSc S c b) (wbV S c b 2) (wbV S c b 4)) (Qk δ) := by
  have h7 := p_744 (N := N) (m := m) (z := z) (δ := δ) (h := h) hF
  obtain ⟨-, -, -, -, hl, ⟨l, l3, -, l2, -, l4, -⟩, -⟩ := hF
  have key : Ok (if aSc S c b = 1 then f_L_accesses_b744 N m z δ h (nI (aK S b)) (aSc S c b) (wbV S c b 2) else if 2 ≤ wbV S c b 2 then some (0, δ, h) else f_L_accesses_b744 N m z δ h (nI (aK S b)) (aSc S c b) (wbV S c b 2)) (Qk δ) := by
    rcases sc_01 S c b with s0 | s1
    · refine ok_f (by rw [s0]; decide) (ok_f ?_ h7)
      rw [l2]
      exact nI_ge (b := 2) (l4 s0) (by decide)
    · exact ok_t s1 h7
  unfold f_L_accesses_b713
  rcases hl with ⟨a1, -⟩ | ⟨y, y1, y2, -, y4⟩
  · exact ok_t (by rw [a1]; decide) key
  · refine ok_f (by rw [y2]; exact nI_pos (by omega)) (ok_bindE (by rw [y2]; exact q_b0 hC y1) (ok_t y4 key))
theorem p_621 {x11 : Int32} (hF : UF S U c b) (hC : RepC δ.2.2.2.1 U E0) (hk : aN U 6 = nI k) (hk4 : k ≤ 4) (hc : c < k) (hb : b < 200) (hx : aFull S → x11 ≠ 0) : Ok (f_L_accesses_b621 N m z δ h (nI c) (nI b) (nI (aK S b)) (aSc S c b) (wbV S c b 2) (wbV S c b 3) (wbV S c b 4) (wbV S c b 6) x11) (Qk δ) := by
  have h7 := p_713 (N := N) (m := m) (z := z) (h := h) hF hC
  obtain ⟨-, -, -, hd, -, -, o1, o2, o3⟩ := hF
  have hk3 := aK_lt S b
  unfold f_L_accesses_b621
  refine ok_bindE (q_b3 hC hb) (ok_t o1 (ok_bindE (q_n hC (j := 4) (by decide)) (ok_t o3 (ok_bindE (q_cf hC hk hk4 hc (j := 4) (f := 2) (by decide)) (ok_t o2 ?_)))))
  rcases hd with ⟨a1, -⟩ | ⟨x, x1, x2, -, x4, ⟨l, l2, x5⟩, x6, x7, x8⟩
  · exact ok_t (by rw [a1]; decide) h7
  · refine ok_f (by rw [x2]; exact nI_pos (by omega)) (ok_bindE (by rw [x2]; exact q_b0 hC x1) (ok_t x4 (ok_bindE (by rw [x2]; exact q_b5 hC x1) (ok_f ?_ (ok_f (hx x6) (ok_f (nI_ne0 (by omega) (by omega)) (ok_f (by rw [x8]; decide) h7)))))))
    rw [x5]
    exact nI_nlt (b := 3) (by omega) (by omega)
theorem pl_0 {L : List Nat} : pu_pl b (b :: L) 0 = nI 0 := if_pos rfl
theorem p_584 {x11 y0 y1 y2 : Int32} (hN : 1000 ≤ N) (hF : UF S U c b) (hI : Inv U) (hC : RepC δ.2.2.2.1 U E0) (hk : aN U 6 = nI k) (hk4 : k ≤ 4) (hc : c < k) (hb : b < 200) (hx : aFull S → x11 ≠ 0) (hy : y2 = y1 + y0) : Ok (f_L_accesses_b584 N m z δ h (nI c) (nI b) (nI (aK S b)) (aSc S c b) (wbV S c b 2) (wbV S c b 3) (wbV S c b 4) (wbV S c b 6) x11 y0 y1 y2) (Qk δ) := by
  have h7 := p_621 (N := N) (m := m) (z := z) (h := h) hF hC hk hk4 hc hb hx
  obtain ⟨-, -, -, -, -, ⟨l, l3, l0, l2, l1, -, -⟩, -⟩ := hF
  unfold f_L_accesses_b584
  refine ok_t hy (ok_bindE (q_b0 hC hb) (ok_t (l0.trans l2.symm) (ok_bindE (q_b1 hN hC hI hb l3 l0) ?_)))
  by_cases k0 : aK S b = 0
  · exact ok_if (fun _ => h7) (fun _ => ok_f (by rw [k0]; decide) h7)
  · obtain ⟨L, hL⟩ := l1 k0
    exact ok_t (by rw [hL]; exact pl_0) h7
def H6 (h : Nat → Int32) (S : AS) (b : Nat) : Prop := h (Int32.toNatClampNeg 0) = aN S (14 + aK S b) ∧ h (Int32.toNatClampNeg 1) = aN S 19 ∧ h (Int32.toNatClampNeg 2) = aN S 20 ∧ h (Int32.toNatClampNeg 3) = aN S 21 ∧ h (Int32.toNatClampNeg 4) = aN S 22 ∧ h (Int32.toNatClampNeg 5) = aN S 5
theorem p_557 {x11 y0 y1 y2 : Int32} (hN : 1000 ≤ N) (hh : H6 h S b) (hF : UF S U c b) (hI : Inv U) (hC : RepC δ.2.2.2.1 U E0) (hk : aN U 6 = nI k) (hk4 : k ≤ 4) (hc : c < k) (hb : b < 200) (hx : aFull S → x11 ≠ 0) (hy : y2 = y1 + y0) : Ok (f_L_accesses_b557 N 6 z δ h (nI c) (nI b) (nI (aK S b)) (aSc S c b) (wbV S c b 2) (wbV S c b 3) (wbV S c b 4) (wbV S c b 6) x11 y0 y1 y2) (Qk δ) := by
  have hl := hF.2.2.2.2.1
  unfold f_L_accesses_b557
  refine ok_t hy (ok_bindE (q_n hC (j := 20) (by decide)) (ok_gd 2 rfl (by decide) (by decide) ?_))
  rw [hh.2.2.1]
  rcases hl with ⟨a1, a2⟩ | ⟨y, y1, y2, y3, y4⟩
  · exact ok_f (by rw [a1]; decide) (p_584 hN hF hI hC hk hk4 hc hb hx (by rw [a2, Int32.add_zero]))
  · exact ok_t (by rw [y2]; exact nI_pos' (by omega)) (p_584 hN hF hI hC hk hk4 hc hb hx y3)
theorem p_477 {x11 : Int32} (hN : 1000 ≤ N) (hh : H6 h S b) (hF : UF S U c b) (hI : Inv U) (hC : RepC δ.2.2.2.1 U E0) (hk : aN U 6 = nI k) (hk4 : k ≤ 4) (hc : c < k) (hb : b < 200) (hx : aFull S → x11 ≠ 0) : Ok (f_L_accesses_b477 N 6 z δ h (nI c) (nI b) (nI (aK S b)) (aSc S c b) (wbV S c b 2) (wbV S c b 3) (wbV S c b 4) (wbV S c b 6) x11) (Qk δ) := by
  obtain ⟨g0, g1, g2, g3, -⟩ := id hF
  have hk3 := aK_lt S b
  unfold f_L_accesses_b477
  refine ok_bindE (a := aN U (14 + aK S b)) (by rw [show (14 : Int32) + nI (aK S b) = nI (14 + aK S b) from nI_add 14 _]; exact q_n hC (by omega)) (ok_gd 0 rfl (by decide) (by decide) ?_)
  rw [hh.1]
  refine ok_t g0 (ok_bindE (q_n hC (j := 5) (by decide)) (ok_gd 5 rfl (by decide) (by decide) ?_))
  rw [hh.2.2.2.2.2]
  refine ok_t g1 (ok_bindE (q_n hC (j := 22) (by decide)) (ok_gd 4 rfl (by decide) (by decide) ?_))
  rw [hh.2.2.2.2.1]
  refine ok_t g2 (ok_bindE (q_n hC (j := 19) (by decide)) (ok_gd 1 rfl (by decide) (by decide) ?_))
  rw [hh.2.1]
  rcases g3 with ⟨a1, a2⟩ | ⟨y, y1, y2, y3, y4⟩
  · exact ok_f (by rw [a1]; decide) (p_557 hN hh hF hI hC hk hk4 hc hb hx (by rw [a2, Int32.add_zero]))
  · exact ok_t (by rw [y2]; exact nI_pos' (by omega)) (p_557 hN hh hF hI hC hk hk4 hc hb hx y3)
/-- all that stands behind an access: the law's state goes on -/
def Nx (z : ZS) (n v d bb : Nat) (w : Nat → Int32) (k t d9 : Nat) (δ : LwS) : Prop := ∃ U n' v' d' w', d' ≤ d9 ∧ Hd δ U n' v' d' bb w' ∧ SI U w' k t
theorem Hd.draw (hd : Hd δ S n v d bb w) : Hd (oI δ.1 2 (nI (d + 1)), δ.2) S n v (d + 1) bb w := ⟨hd.1, hd.2.1, hd.2.2.1, rfl, hd.2.2.2.2.1, hd.2.2.2.2.2⟩
theorem sub_add (x y : Int32) : x + (y - x) = y := by rw [Int32.sub_eq_add_neg, Int32.add_comm y, ← Int32.add_assoc, Int32.add_right_neg, Int32.zero_add]
theorem add_sub (x y : Int32) : (x + y) - x = y := by rw [Int32.add_comm, Int32.add_sub_cancel]
theorem p_341 {y0 x11 : Int32} (hN : 1000 ≤ N) (hz : z.2.1 ≤ 260) (hd : Hd δ S n v d bb w) (hS : SI S w k t) (ht : t < 2 ^ 20) (hd2 : d < 2 ^ 20) (hc : c < k) (hb : b < 200) (hx : aFull S → x11 ≠ 0) (hh : H6 h S b) : Ok (f_L_accesses_b341 N 6 z δ h (nI c) (nI b) (nI (aK S b)) (aSc S c b) (wbV S c b 2) (wbV S c b 3) (wbV S c b 4) (wbV S c b 5) (wbV S c b 6) x11 y0) (fun r => r.1 = 1 ∧ Nx z n v d bb w k (t + 1) (d + 1) r.2.1) := by
  obtain ⟨hI, h6, k1, k4, hJ, h5, hsum⟩ := id hS
  have hn4 : nI c < aN S 6 := by rw [h6]; exact nI_lt hc (by omega)
  unfold f_L_accesses_b341
  refine ok_bind (q_draw hz hd.2.2.2.1 (by omega) (n := 1000) (by decide) (by decide)) (fun r1 hr1 => ?_)
  obtain ⟨⟨vv, hv, ev⟩, e2⟩ := hr1
  obtain ⟨a1, δ1⟩ := r1
  simp only at ev e2
  subst ev e2
  have hd1 := hd.draw
  have t0 : wbV S c b 5 = aN (aAcc S c b 0) 21 - aN S 21 := rfl
  refine ok_if (fun _ => ?_) (fun _ => ?_)
  · -- a read
    refine ok_bind (q_read hN hd1.1 hI h6 k4 hc hb hd1.2.1) (fun r4 hr4 => ?_)
    obtain ⟨f1, f2, f3⟩ := hr4
    have hS1 := SI_acc (v := 0) hS hc hb
    have hU := UF_acc (c := c) (v := 0) hS hb
    refine ok_letg (fun δ2 e => ?_)
    have hd2 : Hd δ2 (aAcc S c b 0) (if n < 8 then n + 1 else 8) ((v + 1) % 8) (d + 1) bb w := by
      rw [e]; exact ⟨f2, f3, hd1.2.2.1, hd1.2.2.2.1, hd1.2.2.2.2.1, hd1.2.2.2.2.2⟩
    have hwv : δ2.1.1 3 (Int32.toNatClampNeg (nI b)) = w b := by rw [hd2.2.2.1, nI_clamp (by omega)]
    refine ok_gd b rfl hb (by decide) (ok_t ?_ (ok_bindE (q_n hd2.1 (j := 21) (by decide)) (ok_gd 3 rfl (by decide) (by decide) ?_)))
    · rw [f1, hwv]
      exact (hS1.2.2.2.2.1 b hb).1 (acc_w0 hI hb)
    · rw [hh.2.2.2.1]
      refine ok_t (by rw [t0, sub_add]) (ok_mono (p_477 hN hh hU hS1.1 hd2.1 (aN6_acc.trans h6) k4 hc hb hx) (fun r hr => ⟨hr.1, ?_⟩))
      rw [hr.2]
      exact ⟨_, _, _, _, _, Nat.le_refl _, hd2, hS1⟩
  · -- a write
    refine ok_bind (q_write hN hd1.1 hI h6 k4 hc hb hv hd1.2.1) (fun r13 hr => ?_)
    obtain ⟨f1, f2, f3, -⟩ := hr
    have hS1 := SI_acc (v := 1) hS hc hb
    have hw0 := acc_w0 (S := S) (c := c) (b := b) (w := 1) hI hb
    have hS2 := SI_fin (b := b) (x := nI vv) hS1 hw0 (by omega)
    have hU := UF_fin (x := nI vv) (UF_acc (c := c) (v := 1) hS hb)
    obtain ⟨-, ⟨dd, dd1, dd2⟩, nl, nl1, nl2, nl3⟩ := fin_facts (v := nI vv) hS1.2.2.2.2.1 hS1.1 hw0 hS1.2.2.2.2.2.1 (by omega)
    obtain ⟨ee, ee1, ee2⟩ := acc_21 (c := c) (v := 1) hI hb
    have e5 : wbV S c b 5 = nI ee := by
      rw [t0, show aN (aAcc S c b 0) 21 = aN (aAcc S c b 1) 21 by rw [acc_N, acc_N], ee2, add_sub]
    have e13 : r13.1 = nI (ee + dd) := by
      rw [f1, dd2, ee2, Int32.add_assoc, add_sub, nI_add]
    refine ok_letg (fun δ2 e => ?_)
    have hd2 : Hd δ2 (aFin (aAcc S c b 1) b (nI vv)) (if n < 8 then n + 1 else 8) ((v + 1) % 8) (d + 1) bb w := by
      rw [e]; exact ⟨f2, f3, hd1.2.2.1, hd1.2.2.2.1, hd1.2.2.2.2.1, hd1.2.2.2.2.2⟩
    refine ok_bindE (q_d hN hd2.1) (ok_gd b rfl hb (by decide) (ok_letg (fun δ3 e3 => ?_)))
    have hd3 : Hd δ3 (aFin (aAcc S c b 1) b (nI vv)) (if n < 8 then n + 1 else 8) ((v + 1) % 8) (d + 1) bb (upd w b (nI vv)) := by
      rw [e3]
      refine ⟨hd2.1, hd2.2.1, ?_, hd2.2.2.2.1, hd2.2.2.2.2.1, hd2.2.2.2.2.2⟩
      show va_up δ2.1.1 3 (upd (δ2.1.1 3) (Int32.toNatClampNeg (nI b)) (nI vv)) 3 = _
      rw [va_up_self, hd2.2.2.1, nI_clamp (by omega)]
    have g477 := p_477 (z := z) hN hh hU hS2.1 hd3.1 hS2.2.1 k4 hc hb hx
    have hfin : Ok (f_L_accesses_b414 N 6 z δ3 h (nI c) (nI b) (nI (aK S b)) (aSc S c b) (wbV S c b 2) (wbV S c b 3) (wbV S c b 4) (wbV S c b 6) x11 r13.1) (fun r => r.1 = 1 ∧ Nx z n v d bb w k (t + 1) (d + 1) r.2.1) := by
      unfold f_L_accesses_b414
      refine ok_bindE (q_n hd3.1 (j := 21) (by decide)) (ok_gd 3 rfl (by decide) (by decide) ?_)
      rw [hh.2.2.2.1]
      refine ok_t (by rw [f1, sub_add]) (ok_mono g477 (fun r hr => ⟨hr.1, ?_⟩))
      rw [hr.2]
      exact ⟨_, _, _, _, _, Nat.le_refl _, hd3, hS2⟩
    refine ok_f ?_ (ok_bindE (q_n hd3.1 (j := 1) (by decide)) (ok_t ?_ hfin))
    · rw [e13, e5]
      exact nI_nlt (by omega) (by omega)
    · rw [aN_fin (by decide) (by decide), nl1]
      exact nI_le nl3 (by omega)
theorem Hd.trial {δ' : LwS} {tr : CacS} (hd : Hd δ S n v d bb w) (e : δ' = (δ.1, ((δ.2.1, δ.2.2.1, δ.2.2.2.1, tr, δ.2.2.2.2.2) : GLS))) : Hd δ' S n v d bb w := by
  subst e
  exact hd
theorem p_220 {x11 : Int32} (hN : 1000 ≤ N) (hz : z.2.1 ≤ 260) (hd : Hd δ S n v d bb w) (hS : SI S w k t) (ht : t < 2 ^ 20) (hd2 : d + 1 < 2 ^ 20) (hc : c < k) (hb : b < 200) (hx : aFull S → x11 ≠ 0) : Ok (f_L_accesses_b220 N 6 z δ h (nI c) (nI b) (nI (aK S b)) (aSc S c b) (wbV S c b 2) (wbV S c b 3) (wbV S c b 4) (wbV S c b 5) (wbV S c b 6) x11) (fun r => r.1 = 1 ∧ Nx z n v d bb w k (t + 1) (d + 2) r.2.1) := by
  obtain ⟨hI, h6, k1, k4, hJ, h5, hsum⟩ := id hS
  have hk3 := aK_lt S b
  unfold f_L_accesses_b220
  refine ok_bindE (a := aN S (14 + aK S b)) (by rw [show (14 : Int32) + nI (aK S b) = nI (14 + aK S b) from nI_add 14 _]; exact q_n hd.1 (by omega)) (ok_gd 0 rfl (by decide) (by decide) (ok_letg (fun h1 e1 => ?_)))
  refine ok_bindE (q_n hd.1 (j := 19) (by decide)) (ok_gd 1 rfl (by decide) (by decide) (ok_letg (fun h2 e2 => ?_)))
  refine ok_bindE (q_n hd.1 (j := 20) (by decide)) (ok_gd 2 rfl (by decide) (by decide) (ok_letg (fun h3 e3 => ?_)))
  refine ok_bindE (q_n hd.1 (j := 21) (by decide)) (ok_gd 3 rfl (by decide) (by decide) (ok_letg (fun h4 e4 => ?_)))
  refine ok_bindE (q_n hd.1 (j := 22) (by decide)) (ok_gd 4 rfl (by decide) (by decide) (ok_letg (fun h5 e5 => ?_)))
  refine ok_bindE (q_n hd.1 (j := 5) (by decide)) (ok_gd 5 rfl (by decide) (by decide) (ok_letg (fun h6' e6 => ?_)))
  have hh : H6 h6' S b := by
    rw [e6, e5, e4, e3, e2, e1]
    exact ⟨rfl, rfl, rfl, rfl, rfl, rfl⟩
  clear e1 e2 e3 e4 e5 e6
  obtain ⟨tr, q0⟩ := q_would hN hd.1 hI h6 k4 hc hb (j := 0) (by decide)
  refine ok_bindE q0 (ok_letg (fun δ1 e => ?_))
  have hd1 := hd.trial e
  refine ok_t rfl ?_
  obtain ⟨tr1, q1⟩ := q_would hN hd1.1 hI h6 k4 hc hb (j := 1) (by decide)
  refine ok_bindE q1 (ok_letg (fun δ2 e2 => ?_))
  have hd2' := hd1.trial e2
  refine ok_t (show aN (aAcc S c b 0) 22 - aN S 22 = aSc S c b by rw [acc_22, add_sub]) ?_
  refine ok_bind (q_draw hz hd2'.2.2.2.1 (by omega) (n := 2) (by decide) (by decide)) (fun r33 hr => ?_)
  obtain ⟨a1, δ3⟩ := r33
  obtain ⟨-, e3⟩ := hr
  simp only at e3
  subst e3
  have key (y0 : Int32) : Ok (f_L_accesses_b341 N 6 z (oI δ2.1 2 (nI (d + 1)), δ2.2) h6' (nI c) (nI b) (nI (aK S b)) (aSc S c b) (wbV S c b 2) (wbV S c b 3) (wbV S c b 4) (wbV S c b 5) (wbV S c b 6) x11 y0) (fun r => r.1 = 1 ∧ Nx z n v d bb w k (t + 1) (d + 2) r.2.1) := p_341 hN hz hd2'.draw hS ht hd2 hc hb hx hh
  exact ok_if (fun _ => key 1) (fun _ => key 0)
end AA
