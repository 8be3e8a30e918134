/-! acts: how many hits, what an act begins and ends with -/
theorem aN_acc {S : AS} {c b j : Nat} {w : Int32} (hj : j = 14 ∨ j = 15) : aN (aAcc S c b w) j = if j = 14 + aK S b then aN S j + 1 else aN S j := by
  show aN (aMd (aS2 S c b w) b (aSc S c b)) j = _
  rw [aN_md (by omega) (by omega) (by omega) (by omega) (by omega) (by omega) (by omega)]
  show aN (uN (aT0 (aCc (aRL S c b) c w (aK S b)) (aSc S c b)) (14 + aK S b) (aN (aCc (aRL S c b) c w (aK S b)) (14 + aK S b) + 1)) j = _
  rw [aN_uN]
  have e : ∀ i, i ≠ 5 → i ≠ 22 → aN (aT0 (aCc (aRL S c b) c w (aK S b)) (aSc S c b)) i = aN S i := fun i h5 h22 => by
    unfold aT0
    split
    · rw [aN_ne h5]; rfl
    · rw [aN_ne h22, aN_ne h5]; rfl
  by_cases h : j = 14 + aK S b
  · rw [if_pos h, if_pos h, h]; rfl
  · rw [if_neg h, if_neg h]
    exact e j (by omega) (by omega)
theorem cnt_acc {S : AS} {K c b : Nat} {w : Int32} (h : cntOk S K) : cntOk (aAcc S c b w) (K + 1) := by
  obtain ⟨u, v, h1, h2, h3⟩ := h
  unfold cntOk
  rw [aN_acc (Or.inl rfl), aN_acc (Or.inr rfl), h1, h2]
  have hk := aK_lt S b
  by_cases c0 : aK S b = 0
  · rw [c0]; exact ⟨u + 1, v, by rw [if_pos rfl, nI_1], by rw [if_neg (by decide)], by omega⟩
  · by_cases c1 : aK S b = 1
    · rw [c1]; exact ⟨u, v + 1, by rw [if_neg (by decide)], by rw [if_pos rfl, nI_1], by omega⟩
    · rw [if_neg (by omega), if_neg (by omega)]
      exact ⟨u, v, rfl, rfl, by omega⟩
theorem cnt_eq {S T : AS} {K : Nat} (h : cntOk S K) (e : ∀ j, j = 14 ∨ j = 15 → aN T j = aN S j) : cntOk T K := by
  obtain ⟨u, v, h1, h2, h3⟩ := h
  exact ⟨u, v, (e 14 (Or.inl rfl)).trans h1, (e 15 (Or.inr rfl)).trans h2, h3⟩
theorem aN_fin {S : AS} {b j : Nat} {v : Int32} (h13 : j ≠ 13) (h21 : j ≠ 21) : aN (aFin S b v) j = aN S j := by
  have e : aN (aVal S b v) j = aN S j := by unfold aVal; split <;> rfl
  unfold aFin
  split
  · exact e
  · exact ((sB_WB (most := aOv (aVal S b v)) 200 0 (aVal S b v)).1 j h13 h21).trans e
theorem top_close {K L : Nat} {γ γ' : GLS} {μ ν : MdlS} {κ : Nat → CacS} {ix : Nat → Option Nat} {nb : Nat} (hR : RestOk K γ μ κ ix nb) (hL : K ≤ L) (hη : HisOk K γ'.2.2.2.2 (ν.1.1 2) (ν.1.2 5)) (e1 : γ'.1 = γ.1) (e2 : γ'.2.1 = γ.2.1) (h1 : ∀ k, k ≠ 2 → ν.1.1 k = ((oI μ.1 6 0, μ.2) : MdlS).1.1 k) (h2 : ∀ k, k ≠ 5 → ν.1.2 k = ((oI μ.1 6 0, μ.2) : MdlS).1.2 k) {T : AS} {a : Nat → Int32} {d e : Int32} (hT : Snap L γ'.2.2.1 a T) : TopK L γ' (mM ν a d e) κ ix nb := by
  refine ⟨⟨T, hT⟩, (RestOk.tr (γ' := γ') (ν := mM ν a d e) hR hη e1 e2 (fun k k0 k1 k2 => ?_) (fun k k5 k6 k19 k20 => ?_)).mono hL⟩
  · exact (va_up_ne ν.1.1 _ k0).trans (h1 k k2)
  · exact (va_up_ne (va_up ν.1.2 19 d) _ k20).trans ((va_up_ne ν.1.2 _ k19).trans ((h2 k k5).trans (va_up_ne μ.1.2 _ k6)))
theorem mok_n {x : Option MdlS} {μ : MdlS} {d e : Int32} {P : (Nat → Int32) → Prop} (h : MOk x μ d e P) : ∃ a, x = some (mM μ a d e) ∧ P a := by
  obtain ⟨t, e1, a, e2, ha⟩ := h
  exact ⟨a, by rw [e1, e2], ha⟩
theorem mok_e {f : MdlS → Option MdlS} {μ : MdlS} {d e : Int32} {P : (Nat → Int32) → Prop} (h : MOk (f (mM μ (μ.1.1 0) (μ.1.2 19) (μ.1.2 20))) μ d e P) : ∃ a, f μ = some (mM μ a d e) ∧ P a := by
  rw [mM_eta] at h
  exact mok_n h
theorem s_read {N K L : Nat} (hN : 20000 ≤ N) (hL : K + 1 ≤ L) : Sim_read N (TopK K) (TopK L) := by
  intro γ μ κ ix nb p0 p1 h
  obtain ⟨⟨S, hS⟩, hR⟩ := id h
  obtain ⟨hI, hC, hM, hK⟩ := id hS
  have hT := h.mono (show K ≤ L by omega)
  obtain ⟨k, k1, k2, k3⟩ := id hI.1.2.2.2.1
  have e6 : μ.1.1 0 6 = nI k := (hM.1 6 (by omega)).trans k1
  rcases r_client (γ := γ) (hC.1.1.trans k1) k2 p0 with ⟨c, hc, rfl, e1, e2⟩ | ⟨e1, e2⟩
  · have e2 := e2 (oI μ.1 6 0, μ.2) e6
    have hc4 : c < 4 := by omega
    have hn : nI c < aN S 6 := by rw [k1]; exact nI_lt hc (by omega)
    rcases r_block p1 with ⟨b, hb, rfl, e3, e4⟩ | ⟨e3, e4⟩
    · obtain ⟨η, ν, g1, g2, g3, g4, g5, g6⟩ := top_begin (μ := (oI μ.1 6 0, μ.2)) hN hS hR.1
      have hM2 : RepM (ν.1.1 0) S (UA S) := by rw [g4 0 (by decide)]; exact hM
      obtain ⟨t, c1, c2, c3, -⟩ := c_access (N := N) (w := 0) (by omega) hC hI hb hc4 hn
      obtain ⟨a, m1, m2⟩ := mok_e (f := fun μ => f_X9_access N μ (nI c) (nI b) (-1)) (m_read (μ := ν) (by omega) hM2 hI hb hc4 hn)
      have hw := acc_w0 (c := c) (w := 0) hI hb
      have hi := Inv_acc (w := 0) hI hb hc4 hn
      refine sa_r (T := fun g m => TopK L g m κ ix nb) (γ := γ) (γ1 := (γ.1, γ.2.1, t.2, γ.2.2.2.1, η)) (e_x e1 (e_x e3 (e_b g1 (e_l (e_b c1 (e_l (e_b (p0_valueOf c3.2.1 hb) rfl))))))) (e_l (e_b e2 (e_f (by decide) (e_b e4 (e_f (by decide) (e_b g2 (e_b m1 (e_b (m_of m2 b 1 hb (by decide) (Or.inr (Or.inr hw))) rfl)))))))) ?_ ?_
      · exact g5 6 (by decide)
      · exact top_close (γ' := (γ.1, γ.2.1, t.2, γ.2.2.2.1, η)) hR (by omega) g3 rfl rfl g4 g5 ⟨hi, c3, m2, (cnt_acc hK).mono hL⟩
    · exact sa_l (T := fun g m => TopK L g m κ ix nb) (γ := γ) (k := 1) (b := 0) (μ1 := (oI (oI μ.1 6 0) 6 2, μ.2)) (e_x e1 (e_xl e3)) (Or.inr rfl) (e_l (e_b e2 (e_f (by decide) (e_b e4 (e_t rfl rfl))))) rfl ((hT.t6 0).t6 2)
  · exact sa_l (T := fun g m => TopK L g m κ ix nb) (γ := γ) (k := 0) (b := 0) (μ1 := (oI (oI μ.1 6 0) 6 1, μ.2)) (e_xl e1) (Or.inl rfl) (e_l (e_b (e2 (oI μ.1 6 0, μ.2) e6) (e_t rfl rfl))) rfl ((hT.t6 0).t6 1)
theorem s_write {N K L : Nat} (hN : 20000 ≤ N) (hL : K + 1 ≤ L) : Sim_write N (TopK K) (TopK L) := by
  intro γ μ κ ix nb p0 p1 p2 h
  obtain ⟨⟨S, hS⟩, hR⟩ := id h
  obtain ⟨hI, hC, hM, hK⟩ := id hS
  have hT := h.mono (show K ≤ L by omega)
  obtain ⟨k, k1, k2, k3⟩ := id hI.1.2.2.2.1
  have e6 : μ.1.1 0 6 = nI k := (hM.1 6 (by omega)).trans k1
  rcases r_client (γ := γ) (hC.1.1.trans k1) k2 p0 with ⟨c, hc, rfl, e1, e2⟩ | ⟨e1, e2⟩
  · have e2 := e2 (oI μ.1 6 0, μ.2) e6
    have hc4 : c < 4 := by omega
    have hn : nI c < aN S 6 := by rw [k1]; exact nI_lt hc (by omega)
    rcases r_block p1 with ⟨b, hb, rfl, e3, e4⟩ | ⟨e3, e4⟩
    · rcases r_rangeN p2 999 (n := 999) rfl with ⟨v, hv, rfl, e5, e6'⟩ | ⟨e5, e6'⟩
      · obtain ⟨η, ν, g1, g2, g3, g4, g5, g6⟩ := top_begin (μ := (oI μ.1 6 0, μ.2)) hN hS hR.1
        have hM2 : RepM (ν.1.1 0) S (UA S) := by rw [g4 0 (by decide)]; exact hM
        obtain ⟨t, c1, c2, c3, -⟩ := c_access (N := N) (w := 1) (by omega) hC hI hb hc4 hn
        have hw := acc_w0 (c := c) (w := 1) hI hb
        have hi := Inv_acc (w := 1) hI hb hc4 hn
        obtain ⟨t2, f1, f2, -⟩ := c_finish (N := N) (v := nI v) (by omega) c3 hi hb hw
        obtain ⟨a, m1, m2⟩ := mok_e (f := fun μ => f_X9_access N μ (nI c) (nI b) (nI v)) (m_write (μ := ν) (by omega) hM2 hI hb hc4 hn (show v < 1000 by omega))
        generalize aDm (aM4 S c b) b (aSc S c b) (ν.1.2 19) = d9 at m1
        generalize aLe (aM4 S c b) b (aSc S c b) (ν.1.2 20) = e9 at m1
        have q1 : (t2 1).2 7 = aN (aFin (aAcc S c b 1) b (nI v)) 21 := f2.2.1.2.1
        have q2 : (γ.2.2.1 1).2 7 = aN S 21 := hC.2.1.2.1
        have q3 : a 21 = aN (aFin (aAcc S c b 1) b (nI v)) 21 := m2.1 21 (by omega)
        have q4 : ν.1.1 0 21 = aN S 21 := hM2.1 21 (by omega)
        refine sa_r (T := fun g m => TopK L g m κ ix nb) (γ := γ) (v := aN (aFin (aAcc S c b 1) b (nI v)) 21 - aN S 21) (γ1 := (γ.1, γ.2.1, t2, γ.2.2.2.1, η)) (μ1 := mM ν a d9 e9) (e_x e1 (e_x e3 (e_x e5 (e_b g1 (e_l (e_b c1 (e_l (e_b f1 (e_l ?_))))))))) (e_l (e_b e2 (e_f (by decide) (e_b e4 (e_f (by decide) (e_b e6' (e_f (by decide) (e_b g2 (e_g 21 rfl (by decide) (by decide) (e_b m1 (e_g 21 rfl (by decide) (by decide) ?_))))))))))) ?_ ?_
        · show some (Sum.inr ((t2 1).2 7 - (γ.2.2.1 1).2 7, (γ.1, γ.2.1, t2, γ.2.2.2.1, η))) = _
          rw [q1, q2]
        · show some (a 21 - ν.1.1 0 21, _) = _
          rw [q3, q4]
        · exact g5 6 (by decide)
        · exact top_close (γ' := (γ.1, γ.2.1, t2, γ.2.2.2.1, η)) hR (by omega) g3 rfl rfl g4 g5 ⟨Inv_fin hi hw, f2, m2, (cnt_eq (cnt_acc hK) (fun j hj => aN_fin (by omega) (by omega))).mono hL⟩
      · exact sa_l (T := fun g m => TopK L g m κ ix nb) (γ := γ) (k := 1) (b := 0) (μ1 := (oI (oI μ.1 6 0) 6 2, μ.2)) (e_x e1 (e_x e3 (e_xl e5))) (Or.inr rfl) (e_l (e_b e2 (e_f (by decide) (e_b e4 (e_f (by decide) (e_b e6' (e_t rfl rfl))))))) rfl ((hT.t6 0).t6 2)
    · exact sa_l (T := fun g m => TopK L g m κ ix nb) (γ := γ) (k := 1) (b := 0) (μ1 := (oI (oI μ.1 6 0) 6 2, μ.2)) (e_x e1 (e_xl e3)) (Or.inr rfl) (e_l (e_b e2 (e_f (by decide) (e_b e4 (e_t rfl rfl))))) rfl ((hT.t6 0).t6 2)
  · exact sa_l (T := fun g m => TopK L g m κ ix nb) (γ := γ) (k := 0) (b := 0) (μ1 := (oI (oI μ.1 6 0) 6 1, μ.2)) (e_xl e1) (Or.inl rfl) (e_l (e_b (e2 (oI μ.1 6 0, μ.2) e6) (e_t rfl rfl))) rfl ((hT.t6 0).t6 1)
theorem s_flush {N K L : Nat} (hN : 20000 ≤ N) (hL : K ≤ L) : Sim_flush N (TopK K) (TopK L) := by
  intro γ μ κ ix nb p0 h
  obtain ⟨⟨S, hS⟩, hR⟩ := id h
  obtain ⟨hI, hC, hM, hK⟩ := id hS
  have hT := h.mono hL
  rcases r_range p0 1 40 with ⟨-, h40, e1, e2⟩ | ⟨e1, e2⟩
  · obtain ⟨η, ν, g1, g2, g3, g4, g5, g6⟩ := top_begin (μ := (oI μ.1 6 0, μ.2)) hN hS hR.1
    have hM2 : RepM (ν.1.1 0) S (UA S) := by rw [g4 0 (by decide)]; exact hM
    obtain ⟨t, c1, c2, c3⟩ := p0_writeBackSome (N := N) (most := p0) (by omega) hC.2.1 hI.1.2.2.2.2.1
    have hm := m_writeBack (N := N) (most := p0) (μ := ν) (d := ν.1.2 19) (e := ν.1.2 20) (by omega) (Int32.le_trans h40 (show (40 : Int32) ≤ nI 200 by decide)) hM2 hI.nu (hUA_UA S) hI.1.2.2.2.2.1
    rw [mM_eta] at hm
    obtain ⟨t9, m1, m2, a, m3, m4⟩ := hm
    have et : t9 = ((aWB p0 200 0 S).1, mM ν a (ν.1.2 19) (ν.1.2 20)) := Prod.ext m2 m3
    refine sa_r (T := fun g m => TopK L g m κ ix nb) (γ := γ) (v := (aWB p0 200 0 S).1) (γ1 := (γ.1, γ.2.1, va_up γ.2.2.1 1 t.2, γ.2.2.2.1, η)) (μ1 := mM ν a (ν.1.2 19) (ν.1.2 20)) (e_x e1 (e_b g1 (e_l (e_b c1 (e_l ?_))))) (e_l (e_b e2 (e_f (by decide) (e_b g2 (e_b m1 ?_))))) ?_ ?_
    · rw [c2]
    · rw [et]
    · exact g5 6 (by decide)
    · exact top_close (γ' := (γ.1, γ.2.1, va_up γ.2.2.1 1 t.2, γ.2.2.2.1, η)) hR hL g3 rfl rfl g4 g5 ⟨Inv_WB _ _ _ hI, hC.b c3 (sB_WB _ _ _), m4.weak (fun f x _ q => (UA_wu (S := S) _ _ _ f x).mp q), (cnt_eq hK (fun j hj => (sB_WB (most := p0) 200 0 S).1 j (by omega) (by omega))).mono hL⟩
  · exact sa_l (T := fun g m => TopK L g m κ ix nb) (γ := γ) (k := 1) (b := 0) (μ1 := (oI (oI μ.1 6 0) 6 1, μ.2)) (e_xl e1) rfl (e_l (e_b e2 (e_t rfl rfl))) rfl ((hT.t6 0).t6 1)
theorem s_setWeight {N K L : Nat} (hN : 20000 ≤ N) (hL : K ≤ L) : Sim_setWeight N (TopK K) (TopK L) := by
  intro γ μ κ ix nb p0 p1 h
  obtain ⟨⟨S, hS⟩, hR⟩ := id h
  obtain ⟨hI, hC, hM, hK⟩ := id hS
  have hT := h.mono hL
  obtain ⟨k, k1, k2, k3⟩ := id hI.1.2.2.2.1
  have e6 : μ.1.1 0 6 = nI k := (hM.1 6 (by omega)).trans k1
  rcases r_client (γ := γ) (hC.1.1.trans k1) k2 p0 with ⟨c, hc, rfl, e1, e2⟩ | ⟨e1, e2⟩
  · have e2 := e2 (oI μ.1 6 0, μ.2) e6
    have hc4 : c < 4 := by omega
    have hn : nI c < aN S 6 := by rw [k1]; exact nI_lt hc (by omega)
    rcases r_range p1 1 9 with ⟨h1, h9, e3, e4⟩ | ⟨e3, e4⟩
    · obtain ⟨η, ν, g1, g2, g3, g4, g5, g6⟩ := top_begin (μ := (oI μ.1 6 0, μ.2)) hN hS hR.1
      have hM2 : RepM (ν.1.1 0) S (UA S) := by rw [g4 0 (by decide)]; exact hM
      have mp := m_putC (μ := ν) (d := ν.1.2 19) (e := ν.1.2 20) (a := ν.1.1 0) c 0 hc4 (by decide) p1
      rw [mM_eta] at mp
      have hw : ∃ w, p1 = nI w ∧ 1 ≤ w ∧ w ≤ 9 := by
        obtain ⟨w, hw, rfl⟩ := nI_of2 (M := 9) (n := 9) (x := p1) rfl (fun q => h1 (Int32.lt_trans q (by decide))) h9
        refine ⟨w, rfl, ?_, hw⟩
        by_cases w0 : w = 0
        · rw [w0] at h1; exact absurd (show nI 0 < 1 by decide) h1
        · omega
      have hi : Inv (uC S c 0 p1) := by
        refine ⟨⟨hI.1.1, hI.1.2.1, hI.1.2.2.1, ⟨k, k1, k2, fun x hx => ⟨?_, ?_⟩⟩, hI.1.2.2.2.2⟩, hI.2⟩
        · rw [aC_uC]
          by_cases q : x = c ∧ 0 = 0
          · rw [if_pos q]; exact hw
          · rw [if_neg q]; exact (k3 x hx).1
        · rw [aC_uC, aC_uC, if_neg (by omega), if_neg (by omega)]; exact (k3 x hx).2
      refine sa_r (T := fun g m => TopK L g m κ ix nb) (γ := γ) (v := aC S c 0) (γ1 := (γ.1, γ.2.1, va_up γ.2.2.1 (8 + c) (oI (γ.2.2.1 (8 + c)) 0 p1), γ.2.2.2.1, η)) (e_x e1 (e_x e3 (e_b g1 (e_l (e_b (a := (aC S c 0, va_up γ.2.2.1 (8 + c) (oI (γ.2.2.1 (8 + c)) 0 p1))) (e_b (cl_at hC k1 k2 hc) (e_o (e_l ?_))) rfl))))) (e_l (e_b e2 (e_f (by decide) (e_b e4 (e_f (by decide) (e_b g2 (e_b (n_ofC (μ := ν) hM2 c 0 hc4 hn (by decide)) (e_b mp rfl)))))))) ?_ ?_
      · rw [cl_f hC k1 k2 hc (by decide)]
      · exact g5 6 (by decide)
      · exact top_close (γ' := (γ.1, γ.2.1, va_up γ.2.2.1 (8 + c) (oI (γ.2.2.1 (8 + c)) 0 p1), γ.2.2.2.1, η)) hR hL g3 rfl rfl g4 g5 ⟨hi, hC.cli p1, hM2.setC hc4 (by decide) p1, hK.mono hL⟩
    · exact sa_l (T := fun g m => TopK L g m κ ix nb) (γ := γ) (k := 1) (b := 0) (μ1 := (oI (oI μ.1 6 0) 6 2, μ.2)) (e_x e1 (e_xl e3)) (Or.inr rfl) (e_l (e_b e2 (e_f (by decide) (e_b e4 (e_t rfl rfl))))) rfl ((hT.t6 0).t6 2)
  · exact sa_l (T := fun g m => TopK L g m κ ix nb) (γ := γ) (k := 0) (b := 0) (μ1 := (oI (oI μ.1 6 0) 6 1, μ.2)) (e_xl e1) (Or.inl rfl) (e_l (e_b (e2 (oI μ.1 6 0, μ.2) e6) (e_t rfl rfl))) rfl ((hT.t6 0).t6 1)
theorem s_set {N K L : Nat} (hN : 20000 ≤ N) (hL : K ≤ L) : Sim_set N (TopK K) (TopK L) := by
  intro γ μ κ ix nb p0 p1 h
  obtain ⟨⟨S, hS⟩, hR⟩ := id h
  obtain ⟨hI, hC, hM, hK⟩ := id hS
  have hT := h.mono hL
  have bad : ∀ {x8 : Option (Nat ⊕ (Int32 × GLS))} {x9 : Option (Int32 × MdlS)}, x8 = some (.inl 1) → x9 = f_X9_set_b39 N (oI μ.1 6 0, μ.2) p0 p1 0 → ∃ (res : Nat ⊕ (Int32 × GLS)) (b : Int32) (μ1 : MdlS), x8 = some res ∧ (∀ k, res = .inl k → k = 1) ∧ x9 = some (b, μ1) ∧ f_X9_thrown μ1 = some (wCode 1 res) ∧ (∀ k, res = .inl k → TopK L γ μ1 κ ix nb) ∧ ∀ r, res = .inr r → b = r.1 ∧ TopK L r.2 μ1 κ ix nb := fun {x8 x9} a b => sa_l (T := fun g m => TopK L g m κ ix nb) (γ := γ) (k := 1) (b := 0) (μ1 := (oI (oI μ.1 6 0) 6 1, μ.2)) a rfl (b.trans (e_t rfl rfl)) rfl ((hT.t6 0).t6 1)
  have good : ∀ {x8 : Option (Nat ⊕ (Int32 × GLS))} {x9 : Option (Int32 × MdlS)} (q : Nat), q < 2 → p0 = nI q → x8 = f_X8_set_b27 N γ p0 p1 → x9 = f_X9_set_b39 N (oI μ.1 6 0, μ.2) p0 p1 1 → Inv (uN S q p1) → ∃ (res : Nat ⊕ (Int32 × GLS)) (b : Int32) (μ1 : MdlS), x8 = some res ∧ (∀ k, res = .inl k → k = 1) ∧ x9 = some (b, μ1) ∧ f_X9_thrown μ1 = some (wCode 1 res) ∧ (∀ k, res = .inl k → TopK L γ μ1 κ ix nb) ∧ ∀ r, res = .inr r → b = r.1 ∧ TopK L r.2 μ1 κ ix nb := by
    intro x8 x9 q hq e0 a b hi
    obtain ⟨η, ν, g1, g2, g3, g4, g5, g6⟩ := top_begin (μ := (oI μ.1 6 0, μ.2)) hN hS hR.1
    have hM2 : RepM (ν.1.1 0) S (UA S) := by rw [g4 0 (by decide)]; exact hM
    have hcs : ∃ σ', f_X1_changeSetting γ.2.2.1 p0 p1 = some (aN S q, σ') ∧ RepC σ' (uN S q p1) E0 := by
      rcases (show q = 0 ∨ q = 1 by omega) with rfl | rfl
      · rw [e0]
        exact ⟨_, (show f_X1_changeSetting γ.2.2.1 (nI 0) p1 = some ((γ.2.2.1 0).2 10, va_up γ.2.2.1 0 (oI (γ.2.2.1 0) 10 p1)) from rfl).trans (by rw [hC.1.2.1]), hC.o10 p1⟩
      · rw [e0]
        exact ⟨_, (show f_X1_changeSetting γ.2.2.1 (nI 1) p1 = some ((γ.2.2.1 0).2 11, va_up γ.2.2.1 0 (oI (γ.2.2.1 0) 11 p1)) from rfl).trans (by rw [hC.1.2.2.1]), hC.o11 p1⟩
    obtain ⟨σ', s1, s2⟩ := hcs
    have hset := mM_set ν (ν.1.1 0) (ν.1.2 19) (ν.1.2 20) q p1
    rw [mM_eta] at hset
    refine sa_r (T := fun g m => TopK L g m κ ix nb) (γ := γ) (v := aN S q) (γ1 := (γ.1, γ.2.1, σ', γ.2.2.2.1, η)) (μ1 := mM ν (upd (ν.1.1 0) q p1) (ν.1.2 19) (ν.1.2 20)) (a.trans (e_b g1 (e_l (e_b s1 rfl)))) (b.trans (e_f (by decide) (e_b g2 (e_g q e0 (by omega) (by decide) (e_g q e0 (by omega) (by decide) (e_l ?_)))))) ?_ ?_
    · rw [e0, nI_clamp (by omega)]
      show some (ν.1.1 0 q, ((oA ν.1 0 q p1, ν.2) : MdlS)) = _
      rw [hset, hM2.1 q (by omega)]
    · exact g5 6 (by decide)
    · exact top_close (γ' := (γ.1, γ.2.1, σ', γ.2.2.2.1, η)) hR hL g3 rfl rfl g4 g5 ⟨hi, s2, hM2.setN (by omega) p1, (cnt_eq hK (fun j hj => aN_ne (by omega))).mono hL⟩
  rcases r_rangeN p0 1 (n := 1) rfl with ⟨q, hq, rfl, e1, -⟩ | ⟨e1, e2⟩
  · rcases (show q = 0 ∨ q = 1 by omega) with rfl | rfl
    · rcases r_range p1 2 20 with ⟨h1, h2, e3, e4⟩ | ⟨e3, e4⟩
      · refine good 0 (by decide) rfl (e_x e1 (e_t rfl (e_x e3 rfl))) (e_l (e_t rfl (e_b e4 (e_f (by decide) rfl)))) ?_
        obtain ⟨w, hw, rfl⟩ := nI_of2 (M := 20) (n := 20) (x := p1) rfl (fun q => h1 (Int32.lt_trans q (by decide))) h2
        have w2 : 2 ≤ w := by
          by_cases c : w < 2
          · exact absurd (show nI w < 2 from nI_lt (b := 2) c (by decide)) h1
          · omega
        exact ⟨⟨hI.1.1, hI.1.2.1, hI.1.2.2.1, hI.1.2.2.2.1, hI.1.2.2.2.2.1, ⟨⟨w, rfl, w2, hw⟩, hI.1.2.2.2.2.2.2⟩⟩, hI.2⟩
      · exact bad (e_x e1 (e_t rfl (e_xl e3))) (e_l (e_t rfl (e_b e4 (e_t rfl (e_f (by decide) rfl)))))
    · rcases r_range p1 0 40 with ⟨h1, h2, e3, e4⟩ | ⟨e3, e4⟩
      · refine good 1 (by decide) rfl (e_x e1 (e_f (by decide) (e_x e3 rfl))) (e_l (e_f (by decide) (e_t rfl (e_b e4 (e_f (by decide) rfl))))) ?_
        obtain ⟨w, hw, rfl⟩ := nI_of2 (M := 40) (n := 40) (x := p1) rfl h1 h2
        exact ⟨⟨hI.1.1, hI.1.2.1, hI.1.2.2.1, hI.1.2.2.2.1, hI.1.2.2.2.2.1, ⟨hI.1.2.2.2.2.2.1, ⟨w, rfl, hw⟩⟩⟩, hI.2⟩
      · exact bad (e_x e1 (e_f (by decide) (e_xl e3))) (e_l (e_f (by decide) (e_t rfl (e_b e4 (e_t rfl rfl)))))
  · have n0 : p0 ≠ 0 := fun q => by rw [q] at e2; exact absurd e2 (by decide)
    have n1 : p0 ≠ 1 := fun q => by rw [q] at e2; exact absurd e2 (by decide)
    exact bad (e_xl e1) (e_l (e_f n0 (e_f n1 rfl)))
