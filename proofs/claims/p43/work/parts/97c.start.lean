/-! THE START: a new law, a new object of the class; holds() as a whole -/
set_option maxRecDepth 100000 in
theorem gl_new2 {G : va_G} {cA : Nat → ClassId} {a : Nat} {H : Heap} (key : ∀ (j : Nat) (x : va_E), (lsX8 cA a)[j]? = some x → va_at G vwCl (a + j, x) H) : ∀ i, i < 262 → va_at G vwCl (adGL a i, ceGL (fun _ => none) cA (adGL a) iGL i) H := by
  intro i hi
  have e : lsX8 cA a = .inr (8, [.ref (a + 1), .ref (a + 7), .ref (a + 9), .ref (a + 34), .ref (a + 59), .ref (a + 261)]) :: (lsX7 cA (a + 1) ++ lsX4 cA (a + 7) ++ lsX1 cA (a + 9) ++ lsX1 cA (a + 34) ++ lsX3 cA (a + 59) ++ [.inl (cA 4, (2, .inr (.inr (.inr (.inr fun _ => none)))))]) := rfl
  have l7 : (lsX7 cA (a + 1)).length = 6 := rfl
  have l4 : (lsX4 cA (a + 7)).length = 2 := rfl
  have l1 : (lsX1 cA (a + 9)).length = 25 := rfl
  have l2 : (lsX1 cA (a + 34)).length = 25 := rfl
  have l3 : (lsX3 cA (a + 59)).length = 202 := lsX3_len cA _
  have m1 := List.length_append (as := lsX7 cA (a + 1)) (bs := lsX4 cA (a + 7))
  have m2 := List.length_append (as := lsX7 cA (a + 1) ++ lsX4 cA (a + 7)) (bs := lsX1 cA (a + 9))
  have m3 := List.length_append (as := lsX7 cA (a + 1) ++ lsX4 cA (a + 7) ++ lsX1 cA (a + 9)) (bs := lsX1 cA (a + 34))
  have m4 := List.length_append (as := lsX7 cA (a + 1) ++ lsX4 cA (a + 7) ++ lsX1 cA (a + 9) ++ lsX1 cA (a + 34)) (bs := lsX3 cA (a + 59))
  unfold ceGL
  by_cases h0 : i = 0
  · subst h0
    exact key 0 _ rfl
  · rw [if_neg h0]
    by_cases h1 : i = 1
    · subst h1
      rw [if_pos rfl]
      refine key 261 _ ?_
      rw [e, List.getElem?_cons_succ, List.getElem?_append_right (by omega), show 260 - (lsX7 cA (a + 1) ++ lsX4 cA (a + 7) ++ lsX1 cA (a + 9) ++ lsX1 cA (a + 34) ++ lsX3 cA (a + 59)).length = 0 by omega]
      rfl
    · rw [if_neg h1, adGL_at a i (by omega)]
      refine key (i - 1) _ ?_
      obtain ⟨j, rfl⟩ : ∃ j, i = j + 2 := ⟨i - 2, by omega⟩
      rw [e, show j + 2 - 1 = j + 1 by omega, List.getElem?_cons_succ]
      by_cases h2 : j + 2 < 8
      · rw [if_pos h2, List.getElem?_append_left (by omega), List.getElem?_append_left (by omega), List.getElem?_append_left (by omega), List.getElem?_append_left (by omega), List.getElem?_append_left (by omega), lsX7_at j (by omega), show j + 2 - 2 = j by omega]
        exact congrArg (fun q => some (ceTrace cA q iTra j)) (adGL_2 a 0).symm
      · rw [if_neg h2]
        by_cases h3 : j + 2 < 10
        · rw [if_pos h3, List.getElem?_append_left (by omega), List.getElem?_append_left (by omega), List.getElem?_append_left (by omega), List.getElem?_append_left (by omega), List.getElem?_append_right (by omega), l7, lsX4_at (j - 6) (by omega), show j + 2 - 8 = j - 6 by omega]
          exact congrArg (fun q => some (cePage cA q o0 (j - 6))) (adGL_2 a 6).symm
        · rw [if_neg h3]
          by_cases h4 : j + 2 < 35
          · rw [if_pos h4, List.getElem?_append_left (by omega), List.getElem?_append_left (by omega), List.getElem?_append_left (by omega), List.getElem?_append_right (by omega), m1, l7, l4, lsX1_at (j - (6 + 2)) (by omega), show j + 2 - 10 = j - (6 + 2) by omega]
            exact congrArg (fun q => some (ceCache cA q iCac (j - (6 + 2)))) (adGL_2 a 8).symm
          · rw [if_neg h4]
            by_cases h5 : j + 2 < 60
            · rw [if_pos h5, List.getElem?_append_left (by omega), List.getElem?_append_left (by omega), List.getElem?_append_right (by omega), m2, m1, l7, l4, l1, lsX1_at (j - (6 + 2 + 25)) (by omega), show j + 2 - 35 = j - (6 + 2 + 25) by omega]
              exact congrArg (fun q => some (ceCache cA q iCac (j - (6 + 2 + 25)))) (adGL_2 a 33).symm
            · rw [if_neg h5, List.getElem?_append_left (by omega), List.getElem?_append_right (by omega), m3, m2, m1, l7, l4, l1, l2, lsX3_at (j - (6 + 2 + 25 + 25)) (by omega), show j + 2 - 60 = j - (6 + 2 + 25 + 25) by omega]
              exact congrArg (fun q => some (ceHistory cA q iHis (j - (6 + 2 + 25 + 25)))) (adGL_2 a 58).symm
theorem arr_start {s : State} {A : Array Value} {ty : FieldType} (h : (Cond.arrayClass ty).before A s = true) : ∃ cA : ClassId, ArrOfT s cA ty ∧ s.vm.findClass ("[" ++ ty.toString) = some cA := by
  obtain ⟨cA, kA, comp, h1, h2, h3⟩ := Cond.arrayClass_spec h
  exact ⟨cA, fun n z => ⟨fun k h => (by cases h), kA, h2, comp, h3⟩, h1⟩
theorem arq_start {s : State} {C : String} (h : va_AO C s) : ∃ cA : ClassId, ArrOfT s cA (.object C) ∧ va_RA s cA (.object C) := by
  obtain ⟨comp, cA, kA, h1, h2, h3, h4, h5⟩ := Cond.arrayOver_spec h
  exact ⟨cA, fun n z => ⟨fun k h => (by cases h), kA, h3, comp, h4⟩, kA, comp, h3, h4, h1, h5⟩
set_option maxRecDepth 100000 in
theorem start_cK {s : State} {A : Array Value} (hts : ∀ w ∈ WL, w.before A s = true) (o1 : va_AO "GhostLayers$Cache" s) (o2 : va_AO "GhostLayers$Client" s) : ∃ (G : va_G) (cA : Nat → ClassId), cKn G cA s := by
  obtain ⟨c0, i0, k0⟩ := u_known (C := RX0) (T := TX0) (N := 8) (n := 8) hts inlX0 (hts _ mw_57)
  obtain ⟨c1, i1, k1⟩ := u_known (C := RX1) (T := TX1) (N := 15) (n := 15) hts inlX1 (hts _ mw_28)
  obtain ⟨c2, i2, k2⟩ := u_known (C := RX2) (T := TX2) (N := 8) (n := 8) hts inlX2 (hts _ mw_75)
  obtain ⟨c3, i3, k3⟩ := u_known (C := RX3) (T := TX3) (N := 3) (n := 3) hts inlX3 (hts _ mw_33)
  obtain ⟨c4, i4, k4⟩ := u_known (C := RX4) (T := TX4) (N := 2) (n := 2) hts inlX4 (hts _ mw_24)
  obtain ⟨c5, i5, k5⟩ := u_known (C := RX5) (T := TX5) (N := 2) (n := 2) hts inlX5 (hts _ mw_65)
  obtain ⟨c6, i6, k6⟩ := u_known (C := RX6) (T := TX6) (N := 11) (n := 11) hts inlX6 (hts _ mw_61)
  obtain ⟨c7, i7, k7⟩ := u_known (C := RX7) (T := TX7) (N := 13) (n := 13) hts inlX7 (hts _ mw_20)
  obtain ⟨c8, i8, k8⟩ := u_known (C := RX8) (T := TX8) (N := 6) (n := 6) hts inlX8 (hts _ mw_10)
  obtain ⟨c9, i9, k9⟩ := u_known (C := RL) (T := TL) (N := 5) (n := 5) hts inlL (hts _ mw_1)
  obtain ⟨a0, p0, q0⟩ := arr_start (hts _ mw_13)
  obtain ⟨a4, p4, q4⟩ := arq_start o1
  obtain ⟨a5, p5, q5⟩ := arq_start o2
  refine ⟨(fun k => match k with
    | 0 => c0
    | 1 => c1
    | 2 => c2
    | 3 => c3
    | 4 => c4
    | 5 => c5
    | 6 => c6
    | 7 => c7
    | 8 => c8
    | _ => c9, fun k => match k with
    | 0 => i0
    | 1 => i1
    | 2 => i2
    | 3 => i3
    | 4 => i4
    | 5 => i5
    | 6 => i6
    | 7 => i7
    | 8 => i8
    | _ => i9), fun k => match k with
    | 4 => a4
    | 5 => a5
    | _ => a0, ⟨fun k q hq => ?_, fun k q hq => ?_⟩, o1, o2⟩
  · have hk : k < 10 := (List.getElem?_eq_some_iff.mp hq).1
    rcases (show k = 0 ∨ k = 1 ∨ k = 2 ∨ k = 3 ∨ k = 4 ∨ k = 5 ∨ k = 6 ∨ k = 7 ∨ k = 8 ∨ k = 9 by omega) with rfl | rfl | rfl | rfl | rfl | rfl | rfl | rfl | rfl | rfl
    · cases hq; exact k0
    · cases hq; exact k1
    · cases hq; exact k2
    · cases hq; exact k3
    · cases hq; exact k4
    · cases hq; exact k5
    · cases hq; exact k6
    · cases hq; exact k7
    · cases hq; exact k8
    · cases hq; exact k9
  · have hk : k < 6 := (List.getElem?_eq_some_iff.mp hq).1
    rcases (show k = 0 ∨ k = 1 ∨ k = 2 ∨ k = 3 ∨ k = 4 ∨ k = 5 by omega) with rfl | rfl | rfl | rfl | rfl | rfl
    · cases hq; exact ⟨p0, q0⟩
    · cases hq; exact ⟨p0, q0⟩
    · cases hq; exact ⟨p0, q0⟩
    · cases hq; exact ⟨p0, q0⟩
    · cases hq; exact ⟨p4, q4⟩
    · cases hq; exact ⟨p5, q5⟩
theorem ad_inj {a i j : Nat} (hi : i < 264) (hj : j < 264) (e : adBig a (a + 263) (a + 1) none i = adBig a (a + 263) (a + 1) none j) : i = j := by
  rw [ad_L hi, ad_L hj] at e
  unfold adLw adGL at e
  repeat' split at e
  all_goals omega
theorem ad_lo {a i : Nat} (hi : i < 264) : a ≤ adBig a (a + 263) (a + 1) none i := by
  rw [ad_L hi]
  unfold adLw adGL
  repeat' split
  all_goals omega
set_option maxRecDepth 100000 in
theorem BW_start {G : va_G} {cA : Nat → ClassId} {sa a : Nat} {H0 H : Heap} (κ : CacS) (hG : gr G (.inr (9, [.ref (a + 1), .ref sa, .int 0, .ref (a + 263), .int 0]) :: (lsX8 cA (a + 1) ++ [.inl (cA 0, (200, .inl fun _ => 0))])) a H0 H) : BD (fun q => q < a) a a (a + 263) (a + 1) none ∧ BW G cA H (fun q => q < a) sa a (a + 263) (a + 1) none (((fun _ _ => 0, fun _ => 0), iGL), κ) H := by
  have l8 : (lsX8 cA (a + 1)).length = 262 := rfl
  refine ⟨⟨fun i hi => ⟨ad_lo hi, fun q => by have := ad_lo (a := a) hi; omega⟩, fun i j hi hj e => ad_inj hi hj e⟩, fun i hi => ?_, fun q hq => ⟨by rw [hG.1]; omega, rfl⟩⟩
  have hi : i < 264 := hi
  rw [ad_L hi]
  unfold ceBig
  rw [if_pos hi]
  by_cases h0 : i = 0
  · subst h0
    exact hG.2.1 0 _ rfl
  · by_cases h1 : i = 1
    · subst h1
      refine hG.2.1 263 _ ?_
      rw [List.getElem?_cons_succ, List.getElem?_append_right (by omega), l8]
      rfl
    · obtain ⟨j, rfl⟩ : ∃ j, i = j + 2 := ⟨i - 2, by omega⟩
      have key : ∀ (j : Nat) (x : va_E), (lsX8 cA (a + 1))[j]? = some x → va_at G vwCl (a + 1 + j, x) H := fun j x hx => by
        have hj : j < (lsX8 cA (a + 1)).length := (List.getElem?_eq_some_iff.mp hx).1
        have := hG.2.1 (j + 1) x (by rw [List.getElem?_cons_succ, List.getElem?_append_left hj]; exact hx)
        rw [show a + 1 + j = a + (j + 1) by omega]
        exact this
      have h2 := gl_new2 key j (by omega)
      have e1 : adLw a (a + 263) (a + 1) (j + 2) = adGL (a + 1) j := rfl
      have e2 : ceLaw sa (svB none) cA (adLw a (a + 263) (a + 1)) ((fun _ _ => 0, fun _ => 0), iGL) (j + 2) = ceGL (fun _ => none) cA (adGL (a + 1)) iGL j := by
        unfold ceLaw
        rw [if_neg (by omega), if_neg (by omega), show j + 2 - 2 = j by omega]
        have e3 : svB none = fun _ => none := funext fun t => by unfold svB; split <;> rfl
        have e4 : adLG (adLw a (a + 263) (a + 1)) = adGL (a + 1) := funext fun t => by
          show adLw a (a + 263) (a + 1) (2 + t) = _
          unfold adLw
          rw [if_neg (by omega), if_neg (by omega), show 2 + t - 2 = t by omega]
        rw [e3, e4]
      rw [e1, e2]
      exact h2
theorem ky_begins {z : ZS} (hz : z.2.1 ≤ 260) : ∃ δ', f_L_begins NL z ((fun _ _ => 0, fun _ => 0), iGL) = some (1, δ') ∧ Ky 0 10 δ' := by
  have hd : Hd (((fun _ _ => 0, fun _ => 0), iGL) : LwS) S0 0 0 0 0 (fun _ => 0) := ⟨S0_c, ⟨Nat.zero_le _, by decide, rfl, rfl⟩, rfl, rfl, rfl, by decide⟩
  obtain ⟨⟨a, δ'⟩, q, ra, k, hk⟩ := p_begins (N := NL) (by decide) hz hd (by decide)
  simp only at ra
  subst ra
  exact ⟨δ', q, k, 0, Nat.le_refl _, hk⟩
set_option maxHeartbeats 4000000 in
set_option maxRecDepth 100000 in
theorem c_L_holds {l : Launch} {G : va_G} {cA : Nat → ClassId} {a : Nat} {H0 : Heap} {z : ZS} (hFl : FlOk) (hz : z.2.1 ≤ 260) : Met l yL_holds (cW yL_holds cL_holds 3 (some .boolean)) rm_L_holds (cPZn a z [.ref a, .ref z.1] (gr G (lsL cA a) a H0) G cA) (cQ (some (.int 1)) (fun _ => True)) 2520 128160 (fun q => a ≤ q) := by
  refine zn_met (by decide) (Nat.le_of_ble_eq_true rfl) (fun p e s m args below meth c ls C0 hN hZ hG hl => ?_)
  have hl : lv_has ls 3 [(0, .ref a), (1, .ref z.1)] := hl
  obtain ⟨⟨hx, hb, hml, hown, hts⟩, hr, hlocks, hK⟩ := id C0
  have hL : ∀ q ∈ ([] : List Loc), a ≤ q.base := fun q h => nomatch h
  generalize hH : s.heap = H at hG
  refine lv_aload_n hx hb dL_holds_0 rfl (lv_at hl 0 rfl) ?_
  refine lv_aload_n hx hb dL_holds_1 rfl (lv_at hl 1 rfl) ?_
  refine sg_put (a := a) (ci := 9) (fs := [.ref (a + 1), .null, .int 0, .ref (a + 263), .int 0]) (T := TL) (C := RL) (N := 5) hx hb 0 hts inlL tyL tyL_ok nmL hown hK hG rfl rfl 1 (by decide) mw_118 rfl rfl rfl rfl (Nat.le_of_ble_eq_true rfl) dL_holds_2 hL (fun H locs hG hL => ?_)
  have hG : gr G (.inr (9, [.ref (a + 1), .ref z.1, .int 0, .ref (a + 263), .int 0]) :: (lsX8 cA (a + 1) ++ [.inl (cA 0, (200, .inl fun _ => 0))])) a H0 H := hG
  obtain ⟨Db, hP⟩ := BW_start iCac hG
  have hC := BW_L (G := G) (cA := cA) (H0 := H) (sa := z.1) Db iCac
  refine lv_aload_n hx hb dL_holds_5 rfl (lv_at hl 0 rfl) ?_
  obtain ⟨δ', q, hy⟩ := ky_begins (z := z) hz
  refine cx_callVZ (As := []) (rest := []) ⟨hx, hb, hml, hown, hts⟩ (c_L_begins hC (z := z) q) (cwV 0 hts (gV mw_119 mw_120 mw_121 mw_2 mw_122) rfl rfl rfl hd_L_begins ⟨Nat.le_of_ble_eq_true rfl, Nat.le_of_ble_eq_true rfl⟩) hK hZ hP rfl (at_Law hC hP) rfl hl.1 rfl (Nat.le_of_ble_eq_true rfl) dL_holds_6 ⟨Nat.zero_le _, Nat.zero_le _⟩ hL (fun H1 locs hP hL => ?_)
  refine lv_if_ne (tgt := 14) hx hb dL_holds_9 (by decide) (fun _ => ?_) (fun c9 => absurd c9 (show ¬ (1 : Int32) = 0 by decide))
  refine lv_iconst (v := 0) hx hb dL_holds_14 (by decide) ?_
  refine lv_istore_n (lv' := [(2, .int 0), (0, .ref a), (1, .ref z.1)]) hx hb dL_holds_15 rfl hl (by decide) rfl (fun ls hl => ?_)
  exact hk_16 ⟨C0, hN, hZ, hz⟩ hFl 90 0 rfl none iCac δ' H1 locs _ _ ls (Nat.zero_le _) (Nat.zero_le _) Db hP hy hL (lv_sub hl [0, 1] rfl)
