def SimAll (N : Nat) (Top Toq : TopT) : Prop := Sim_appendText N Top Toq ∧ Sim_truncateText N Top Toq ∧ Sim_runTrace N Top Toq ∧ Sim_errorCode N Top Toq ∧ Sim_errorPosition N Top Toq ∧ Sim_addClient N Top Toq ∧ Sim_setWeight N Top Toq ∧ Sim_set N Top Toq ∧ Sim_shape N Top Toq ∧ Sim_count N Top Toq ∧ Sim_client N Top Toq ∧ Sim_block N Top Toq ∧ Sim_at N Top Toq ∧ Sim_read N Top Toq ∧ Sim_write N Top Toq ∧ Sim_flush N Top Toq ∧ Sim_forget N Top Toq ∧ Sim_share N Top Toq ∧ Sim_hitShare N Top Toq ∧ Sim_order N Top Toq ∧ Sim_victim N Top Toq ∧ Sim_leaving N Top Toq ∧ Sim_oldest N Top Toq ∧ Sim_ages N Top Toq ∧ Sim_ownedAt N Top Toq ∧ Sim_excess N Top Toq ∧ Sim_toScan N Top Toq ∧ Sim_rank N Top Toq ∧ Sim_between N Top Toq ∧ Sim_longest N Top Toq ∧ Sim_differing N Top Toq ∧ Sim_stale N Top Toq ∧ Sim_wouldBe N Top Toq ∧ Sim_ahead N Top Toq ∧ Sim_bestLength N Top Toq ∧ Sim_show N Top Toq ∧ Sim_output N Top Toq ∧ Sim_undo N Top Toq ∧ Sim_save N Top Toq ∧ Sim_restore N Top Toq
theorem lw_end {L j n : Nat} (hn : L / 6 = j + n) (hL : L ≤ 3072) : (nI L - 6 < nI (6 * j)) ↔ n = 0 := by
  by_cases h6 : 6 ≤ L
  · have e : nI L - 6 = nI (L - 6) := by
      have h : nI (L - 6) + 6 = nI L := by
        rw [show nI (L - 6) + 6 = nI (L - 6 + 6) from nI_add (L - 6) 6, show L - 6 + 6 = L by omega]
      rw [← h, Int32.add_sub_cancel]
    rw [e, nI_ltI (by omega) (by omega)]
    omega
  · have hj : j = 0 := by omega
    have hn0 : n = 0 := by omega
    subst hj
    refine ⟨fun _ => hn0, fun _ => ?_⟩
    rcases (show L = 0 ∨ L = 1 ∨ L = 2 ∨ L = 3 ∨ L = 4 ∨ L = 5 by omega) with rfl | rfl | rfl | rfl | rfl | rfl <;> decide
theorem lw_cases (v : Int32) : (∃ k, k < 40 ∧ v = nI k) ∨ (v.toInt < 0 ∨ 39 < v.toInt) := by
  by_cases h1 : v < 0
  · exact Or.inr (Or.inl (Int32.lt_iff_toInt_lt.mp h1))
  · by_cases h2 : v ≤ 39
    · obtain ⟨k, hk, e⟩ := nI_of2 (M := 39) (n := 39) rfl h1 h2
      exact Or.inl ⟨k, by omega, e⟩
    · refine Or.inr (Or.inr ?_)
      have h3 : ¬ v.toInt ≤ (39 : Int32).toInt := fun q => h2 (Int32.le_iff_toInt_le.mpr q)
      have h4 : (39 : Int32).toInt = 39 := rfl
      omega
set_option maxHeartbeats 4000000 in
set_option maxRecDepth 100000 in
theorem w_law_switch {p : Program} {l : Launch} {e : Env} {s : State} {m : MethodId} {args : Array Value} {below : List Frame} {meth : Method} {c : Code} {G : va_G} {cA : Nat → ClassId} {H0 : Heap} {lo aG aM aO : Nat} {z : ZS} {Top : TopT} {b L N : Nat} {xs : Nat → Int32} {Q : State → Prop} (F : LwF l p s m args c G cA lo z b L xs) {j cells slots : Nat} (hj : 6 * j + 5 < L) {Toq : TopT} (hS : SimAll N Top Toq) (hM : ∀ γ μ κ ix nb, Top γ μ κ ix nb → Toq γ μ κ ix nb) {β : BigS} {ix : Nat → Option Nat} {bs : List Nat} {H : Heap} {locs : List Loc} {ls : Array Slot} (St : LwS G cA H0 lo aG aM aO Top β ix bs H locs) (hcs : cells ≤ 500000) (hss : slots ≤ 7000000) (hl : lv_has ls 10 [(5, .int (nI (6 * j))), (0, .ref b), (1, .ref aG), (2, .ref aM), (3, .ref aO), (4, .ref (aO + 1))]) (next : LwN p l e s m args below meth c G cA H0 lo aG aM aO Toq b j cells slots Q) (v : Int32) : W p l e room_1 s m args below meth c H locs cells slots Q (F0 m 45 ls [.int v]) := by
  have hx := F.1.2.1
  have hb := F.1.2.2.1
  rcases lw_cases v with ⟨k, hk, rfl⟩ | h
  · rcases (show k = 0 ∨ k = 1 ∨ k = 2 ∨ k = 3 ∨ k = 4 ∨ k = 5 ∨ k = 6 ∨ k = 7 ∨ k = 8 ∨ k = 9 ∨ k = 10 ∨ k = 11 ∨ k = 12 ∨ k = 13 ∨ k = 14 ∨ k = 15 ∨ k = 16 ∨ k = 17 ∨ k = 18 ∨ k = 19 ∨ k = 20 ∨ k = 21 ∨ k = 22 ∨ k = 23 ∨ k = 24 ∨ k = 25 ∨ k = 26 ∨ k = 27 ∨ k = 28 ∨ k = 29 ∨ k = 30 ∨ k = 31 ∨ k = 32 ∨ k = 33 ∨ k = 34 ∨ k = 35 ∨ k = 36 ∨ k = 37 ∨ k = 38 ∨ k = 39 by omega) with rfl | rfl | rfl | rfl | rfl | rfl | rfl | rfl | rfl | rfl | rfl | rfl | rfl | rfl | rfl | rfl | rfl | rfl | rfl | rfl | rfl | rfl | rfl | rfl | rfl | rfl | rfl | rfl | rfl | rfl | rfl | rfl | rfl | rfl | rfl | rfl | rfl | rfl | rfl | rfl
    · exact lv_tableIn (off := 175) (tgt := 220) hx hb dL_law_45 (by decide) (by decide) rfl (by decide) (w_law_appendText F hj hS.1 St hcs hss hl next)
    · exact lv_tableIn (off := 231) (tgt := 276) hx hb dL_law_45 (by decide) (by decide) rfl (by decide) (w_law_truncateText F hj hS.2.1 St hcs hss hl next)
    · exact lv_tableIn (off := 287) (tgt := 332) hx hb dL_law_45 (by decide) (by decide) rfl (by decide) (w_law_runTrace F hj hS.2.2.1 St hcs hss hl next)
    · exact lv_tableIn (off := 300) (tgt := 345) hx hb dL_law_45 (by decide) (by decide) rfl (by decide) (w_law_errorCode F hj hS.2.2.2.1 St hcs hss hl next)
    · exact lv_tableIn (off := 313) (tgt := 358) hx hb dL_law_45 (by decide) (by decide) rfl (by decide) (w_law_errorPosition F hj hS.2.2.2.2.1 St hcs hss hl next)
    · exact lv_tableIn (off := 326) (tgt := 371) hx hb dL_law_45 (by decide) (by decide) rfl (by decide) (w_law_addClient F hj hS.2.2.2.2.2.1 St hcs hss hl next)
    · exact lv_tableIn (off := 382) (tgt := 427) hx hb dL_law_45 (by decide) (by decide) rfl (by decide) (w_law_setWeight F hj hS.2.2.2.2.2.2.1 St hcs hss hl next)
    · exact lv_tableIn (off := 450) (tgt := 495) hx hb dL_law_45 (by decide) (by decide) rfl (by decide) (w_law_set F hj hS.2.2.2.2.2.2.2.1 St hcs hss hl next)
    · exact lv_tableIn (off := 518) (tgt := 563) hx hb dL_law_45 (by decide) (by decide) rfl (by decide) (w_law_shape F hj hS.2.2.2.2.2.2.2.2.1 St hcs hss hl next)
    · exact lv_tableIn (off := 586) (tgt := 631) hx hb dL_law_45 (by decide) (by decide) rfl (by decide) (w_law_count F hj hS.2.2.2.2.2.2.2.2.2.1 St hcs hss hl next)
    · exact lv_tableIn (off := 642) (tgt := 687) hx hb dL_law_45 (by decide) (by decide) rfl (by decide) (w_law_client F hj hS.2.2.2.2.2.2.2.2.2.2.1 St hcs hss hl next)
    · exact lv_tableIn (off := 710) (tgt := 755) hx hb dL_law_45 (by decide) (by decide) rfl (by decide) (w_law_block F hj hS.2.2.2.2.2.2.2.2.2.2.2.1 St hcs hss hl next)
    · exact lv_tableIn (off := 778) (tgt := 823) hx hb dL_law_45 (by decide) (by decide) rfl (by decide) (w_law_at F hj hS.2.2.2.2.2.2.2.2.2.2.2.2.1 St hcs hss hl next)
    · exact lv_tableIn (off := 846) (tgt := 891) hx hb dL_law_45 (by decide) (by decide) rfl (by decide) (w_law_read F hj hS.2.2.2.2.2.2.2.2.2.2.2.2.2.1 St hcs hss hl next)
    · exact lv_tableIn (off := 914) (tgt := 959) hx hb dL_law_45 (by decide) (by decide) rfl (by decide) (w_law_write F hj hS.2.2.2.2.2.2.2.2.2.2.2.2.2.2.1 St hcs hss hl next)
    · exact lv_tableIn (off := 994) (tgt := 1039) hx hb dL_law_45 (by decide) (by decide) rfl (by decide) (w_law_flush F hj hS.2.2.2.2.2.2.2.2.2.2.2.2.2.2.2.1 St hcs hss hl next)
    · exact lv_tableIn (off := 1050) (tgt := 1095) hx hb dL_law_45 (by decide) (by decide) rfl (by decide) (w_law_forget F hj hS.2.2.2.2.2.2.2.2.2.2.2.2.2.2.2.2.1 St hcs hss hl next)
    · exact lv_tableIn (off := 1113) (tgt := 1158) hx hb dL_law_45 (by decide) (by decide) rfl (by decide) (w_law_share F hj hS.2.2.2.2.2.2.2.2.2.2.2.2.2.2.2.2.2.1 St hcs hss hl next)
    · exact lv_tableIn (off := 1190) (tgt := 1235) hx hb dL_law_45 (by decide) (by decide) rfl (by decide) (w_law_hitShare F hj hS.2.2.2.2.2.2.2.2.2.2.2.2.2.2.2.2.2.2.1 St hcs hss hl next)
    · exact lv_tableIn (off := 1233) (tgt := 1278) hx hb dL_law_45 (by decide) (by decide) rfl (by decide) (w_law_order F hj hS.2.2.2.2.2.2.2.2.2.2.2.2.2.2.2.2.2.2.2.1 St hcs hss hl next)
    · exact lv_tableIn (off := 1289) (tgt := 1334) hx hb dL_law_45 (by decide) (by decide) rfl (by decide) (w_law_victim F hj hS.2.2.2.2.2.2.2.2.2.2.2.2.2.2.2.2.2.2.2.2.1 St hcs hss hl next)
    · exact lv_tableIn (off := 1330) (tgt := 1375) hx hb dL_law_45 (by decide) (by decide) rfl (by decide) (w_law_leaving F hj hS.2.2.2.2.2.2.2.2.2.2.2.2.2.2.2.2.2.2.2.2.2.1 St hcs hss hl next)
    · exact lv_tableIn (off := 1343) (tgt := 1388) hx hb dL_law_45 (by decide) (by decide) rfl (by decide) (w_law_oldest F hj hS.2.2.2.2.2.2.2.2.2.2.2.2.2.2.2.2.2.2.2.2.2.2.1 St hcs hss hl next)
    · exact lv_tableIn (off := 1356) (tgt := 1401) hx hb dL_law_45 (by decide) (by decide) rfl (by decide) (w_law_ages F hj hS.2.2.2.2.2.2.2.2.2.2.2.2.2.2.2.2.2.2.2.2.2.2.2.1 St hcs hss hl next)
    · exact lv_tableIn (off := 1412) (tgt := 1457) hx hb dL_law_45 (by decide) (by decide) rfl (by decide) (w_law_ownedAt F hj hS.2.2.2.2.2.2.2.2.2.2.2.2.2.2.2.2.2.2.2.2.2.2.2.2.1 St hcs hss hl next)
    · exact lv_tableIn (off := 1492) (tgt := 1537) hx hb dL_law_45 (by decide) (by decide) rfl (by decide) (w_law_excess F hj hS.2.2.2.2.2.2.2.2.2.2.2.2.2.2.2.2.2.2.2.2.2.2.2.2.2.1 St hcs hss hl next)
    · exact lv_tableIn (off := 1570) (tgt := 1615) hx hb dL_law_45 (by decide) (by decide) rfl (by decide) (w_law_toScan F hj hS.2.2.2.2.2.2.2.2.2.2.2.2.2.2.2.2.2.2.2.2.2.2.2.2.2.2.1 St hcs hss hl next)
    · exact lv_tableIn (off := 1638) (tgt := 1683) hx hb dL_law_45 (by decide) (by decide) rfl (by decide) (w_law_rank F hj hS.2.2.2.2.2.2.2.2.2.2.2.2.2.2.2.2.2.2.2.2.2.2.2.2.2.2.2.1 St hcs hss hl next)
    · exact lv_tableIn (off := 1694) (tgt := 1739) hx hb dL_law_45 (by decide) (by decide) rfl (by decide) (w_law_between F hj hS.2.2.2.2.2.2.2.2.2.2.2.2.2.2.2.2.2.2.2.2.2.2.2.2.2.2.2.2.1 St hcs hss hl next)
    · exact lv_tableIn (off := 1774) (tgt := 1819) hx hb dL_law_45 (by decide) (by decide) rfl (by decide) (w_law_longest F hj hS.2.2.2.2.2.2.2.2.2.2.2.2.2.2.2.2.2.2.2.2.2.2.2.2.2.2.2.2.2.1 St hcs hss hl next)
    · exact lv_tableIn (off := 1830) (tgt := 1875) hx hb dL_law_45 (by decide) (by decide) rfl (by decide) (w_law_differing F hj hS.2.2.2.2.2.2.2.2.2.2.2.2.2.2.2.2.2.2.2.2.2.2.2.2.2.2.2.2.2.2.1 St hcs hss hl next)
    · exact lv_tableIn (off := 1843) (tgt := 1888) hx hb dL_law_45 (by decide) (by decide) rfl (by decide) (w_law_stale F hj hS.2.2.2.2.2.2.2.2.2.2.2.2.2.2.2.2.2.2.2.2.2.2.2.2.2.2.2.2.2.2.2.1 St hcs hss hl next)
    · exact lv_tableIn (off := 1899) (tgt := 1944) hx hb dL_law_45 (by decide) (by decide) rfl (by decide) (w_law_wouldBe F hj hS.2.2.2.2.2.2.2.2.2.2.2.2.2.2.2.2.2.2.2.2.2.2.2.2.2.2.2.2.2.2.2.2.1 St hcs hss hl next)
    · exact lv_tableIn (off := 1979) (tgt := 2024) hx hb dL_law_45 (by decide) (by decide) rfl (by decide) (w_law_ahead F hj hS.2.2.2.2.2.2.2.2.2.2.2.2.2.2.2.2.2.2.2.2.2.2.2.2.2.2.2.2.2.2.2.2.2.1 St hcs hss hl next)
    · exact lv_tableIn (off := 2083) (tgt := 2128) hx hb dL_law_45 (by decide) (by decide) rfl (by decide) (w_law_bestLength F hj hS.2.2.2.2.2.2.2.2.2.2.2.2.2.2.2.2.2.2.2.2.2.2.2.2.2.2.2.2.2.2.2.2.2.2.1 St hcs hss hl next)
    · exact lv_tableIn (off := 2175) (tgt := 2220) hx hb dL_law_45 (by decide) (by decide) rfl (by decide) (w_law_show F hj hS.2.2.2.2.2.2.2.2.2.2.2.2.2.2.2.2.2.2.2.2.2.2.2.2.2.2.2.2.2.2.2.2.2.2.2.1 St hcs hss hl next)
    · exact lv_tableIn (off := 2231) (tgt := 2276) hx hb dL_law_45 (by decide) (by decide) rfl (by decide) (w_law_output F hj hS.2.2.2.2.2.2.2.2.2.2.2.2.2.2.2.2.2.2.2.2.2.2.2.2.2.2.2.2.2.2.2.2.2.2.2.2.1 St hcs hss hl next)
    · exact lv_tableIn (off := 2256) (tgt := 2301) hx hb dL_law_45 (by decide) (by decide) rfl (by decide) (w_law_undo F hj hS.2.2.2.2.2.2.2.2.2.2.2.2.2.2.2.2.2.2.2.2.2.2.2.2.2.2.2.2.2.2.2.2.2.2.2.2.2.1 St hcs hss hl next)
    · exact lv_tableIn (off := 2269) (tgt := 2314) hx hb dL_law_45 (by decide) (by decide) rfl (by decide) (w_law_save F hj hS.2.2.2.2.2.2.2.2.2.2.2.2.2.2.2.2.2.2.2.2.2.2.2.2.2.2.2.2.2.2.2.2.2.2.2.2.2.2.1 St hcs hss hl next)
    · exact lv_tableIn (off := 2305) (tgt := 2350) hx hb dL_law_45 (by decide) (by decide) rfl (by decide) (w_law_restore F hj hS.2.2.2.2.2.2.2.2.2.2.2.2.2.2.2.2.2.2.2.2.2.2.2.2.2.2.2.2.2.2.2.2.2.2.2.2.2.2.2 St hcs hss hl next)
  · exact lv_tableOut (tgt := 2386) hx hb dL_law_45 h (by decide) (next β ix bs H locs cells slots ls ⟨St.1, St.2.1, St.2.2.1, hM _ _ _ _ _ St.2.2.2.1, St.2.2.2.2⟩ (by omega) (by omega) hl)
set_option maxHeartbeats 4000000 in
set_option maxRecDepth 100000 in
theorem w_law_b28 {p : Program} {l : Launch} {e : Env} {s : State} {m : MethodId} {args : Array Value} {below : List Frame} {meth : Method} {c : Code} {G : va_G} {cA : Nat → ClassId} {H0 : Heap} {lo aG aM aO : Nat} {z : ZS} {b L N : Nat} {xs : Nat → Int32} {Q : State → Prop} (F : LwF l p s m args c G cA lo z b L xs) {Tof : Nat → TopT} (hS : ∀ j, j < 512 → SimAll N (Tof j) (Tof (j + 1))) (hM : ∀ j γ μ κ ix nb, Tof j γ μ κ ix nb → Tof (j + 1) γ μ κ ix nb) (hend : ∀ (H : Heap) (locs : List Loc) (cells slots : Nat) (ls : Array Slot), (∀ q ∈ locs, lo ≤ q.base) → cells ≤ 500000 → slots ≤ 7000000 → W p l e room_1 s m args below meth c H locs cells slots Q (F0 m 2392 ls [])) :
    ∀ (n j : Nat), L / 6 = j + n → ∀ (β : BigS) (ix : Nat → Option Nat) (bs : List Nat) (H : Heap) (locs : List Loc) (cells slots : Nat) (ls : Array Slot), LwS G cA H0 lo aG aM aO (Tof j) β ix bs H locs → cells ≤ 300 + 25 * j → slots ≤ 40000 + 1404 * j → lv_has ls 10 [(5, .int (nI (6 * j))), (0, .ref b), (1, .ref aG), (2, .ref aM), (3, .ref aO), (4, .ref (aO + 1))] → W p l e room_1 s m args below meth c H locs cells slots Q (F0 m 28 ls []) := by
  obtain ⟨⟨hl0, hx, hb, hml, hown, hts⟩, hN, hZ, hX3, hX, hbl, hbo, hL3⟩ := id F
  intro n
  induction n with
  | zero =>
    intro j hn β ix bs H locs cells slots ls St hcs hss hl
    refine lv_iload hx hb dL_law_28 (lv_at hl 0 rfl) ?_
    refine lv_aload_n hx hb dL_law_30 rfl (lv_at hl 1 rfl) ?_
    refine cz_S St.2.2.2.2 (fun hSS => va_slen hx hb hX hbl (Nat.not_le.mpr hbo) hSS dL_law_31 ?_)
    refine lv_bipush (v := 6) hx hb dL_law_32 (by decide) ?_
    refine lv_isub hx hb dL_law_34 ?_
    refine lv_icmp_gt (tgt := 2392) hx hb dL_law_35 (by decide) (fun _ => ?_) (fun c9 => absurd ((lw_end hn hL3).mpr rfl) c9)
    exact hend _ _ _ _ _ St.2.2.2.2 (by omega) (by omega)
  | succ n ih =>
    intro j hn β ix bs H locs cells slots ls St hcs hss hl
    refine lv_iload hx hb dL_law_28 (lv_at hl 0 rfl) ?_
    refine lv_aload_n hx hb dL_law_30 rfl (lv_at hl 1 rfl) ?_
    refine cz_S St.2.2.2.2 (fun hSS => va_slen hx hb hX hbl (Nat.not_le.mpr hbo) hSS dL_law_31 ?_)
    refine lv_bipush (v := 6) hx hb dL_law_32 (by decide) ?_
    refine lv_isub hx hb dL_law_34 ?_
    refine lv_icmp_gt (tgt := 2392) hx hb dL_law_35 (by decide) (fun c9 => absurd ((lw_end hn hL3).mp c9) (by omega)) (fun _ => ?_)
    refine lv_aload_n hx hb dL_law_38 rfl (lv_at hl 1 rfl) ?_
    refine lv_iload hx hb dL_law_39 (lv_at hl 0 rfl) ?_
    refine lw_scr hx hb hX hbl hbo hL3 St.2.2.2.2 (show 6 * j < L by omega) dL_law_41 ?_
    refine lv_bipush (v := 63) hx hb dL_law_42 (by decide) ?_
    refine lv_iand hx hb dL_law_44 ?_
    refine w_law_switch F (show 6 * j + 5 < L by omega) (hS j (by omega)) (hM j) St (by omega) (by omega) hl (fun β ix bs H locs cl sl ls St h1 h2 hl => ?_) _
    refine lv_iinc (v := nI (6 * (j + 1))) (lv' := [(5, .int (nI (6 * (j + 1)))), (0, .ref b), (1, .ref aG), (2, .ref aM), (3, .ref aO), (4, .ref (aO + 1))]) hx hb dL_law_2386 hl (k := 0) rfl (nI_add (6 * j) 6) (by decide) rfl (fun ls hl => ?_)
    refine lv_goto (tgt := 28) hx hb dL_law_2389 (by decide) ?_
    exact ih (j + 1) (by omega) β ix bs H locs cl sl ls St (by omega) (by omega) hl
