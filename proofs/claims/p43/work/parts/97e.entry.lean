/-! FROM THE LAW'S ENTRY TO ITS END -/
set_option maxHeartbeats 8000000 in
set_option maxRecDepth 100000 in
theorem law_entry {p : Program} {e : Env} {s : State} {m : MethodId} {below : List Frame} {meth : Method} {c : Code} (l : Launch) {b L : Nat} {xs : Nat → Int32} (hFl : FlOk) (hL3 : L ≤ 260) (C0 : lw_At p s m meth c b L xs) : W p l e room_1 s m #[Value.ref b] below meth c s.heap [] 0 0 (lw_Z below #[Value.ref b] s) (entryFrame m ([Value.ref b] : List Value).toArray 1) := by
  obtain ⟨hx, hb, hr, hml, hown, hts0, hX, hbl, hlocks, hgv⟩ := id C0
  have hts : ∀ w ∈ WL, w.before #[Value.ref b] s = true := fun w h => hts0 w (WL_in w h)
  obtain ⟨G, cA, hN⟩ := start_cK hts (va_AO.of (hts0 (.arrayOver (.object "GhostLayers$Cache")) (by decide +kernel))) (va_AO.of (hts0 (.arrayOver (.object "GhostLayers$Client")) (by decide +kernel)))
  have hK := hN.1
  have hl := lv_entry ([.ref b]) (n := 1) (Nat.le_of_ble_eq_true rfl)
  rw [lg_entry_eq]
  generalize (lg_sl ([.ref b]) ++ List.replicate (1 - (lg_sl ([.ref b])).length) Slot.unset).toArray = ls at hl ⊢
  have hl : lv_has ls 1 [(0, .ref b)] := hl
  have hG : gr G [] s.heap.size s.heap s.heap := ⟨rfl, (fun i x h => by rw [List.getElem?_nil] at h; cases h), fun _ _ => rfl⟩
  refine sg_new (a := s.heap.size) (ci := 9) (fs := fsL) (C := RL) (T := TL) (N := 5) (n := 0) hx hb hts inlL tyL tyL_ok hown hK hG rfl rfl dfL mw_0 mw_1 mw_2 (Nat.le_of_ble_eq_true rfl) (Nat.le_of_ble_eq_true rfl) dL_law_0 (fun H hG => ?_)
  refine lv_dup hx hb dL_law_3 rfl ?_
  refine sg_call (n := 0) ⟨hx, hb, hml, hown, hts⟩ rfl (c_L_init (a := s.heap.size + 0) (H0 := H)) (cwI 0 hts (gW mw_5) rfl rfl rfl (hts _ mw_2) (hts _ mw_3) (hts _ mw_4) rfl (by decide +kernel) ⟨Nat.le_of_ble_eq_true rfl, Nat.le_of_ble_eq_true rfl⟩) hN hG hl.1 (Nat.le_of_ble_eq_true rfl) dL_law_4 ⟨Nat.le_of_ble_eq_true rfl, Nat.le_of_ble_eq_true rfl⟩ (fun q h => nomatch h) (fun H1 locs hG hL => ?_)
  have hG : gr G (lsL cA s.heap.size) s.heap.size s.heap H1 := hG
  have hZ : Zt s.heap.size ((b, L, xs) : ZS) s := ⟨hbl, hbl, hX⟩
  refine lv_aload_n hx hb dL_law_7 rfl (lv_at hl 0 rfl) ?_
  refine cx_callVZn (z := ((b, L, xs) : ZS)) (lo := s.heap.size) (PH := gr G (lsL cA s.heap.size) s.heap.size s.heap) (b := s.heap.size) (As := [.ref b]) (rest := []) ⟨hx, hb, hml, hown, hts⟩ (c_L_holds (z := ((b, L, xs) : ZS)) (H0 := s.heap) hFl hL3) (cwV 1 hts (gV mw_114 mw_115 mw_116 mw_2 mw_117) rfl rfl rfl hd_L_holds ⟨Nat.le_of_ble_eq_true rfl, Nat.le_of_ble_eq_true rfl⟩) hN hZ hG (ci := 9) rfl (hG.2.1 0 _ rfl) rfl hl.1 rfl (Nat.le_of_ble_eq_true rfl) dL_law_8 ⟨Nat.le_of_ble_eq_true rfl, Nat.le_of_ble_eq_true rfl⟩ hL (fun H2 locs _ hL => ?_)
  refine va_forget hL (W.widen (k := 600086) (n := 7301442) (by decide) (by decide) (W.base ?_))
  exact lw_ret (fun c => ⟨Nat.le_refl _, fun _ => rfl⟩) hx hb hr hlocks dL_law_11
