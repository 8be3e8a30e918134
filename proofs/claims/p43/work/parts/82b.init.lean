abbrev fsX5 : List Value := [.null, .int 0]
theorem dfX5 : ∀ j, j < 2 → defaultValue (tyX5 j) = vp_V fsX5 j := fun j hj => by
  rcases (show j = 0 ∨ j = 1 by omega) with rfl | rfl <;> rfl
abbrev rm_X5_init : Room := { frames := 1, cells := 1, slots := 24, locals := 20 }
def lsX5 (cA : Nat → ClassId) (a : Nat) : List va_E := [.inr (5, [.ref (a + 1), .int 0]), .inl (cA 0, (24, .inl fun _ => 0))]
set_option maxHeartbeats 8000000 in
set_option maxRecDepth 100000 in
theorem c_X5_init {l : Launch} {G : va_G} {cA : Nat → ClassId} {a : Nat} {H0 : Heap} : Met l yX5_init (cW yX5_init cX5_init 1 none) rm_X5_init (cPn [.ref a] (gr G [.inr (5, fsX5)] a H0) G cA) (cQ none (gr G (lsX5 cA a) a H0)) 1 24 (fun q => a ≤ q) := by
  refine nx_met (by decide) (Nat.le_of_ble_eq_true rfl) (fun p e s m args below meth c ls C0 hN hin hG hl => ?_)
  have hl : lv_has ls 1 [(0, .ref a)] := hl
  obtain ⟨⟨hx, hb, hml, hown, hts⟩, hr, hlocks, hK⟩ := id C0
  have hL : ∀ q ∈ ([] : List Loc), a ≤ q.base := fun q h => nomatch h
  have hin : meth.name = "<init>" := hin
  have hG0 : gr G ([.inr (5, [.null, .int 0])]) a s.heap s.heap := ⟨hG.1, hG.2.1, fun _ _ => rfl⟩
  have hb0 := hG.2.2
  generalize hH : s.heap = H at hG0
  replace hG0 : gr G ([.inr (5, [.null, .int 0])]) a s.heap H := by rw [hH]; exact hG0
  have hG := hG0
  refine lv_aload_n hx hb dX5_init_0 rfl (lv_at hl 0 rfl) ?_
  refine W.objInit hx hb hown (hts _ mw_100) (hts _ mw_7) (hts _ mw_8) rfl (by rw [hml]; exact hl.1) rfl dX5_init_1 (Nat.le_of_ble_eq_true rfl) (Nat.le_of_ble_eq_true rfl) ?_
  refine W.eq (g2 := F0 m 4 ls []) rfl ?_
  refine lv_aload_n hx hb dX5_init_4 rfl (lv_at hl 0 rfl) ?_
  refine lv_bipush (v := 24) hx hb dX5_init_5 (by decide) ?_
  refine sg_newi (n := 1) (N' := 24) hx hb hts mw_13 hK hG rfl (by decide) (by decide) (Nat.le_of_ble_eq_true rfl) (Nat.le_of_ble_eq_true rfl) (Nat.le_of_ble_eq_true rfl) dX5_init_7 (fun H hG => ?_)
  have hG : gr G ([.inr (5, [.null, .int 0]), .inl (cA 0, (24, .inl fun _ => 0))]) a s.heap H := hG
  refine sg_putF (a := a) (ci := 5) (fs := [.null, .int 0]) (T := TX5) (C := RX5) (N := 2) hx hb 0 hts inlX5 tyX5 tyX5_ok nmX5 hown hK hG rfl rfl 0 (by decide) mw_101 rfl rfl hin rfl rfl rfl (Nat.le_of_ble_eq_true rfl) dX5_init_9 hL (fun H locs hG hL => ?_)
  have hG : gr G ([.inr (5, [.ref (a + 1), .int 0]), .inl (cA 0, (24, .inl fun _ => 0))]) a s.heap H := hG
  have hG : gr G (lsX5 cA a) a s.heap H := hG
  exact cx_vret hx hb hr hlocks ⟨hG.1, hG.2.1, fun q hq => (hG.2.2 q hq).trans (hb0 q hq)⟩ hL dX5_init_12
abbrev fsX2 : List Value := [.int 0, .int 0, .int 0, .int 0, .int 0, .int 0, .int 0, .int 0]
theorem dfX2 : ∀ j, j < 8 → defaultValue (tyX2 j) = vp_V fsX2 j := fun j hj => by
  rcases (show j = 0 ∨ j = 1 ∨ j = 2 ∨ j = 3 ∨ j = 4 ∨ j = 5 ∨ j = 6 ∨ j = 7 by omega) with rfl | rfl | rfl | rfl | rfl | rfl | rfl | rfl <;> rfl
abbrev rm_X2_init : Room := { frames := 1, cells := 0, slots := 0, locals := 20 }
def lsX2 (cA : Nat → ClassId) (a : Nat) : List va_E := [.inr (2, [.int 0, .int 0, .int (-1), .int 0, .int 0, .int 0, .int 0, .int 0])]
set_option maxHeartbeats 8000000 in
set_option maxRecDepth 100000 in
theorem c_X2_init {l : Launch} {G : va_G} {cA : Nat → ClassId} {a : Nat} {H0 : Heap} : Met l yX2_init (cW yX2_init cX2_init 1 none) rm_X2_init (cPn [.ref a] (gr G [.inr (2, fsX2)] a H0) G cA) (cQ none (gr G (lsX2 cA a) a H0)) 0 0 (fun q => a ≤ q) := by
  refine nx_met (by decide) (Nat.le_of_ble_eq_true rfl) (fun p e s m args below meth c ls C0 hN hin hG hl => ?_)
  have hl : lv_has ls 1 [(0, .ref a)] := hl
  obtain ⟨⟨hx, hb, hml, hown, hts⟩, hr, hlocks, hK⟩ := id C0
  have hL : ∀ q ∈ ([] : List Loc), a ≤ q.base := fun q h => nomatch h
  have hin : meth.name = "<init>" := hin
  have hG0 : gr G ([.inr (2, [.int 0, .int 0, .int 0, .int 0, .int 0, .int 0, .int 0, .int 0])]) a s.heap s.heap := ⟨hG.1, hG.2.1, fun _ _ => rfl⟩
  have hb0 := hG.2.2
  generalize hH : s.heap = H at hG0
  replace hG0 : gr G ([.inr (2, [.int 0, .int 0, .int 0, .int 0, .int 0, .int 0, .int 0, .int 0])]) a s.heap H := by rw [hH]; exact hG0
  have hG := hG0
  refine lv_aload_n hx hb dX2_init_0 rfl (lv_at hl 0 rfl) ?_
  refine W.objInit hx hb hown (hts _ mw_105) (hts _ mw_7) (hts _ mw_8) rfl (by rw [hml]; exact hl.1) rfl dX2_init_1 (Nat.le_of_ble_eq_true rfl) (Nat.le_of_ble_eq_true rfl) ?_
  refine W.eq (g2 := F0 m 4 ls []) rfl ?_
  refine lv_aload_n hx hb dX2_init_4 rfl (lv_at hl 0 rfl) ?_
  refine lv_iconst (v := (-1)) hx hb dX2_init_5 (by decide) ?_
  refine sg_put (a := a) (ci := 2) (fs := [.int 0, .int 0, .int 0, .int 0, .int 0, .int 0, .int 0, .int 0]) (T := TX2) (C := RX2) (N := 8) hx hb 0 hts inlX2 tyX2 tyX2_ok nmX2 hown hK hG rfl rfl 2 (by decide) mw_106 rfl rfl rfl rfl (Nat.le_of_ble_eq_true rfl) dX2_init_6 hL (fun H locs hG hL => ?_)
  have hG : gr G ([.inr (2, [.int 0, .int 0, .int (-1), .int 0, .int 0, .int 0, .int 0, .int 0])]) a s.heap H := hG
  have hG : gr G (lsX2 cA a) a s.heap H := hG
  exact cx_vret hx hb hr hlocks ⟨hG.1, hG.2.1, fun q hq => (hG.2.2 q hq).trans (hb0 q hq)⟩ hL dX2_init_9
abbrev fsX4 : List Value := [.null, .int 0]
theorem dfX4 : ∀ j, j < 2 → defaultValue (tyX4 j) = vp_V fsX4 j := fun j hj => by
  rcases (show j = 0 ∨ j = 1 by omega) with rfl | rfl <;> rfl
abbrev rm_X4_init : Room := { frames := 1, cells := 1, slots := 120, locals := 20 }
def lsX4 (cA : Nat → ClassId) (a : Nat) : List va_E := [.inr (4, [.ref (a + 1), .int 0]), .inl (cA 0, (120, .inl fun _ => 0))]
set_option maxHeartbeats 8000000 in
set_option maxRecDepth 100000 in
theorem c_X4_init {l : Launch} {G : va_G} {cA : Nat → ClassId} {a : Nat} {H0 : Heap} : Met l yX4_init (cW yX4_init cX4_init 1 none) rm_X4_init (cPn [.ref a] (gr G [.inr (4, fsX4)] a H0) G cA) (cQ none (gr G (lsX4 cA a) a H0)) 1 120 (fun q => a ≤ q) := by
  refine nx_met (by decide) (Nat.le_of_ble_eq_true rfl) (fun p e s m args below meth c ls C0 hN hin hG hl => ?_)
  have hl : lv_has ls 1 [(0, .ref a)] := hl
  obtain ⟨⟨hx, hb, hml, hown, hts⟩, hr, hlocks, hK⟩ := id C0
  have hL : ∀ q ∈ ([] : List Loc), a ≤ q.base := fun q h => nomatch h
  have hin : meth.name = "<init>" := hin
  have hG0 : gr G ([.inr (4, [.null, .int 0])]) a s.heap s.heap := ⟨hG.1, hG.2.1, fun _ _ => rfl⟩
  have hb0 := hG.2.2
  generalize hH : s.heap = H at hG0
  replace hG0 : gr G ([.inr (4, [.null, .int 0])]) a s.heap H := by rw [hH]; exact hG0
  have hG := hG0
  refine lv_aload_n hx hb dX4_init_0 rfl (lv_at hl 0 rfl) ?_
  refine W.objInit hx hb hown (hts _ mw_50) (hts _ mw_7) (hts _ mw_8) rfl (by rw [hml]; exact hl.1) rfl dX4_init_1 (Nat.le_of_ble_eq_true rfl) (Nat.le_of_ble_eq_true rfl) ?_
  refine W.eq (g2 := F0 m 4 ls []) rfl ?_
  refine lv_aload_n hx hb dX4_init_4 rfl (lv_at hl 0 rfl) ?_
  refine lv_bipush (v := 120) hx hb dX4_init_5 (by decide) ?_
  refine sg_newi (n := 1) (N' := 120) hx hb hts mw_13 hK hG rfl (by decide) (by decide) (Nat.le_of_ble_eq_true rfl) (Nat.le_of_ble_eq_true rfl) (Nat.le_of_ble_eq_true rfl) dX4_init_7 (fun H hG => ?_)
  have hG : gr G ([.inr (4, [.null, .int 0]), .inl (cA 0, (120, .inl fun _ => 0))]) a s.heap H := hG
  refine sg_putF (a := a) (ci := 4) (fs := [.null, .int 0]) (T := TX4) (C := RX4) (N := 2) hx hb 0 hts inlX4 tyX4 tyX4_ok nmX4 hown hK hG rfl rfl 0 (by decide) mw_51 rfl rfl hin rfl rfl rfl (Nat.le_of_ble_eq_true rfl) dX4_init_9 hL (fun H locs hG hL => ?_)
  have hG : gr G ([.inr (4, [.ref (a + 1), .int 0]), .inl (cA 0, (120, .inl fun _ => 0))]) a s.heap H := hG
  have hG : gr G (lsX4 cA a) a s.heap H := hG
  exact cx_vret hx hb hr hlocks ⟨hG.1, hG.2.1, fun q hq => (hG.2.2 q hq).trans (hb0 q hq)⟩ hL dX4_init_12
abbrev fsX6 : List Value := [.int 0, .int 0, .int 0, .int 0, .int 0, .int 0, .int 0, .int 0, .int 0, .int 0, .int 0]
theorem dfX6 : ∀ j, j < 11 → defaultValue (tyX6 j) = vp_V fsX6 j := fun j hj => by
  rcases (show j = 0 ∨ j = 1 ∨ j = 2 ∨ j = 3 ∨ j = 4 ∨ j = 5 ∨ j = 6 ∨ j = 7 ∨ j = 8 ∨ j = 9 ∨ j = 10 by omega) with rfl | rfl | rfl | rfl | rfl | rfl | rfl | rfl | rfl | rfl | rfl <;> rfl
abbrev rm_X6_init : Room := { frames := 1, cells := 0, slots := 0, locals := 20 }
def lsX6 (cA : Nat → ClassId) (a : Nat) : List va_E := [.inr (6, [.int 0, .int 0, .int 0, .int 0, .int 0, .int 0, .int 0, .int 0, .int 0, .int (-1), .int (-1)])]
set_option maxHeartbeats 8000000 in
set_option maxRecDepth 100000 in
theorem c_X6_init {l : Launch} {G : va_G} {cA : Nat → ClassId} {a : Nat} {H0 : Heap} : Met l yX6_init (cW yX6_init cX6_init 1 none) rm_X6_init (cPn [.ref a] (gr G [.inr (6, fsX6)] a H0) G cA) (cQ none (gr G (lsX6 cA a) a H0)) 0 0 (fun q => a ≤ q) := by
  refine nx_met (by decide) (Nat.le_of_ble_eq_true rfl) (fun p e s m args below meth c ls C0 hN hin hG hl => ?_)
  have hl : lv_has ls 1 [(0, .ref a)] := hl
  obtain ⟨⟨hx, hb, hml, hown, hts⟩, hr, hlocks, hK⟩ := id C0
  have hL : ∀ q ∈ ([] : List Loc), a ≤ q.base := fun q h => nomatch h
  have hin : meth.name = "<init>" := hin
  have hG0 : gr G ([.inr (6, [.int 0, .int 0, .int 0, .int 0, .int 0, .int 0, .int 0, .int 0, .int 0, .int 0, .int 0])]) a s.heap s.heap := ⟨hG.1, hG.2.1, fun _ _ => rfl⟩
  have hb0 := hG.2.2
  generalize hH : s.heap = H at hG0
  replace hG0 : gr G ([.inr (6, [.int 0, .int 0, .int 0, .int 0, .int 0, .int 0, .int 0, .int 0, .int 0, .int 0, .int 0])]) a s.heap H := by rw [hH]; exact hG0
  have hG := hG0
  refine lv_aload_n hx hb dX6_init_0 rfl (lv_at hl 0 rfl) ?_
  refine W.objInit hx hb hown (hts _ mw_94) (hts _ mw_7) (hts _ mw_8) rfl (by rw [hml]; exact hl.1) rfl dX6_init_1 (Nat.le_of_ble_eq_true rfl) (Nat.le_of_ble_eq_true rfl) ?_
  refine W.eq (g2 := F0 m 4 ls []) rfl ?_
  refine lv_aload_n hx hb dX6_init_4 rfl (lv_at hl 0 rfl) ?_
  refine lv_iconst (v := (-1)) hx hb dX6_init_5 (by decide) ?_
  refine sg_put (a := a) (ci := 6) (fs := [.int 0, .int 0, .int 0, .int 0, .int 0, .int 0, .int 0, .int 0, .int 0, .int 0, .int 0]) (T := TX6) (C := RX6) (N := 11) hx hb 0 hts inlX6 tyX6 tyX6_ok nmX6 hown hK hG rfl rfl 9 (by decide) mw_95 rfl rfl rfl rfl (Nat.le_of_ble_eq_true rfl) dX6_init_6 hL (fun H locs hG hL => ?_)
  have hG : gr G ([.inr (6, [.int 0, .int 0, .int 0, .int 0, .int 0, .int 0, .int 0, .int 0, .int 0, .int (-1), .int 0])]) a s.heap H := hG
  refine lv_aload_n hx hb dX6_init_9 rfl (lv_at hl 0 rfl) ?_
  refine lv_iconst (v := (-1)) hx hb dX6_init_10 (by decide) ?_
  refine sg_put (a := a) (ci := 6) (fs := [.int 0, .int 0, .int 0, .int 0, .int 0, .int 0, .int 0, .int 0, .int 0, .int (-1), .int 0]) (T := TX6) (C := RX6) (N := 11) hx hb 0 hts inlX6 tyX6 tyX6_ok nmX6 hown hK hG rfl rfl 10 (by decide) mw_96 rfl rfl rfl rfl (Nat.le_of_ble_eq_true rfl) dX6_init_11 hL (fun H locs hG hL => ?_)
  have hG : gr G ([.inr (6, [.int 0, .int 0, .int 0, .int 0, .int 0, .int 0, .int 0, .int 0, .int 0, .int (-1), .int (-1)])]) a s.heap H := hG
  have hG : gr G (lsX6 cA a) a s.heap H := hG
  exact cx_vret hx hb hr hlocks ⟨hG.1, hG.2.1, fun q hq => (hG.2.2 q hq).trans (hb0 q hq)⟩ hL dX6_init_14
abbrev fsX7 : List Value := [.null, .null, .null, .null, .int 0, .int 0, .int 0, .int 0, .null, .int 0, .int 0, .int 0, .int 0]
theorem dfX7 : ∀ j, j < 13 → defaultValue (tyX7 j) = vp_V fsX7 j := fun j hj => by
  rcases (show j = 0 ∨ j = 1 ∨ j = 2 ∨ j = 3 ∨ j = 4 ∨ j = 5 ∨ j = 6 ∨ j = 7 ∨ j = 8 ∨ j = 9 ∨ j = 10 ∨ j = 11 ∨ j = 12 by omega) with rfl | rfl | rfl | rfl | rfl | rfl | rfl | rfl | rfl | rfl | rfl | rfl | rfl <;> rfl
abbrev rm_X7_init : Room := { frames := 1, cells := 5, slots := 760, locals := 20 }
def lsX7 (cA : Nat → ClassId) (a : Nat) : List va_E := [.inr (7, [.ref (a + 2), .ref (a + 3), .ref (a + 4), .ref (a + 5), .int 0, .int 0, .int 0, .int (-1), .ref (a + 1), .int 0, .int 0, .int 0, .int 0]), .inl (cA 0, (600, .inl fun _ => 0)), .inl (cA 0, (40, .inl fun _ => 0)), .inl (cA 0, (40, .inl fun _ => 0)), .inl (cA 0, (40, .inl fun _ => 0)), .inl (cA 0, (40, .inl fun _ => 0))]
set_option maxHeartbeats 8000000 in
set_option maxRecDepth 100000 in
theorem c_X7_init {l : Launch} {G : va_G} {cA : Nat → ClassId} {a : Nat} {H0 : Heap} : Met l yX7_init (cW yX7_init cX7_init 1 none) rm_X7_init (cPn [.ref a] (gr G [.inr (7, fsX7)] a H0) G cA) (cQ none (gr G (lsX7 cA a) a H0)) 5 760 (fun q => a ≤ q) := by
  refine nx_met (by decide) (Nat.le_of_ble_eq_true rfl) (fun p e s m args below meth c ls C0 hN hin hG hl => ?_)
  have hl : lv_has ls 1 [(0, .ref a)] := hl
  obtain ⟨⟨hx, hb, hml, hown, hts⟩, hr, hlocks, hK⟩ := id C0
  have hL : ∀ q ∈ ([] : List Loc), a ≤ q.base := fun q h => nomatch h
  have hin : meth.name = "<init>" := hin
  have hG0 : gr G ([.inr (7, [.null, .null, .null, .null, .int 0, .int 0, .int 0, .int 0, .null, .int 0, .int 0, .int 0, .int 0])]) a s.heap s.heap := ⟨hG.1, hG.2.1, fun _ _ => rfl⟩
  have hb0 := hG.2.2
  generalize hH : s.heap = H at hG0
  replace hG0 : gr G ([.inr (7, [.null, .null, .null, .null, .int 0, .int 0, .int 0, .int 0, .null, .int 0, .int 0, .int 0, .int 0])]) a s.heap H := by rw [hH]; exact hG0
  have hG := hG0
  refine lv_aload_n hx hb dX7_init_0 rfl (lv_at hl 0 rfl) ?_
  refine W.objInit hx hb hown (hts _ mw_40) (hts _ mw_7) (hts _ mw_8) rfl (by rw [hml]; exact hl.1) rfl dX7_init_1 (Nat.le_of_ble_eq_true rfl) (Nat.le_of_ble_eq_true rfl) ?_
  refine W.eq (g2 := F0 m 4 ls []) rfl ?_
  refine lv_aload_n hx hb dX7_init_4 rfl (lv_at hl 0 rfl) ?_
  refine lv_sipush (v := 600) hx hb dX7_init_5 (by decide) ?_
  refine sg_newi (n := 1) (N' := 600) hx hb hts mw_13 hK hG rfl (by decide) (by decide) (Nat.le_of_ble_eq_true rfl) (Nat.le_of_ble_eq_true rfl) (Nat.le_of_ble_eq_true rfl) dX7_init_8 (fun H hG => ?_)
  have hG : gr G ([.inr (7, [.null, .null, .null, .null, .int 0, .int 0, .int 0, .int 0, .null, .int 0, .int 0, .int 0, .int 0]), .inl (cA 0, (600, .inl fun _ => 0))]) a s.heap H := hG
  refine sg_putF (a := a) (ci := 7) (fs := [.null, .null, .null, .null, .int 0, .int 0, .int 0, .int 0, .null, .int 0, .int 0, .int 0, .int 0]) (T := TX7) (C := RX7) (N := 13) hx hb 0 hts inlX7 tyX7 tyX7_ok nmX7 hown hK hG rfl rfl 8 (by decide) mw_41 rfl rfl hin rfl rfl rfl (Nat.le_of_ble_eq_true rfl) dX7_init_10 hL (fun H locs hG hL => ?_)
  have hG : gr G ([.inr (7, [.null, .null, .null, .null, .int 0, .int 0, .int 0, .int 0, .ref (a + 1), .int 0, .int 0, .int 0, .int 0]), .inl (cA 0, (600, .inl fun _ => 0))]) a s.heap H := hG
  refine lv_aload_n hx hb dX7_init_13 rfl (lv_at hl 0 rfl) ?_
  refine lv_bipush (v := 40) hx hb dX7_init_14 (by decide) ?_
  refine sg_newi (n := 2) (N' := 40) hx hb hts mw_13 hK hG rfl (by decide) (by decide) (Nat.le_of_ble_eq_true rfl) (Nat.le_of_ble_eq_true rfl) (Nat.le_of_ble_eq_true rfl) dX7_init_16 (fun H hG => ?_)
  have hG : gr G ([.inr (7, [.null, .null, .null, .null, .int 0, .int 0, .int 0, .int 0, .ref (a + 1), .int 0, .int 0, .int 0, .int 0]), .inl (cA 0, (600, .inl fun _ => 0)), .inl (cA 0, (40, .inl fun _ => 0))]) a s.heap H := hG
  refine sg_putF (a := a) (ci := 7) (fs := [.null, .null, .null, .null, .int 0, .int 0, .int 0, .int 0, .ref (a + 1), .int 0, .int 0, .int 0, .int 0]) (T := TX7) (C := RX7) (N := 13) hx hb 0 hts inlX7 tyX7 tyX7_ok nmX7 hown hK hG rfl rfl 0 (by decide) mw_42 rfl rfl hin rfl rfl rfl (Nat.le_of_ble_eq_true rfl) dX7_init_18 hL (fun H locs hG hL => ?_)
  have hG : gr G ([.inr (7, [.ref (a + 2), .null, .null, .null, .int 0, .int 0, .int 0, .int 0, .ref (a + 1), .int 0, .int 0, .int 0, .int 0]), .inl (cA 0, (600, .inl fun _ => 0)), .inl (cA 0, (40, .inl fun _ => 0))]) a s.heap H := hG
  refine lv_aload_n hx hb dX7_init_21 rfl (lv_at hl 0 rfl) ?_
  refine lv_bipush (v := 40) hx hb dX7_init_22 (by decide) ?_
  refine sg_newi (n := 3) (N' := 40) hx hb hts mw_13 hK hG rfl (by decide) (by decide) (Nat.le_of_ble_eq_true rfl) (Nat.le_of_ble_eq_true rfl) (Nat.le_of_ble_eq_true rfl) dX7_init_24 (fun H hG => ?_)
  have hG : gr G ([.inr (7, [.ref (a + 2), .null, .null, .null, .int 0, .int 0, .int 0, .int 0, .ref (a + 1), .int 0, .int 0, .int 0, .int 0]), .inl (cA 0, (600, .inl fun _ => 0)), .inl (cA 0, (40, .inl fun _ => 0)), .inl (cA 0, (40, .inl fun _ => 0))]) a s.heap H := hG
  refine sg_putF (a := a) (ci := 7) (fs := [.ref (a + 2), .null, .null, .null, .int 0, .int 0, .int 0, .int 0, .ref (a + 1), .int 0, .int 0, .int 0, .int 0]) (T := TX7) (C := RX7) (N := 13) hx hb 0 hts inlX7 tyX7 tyX7_ok nmX7 hown hK hG rfl rfl 1 (by decide) mw_43 rfl rfl hin rfl rfl rfl (Nat.le_of_ble_eq_true rfl) dX7_init_26 hL (fun H locs hG hL => ?_)
  have hG : gr G ([.inr (7, [.ref (a + 2), .ref (a + 3), .null, .null, .int 0, .int 0, .int 0, .int 0, .ref (a + 1), .int 0, .int 0, .int 0, .int 0]), .inl (cA 0, (600, .inl fun _ => 0)), .inl (cA 0, (40, .inl fun _ => 0)), .inl (cA 0, (40, .inl fun _ => 0))]) a s.heap H := hG
  refine lv_aload_n hx hb dX7_init_29 rfl (lv_at hl 0 rfl) ?_
  refine lv_bipush (v := 40) hx hb dX7_init_30 (by decide) ?_
  refine sg_newi (n := 4) (N' := 40) hx hb hts mw_13 hK hG rfl (by decide) (by decide) (Nat.le_of_ble_eq_true rfl) (Nat.le_of_ble_eq_true rfl) (Nat.le_of_ble_eq_true rfl) dX7_init_32 (fun H hG => ?_)
  have hG : gr G ([.inr (7, [.ref (a + 2), .ref (a + 3), .null, .null, .int 0, .int 0, .int 0, .int 0, .ref (a + 1), .int 0, .int 0, .int 0, .int 0]), .inl (cA 0, (600, .inl fun _ => 0)), .inl (cA 0, (40, .inl fun _ => 0)), .inl (cA 0, (40, .inl fun _ => 0)), .inl (cA 0, (40, .inl fun _ => 0))]) a s.heap H := hG
  refine sg_putF (a := a) (ci := 7) (fs := [.ref (a + 2), .ref (a + 3), .null, .null, .int 0, .int 0, .int 0, .int 0, .ref (a + 1), .int 0, .int 0, .int 0, .int 0]) (T := TX7) (C := RX7) (N := 13) hx hb 0 hts inlX7 tyX7 tyX7_ok nmX7 hown hK hG rfl rfl 2 (by decide) mw_44 rfl rfl hin rfl rfl rfl (Nat.le_of_ble_eq_true rfl) dX7_init_34 hL (fun H locs hG hL => ?_)
  have hG : gr G ([.inr (7, [.ref (a + 2), .ref (a + 3), .ref (a + 4), .null, .int 0, .int 0, .int 0, .int 0, .ref (a + 1), .int 0, .int 0, .int 0, .int 0]), .inl (cA 0, (600, .inl fun _ => 0)), .inl (cA 0, (40, .inl fun _ => 0)), .inl (cA 0, (40, .inl fun _ => 0)), .inl (cA 0, (40, .inl fun _ => 0))]) a s.heap H := hG
  refine lv_aload_n hx hb dX7_init_37 rfl (lv_at hl 0 rfl) ?_
  refine lv_bipush (v := 40) hx hb dX7_init_38 (by decide) ?_
  refine sg_newi (n := 5) (N' := 40) hx hb hts mw_13 hK hG rfl (by decide) (by decide) (Nat.le_of_ble_eq_true rfl) (Nat.le_of_ble_eq_true rfl) (Nat.le_of_ble_eq_true rfl) dX7_init_40 (fun H hG => ?_)
  have hG : gr G ([.inr (7, [.ref (a + 2), .ref (a + 3), .ref (a + 4), .null, .int 0, .int 0, .int 0, .int 0, .ref (a + 1), .int 0, .int 0, .int 0, .int 0]), .inl (cA 0, (600, .inl fun _ => 0)), .inl (cA 0, (40, .inl fun _ => 0)), .inl (cA 0, (40, .inl fun _ => 0)), .inl (cA 0, (40, .inl fun _ => 0)), .inl (cA 0, (40, .inl fun _ => 0))]) a s.heap H := hG
  refine sg_putF (a := a) (ci := 7) (fs := [.ref (a + 2), .ref (a + 3), .ref (a + 4), .null, .int 0, .int 0, .int 0, .int 0, .ref (a + 1), .int 0, .int 0, .int 0, .int 0]) (T := TX7) (C := RX7) (N := 13) hx hb 0 hts inlX7 tyX7 tyX7_ok nmX7 hown hK hG rfl rfl 3 (by decide) mw_45 rfl rfl hin rfl rfl rfl (Nat.le_of_ble_eq_true rfl) dX7_init_42 hL (fun H locs hG hL => ?_)
  have hG : gr G ([.inr (7, [.ref (a + 2), .ref (a + 3), .ref (a + 4), .ref (a + 5), .int 0, .int 0, .int 0, .int 0, .ref (a + 1), .int 0, .int 0, .int 0, .int 0]), .inl (cA 0, (600, .inl fun _ => 0)), .inl (cA 0, (40, .inl fun _ => 0)), .inl (cA 0, (40, .inl fun _ => 0)), .inl (cA 0, (40, .inl fun _ => 0)), .inl (cA 0, (40, .inl fun _ => 0))]) a s.heap H := hG
  refine lv_aload_n hx hb dX7_init_45 rfl (lv_at hl 0 rfl) ?_
  refine lv_iconst (v := (-1)) hx hb dX7_init_46 (by decide) ?_
  refine sg_put (a := a) (ci := 7) (fs := [.ref (a + 2), .ref (a + 3), .ref (a + 4), .ref (a + 5), .int 0, .int 0, .int 0, .int 0, .ref (a + 1), .int 0, .int 0, .int 0, .int 0]) (T := TX7) (C := RX7) (N := 13) hx hb 0 hts inlX7 tyX7 tyX7_ok nmX7 hown hK hG rfl rfl 7 (by decide) mw_46 rfl rfl rfl rfl (Nat.le_of_ble_eq_true rfl) dX7_init_47 hL (fun H locs hG hL => ?_)
  have hG : gr G ([.inr (7, [.ref (a + 2), .ref (a + 3), .ref (a + 4), .ref (a + 5), .int 0, .int 0, .int 0, .int (-1), .ref (a + 1), .int 0, .int 0, .int 0, .int 0]), .inl (cA 0, (600, .inl fun _ => 0)), .inl (cA 0, (40, .inl fun _ => 0)), .inl (cA 0, (40, .inl fun _ => 0)), .inl (cA 0, (40, .inl fun _ => 0)), .inl (cA 0, (40, .inl fun _ => 0))]) a s.heap H := hG
  have hG : gr G (lsX7 cA a) a s.heap H := hG
  exact cx_vret hx hb hr hlocks ⟨hG.1, hG.2.1, fun q hq => (hG.2.2 q hq).trans (hb0 q hq)⟩ hL dX7_init_50
/-- the first n hold what they begin with, the others 0 -/
def bIni (n : Nat) (v : Nat → Int32) : Nat → Int32 := fun j => if j < n then v j else 0
theorem bIni_0 (v : Nat → Int32) : bIni 0 v = fun _ => 0 := funext fun j => if_neg (Nat.not_lt_zero j)
theorem bIni_s {n : Nat} {v : Nat → Int32} {x : Int32} (hn : n < 2 ^ 31) (hx : v n = x) : upd (bIni n v) (nI n).toNatClampNeg x = bIni (n + 1) v := by
  rw [nI_clamp hn]
  funext j
  unfold upd bIni
  by_cases h : j = n
  · subst h
    rw [if_pos rfl, if_pos (Nat.lt_succ_self j), hx]
  · rw [if_neg h]
    by_cases h2 : j < n
    · rw [if_pos h2, if_pos (by omega)]
    · rw [if_neg h2, if_neg (by omega)]
def iSt (j : Nat) : Int32 := 5 * nI j - 5 * nI j / 1000 * 1000
def iM1 (_ : Nat) : Int32 := -1
abbrev fsX0 : List Value := [.null, .null, .null, .null, .null, .null, .int 0, .int 0]
theorem dfX0 : ∀ j, j < 8 → defaultValue (tyX0 j) = vp_V fsX0 j := fun j hj => by
  rcases (show j = 0 ∨ j = 1 ∨ j = 2 ∨ j = 3 ∨ j = 4 ∨ j = 5 ∨ j = 6 ∨ j = 7 by omega) with rfl | rfl | rfl | rfl | rfl | rfl | rfl | rfl <;> rfl
abbrev rm_X0_init : Room := { frames := 1, cells := 6, slots := 1200, locals := 20 }
def lsX0 (cA : Nat → ClassId) (a : Nat) : List va_E := [.inr (0, [.ref (a + 1), .ref (a + 2), .ref (a + 3), .ref (a + 4), .ref (a + 5), .ref (a + 6), .int 0, .int 0]), .inl (cA 0, (200, .inl (bIni 200 iSt))), .inl (cA 0, (200, .inl (bIni 200 iM1))), .inl (cA 0, (200, .inl (bIni 200 iM1))), .inl (cA 0, (200, .inl (bIni 200 iM1))), .inl (cA 0, (200, .inl (bIni 200 iM1))), .inl (cA 0, (200, .inl (bIni 200 iM1)))]
set_option maxHeartbeats 8000000 in
set_option maxRecDepth 100000 in
theorem w_X0_init_b60 {p : Program} {l : Launch} {e : Env} {s : State} {m : MethodId} {args : Array Value} {below : List Frame} {meth : Method} {c : Code} {G : va_G} {cA : Nat → ClassId} {H0 : Heap} {a : Nat} (C0 : cB p s m args meth c RX0 cX0_init 2 none G cA) (hb0 : ∀ q : Nat, q < a → s.heap[q]? = H0[q]?) : ∀ (n k : Nat), k + n = 200 → ∀ (H : Heap) (locs : List Loc) (ls : Array Slot), gr G ([.inr (0, [.ref (a + 1), .ref (a + 2), .ref (a + 3), .ref (a + 4), .ref (a + 5), .ref (a + 6), .int 0, .int 0]), .inl (cA 0, (200, .inl (bIni k iSt))), .inl (cA 0, (200, .inl (bIni k iM1))), .inl (cA 0, (200, .inl (bIni k iM1))), .inl (cA 0, (200, .inl (bIni k iM1))), .inl (cA 0, (200, .inl (bIni k iM1))), .inl (cA 0, (200, .inl (bIni k iM1)))]) a s.heap H → (∀ q ∈ locs, a ≤ q.base) → lv_has ls 2 [(1, .int (nI k)), (0, .ref a)] → W p l e rm_X0_init s m args below meth c H locs 6 1200 (MQ below (cQ none (gr G (lsX0 cA a) a H0)) args s 6 1200 (fun q => a ≤ q)) (F0 m 60 ls []) := by
  obtain ⟨⟨hx, hb, hml, hown, hts⟩, hr, hlocks, hK⟩ := id C0
  intro n
  induction n with
  | zero =>
    intro k hk H locs ls hG hL hl
    have e : k = 200 := by omega
    subst e
    refine lv_iload_n hx hb dX0_init_60 rfl (lv_at hl 0 rfl) ?_
    refine lv_sipush (v := 200) hx hb dX0_init_61 (by decide) ?_
    refine lv_icmp_ge (tgt := 121) hx hb dX0_init_64 (by decide) (fun _ => ?_) (fun c9 => absurd (nI_le (Nat.le_refl 200) (by decide)) c9)
    exact cx_vret hx hb hr hlocks ⟨hG.1, hG.2.1, fun q hq => (hG.2.2 q hq).trans (hb0 q hq)⟩ hL dX0_init_121
  | succ n ih =>
    intro k hk H locs ls hG hL hl
    have hk2 : k < 200 := by omega
    refine lv_iload_n hx hb dX0_init_60 rfl (lv_at hl 0 rfl) ?_
    refine lv_sipush (v := 200) hx hb dX0_init_61 (by decide) ?_
    refine lv_icmp_ge (tgt := 121) hx hb dX0_init_64 (by decide) (fun c9 => absurd c9 (nI_ge hk2 (by decide))) (fun _ => ?_)
    refine lv_aload_n hx hb dX0_init_67 rfl (lv_at hl 1 rfl) ?_
    refine sg_get (a := a) (ci := 0) (fs := [.ref (a + 1), .ref (a + 2), .ref (a + 3), .ref (a + 4), .ref (a + 5), .ref (a + 6), .int 0, .int 0]) (T := TX0) (C := RX0) (N := 8) hx hb 0 hts inlX0 hown hK hG rfl rfl 0 (by decide) mw_85 rfl rfl dX0_init_68 ?_
    refine lv_iload_n hx hb dX0_init_71 rfl (lv_at hl 0 rfl) ?_
    refine lv_iconst (v := 5) hx hb dX0_init_72 (by decide) ?_
    refine lv_iload_n hx hb dX0_init_73 rfl (lv_at hl 0 rfl) ?_
    refine lv_imul hx hb dX0_init_74 ?_
    refine lv_sipush (v := 1000) hx hb dX0_init_75 (by decide) ?_
    refine lv_irem hx hb dX0_init_78 (by decide) ?_
    refine sg_iast (a := a) hx hb hK 1 hG rfl (nI_in hk2 (by decide)) dX0_init_79 hL (fun H locs hG hL => ?_)
    rw [bIni_s (v := iSt) (x := 5 * nI k - 5 * nI k / 1000 * 1000) (show k < 2 ^ 31 by omega) rfl] at hG
    have hG : gr G ([.inr (0, [.ref (a + 1), .ref (a + 2), .ref (a + 3), .ref (a + 4), .ref (a + 5), .ref (a + 6), .int 0, .int 0]), .inl (cA 0, (200, .inl (bIni (k + 1) iSt))), .inl (cA 0, (200, .inl (bIni k iM1))), .inl (cA 0, (200, .inl (bIni k iM1))), .inl (cA 0, (200, .inl (bIni k iM1))), .inl (cA 0, (200, .inl (bIni k iM1))), .inl (cA 0, (200, .inl (bIni k iM1)))]) a s.heap H := hG
    refine lv_aload_n hx hb dX0_init_80 rfl (lv_at hl 1 rfl) ?_
    refine sg_get (a := a) (ci := 0) (fs := [.ref (a + 1), .ref (a + 2), .ref (a + 3), .ref (a + 4), .ref (a + 5), .ref (a + 6), .int 0, .int 0]) (T := TX0) (C := RX0) (N := 8) hx hb 0 hts inlX0 hown hK hG rfl rfl 1 (by decide) mw_86 rfl rfl dX0_init_81 ?_
    refine lv_iload_n hx hb dX0_init_84 rfl (lv_at hl 0 rfl) ?_
    refine lv_iconst (v := (-1)) hx hb dX0_init_85 (by decide) ?_
    refine sg_iast (a := a) hx hb hK 2 hG rfl (nI_in hk2 (by decide)) dX0_init_86 hL (fun H locs hG hL => ?_)
    rw [bIni_s (v := iM1) (x := -1) (show k < 2 ^ 31 by omega) rfl] at hG
    have hG : gr G ([.inr (0, [.ref (a + 1), .ref (a + 2), .ref (a + 3), .ref (a + 4), .ref (a + 5), .ref (a + 6), .int 0, .int 0]), .inl (cA 0, (200, .inl (bIni (k + 1) iSt))), .inl (cA 0, (200, .inl (bIni (k + 1) iM1))), .inl (cA 0, (200, .inl (bIni k iM1))), .inl (cA 0, (200, .inl (bIni k iM1))), .inl (cA 0, (200, .inl (bIni k iM1))), .inl (cA 0, (200, .inl (bIni k iM1)))]) a s.heap H := hG
    refine lv_aload_n hx hb dX0_init_87 rfl (lv_at hl 1 rfl) ?_
    refine sg_get (a := a) (ci := 0) (fs := [.ref (a + 1), .ref (a + 2), .ref (a + 3), .ref (a + 4), .ref (a + 5), .ref (a + 6), .int 0, .int 0]) (T := TX0) (C := RX0) (N := 8) hx hb 0 hts inlX0 hown hK hG rfl rfl 2 (by decide) mw_87 rfl rfl dX0_init_88 ?_
    refine lv_iload_n hx hb dX0_init_91 rfl (lv_at hl 0 rfl) ?_
    refine lv_iconst (v := (-1)) hx hb dX0_init_92 (by decide) ?_
    refine sg_iast (a := a) hx hb hK 3 hG rfl (nI_in hk2 (by decide)) dX0_init_93 hL (fun H locs hG hL => ?_)
    rw [bIni_s (v := iM1) (x := -1) (show k < 2 ^ 31 by omega) rfl] at hG
    have hG : gr G ([.inr (0, [.ref (a + 1), .ref (a + 2), .ref (a + 3), .ref (a + 4), .ref (a + 5), .ref (a + 6), .int 0, .int 0]), .inl (cA 0, (200, .inl (bIni (k + 1) iSt))), .inl (cA 0, (200, .inl (bIni (k + 1) iM1))), .inl (cA 0, (200, .inl (bIni (k + 1) iM1))), .inl (cA 0, (200, .inl (bIni k iM1))), .inl (cA 0, (200, .inl (bIni k iM1))), .inl (cA 0, (200, .inl (bIni k iM1)))]) a s.heap H := hG
    refine lv_aload_n hx hb dX0_init_94 rfl (lv_at hl 1 rfl) ?_
    refine sg_get (a := a) (ci := 0) (fs := [.ref (a + 1), .ref (a + 2), .ref (a + 3), .ref (a + 4), .ref (a + 5), .ref (a + 6), .int 0, .int 0]) (T := TX0) (C := RX0) (N := 8) hx hb 0 hts inlX0 hown hK hG rfl rfl 3 (by decide) mw_88 rfl rfl dX0_init_95 ?_
    refine lv_iload_n hx hb dX0_init_98 rfl (lv_at hl 0 rfl) ?_
    refine lv_iconst (v := (-1)) hx hb dX0_init_99 (by decide) ?_
    refine sg_iast (a := a) hx hb hK 4 hG rfl (nI_in hk2 (by decide)) dX0_init_100 hL (fun H locs hG hL => ?_)
    rw [bIni_s (v := iM1) (x := -1) (show k < 2 ^ 31 by omega) rfl] at hG
    have hG : gr G ([.inr (0, [.ref (a + 1), .ref (a + 2), .ref (a + 3), .ref (a + 4), .ref (a + 5), .ref (a + 6), .int 0, .int 0]), .inl (cA 0, (200, .inl (bIni (k + 1) iSt))), .inl (cA 0, (200, .inl (bIni (k + 1) iM1))), .inl (cA 0, (200, .inl (bIni (k + 1) iM1))), .inl (cA 0, (200, .inl (bIni (k + 1) iM1))), .inl (cA 0, (200, .inl (bIni k iM1))), .inl (cA 0, (200, .inl (bIni k iM1)))]) a s.heap H := hG
    refine lv_aload_n hx hb dX0_init_101 rfl (lv_at hl 1 rfl) ?_
    refine sg_get (a := a) (ci := 0) (fs := [.ref (a + 1), .ref (a + 2), .ref (a + 3), .ref (a + 4), .ref (a + 5), .ref (a + 6), .int 0, .int 0]) (T := TX0) (C := RX0) (N := 8) hx hb 0 hts inlX0 hown hK hG rfl rfl 4 (by decide) mw_89 rfl rfl dX0_init_102 ?_
    refine lv_iload_n hx hb dX0_init_105 rfl (lv_at hl 0 rfl) ?_
    refine lv_iconst (v := (-1)) hx hb dX0_init_106 (by decide) ?_
    refine sg_iast (a := a) hx hb hK 5 hG rfl (nI_in hk2 (by decide)) dX0_init_107 hL (fun H locs hG hL => ?_)
    rw [bIni_s (v := iM1) (x := -1) (show k < 2 ^ 31 by omega) rfl] at hG
    have hG : gr G ([.inr (0, [.ref (a + 1), .ref (a + 2), .ref (a + 3), .ref (a + 4), .ref (a + 5), .ref (a + 6), .int 0, .int 0]), .inl (cA 0, (200, .inl (bIni (k + 1) iSt))), .inl (cA 0, (200, .inl (bIni (k + 1) iM1))), .inl (cA 0, (200, .inl (bIni (k + 1) iM1))), .inl (cA 0, (200, .inl (bIni (k + 1) iM1))), .inl (cA 0, (200, .inl (bIni (k + 1) iM1))), .inl (cA 0, (200, .inl (bIni k iM1)))]) a s.heap H := hG
    refine lv_aload_n hx hb dX0_init_108 rfl (lv_at hl 1 rfl) ?_
    refine sg_get (a := a) (ci := 0) (fs := [.ref (a + 1), .ref (a + 2), .ref (a + 3), .ref (a + 4), .ref (a + 5), .ref (a + 6), .int 0, .int 0]) (T := TX0) (C := RX0) (N := 8) hx hb 0 hts inlX0 hown hK hG rfl rfl 5 (by decide) mw_90 rfl rfl dX0_init_109 ?_
    refine lv_iload_n hx hb dX0_init_112 rfl (lv_at hl 0 rfl) ?_
    refine lv_iconst (v := (-1)) hx hb dX0_init_113 (by decide) ?_
    refine sg_iast (a := a) hx hb hK 6 hG rfl (nI_in hk2 (by decide)) dX0_init_114 hL (fun H locs hG hL => ?_)
    rw [bIni_s (v := iM1) (x := -1) (show k < 2 ^ 31 by omega) rfl] at hG
    have hG : gr G ([.inr (0, [.ref (a + 1), .ref (a + 2), .ref (a + 3), .ref (a + 4), .ref (a + 5), .ref (a + 6), .int 0, .int 0]), .inl (cA 0, (200, .inl (bIni (k + 1) iSt))), .inl (cA 0, (200, .inl (bIni (k + 1) iM1))), .inl (cA 0, (200, .inl (bIni (k + 1) iM1))), .inl (cA 0, (200, .inl (bIni (k + 1) iM1))), .inl (cA 0, (200, .inl (bIni (k + 1) iM1))), .inl (cA 0, (200, .inl (bIni (k + 1) iM1)))]) a s.heap H := hG
    refine lv_iinc (v := nI (k + 1)) (lv' := [(1, .int (nI (k + 1))), (0, .ref a)]) hx hb dX0_init_115 hl (k := 0) rfl (nI_1 k) (by decide) rfl (fun ls hl => ?_)
    refine lv_goto (tgt := 60) hx hb dX0_init_118 (by decide) ?_
    exact ih (k + 1) (by omega) _ _ _ hG hL hl
set_option maxHeartbeats 8000000 in
set_option maxRecDepth 100000 in
theorem c_X0_init {l : Launch} {G : va_G} {cA : Nat → ClassId} {a : Nat} {H0 : Heap} : Met l yX0_init (cW yX0_init cX0_init 2 none) rm_X0_init (cPn [.ref a] (gr G [.inr (0, fsX0)] a H0) G cA) (cQ none (gr G (lsX0 cA a) a H0)) 6 1200 (fun q => a ≤ q) := by
  refine nx_met (by decide) (Nat.le_of_ble_eq_true rfl) (fun p e s m args below meth c ls C0 hN hin hG hl => ?_)
  have hl : lv_has ls 2 [(0, .ref a)] := hl
  obtain ⟨⟨hx, hb, hml, hown, hts⟩, hr, hlocks, hK⟩ := id C0
  have hL : ∀ q ∈ ([] : List Loc), a ≤ q.base := fun q h => nomatch h
  have hin : meth.name = "<init>" := hin
  have hG0 : gr G ([.inr (0, [.null, .null, .null, .null, .null, .null, .int 0, .int 0])]) a s.heap s.heap := ⟨hG.1, hG.2.1, fun _ _ => rfl⟩
  have hb0 := hG.2.2
  generalize hH : s.heap = H at hG0
  replace hG0 : gr G ([.inr (0, [.null, .null, .null, .null, .null, .null, .int 0, .int 0])]) a s.heap H := by rw [hH]; exact hG0
  have hG := hG0
  refine lv_aload_n hx hb dX0_init_0 rfl (lv_at hl 0 rfl) ?_
  refine W.objInit hx hb hown (hts _ mw_84) (hts _ mw_7) (hts _ mw_8) rfl (by rw [hml]; exact hl.1) rfl dX0_init_1 (Nat.le_of_ble_eq_true rfl) (Nat.le_of_ble_eq_true rfl) ?_
  refine W.eq (g2 := F0 m 4 ls []) rfl ?_
  refine lv_aload_n hx hb dX0_init_4 rfl (lv_at hl 0 rfl) ?_
  refine lv_sipush (v := 200) hx hb dX0_init_5 (by decide) ?_
  refine sg_newi (n := 1) (N' := 200) hx hb hts mw_13 hK hG rfl (by decide) (by decide) (Nat.le_of_ble_eq_true rfl) (Nat.le_of_ble_eq_true rfl) (Nat.le_of_ble_eq_true rfl) dX0_init_8 (fun H hG => ?_)
  have hG : gr G ([.inr (0, [.null, .null, .null, .null, .null, .null, .int 0, .int 0]), .inl (cA 0, (200, .inl fun _ => 0))]) a s.heap H := hG
  refine sg_putF (a := a) (ci := 0) (fs := [.null, .null, .null, .null, .null, .null, .int 0, .int 0]) (T := TX0) (C := RX0) (N := 8) hx hb 0 hts inlX0 tyX0 tyX0_ok nmX0 hown hK hG rfl rfl 0 (by decide) mw_85 rfl rfl hin rfl rfl rfl (Nat.le_of_ble_eq_true rfl) dX0_init_10 hL (fun H locs hG hL => ?_)
  have hG : gr G ([.inr (0, [.ref (a + 1), .null, .null, .null, .null, .null, .int 0, .int 0]), .inl (cA 0, (200, .inl fun _ => 0))]) a s.heap H := hG
  refine lv_aload_n hx hb dX0_init_13 rfl (lv_at hl 0 rfl) ?_
  refine lv_sipush (v := 200) hx hb dX0_init_14 (by decide) ?_
  refine sg_newi (n := 2) (N' := 200) hx hb hts mw_13 hK hG rfl (by decide) (by decide) (Nat.le_of_ble_eq_true rfl) (Nat.le_of_ble_eq_true rfl) (Nat.le_of_ble_eq_true rfl) dX0_init_17 (fun H hG => ?_)
  have hG : gr G ([.inr (0, [.ref (a + 1), .null, .null, .null, .null, .null, .int 0, .int 0]), .inl (cA 0, (200, .inl fun _ => 0)), .inl (cA 0, (200, .inl fun _ => 0))]) a s.heap H := hG
  refine sg_putF (a := a) (ci := 0) (fs := [.ref (a + 1), .null, .null, .null, .null, .null, .int 0, .int 0]) (T := TX0) (C := RX0) (N := 8) hx hb 0 hts inlX0 tyX0 tyX0_ok nmX0 hown hK hG rfl rfl 1 (by decide) mw_86 rfl rfl hin rfl rfl rfl (Nat.le_of_ble_eq_true rfl) dX0_init_19 hL (fun H locs hG hL => ?_)
  have hG : gr G ([.inr (0, [.ref (a + 1), .ref (a + 2), .null, .null, .null, .null, .int 0, .int 0]), .inl (cA 0, (200, .inl fun _ => 0)), .inl (cA 0, (200, .inl fun _ => 0))]) a s.heap H := hG
  refine lv_aload_n hx hb dX0_init_22 rfl (lv_at hl 0 rfl) ?_
  refine lv_sipush (v := 200) hx hb dX0_init_23 (by decide) ?_
  refine sg_newi (n := 3) (N' := 200) hx hb hts mw_13 hK hG rfl (by decide) (by decide) (Nat.le_of_ble_eq_true rfl) (Nat.le_of_ble_eq_true rfl) (Nat.le_of_ble_eq_true rfl) dX0_init_26 (fun H hG => ?_)
  have hG : gr G ([.inr (0, [.ref (a + 1), .ref (a + 2), .null, .null, .null, .null, .int 0, .int 0]), .inl (cA 0, (200, .inl fun _ => 0)), .inl (cA 0, (200, .inl fun _ => 0)), .inl (cA 0, (200, .inl fun _ => 0))]) a s.heap H := hG
  refine sg_putF (a := a) (ci := 0) (fs := [.ref (a + 1), .ref (a + 2), .null, .null, .null, .null, .int 0, .int 0]) (T := TX0) (C := RX0) (N := 8) hx hb 0 hts inlX0 tyX0 tyX0_ok nmX0 hown hK hG rfl rfl 2 (by decide) mw_87 rfl rfl hin rfl rfl rfl (Nat.le_of_ble_eq_true rfl) dX0_init_28 hL (fun H locs hG hL => ?_)
  have hG : gr G ([.inr (0, [.ref (a + 1), .ref (a + 2), .ref (a + 3), .null, .null, .null, .int 0, .int 0]), .inl (cA 0, (200, .inl fun _ => 0)), .inl (cA 0, (200, .inl fun _ => 0)), .inl (cA 0, (200, .inl fun _ => 0))]) a s.heap H := hG
  refine lv_aload_n hx hb dX0_init_31 rfl (lv_at hl 0 rfl) ?_
  refine lv_sipush (v := 200) hx hb dX0_init_32 (by decide) ?_
  refine sg_newi (n := 4) (N' := 200) hx hb hts mw_13 hK hG rfl (by decide) (by decide) (Nat.le_of_ble_eq_true rfl) (Nat.le_of_ble_eq_true rfl) (Nat.le_of_ble_eq_true rfl) dX0_init_35 (fun H hG => ?_)
  have hG : gr G ([.inr (0, [.ref (a + 1), .ref (a + 2), .ref (a + 3), .null, .null, .null, .int 0, .int 0]), .inl (cA 0, (200, .inl fun _ => 0)), .inl (cA 0, (200, .inl fun _ => 0)), .inl (cA 0, (200, .inl fun _ => 0)), .inl (cA 0, (200, .inl fun _ => 0))]) a s.heap H := hG
  refine sg_putF (a := a) (ci := 0) (fs := [.ref (a + 1), .ref (a + 2), .ref (a + 3), .null, .null, .null, .int 0, .int 0]) (T := TX0) (C := RX0) (N := 8) hx hb 0 hts inlX0 tyX0 tyX0_ok nmX0 hown hK hG rfl rfl 3 (by decide) mw_88 rfl rfl hin rfl rfl rfl (Nat.le_of_ble_eq_true rfl) dX0_init_37 hL (fun H locs hG hL => ?_)
  have hG : gr G ([.inr (0, [.ref (a + 1), .ref (a + 2), .ref (a + 3), .ref (a + 4), .null, .null, .int 0, .int 0]), .inl (cA 0, (200, .inl fun _ => 0)), .inl (cA 0, (200, .inl fun _ => 0)), .inl (cA 0, (200, .inl fun _ => 0)), .inl (cA 0, (200, .inl fun _ => 0))]) a s.heap H := hG
  refine lv_aload_n hx hb dX0_init_40 rfl (lv_at hl 0 rfl) ?_
  refine lv_sipush (v := 200) hx hb dX0_init_41 (by decide) ?_
  refine sg_newi (n := 5) (N' := 200) hx hb hts mw_13 hK hG rfl (by decide) (by decide) (Nat.le_of_ble_eq_true rfl) (Nat.le_of_ble_eq_true rfl) (Nat.le_of_ble_eq_true rfl) dX0_init_44 (fun H hG => ?_)
  have hG : gr G ([.inr (0, [.ref (a + 1), .ref (a + 2), .ref (a + 3), .ref (a + 4), .null, .null, .int 0, .int 0]), .inl (cA 0, (200, .inl fun _ => 0)), .inl (cA 0, (200, .inl fun _ => 0)), .inl (cA 0, (200, .inl fun _ => 0)), .inl (cA 0, (200, .inl fun _ => 0)), .inl (cA 0, (200, .inl fun _ => 0))]) a s.heap H := hG
  refine sg_putF (a := a) (ci := 0) (fs := [.ref (a + 1), .ref (a + 2), .ref (a + 3), .ref (a + 4), .null, .null, .int 0, .int 0]) (T := TX0) (C := RX0) (N := 8) hx hb 0 hts inlX0 tyX0 tyX0_ok nmX0 hown hK hG rfl rfl 4 (by decide) mw_89 rfl rfl hin rfl rfl rfl (Nat.le_of_ble_eq_true rfl) dX0_init_46 hL (fun H locs hG hL => ?_)
  have hG : gr G ([.inr (0, [.ref (a + 1), .ref (a + 2), .ref (a + 3), .ref (a + 4), .ref (a + 5), .null, .int 0, .int 0]), .inl (cA 0, (200, .inl fun _ => 0)), .inl (cA 0, (200, .inl fun _ => 0)), .inl (cA 0, (200, .inl fun _ => 0)), .inl (cA 0, (200, .inl fun _ => 0)), .inl (cA 0, (200, .inl fun _ => 0))]) a s.heap H := hG
  refine lv_aload_n hx hb dX0_init_49 rfl (lv_at hl 0 rfl) ?_
  refine lv_sipush (v := 200) hx hb dX0_init_50 (by decide) ?_
  refine sg_newi (n := 6) (N' := 200) hx hb hts mw_13 hK hG rfl (by decide) (by decide) (Nat.le_of_ble_eq_true rfl) (Nat.le_of_ble_eq_true rfl) (Nat.le_of_ble_eq_true rfl) dX0_init_53 (fun H hG => ?_)
  have hG : gr G ([.inr (0, [.ref (a + 1), .ref (a + 2), .ref (a + 3), .ref (a + 4), .ref (a + 5), .null, .int 0, .int 0]), .inl (cA 0, (200, .inl fun _ => 0)), .inl (cA 0, (200, .inl fun _ => 0)), .inl (cA 0, (200, .inl fun _ => 0)), .inl (cA 0, (200, .inl fun _ => 0)), .inl (cA 0, (200, .inl fun _ => 0)), .inl (cA 0, (200, .inl fun _ => 0))]) a s.heap H := hG
  refine sg_putF (a := a) (ci := 0) (fs := [.ref (a + 1), .ref (a + 2), .ref (a + 3), .ref (a + 4), .ref (a + 5), .null, .int 0, .int 0]) (T := TX0) (C := RX0) (N := 8) hx hb 0 hts inlX0 tyX0 tyX0_ok nmX0 hown hK hG rfl rfl 5 (by decide) mw_90 rfl rfl hin rfl rfl rfl (Nat.le_of_ble_eq_true rfl) dX0_init_55 hL (fun H locs hG hL => ?_)
  have hG : gr G ([.inr (0, [.ref (a + 1), .ref (a + 2), .ref (a + 3), .ref (a + 4), .ref (a + 5), .ref (a + 6), .int 0, .int 0]), .inl (cA 0, (200, .inl fun _ => 0)), .inl (cA 0, (200, .inl fun _ => 0)), .inl (cA 0, (200, .inl fun _ => 0)), .inl (cA 0, (200, .inl fun _ => 0)), .inl (cA 0, (200, .inl fun _ => 0)), .inl (cA 0, (200, .inl fun _ => 0))]) a s.heap H := hG
  refine lv_iconst (v := 0) hx hb dX0_init_58 (by decide) ?_
  refine lv_istore_n (lv' := [(1, .int 0), (0, .ref a)]) hx hb dX0_init_59 rfl hl (by decide) rfl (fun ls hl => ?_)
  have hG : gr G ([.inr (0, [.ref (a + 1), .ref (a + 2), .ref (a + 3), .ref (a + 4), .ref (a + 5), .ref (a + 6), .int 0, .int 0]), .inl (cA 0, (200, .inl (bIni 0 iSt))), .inl (cA 0, (200, .inl (bIni 0 iM1))), .inl (cA 0, (200, .inl (bIni 0 iM1))), .inl (cA 0, (200, .inl (bIni 0 iM1))), .inl (cA 0, (200, .inl (bIni 0 iM1))), .inl (cA 0, (200, .inl (bIni 0 iM1)))]) a s.heap H := by rw [bIni_0, bIni_0]; exact hG
  exact w_X0_init_b60 C0 hb0 200 0 rfl _ _ _ hG hL hl
abbrev fsX1 : List Value := [.null, .null, .null, .null, .null, .null, .null, .null, .null, .int 0, .int 0, .int 0, .int 0, .int 0, .int 0]
theorem dfX1 : ∀ j, j < 15 → defaultValue (tyX1 j) = vp_V fsX1 j := fun j hj => by
  rcases (show j = 0 ∨ j = 1 ∨ j = 2 ∨ j = 3 ∨ j = 4 ∨ j = 5 ∨ j = 6 ∨ j = 7 ∨ j = 8 ∨ j = 9 ∨ j = 10 ∨ j = 11 ∨ j = 12 ∨ j = 13 ∨ j = 14 by omega) with rfl | rfl | rfl | rfl | rfl | rfl | rfl | rfl | rfl | rfl | rfl | rfl | rfl | rfl | rfl <;> rfl
abbrev rm_X1_init : Room := { frames := 2, cells := 24, slots := 1389, locals := 41 }
def lsX1 (cA : Nat → ClassId) (a : Nat) : List va_E := [.inr (1, [.ref (a + 1), .ref (a + 8), .ref (a + 9), .ref (a + 11), .ref (a + 13), .ref (a + 15), .ref (a + 17), .ref (a + 20), .ref (a + 19), .int 0, .int 4, .int 8, .int 6, .int 10, .int 0]), .inr (0, [.ref (a + 2), .ref (a + 3), .ref (a + 4), .ref (a + 5), .ref (a + 6), .ref (a + 7), .int 0, .int 0]), .inl (cA 0, (200, .inl (bIni 200 iSt))), .inl (cA 0, (200, .inl (bIni 200 iM1))), .inl (cA 0, (200, .inl (bIni 200 iM1))), .inl (cA 0, (200, .inl (bIni 200 iM1))), .inl (cA 0, (200, .inl (bIni 200 iM1))), .inl (cA 0, (200, .inl (bIni 200 iM1))), .inr (6, [.int 0, .int 0, .int 0, .int 0, .int 0, .int 0, .int 0, .int 0, .int 0, .int (-1), .int (-1)]), .inr (5, [.ref (a + 10), .int 0]), .inl (cA 0, (24, .inl fun _ => 0)), .inr (5, [.ref (a + 12), .int 0]), .inl (cA 0, (24, .inl fun _ => 0)), .inr (5, [.ref (a + 14), .int 0]), .inl (cA 0, (24, .inl fun _ => 0)), .inr (5, [.ref (a + 16), .int 0]), .inl (cA 0, (24, .inl fun _ => 0)), .inr (5, [.ref (a + 18), .int 0]), .inl (cA 0, (24, .inl fun _ => 0)), .inl (cA 0, (4, .inl fun _ => 0)), .inl (cA 5, (4, .inr (.inr (.inr (.inr (fun j => some (a + (21 + j)))))))), .inr (2, [.int 0, .int 0, .int (-1), .int 0, .int 0, .int 0, .int 0, .int 0]), .inr (2, [.int 0, .int 0, .int (-1), .int 0, .int 0, .int 0, .int 0, .int 0]), .inr (2, [.int 0, .int 0, .int (-1), .int 0, .int 0, .int 0, .int 0, .int 0]), .inr (2, [.int 0, .int 0, .int (-1), .int 0, .int 0, .int 0, .int 0, .int 0])]
set_option maxHeartbeats 8000000 in
set_option maxRecDepth 100000 in
theorem c_X1_init {l : Launch} {G : va_G} {cA : Nat → ClassId} {a : Nat} {H0 : Heap} : Met l yX1_init (cW yX1_init cX1_init 2 none) rm_X1_init (cPn [.ref a] (gr G [.inr (1, fsX1)] a H0) G cA) (cQ none (gr G (lsX1 cA a) a H0)) 24 1389 (fun q => a ≤ q) := by
  refine nx_met (by decide) (Nat.le_of_ble_eq_true rfl) (fun p e s m args below meth c ls C0 hN hin hG hl => ?_)
  have hl : lv_has ls 2 [(0, .ref a)] := hl
  obtain ⟨⟨hx, hb, hml, hown, hts⟩, hr, hlocks, hK⟩ := id C0
  have hL : ∀ q ∈ ([] : List Loc), a ≤ q.base := fun q h => nomatch h
  have hin : meth.name = "<init>" := hin
  have hG0 : gr G ([.inr (1, [.null, .null, .null, .null, .null, .null, .null, .null, .null, .int 0, .int 0, .int 0, .int 0, .int 0, .int 0])]) a s.heap s.heap := ⟨hG.1, hG.2.1, fun _ _ => rfl⟩
  have hb0 := hG.2.2
  generalize hH : s.heap = H at hG0
  replace hG0 : gr G ([.inr (1, [.null, .null, .null, .null, .null, .null, .null, .null, .null, .int 0, .int 0, .int 0, .int 0, .int 0, .int 0])]) a s.heap H := by rw [hH]; exact hG0
  have hG := hG0
  refine lv_aload_n hx hb dX1_init_0 rfl (lv_at hl 0 rfl) ?_
  refine W.objInit hx hb hown (hts _ mw_55) (hts _ mw_7) (hts _ mw_8) rfl (by rw [hml]; exact hl.1) rfl dX1_init_1 (Nat.le_of_ble_eq_true rfl) (Nat.le_of_ble_eq_true rfl) ?_
  refine W.eq (g2 := F0 m 4 ls []) rfl ?_
  refine lv_aload_n hx hb dX1_init_4 rfl (lv_at hl 0 rfl) ?_
  refine sg_new (ci := 0) (fs := fsX0) (C := RX0) (T := TX0) (N := 8) (n := 1) hx hb hts inlX0 tyX0 tyX0_ok hown hK hG rfl rfl dfX0 mw_56 mw_57 mw_58 (Nat.le_of_ble_eq_true rfl) (Nat.le_of_ble_eq_true rfl) dX1_init_5 (fun H hG => ?_)
  refine lv_dup hx hb dX1_init_8 rfl ?_
  refine sg_call (n := 1) ⟨hx, hb, hml, hown, hts⟩ rfl (c_X0_init (a := a + 1) (H0 := H)) (cwI 0 hts (gW mw_83) rfl rfl rfl (hts _ mw_58) (hts _ mw_81) (hts _ mw_82) rfl (by decide +kernel) ⟨Nat.le_of_ble_eq_true rfl, Nat.le_of_ble_eq_true rfl⟩) hN hG hl.1 (Nat.le_of_ble_eq_true rfl) dX1_init_9 ⟨Nat.le_of_ble_eq_true rfl, Nat.le_of_ble_eq_true rfl⟩ hL (fun H locs hG hL => ?_)
  have hG : gr G ([.inr (1, [.null, .null, .null, .null, .null, .null, .null, .null, .null, .int 0, .int 0, .int 0, .int 0, .int 0, .int 0]), .inr (0, [.ref (a + 2), .ref (a + 3), .ref (a + 4), .ref (a + 5), .ref (a + 6), .ref (a + 7), .int 0, .int 0]), .inl (cA 0, (200, .inl (bIni 200 iSt))), .inl (cA 0, (200, .inl (bIni 200 iM1))), .inl (cA 0, (200, .inl (bIni 200 iM1))), .inl (cA 0, (200, .inl (bIni 200 iM1))), .inl (cA 0, (200, .inl (bIni 200 iM1))), .inl (cA 0, (200, .inl (bIni 200 iM1)))]) a s.heap H := hG
  refine sg_putF (a := a) (ci := 1) (fs := [.null, .null, .null, .null, .null, .null, .null, .null, .null, .int 0, .int 0, .int 0, .int 0, .int 0, .int 0]) (T := TX1) (C := RX1) (N := 15) hx hb 0 hts inlX1 tyX1 tyX1_ok nmX1 hown hK hG rfl rfl 0 (by decide) mw_59 rfl rfl hin rfl rfl rfl (Nat.le_of_ble_eq_true rfl) dX1_init_12 hL (fun H locs hG hL => ?_)
  have hG : gr G ([.inr (1, [.ref (a + 1), .null, .null, .null, .null, .null, .null, .null, .null, .int 0, .int 0, .int 0, .int 0, .int 0, .int 0]), .inr (0, [.ref (a + 2), .ref (a + 3), .ref (a + 4), .ref (a + 5), .ref (a + 6), .ref (a + 7), .int 0, .int 0]), .inl (cA 0, (200, .inl (bIni 200 iSt))), .inl (cA 0, (200, .inl (bIni 200 iM1))), .inl (cA 0, (200, .inl (bIni 200 iM1))), .inl (cA 0, (200, .inl (bIni 200 iM1))), .inl (cA 0, (200, .inl (bIni 200 iM1))), .inl (cA 0, (200, .inl (bIni 200 iM1)))]) a s.heap H := hG
  refine lv_aload_n hx hb dX1_init_15 rfl (lv_at hl 0 rfl) ?_
  refine sg_new (ci := 6) (fs := fsX6) (C := RX6) (T := TX6) (N := 11) (n := 8) hx hb hts inlX6 tyX6 tyX6_ok hown hK hG rfl rfl dfX6 mw_60 mw_61 mw_62 (Nat.le_of_ble_eq_true rfl) (Nat.le_of_ble_eq_true rfl) dX1_init_16 (fun H hG => ?_)
  refine lv_dup hx hb dX1_init_19 rfl ?_
  refine sg_call (n := 8) ⟨hx, hb, hml, hown, hts⟩ rfl (c_X6_init (a := a + 8) (H0 := H)) (cwI 0 hts (gW mw_93) rfl rfl rfl (hts _ mw_62) (hts _ mw_91) (hts _ mw_92) rfl (by decide +kernel) ⟨Nat.le_of_ble_eq_true rfl, Nat.le_of_ble_eq_true rfl⟩) hN hG hl.1 (Nat.le_of_ble_eq_true rfl) dX1_init_20 ⟨Nat.le_of_ble_eq_true rfl, Nat.le_of_ble_eq_true rfl⟩ hL (fun H locs hG hL => ?_)
  have hG : gr G ([.inr (1, [.ref (a + 1), .null, .null, .null, .null, .null, .null, .null, .null, .int 0, .int 0, .int 0, .int 0, .int 0, .int 0]), .inr (0, [.ref (a + 2), .ref (a + 3), .ref (a + 4), .ref (a + 5), .ref (a + 6), .ref (a + 7), .int 0, .int 0]), .inl (cA 0, (200, .inl (bIni 200 iSt))), .inl (cA 0, (200, .inl (bIni 200 iM1))), .inl (cA 0, (200, .inl (bIni 200 iM1))), .inl (cA 0, (200, .inl (bIni 200 iM1))), .inl (cA 0, (200, .inl (bIni 200 iM1))), .inl (cA 0, (200, .inl (bIni 200 iM1))), .inr (6, [.int 0, .int 0, .int 0, .int 0, .int 0, .int 0, .int 0, .int 0, .int 0, .int (-1), .int (-1)])]) a s.heap H := hG
  refine sg_putF (a := a) (ci := 1) (fs := [.ref (a + 1), .null, .null, .null, .null, .null, .null, .null, .null, .int 0, .int 0, .int 0, .int 0, .int 0, .int 0]) (T := TX1) (C := RX1) (N := 15) hx hb 0 hts inlX1 tyX1 tyX1_ok nmX1 hown hK hG rfl rfl 1 (by decide) mw_63 rfl rfl hin rfl rfl rfl (Nat.le_of_ble_eq_true rfl) dX1_init_23 hL (fun H locs hG hL => ?_)
  have hG : gr G ([.inr (1, [.ref (a + 1), .ref (a + 8), .null, .null, .null, .null, .null, .null, .null, .int 0, .int 0, .int 0, .int 0, .int 0, .int 0]), .inr (0, [.ref (a + 2), .ref (a + 3), .ref (a + 4), .ref (a + 5), .ref (a + 6), .ref (a + 7), .int 0, .int 0]), .inl (cA 0, (200, .inl (bIni 200 iSt))), .inl (cA 0, (200, .inl (bIni 200 iM1))), .inl (cA 0, (200, .inl (bIni 200 iM1))), .inl (cA 0, (200, .inl (bIni 200 iM1))), .inl (cA 0, (200, .inl (bIni 200 iM1))), .inl (cA 0, (200, .inl (bIni 200 iM1))), .inr (6, [.int 0, .int 0, .int 0, .int 0, .int 0, .int 0, .int 0, .int 0, .int 0, .int (-1), .int (-1)])]) a s.heap H := hG
  refine lv_aload_n hx hb dX1_init_26 rfl (lv_at hl 0 rfl) ?_
  refine sg_new (ci := 5) (fs := fsX5) (C := RX5) (T := TX5) (N := 2) (n := 9) hx hb hts inlX5 tyX5 tyX5_ok hown hK hG rfl rfl dfX5 mw_64 mw_65 mw_66 (Nat.le_of_ble_eq_true rfl) (Nat.le_of_ble_eq_true rfl) dX1_init_27 (fun H hG => ?_)
  refine lv_dup hx hb dX1_init_30 rfl ?_
  refine sg_call (n := 9) ⟨hx, hb, hml, hown, hts⟩ rfl (c_X5_init (a := a + 9) (H0 := H)) (cwI 0 hts (gW mw_99) rfl rfl rfl (hts _ mw_66) (hts _ mw_97) (hts _ mw_98) rfl (by decide +kernel) ⟨Nat.le_of_ble_eq_true rfl, Nat.le_of_ble_eq_true rfl⟩) hN hG hl.1 (Nat.le_of_ble_eq_true rfl) dX1_init_31 ⟨Nat.le_of_ble_eq_true rfl, Nat.le_of_ble_eq_true rfl⟩ hL (fun H locs hG hL => ?_)
  have hG : gr G ([.inr (1, [.ref (a + 1), .ref (a + 8), .null, .null, .null, .null, .null, .null, .null, .int 0, .int 0, .int 0, .int 0, .int 0, .int 0]), .inr (0, [.ref (a + 2), .ref (a + 3), .ref (a + 4), .ref (a + 5), .ref (a + 6), .ref (a + 7), .int 0, .int 0]), .inl (cA 0, (200, .inl (bIni 200 iSt))), .inl (cA 0, (200, .inl (bIni 200 iM1))), .inl (cA 0, (200, .inl (bIni 200 iM1))), .inl (cA 0, (200, .inl (bIni 200 iM1))), .inl (cA 0, (200, .inl (bIni 200 iM1))), .inl (cA 0, (200, .inl (bIni 200 iM1))), .inr (6, [.int 0, .int 0, .int 0, .int 0, .int 0, .int 0, .int 0, .int 0, .int 0, .int (-1), .int (-1)]), .inr (5, [.ref (a + 10), .int 0]), .inl (cA 0, (24, .inl fun _ => 0))]) a s.heap H := hG
  refine sg_putF (a := a) (ci := 1) (fs := [.ref (a + 1), .ref (a + 8), .null, .null, .null, .null, .null, .null, .null, .int 0, .int 0, .int 0, .int 0, .int 0, .int 0]) (T := TX1) (C := RX1) (N := 15) hx hb 0 hts inlX1 tyX1 tyX1_ok nmX1 hown hK hG rfl rfl 2 (by decide) mw_67 rfl rfl hin rfl rfl rfl (Nat.le_of_ble_eq_true rfl) dX1_init_34 hL (fun H locs hG hL => ?_)
  have hG : gr G ([.inr (1, [.ref (a + 1), .ref (a + 8), .ref (a + 9), .null, .null, .null, .null, .null, .null, .int 0, .int 0, .int 0, .int 0, .int 0, .int 0]), .inr (0, [.ref (a + 2), .ref (a + 3), .ref (a + 4), .ref (a + 5), .ref (a + 6), .ref (a + 7), .int 0, .int 0]), .inl (cA 0, (200, .inl (bIni 200 iSt))), .inl (cA 0, (200, .inl (bIni 200 iM1))), .inl (cA 0, (200, .inl (bIni 200 iM1))), .inl (cA 0, (200, .inl (bIni 200 iM1))), .inl (cA 0, (200, .inl (bIni 200 iM1))), .inl (cA 0, (200, .inl (bIni 200 iM1))), .inr (6, [.int 0, .int 0, .int 0, .int 0, .int 0, .int 0, .int 0, .int 0, .int 0, .int (-1), .int (-1)]), .inr (5, [.ref (a + 10), .int 0]), .inl (cA 0, (24, .inl fun _ => 0))]) a s.heap H := hG
  refine lv_aload_n hx hb dX1_init_37 rfl (lv_at hl 0 rfl) ?_
  refine sg_new (ci := 5) (fs := fsX5) (C := RX5) (T := TX5) (N := 2) (n := 11) hx hb hts inlX5 tyX5 tyX5_ok hown hK hG rfl rfl dfX5 mw_64 mw_65 mw_66 (Nat.le_of_ble_eq_true rfl) (Nat.le_of_ble_eq_true rfl) dX1_init_38 (fun H hG => ?_)
  refine lv_dup hx hb dX1_init_41 rfl ?_
  refine sg_call (n := 11) ⟨hx, hb, hml, hown, hts⟩ rfl (c_X5_init (a := a + 11) (H0 := H)) (cwI 0 hts (gW mw_99) rfl rfl rfl (hts _ mw_66) (hts _ mw_97) (hts _ mw_98) rfl (by decide +kernel) ⟨Nat.le_of_ble_eq_true rfl, Nat.le_of_ble_eq_true rfl⟩) hN hG hl.1 (Nat.le_of_ble_eq_true rfl) dX1_init_42 ⟨Nat.le_of_ble_eq_true rfl, Nat.le_of_ble_eq_true rfl⟩ hL (fun H locs hG hL => ?_)
  have hG : gr G ([.inr (1, [.ref (a + 1), .ref (a + 8), .ref (a + 9), .null, .null, .null, .null, .null, .null, .int 0, .int 0, .int 0, .int 0, .int 0, .int 0]), .inr (0, [.ref (a + 2), .ref (a + 3), .ref (a + 4), .ref (a + 5), .ref (a + 6), .ref (a + 7), .int 0, .int 0]), .inl (cA 0, (200, .inl (bIni 200 iSt))), .inl (cA 0, (200, .inl (bIni 200 iM1))), .inl (cA 0, (200, .inl (bIni 200 iM1))), .inl (cA 0, (200, .inl (bIni 200 iM1))), .inl (cA 0, (200, .inl (bIni 200 iM1))), .inl (cA 0, (200, .inl (bIni 200 iM1))), .inr (6, [.int 0, .int 0, .int 0, .int 0, .int 0, .int 0, .int 0, .int 0, .int 0, .int (-1), .int (-1)]), .inr (5, [.ref (a + 10), .int 0]), .inl (cA 0, (24, .inl fun _ => 0)), .inr (5, [.ref (a + 12), .int 0]), .inl (cA 0, (24, .inl fun _ => 0))]) a s.heap H := hG
  refine sg_putF (a := a) (ci := 1) (fs := [.ref (a + 1), .ref (a + 8), .ref (a + 9), .null, .null, .null, .null, .null, .null, .int 0, .int 0, .int 0, .int 0, .int 0, .int 0]) (T := TX1) (C := RX1) (N := 15) hx hb 0 hts inlX1 tyX1 tyX1_ok nmX1 hown hK hG rfl rfl 3 (by decide) mw_68 rfl rfl hin rfl rfl rfl (Nat.le_of_ble_eq_true rfl) dX1_init_45 hL (fun H locs hG hL => ?_)
  have hG : gr G ([.inr (1, [.ref (a + 1), .ref (a + 8), .ref (a + 9), .ref (a + 11), .null, .null, .null, .null, .null, .int 0, .int 0, .int 0, .int 0, .int 0, .int 0]), .inr (0, [.ref (a + 2), .ref (a + 3), .ref (a + 4), .ref (a + 5), .ref (a + 6), .ref (a + 7), .int 0, .int 0]), .inl (cA 0, (200, .inl (bIni 200 iSt))), .inl (cA 0, (200, .inl (bIni 200 iM1))), .inl (cA 0, (200, .inl (bIni 200 iM1))), .inl (cA 0, (200, .inl (bIni 200 iM1))), .inl (cA 0, (200, .inl (bIni 200 iM1))), .inl (cA 0, (200, .inl (bIni 200 iM1))), .inr (6, [.int 0, .int 0, .int 0, .int 0, .int 0, .int 0, .int 0, .int 0, .int 0, .int (-1), .int (-1)]), .inr (5, [.ref (a + 10), .int 0]), .inl (cA 0, (24, .inl fun _ => 0)), .inr (5, [.ref (a + 12), .int 0]), .inl (cA 0, (24, .inl fun _ => 0))]) a s.heap H := hG
  refine lv_aload_n hx hb dX1_init_48 rfl (lv_at hl 0 rfl) ?_
  refine sg_new (ci := 5) (fs := fsX5) (C := RX5) (T := TX5) (N := 2) (n := 13) hx hb hts inlX5 tyX5 tyX5_ok hown hK hG rfl rfl dfX5 mw_64 mw_65 mw_66 (Nat.le_of_ble_eq_true rfl) (Nat.le_of_ble_eq_true rfl) dX1_init_49 (fun H hG => ?_)
  refine lv_dup hx hb dX1_init_52 rfl ?_
  refine sg_call (n := 13) ⟨hx, hb, hml, hown, hts⟩ rfl (c_X5_init (a := a + 13) (H0 := H)) (cwI 0 hts (gW mw_99) rfl rfl rfl (hts _ mw_66) (hts _ mw_97) (hts _ mw_98) rfl (by decide +kernel) ⟨Nat.le_of_ble_eq_true rfl, Nat.le_of_ble_eq_true rfl⟩) hN hG hl.1 (Nat.le_of_ble_eq_true rfl) dX1_init_53 ⟨Nat.le_of_ble_eq_true rfl, Nat.le_of_ble_eq_true rfl⟩ hL (fun H locs hG hL => ?_)
  have hG : gr G ([.inr (1, [.ref (a + 1), .ref (a + 8), .ref (a + 9), .ref (a + 11), .null, .null, .null, .null, .null, .int 0, .int 0, .int 0, .int 0, .int 0, .int 0]), .inr (0, [.ref (a + 2), .ref (a + 3), .ref (a + 4), .ref (a + 5), .ref (a + 6), .ref (a + 7), .int 0, .int 0]), .inl (cA 0, (200, .inl (bIni 200 iSt))), .inl (cA 0, (200, .inl (bIni 200 iM1))), .inl (cA 0, (200, .inl (bIni 200 iM1))), .inl (cA 0, (200, .inl (bIni 200 iM1))), .inl (cA 0, (200, .inl (bIni 200 iM1))), .inl (cA 0, (200, .inl (bIni 200 iM1))), .inr (6, [.int 0, .int 0, .int 0, .int 0, .int 0, .int 0, .int 0, .int 0, .int 0, .int (-1), .int (-1)]), .inr (5, [.ref (a + 10), .int 0]), .inl (cA 0, (24, .inl fun _ => 0)), .inr (5, [.ref (a + 12), .int 0]), .inl (cA 0, (24, .inl fun _ => 0)), .inr (5, [.ref (a + 14), .int 0]), .inl (cA 0, (24, .inl fun _ => 0))]) a s.heap H := hG
  refine sg_putF (a := a) (ci := 1) (fs := [.ref (a + 1), .ref (a + 8), .ref (a + 9), .ref (a + 11), .null, .null, .null, .null, .null, .int 0, .int 0, .int 0, .int 0, .int 0, .int 0]) (T := TX1) (C := RX1) (N := 15) hx hb 0 hts inlX1 tyX1 tyX1_ok nmX1 hown hK hG rfl rfl 4 (by decide) mw_69 rfl rfl hin rfl rfl rfl (Nat.le_of_ble_eq_true rfl) dX1_init_56 hL (fun H locs hG hL => ?_)
  have hG : gr G ([.inr (1, [.ref (a + 1), .ref (a + 8), .ref (a + 9), .ref (a + 11), .ref (a + 13), .null, .null, .null, .null, .int 0, .int 0, .int 0, .int 0, .int 0, .int 0]), .inr (0, [.ref (a + 2), .ref (a + 3), .ref (a + 4), .ref (a + 5), .ref (a + 6), .ref (a + 7), .int 0, .int 0]), .inl (cA 0, (200, .inl (bIni 200 iSt))), .inl (cA 0, (200, .inl (bIni 200 iM1))), .inl (cA 0, (200, .inl (bIni 200 iM1))), .inl (cA 0, (200, .inl (bIni 200 iM1))), .inl (cA 0, (200, .inl (bIni 200 iM1))), .inl (cA 0, (200, .inl (bIni 200 iM1))), .inr (6, [.int 0, .int 0, .int 0, .int 0, .int 0, .int 0, .int 0, .int 0, .int 0, .int (-1), .int (-1)]), .inr (5, [.ref (a + 10), .int 0]), .inl (cA 0, (24, .inl fun _ => 0)), .inr (5, [.ref (a + 12), .int 0]), .inl (cA 0, (24, .inl fun _ => 0)), .inr (5, [.ref (a + 14), .int 0]), .inl (cA 0, (24, .inl fun _ => 0))]) a s.heap H := hG
  refine lv_aload_n hx hb dX1_init_59 rfl (lv_at hl 0 rfl) ?_
  refine sg_new (ci := 5) (fs := fsX5) (C := RX5) (T := TX5) (N := 2) (n := 15) hx hb hts inlX5 tyX5 tyX5_ok hown hK hG rfl rfl dfX5 mw_64 mw_65 mw_66 (Nat.le_of_ble_eq_true rfl) (Nat.le_of_ble_eq_true rfl) dX1_init_60 (fun H hG => ?_)
  refine lv_dup hx hb dX1_init_63 rfl ?_
  refine sg_call (n := 15) ⟨hx, hb, hml, hown, hts⟩ rfl (c_X5_init (a := a + 15) (H0 := H)) (cwI 0 hts (gW mw_99) rfl rfl rfl (hts _ mw_66) (hts _ mw_97) (hts _ mw_98) rfl (by decide +kernel) ⟨Nat.le_of_ble_eq_true rfl, Nat.le_of_ble_eq_true rfl⟩) hN hG hl.1 (Nat.le_of_ble_eq_true rfl) dX1_init_64 ⟨Nat.le_of_ble_eq_true rfl, Nat.le_of_ble_eq_true rfl⟩ hL (fun H locs hG hL => ?_)
  have hG : gr G ([.inr (1, [.ref (a + 1), .ref (a + 8), .ref (a + 9), .ref (a + 11), .ref (a + 13), .null, .null, .null, .null, .int 0, .int 0, .int 0, .int 0, .int 0, .int 0]), .inr (0, [.ref (a + 2), .ref (a + 3), .ref (a + 4), .ref (a + 5), .ref (a + 6), .ref (a + 7), .int 0, .int 0]), .inl (cA 0, (200, .inl (bIni 200 iSt))), .inl (cA 0, (200, .inl (bIni 200 iM1))), .inl (cA 0, (200, .inl (bIni 200 iM1))), .inl (cA 0, (200, .inl (bIni 200 iM1))), .inl (cA 0, (200, .inl (bIni 200 iM1))), .inl (cA 0, (200, .inl (bIni 200 iM1))), .inr (6, [.int 0, .int 0, .int 0, .int 0, .int 0, .int 0, .int 0, .int 0, .int 0, .int (-1), .int (-1)]), .inr (5, [.ref (a + 10), .int 0]), .inl (cA 0, (24, .inl fun _ => 0)), .inr (5, [.ref (a + 12), .int 0]), .inl (cA 0, (24, .inl fun _ => 0)), .inr (5, [.ref (a + 14), .int 0]), .inl (cA 0, (24, .inl fun _ => 0)), .inr (5, [.ref (a + 16), .int 0]), .inl (cA 0, (24, .inl fun _ => 0))]) a s.heap H := hG
  refine sg_putF (a := a) (ci := 1) (fs := [.ref (a + 1), .ref (a + 8), .ref (a + 9), .ref (a + 11), .ref (a + 13), .null, .null, .null, .null, .int 0, .int 0, .int 0, .int 0, .int 0, .int 0]) (T := TX1) (C := RX1) (N := 15) hx hb 0 hts inlX1 tyX1 tyX1_ok nmX1 hown hK hG rfl rfl 5 (by decide) mw_70 rfl rfl hin rfl rfl rfl (Nat.le_of_ble_eq_true rfl) dX1_init_67 hL (fun H locs hG hL => ?_)
  have hG : gr G ([.inr (1, [.ref (a + 1), .ref (a + 8), .ref (a + 9), .ref (a + 11), .ref (a + 13), .ref (a + 15), .null, .null, .null, .int 0, .int 0, .int 0, .int 0, .int 0, .int 0]), .inr (0, [.ref (a + 2), .ref (a + 3), .ref (a + 4), .ref (a + 5), .ref (a + 6), .ref (a + 7), .int 0, .int 0]), .inl (cA 0, (200, .inl (bIni 200 iSt))), .inl (cA 0, (200, .inl (bIni 200 iM1))), .inl (cA 0, (200, .inl (bIni 200 iM1))), .inl (cA 0, (200, .inl (bIni 200 iM1))), .inl (cA 0, (200, .inl (bIni 200 iM1))), .inl (cA 0, (200, .inl (bIni 200 iM1))), .inr (6, [.int 0, .int 0, .int 0, .int 0, .int 0, .int 0, .int 0, .int 0, .int 0, .int (-1), .int (-1)]), .inr (5, [.ref (a + 10), .int 0]), .inl (cA 0, (24, .inl fun _ => 0)), .inr (5, [.ref (a + 12), .int 0]), .inl (cA 0, (24, .inl fun _ => 0)), .inr (5, [.ref (a + 14), .int 0]), .inl (cA 0, (24, .inl fun _ => 0)), .inr (5, [.ref (a + 16), .int 0]), .inl (cA 0, (24, .inl fun _ => 0))]) a s.heap H := hG
  refine lv_aload_n hx hb dX1_init_70 rfl (lv_at hl 0 rfl) ?_
  refine sg_new (ci := 5) (fs := fsX5) (C := RX5) (T := TX5) (N := 2) (n := 17) hx hb hts inlX5 tyX5 tyX5_ok hown hK hG rfl rfl dfX5 mw_64 mw_65 mw_66 (Nat.le_of_ble_eq_true rfl) (Nat.le_of_ble_eq_true rfl) dX1_init_71 (fun H hG => ?_)
  refine lv_dup hx hb dX1_init_74 rfl ?_
  refine sg_call (n := 17) ⟨hx, hb, hml, hown, hts⟩ rfl (c_X5_init (a := a + 17) (H0 := H)) (cwI 0 hts (gW mw_99) rfl rfl rfl (hts _ mw_66) (hts _ mw_97) (hts _ mw_98) rfl (by decide +kernel) ⟨Nat.le_of_ble_eq_true rfl, Nat.le_of_ble_eq_true rfl⟩) hN hG hl.1 (Nat.le_of_ble_eq_true rfl) dX1_init_75 ⟨Nat.le_of_ble_eq_true rfl, Nat.le_of_ble_eq_true rfl⟩ hL (fun H locs hG hL => ?_)
  have hG : gr G ([.inr (1, [.ref (a + 1), .ref (a + 8), .ref (a + 9), .ref (a + 11), .ref (a + 13), .ref (a + 15), .null, .null, .null, .int 0, .int 0, .int 0, .int 0, .int 0, .int 0]), .inr (0, [.ref (a + 2), .ref (a + 3), .ref (a + 4), .ref (a + 5), .ref (a + 6), .ref (a + 7), .int 0, .int 0]), .inl (cA 0, (200, .inl (bIni 200 iSt))), .inl (cA 0, (200, .inl (bIni 200 iM1))), .inl (cA 0, (200, .inl (bIni 200 iM1))), .inl (cA 0, (200, .inl (bIni 200 iM1))), .inl (cA 0, (200, .inl (bIni 200 iM1))), .inl (cA 0, (200, .inl (bIni 200 iM1))), .inr (6, [.int 0, .int 0, .int 0, .int 0, .int 0, .int 0, .int 0, .int 0, .int 0, .int (-1), .int (-1)]), .inr (5, [.ref (a + 10), .int 0]), .inl (cA 0, (24, .inl fun _ => 0)), .inr (5, [.ref (a + 12), .int 0]), .inl (cA 0, (24, .inl fun _ => 0)), .inr (5, [.ref (a + 14), .int 0]), .inl (cA 0, (24, .inl fun _ => 0)), .inr (5, [.ref (a + 16), .int 0]), .inl (cA 0, (24, .inl fun _ => 0)), .inr (5, [.ref (a + 18), .int 0]), .inl (cA 0, (24, .inl fun _ => 0))]) a s.heap H := hG
  refine sg_putF (a := a) (ci := 1) (fs := [.ref (a + 1), .ref (a + 8), .ref (a + 9), .ref (a + 11), .ref (a + 13), .ref (a + 15), .null, .null, .null, .int 0, .int 0, .int 0, .int 0, .int 0, .int 0]) (T := TX1) (C := RX1) (N := 15) hx hb 0 hts inlX1 tyX1 tyX1_ok nmX1 hown hK hG rfl rfl 6 (by decide) mw_71 rfl rfl hin rfl rfl rfl (Nat.le_of_ble_eq_true rfl) dX1_init_78 hL (fun H locs hG hL => ?_)
  have hG : gr G ([.inr (1, [.ref (a + 1), .ref (a + 8), .ref (a + 9), .ref (a + 11), .ref (a + 13), .ref (a + 15), .ref (a + 17), .null, .null, .int 0, .int 0, .int 0, .int 0, .int 0, .int 0]), .inr (0, [.ref (a + 2), .ref (a + 3), .ref (a + 4), .ref (a + 5), .ref (a + 6), .ref (a + 7), .int 0, .int 0]), .inl (cA 0, (200, .inl (bIni 200 iSt))), .inl (cA 0, (200, .inl (bIni 200 iM1))), .inl (cA 0, (200, .inl (bIni 200 iM1))), .inl (cA 0, (200, .inl (bIni 200 iM1))), .inl (cA 0, (200, .inl (bIni 200 iM1))), .inl (cA 0, (200, .inl (bIni 200 iM1))), .inr (6, [.int 0, .int 0, .int 0, .int 0, .int 0, .int 0, .int 0, .int 0, .int 0, .int (-1), .int (-1)]), .inr (5, [.ref (a + 10), .int 0]), .inl (cA 0, (24, .inl fun _ => 0)), .inr (5, [.ref (a + 12), .int 0]), .inl (cA 0, (24, .inl fun _ => 0)), .inr (5, [.ref (a + 14), .int 0]), .inl (cA 0, (24, .inl fun _ => 0)), .inr (5, [.ref (a + 16), .int 0]), .inl (cA 0, (24, .inl fun _ => 0)), .inr (5, [.ref (a + 18), .int 0]), .inl (cA 0, (24, .inl fun _ => 0))]) a s.heap H := hG
  refine lv_aload_n hx hb dX1_init_81 rfl (lv_at hl 0 rfl) ?_
  refine lv_iconst (v := 4) hx hb dX1_init_82 (by decide) ?_
  refine sg_newi (n := 19) (N' := 4) hx hb hts mw_13 hK hG rfl (by decide) (by decide) (Nat.le_of_ble_eq_true rfl) (Nat.le_of_ble_eq_true rfl) (Nat.le_of_ble_eq_true rfl) dX1_init_83 (fun H hG => ?_)
  have hG : gr G ([.inr (1, [.ref (a + 1), .ref (a + 8), .ref (a + 9), .ref (a + 11), .ref (a + 13), .ref (a + 15), .ref (a + 17), .null, .null, .int 0, .int 0, .int 0, .int 0, .int 0, .int 0]), .inr (0, [.ref (a + 2), .ref (a + 3), .ref (a + 4), .ref (a + 5), .ref (a + 6), .ref (a + 7), .int 0, .int 0]), .inl (cA 0, (200, .inl (bIni 200 iSt))), .inl (cA 0, (200, .inl (bIni 200 iM1))), .inl (cA 0, (200, .inl (bIni 200 iM1))), .inl (cA 0, (200, .inl (bIni 200 iM1))), .inl (cA 0, (200, .inl (bIni 200 iM1))), .inl (cA 0, (200, .inl (bIni 200 iM1))), .inr (6, [.int 0, .int 0, .int 0, .int 0, .int 0, .int 0, .int 0, .int 0, .int 0, .int (-1), .int (-1)]), .inr (5, [.ref (a + 10), .int 0]), .inl (cA 0, (24, .inl fun _ => 0)), .inr (5, [.ref (a + 12), .int 0]), .inl (cA 0, (24, .inl fun _ => 0)), .inr (5, [.ref (a + 14), .int 0]), .inl (cA 0, (24, .inl fun _ => 0)), .inr (5, [.ref (a + 16), .int 0]), .inl (cA 0, (24, .inl fun _ => 0)), .inr (5, [.ref (a + 18), .int 0]), .inl (cA 0, (24, .inl fun _ => 0)), .inl (cA 0, (4, .inl fun _ => 0))]) a s.heap H := hG
  refine sg_putF (a := a) (ci := 1) (fs := [.ref (a + 1), .ref (a + 8), .ref (a + 9), .ref (a + 11), .ref (a + 13), .ref (a + 15), .ref (a + 17), .null, .null, .int 0, .int 0, .int 0, .int 0, .int 0, .int 0]) (T := TX1) (C := RX1) (N := 15) hx hb 0 hts inlX1 tyX1 tyX1_ok nmX1 hown hK hG rfl rfl 8 (by decide) mw_72 rfl rfl hin rfl rfl rfl (Nat.le_of_ble_eq_true rfl) dX1_init_85 hL (fun H locs hG hL => ?_)
  have hG : gr G ([.inr (1, [.ref (a + 1), .ref (a + 8), .ref (a + 9), .ref (a + 11), .ref (a + 13), .ref (a + 15), .ref (a + 17), .null, .ref (a + 19), .int 0, .int 0, .int 0, .int 0, .int 0, .int 0]), .inr (0, [.ref (a + 2), .ref (a + 3), .ref (a + 4), .ref (a + 5), .ref (a + 6), .ref (a + 7), .int 0, .int 0]), .inl (cA 0, (200, .inl (bIni 200 iSt))), .inl (cA 0, (200, .inl (bIni 200 iM1))), .inl (cA 0, (200, .inl (bIni 200 iM1))), .inl (cA 0, (200, .inl (bIni 200 iM1))), .inl (cA 0, (200, .inl (bIni 200 iM1))), .inl (cA 0, (200, .inl (bIni 200 iM1))), .inr (6, [.int 0, .int 0, .int 0, .int 0, .int 0, .int 0, .int 0, .int 0, .int 0, .int (-1), .int (-1)]), .inr (5, [.ref (a + 10), .int 0]), .inl (cA 0, (24, .inl fun _ => 0)), .inr (5, [.ref (a + 12), .int 0]), .inl (cA 0, (24, .inl fun _ => 0)), .inr (5, [.ref (a + 14), .int 0]), .inl (cA 0, (24, .inl fun _ => 0)), .inr (5, [.ref (a + 16), .int 0]), .inl (cA 0, (24, .inl fun _ => 0)), .inr (5, [.ref (a + 18), .int 0]), .inl (cA 0, (24, .inl fun _ => 0)), .inl (cA 0, (4, .inl fun _ => 0))]) a s.heap H := hG
  refine lv_aload_n hx hb dX1_init_88 rfl (lv_at hl 0 rfl) ?_
  refine lv_iconst (v := 4) hx hb dX1_init_89 (by decide) ?_
  refine sg_newq (n := 20) (N' := 4) (t0 := 5) hx hb hts hown mw_73 hN.2.2 hK rfl hG rfl (by decide) (by decide) (Nat.le_of_ble_eq_true rfl) (Nat.le_of_ble_eq_true rfl) (Nat.le_of_ble_eq_true rfl) dX1_init_90 (fun H hG => ?_)
  have hG : gr G ([.inr (1, [.ref (a + 1), .ref (a + 8), .ref (a + 9), .ref (a + 11), .ref (a + 13), .ref (a + 15), .ref (a + 17), .null, .ref (a + 19), .int 0, .int 0, .int 0, .int 0, .int 0, .int 0]), .inr (0, [.ref (a + 2), .ref (a + 3), .ref (a + 4), .ref (a + 5), .ref (a + 6), .ref (a + 7), .int 0, .int 0]), .inl (cA 0, (200, .inl (bIni 200 iSt))), .inl (cA 0, (200, .inl (bIni 200 iM1))), .inl (cA 0, (200, .inl (bIni 200 iM1))), .inl (cA 0, (200, .inl (bIni 200 iM1))), .inl (cA 0, (200, .inl (bIni 200 iM1))), .inl (cA 0, (200, .inl (bIni 200 iM1))), .inr (6, [.int 0, .int 0, .int 0, .int 0, .int 0, .int 0, .int 0, .int 0, .int 0, .int (-1), .int (-1)]), .inr (5, [.ref (a + 10), .int 0]), .inl (cA 0, (24, .inl fun _ => 0)), .inr (5, [.ref (a + 12), .int 0]), .inl (cA 0, (24, .inl fun _ => 0)), .inr (5, [.ref (a + 14), .int 0]), .inl (cA 0, (24, .inl fun _ => 0)), .inr (5, [.ref (a + 16), .int 0]), .inl (cA 0, (24, .inl fun _ => 0)), .inr (5, [.ref (a + 18), .int 0]), .inl (cA 0, (24, .inl fun _ => 0)), .inl (cA 0, (4, .inl fun _ => 0)), .inl (cA 5, (4, .inr (.inr (.inr (.inr fun _ => none)))))]) a s.heap H := hG
  refine sg_putF (a := a) (ci := 1) (fs := [.ref (a + 1), .ref (a + 8), .ref (a + 9), .ref (a + 11), .ref (a + 13), .ref (a + 15), .ref (a + 17), .null, .ref (a + 19), .int 0, .int 0, .int 0, .int 0, .int 0, .int 0]) (T := TX1) (C := RX1) (N := 15) hx hb 0 hts inlX1 tyX1 tyX1_ok nmX1 hown hK hG rfl rfl 7 (by decide) mw_74 rfl rfl hin rfl rfl rfl (Nat.le_of_ble_eq_true rfl) dX1_init_93 hL (fun H locs hG hL => ?_)
  have hG : gr G ([.inr (1, [.ref (a + 1), .ref (a + 8), .ref (a + 9), .ref (a + 11), .ref (a + 13), .ref (a + 15), .ref (a + 17), .ref (a + 20), .ref (a + 19), .int 0, .int 0, .int 0, .int 0, .int 0, .int 0]), .inr (0, [.ref (a + 2), .ref (a + 3), .ref (a + 4), .ref (a + 5), .ref (a + 6), .ref (a + 7), .int 0, .int 0]), .inl (cA 0, (200, .inl (bIni 200 iSt))), .inl (cA 0, (200, .inl (bIni 200 iM1))), .inl (cA 0, (200, .inl (bIni 200 iM1))), .inl (cA 0, (200, .inl (bIni 200 iM1))), .inl (cA 0, (200, .inl (bIni 200 iM1))), .inl (cA 0, (200, .inl (bIni 200 iM1))), .inr (6, [.int 0, .int 0, .int 0, .int 0, .int 0, .int 0, .int 0, .int 0, .int 0, .int (-1), .int (-1)]), .inr (5, [.ref (a + 10), .int 0]), .inl (cA 0, (24, .inl fun _ => 0)), .inr (5, [.ref (a + 12), .int 0]), .inl (cA 0, (24, .inl fun _ => 0)), .inr (5, [.ref (a + 14), .int 0]), .inl (cA 0, (24, .inl fun _ => 0)), .inr (5, [.ref (a + 16), .int 0]), .inl (cA 0, (24, .inl fun _ => 0)), .inr (5, [.ref (a + 18), .int 0]), .inl (cA 0, (24, .inl fun _ => 0)), .inl (cA 0, (4, .inl fun _ => 0)), .inl (cA 5, (4, .inr (.inr (.inr (.inr fun _ => none)))))]) a s.heap H := hG
  refine lv_iconst (v := 0) hx hb dX1_init_96 (by decide) ?_
  refine lv_istore_n (lv' := [(1, .int 0), (0, .ref a)]) hx hb dX1_init_97 rfl hl (by decide) rfl (fun ls hl => ?_)
  refine lv_iload_n hx hb dX1_init_98 rfl (lv_at hl 0 rfl) ?_
  refine lv_iconst (v := 4) hx hb dX1_init_99 (by decide) ?_
  refine lv_icmp_ge (tgt := 122) hx hb dX1_init_100 (by decide) (fun c9 => absurd c9 (by decide)) (fun _ => ?_)
  refine lv_aload_n hx hb dX1_init_103 rfl (lv_at hl 1 rfl) ?_
  refine sg_get (a := a) (ci := 1) (fs := [.ref (a + 1), .ref (a + 8), .ref (a + 9), .ref (a + 11), .ref (a + 13), .ref (a + 15), .ref (a + 17), .ref (a + 20), .ref (a + 19), .int 0, .int 0, .int 0, .int 0, .int 0, .int 0]) (T := TX1) (C := RX1) (N := 15) hx hb 0 hts inlX1 hown hK hG rfl rfl 7 (by decide) mw_74 rfl rfl dX1_init_104 ?_
  refine lv_iload_n hx hb dX1_init_107 rfl (lv_at hl 0 rfl) ?_
  refine sg_new (ci := 2) (fs := fsX2) (C := RX2) (T := TX2) (N := 8) (n := 21) hx hb hts inlX2 tyX2 tyX2_ok hown hK hG rfl rfl dfX2 mw_73 mw_75 mw_76 (Nat.le_of_ble_eq_true rfl) (Nat.le_of_ble_eq_true rfl) dX1_init_108 (fun H hG => ?_)
  refine lv_dup hx hb dX1_init_111 rfl ?_
  refine sg_call (n := 21) ⟨hx, hb, hml, hown, hts⟩ rfl (c_X2_init (a := a + 21) (H0 := H)) (cwI 0 hts (gW mw_104) rfl rfl rfl (hts _ mw_76) (hts _ mw_102) (hts _ mw_103) rfl (by decide +kernel) ⟨Nat.le_of_ble_eq_true rfl, Nat.le_of_ble_eq_true rfl⟩) hN hG hl.1 (Nat.le_of_ble_eq_true rfl) dX1_init_112 ⟨Nat.le_of_ble_eq_true rfl, Nat.le_of_ble_eq_true rfl⟩ hL (fun H locs hG hL => ?_)
  have hG : gr G ([.inr (1, [.ref (a + 1), .ref (a + 8), .ref (a + 9), .ref (a + 11), .ref (a + 13), .ref (a + 15), .ref (a + 17), .ref (a + 20), .ref (a + 19), .int 0, .int 0, .int 0, .int 0, .int 0, .int 0]), .inr (0, [.ref (a + 2), .ref (a + 3), .ref (a + 4), .ref (a + 5), .ref (a + 6), .ref (a + 7), .int 0, .int 0]), .inl (cA 0, (200, .inl (bIni 200 iSt))), .inl (cA 0, (200, .inl (bIni 200 iM1))), .inl (cA 0, (200, .inl (bIni 200 iM1))), .inl (cA 0, (200, .inl (bIni 200 iM1))), .inl (cA 0, (200, .inl (bIni 200 iM1))), .inl (cA 0, (200, .inl (bIni 200 iM1))), .inr (6, [.int 0, .int 0, .int 0, .int 0, .int 0, .int 0, .int 0, .int 0, .int 0, .int (-1), .int (-1)]), .inr (5, [.ref (a + 10), .int 0]), .inl (cA 0, (24, .inl fun _ => 0)), .inr (5, [.ref (a + 12), .int 0]), .inl (cA 0, (24, .inl fun _ => 0)), .inr (5, [.ref (a + 14), .int 0]), .inl (cA 0, (24, .inl fun _ => 0)), .inr (5, [.ref (a + 16), .int 0]), .inl (cA 0, (24, .inl fun _ => 0)), .inr (5, [.ref (a + 18), .int 0]), .inl (cA 0, (24, .inl fun _ => 0)), .inl (cA 0, (4, .inl fun _ => 0)), .inl (cA 5, (4, .inr (.inr (.inr (.inr fun _ => none))))), .inr (2, [.int 0, .int 0, .int (-1), .int 0, .int 0, .int 0, .int 0, .int 0])]) a s.heap H := hG
  refine sg_aast (a := a) (n := 4) (f := fun _ => none) (r := (RX2, TX2, 8)) (vs := [.int 0, .int 0, .int (-1), .int 0, .int 0, .int 0, .int 0, .int 0]) hx hb hK 20 21 5 2 hG rfl rfl rfl rfl (by decide) (nI_in (c := 0) (N := 4) (by decide) (by decide)) dX1_init_115 hL (fun H locs hG hL => ?_)
  have hG : gr G ([.inr (1, [.ref (a + 1), .ref (a + 8), .ref (a + 9), .ref (a + 11), .ref (a + 13), .ref (a + 15), .ref (a + 17), .ref (a + 20), .ref (a + 19), .int 0, .int 0, .int 0, .int 0, .int 0, .int 0]), .inr (0, [.ref (a + 2), .ref (a + 3), .ref (a + 4), .ref (a + 5), .ref (a + 6), .ref (a + 7), .int 0, .int 0]), .inl (cA 0, (200, .inl (bIni 200 iSt))), .inl (cA 0, (200, .inl (bIni 200 iM1))), .inl (cA 0, (200, .inl (bIni 200 iM1))), .inl (cA 0, (200, .inl (bIni 200 iM1))), .inl (cA 0, (200, .inl (bIni 200 iM1))), .inl (cA 0, (200, .inl (bIni 200 iM1))), .inr (6, [.int 0, .int 0, .int 0, .int 0, .int 0, .int 0, .int 0, .int 0, .int 0, .int (-1), .int (-1)]), .inr (5, [.ref (a + 10), .int 0]), .inl (cA 0, (24, .inl fun _ => 0)), .inr (5, [.ref (a + 12), .int 0]), .inl (cA 0, (24, .inl fun _ => 0)), .inr (5, [.ref (a + 14), .int 0]), .inl (cA 0, (24, .inl fun _ => 0)), .inr (5, [.ref (a + 16), .int 0]), .inl (cA 0, (24, .inl fun _ => 0)), .inr (5, [.ref (a + 18), .int 0]), .inl (cA 0, (24, .inl fun _ => 0)), .inl (cA 0, (4, .inl fun _ => 0)), .inl (cA 5, (4, .inr (.inr (.inr (.inr (va_up (fun _ => none) (Int32.toNatClampNeg 0) (some (a + 21)))))))), .inr (2, [.int 0, .int 0, .int (-1), .int 0, .int 0, .int 0, .int 0, .int 0])]) a s.heap H := hG
  refine lv_iinc (v := 1) (lv' := [(1, .int 1), (0, .ref a)]) hx hb dX1_init_116 hl (k := 0) rfl (by decide) (by decide) rfl (fun ls hl => ?_)
  refine lv_goto (tgt := 98) hx hb dX1_init_119 (by decide) ?_
  refine lv_iload_n hx hb dX1_init_98 rfl (lv_at hl 0 rfl) ?_
  refine lv_iconst (v := 4) hx hb dX1_init_99 (by decide) ?_
  refine lv_icmp_ge (tgt := 122) hx hb dX1_init_100 (by decide) (fun c9 => absurd c9 (by decide)) (fun _ => ?_)
  refine lv_aload_n hx hb dX1_init_103 rfl (lv_at hl 1 rfl) ?_
  refine sg_get (a := a) (ci := 1) (fs := [.ref (a + 1), .ref (a + 8), .ref (a + 9), .ref (a + 11), .ref (a + 13), .ref (a + 15), .ref (a + 17), .ref (a + 20), .ref (a + 19), .int 0, .int 0, .int 0, .int 0, .int 0, .int 0]) (T := TX1) (C := RX1) (N := 15) hx hb 0 hts inlX1 hown hK hG rfl rfl 7 (by decide) mw_74 rfl rfl dX1_init_104 ?_
  refine lv_iload_n hx hb dX1_init_107 rfl (lv_at hl 0 rfl) ?_
  refine sg_new (ci := 2) (fs := fsX2) (C := RX2) (T := TX2) (N := 8) (n := 22) hx hb hts inlX2 tyX2 tyX2_ok hown hK hG rfl rfl dfX2 mw_73 mw_75 mw_76 (Nat.le_of_ble_eq_true rfl) (Nat.le_of_ble_eq_true rfl) dX1_init_108 (fun H hG => ?_)
  refine lv_dup hx hb dX1_init_111 rfl ?_
  refine sg_call (n := 22) ⟨hx, hb, hml, hown, hts⟩ rfl (c_X2_init (a := a + 22) (H0 := H)) (cwI 0 hts (gW mw_104) rfl rfl rfl (hts _ mw_76) (hts _ mw_102) (hts _ mw_103) rfl (by decide +kernel) ⟨Nat.le_of_ble_eq_true rfl, Nat.le_of_ble_eq_true rfl⟩) hN hG hl.1 (Nat.le_of_ble_eq_true rfl) dX1_init_112 ⟨Nat.le_of_ble_eq_true rfl, Nat.le_of_ble_eq_true rfl⟩ hL (fun H locs hG hL => ?_)
  have hG : gr G ([.inr (1, [.ref (a + 1), .ref (a + 8), .ref (a + 9), .ref (a + 11), .ref (a + 13), .ref (a + 15), .ref (a + 17), .ref (a + 20), .ref (a + 19), .int 0, .int 0, .int 0, .int 0, .int 0, .int 0]), .inr (0, [.ref (a + 2), .ref (a + 3), .ref (a + 4), .ref (a + 5), .ref (a + 6), .ref (a + 7), .int 0, .int 0]), .inl (cA 0, (200, .inl (bIni 200 iSt))), .inl (cA 0, (200, .inl (bIni 200 iM1))), .inl (cA 0, (200, .inl (bIni 200 iM1))), .inl (cA 0, (200, .inl (bIni 200 iM1))), .inl (cA 0, (200, .inl (bIni 200 iM1))), .inl (cA 0, (200, .inl (bIni 200 iM1))), .inr (6, [.int 0, .int 0, .int 0, .int 0, .int 0, .int 0, .int 0, .int 0, .int 0, .int (-1), .int (-1)]), .inr (5, [.ref (a + 10), .int 0]), .inl (cA 0, (24, .inl fun _ => 0)), .inr (5, [.ref (a + 12), .int 0]), .inl (cA 0, (24, .inl fun _ => 0)), .inr (5, [.ref (a + 14), .int 0]), .inl (cA 0, (24, .inl fun _ => 0)), .inr (5, [.ref (a + 16), .int 0]), .inl (cA 0, (24, .inl fun _ => 0)), .inr (5, [.ref (a + 18), .int 0]), .inl (cA 0, (24, .inl fun _ => 0)), .inl (cA 0, (4, .inl fun _ => 0)), .inl (cA 5, (4, .inr (.inr (.inr (.inr (va_up (fun _ => none) (Int32.toNatClampNeg 0) (some (a + 21)))))))), .inr (2, [.int 0, .int 0, .int (-1), .int 0, .int 0, .int 0, .int 0, .int 0]), .inr (2, [.int 0, .int 0, .int (-1), .int 0, .int 0, .int 0, .int 0, .int 0])]) a s.heap H := hG
  refine sg_aast (a := a) (n := 4) (f := va_up (fun _ => none) (Int32.toNatClampNeg 0) (some (a + 21))) (r := (RX2, TX2, 8)) (vs := [.int 0, .int 0, .int (-1), .int 0, .int 0, .int 0, .int 0, .int 0]) hx hb hK 20 22 5 2 hG rfl rfl rfl rfl (by decide) (nI_in (c := 1) (N := 4) (by decide) (by decide)) dX1_init_115 hL (fun H locs hG hL => ?_)
  have hG : gr G ([.inr (1, [.ref (a + 1), .ref (a + 8), .ref (a + 9), .ref (a + 11), .ref (a + 13), .ref (a + 15), .ref (a + 17), .ref (a + 20), .ref (a + 19), .int 0, .int 0, .int 0, .int 0, .int 0, .int 0]), .inr (0, [.ref (a + 2), .ref (a + 3), .ref (a + 4), .ref (a + 5), .ref (a + 6), .ref (a + 7), .int 0, .int 0]), .inl (cA 0, (200, .inl (bIni 200 iSt))), .inl (cA 0, (200, .inl (bIni 200 iM1))), .inl (cA 0, (200, .inl (bIni 200 iM1))), .inl (cA 0, (200, .inl (bIni 200 iM1))), .inl (cA 0, (200, .inl (bIni 200 iM1))), .inl (cA 0, (200, .inl (bIni 200 iM1))), .inr (6, [.int 0, .int 0, .int 0, .int 0, .int 0, .int 0, .int 0, .int 0, .int 0, .int (-1), .int (-1)]), .inr (5, [.ref (a + 10), .int 0]), .inl (cA 0, (24, .inl fun _ => 0)), .inr (5, [.ref (a + 12), .int 0]), .inl (cA 0, (24, .inl fun _ => 0)), .inr (5, [.ref (a + 14), .int 0]), .inl (cA 0, (24, .inl fun _ => 0)), .inr (5, [.ref (a + 16), .int 0]), .inl (cA 0, (24, .inl fun _ => 0)), .inr (5, [.ref (a + 18), .int 0]), .inl (cA 0, (24, .inl fun _ => 0)), .inl (cA 0, (4, .inl fun _ => 0)), .inl (cA 5, (4, .inr (.inr (.inr (.inr (va_up (va_up (fun _ => none) (Int32.toNatClampNeg 0) (some (a + 21))) (Int32.toNatClampNeg 1) (some (a + 22)))))))), .inr (2, [.int 0, .int 0, .int (-1), .int 0, .int 0, .int 0, .int 0, .int 0]), .inr (2, [.int 0, .int 0, .int (-1), .int 0, .int 0, .int 0, .int 0, .int 0])]) a s.heap H := hG
  refine lv_iinc (v := 2) (lv' := [(1, .int 2), (0, .ref a)]) hx hb dX1_init_116 hl (k := 0) rfl (by decide) (by decide) rfl (fun ls hl => ?_)
  refine lv_goto (tgt := 98) hx hb dX1_init_119 (by decide) ?_
  refine lv_iload_n hx hb dX1_init_98 rfl (lv_at hl 0 rfl) ?_
  refine lv_iconst (v := 4) hx hb dX1_init_99 (by decide) ?_
  refine lv_icmp_ge (tgt := 122) hx hb dX1_init_100 (by decide) (fun c9 => absurd c9 (by decide)) (fun _ => ?_)
  refine lv_aload_n hx hb dX1_init_103 rfl (lv_at hl 1 rfl) ?_
  refine sg_get (a := a) (ci := 1) (fs := [.ref (a + 1), .ref (a + 8), .ref (a + 9), .ref (a + 11), .ref (a + 13), .ref (a + 15), .ref (a + 17), .ref (a + 20), .ref (a + 19), .int 0, .int 0, .int 0, .int 0, .int 0, .int 0]) (T := TX1) (C := RX1) (N := 15) hx hb 0 hts inlX1 hown hK hG rfl rfl 7 (by decide) mw_74 rfl rfl dX1_init_104 ?_
  refine lv_iload_n hx hb dX1_init_107 rfl (lv_at hl 0 rfl) ?_
  refine sg_new (ci := 2) (fs := fsX2) (C := RX2) (T := TX2) (N := 8) (n := 23) hx hb hts inlX2 tyX2 tyX2_ok hown hK hG rfl rfl dfX2 mw_73 mw_75 mw_76 (Nat.le_of_ble_eq_true rfl) (Nat.le_of_ble_eq_true rfl) dX1_init_108 (fun H hG => ?_)
  refine lv_dup hx hb dX1_init_111 rfl ?_
  refine sg_call (n := 23) ⟨hx, hb, hml, hown, hts⟩ rfl (c_X2_init (a := a + 23) (H0 := H)) (cwI 0 hts (gW mw_104) rfl rfl rfl (hts _ mw_76) (hts _ mw_102) (hts _ mw_103) rfl (by decide +kernel) ⟨Nat.le_of_ble_eq_true rfl, Nat.le_of_ble_eq_true rfl⟩) hN hG hl.1 (Nat.le_of_ble_eq_true rfl) dX1_init_112 ⟨Nat.le_of_ble_eq_true rfl, Nat.le_of_ble_eq_true rfl⟩ hL (fun H locs hG hL => ?_)
  have hG : gr G ([.inr (1, [.ref (a + 1), .ref (a + 8), .ref (a + 9), .ref (a + 11), .ref (a + 13), .ref (a + 15), .ref (a + 17), .ref (a + 20), .ref (a + 19), .int 0, .int 0, .int 0, .int 0, .int 0, .int 0]), .inr (0, [.ref (a + 2), .ref (a + 3), .ref (a + 4), .ref (a + 5), .ref (a + 6), .ref (a + 7), .int 0, .int 0]), .inl (cA 0, (200, .inl (bIni 200 iSt))), .inl (cA 0, (200, .inl (bIni 200 iM1))), .inl (cA 0, (200, .inl (bIni 200 iM1))), .inl (cA 0, (200, .inl (bIni 200 iM1))), .inl (cA 0, (200, .inl (bIni 200 iM1))), .inl (cA 0, (200, .inl (bIni 200 iM1))), .inr (6, [.int 0, .int 0, .int 0, .int 0, .int 0, .int 0, .int 0, .int 0, .int 0, .int (-1), .int (-1)]), .inr (5, [.ref (a + 10), .int 0]), .inl (cA 0, (24, .inl fun _ => 0)), .inr (5, [.ref (a + 12), .int 0]), .inl (cA 0, (24, .inl fun _ => 0)), .inr (5, [.ref (a + 14), .int 0]), .inl (cA 0, (24, .inl fun _ => 0)), .inr (5, [.ref (a + 16), .int 0]), .inl (cA 0, (24, .inl fun _ => 0)), .inr (5, [.ref (a + 18), .int 0]), .inl (cA 0, (24, .inl fun _ => 0)), .inl (cA 0, (4, .inl fun _ => 0)), .inl (cA 5, (4, .inr (.inr (.inr (.inr (va_up (va_up (fun _ => none) (Int32.toNatClampNeg 0) (some (a + 21))) (Int32.toNatClampNeg 1) (some (a + 22)))))))), .inr (2, [.int 0, .int 0, .int (-1), .int 0, .int 0, .int 0, .int 0, .int 0]), .inr (2, [.int 0, .int 0, .int (-1), .int 0, .int 0, .int 0, .int 0, .int 0]), .inr (2, [.int 0, .int 0, .int (-1), .int 0, .int 0, .int 0, .int 0, .int 0])]) a s.heap H := hG
  refine sg_aast (a := a) (n := 4) (f := va_up (va_up (fun _ => none) (Int32.toNatClampNeg 0) (some (a + 21))) (Int32.toNatClampNeg 1) (some (a + 22))) (r := (RX2, TX2, 8)) (vs := [.int 0, .int 0, .int (-1), .int 0, .int 0, .int 0, .int 0, .int 0]) hx hb hK 20 23 5 2 hG rfl rfl rfl rfl (by decide) (nI_in (c := 2) (N := 4) (by decide) (by decide)) dX1_init_115 hL (fun H locs hG hL => ?_)
  have hG : gr G ([.inr (1, [.ref (a + 1), .ref (a + 8), .ref (a + 9), .ref (a + 11), .ref (a + 13), .ref (a + 15), .ref (a + 17), .ref (a + 20), .ref (a + 19), .int 0, .int 0, .int 0, .int 0, .int 0, .int 0]), .inr (0, [.ref (a + 2), .ref (a + 3), .ref (a + 4), .ref (a + 5), .ref (a + 6), .ref (a + 7), .int 0, .int 0]), .inl (cA 0, (200, .inl (bIni 200 iSt))), .inl (cA 0, (200, .inl (bIni 200 iM1))), .inl (cA 0, (200, .inl (bIni 200 iM1))), .inl (cA 0, (200, .inl (bIni 200 iM1))), .inl (cA 0, (200, .inl (bIni 200 iM1))), .inl (cA 0, (200, .inl (bIni 200 iM1))), .inr (6, [.int 0, .int 0, .int 0, .int 0, .int 0, .int 0, .int 0, .int 0, .int 0, .int (-1), .int (-1)]), .inr (5, [.ref (a + 10), .int 0]), .inl (cA 0, (24, .inl fun _ => 0)), .inr (5, [.ref (a + 12), .int 0]), .inl (cA 0, (24, .inl fun _ => 0)), .inr (5, [.ref (a + 14), .int 0]), .inl (cA 0, (24, .inl fun _ => 0)), .inr (5, [.ref (a + 16), .int 0]), .inl (cA 0, (24, .inl fun _ => 0)), .inr (5, [.ref (a + 18), .int 0]), .inl (cA 0, (24, .inl fun _ => 0)), .inl (cA 0, (4, .inl fun _ => 0)), .inl (cA 5, (4, .inr (.inr (.inr (.inr (va_up (va_up (va_up (fun _ => none) (Int32.toNatClampNeg 0) (some (a + 21))) (Int32.toNatClampNeg 1) (some (a + 22))) (Int32.toNatClampNeg 2) (some (a + 23)))))))), .inr (2, [.int 0, .int 0, .int (-1), .int 0, .int 0, .int 0, .int 0, .int 0]), .inr (2, [.int 0, .int 0, .int (-1), .int 0, .int 0, .int 0, .int 0, .int 0]), .inr (2, [.int 0, .int 0, .int (-1), .int 0, .int 0, .int 0, .int 0, .int 0])]) a s.heap H := hG
  refine lv_iinc (v := 3) (lv' := [(1, .int 3), (0, .ref a)]) hx hb dX1_init_116 hl (k := 0) rfl (by decide) (by decide) rfl (fun ls hl => ?_)
  refine lv_goto (tgt := 98) hx hb dX1_init_119 (by decide) ?_
  refine lv_iload_n hx hb dX1_init_98 rfl (lv_at hl 0 rfl) ?_
  refine lv_iconst (v := 4) hx hb dX1_init_99 (by decide) ?_
  refine lv_icmp_ge (tgt := 122) hx hb dX1_init_100 (by decide) (fun c9 => absurd c9 (by decide)) (fun _ => ?_)
  refine lv_aload_n hx hb dX1_init_103 rfl (lv_at hl 1 rfl) ?_
  refine sg_get (a := a) (ci := 1) (fs := [.ref (a + 1), .ref (a + 8), .ref (a + 9), .ref (a + 11), .ref (a + 13), .ref (a + 15), .ref (a + 17), .ref (a + 20), .ref (a + 19), .int 0, .int 0, .int 0, .int 0, .int 0, .int 0]) (T := TX1) (C := RX1) (N := 15) hx hb 0 hts inlX1 hown hK hG rfl rfl 7 (by decide) mw_74 rfl rfl dX1_init_104 ?_
  refine lv_iload_n hx hb dX1_init_107 rfl (lv_at hl 0 rfl) ?_
  refine sg_new (ci := 2) (fs := fsX2) (C := RX2) (T := TX2) (N := 8) (n := 24) hx hb hts inlX2 tyX2 tyX2_ok hown hK hG rfl rfl dfX2 mw_73 mw_75 mw_76 (Nat.le_of_ble_eq_true rfl) (Nat.le_of_ble_eq_true rfl) dX1_init_108 (fun H hG => ?_)
  refine lv_dup hx hb dX1_init_111 rfl ?_
  refine sg_call (n := 24) ⟨hx, hb, hml, hown, hts⟩ rfl (c_X2_init (a := a + 24) (H0 := H)) (cwI 0 hts (gW mw_104) rfl rfl rfl (hts _ mw_76) (hts _ mw_102) (hts _ mw_103) rfl (by decide +kernel) ⟨Nat.le_of_ble_eq_true rfl, Nat.le_of_ble_eq_true rfl⟩) hN hG hl.1 (Nat.le_of_ble_eq_true rfl) dX1_init_112 ⟨Nat.le_of_ble_eq_true rfl, Nat.le_of_ble_eq_true rfl⟩ hL (fun H locs hG hL => ?_)
  have hG : gr G ([.inr (1, [.ref (a + 1), .ref (a + 8), .ref (a + 9), .ref (a + 11), .ref (a + 13), .ref (a + 15), .ref (a + 17), .ref (a + 20), .ref (a + 19), .int 0, .int 0, .int 0, .int 0, .int 0, .int 0]), .inr (0, [.ref (a + 2), .ref (a + 3), .ref (a + 4), .ref (a + 5), .ref (a + 6), .ref (a + 7), .int 0, .int 0]), .inl (cA 0, (200, .inl (bIni 200 iSt))), .inl (cA 0, (200, .inl (bIni 200 iM1))), .inl (cA 0, (200, .inl (bIni 200 iM1))), .inl (cA 0, (200, .inl (bIni 200 iM1))), .inl (cA 0, (200, .inl (bIni 200 iM1))), .inl (cA 0, (200, .inl (bIni 200 iM1))), .inr (6, [.int 0, .int 0, .int 0, .int 0, .int 0, .int 0, .int 0, .int 0, .int 0, .int (-1), .int (-1)]), .inr (5, [.ref (a + 10), .int 0]), .inl (cA 0, (24, .inl fun _ => 0)), .inr (5, [.ref (a + 12), .int 0]), .inl (cA 0, (24, .inl fun _ => 0)), .inr (5, [.ref (a + 14), .int 0]), .inl (cA 0, (24, .inl fun _ => 0)), .inr (5, [.ref (a + 16), .int 0]), .inl (cA 0, (24, .inl fun _ => 0)), .inr (5, [.ref (a + 18), .int 0]), .inl (cA 0, (24, .inl fun _ => 0)), .inl (cA 0, (4, .inl fun _ => 0)), .inl (cA 5, (4, .inr (.inr (.inr (.inr (va_up (va_up (va_up (fun _ => none) (Int32.toNatClampNeg 0) (some (a + 21))) (Int32.toNatClampNeg 1) (some (a + 22))) (Int32.toNatClampNeg 2) (some (a + 23)))))))), .inr (2, [.int 0, .int 0, .int (-1), .int 0, .int 0, .int 0, .int 0, .int 0]), .inr (2, [.int 0, .int 0, .int (-1), .int 0, .int 0, .int 0, .int 0, .int 0]), .inr (2, [.int 0, .int 0, .int (-1), .int 0, .int 0, .int 0, .int 0, .int 0]), .inr (2, [.int 0, .int 0, .int (-1), .int 0, .int 0, .int 0, .int 0, .int 0])]) a s.heap H := hG
  refine sg_aast (a := a) (n := 4) (f := va_up (va_up (va_up (fun _ => none) (Int32.toNatClampNeg 0) (some (a + 21))) (Int32.toNatClampNeg 1) (some (a + 22))) (Int32.toNatClampNeg 2) (some (a + 23))) (r := (RX2, TX2, 8)) (vs := [.int 0, .int 0, .int (-1), .int 0, .int 0, .int 0, .int 0, .int 0]) hx hb hK 20 24 5 2 hG rfl rfl rfl rfl (by decide) (nI_in (c := 3) (N := 4) (by decide) (by decide)) dX1_init_115 hL (fun H locs hG hL => ?_)
  have hG : gr G ([.inr (1, [.ref (a + 1), .ref (a + 8), .ref (a + 9), .ref (a + 11), .ref (a + 13), .ref (a + 15), .ref (a + 17), .ref (a + 20), .ref (a + 19), .int 0, .int 0, .int 0, .int 0, .int 0, .int 0]), .inr (0, [.ref (a + 2), .ref (a + 3), .ref (a + 4), .ref (a + 5), .ref (a + 6), .ref (a + 7), .int 0, .int 0]), .inl (cA 0, (200, .inl (bIni 200 iSt))), .inl (cA 0, (200, .inl (bIni 200 iM1))), .inl (cA 0, (200, .inl (bIni 200 iM1))), .inl (cA 0, (200, .inl (bIni 200 iM1))), .inl (cA 0, (200, .inl (bIni 200 iM1))), .inl (cA 0, (200, .inl (bIni 200 iM1))), .inr (6, [.int 0, .int 0, .int 0, .int 0, .int 0, .int 0, .int 0, .int 0, .int 0, .int (-1), .int (-1)]), .inr (5, [.ref (a + 10), .int 0]), .inl (cA 0, (24, .inl fun _ => 0)), .inr (5, [.ref (a + 12), .int 0]), .inl (cA 0, (24, .inl fun _ => 0)), .inr (5, [.ref (a + 14), .int 0]), .inl (cA 0, (24, .inl fun _ => 0)), .inr (5, [.ref (a + 16), .int 0]), .inl (cA 0, (24, .inl fun _ => 0)), .inr (5, [.ref (a + 18), .int 0]), .inl (cA 0, (24, .inl fun _ => 0)), .inl (cA 0, (4, .inl fun _ => 0)), .inl (cA 5, (4, .inr (.inr (.inr (.inr (va_up (va_up (va_up (va_up (fun _ => none) (Int32.toNatClampNeg 0) (some (a + 21))) (Int32.toNatClampNeg 1) (some (a + 22))) (Int32.toNatClampNeg 2) (some (a + 23))) (Int32.toNatClampNeg 3) (some (a + 24)))))))), .inr (2, [.int 0, .int 0, .int (-1), .int 0, .int 0, .int 0, .int 0, .int 0]), .inr (2, [.int 0, .int 0, .int (-1), .int 0, .int 0, .int 0, .int 0, .int 0]), .inr (2, [.int 0, .int 0, .int (-1), .int 0, .int 0, .int 0, .int 0, .int 0]), .inr (2, [.int 0, .int 0, .int (-1), .int 0, .int 0, .int 0, .int 0, .int 0])]) a s.heap H := hG
  refine lv_iinc (v := 4) (lv' := [(1, .int 4), (0, .ref a)]) hx hb dX1_init_116 hl (k := 0) rfl (by decide) (by decide) rfl (fun ls hl => ?_)
  refine lv_goto (tgt := 98) hx hb dX1_init_119 (by decide) ?_
  refine lv_iload_n hx hb dX1_init_98 rfl (lv_at hl 0 rfl) ?_
  refine lv_iconst (v := 4) hx hb dX1_init_99 (by decide) ?_
  refine lv_icmp_ge (tgt := 122) hx hb dX1_init_100 (by decide) (fun _ => ?_) (fun c9 => absurd (by decide) c9)
  refine lv_aload_n hx hb dX1_init_122 rfl (lv_at hl 1 rfl) ?_
  refine lv_iconst (v := 4) hx hb dX1_init_123 (by decide) ?_
  refine sg_put (a := a) (ci := 1) (fs := [.ref (a + 1), .ref (a + 8), .ref (a + 9), .ref (a + 11), .ref (a + 13), .ref (a + 15), .ref (a + 17), .ref (a + 20), .ref (a + 19), .int 0, .int 0, .int 0, .int 0, .int 0, .int 0]) (T := TX1) (C := RX1) (N := 15) hx hb 0 hts inlX1 tyX1 tyX1_ok nmX1 hown hK hG rfl rfl 10 (by decide) mw_77 rfl rfl rfl rfl (Nat.le_of_ble_eq_true rfl) dX1_init_124 hL (fun H locs hG hL => ?_)
  have hG : gr G ([.inr (1, [.ref (a + 1), .ref (a + 8), .ref (a + 9), .ref (a + 11), .ref (a + 13), .ref (a + 15), .ref (a + 17), .ref (a + 20), .ref (a + 19), .int 0, .int 4, .int 0, .int 0, .int 0, .int 0]), .inr (0, [.ref (a + 2), .ref (a + 3), .ref (a + 4), .ref (a + 5), .ref (a + 6), .ref (a + 7), .int 0, .int 0]), .inl (cA 0, (200, .inl (bIni 200 iSt))), .inl (cA 0, (200, .inl (bIni 200 iM1))), .inl (cA 0, (200, .inl (bIni 200 iM1))), .inl (cA 0, (200, .inl (bIni 200 iM1))), .inl (cA 0, (200, .inl (bIni 200 iM1))), .inl (cA 0, (200, .inl (bIni 200 iM1))), .inr (6, [.int 0, .int 0, .int 0, .int 0, .int 0, .int 0, .int 0, .int 0, .int 0, .int (-1), .int (-1)]), .inr (5, [.ref (a + 10), .int 0]), .inl (cA 0, (24, .inl fun _ => 0)), .inr (5, [.ref (a + 12), .int 0]), .inl (cA 0, (24, .inl fun _ => 0)), .inr (5, [.ref (a + 14), .int 0]), .inl (cA 0, (24, .inl fun _ => 0)), .inr (5, [.ref (a + 16), .int 0]), .inl (cA 0, (24, .inl fun _ => 0)), .inr (5, [.ref (a + 18), .int 0]), .inl (cA 0, (24, .inl fun _ => 0)), .inl (cA 0, (4, .inl fun _ => 0)), .inl (cA 5, (4, .inr (.inr (.inr (.inr (va_up (va_up (va_up (va_up (fun _ => none) (Int32.toNatClampNeg 0) (some (a + 21))) (Int32.toNatClampNeg 1) (some (a + 22))) (Int32.toNatClampNeg 2) (some (a + 23))) (Int32.toNatClampNeg 3) (some (a + 24)))))))), .inr (2, [.int 0, .int 0, .int (-1), .int 0, .int 0, .int 0, .int 0, .int 0]), .inr (2, [.int 0, .int 0, .int (-1), .int 0, .int 0, .int 0, .int 0, .int 0]), .inr (2, [.int 0, .int 0, .int (-1), .int 0, .int 0, .int 0, .int 0, .int 0]), .inr (2, [.int 0, .int 0, .int (-1), .int 0, .int 0, .int 0, .int 0, .int 0])]) a s.heap H := hG
  refine lv_aload_n hx hb dX1_init_127 rfl (lv_at hl 1 rfl) ?_
  refine lv_bipush (v := 8) hx hb dX1_init_128 (by decide) ?_
  refine sg_put (a := a) (ci := 1) (fs := [.ref (a + 1), .ref (a + 8), .ref (a + 9), .ref (a + 11), .ref (a + 13), .ref (a + 15), .ref (a + 17), .ref (a + 20), .ref (a + 19), .int 0, .int 4, .int 0, .int 0, .int 0, .int 0]) (T := TX1) (C := RX1) (N := 15) hx hb 0 hts inlX1 tyX1 tyX1_ok nmX1 hown hK hG rfl rfl 11 (by decide) mw_78 rfl rfl rfl rfl (Nat.le_of_ble_eq_true rfl) dX1_init_130 hL (fun H locs hG hL => ?_)
  have hG : gr G ([.inr (1, [.ref (a + 1), .ref (a + 8), .ref (a + 9), .ref (a + 11), .ref (a + 13), .ref (a + 15), .ref (a + 17), .ref (a + 20), .ref (a + 19), .int 0, .int 4, .int 8, .int 0, .int 0, .int 0]), .inr (0, [.ref (a + 2), .ref (a + 3), .ref (a + 4), .ref (a + 5), .ref (a + 6), .ref (a + 7), .int 0, .int 0]), .inl (cA 0, (200, .inl (bIni 200 iSt))), .inl (cA 0, (200, .inl (bIni 200 iM1))), .inl (cA 0, (200, .inl (bIni 200 iM1))), .inl (cA 0, (200, .inl (bIni 200 iM1))), .inl (cA 0, (200, .inl (bIni 200 iM1))), .inl (cA 0, (200, .inl (bIni 200 iM1))), .inr (6, [.int 0, .int 0, .int 0, .int 0, .int 0, .int 0, .int 0, .int 0, .int 0, .int (-1), .int (-1)]), .inr (5, [.ref (a + 10), .int 0]), .inl (cA 0, (24, .inl fun _ => 0)), .inr (5, [.ref (a + 12), .int 0]), .inl (cA 0, (24, .inl fun _ => 0)), .inr (5, [.ref (a + 14), .int 0]), .inl (cA 0, (24, .inl fun _ => 0)), .inr (5, [.ref (a + 16), .int 0]), .inl (cA 0, (24, .inl fun _ => 0)), .inr (5, [.ref (a + 18), .int 0]), .inl (cA 0, (24, .inl fun _ => 0)), .inl (cA 0, (4, .inl fun _ => 0)), .inl (cA 5, (4, .inr (.inr (.inr (.inr (va_up (va_up (va_up (va_up (fun _ => none) (Int32.toNatClampNeg 0) (some (a + 21))) (Int32.toNatClampNeg 1) (some (a + 22))) (Int32.toNatClampNeg 2) (some (a + 23))) (Int32.toNatClampNeg 3) (some (a + 24)))))))), .inr (2, [.int 0, .int 0, .int (-1), .int 0, .int 0, .int 0, .int 0, .int 0]), .inr (2, [.int 0, .int 0, .int (-1), .int 0, .int 0, .int 0, .int 0, .int 0]), .inr (2, [.int 0, .int 0, .int (-1), .int 0, .int 0, .int 0, .int 0, .int 0]), .inr (2, [.int 0, .int 0, .int (-1), .int 0, .int 0, .int 0, .int 0, .int 0])]) a s.heap H := hG
  refine lv_aload_n hx hb dX1_init_133 rfl (lv_at hl 1 rfl) ?_
  refine lv_bipush (v := 6) hx hb dX1_init_134 (by decide) ?_
  refine sg_put (a := a) (ci := 1) (fs := [.ref (a + 1), .ref (a + 8), .ref (a + 9), .ref (a + 11), .ref (a + 13), .ref (a + 15), .ref (a + 17), .ref (a + 20), .ref (a + 19), .int 0, .int 4, .int 8, .int 0, .int 0, .int 0]) (T := TX1) (C := RX1) (N := 15) hx hb 0 hts inlX1 tyX1 tyX1_ok nmX1 hown hK hG rfl rfl 12 (by decide) mw_79 rfl rfl rfl rfl (Nat.le_of_ble_eq_true rfl) dX1_init_136 hL (fun H locs hG hL => ?_)
  have hG : gr G ([.inr (1, [.ref (a + 1), .ref (a + 8), .ref (a + 9), .ref (a + 11), .ref (a + 13), .ref (a + 15), .ref (a + 17), .ref (a + 20), .ref (a + 19), .int 0, .int 4, .int 8, .int 6, .int 0, .int 0]), .inr (0, [.ref (a + 2), .ref (a + 3), .ref (a + 4), .ref (a + 5), .ref (a + 6), .ref (a + 7), .int 0, .int 0]), .inl (cA 0, (200, .inl (bIni 200 iSt))), .inl (cA 0, (200, .inl (bIni 200 iM1))), .inl (cA 0, (200, .inl (bIni 200 iM1))), .inl (cA 0, (200, .inl (bIni 200 iM1))), .inl (cA 0, (200, .inl (bIni 200 iM1))), .inl (cA 0, (200, .inl (bIni 200 iM1))), .inr (6, [.int 0, .int 0, .int 0, .int 0, .int 0, .int 0, .int 0, .int 0, .int 0, .int (-1), .int (-1)]), .inr (5, [.ref (a + 10), .int 0]), .inl (cA 0, (24, .inl fun _ => 0)), .inr (5, [.ref (a + 12), .int 0]), .inl (cA 0, (24, .inl fun _ => 0)), .inr (5, [.ref (a + 14), .int 0]), .inl (cA 0, (24, .inl fun _ => 0)), .inr (5, [.ref (a + 16), .int 0]), .inl (cA 0, (24, .inl fun _ => 0)), .inr (5, [.ref (a + 18), .int 0]), .inl (cA 0, (24, .inl fun _ => 0)), .inl (cA 0, (4, .inl fun _ => 0)), .inl (cA 5, (4, .inr (.inr (.inr (.inr (va_up (va_up (va_up (va_up (fun _ => none) (Int32.toNatClampNeg 0) (some (a + 21))) (Int32.toNatClampNeg 1) (some (a + 22))) (Int32.toNatClampNeg 2) (some (a + 23))) (Int32.toNatClampNeg 3) (some (a + 24)))))))), .inr (2, [.int 0, .int 0, .int (-1), .int 0, .int 0, .int 0, .int 0, .int 0]), .inr (2, [.int 0, .int 0, .int (-1), .int 0, .int 0, .int 0, .int 0, .int 0]), .inr (2, [.int 0, .int 0, .int (-1), .int 0, .int 0, .int 0, .int 0, .int 0]), .inr (2, [.int 0, .int 0, .int (-1), .int 0, .int 0, .int 0, .int 0, .int 0])]) a s.heap H := hG
  refine lv_aload_n hx hb dX1_init_139 rfl (lv_at hl 1 rfl) ?_
  refine lv_bipush (v := 10) hx hb dX1_init_140 (by decide) ?_
  refine sg_put (a := a) (ci := 1) (fs := [.ref (a + 1), .ref (a + 8), .ref (a + 9), .ref (a + 11), .ref (a + 13), .ref (a + 15), .ref (a + 17), .ref (a + 20), .ref (a + 19), .int 0, .int 4, .int 8, .int 6, .int 0, .int 0]) (T := TX1) (C := RX1) (N := 15) hx hb 0 hts inlX1 tyX1 tyX1_ok nmX1 hown hK hG rfl rfl 13 (by decide) mw_80 rfl rfl rfl rfl (Nat.le_of_ble_eq_true rfl) dX1_init_142 hL (fun H locs hG hL => ?_)
  have hG : gr G ([.inr (1, [.ref (a + 1), .ref (a + 8), .ref (a + 9), .ref (a + 11), .ref (a + 13), .ref (a + 15), .ref (a + 17), .ref (a + 20), .ref (a + 19), .int 0, .int 4, .int 8, .int 6, .int 10, .int 0]), .inr (0, [.ref (a + 2), .ref (a + 3), .ref (a + 4), .ref (a + 5), .ref (a + 6), .ref (a + 7), .int 0, .int 0]), .inl (cA 0, (200, .inl (bIni 200 iSt))), .inl (cA 0, (200, .inl (bIni 200 iM1))), .inl (cA 0, (200, .inl (bIni 200 iM1))), .inl (cA 0, (200, .inl (bIni 200 iM1))), .inl (cA 0, (200, .inl (bIni 200 iM1))), .inl (cA 0, (200, .inl (bIni 200 iM1))), .inr (6, [.int 0, .int 0, .int 0, .int 0, .int 0, .int 0, .int 0, .int 0, .int 0, .int (-1), .int (-1)]), .inr (5, [.ref (a + 10), .int 0]), .inl (cA 0, (24, .inl fun _ => 0)), .inr (5, [.ref (a + 12), .int 0]), .inl (cA 0, (24, .inl fun _ => 0)), .inr (5, [.ref (a + 14), .int 0]), .inl (cA 0, (24, .inl fun _ => 0)), .inr (5, [.ref (a + 16), .int 0]), .inl (cA 0, (24, .inl fun _ => 0)), .inr (5, [.ref (a + 18), .int 0]), .inl (cA 0, (24, .inl fun _ => 0)), .inl (cA 0, (4, .inl fun _ => 0)), .inl (cA 5, (4, .inr (.inr (.inr (.inr (va_up (va_up (va_up (va_up (fun _ => none) (Int32.toNatClampNeg 0) (some (a + 21))) (Int32.toNatClampNeg 1) (some (a + 22))) (Int32.toNatClampNeg 2) (some (a + 23))) (Int32.toNatClampNeg 3) (some (a + 24)))))))), .inr (2, [.int 0, .int 0, .int (-1), .int 0, .int 0, .int 0, .int 0, .int 0]), .inr (2, [.int 0, .int 0, .int (-1), .int 0, .int 0, .int 0, .int 0, .int 0]), .inr (2, [.int 0, .int 0, .int (-1), .int 0, .int 0, .int 0, .int 0, .int 0]), .inr (2, [.int 0, .int 0, .int (-1), .int 0, .int 0, .int 0, .int 0, .int 0])]) a s.heap H := hG
  replace hG := hG.set (j := 20) rfl (fun _ _ => rfl) (va_atq (f' := fun j => some (a + (21 + j))) (fun j hj => by rcases (show j = 0 ∨ j = 1 ∨ j = 2 ∨ j = 3 by omega) with rfl | rfl | rfl | rfl <;> rfl) (hG.2.1 20 _ rfl))
  have hG : gr G (lsX1 cA a) a s.heap H := hG
  exact cx_vret hx hb hr hlocks ⟨hG.1, hG.2.1, fun q hq => (hG.2.2 q hq).trans (hb0 q hq)⟩ hL dX1_init_145
abbrev fsX3 : List Value := [.null, .int 0, .int 0]
theorem dfX3 : ∀ j, j < 3 → defaultValue (tyX3 j) = vp_V fsX3 j := fun j hj => by
  rcases (show j = 0 ∨ j = 1 ∨ j = 2 by omega) with rfl | rfl | rfl <;> rfl
abbrev rm_X3_init : Room := { frames := 3, cells := 201, slots := 11240, locals := 62 }
def lsX3 (cA : Nat → ClassId) (a : Nat) : List va_E := .inr (3, [.ref (a + 1), .int 0, .int 0]) :: .inl (cA 4, (8, .inr (.inr (.inr (.inr (fun j => some (a + (2 + 25 * j)))))))) :: (lsX1 cA (a + 2) ++ lsX1 cA (a + 27) ++ lsX1 cA (a + 52) ++ lsX1 cA (a + 77) ++ lsX1 cA (a + 102) ++ lsX1 cA (a + 127) ++ lsX1 cA (a + 152) ++ lsX1 cA (a + 177))
abbrev fl1 (a : Nat) : List Value := [.ref (a + 1), .ref (a + 8), .ref (a + 9), .ref (a + 11), .ref (a + 13), .ref (a + 15), .ref (a + 17), .ref (a + 20), .ref (a + 19), .int 0, .int 4, .int 8, .int 6, .int 10, .int 0]
set_option maxHeartbeats 8000000 in
set_option maxRecDepth 100000 in
theorem c_X3_init {l : Launch} {G : va_G} {cA : Nat → ClassId} {a : Nat} {H0 : Heap} : Met l yX3_init (cW yX3_init cX3_init 2 none) rm_X3_init (cPn [.ref a] (gr G [.inr (3, fsX3)] a H0) G cA) (cQ none (gr G (lsX3 cA a) a H0)) 201 11240 (fun q => a ≤ q) := by
  refine nx_met (by decide) (Nat.le_of_ble_eq_true rfl) (fun p e s m args below meth c ls C0 hN hin hG hl => ?_)
  have hl : lv_has ls 2 [(0, .ref a)] := hl
  obtain ⟨⟨hx, hb, hml, hown, hts⟩, hr, hlocks, hK⟩ := id C0
  have hL : ∀ q ∈ ([] : List Loc), a ≤ q.base := fun q h => nomatch h
  have hin : meth.name = "<init>" := hin
  have hG0 : gr G ([.inr (3, [.null, .int 0, .int 0])]) a s.heap s.heap := ⟨hG.1, hG.2.1, fun _ _ => rfl⟩
  have hb0 := hG.2.2
  generalize hH : s.heap = H at hG0
  replace hG0 : gr G ([.inr (3, [.null, .int 0, .int 0])]) a s.heap H := by rw [hH]; exact hG0
  have hG := hG0
  refine lv_aload_n hx hb dX3_init_0 rfl (lv_at hl 0 rfl) ?_
  refine W.objInit hx hb hown (hts _ mw_110) (hts _ mw_7) (hts _ mw_8) rfl (by rw [hml]; exact hl.1) rfl dX3_init_1 (Nat.le_of_ble_eq_true rfl) (Nat.le_of_ble_eq_true rfl) ?_
  refine W.eq (g2 := F0 m 4 ls []) rfl ?_
  refine lv_aload_n hx hb dX3_init_4 rfl (lv_at hl 0 rfl) ?_
  refine lv_bipush (v := 8) hx hb dX3_init_5 (by decide) ?_
  refine sg_newq (n := 1) (N' := 8) (t0 := 4) hx hb hts hown mw_111 hN.2.1 hK rfl hG rfl (by decide) (by decide) (Nat.le_of_ble_eq_true rfl) (Nat.le_of_ble_eq_true rfl) (Nat.le_of_ble_eq_true rfl) dX3_init_7 (fun H hG => ?_)
  have hG : gr G ([.inr (3, [.null, .int 0, .int 0]), .inl (cA 4, (8, .inr (.inr (.inr (.inr fun _ => none)))))]) a s.heap H := hG
  refine sg_putF (a := a) (ci := 3) (fs := [.null, .int 0, .int 0]) (T := TX3) (C := RX3) (N := 3) hx hb 0 hts inlX3 tyX3 tyX3_ok nmX3 hown hK hG rfl rfl 0 (by decide) mw_112 rfl rfl hin rfl rfl rfl (Nat.le_of_ble_eq_true rfl) dX3_init_10 hL (fun H locs hG hL => ?_)
  have hG : gr G ([.inr (3, [.ref (a + 1), .int 0, .int 0]), .inl (cA 4, (8, .inr (.inr (.inr (.inr fun _ => none)))))]) a s.heap H := hG
  refine lv_iconst (v := 0) hx hb dX3_init_13 (by decide) ?_
  refine lv_istore_n (lv' := [(1, .int 0), (0, .ref a)]) hx hb dX3_init_14 rfl hl (by decide) rfl (fun ls hl => ?_)
  refine lv_iload_n hx hb dX3_init_15 rfl (lv_at hl 0 rfl) ?_
  refine lv_bipush (v := 8) hx hb dX3_init_16 (by decide) ?_
  refine lv_icmp_ge (tgt := 40) hx hb dX3_init_18 (by decide) (fun c9 => absurd c9 (by decide)) (fun _ => ?_)
  refine lv_aload_n hx hb dX3_init_21 rfl (lv_at hl 1 rfl) ?_
  refine sg_get (a := a) (ci := 3) (fs := [.ref (a + 1), .int 0, .int 0]) (T := TX3) (C := RX3) (N := 3) hx hb 0 hts inlX3 hown hK hG rfl rfl 0 (by decide) mw_112 rfl rfl dX3_init_22 ?_
  refine lv_iload_n hx hb dX3_init_25 rfl (lv_at hl 0 rfl) ?_
  refine sg_new (ci := 1) (fs := fsX1) (C := RX1) (T := TX1) (N := 15) (n := 2) hx hb hts inlX1 tyX1 tyX1_ok hown hK hG rfl rfl dfX1 mw_111 mw_28 mw_29 (Nat.le_of_ble_eq_true rfl) (Nat.le_of_ble_eq_true rfl) dX3_init_26 (fun H hG => ?_)
  refine lv_dup hx hb dX3_init_29 rfl ?_
  refine sg_call (n := 2) ⟨hx, hb, hml, hown, hts⟩ rfl (c_X1_init (a := a + 2) (H0 := H)) (cwI 0 hts (gW mw_54) rfl rfl rfl (hts _ mw_29) (hts _ mw_113) (hts _ mw_53) rfl (by decide +kernel) ⟨Nat.le_of_ble_eq_true rfl, Nat.le_of_ble_eq_true rfl⟩) hN hG hl.1 (Nat.le_of_ble_eq_true rfl) dX3_init_30 ⟨Nat.le_of_ble_eq_true rfl, Nat.le_of_ble_eq_true rfl⟩ hL (fun H locs hG hL => ?_)
  have hG : gr G (.inr (3, [.ref (a + 1), .int 0, .int 0]) :: .inl (cA 4, (8, .inr (.inr (.inr (.inr fun _ => none))))) :: (lsX1 cA (a + 2))) a s.heap H := hG
  refine sg_aast (a := a) (n := 8) (f := fun _ => none) (r := (RX1, TX1, 15)) (vs := fl1 (a + 2)) hx hb hK 1 2 4 1 hG rfl rfl rfl rfl (by decide) (nI_in (c := 0) (N := 8) (by decide) (by decide)) dX3_init_33 hL (fun H locs hG hL => ?_)
  have hG : gr G (.inr (3, [.ref (a + 1), .int 0, .int 0]) :: .inl (cA 4, (8, .inr (.inr (.inr (.inr (va_up (fun _ => none) (Int32.toNatClampNeg 0) (some (a + 2)))))))) :: (lsX1 cA (a + 2))) a s.heap H := hG
  refine lv_iinc (v := 1) (lv' := [(1, .int 1), (0, .ref a)]) hx hb dX3_init_34 hl (k := 0) rfl (by decide) (by decide) rfl (fun ls hl => ?_)
  refine lv_goto (tgt := 15) hx hb dX3_init_37 (by decide) ?_
  refine lv_iload_n hx hb dX3_init_15 rfl (lv_at hl 0 rfl) ?_
  refine lv_bipush (v := 8) hx hb dX3_init_16 (by decide) ?_
  refine lv_icmp_ge (tgt := 40) hx hb dX3_init_18 (by decide) (fun c9 => absurd c9 (by decide)) (fun _ => ?_)
  refine lv_aload_n hx hb dX3_init_21 rfl (lv_at hl 1 rfl) ?_
  refine sg_get (a := a) (ci := 3) (fs := [.ref (a + 1), .int 0, .int 0]) (T := TX3) (C := RX3) (N := 3) hx hb 0 hts inlX3 hown hK hG rfl rfl 0 (by decide) mw_112 rfl rfl dX3_init_22 ?_
  refine lv_iload_n hx hb dX3_init_25 rfl (lv_at hl 0 rfl) ?_
  refine sg_new (ci := 1) (fs := fsX1) (C := RX1) (T := TX1) (N := 15) (n := 27) hx hb hts inlX1 tyX1 tyX1_ok hown hK hG rfl rfl dfX1 mw_111 mw_28 mw_29 (Nat.le_of_ble_eq_true rfl) (Nat.le_of_ble_eq_true rfl) dX3_init_26 (fun H hG => ?_)
  refine lv_dup hx hb dX3_init_29 rfl ?_
  refine sg_call (n := 27) ⟨hx, hb, hml, hown, hts⟩ rfl (c_X1_init (a := a + 27) (H0 := H)) (cwI 0 hts (gW mw_54) rfl rfl rfl (hts _ mw_29) (hts _ mw_113) (hts _ mw_53) rfl (by decide +kernel) ⟨Nat.le_of_ble_eq_true rfl, Nat.le_of_ble_eq_true rfl⟩) hN hG hl.1 (Nat.le_of_ble_eq_true rfl) dX3_init_30 ⟨Nat.le_of_ble_eq_true rfl, Nat.le_of_ble_eq_true rfl⟩ hL (fun H locs hG hL => ?_)
  have hG : gr G (.inr (3, [.ref (a + 1), .int 0, .int 0]) :: .inl (cA 4, (8, .inr (.inr (.inr (.inr (va_up (fun _ => none) (Int32.toNatClampNeg 0) (some (a + 2)))))))) :: (lsX1 cA (a + 2) ++ lsX1 cA (a + 27))) a s.heap H := hG
  refine sg_aast (a := a) (n := 8) (f := va_up (fun _ => none) (Int32.toNatClampNeg 0) (some (a + 2))) (r := (RX1, TX1, 15)) (vs := fl1 (a + 27)) hx hb hK 1 27 4 1 hG rfl rfl rfl rfl (by decide) (nI_in (c := 1) (N := 8) (by decide) (by decide)) dX3_init_33 hL (fun H locs hG hL => ?_)
  have hG : gr G (.inr (3, [.ref (a + 1), .int 0, .int 0]) :: .inl (cA 4, (8, .inr (.inr (.inr (.inr (va_up (va_up (fun _ => none) (Int32.toNatClampNeg 0) (some (a + 2))) (Int32.toNatClampNeg 1) (some (a + 27)))))))) :: (lsX1 cA (a + 2) ++ lsX1 cA (a + 27))) a s.heap H := hG
  refine lv_iinc (v := 2) (lv' := [(1, .int 2), (0, .ref a)]) hx hb dX3_init_34 hl (k := 0) rfl (by decide) (by decide) rfl (fun ls hl => ?_)
  refine lv_goto (tgt := 15) hx hb dX3_init_37 (by decide) ?_
  refine lv_iload_n hx hb dX3_init_15 rfl (lv_at hl 0 rfl) ?_
  refine lv_bipush (v := 8) hx hb dX3_init_16 (by decide) ?_
  refine lv_icmp_ge (tgt := 40) hx hb dX3_init_18 (by decide) (fun c9 => absurd c9 (by decide)) (fun _ => ?_)
  refine lv_aload_n hx hb dX3_init_21 rfl (lv_at hl 1 rfl) ?_
  refine sg_get (a := a) (ci := 3) (fs := [.ref (a + 1), .int 0, .int 0]) (T := TX3) (C := RX3) (N := 3) hx hb 0 hts inlX3 hown hK hG rfl rfl 0 (by decide) mw_112 rfl rfl dX3_init_22 ?_
  refine lv_iload_n hx hb dX3_init_25 rfl (lv_at hl 0 rfl) ?_
  refine sg_new (ci := 1) (fs := fsX1) (C := RX1) (T := TX1) (N := 15) (n := 52) hx hb hts inlX1 tyX1 tyX1_ok hown hK hG rfl rfl dfX1 mw_111 mw_28 mw_29 (Nat.le_of_ble_eq_true rfl) (Nat.le_of_ble_eq_true rfl) dX3_init_26 (fun H hG => ?_)
  refine lv_dup hx hb dX3_init_29 rfl ?_
  refine sg_call (n := 52) ⟨hx, hb, hml, hown, hts⟩ rfl (c_X1_init (a := a + 52) (H0 := H)) (cwI 0 hts (gW mw_54) rfl rfl rfl (hts _ mw_29) (hts _ mw_113) (hts _ mw_53) rfl (by decide +kernel) ⟨Nat.le_of_ble_eq_true rfl, Nat.le_of_ble_eq_true rfl⟩) hN hG hl.1 (Nat.le_of_ble_eq_true rfl) dX3_init_30 ⟨Nat.le_of_ble_eq_true rfl, Nat.le_of_ble_eq_true rfl⟩ hL (fun H locs hG hL => ?_)
  have hG : gr G (.inr (3, [.ref (a + 1), .int 0, .int 0]) :: .inl (cA 4, (8, .inr (.inr (.inr (.inr (va_up (va_up (fun _ => none) (Int32.toNatClampNeg 0) (some (a + 2))) (Int32.toNatClampNeg 1) (some (a + 27)))))))) :: (lsX1 cA (a + 2) ++ lsX1 cA (a + 27) ++ lsX1 cA (a + 52))) a s.heap H := hG
  refine sg_aast (a := a) (n := 8) (f := va_up (va_up (fun _ => none) (Int32.toNatClampNeg 0) (some (a + 2))) (Int32.toNatClampNeg 1) (some (a + 27))) (r := (RX1, TX1, 15)) (vs := fl1 (a + 52)) hx hb hK 1 52 4 1 hG rfl rfl rfl rfl (by decide) (nI_in (c := 2) (N := 8) (by decide) (by decide)) dX3_init_33 hL (fun H locs hG hL => ?_)
  have hG : gr G (.inr (3, [.ref (a + 1), .int 0, .int 0]) :: .inl (cA 4, (8, .inr (.inr (.inr (.inr (va_up (va_up (va_up (fun _ => none) (Int32.toNatClampNeg 0) (some (a + 2))) (Int32.toNatClampNeg 1) (some (a + 27))) (Int32.toNatClampNeg 2) (some (a + 52)))))))) :: (lsX1 cA (a + 2) ++ lsX1 cA (a + 27) ++ lsX1 cA (a + 52))) a s.heap H := hG
  refine lv_iinc (v := 3) (lv' := [(1, .int 3), (0, .ref a)]) hx hb dX3_init_34 hl (k := 0) rfl (by decide) (by decide) rfl (fun ls hl => ?_)
  refine lv_goto (tgt := 15) hx hb dX3_init_37 (by decide) ?_
  refine lv_iload_n hx hb dX3_init_15 rfl (lv_at hl 0 rfl) ?_
  refine lv_bipush (v := 8) hx hb dX3_init_16 (by decide) ?_
  refine lv_icmp_ge (tgt := 40) hx hb dX3_init_18 (by decide) (fun c9 => absurd c9 (by decide)) (fun _ => ?_)
  refine lv_aload_n hx hb dX3_init_21 rfl (lv_at hl 1 rfl) ?_
  refine sg_get (a := a) (ci := 3) (fs := [.ref (a + 1), .int 0, .int 0]) (T := TX3) (C := RX3) (N := 3) hx hb 0 hts inlX3 hown hK hG rfl rfl 0 (by decide) mw_112 rfl rfl dX3_init_22 ?_
  refine lv_iload_n hx hb dX3_init_25 rfl (lv_at hl 0 rfl) ?_
  refine sg_new (ci := 1) (fs := fsX1) (C := RX1) (T := TX1) (N := 15) (n := 77) hx hb hts inlX1 tyX1 tyX1_ok hown hK hG rfl rfl dfX1 mw_111 mw_28 mw_29 (Nat.le_of_ble_eq_true rfl) (Nat.le_of_ble_eq_true rfl) dX3_init_26 (fun H hG => ?_)
  refine lv_dup hx hb dX3_init_29 rfl ?_
  refine sg_call (n := 77) ⟨hx, hb, hml, hown, hts⟩ rfl (c_X1_init (a := a + 77) (H0 := H)) (cwI 0 hts (gW mw_54) rfl rfl rfl (hts _ mw_29) (hts _ mw_113) (hts _ mw_53) rfl (by decide +kernel) ⟨Nat.le_of_ble_eq_true rfl, Nat.le_of_ble_eq_true rfl⟩) hN hG hl.1 (Nat.le_of_ble_eq_true rfl) dX3_init_30 ⟨Nat.le_of_ble_eq_true rfl, Nat.le_of_ble_eq_true rfl⟩ hL (fun H locs hG hL => ?_)
  have hG : gr G (.inr (3, [.ref (a + 1), .int 0, .int 0]) :: .inl (cA 4, (8, .inr (.inr (.inr (.inr (va_up (va_up (va_up (fun _ => none) (Int32.toNatClampNeg 0) (some (a + 2))) (Int32.toNatClampNeg 1) (some (a + 27))) (Int32.toNatClampNeg 2) (some (a + 52)))))))) :: (lsX1 cA (a + 2) ++ lsX1 cA (a + 27) ++ lsX1 cA (a + 52) ++ lsX1 cA (a + 77))) a s.heap H := hG
  refine sg_aast (a := a) (n := 8) (f := va_up (va_up (va_up (fun _ => none) (Int32.toNatClampNeg 0) (some (a + 2))) (Int32.toNatClampNeg 1) (some (a + 27))) (Int32.toNatClampNeg 2) (some (a + 52))) (r := (RX1, TX1, 15)) (vs := fl1 (a + 77)) hx hb hK 1 77 4 1 hG rfl rfl rfl rfl (by decide) (nI_in (c := 3) (N := 8) (by decide) (by decide)) dX3_init_33 hL (fun H locs hG hL => ?_)
  have hG : gr G (.inr (3, [.ref (a + 1), .int 0, .int 0]) :: .inl (cA 4, (8, .inr (.inr (.inr (.inr (va_up (va_up (va_up (va_up (fun _ => none) (Int32.toNatClampNeg 0) (some (a + 2))) (Int32.toNatClampNeg 1) (some (a + 27))) (Int32.toNatClampNeg 2) (some (a + 52))) (Int32.toNatClampNeg 3) (some (a + 77)))))))) :: (lsX1 cA (a + 2) ++ lsX1 cA (a + 27) ++ lsX1 cA (a + 52) ++ lsX1 cA (a + 77))) a s.heap H := hG
  refine lv_iinc (v := 4) (lv' := [(1, .int 4), (0, .ref a)]) hx hb dX3_init_34 hl (k := 0) rfl (by decide) (by decide) rfl (fun ls hl => ?_)
  refine lv_goto (tgt := 15) hx hb dX3_init_37 (by decide) ?_
  refine lv_iload_n hx hb dX3_init_15 rfl (lv_at hl 0 rfl) ?_
  refine lv_bipush (v := 8) hx hb dX3_init_16 (by decide) ?_
  refine lv_icmp_ge (tgt := 40) hx hb dX3_init_18 (by decide) (fun c9 => absurd c9 (by decide)) (fun _ => ?_)
  refine lv_aload_n hx hb dX3_init_21 rfl (lv_at hl 1 rfl) ?_
  refine sg_get (a := a) (ci := 3) (fs := [.ref (a + 1), .int 0, .int 0]) (T := TX3) (C := RX3) (N := 3) hx hb 0 hts inlX3 hown hK hG rfl rfl 0 (by decide) mw_112 rfl rfl dX3_init_22 ?_
  refine lv_iload_n hx hb dX3_init_25 rfl (lv_at hl 0 rfl) ?_
  refine sg_new (ci := 1) (fs := fsX1) (C := RX1) (T := TX1) (N := 15) (n := 102) hx hb hts inlX1 tyX1 tyX1_ok hown hK hG rfl rfl dfX1 mw_111 mw_28 mw_29 (Nat.le_of_ble_eq_true rfl) (Nat.le_of_ble_eq_true rfl) dX3_init_26 (fun H hG => ?_)
  refine lv_dup hx hb dX3_init_29 rfl ?_
  refine sg_call (n := 102) ⟨hx, hb, hml, hown, hts⟩ rfl (c_X1_init (a := a + 102) (H0 := H)) (cwI 0 hts (gW mw_54) rfl rfl rfl (hts _ mw_29) (hts _ mw_113) (hts _ mw_53) rfl (by decide +kernel) ⟨Nat.le_of_ble_eq_true rfl, Nat.le_of_ble_eq_true rfl⟩) hN hG hl.1 (Nat.le_of_ble_eq_true rfl) dX3_init_30 ⟨Nat.le_of_ble_eq_true rfl, Nat.le_of_ble_eq_true rfl⟩ hL (fun H locs hG hL => ?_)
  have hG : gr G (.inr (3, [.ref (a + 1), .int 0, .int 0]) :: .inl (cA 4, (8, .inr (.inr (.inr (.inr (va_up (va_up (va_up (va_up (fun _ => none) (Int32.toNatClampNeg 0) (some (a + 2))) (Int32.toNatClampNeg 1) (some (a + 27))) (Int32.toNatClampNeg 2) (some (a + 52))) (Int32.toNatClampNeg 3) (some (a + 77)))))))) :: (lsX1 cA (a + 2) ++ lsX1 cA (a + 27) ++ lsX1 cA (a + 52) ++ lsX1 cA (a + 77) ++ lsX1 cA (a + 102))) a s.heap H := hG
  refine sg_aast (a := a) (n := 8) (f := va_up (va_up (va_up (va_up (fun _ => none) (Int32.toNatClampNeg 0) (some (a + 2))) (Int32.toNatClampNeg 1) (some (a + 27))) (Int32.toNatClampNeg 2) (some (a + 52))) (Int32.toNatClampNeg 3) (some (a + 77))) (r := (RX1, TX1, 15)) (vs := fl1 (a + 102)) hx hb hK 1 102 4 1 hG rfl rfl rfl rfl (by decide) (nI_in (c := 4) (N := 8) (by decide) (by decide)) dX3_init_33 hL (fun H locs hG hL => ?_)
  have hG : gr G (.inr (3, [.ref (a + 1), .int 0, .int 0]) :: .inl (cA 4, (8, .inr (.inr (.inr (.inr (va_up (va_up (va_up (va_up (va_up (fun _ => none) (Int32.toNatClampNeg 0) (some (a + 2))) (Int32.toNatClampNeg 1) (some (a + 27))) (Int32.toNatClampNeg 2) (some (a + 52))) (Int32.toNatClampNeg 3) (some (a + 77))) (Int32.toNatClampNeg 4) (some (a + 102)))))))) :: (lsX1 cA (a + 2) ++ lsX1 cA (a + 27) ++ lsX1 cA (a + 52) ++ lsX1 cA (a + 77) ++ lsX1 cA (a + 102))) a s.heap H := hG
  refine lv_iinc (v := 5) (lv' := [(1, .int 5), (0, .ref a)]) hx hb dX3_init_34 hl (k := 0) rfl (by decide) (by decide) rfl (fun ls hl => ?_)
  refine lv_goto (tgt := 15) hx hb dX3_init_37 (by decide) ?_
  refine lv_iload_n hx hb dX3_init_15 rfl (lv_at hl 0 rfl) ?_
  refine lv_bipush (v := 8) hx hb dX3_init_16 (by decide) ?_
  refine lv_icmp_ge (tgt := 40) hx hb dX3_init_18 (by decide) (fun c9 => absurd c9 (by decide)) (fun _ => ?_)
  refine lv_aload_n hx hb dX3_init_21 rfl (lv_at hl 1 rfl) ?_
  refine sg_get (a := a) (ci := 3) (fs := [.ref (a + 1), .int 0, .int 0]) (T := TX3) (C := RX3) (N := 3) hx hb 0 hts inlX3 hown hK hG rfl rfl 0 (by decide) mw_112 rfl rfl dX3_init_22 ?_
  refine lv_iload_n hx hb dX3_init_25 rfl (lv_at hl 0 rfl) ?_
  refine sg_new (ci := 1) (fs := fsX1) (C := RX1) (T := TX1) (N := 15) (n := 127) hx hb hts inlX1 tyX1 tyX1_ok hown hK hG rfl rfl dfX1 mw_111 mw_28 mw_29 (Nat.le_of_ble_eq_true rfl) (Nat.le_of_ble_eq_true rfl) dX3_init_26 (fun H hG => ?_)
  refine lv_dup hx hb dX3_init_29 rfl ?_
  refine sg_call (n := 127) ⟨hx, hb, hml, hown, hts⟩ rfl (c_X1_init (a := a + 127) (H0 := H)) (cwI 0 hts (gW mw_54) rfl rfl rfl (hts _ mw_29) (hts _ mw_113) (hts _ mw_53) rfl (by decide +kernel) ⟨Nat.le_of_ble_eq_true rfl, Nat.le_of_ble_eq_true rfl⟩) hN hG hl.1 (Nat.le_of_ble_eq_true rfl) dX3_init_30 ⟨Nat.le_of_ble_eq_true rfl, Nat.le_of_ble_eq_true rfl⟩ hL (fun H locs hG hL => ?_)
  have hG : gr G (.inr (3, [.ref (a + 1), .int 0, .int 0]) :: .inl (cA 4, (8, .inr (.inr (.inr (.inr (va_up (va_up (va_up (va_up (va_up (fun _ => none) (Int32.toNatClampNeg 0) (some (a + 2))) (Int32.toNatClampNeg 1) (some (a + 27))) (Int32.toNatClampNeg 2) (some (a + 52))) (Int32.toNatClampNeg 3) (some (a + 77))) (Int32.toNatClampNeg 4) (some (a + 102)))))))) :: (lsX1 cA (a + 2) ++ lsX1 cA (a + 27) ++ lsX1 cA (a + 52) ++ lsX1 cA (a + 77) ++ lsX1 cA (a + 102) ++ lsX1 cA (a + 127))) a s.heap H := hG
  refine sg_aast (a := a) (n := 8) (f := va_up (va_up (va_up (va_up (va_up (fun _ => none) (Int32.toNatClampNeg 0) (some (a + 2))) (Int32.toNatClampNeg 1) (some (a + 27))) (Int32.toNatClampNeg 2) (some (a + 52))) (Int32.toNatClampNeg 3) (some (a + 77))) (Int32.toNatClampNeg 4) (some (a + 102))) (r := (RX1, TX1, 15)) (vs := fl1 (a + 127)) hx hb hK 1 127 4 1 hG rfl rfl rfl rfl (by decide) (nI_in (c := 5) (N := 8) (by decide) (by decide)) dX3_init_33 hL (fun H locs hG hL => ?_)
  have hG : gr G (.inr (3, [.ref (a + 1), .int 0, .int 0]) :: .inl (cA 4, (8, .inr (.inr (.inr (.inr (va_up (va_up (va_up (va_up (va_up (va_up (fun _ => none) (Int32.toNatClampNeg 0) (some (a + 2))) (Int32.toNatClampNeg 1) (some (a + 27))) (Int32.toNatClampNeg 2) (some (a + 52))) (Int32.toNatClampNeg 3) (some (a + 77))) (Int32.toNatClampNeg 4) (some (a + 102))) (Int32.toNatClampNeg 5) (some (a + 127)))))))) :: (lsX1 cA (a + 2) ++ lsX1 cA (a + 27) ++ lsX1 cA (a + 52) ++ lsX1 cA (a + 77) ++ lsX1 cA (a + 102) ++ lsX1 cA (a + 127))) a s.heap H := hG
  refine lv_iinc (v := 6) (lv' := [(1, .int 6), (0, .ref a)]) hx hb dX3_init_34 hl (k := 0) rfl (by decide) (by decide) rfl (fun ls hl => ?_)
  refine lv_goto (tgt := 15) hx hb dX3_init_37 (by decide) ?_
  refine lv_iload_n hx hb dX3_init_15 rfl (lv_at hl 0 rfl) ?_
  refine lv_bipush (v := 8) hx hb dX3_init_16 (by decide) ?_
  refine lv_icmp_ge (tgt := 40) hx hb dX3_init_18 (by decide) (fun c9 => absurd c9 (by decide)) (fun _ => ?_)
  refine lv_aload_n hx hb dX3_init_21 rfl (lv_at hl 1 rfl) ?_
  refine sg_get (a := a) (ci := 3) (fs := [.ref (a + 1), .int 0, .int 0]) (T := TX3) (C := RX3) (N := 3) hx hb 0 hts inlX3 hown hK hG rfl rfl 0 (by decide) mw_112 rfl rfl dX3_init_22 ?_
  refine lv_iload_n hx hb dX3_init_25 rfl (lv_at hl 0 rfl) ?_
  refine sg_new (ci := 1) (fs := fsX1) (C := RX1) (T := TX1) (N := 15) (n := 152) hx hb hts inlX1 tyX1 tyX1_ok hown hK hG rfl rfl dfX1 mw_111 mw_28 mw_29 (Nat.le_of_ble_eq_true rfl) (Nat.le_of_ble_eq_true rfl) dX3_init_26 (fun H hG => ?_)
  refine lv_dup hx hb dX3_init_29 rfl ?_
  refine sg_call (n := 152) ⟨hx, hb, hml, hown, hts⟩ rfl (c_X1_init (a := a + 152) (H0 := H)) (cwI 0 hts (gW mw_54) rfl rfl rfl (hts _ mw_29) (hts _ mw_113) (hts _ mw_53) rfl (by decide +kernel) ⟨Nat.le_of_ble_eq_true rfl, Nat.le_of_ble_eq_true rfl⟩) hN hG hl.1 (Nat.le_of_ble_eq_true rfl) dX3_init_30 ⟨Nat.le_of_ble_eq_true rfl, Nat.le_of_ble_eq_true rfl⟩ hL (fun H locs hG hL => ?_)
  have hG : gr G (.inr (3, [.ref (a + 1), .int 0, .int 0]) :: .inl (cA 4, (8, .inr (.inr (.inr (.inr (va_up (va_up (va_up (va_up (va_up (va_up (fun _ => none) (Int32.toNatClampNeg 0) (some (a + 2))) (Int32.toNatClampNeg 1) (some (a + 27))) (Int32.toNatClampNeg 2) (some (a + 52))) (Int32.toNatClampNeg 3) (some (a + 77))) (Int32.toNatClampNeg 4) (some (a + 102))) (Int32.toNatClampNeg 5) (some (a + 127)))))))) :: (lsX1 cA (a + 2) ++ lsX1 cA (a + 27) ++ lsX1 cA (a + 52) ++ lsX1 cA (a + 77) ++ lsX1 cA (a + 102) ++ lsX1 cA (a + 127) ++ lsX1 cA (a + 152))) a s.heap H := hG
  refine sg_aast (a := a) (n := 8) (f := va_up (va_up (va_up (va_up (va_up (va_up (fun _ => none) (Int32.toNatClampNeg 0) (some (a + 2))) (Int32.toNatClampNeg 1) (some (a + 27))) (Int32.toNatClampNeg 2) (some (a + 52))) (Int32.toNatClampNeg 3) (some (a + 77))) (Int32.toNatClampNeg 4) (some (a + 102))) (Int32.toNatClampNeg 5) (some (a + 127))) (r := (RX1, TX1, 15)) (vs := fl1 (a + 152)) hx hb hK 1 152 4 1 hG rfl rfl rfl rfl (by decide) (nI_in (c := 6) (N := 8) (by decide) (by decide)) dX3_init_33 hL (fun H locs hG hL => ?_)
  have hG : gr G (.inr (3, [.ref (a + 1), .int 0, .int 0]) :: .inl (cA 4, (8, .inr (.inr (.inr (.inr (va_up (va_up (va_up (va_up (va_up (va_up (va_up (fun _ => none) (Int32.toNatClampNeg 0) (some (a + 2))) (Int32.toNatClampNeg 1) (some (a + 27))) (Int32.toNatClampNeg 2) (some (a + 52))) (Int32.toNatClampNeg 3) (some (a + 77))) (Int32.toNatClampNeg 4) (some (a + 102))) (Int32.toNatClampNeg 5) (some (a + 127))) (Int32.toNatClampNeg 6) (some (a + 152)))))))) :: (lsX1 cA (a + 2) ++ lsX1 cA (a + 27) ++ lsX1 cA (a + 52) ++ lsX1 cA (a + 77) ++ lsX1 cA (a + 102) ++ lsX1 cA (a + 127) ++ lsX1 cA (a + 152))) a s.heap H := hG
  refine lv_iinc (v := 7) (lv' := [(1, .int 7), (0, .ref a)]) hx hb dX3_init_34 hl (k := 0) rfl (by decide) (by decide) rfl (fun ls hl => ?_)
  refine lv_goto (tgt := 15) hx hb dX3_init_37 (by decide) ?_
  refine lv_iload_n hx hb dX3_init_15 rfl (lv_at hl 0 rfl) ?_
  refine lv_bipush (v := 8) hx hb dX3_init_16 (by decide) ?_
  refine lv_icmp_ge (tgt := 40) hx hb dX3_init_18 (by decide) (fun c9 => absurd c9 (by decide)) (fun _ => ?_)
  refine lv_aload_n hx hb dX3_init_21 rfl (lv_at hl 1 rfl) ?_
  refine sg_get (a := a) (ci := 3) (fs := [.ref (a + 1), .int 0, .int 0]) (T := TX3) (C := RX3) (N := 3) hx hb 0 hts inlX3 hown hK hG rfl rfl 0 (by decide) mw_112 rfl rfl dX3_init_22 ?_
  refine lv_iload_n hx hb dX3_init_25 rfl (lv_at hl 0 rfl) ?_
  refine sg_new (ci := 1) (fs := fsX1) (C := RX1) (T := TX1) (N := 15) (n := 177) hx hb hts inlX1 tyX1 tyX1_ok hown hK hG rfl rfl dfX1 mw_111 mw_28 mw_29 (Nat.le_of_ble_eq_true rfl) (Nat.le_of_ble_eq_true rfl) dX3_init_26 (fun H hG => ?_)
  refine lv_dup hx hb dX3_init_29 rfl ?_
  refine sg_call (n := 177) ⟨hx, hb, hml, hown, hts⟩ rfl (c_X1_init (a := a + 177) (H0 := H)) (cwI 0 hts (gW mw_54) rfl rfl rfl (hts _ mw_29) (hts _ mw_113) (hts _ mw_53) rfl (by decide +kernel) ⟨Nat.le_of_ble_eq_true rfl, Nat.le_of_ble_eq_true rfl⟩) hN hG hl.1 (Nat.le_of_ble_eq_true rfl) dX3_init_30 ⟨Nat.le_of_ble_eq_true rfl, Nat.le_of_ble_eq_true rfl⟩ hL (fun H locs hG hL => ?_)
  have hG : gr G (.inr (3, [.ref (a + 1), .int 0, .int 0]) :: .inl (cA 4, (8, .inr (.inr (.inr (.inr (va_up (va_up (va_up (va_up (va_up (va_up (va_up (fun _ => none) (Int32.toNatClampNeg 0) (some (a + 2))) (Int32.toNatClampNeg 1) (some (a + 27))) (Int32.toNatClampNeg 2) (some (a + 52))) (Int32.toNatClampNeg 3) (some (a + 77))) (Int32.toNatClampNeg 4) (some (a + 102))) (Int32.toNatClampNeg 5) (some (a + 127))) (Int32.toNatClampNeg 6) (some (a + 152)))))))) :: (lsX1 cA (a + 2) ++ lsX1 cA (a + 27) ++ lsX1 cA (a + 52) ++ lsX1 cA (a + 77) ++ lsX1 cA (a + 102) ++ lsX1 cA (a + 127) ++ lsX1 cA (a + 152) ++ lsX1 cA (a + 177))) a s.heap H := hG
  refine sg_aast (a := a) (n := 8) (f := va_up (va_up (va_up (va_up (va_up (va_up (va_up (fun _ => none) (Int32.toNatClampNeg 0) (some (a + 2))) (Int32.toNatClampNeg 1) (some (a + 27))) (Int32.toNatClampNeg 2) (some (a + 52))) (Int32.toNatClampNeg 3) (some (a + 77))) (Int32.toNatClampNeg 4) (some (a + 102))) (Int32.toNatClampNeg 5) (some (a + 127))) (Int32.toNatClampNeg 6) (some (a + 152))) (r := (RX1, TX1, 15)) (vs := fl1 (a + 177)) hx hb hK 1 177 4 1 hG rfl rfl rfl rfl (by decide) (nI_in (c := 7) (N := 8) (by decide) (by decide)) dX3_init_33 hL (fun H locs hG hL => ?_)
  have hG : gr G (.inr (3, [.ref (a + 1), .int 0, .int 0]) :: .inl (cA 4, (8, .inr (.inr (.inr (.inr (va_up (va_up (va_up (va_up (va_up (va_up (va_up (va_up (fun _ => none) (Int32.toNatClampNeg 0) (some (a + 2))) (Int32.toNatClampNeg 1) (some (a + 27))) (Int32.toNatClampNeg 2) (some (a + 52))) (Int32.toNatClampNeg 3) (some (a + 77))) (Int32.toNatClampNeg 4) (some (a + 102))) (Int32.toNatClampNeg 5) (some (a + 127))) (Int32.toNatClampNeg 6) (some (a + 152))) (Int32.toNatClampNeg 7) (some (a + 177)))))))) :: (lsX1 cA (a + 2) ++ lsX1 cA (a + 27) ++ lsX1 cA (a + 52) ++ lsX1 cA (a + 77) ++ lsX1 cA (a + 102) ++ lsX1 cA (a + 127) ++ lsX1 cA (a + 152) ++ lsX1 cA (a + 177))) a s.heap H := hG
  refine lv_iinc (v := 8) (lv' := [(1, .int 8), (0, .ref a)]) hx hb dX3_init_34 hl (k := 0) rfl (by decide) (by decide) rfl (fun ls hl => ?_)
  refine lv_goto (tgt := 15) hx hb dX3_init_37 (by decide) ?_
  refine lv_iload_n hx hb dX3_init_15 rfl (lv_at hl 0 rfl) ?_
  refine lv_bipush (v := 8) hx hb dX3_init_16 (by decide) ?_
  refine lv_icmp_ge (tgt := 40) hx hb dX3_init_18 (by decide) (fun _ => ?_) (fun c9 => absurd (by decide) c9)
  replace hG := hG.set (j := 1) rfl (fun _ _ => rfl) (va_atq (f' := fun j => some (a + (2 + 25 * j))) (fun j hj => by rcases (show j = 0 ∨ j = 1 ∨ j = 2 ∨ j = 3 ∨ j = 4 ∨ j = 5 ∨ j = 6 ∨ j = 7 by omega) with rfl | rfl | rfl | rfl | rfl | rfl | rfl | rfl <;> rfl) (hG.2.1 1 _ rfl))
  have hG : gr G (lsX3 cA a) a s.heap H := hG
  exact cx_vret hx hb hr hlocks ⟨hG.1, hG.2.1, fun q hq => (hG.2.2 q hq).trans (hb0 q hq)⟩ hL dX3_init_40
abbrev fsX8 : List Value := [.null, .null, .null, .null, .null, .null]
theorem dfX8 : ∀ j, j < 6 → defaultValue (tyX8 j) = vp_V fsX8 j := fun j hj => by
  rcases (show j = 0 ∨ j = 1 ∨ j = 2 ∨ j = 3 ∨ j = 4 ∨ j = 5 by omega) with rfl | rfl | rfl | rfl | rfl | rfl <;> rfl
abbrev rm_X8_init : Room := { frames := 4, cells := 261, slots := 14948, locals := 83 }
def lsX8 (cA : Nat → ClassId) (a : Nat) : List va_E := .inr (8, [.ref (a + 1), .ref (a + 7), .ref (a + 9), .ref (a + 34), .ref (a + 59), .ref (a + 261)]) :: (lsX7 cA (a + 1) ++ lsX4 cA (a + 7) ++ lsX1 cA (a + 9) ++ lsX1 cA (a + 34) ++ lsX3 cA (a + 59) ++ [.inl (cA 4, (2, .inr (.inr (.inr (.inr fun _ => none)))))])
set_option maxHeartbeats 8000000 in
set_option maxRecDepth 100000 in
theorem c_X8_init {l : Launch} {G : va_G} {cA : Nat → ClassId} {a : Nat} {H0 : Heap} : Met l yX8_init (cW yX8_init cX8_init 1 none) rm_X8_init (cPn [.ref a] (gr G [.inr (8, fsX8)] a H0) G cA) (cQ none (gr G (lsX8 cA a) a H0)) 261 14948 (fun q => a ≤ q) := by
  refine nx_met (by decide) (Nat.le_of_ble_eq_true rfl) (fun p e s m args below meth c ls C0 hN hin hG hl => ?_)
  have hl : lv_has ls 1 [(0, .ref a)] := hl
  obtain ⟨⟨hx, hb, hml, hown, hts⟩, hr, hlocks, hK⟩ := id C0
  have hL : ∀ q ∈ ([] : List Loc), a ≤ q.base := fun q h => nomatch h
  have hin : meth.name = "<init>" := hin
  have hG0 : gr G ([.inr (8, [.null, .null, .null, .null, .null, .null])]) a s.heap s.heap := ⟨hG.1, hG.2.1, fun _ _ => rfl⟩
  have hb0 := hG.2.2
  generalize hH : s.heap = H at hG0
  replace hG0 : gr G ([.inr (8, [.null, .null, .null, .null, .null, .null])]) a s.heap H := by rw [hH]; exact hG0
  have hG := hG0
  refine lv_aload_n hx hb dX8_init_0 rfl (lv_at hl 0 rfl) ?_
  refine W.objInit hx hb hown (hts _ mw_18) (hts _ mw_7) (hts _ mw_8) rfl (by rw [hml]; exact hl.1) rfl dX8_init_1 (Nat.le_of_ble_eq_true rfl) (Nat.le_of_ble_eq_true rfl) ?_
  refine W.eq (g2 := F0 m 4 ls []) rfl ?_
  refine lv_aload_n hx hb dX8_init_4 rfl (lv_at hl 0 rfl) ?_
  refine sg_new (ci := 7) (fs := fsX7) (C := RX7) (T := TX7) (N := 13) (n := 1) hx hb hts inlX7 tyX7 tyX7_ok hown hK hG rfl rfl dfX7 mw_19 mw_20 mw_21 (Nat.le_of_ble_eq_true rfl) (Nat.le_of_ble_eq_true rfl) dX8_init_5 (fun H hG => ?_)
  refine lv_dup hx hb dX8_init_8 rfl ?_
  refine sg_call (n := 1) ⟨hx, hb, hml, hown, hts⟩ rfl (c_X7_init (a := a + 1) (H0 := H)) (cwI 0 hts (gW mw_39) rfl rfl rfl (hts _ mw_21) (hts _ mw_37) (hts _ mw_38) rfl (by decide +kernel) ⟨Nat.le_of_ble_eq_true rfl, Nat.le_of_ble_eq_true rfl⟩) hN hG hl.1 (Nat.le_of_ble_eq_true rfl) dX8_init_9 ⟨Nat.le_of_ble_eq_true rfl, Nat.le_of_ble_eq_true rfl⟩ hL (fun H locs hG hL => ?_)
  have hG : gr G (.inr (8, [.null, .null, .null, .null, .null, .null]) :: (lsX7 cA (a + 1))) a s.heap H := hG
  refine sg_putF (a := a) (ci := 8) (fs := [.null, .null, .null, .null, .null, .null]) (T := TX8) (C := RX8) (N := 6) hx hb 0 hts inlX8 tyX8 tyX8_ok nmX8 hown hK hG rfl rfl 0 (by decide) mw_22 rfl rfl hin rfl rfl rfl (Nat.le_of_ble_eq_true rfl) dX8_init_12 hL (fun H locs hG hL => ?_)
  have hG : gr G (.inr (8, [.ref (a + 1), .null, .null, .null, .null, .null]) :: (lsX7 cA (a + 1))) a s.heap H := hG
  refine lv_aload_n hx hb dX8_init_15 rfl (lv_at hl 0 rfl) ?_
  refine sg_new (ci := 4) (fs := fsX4) (C := RX4) (T := TX4) (N := 2) (n := 7) hx hb hts inlX4 tyX4 tyX4_ok hown hK hG rfl rfl dfX4 mw_23 mw_24 mw_25 (Nat.le_of_ble_eq_true rfl) (Nat.le_of_ble_eq_true rfl) dX8_init_16 (fun H hG => ?_)
  refine lv_dup hx hb dX8_init_19 rfl ?_
  refine sg_call (n := 7) ⟨hx, hb, hml, hown, hts⟩ rfl (c_X4_init (a := a + 7) (H0 := H)) (cwI 0 hts (gW mw_49) rfl rfl rfl (hts _ mw_25) (hts _ mw_47) (hts _ mw_48) rfl (by decide +kernel) ⟨Nat.le_of_ble_eq_true rfl, Nat.le_of_ble_eq_true rfl⟩) hN hG hl.1 (Nat.le_of_ble_eq_true rfl) dX8_init_20 ⟨Nat.le_of_ble_eq_true rfl, Nat.le_of_ble_eq_true rfl⟩ hL (fun H locs hG hL => ?_)
  have hG : gr G (.inr (8, [.ref (a + 1), .null, .null, .null, .null, .null]) :: (lsX7 cA (a + 1) ++ lsX4 cA (a + 7))) a s.heap H := hG
  refine sg_putF (a := a) (ci := 8) (fs := [.ref (a + 1), .null, .null, .null, .null, .null]) (T := TX8) (C := RX8) (N := 6) hx hb 0 hts inlX8 tyX8 tyX8_ok nmX8 hown hK hG rfl rfl 1 (by decide) mw_26 rfl rfl hin rfl rfl rfl (Nat.le_of_ble_eq_true rfl) dX8_init_23 hL (fun H locs hG hL => ?_)
  have hG : gr G (.inr (8, [.ref (a + 1), .ref (a + 7), .null, .null, .null, .null]) :: (lsX7 cA (a + 1) ++ lsX4 cA (a + 7))) a s.heap H := hG
  refine lv_aload_n hx hb dX8_init_26 rfl (lv_at hl 0 rfl) ?_
  refine sg_new (ci := 1) (fs := fsX1) (C := RX1) (T := TX1) (N := 15) (n := 9) hx hb hts inlX1 tyX1 tyX1_ok hown hK hG rfl rfl dfX1 mw_27 mw_28 mw_29 (Nat.le_of_ble_eq_true rfl) (Nat.le_of_ble_eq_true rfl) dX8_init_27 (fun H hG => ?_)
  refine lv_dup hx hb dX8_init_30 rfl ?_
  refine sg_call (n := 9) ⟨hx, hb, hml, hown, hts⟩ rfl (c_X1_init (a := a + 9) (H0 := H)) (cwI 0 hts (gW mw_54) rfl rfl rfl (hts _ mw_29) (hts _ mw_52) (hts _ mw_53) rfl (by decide +kernel) ⟨Nat.le_of_ble_eq_true rfl, Nat.le_of_ble_eq_true rfl⟩) hN hG hl.1 (Nat.le_of_ble_eq_true rfl) dX8_init_31 ⟨Nat.le_of_ble_eq_true rfl, Nat.le_of_ble_eq_true rfl⟩ hL (fun H locs hG hL => ?_)
  have hG : gr G (.inr (8, [.ref (a + 1), .ref (a + 7), .null, .null, .null, .null]) :: (lsX7 cA (a + 1) ++ lsX4 cA (a + 7) ++ lsX1 cA (a + 9))) a s.heap H := hG
  refine sg_putF (a := a) (ci := 8) (fs := [.ref (a + 1), .ref (a + 7), .null, .null, .null, .null]) (T := TX8) (C := RX8) (N := 6) hx hb 0 hts inlX8 tyX8 tyX8_ok nmX8 hown hK hG rfl rfl 2 (by decide) mw_30 rfl rfl hin rfl rfl rfl (Nat.le_of_ble_eq_true rfl) dX8_init_34 hL (fun H locs hG hL => ?_)
  have hG : gr G (.inr (8, [.ref (a + 1), .ref (a + 7), .ref (a + 9), .null, .null, .null]) :: (lsX7 cA (a + 1) ++ lsX4 cA (a + 7) ++ lsX1 cA (a + 9))) a s.heap H := hG
  refine lv_aload_n hx hb dX8_init_37 rfl (lv_at hl 0 rfl) ?_
  refine sg_new (ci := 1) (fs := fsX1) (C := RX1) (T := TX1) (N := 15) (n := 34) hx hb hts inlX1 tyX1 tyX1_ok hown hK hG rfl rfl dfX1 mw_27 mw_28 mw_29 (Nat.le_of_ble_eq_true rfl) (Nat.le_of_ble_eq_true rfl) dX8_init_38 (fun H hG => ?_)
  refine lv_dup hx hb dX8_init_41 rfl ?_
  refine sg_call (n := 34) ⟨hx, hb, hml, hown, hts⟩ rfl (c_X1_init (a := a + 34) (H0 := H)) (cwI 0 hts (gW mw_54) rfl rfl rfl (hts _ mw_29) (hts _ mw_52) (hts _ mw_53) rfl (by decide +kernel) ⟨Nat.le_of_ble_eq_true rfl, Nat.le_of_ble_eq_true rfl⟩) hN hG hl.1 (Nat.le_of_ble_eq_true rfl) dX8_init_42 ⟨Nat.le_of_ble_eq_true rfl, Nat.le_of_ble_eq_true rfl⟩ hL (fun H locs hG hL => ?_)
  have hG : gr G (.inr (8, [.ref (a + 1), .ref (a + 7), .ref (a + 9), .null, .null, .null]) :: (lsX7 cA (a + 1) ++ lsX4 cA (a + 7) ++ lsX1 cA (a + 9) ++ lsX1 cA (a + 34))) a s.heap H := hG
  refine sg_putF (a := a) (ci := 8) (fs := [.ref (a + 1), .ref (a + 7), .ref (a + 9), .null, .null, .null]) (T := TX8) (C := RX8) (N := 6) hx hb 0 hts inlX8 tyX8 tyX8_ok nmX8 hown hK hG rfl rfl 3 (by decide) mw_31 rfl rfl hin rfl rfl rfl (Nat.le_of_ble_eq_true rfl) dX8_init_45 hL (fun H locs hG hL => ?_)
  have hG : gr G (.inr (8, [.ref (a + 1), .ref (a + 7), .ref (a + 9), .ref (a + 34), .null, .null]) :: (lsX7 cA (a + 1) ++ lsX4 cA (a + 7) ++ lsX1 cA (a + 9) ++ lsX1 cA (a + 34))) a s.heap H := hG
  refine lv_aload_n hx hb dX8_init_48 rfl (lv_at hl 0 rfl) ?_
  refine sg_new (ci := 3) (fs := fsX3) (C := RX3) (T := TX3) (N := 3) (n := 59) hx hb hts inlX3 tyX3 tyX3_ok hown hK hG rfl rfl dfX3 mw_32 mw_33 mw_34 (Nat.le_of_ble_eq_true rfl) (Nat.le_of_ble_eq_true rfl) dX8_init_49 (fun H hG => ?_)
  refine lv_dup hx hb dX8_init_52 rfl ?_
  refine sg_call (n := 59) ⟨hx, hb, hml, hown, hts⟩ rfl (c_X3_init (a := a + 59) (H0 := H)) (cwI 0 hts (gW mw_109) rfl rfl rfl (hts _ mw_34) (hts _ mw_107) (hts _ mw_108) rfl (by decide +kernel) ⟨Nat.le_of_ble_eq_true rfl, Nat.le_of_ble_eq_true rfl⟩) hN hG hl.1 (Nat.le_of_ble_eq_true rfl) dX8_init_53 ⟨Nat.le_of_ble_eq_true rfl, Nat.le_of_ble_eq_true rfl⟩ hL (fun H locs hG hL => ?_)
  have hG : gr G (.inr (8, [.ref (a + 1), .ref (a + 7), .ref (a + 9), .ref (a + 34), .null, .null]) :: (lsX7 cA (a + 1) ++ lsX4 cA (a + 7) ++ lsX1 cA (a + 9) ++ lsX1 cA (a + 34) ++ lsX3 cA (a + 59))) a s.heap H := hG
  refine sg_putF (a := a) (ci := 8) (fs := [.ref (a + 1), .ref (a + 7), .ref (a + 9), .ref (a + 34), .null, .null]) (T := TX8) (C := RX8) (N := 6) hx hb 0 hts inlX8 tyX8 tyX8_ok nmX8 hown hK hG rfl rfl 4 (by decide) mw_35 rfl rfl hin rfl rfl rfl (Nat.le_of_ble_eq_true rfl) dX8_init_56 hL (fun H locs hG hL => ?_)
  have hG : gr G (.inr (8, [.ref (a + 1), .ref (a + 7), .ref (a + 9), .ref (a + 34), .ref (a + 59), .null]) :: (lsX7 cA (a + 1) ++ lsX4 cA (a + 7) ++ lsX1 cA (a + 9) ++ lsX1 cA (a + 34) ++ lsX3 cA (a + 59))) a s.heap H := hG
  refine lv_aload_n hx hb dX8_init_59 rfl (lv_at hl 0 rfl) ?_
  refine lv_iconst (v := 2) hx hb dX8_init_60 (by decide) ?_
  refine sg_newq (n := 261) (N' := 2) (t0 := 4) hx hb hts hown mw_27 hN.2.1 hK rfl hG rfl (by decide) (by decide) (Nat.le_of_ble_eq_true rfl) (Nat.le_of_ble_eq_true rfl) (Nat.le_of_ble_eq_true rfl) dX8_init_61 (fun H hG => ?_)
  have hG : gr G (.inr (8, [.ref (a + 1), .ref (a + 7), .ref (a + 9), .ref (a + 34), .ref (a + 59), .null]) :: (lsX7 cA (a + 1) ++ lsX4 cA (a + 7) ++ lsX1 cA (a + 9) ++ lsX1 cA (a + 34) ++ lsX3 cA (a + 59) ++ [.inl (cA 4, (2, .inr (.inr (.inr (.inr fun _ => none)))))])) a s.heap H := hG
  refine sg_putF (a := a) (ci := 8) (fs := [.ref (a + 1), .ref (a + 7), .ref (a + 9), .ref (a + 34), .ref (a + 59), .null]) (T := TX8) (C := RX8) (N := 6) hx hb 0 hts inlX8 tyX8 tyX8_ok nmX8 hown hK hG rfl rfl 5 (by decide) mw_36 rfl rfl hin rfl rfl rfl (Nat.le_of_ble_eq_true rfl) dX8_init_64 hL (fun H locs hG hL => ?_)
  have hG : gr G (.inr (8, [.ref (a + 1), .ref (a + 7), .ref (a + 9), .ref (a + 34), .ref (a + 59), .ref (a + 261)]) :: (lsX7 cA (a + 1) ++ lsX4 cA (a + 7) ++ lsX1 cA (a + 9) ++ lsX1 cA (a + 34) ++ lsX3 cA (a + 59) ++ [.inl (cA 4, (2, .inr (.inr (.inr (.inr fun _ => none)))))])) a s.heap H := hG
  have hG : gr G (lsX8 cA a) a s.heap H := hG
  exact cx_vret hx hb hr hlocks ⟨hG.1, hG.2.1, fun q hq => (hG.2.2 q hq).trans (hb0 q hq)⟩ hL dX8_init_67
abbrev fsL : List Value := [.null, .null, .int 0, .null, .int 0]
theorem dfL : ∀ j, j < 5 → defaultValue (tyL j) = vp_V fsL j := fun j hj => by
  rcases (show j = 0 ∨ j = 1 ∨ j = 2 ∨ j = 3 ∨ j = 4 by omega) with rfl | rfl | rfl | rfl | rfl <;> rfl
abbrev rm_L_init : Room := { frames := 5, cells := 263, slots := 15154, locals := 103 }
def lsL (cA : Nat → ClassId) (a : Nat) : List va_E := .inr (9, [.ref (a + 1), .null, .int 0, .ref (a + 263), .int 0]) :: (lsX8 cA (a + 1) ++ [.inl (cA 0, (200, .inl fun _ => 0))])
set_option maxHeartbeats 8000000 in
set_option maxRecDepth 100000 in
theorem c_L_init {l : Launch} {G : va_G} {cA : Nat → ClassId} {a : Nat} {H0 : Heap} : Met l yL_init (cW yL_init cL_init 1 none) rm_L_init (cPn [.ref a] (gr G [.inr (9, fsL)] a H0) G cA) (cQ none (gr G (lsL cA a) a H0)) 263 15154 (fun q => a ≤ q) := by
  refine nx_met (by decide) (Nat.le_of_ble_eq_true rfl) (fun p e s m args below meth c ls C0 hN hin hG hl => ?_)
  have hl : lv_has ls 1 [(0, .ref a)] := hl
  obtain ⟨⟨hx, hb, hml, hown, hts⟩, hr, hlocks, hK⟩ := id C0
  have hL : ∀ q ∈ ([] : List Loc), a ≤ q.base := fun q h => nomatch h
  have hin : meth.name = "<init>" := hin
  have hG0 : gr G ([.inr (9, [.null, .null, .int 0, .null, .int 0])]) a s.heap s.heap := ⟨hG.1, hG.2.1, fun _ _ => rfl⟩
  have hb0 := hG.2.2
  generalize hH : s.heap = H at hG0
  replace hG0 : gr G ([.inr (9, [.null, .null, .int 0, .null, .int 0])]) a s.heap H := by rw [hH]; exact hG0
  have hG := hG0
  refine lv_aload_n hx hb dL_init_0 rfl (lv_at hl 0 rfl) ?_
  refine W.objInit hx hb hown (hts _ mw_6) (hts _ mw_7) (hts _ mw_8) rfl (by rw [hml]; exact hl.1) rfl dL_init_1 (Nat.le_of_ble_eq_true rfl) (Nat.le_of_ble_eq_true rfl) ?_
  refine W.eq (g2 := F0 m 4 ls []) rfl ?_
  refine lv_aload_n hx hb dL_init_4 rfl (lv_at hl 0 rfl) ?_
  refine sg_new (ci := 8) (fs := fsX8) (C := RX8) (T := TX8) (N := 6) (n := 1) hx hb hts inlX8 tyX8 tyX8_ok hown hK hG rfl rfl dfX8 mw_9 mw_10 mw_11 (Nat.le_of_ble_eq_true rfl) (Nat.le_of_ble_eq_true rfl) dL_init_5 (fun H hG => ?_)
  refine lv_dup hx hb dL_init_8 rfl ?_
  refine sg_call (n := 1) ⟨hx, hb, hml, hown, hts⟩ rfl (c_X8_init (a := a + 1) (H0 := H)) (cwI 0 hts (gW mw_17) rfl rfl rfl (hts _ mw_11) (hts _ mw_15) (hts _ mw_16) rfl (by decide +kernel) ⟨Nat.le_of_ble_eq_true rfl, Nat.le_of_ble_eq_true rfl⟩) hN hG hl.1 (Nat.le_of_ble_eq_true rfl) dL_init_9 ⟨Nat.le_of_ble_eq_true rfl, Nat.le_of_ble_eq_true rfl⟩ hL (fun H locs hG hL => ?_)
  have hG : gr G (.inr (9, [.null, .null, .int 0, .null, .int 0]) :: (lsX8 cA (a + 1))) a s.heap H := hG
  refine sg_putF (a := a) (ci := 9) (fs := [.null, .null, .int 0, .null, .int 0]) (T := TL) (C := RL) (N := 5) hx hb 0 hts inlL tyL tyL_ok nmL hown hK hG rfl rfl 0 (by decide) mw_12 rfl rfl hin rfl rfl rfl (Nat.le_of_ble_eq_true rfl) dL_init_12 hL (fun H locs hG hL => ?_)
  have hG : gr G (.inr (9, [.ref (a + 1), .null, .int 0, .null, .int 0]) :: (lsX8 cA (a + 1))) a s.heap H := hG
  refine lv_aload_n hx hb dL_init_15 rfl (lv_at hl 0 rfl) ?_
  refine lv_sipush (v := 200) hx hb dL_init_16 (by decide) ?_
  refine sg_newi (n := 263) (N' := 200) hx hb hts mw_13 hK hG rfl (by decide) (by decide) (Nat.le_of_ble_eq_true rfl) (Nat.le_of_ble_eq_true rfl) (Nat.le_of_ble_eq_true rfl) dL_init_19 (fun H hG => ?_)
  have hG : gr G (.inr (9, [.ref (a + 1), .null, .int 0, .null, .int 0]) :: (lsX8 cA (a + 1) ++ [.inl (cA 0, (200, .inl fun _ => 0))])) a s.heap H := hG
  refine sg_put (a := a) (ci := 9) (fs := [.ref (a + 1), .null, .int 0, .null, .int 0]) (T := TL) (C := RL) (N := 5) hx hb 0 hts inlL tyL tyL_ok nmL hown hK hG rfl rfl 3 (by decide) mw_14 rfl rfl rfl rfl (Nat.le_of_ble_eq_true rfl) dL_init_21 hL (fun H locs hG hL => ?_)
  have hG : gr G (.inr (9, [.ref (a + 1), .null, .int 0, .ref (a + 263), .int 0]) :: (lsX8 cA (a + 1) ++ [.inl (cA 0, (200, .inl fun _ => 0))])) a s.heap H := hG
  have hG : gr G (lsL cA a) a s.heap H := hG
  exact cx_vret hx hb hr hlocks ⟨hG.1, hG.2.1, fun q hq => (hG.2.2 q hq).trans (hb0 q hq)⟩ hL dL_init_24
