theorem sg_newl {p : Program} {l : Launch} {e : Env} {R : Room} {s : State} {m : MethodId} {args : Array Value} {below : List Frame} {meth : Method} {c : Code} {H H0 : Heap} {locs : List Loc} {cells slots : Nat} {Q : State → Prop} {cc : ByteArray} {pc : Nat} {ls : Array Slot} {rest : List Value} {G : va_G} {a n : Nat} {cA : Nat → ClassId} {L : List va_E} (hexec : p.tables.exec = Jvm.exec) (hb : c.code = cc) (hts : ∀ w ∈ WL, w.before args s = true) (harr : Cond.arrayClass .long ∈ WL) (hK : cK G cA s) (hG : gr G L a H0 H) (hn : L.length = n) {x : Int32} {N' : Nat} (hx0 : ¬ x < 0) (hN : x.toNatClampNeg = N') (hbytes : N' * componentBytes .long ≤ 536870912) (hcells : cells + 1 ≤ R.cells) (hslots : slots + N' ≤ R.slots) (hdg : decode cc pc = .ok (.newarray .long, 2))
    (kk : ∀ H1 : Heap, gr G (L ++ [.inl (cA 2, (N', .inr (.inl fun _ => 0)))]) a H0 H1 → W p l e R s m args below meth c H1 locs (cells + 1) (slots + N') Q (F0 m (pc + 2) ls (.ref (a + n) :: rest))) : W p l e R s m args below meth c H locs cells slots Q (F0 m pc ls (.int x :: rest)) := by
  subst hn
  refine va_newaK (atype := .long) hexec hb (hts _ harr) rfl hdg rfl hx0 hN hbytes hcells hslots rfl fun H1 cB e1 z1 o1 hAr hNm => ?_
  have hB : cB = cA 2 := Option.some.inj (hNm.symm.trans (va_nm_long (hK.2 2 _ rfl).2))
  subst hB
  have h1 := kk H1 (hG.push z1 o1 (show H1[H.size]? = some (vp_cell (cA 2) (N', .inr (.inl fun _ => 0))) from e1))
  rw [← hG.1] at h1
  exact h1
theorem sg_newd {p : Program} {l : Launch} {e : Env} {R : Room} {s : State} {m : MethodId} {args : Array Value} {below : List Frame} {meth : Method} {c : Code} {H H0 : Heap} {locs : List Loc} {cells slots : Nat} {Q : State → Prop} {cc : ByteArray} {pc : Nat} {ls : Array Slot} {rest : List Value} {G : va_G} {a n : Nat} {cA : Nat → ClassId} {L : List va_E} (hexec : p.tables.exec = Jvm.exec) (hb : c.code = cc) (hts : ∀ w ∈ WL, w.before args s = true) (harr : Cond.arrayClass .double ∈ WL) (hK : cK G cA s) (hG : gr G L a H0 H) (hn : L.length = n) {x : Int32} {N' : Nat} (hx0 : ¬ x < 0) (hN : x.toNatClampNeg = N') (hbytes : N' * componentBytes .double ≤ 536870912) (hcells : cells + 1 ≤ R.cells) (hslots : slots + N' ≤ R.slots) (hdg : decode cc pc = .ok (.newarray .double, 2))
    (kk : ∀ H1 : Heap, gr G (L ++ [.inl (cA 3, (N', .inr (.inr (.inr (.inl fun _ => 0)))))]) a H0 H1 → W p l e R s m args below meth c H1 locs (cells + 1) (slots + N') Q (F0 m (pc + 2) ls (.ref (a + n) :: rest))) : W p l e R s m args below meth c H locs cells slots Q (F0 m pc ls (.int x :: rest)) := by
  subst hn
  refine va_newaK (atype := .double) hexec hb (hts _ harr) rfl hdg rfl hx0 hN hbytes hcells hslots rfl fun H1 cB e1 z1 o1 hAr hNm => ?_
  have hB : cB = cA 3 := Option.some.inj (hNm.symm.trans (va_nm_double (hK.2 3 _ rfl).2))
  subst hB
  have h1 := kk H1 (hG.push z1 o1 (show H1[H.size]? = some (vp_cell (cA 3) (N', .inr (.inr (.inr (.inl fun _ => 0))))) from e1))
  rw [← hG.1] at h1
  exact h1
theorem sg_callP {p : Program} {l : Launch} {e : Env} {R : Room} {s : State} {m : MethodId} {args : Array Value} {below : List Frame} {meth : Method} {c : Code} {H H0 : Heap} {locs : List Loc} {cells slots : Nat} {Q : State → Prop} {cc : ByteArray} {pc : Nat} {ls : Array Slot} {rest : List Value} {G : va_G} {a n : Nat} {cA : Nat → ClassId} {L : List va_E} {nL : Nat} {own : String} (S : CallFix p m c cc nL s args WL own) {y : MethodName} {bytes : ByteArray} {maxL mc ms index : Nat} {rm : Room} {ws : List Cond} {d : va_E} {PH1 : Heap → Prop} (hn : L.length = n) (hM : Met l y ws rm (cPn [.ref (a + n)] (gr G [d] (a + n) H) G cA) (cQ none PH1) mc ms (fun q => a + n ≤ q)) (cw : CallB R s args own index y bytes maxL none ws rm mc ms 0 ∧ y.name = "<init>" ∧ (Cond.instanceMethod y).before args s = true) (hK : cKn G cA s) (hG : gr G (L ++ [d]) a H0 H) (hsize : ls.size = nL) (hW : (rest.map fun v => v.category).sum ≤ 8) (hdg : decode cc pc = .ok (.invokespecial index, 3)) (hf : cells + mc ≤ R.cells ∧ slots + ms ≤ R.slots) (hL : ∀ q ∈ locs, a ≤ q.base)
    (kk : ∀ (H1 : Heap) (locs1 : List Loc), PH1 H1 → (∀ q ∈ locs1, a ≤ q.base) → W p l e R s m args below meth c H1 locs1 (cells + mc) (slots + ms) Q (F0 m (pc + 3) ls rest)) : W p l e R s m args below meth c H locs cells slots Q (F0 m pc ls (.ref (a + n) :: rest)) := by
  subst hn
  intro T hT X
  obtain ⟨v', st₀, t, T', L2, h0, X', hL', e1, e2, ⟨hv, hp⟩, st⟩ := va_runI (As := []) (rest := rest) S hM cw (cPn_preS hK hG.sub) rfl rfl hsize rfl (lv_room hW) hdg hf T hT X
  cases hv
  obtain ⟨t2, a1, b1⟩ := kk T'.heap (locs ++ L2) (by rw [e1]; exact hp) (fun q hq => (List.mem_append.mp hq).elim (hL q) (fun h => by have := hL' q h; omega)) T' rfl X'
  exact ⟨t2, st t2 a1, b1⟩
set_option maxHeartbeats 8000000 in
set_option maxRecDepth 100000 in
theorem law_entry {p : Program} {e : Env} {s : State} {m : MethodId} {below : List Frame} {meth : Method} {c : Code} (l : Launch) (hl0 : l.stackTraces = false) {b L : Nat} {xs : Nat → Int32} (hL3 : L ≤ 3072) (C0 : lw_At p s m meth c b L xs) {N : Nat} {Tof : Nat → TopT} (hS : ∀ j, j < 512 → SimAll N (Tof j) (Tof (j + 1))) (hMono : ∀ j γ μ κ ix nb, Tof j γ μ κ ix nb → Tof (j + 1) γ μ κ ix nb) (hTop : Tof 0 iGL (iMo (iMd 200)) (fun _ => iCac) (fun _ => none) 0) : W p l e room_1 s m #[Value.ref b] below meth c s.heap [] 0 0 (lw_Z below #[Value.ref b] s) (entryFrame m ([Value.ref b] : List Value).toArray 10) := by
  obtain ⟨hx, hb, hr, hml, hown, hts0, hX, hbl, hlocks, hgv⟩ := id C0
  have hts : ∀ w ∈ WL, w.before #[Value.ref b] s = true := fun w h => hts0 w (WL_in w h)
  obtain ⟨G, cA, hN⟩ := start_cK hts (va_AO.of (hts0 (.arrayOver (.object "GhostLayers$Cache")) (by decide +kernel))) (va_AO.of (hts0 (.arrayOver (.object "GhostLayers$Client")) (by decide +kernel)))
  obtain ⟨z, hZ⟩ := start_Zt hgv hts0
  have hX3 := start_Nc3 hgv
  have hK := hN.1
  have hl := lv_entry ([.ref b]) (n := 10) (Nat.le_of_ble_eq_true rfl)
  rw [lg_entry_eq]
  generalize (lg_sl ([.ref b]) ++ List.replicate (10 - (lg_sl ([.ref b])).length) Slot.unset).toArray = ls at hl ⊢
  have hl : lv_has ls 10 [(0, .ref b)] := hl
  have hG : gr G [] s.heap.size s.heap s.heap := ⟨rfl, (fun i x h => by rw [List.getElem?_nil] at h; cases h), fun _ _ => rfl⟩
  refine sg_new (a := s.heap.size) (ci := 8) (fs := fsX8) (C := RX8) (T := TX8) (N := 6) (n := 0) hx hb hts inlX8 tyX8 tyX8_ok hown hK hG rfl rfl dfX8 mw_0 mw_1 mw_2 (Nat.le_of_ble_eq_true rfl) (Nat.le_of_ble_eq_true rfl) dL_law_0 (fun H hG => ?_)
  refine lv_dup hx hb dL_law_3 rfl ?_
  refine sg_call (n := 0) ⟨hx, hb, hml, hown, hts⟩ rfl (c_X8_init (a := s.heap.size + 0) (H0 := H)) (cwI 0 hts (gW mw_10) rfl rfl rfl (hts _ mw_2) (hts _ mw_8) (hts _ mw_9) rfl (by decide +kernel) ⟨Nat.le_of_ble_eq_true rfl, Nat.le_of_ble_eq_true rfl⟩) hN hG hl.1 (Nat.le_of_ble_eq_true rfl) dL_law_4 ⟨Nat.le_of_ble_eq_true rfl, Nat.le_of_ble_eq_true rfl⟩ (fun q h => nomatch h) (fun H1 locs hG hL => ?_)
  have hG : gr G (lsX8 cA s.heap.size) s.heap.size s.heap H1 := hG
  refine va_forget hL ?_
  refine lv_astore_n (x := s.heap.size) (lv' := [(1, .ref s.heap.size), (0, .ref b)]) hx hb dL_law_7 rfl hl (by decide) rfl (fun ls hl => ?_)
  have hG2 : gr G [] H1.size H1 H1 := ⟨rfl, (fun i x h => by rw [List.getElem?_nil] at h; cases h), fun _ _ => rfl⟩
  refine sg_new (a := H1.size) (ci := 9) (fs := fsX9) (C := RX9) (T := TX9) (N := 23) (n := 0) hx hb hts inlX9 tyX9 tyX9_ok hown hK hG2 rfl rfl dfX9 mw_3 mw_4 mw_5 (Nat.le_of_ble_eq_true rfl) (Nat.le_of_ble_eq_true rfl) dL_law_8 (fun H2 hG2 => ?_)
  refine lv_dup hx hb dL_law_11 rfl ?_
  refine sg_callP (n := 0) ⟨hx, hb, hml, hown, hts⟩ rfl (c_X9_init (a := H1.size + 0) (H0 := H2)) (cwI 0 hts (gW mw_112) rfl rfl rfl (hts _ mw_5) (hts _ mw_110) (hts _ mw_111) rfl (by decide +kernel) ⟨Nat.le_of_ble_eq_true rfl, Nat.le_of_ble_eq_true rfl⟩) hN hG2 hl.1 (Nat.le_of_ble_eq_true rfl) dL_law_12 ⟨Nat.le_of_ble_eq_true rfl, Nat.le_of_ble_eq_true rfl⟩ (fun q h => nomatch h) (fun H3 locs hM hL2 => ?_)
  have hG1 := gl_new hG
  have hs1 : s.heap.size + 262 ≤ H1.size := by have h := (hG1 1 (by decide)).lt; exact h
  have hM0 : ∀ i, i < 9 → va_at G vwCl (H1.size + i, ceModel cA (fun j => H1.size + j) (iMo (iMd 200)) i) H3 := hM.1
  have hs3 : H1.size + 9 ≤ H3.size := by have h := (hM0 8 (by decide)).lt; exact h
  have k13 : ∀ q : Nat, q < H1.size → H3[q]? = H1[q]? := fun q hq => (hM.2 q hq).trans (hG2.2.2 q hq)
  refine va_forget (fun q hq => Nat.le_trans (by omega) (hL2 q hq)) ?_
  refine lv_astore_n (x := H1.size) (lv' := [(2, .ref H1.size), (1, .ref s.heap.size), (0, .ref b)]) hx hb dL_law_15 rfl hl (by decide) rfl (fun ls hl => ?_)
  have hG3 : gr G [] H3.size H3 H3 := ⟨rfl, (fun i x h => by rw [List.getElem?_nil] at h; cases h), fun _ _ => rfl⟩
  refine lv_iconst (v := 1) hx hb dL_law_16 (by decide) ?_
  refine sg_newl (n := 0) (N' := 1) hx hb hts mw_6 hK hG3 rfl (by decide) (by decide) (by decide) (Nat.le_of_ble_eq_true rfl) (Nat.le_of_ble_eq_true rfl) dL_law_17 (fun H4 hG3 => ?_)
  refine lv_astore_n (x := H3.size) (lv' := [(3, .ref H3.size), (2, .ref H1.size), (1, .ref s.heap.size), (0, .ref b)]) hx hb dL_law_19 rfl hl (by decide) rfl (fun ls hl => ?_)
  refine lv_iconst (v := 1) hx hb dL_law_20 (by decide) ?_
  refine sg_newd (n := 1) (N' := 1) hx hb hts mw_7 hK hG3 rfl (by decide) (by decide) (by decide) (Nat.le_of_ble_eq_true rfl) (Nat.le_of_ble_eq_true rfl) dL_law_21 (fun H5 hG3 => ?_)
  refine lv_astore (x := H3.size + 1) (lv' := [(4, .ref (H3.size + 1)), (3, .ref H3.size), (2, .ref H1.size), (1, .ref s.heap.size), (0, .ref b)]) hx hb dL_law_23 hl (by decide) rfl (fun ls hl => ?_)
  refine lv_iconst (v := 0) hx hb dL_law_25 (by decide) ?_
  refine lv_istore (lv' := [(5, .int 0), (4, .ref (H3.size + 1)), (3, .ref H3.size), (2, .ref H1.size), (1, .ref s.heap.size), (0, .ref b)]) hx hb dL_law_26 hl (by decide) rfl (fun ls hl => ?_)
  have D : Dj s.heap.size s.heap.size H1.size H3.size [] := ⟨Nat.le_refl _, hs1, hs3, fun k hk => absurd hk (Nat.not_lt_zero _)⟩
  have hB : BW G cA s.heap s.heap.size s.heap.size H1.size H3.size [] (svOf (fun _ => none) []) (iGL, iMo (iMd 200), (fun _ => 0), (fun _ => 0), (fun _ => iCac)) H5 := by
    refine ⟨fun i hi => ?_, fun q hq => (hG3.2.2 q (by omega)).trans ((k13 q (by omega)).trans (hG.2.2 q hq))⟩
    rcases big_cases (n := 0) hi with h1 | ⟨j, hj, rfl⟩ | ⟨j, hj, rfl⟩ | ⟨k, r, hk, hr, rfl⟩
    · have h2 := hG1 i h1
      have h3 := h2.lt
      have e : ceBig cA s.heap.size H1.size [] (svOf (fun _ => none) []) (iGL, iMo (iMd 200), (fun _ => 0), (fun _ => 0), (fun _ => iCac)) i = ceGL (fun _ => none) cA (adGL s.heap.size) iGL i := if_pos h1
      rw [ad_G h1, e]
      exact h2.kept ((hG3.2.2 _ (Nat.lt_of_lt_of_le h3 (by omega))).trans (k13 _ h3))
    · rw [ad_M hj, ce_M j hj]
      have h2 := hM0 j hj
      exact h2.kept (hG3.2.2 _ h2.lt)
    · rcases (show j = 0 ∨ j = 1 by omega) with rfl | rfl
      · exact hG3.2.1 0 _ rfl
      · exact hG3.2.1 1 _ rfl
    · exact absurd hk (Nat.not_lt_zero _)
  have hIx : IxOk (fun _ => none) ([] : List Nat).length := fun s k h => by cases h
  have F : LwF l p s m #[Value.ref b] c G cA s.heap.size z b L xs := ⟨⟨hl0, hx, hb, hml, hown, hts⟩, hN, hZ, hX3, hX, hbl, hbl, hL3⟩
  refine w_law_b28 F hS hMono (fun H locs cells slots ls hL h1 h2 => ?_) (L / 6) 0 (Nat.zero_add _).symm _ (fun _ => none) [] H5 [] _ _ ls ⟨D, hIx, hB, hTop, fun q h => nomatch h⟩ (Nat.le_of_ble_eq_true rfl) (Nat.le_of_ble_eq_true rfl) (lv_sub hl [0, 5, 4, 3, 2, 1] rfl)
  refine lv_iconst (v := 1) hx hb dL_law_2392 (by decide) ?_
  refine va_forget hL (W.widen (k := 601024) (n := 7293034) (by omega) (by omega) (W.base ?_))
  exact lw_ret (fun c => ⟨Nat.le_refl _, fun _ => rfl⟩) hx hb hr hlocks dL_law_2393
