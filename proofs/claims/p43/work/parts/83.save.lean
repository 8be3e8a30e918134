/-! save() of the class over the world of a run: the place is empty, or holds a cache -/
theorem ca_astq {p : Program} {l : Launch} {e : Env} {R : Room} {s : State} {m : MethodId} {args : Array Value} {below : List Frame} {meth : Method} {c : Code} {H : Heap} {locs : List Loc} {cells slots : Nat} {Q : State → Prop} {cc : ByteArray} {pc : Nat} {ls : Array Slot} {rest : List Value} {G : va_G} {a b : Nat} {cA : Nat → ClassId} (hexec : p.tables.exec = Jvm.exec) (hb : c.code = cc) (hK : cK G cA s) {n : Nat} {vs : List Value} {f : Nat → Option Nat} (h1 : va_at G vwCl (a, .inl (cA 4, n, .inr (.inr (.inr (.inr f))))) H) (h2 : va_at G vwCl (b, .inr (1, vs)) H) {i : Int32} (hin : vp_in i n) (hdg : decode cc pc = .ok (.aastore, 1))
    (kk : ∀ (H1 : Heap) (k0 : Nat), va_at G vwCl (a, .inl (cA 4, n, .inr (.inr (.inr (.inr (va_up f i.toNatClampNeg (some b))))))) H1 → H1.size = H.size → (∀ q : Nat, q ≠ a → H1[q]? = H[q]?) → W p l e R s m args below meth c H1 (locs ++ [⟨a, k0⟩]) cells slots Q (F0 m (pc + 1) ls rest)) : W p l e R s m args below meth c H locs cells slots Q (F0 m pc ls (.ref b :: .int i :: .ref a :: rest)) := by
  have hlt : i.toNatClampNeg < n := Nat.not_le.mp fun q => hin (Or.inr q)
  have h0 : ¬ i < 0 := fun q => hin (Or.inl q)
  obtain ⟨r2, hr2, cell, g1, g2, g3, -⟩ := h2
  have hr : r2 = (RX1, TX1, 15) := Option.some.inj hr2.symm
  subst hr
  have hcls := hK.1 1 _ rfl
  obtain ⟨kA, comp, k1, k2, hcomp, k4⟩ := (hK.2 4 _ rfl).2
  have hcc : comp = G.1 1 := Option.some.inj (hcomp.symm.trans hcls.2.1)
  subst hcc
  obtain ⟨kC, hkC, -⟩ := hcls.2.2
  refine W.aast hexec hb (show H[a]? = _ from h1) (fun q h => by cases h) (fun h => by cases h) k1 k2 rfl hkC ⟨h0, by show _ < (arrV _ _ _).slots.size; rw [arrV_size]; exact hlt⟩ g1 (fun q h => by rw [g3] at h; cases h) (by rw [g2]; exact hkC) (by rw [g2]; exact va_assign hcls.2) rfl rfl hdg fun H1 e z oq => ?_
  refine kk H1 _ ?_ z oq
  show H1[a]? = some (vp_cell _ _)
  rw [e]
  rw [vp_cell_q, vp_cell_q, arrV_store]
  congr 2
  funext q
  by_cases hq : q = i.toNatClampNeg
  · subst hq
    simp [updV, va_up, va_rf]
  · simp [updV, va_up, hq]
theorem cPn_preV {s : State} {H : Heap} {As : List Value} {PH : Heap → Prop} {G : va_G} {cA : Nat → ClassId} {C : String} {T : u_T} {N ci b : Nat} {fs : List Value} (hK : cKn G cA s) (hP : PH H) (hc : vwCl[ci]? = some (C, T, N)) (hat : va_at G vwCl (b, .inr (ci, fs)) H) : PreV s H C b (cPn (.ref b :: As) PH G cA) As :=
  ⟨fun a U g mk q => by
    obtain ⟨q0, q1, q2⟩ := q
    exact ⟨q0, q1, cKn.moved (u := U) (U := U.calling g mk a) (Vm.Alike.refl U.vm) q2⟩, va_recv hK.1 (cx_one hat) hc (q0 := 0) rfl, fun U hU hW => ⟨rfl, by rw [hU]; exact hP, cKn.moved hW.alike hK⟩⟩
def f_X8_save (N : Nat) (bs : Option Nat) (now κ : CacS) (p0 : Int32) : Option CacS :=
  if p0 = 1 then f_X1_copyFrom N (match bs with | some _ => κ | none => iCac) now else none
abbrev rm_X8_save : Room := { frames := 6, cells := 25, slots := 1404, locals := 124 }
abbrev rm_L_save : Room := { frames := 7, cells := 25, slots := 1404, locals := 150 }
theorem hd_X8_save : yX8_save.cls = RX8 ∧ yX8_save.cls ≠ "java/lang/invoke/MethodHandle" ∧ yX8_save.cls ≠ "java/lang/invoke/VarHandle" ∧ (parseMethodDescriptor yX8_save.desc).map (fun d => d.parameters.length) = some 1 := by decide +kernel
theorem hd_L_save : yL_save.cls = RL ∧ yL_save.cls ≠ "java/lang/invoke/MethodHandle" ∧ yL_save.cls ≠ "java/lang/invoke/VarHandle" ∧ (parseMethodDescriptor yL_save.desc).map (fun d => d.parameters.length) = some 2 := by decide +kernel
set_option maxHeartbeats 8000000 in
set_option maxRecDepth 100000 in
theorem w_X8_save_b50 {p : Program} {l : Launch} {e : Env} {s : State} {m : MethodId} {args : Array Value} {below : List Frame} {meth : Method} {c : Code} {G : va_G} {cA : Nat → ClassId} (C0 : cB p s m args meth c RX8 cX8_save 3 none G cA) {H0 : Heap} {Fz : Nat → Prop} {lo sa aL aN aG b : Nat} {δ : LwS} {κ : CacS} (D : BD Fz lo aL aN aG (some b)) {N : Nat} {r : CacS} (hr1 : f_X1_copyFrom N κ δ.2.2.2.1 = some r) {PHf : Heap → Prop} (hfin : ∀ H1, BW G cA H0 Fz sa aL aN aG (some b) (δ, r) H1 → PHf H1)
    {H : Heap} {locs : List Loc} {ls : Array Slot} {cells slots : Nat} (hc : cells ≤ 25) (hs : slots ≤ 1404) (hP : BW G cA H0 Fz sa aL aN aG (some b) (δ, κ) H) (hL : ∀ q ∈ locs, lo ≤ q.base) {x : Int32} (hl : lv_has ls 3 [(2, .ref b), (0, .ref aG), (1, .int x)]) :
    W p l e rm_X8_save s m args below meth c H locs cells slots (MQ below (cQ none PHf) args s 25 1404 (fun q => lo ≤ q)) (F0 m 50 ls []) := by
  obtain ⟨⟨hx, hb, hml, hown, hts⟩, hr, hlocks, hK⟩ := id C0
  have hA (k : CacS) := cx_lwG (BW_L (G := G) (cA := cA) (H0 := H0) (sa := sa) D k) δ
  have hC : ∀ zc : CacS, cx G lo 25 (fun j => b + j) (ceCache cA (fun j => b + j)) (fun x => BW G cA H0 Fz sa aL aN aG (some b) ((δ.1, δ.2.1, δ.2.2.1, zc, δ.2.2.2.2), x)) := fun zc => BW_S D (δ.1, δ.2.1, δ.2.2.1, zc, δ.2.2.2.2)
  have hO : ∀ zc : CacS, cx G lo 25 (adN (adLG (adLw aL aN aG))) (ceCache cA (adN (adLG (adLw aL aN aG)))) (fun x => BW G cA H0 Fz sa aL aN aG (some b) ((δ.1, δ.2.1, δ.2.2.1, x, δ.2.2.2.2), zc)) := fun zc => cx_glN (hA zc) δ.2
  refine lv_aload_n hx hb dX8_save_50 rfl (lv_at hl 0 rfl) ?_
  refine lv_aload_n hx hb dX8_save_51 rfl (lv_at hl 1 rfl) ?_
  refine g_GL_2 (hA κ) (τ := δ.2) hP hx hb hts hown hK mw_30 dX8_save_52 ?_
  refine W.widen hc hs ?_
  refine cx_callV (As := [.ref (adN (adLG (adLw aL aN aG)) 0)]) (rest := []) ⟨hx, hb, hml, hown, hts⟩ (c_X1_copyFrom hC hO hr1) (cwV 1 hts (gV mw_416 mw_168 mw_169 mw_29 mw_170) rfl rfl rfl hd_X1_copyFrom ⟨Nat.le_of_ble_eq_true rfl, Nat.le_of_ble_eq_true rfl⟩) hK hP rfl (at_Cache (hC δ.2.2.2.1) hP) rfl hl.1 rfl (Nat.le_of_ble_eq_true rfl) dX8_save_55 ⟨by decide, by decide⟩ hL (fun H locs hP hL => ?_)
  exact cx_vret hx hb hr hlocks (hfin _ hP) hL dX8_save_58
set_option maxHeartbeats 8000000 in
set_option maxRecDepth 100000 in
theorem c_X8_save {l : Launch} {G : va_G} {cA : Nat → ClassId} {H0 : Heap} {Fz : Nat → Prop} {lo sa aL aN aG : Nat} {bs : Option Nat} {δ : LwS} {κ : CacS} (D : BD Fz lo aL aN aG bs) {N : Nat} {p0 : Int32} {res : CacS} (hf : f_X8_save N bs δ.2.2.2.1 κ p0 = some res) :
    Met l yX8_save (cW yX8_save cX8_save 3 none) rm_X8_save (cPn [.ref aG, .int p0] (BW G cA H0 Fz sa aL aN aG bs (δ, κ)) G cA) (cQ none (fun H => ∃ b, BD Fz lo aL aN aG (some b) ∧ BW G cA H0 Fz sa aL aN aG (some b) (δ, res) H)) 25 1404 (fun q => lo ≤ q) := by
  refine nx_met (by decide) (Nat.le_of_ble_eq_true rfl) (fun p e s m args below meth c ls C0 hN _ hP hl => ?_)
  have hl : lv_has ls 3 [(0, .ref aG), (1, .int p0)] := hl
  obtain ⟨⟨hx, hb, hml, hown, hts⟩, hr, hlocks, hK⟩ := id C0
  have hL : ∀ q ∈ ([] : List Loc), lo ≤ q.base := fun q h => nomatch h
  have hA := cx_lwG (BW_L (G := G) (cA := cA) (H0 := H0) (sa := sa) D κ) δ
  have hsv : va_at G vwCl (aG + 261, .inl (cA 4, (2, .inr (.inr (.inr (.inr (svB bs))))))) s.heap := hA.1 δ.2 _ hP 1 (by decide)
  unfold f_X8_save at hf
  by_cases hp : p0 = 1
  · have hf := cx_t hf hp
    subst hp
    obtain ⟨hin, hlt, -⟩ := pk_below2 (x := 1) (by decide) (by decide)
    refine lv_iload_n hx hb dX8_save_0 rfl (lv_at hl 1 rfl) ?_
    refine lv_if_lt (tgt := 13) hx hb dX8_save_1 (by decide) (fun c1 => absurd c1 (by decide)) (fun c1 => ?_)
    refine lv_iload_n hx hb dX8_save_4 rfl (lv_at hl 1 rfl) ?_
    refine lv_aload_n hx hb dX8_save_5 rfl (lv_at hl 0 rfl) ?_
    refine g_GL_5 hA (τ := δ.2) hP hx hb hts hown hK mw_36 dX8_save_6 ?_
    refine va_alen (v := 2) (a := aG + 261) hx hb hK (cx_one hsv) 0 4 rfl rfl rfl dX8_save_9 ?_
    refine lv_icmp_lt (tgt := 24) hx hb dX8_save_10 (by decide) (fun c2 => ?_) (fun c2 => absurd (by decide) c2)
    refine lv_aload_n hx hb dX8_save_24 rfl (lv_at hl 0 rfl) ?_
    refine g_GL_5 hA (τ := δ.2) hP hx hb hts hown hK mw_36 dX8_save_25 ?_
    refine lv_iload_n hx hb dX8_save_28 rfl (lv_at hl 1 rfl) ?_
    refine va_aldq (a := aG + 261) (C := "GhostLayers$Cache") hx hb hK (cx_one hsv) 0 4 rfl rfl hin dX8_save_29 ?_
    cases bs with
    | some b =>
      have hrf : svB (some b) (Int32.toNatClampNeg 1) = some b := rfl
      rw [hrf]
      refine lv_astore_n (x := b) (lv' := [(2, .ref b), (0, .ref aG), (1, .int 1)]) hx hb dX8_save_30 rfl hl (by decide) rfl (fun ls hl => ?_)
      refine lv_aload_n hx hb dX8_save_31 rfl (lv_at hl 0 rfl) ?_
      refine lv_ifnonnull (tgt := 50) hx hb dX8_save_32 (by decide) ?_
      exact w_X8_save_b50 C0 D hf (fun H1 h => ⟨b, D, h⟩) (by decide) (by decide) hP hL hl
    | none =>
      have hrf : svB none (Int32.toNatClampNeg 1) = none := rfl
      rw [hrf]
      refine lv_astore_nN (lv' := [(2, .null), (0, .ref aG), (1, .int 1)]) hx hb dX8_save_30 rfl hl (by decide) rfl (fun ls hl => ?_)
      refine lv_aload_nN hx hb dX8_save_31 rfl (lv_at hl 0 rfl) ?_
      refine lv_ifnonnullN hx hb dX8_save_32 ?_
      have hG : gr G [] s.heap.size s.heap s.heap := ⟨rfl, (fun i x h => by rw [List.getElem?_nil] at h; cases h), fun _ _ => rfl⟩
      refine sg_new (a := s.heap.size) (ci := 1) (fs := fsX1) (C := RX1) (T := TX1) (N := 15) (n := 0) hx hb hts inlX1 tyX1 tyX1_ok hown hK hG rfl rfl dfX1 mw_27 mw_28 mw_29 (Nat.le_of_ble_eq_true rfl) (Nat.le_of_ble_eq_true rfl) dX8_save_35 (fun H hG => ?_)
      refine lv_dup hx hb dX8_save_38 rfl ?_
      refine sg_call (n := 0) ⟨hx, hb, hml, hown, hts⟩ rfl (c_X1_init (a := s.heap.size + 0) (H0 := H)) (cwI 0 hts (gW mw_54) rfl rfl rfl (hts _ mw_29) (hts _ mw_52) (hts _ mw_53) rfl (by decide +kernel) ⟨Nat.le_of_ble_eq_true rfl, Nat.le_of_ble_eq_true rfl⟩) hN hG hl.1 (Nat.le_of_ble_eq_true rfl) dX8_save_39 ⟨Nat.le_of_ble_eq_true rfl, Nat.le_of_ble_eq_true rfl⟩ (fun q h => nomatch h) (fun H2 locs hG hL => ?_)
      have hG : gr G (lsX1 cA s.heap.size) s.heap.size s.heap H2 := hG
      have hlt3 : aG + 261 < s.heap.size := hsv.lt
      have hlo3 : lo ≤ aG + 261 := (D.1 3 (by decide)).1
      have hsv2 : va_at G vwCl (aG + 261, .inl (cA 4, (2, .inr (.inr (.inr (.inr (svB none))))))) H2 := hsv.kept (hG.2.2 _ hlt3)
      have h0L := hA.1 δ.2 _ hP 0 (by decide)
      have h0 : va_at G vwCl (adLG (adLw aL aN aG) 0, .inr (8, [.ref (adT (adLG (adLw aL aN aG)) 0), .ref (adP (adLG (adLw aL aN aG)) 0), .ref (adN (adLG (adLw aL aN aG)) 0), .ref (adQ (adLG (adLw aL aN aG)) 0), .ref (adH (adLG (adLw aL aN aG)) 0), .ref (adLG (adLw aL aN aG) 1)])) H2 := h0L.kept (hG.2.2 _ h0L.lt)
      refine lv_astore_n (x := s.heap.size) (lv' := [(2, .ref s.heap.size), (0, .ref aG), (1, .int 1)]) hx hb dX8_save_42 rfl hl (by decide) rfl (fun ls hl => ?_)
      refine lv_aload_n hx hb dX8_save_43 rfl (lv_at hl 1 rfl) ?_
      refine cx_get (ci := 8) (T := TX8) (C := RX8) (N := 6) hx hb hts inlX8 hown hK h0 rfl 5 (by decide) mw_36 rfl rfl dX8_save_44 ?_
      refine lv_iload_n hx hb dX8_save_47 rfl (lv_at hl 2 rfl) ?_
      refine lv_aload_n hx hb dX8_save_48 rfl (lv_at hl 0 rfl) ?_
      have hnew : va_at G vwCl (s.heap.size, .inr (1, [.ref (s.heap.size + 1), .ref (s.heap.size + 8), .ref (s.heap.size + 9), .ref (s.heap.size + 11), .ref (s.heap.size + 13), .ref (s.heap.size + 15), .ref (s.heap.size + 17), .ref (s.heap.size + 20), .ref (s.heap.size + 19), .int 0, .int 4, .int 8, .int 6, .int 10, .int 0])) H2 := hG.2.1 0 _ rfl
      refine ca_astq (a := aG + 261) hx hb hK hsv2 hnew hin dX8_save_49 (fun H3 k0 hat hz hq => ?_)
      obtain ⟨D2, hP3⟩ := BW_saved D hP hG hz hq hat
      exact w_X8_save_b50 C0 D2 hf (fun H1 h => ⟨_, D2, h⟩) (by decide) (by decide) hP3 (cx_lL (fun q hq => Nat.le_trans (by omega) (hL q hq)) hlo3) hl
  · have hf := cx_f hf hp
    cases hf
set_option maxHeartbeats 8000000 in
set_option maxRecDepth 100000 in
theorem c_L_save {l : Launch} {G : va_G} {cA : Nat → ClassId} {H0 : Heap} {Fz : Nat → Prop} {lo sa aL aN aG : Nat} {bs : Option Nat} {δ : LwS} {κ : CacS} (D : BD Fz lo aL aN aG bs) {N : Nat} {p1 : Int32} {res : CacS} (hf : f_X8_save N bs δ.2.2.2.1 κ p1 = some res) :
    Met l yL_save (cWx yL_save cL_save 3 (some .int) [(0, 6, 7, 46)]) rm_L_save (cPn [.ref aG, .int p1] (BW G cA H0 Fz sa aL aN aG bs (δ, κ)) G cA) (cQ (some (.int 0)) (fun H => ∃ b, BD Fz lo aL aN aG (some b) ∧ BW G cA H0 Fz sa aL aN aG (some b) (δ, res) H)) 25 1404 (fun q => lo ≤ q) := by
  refine va_MetW (cc := cL_save) (maxL := 3) (ret := some .int) (hh := [(0, 6, 7, 46)]) (by decide) rfl ?_
  intro p e s m args below meth c s₁ B hml hv
  obtain ⟨rfl, hP, hN⟩ := hv
  have hts0 := atoms_spec (ws := cWx yL_save cL_save 3 (some .int) [(0, 6, 7, 46)]) B.pre
  have hl := lv_entry ([.ref aG, .int p1]) (n := 3) (Nat.le_of_ble_eq_true rfl)
  rw [lg_entry_eq]
  generalize (lg_sl ([.ref aG, .int p1]) ++ List.replicate (3 - (lg_sl ([.ref aG, .int p1])).length) Slot.unset).toArray = ls at hl ⊢
  have hl : lv_has ls 3 [(0, .ref aG), (1, .int p1)] := hl
  have hx := B.exec
  have hb := B.bytes
  have hown : s.vm.findClass RL = some m.cls := findClass_of_methodNamed B.named
  have hts : ∀ w ∈ WL, w.before _ s = true := fun w hw => hts0 w (List.mem_cons_of_mem _ hw)
  have hL : ∀ q ∈ ([] : List Loc), lo ≤ q.base := fun q h => nomatch h
  have hA := cx_lwG (BW_L (G := G) (cA := cA) (H0 := H0) (sa := sa) D κ) δ
  have h0 := at_GL hA hP
  refine lv_aload_n hx hb dL_save_0 rfl (lv_at hl 0 rfl) ?_
  refine lv_iload_n hx hb dL_save_1 rfl (lv_at hl 1 rfl) ?_
  refine cx_call (va_runV (As := [.int p1]) (rest := []) ⟨hx, hb, hml, hown, hts⟩ (c_X8_save D hf) (cwV 1 hts (gV mw_750 mw_751 mw_752 mw_11 mw_753) rfl rfl rfl hd_X8_save ⟨Nat.le_of_ble_eq_true rfl, Nat.le_of_ble_eq_true rfl⟩) (cPn_preV hN hP rfl h0) rfl rfl hl.1 rfl (lv_room (Nat.le_of_ble_eq_true rfl)) dL_save_2 ⟨by decide, by decide⟩) hL (fun H locs hP hL => ?_)
  refine lv_iconst (v := 0) hx hb dL_save_5 (by decide) ?_
  exact cx_iret hx hb B.returns B.notSynchronized hP hL dL_save_6
