theorem ca_astq {p : Program} {l : Launch} {e : Env} {R : Room} {s : State} {m : MethodId} {args : Array Value} {below : List Frame} {meth : Method} {c : Code} {H : Heap} {locs : List Loc} {cells slots : Nat} {Q : State → Prop} {cc : ByteArray} {pc : Nat} {ls : Array Slot} {rest : List Value} {G : va_G} {a b : Nat} {cA : Nat → ClassId} (hexec : p.tables.exec = Jvm.exec) (hb : c.code = cc) (hK : cK G cA s) {n : Nat} {vs : List Value} {f : Nat → Option Nat} (h1 : va_at G vwCl (a, .inl (cA 4, n, .inr (.inr (.inr (.inr f))))) H) (h2 : va_at G vwCl (b, .inr (1, vs)) H) {i : Int32} (hin : vp_in i n) (hdg : decode cc pc = .ok (.aastore, 1))
    (kk : ∀ (H1 : Heap) (k0 : Nat), va_at G vwCl (a, .inl (cA 4, n, .inr (.inr (.inr (.inr (va_up f i.toNatClampNeg (some b))))))) H1 → H1.size = H.size → (∀ q : Nat, q ≠ a → H1[q]? = H[q]?) → W p l e R s m args below meth c H1 (locs ++ [⟨a, k0⟩]) cells slots Q (F0 m (pc + 1) ls rest)) : W p l e R s m args below meth c H locs cells slots Q (F0 m pc ls (.ref b :: .int i :: .ref a :: rest)) := by
  have hlt : i.toNatClampNeg < n := Nat.not_le.mp fun q => hin (Or.inr q)
  have h0 : ¬ i < 0 := fun q => hin (Or.inl q)
  obtain ⟨r2, hr2, cell, g1, g2, g3, -⟩ := h2
  have hr : r2 = (RX1, TX1, 15) := Option.some.inj hr2.symm
  subst hr
  have hcls := hK.1 1 _ rfl
  obtain ⟨kA, comp, k1, k2, hcomp, k4⟩ := (hK.2 4 _ rfl).2
  have hcc : comp = G.1 1 := Option.some.inj (hcomp.symm.trans hcls.2.1)
  subst hcc
  obtain ⟨kC, hkC, -⟩ := hcls.2.2
  refine W.aast hexec hb (show H[a]? = _ from h1) (fun q h => by cases h) (fun h => by cases h) k1 k2 rfl hkC ⟨h0, by show _ < (arrV _ _ _).slots.size; rw [arrV_size]; exact hlt⟩ g1 (fun q h => by rw [g3] at h; cases h) (by rw [g2]; exact hkC) (by rw [g2]; exact va_assign hcls.2) rfl rfl hdg fun H1 e z oq => ?_
  refine kk H1 _ ?_ z oq
  show H1[a]? = some (vp_cell _ _)
  rw [e]
  rw [vp_cell_q, vp_cell_q, arrV_store]
  congr 2
  funext q
  by_cases hq : q = i.toNatClampNeg
  · subst hq
    simp [updV, va_up, va_rf]
  · simp [updV, va_up, hq]
def svOf (ix : Nat → Option Nat) (bs : List Nat) : Nat → Option Nat := fun s => (ix s).map fun k => bs.getD k 0
def IxOk (ix : Nat → Option Nat) (n : Nat) : Prop := ∀ s k, ix s = some k → k < n
abbrev SavR : Type := (Nat → Option Nat) × Nat × (Nat → CacS)
/-- save's answer: which saved cache stands at which place, how many there are, what they hold -/
def f_X8_save (N nb : Nat) (ix : Nat → Option Nat) (now : CacS) (κ : Nat → CacS) (p0 : Int32) : Option (Nat ⊕ SavR) :=
  if p0 < 0 then some (.inl 1)
  else if p0 < 2 then
    match ix p0.toNatClampNeg with
    | some k => (f_X1_copyFrom N (κ k) now).bind fun r => some (.inr (ix, nb, va_up κ k r))
    | none => (f_X1_copyFrom N iCac now).bind fun r => some (.inr (va_up ix p0.toNatClampNeg (some nb), nb + 1, va_up κ nb r))
  else some (.inl 1)
def cPZn (lo : Nat) (z : ZS) (av : List Value) (PH : Heap → Prop) (G : va_G) (cA : Nat → ClassId) : Array Value → State → Prop := va_Pc av (fun U => PH U.heap ∧ cKn G cA U ∧ Zt lo z U)
theorem xn_met {l : Launch} {y : MethodName} {rm : Room} {av : List Value} {PH PX : Heap → Prop} {G : va_G} {cA : Nat → ClassId} {z : ZS} {α : Type} {val : α → Option Value} {PHf : α → Heap → Prop} {res : Nat ⊕ α} {mc ms lo : Nat} {cc : ByteArray} {maxL : Nat} {ret : Option FieldType} (hy : plainName y.cls = true) (hlen : (lg_sl av).length ≤ maxL)
    (body : ∀ (p : Program) (e : Env) (s : State) (m : MethodId) (args : Array Value) (below : List Frame) (meth : Method) (c : Code) (ls : Array Slot), cB p s m args meth c y.cls cc maxL ret G cA → cKn G cA s → (∀ x ∈ c.exceptionTable.toList, False) → Zt lo z s → PH s.heap → lv_has ls maxL (lv_args 0 av) →
      W p l e rm s m args below meth c s.heap [] 0 0 (vx_MQ below (xQ val PHf res) (xX PX res) args s mc ms (fun q => lo ≤ q)) (F0 m 0 ls [])) : vx_Met l y (cW y cc maxL ret) rm (cPZn lo z av PH G cA) (xQ val PHf res) (xX PX res) mc ms (fun q => lo ≤ q) := by
  refine vx_ofW (cc := cc) (maxL := maxL) (ret := ret) hy rfl ?_
  intro p e s m args below meth c s₁ B hml hno hv
  obtain ⟨rfl, hP, hK, hZ⟩ := hv
  have hts := atoms_spec (ws := cW y cc maxL ret) B.pre
  have hl := lv_entry av (n := maxL) hlen
  rw [lg_entry_eq]
  exact body p e s m _ below meth c _ ⟨⟨B.exec, B.bytes, hml, findClass_of_methodNamed B.named, fun w hw => hts w (List.mem_cons_of_mem _ hw)⟩, B.returns, B.notSynchronized, hK.1⟩ hK hno hZ hP hl
abbrev rm_X8_save : Room := { frames := 6, cells := 25, slots := 1404, locals := 124 }
abbrev rm_X8_restore : Room := { frames := 6, cells := 1, slots := 6, locals := 124 }
set_option maxHeartbeats 8000000 in
set_option maxRecDepth 100000 in
theorem w_X8_save_b50 {p : Program} {l : Launch} {e : Env} {s : State} {m : MethodId} {args : Array Value} {below : List Frame} {meth : Method} {c : Code} {G : va_G} {cA : Nat → ClassId} (C0 : cB p s m args meth c RX8 cX8_save 3 none G cA) {H0 : Heap} {lo aG aM aO : Nat} {bs : List Nat} {sv : Nat → Option Nat} {β : BigS} (D : Dj lo aG aM aO bs) {k N : Nat} (hk : k < bs.length) {r : CacS} (hr1 : f_X1_copyFrom N (β.2.2.2.2 k) β.1.2.2.1 = some r) {PHf : SavR → Heap → Prop} {PX : Heap → Prop} {rr : SavR} (hfin : ∀ H1, BW G cA H0 lo aG aM aO bs sv (β.1, β.2.1, β.2.2.1, β.2.2.2.1, va_up β.2.2.2.2 k r) H1 → PHf rr H1)
    {H : Heap} {locs : List Loc} {ls : Array Slot} {cells slots : Nat} (hc : cells ≤ 25) (hs : slots ≤ 1404) (hP : BW G cA H0 lo aG aM aO bs sv β H) (hL : ∀ q ∈ locs, lo ≤ q.base) {x : Int32} (hl : lv_has ls 3 [(2, .ref (bs.getD k 0)), (0, .ref aG), (1, .int x)]) :
    W p l e rm_X8_save s m args below meth c H locs cells slots (vx_MQ below (xQ (fun _ => none) PHf (.inr rr)) (xX PX (.inr rr)) args s 25 1404 (fun q => lo ≤ q)) (F0 m 50 ls []) := by
  obtain ⟨⟨hx, hb, hml, hown, hts⟩, hr, hlocks, hK⟩ := id C0
  have hC : ∀ zc : CacS, cx G lo 25 (fun j => bs.getD k 0 + j) (ceCache cA (fun j => bs.getD k 0 + j)) (fun x => BW G cA H0 lo aG aM aO bs sv ((β.1.1, β.1.2.1, zc, β.1.2.2.2), β.2.1, β.2.2.1, β.2.2.2.1, va_up β.2.2.2.2 k x)) := fun zc => BW_S D ((β.1.1, β.1.2.1, zc, β.1.2.2.2), β.2) k hk
  have hO : ∀ zc : CacS, cx G lo 25 (adN (adGL aG)) (ceCache cA (adN (adGL aG))) (fun x => BW G cA H0 lo aG aM aO bs sv ((β.1.1, β.1.2.1, x, β.1.2.2.2), β.2.1, β.2.2.1, β.2.2.2.1, va_up β.2.2.2.2 k zc)) := fun zc => cx_glN (BW_G D (β.1, β.2.1, β.2.2.1, β.2.2.2.1, va_up β.2.2.2.2 k zc)) β.1
  have hP2 : BW G cA H0 lo aG aM aO bs sv ((β.1.1, β.1.2.1, β.1.2.2.1, β.1.2.2.2), β.2.1, β.2.2.1, β.2.2.2.1, va_up β.2.2.2.2 k (β.2.2.2.2 k)) H := by rw [va_up_id]; exact hP
  refine lv_aload_n hx hb dX8_save_50 rfl (lv_at hl 0 rfl) ?_
  refine lv_aload_n hx hb dX8_save_51 rfl (lv_at hl 1 rfl) ?_
  refine g_GL_2 (BW_G D β) (τ := β.1) hP hx hb hts hown hK mw_25 dX8_save_52 ?_
  refine cx_callV (As := [.ref (adN (adGL aG) 0)]) (rest := []) ⟨hx, hb, hml, hown, hts⟩ (c_X1_copyFrom hC hO hr1) (cwV 1 hts (gV mw_1208 mw_302 mw_303 mw_24 mw_304) rfl rfl rfl hd_X1_copyFrom ⟨Nat.le_of_ble_eq_true rfl, Nat.le_of_ble_eq_true rfl⟩) hK hP2 rfl (at_Cache (hC β.1.2.2.1) hP2) rfl hl.1 rfl (Nat.le_of_ble_eq_true rfl) dX8_save_55 ⟨by show cells + 0 ≤ 25; omega, by show slots + 0 ≤ 1404; omega⟩ hL (fun H locs hP hL => ?_)
  refine xx_ret (by omega) (by omega) ?_
  exact cx_vret hx hb hr hlocks (hfin _ hP) hL dX8_save_58
theorem hd_X8_save : yX8_save.cls = RX8 ∧ yX8_save.cls ≠ "java/lang/invoke/MethodHandle" ∧ yX8_save.cls ≠ "java/lang/invoke/VarHandle" ∧ (parseMethodDescriptor yX8_save.desc).map (fun d => d.parameters.length) = some 1 := by decide +kernel
theorem hd_X8_restore : yX8_restore.cls = RX8 ∧ yX8_restore.cls ≠ "java/lang/invoke/MethodHandle" ∧ yX8_restore.cls ≠ "java/lang/invoke/VarHandle" ∧ (parseMethodDescriptor yX8_restore.desc).map (fun d => d.parameters.length) = some 1 := by decide +kernel
theorem pk_below2 {x : Int32} (h0 : ¬ x < 0) (h2 : x < 2) : vp_in x 2 ∧ x.toNatClampNeg < 2 ∧ x = nI x.toNatClampNeg := by
  obtain ⟨j, hj, rfl⟩ := nI_of h0
  have h3 : j < 2 := (nI_ltI (b := 2) hj (by decide)).mp h2
  rw [nI_clamp hj]
  exact ⟨nI_in h3 (by decide), h3, rfl⟩
set_option maxHeartbeats 8000000 in
set_option maxRecDepth 100000 in
theorem c_X8_save {l : Launch} (hl0 : l.stackTraces = false) {G : va_G} {cA : Nat → ClassId} {H0 : Heap} {lo aG aM aO : Nat} {bs : List Nat} {ix : Nat → Option Nat} {β : BigS} {z : ZS} (D : Dj lo aG aM aO bs) (hI : IxOk ix bs.length) {N : Nat} {p0 : Int32} {res : Nat ⊕ SavR} (hf : f_X8_save N bs.length ix β.1.2.2.1 β.2.2.2.2 p0 = some res) :
    vx_Met l yX8_save (cW yX8_save cX8_save 3 none) rm_X8_save (cPZn lo z [.ref aG, .int p0] (BW G cA H0 lo aG aM aO bs (svOf ix bs) β) G cA) (xQ (fun _ => none) (fun r H => ∃ bs2, bs2.length = r.2.1 ∧ Dj lo aG aM aO bs2 ∧ BW G cA H0 lo aG aM aO bs2 (svOf r.1 bs2) (β.1, β.2.1, β.2.2.1, β.2.2.2.1, r.2.2) H) res) (xX (BW G cA H0 lo aG aM aO bs (svOf ix bs) β) res) 25 1404 (fun q => lo ≤ q) := by
  refine xn_met (by decide) (Nat.le_of_ble_eq_true rfl) (fun p e s m args below meth c ls C0 hN hno hZ hP hl => ?_)
  have hl : lv_has ls 3 [(0, .ref aG), (1, .int p0)] := hl
  obtain ⟨⟨hx, hb, hml, hown, hts⟩, hr, hlocks, hK⟩ := id C0
  have hL : ∀ q ∈ ([] : List Loc), lo ≤ q.base := fun q h => nomatch h
  have hgr : grow (BW G cA H0 lo aG aM aO bs (svOf ix bs) β) := cx_grow (BW_cx D) β
  have hsv : va_at G vwCl (aG + 261, .inl (cA 4, (2, .inr (.inr (.inr (.inr (svOf ix bs))))))) s.heap := (BW_G D β).1 β.1 _ hP 1 (by decide)
  unfold f_X8_save at hf
  refine lv_iload_n hx hb dX8_save_0 rfl (lv_at hl 1 rfl) ?_
  refine lv_if_lt (tgt := 13) hx hb dX8_save_1 (by decide) (fun c1 => ?_) (fun c1 => ?_)
  · have hf := cx_t hf c1
    cases hf
    exact xthrowW_1 hl0 hx hb (hml.trans hl.1.symm) hown hts hno hlocks hZ hZ.2.2.2.2.2.1.2.2.2.2.2.1 hP hgr hL dX8_save_13 dX8_save_16 dX8_save_17 dX8_save_20 dX8_save_23 ⟨by decide, by decide, by decide, by decide⟩ (by decide) (by decide)
  · have hf := cx_f hf c1
    refine lv_iload_n hx hb dX8_save_4 rfl (lv_at hl 1 rfl) ?_
    refine lv_aload_n hx hb dX8_save_5 rfl (lv_at hl 0 rfl) ?_
    refine g_GL_5 (BW_G D β) (τ := β.1) hP hx hb hts hown hK mw_31 dX8_save_6 ?_
    refine va_alen (v := 2) (a := aG + 261) hx hb hK (cx_one hsv) 0 4 rfl rfl rfl dX8_save_9 ?_
    refine lv_icmp_lt (tgt := 24) hx hb dX8_save_10 (by decide) (fun c2 => ?_) (fun c2 => ?_)
    · have hf := cx_t hf c2
      obtain ⟨hin, hlt, -⟩ := pk_below2 c1 c2
      refine lv_aload_n hx hb dX8_save_24 rfl (lv_at hl 0 rfl) ?_
      refine g_GL_5 (BW_G D β) (τ := β.1) hP hx hb hts hown hK mw_31 dX8_save_25 ?_
      refine lv_iload_n hx hb dX8_save_28 rfl (lv_at hl 1 rfl) ?_
      refine va_aldq (a := aG + 261) (C := "GhostLayers$Cache") hx hb hK (cx_one hsv) 0 4 rfl rfl hin dX8_save_29 ?_
      cases hix : ix p0.toNatClampNeg with
      | some k =>
        rw [hix] at hf
        obtain ⟨r, hr1, hf⟩ := cx_b hf
        cases hf
        have hk : k < bs.length := hI _ _ hix
        have hrf : svOf ix bs p0.toNatClampNeg = some (bs.getD k 0) := by unfold svOf; rw [hix]; rfl
        rw [hrf]
        refine lv_astore_n (lv' := [(2, .ref (bs.getD k 0)), (0, .ref aG), (1, .int p0)]) hx hb dX8_save_30 rfl hl (by decide) rfl (fun ls hl => ?_)
        refine lv_aload_n hx hb dX8_save_31 rfl (lv_at hl 0 rfl) ?_
        refine lv_ifnonnull (tgt := 50) hx hb dX8_save_32 (by decide) ?_
        exact w_X8_save_b50 C0 D hk hr1 (fun H1 h => ⟨bs, rfl, D, h⟩) (by decide) (by decide) hP hL hl
      | none =>
        rw [hix] at hf
        obtain ⟨r, hr1, hf⟩ := cx_b hf
        cases hf
        have hrf : svOf ix bs p0.toNatClampNeg = none := by unfold svOf; rw [hix]; rfl
        rw [hrf]
        refine lv_astore_nN (lv' := [(2, .null), (0, .ref aG), (1, .int p0)]) hx hb dX8_save_30 rfl hl (by decide) rfl (fun ls hl => ?_)
        refine lv_aload_nN hx hb dX8_save_31 rfl (lv_at hl 0 rfl) ?_
        refine lv_ifnonnullN hx hb dX8_save_32 ?_
        have hG : gr G [] s.heap.size s.heap s.heap := ⟨rfl, (fun i x h => by rw [List.getElem?_nil] at h; cases h), fun _ _ => rfl⟩
        refine sg_new (a := s.heap.size) (ci := 1) (fs := fsX1) (C := RX1) (T := TX1) (N := 15) (n := 0) hx hb hts inlX1 tyX1 tyX1_ok hown hK hG rfl rfl dfX1 mw_22 mw_23 mw_24 (Nat.le_of_ble_eq_true rfl) (Nat.le_of_ble_eq_true rfl) dX8_save_35 (fun H hG => ?_)
        refine lv_dup hx hb dX8_save_38 rfl ?_
        refine sg_call (n := 0) ⟨hx, hb, hml, hown, hts⟩ rfl (c_X1_init (a := s.heap.size + 0) (H0 := H)) (cwI 0 hts (gW mw_50) rfl rfl rfl (hts _ mw_24) (hts _ mw_48) (hts _ mw_49) rfl (by decide +kernel) ⟨Nat.le_of_ble_eq_true rfl, Nat.le_of_ble_eq_true rfl⟩) hN hG hl.1 (Nat.le_of_ble_eq_true rfl) dX8_save_39 ⟨Nat.le_of_ble_eq_true rfl, Nat.le_of_ble_eq_true rfl⟩ (fun q h => nomatch h) (fun H2 locs hG hL => ?_)
        have hG : gr G (lsX1 cA s.heap.size) s.heap.size s.heap H2 := hG
        obtain ⟨D2, hP2⟩ := BW_push D hP rfl hG
        have hlo : lo ≤ s.heap.size := by have h1 := hsv.lt; have h2 : aG + 261 < s.heap.size := h1; have := D.1; omega
        refine lv_astore_n (x := s.heap.size) (lv' := [(2, .ref s.heap.size), (0, .ref aG), (1, .int p0)]) hx hb dX8_save_42 rfl hl (by decide) rfl (fun ls hl => ?_)
        refine lv_aload_n hx hb dX8_save_43 rfl (lv_at hl 1 rfl) ?_
        refine g_GL_5 (BW_G D2 (β.1, β.2.1, β.2.2.1, β.2.2.2.1, va_up β.2.2.2.2 bs.length iCac)) (τ := β.1) hP2 hx hb hts hown hK mw_31 dX8_save_44 ?_
        refine lv_iload_n hx hb dX8_save_47 rfl (lv_at hl 2 rfl) ?_
        refine lv_aload_n hx hb dX8_save_48 rfl (lv_at hl 0 rfl) ?_
        have hsv2 : va_at G vwCl (aG + 261, .inl (cA 4, (2, .inr (.inr (.inr (.inr (svOf ix bs))))))) H2 := (BW_G D2 (β.1, β.2.1, β.2.2.1, β.2.2.2.1, va_up β.2.2.2.2 bs.length iCac)).1 β.1 _ hP2 1 (by decide)
        have hnew : va_at G vwCl (s.heap.size, .inr (1, [.ref (s.heap.size + 1), .ref (s.heap.size + 8), .ref (s.heap.size + 9), .ref (s.heap.size + 11), .ref (s.heap.size + 13), .ref (s.heap.size + 15), .ref (s.heap.size + 17), .ref (s.heap.size + 20), .ref (s.heap.size + 19), .int 0, .int 4, .int 8, .int 6, .int 10, .int 0])) H2 := hG.2.1 0 _ rfl
        refine ca_astq hx hb hK hsv2 hnew hin dX8_save_49 (fun H3 k0 hat hz hq => ?_)
        have hP3 := BW_sv D2 hP2 hq hat
        have hix2 : svOf (va_up ix p0.toNatClampNeg (some bs.length)) (bs ++ [s.heap.size]) = va_up (svOf ix bs) p0.toNatClampNeg (some s.heap.size) := by
          funext t
          unfold svOf va_up
          by_cases h9 : t = p0.toNatClampNeg
          · rw [if_pos h9, if_pos h9]
            show some ((bs ++ [s.heap.size]).getD bs.length 0) = some s.heap.size
            rw [List.getD_eq_getElem?_getD, List.getElem?_append_right (Nat.le_refl _), Nat.sub_self]
            rfl
          · rw [if_neg h9, if_neg h9]
            show (ix t).map (fun k => (bs ++ [s.heap.size]).getD k 0) = (ix t).map (fun k => bs.getD k 0)
            cases h8 : ix t with
            | none => rfl
            | some k =>
              show some ((bs ++ [s.heap.size]).getD k 0) = some (bs.getD k 0)
              rw [List.getD_eq_getElem?_getD, List.getD_eq_getElem?_getD, List.getElem?_append_left (hI t k h8)]
        have hlen : (bs ++ [s.heap.size]).length = bs.length + 1 := by rw [List.length_append]; rfl
        have hgd : (bs ++ [s.heap.size]).getD bs.length 0 = s.heap.size := by
          rw [List.getD_eq_getElem?_getD, List.getElem?_append_right (Nat.le_refl _), Nat.sub_self]; rfl
        refine w_X8_save_b50 (k := bs.length) (r := r) C0 D2 (by omega) (by show f_X1_copyFrom N (va_up β.2.2.2.2 bs.length iCac bs.length) β.1.2.2.1 = some r; rw [va_up_self]; exact hr1) (fun H1 h => ⟨bs ++ [s.heap.size], hlen, D2, ?_⟩) (by decide) (by decide) hP3 (cx_lL (fun q hq => Nat.le_trans hlo (hL q hq)) (by have := D.1; omega)) (by rw [hgd]; exact hl)
        rw [hix2]
        have e : va_up (va_up β.2.2.2.2 bs.length iCac) bs.length r = va_up β.2.2.2.2 bs.length r := by
          funext j
          unfold va_up
          by_cases h9 : j = bs.length
          · rw [if_pos h9, if_pos h9]
          · rw [if_neg h9, if_neg h9, if_neg h9]
        show BW G cA H0 lo aG aM aO (bs ++ [s.heap.size]) _ (β.1, β.2.1, β.2.2.1, β.2.2.2.1, va_up β.2.2.2.2 bs.length r) H1
        rw [← e]
        exact h
    · have hf := cx_f hf c2
      cases hf
      exact xthrowW_1 hl0 hx hb (hml.trans hl.1.symm) hown hts hno hlocks hZ hZ.2.2.2.2.2.1.2.2.2.2.2.1 hP hgr hL dX8_save_13 dX8_save_16 dX8_save_17 dX8_save_20 dX8_save_23 ⟨by decide, by decide, by decide, by decide⟩ (by decide) (by decide)
def f_X8_restore (N : Nat) (ix : Nat → Option Nat) (γ : GLS) (κ : Nat → CacS) (p0 : Int32) : Option (Nat ⊕ GLS) :=
  if p0 < 0 then some (.inl 1)
  else if p0 < 2 then
    match ix p0.toNatClampNeg with
    | some k => (f_X1_copyFrom N γ.2.2.1 (κ k)).bind fun r => some (.inr (γ.1, γ.2.1, r, γ.2.2.2.1, (oI γ.2.2.2.2.1 2 0, γ.2.2.2.2.2)))
    | none => some (.inl 2)
  else some (.inl 1)
set_option maxHeartbeats 8000000 in
set_option maxRecDepth 100000 in
theorem c_X8_restore {l : Launch} (hl0 : l.stackTraces = false) {G : va_G} {cA : Nat → ClassId} {H0 : Heap} {lo aG aM aO : Nat} {bs : List Nat} {ix : Nat → Option Nat} {β : BigS} {z : ZS} (D : Dj lo aG aM aO bs) (hI : IxOk ix bs.length) {N : Nat} {p0 : Int32} {res : Nat ⊕ GLS} (hf : f_X8_restore N ix β.1 β.2.2.2.2 p0 = some res) :
    vx_Met l yX8_restore (cW yX8_restore cX8_restore 3 none) rm_X8_restore (cPZ lo z [.ref aG, .int p0] (BW G cA H0 lo aG aM aO bs (svOf ix bs) β) G cA) (xQ (fun _ => none) (fun r H => BW G cA H0 lo aG aM aO bs (svOf ix bs) (r, β.2) H) res) (xX (BW G cA H0 lo aG aM aO bs (svOf ix bs) β) res) 1 6 (fun q => lo ≤ q) := by
  refine xx_met (by decide) (Nat.le_of_ble_eq_true rfl) (fun p e s m args below meth c ls C0 hno hZ hP hl => ?_)
  have hl : lv_has ls 3 [(0, .ref aG), (1, .int p0)] := hl
  obtain ⟨⟨hx, hb, hml, hown, hts⟩, hr, hlocks, hK⟩ := id C0
  have hL : ∀ q ∈ ([] : List Loc), lo ≤ q.base := fun q h => nomatch h
  have hgr : grow (BW G cA H0 lo aG aM aO bs (svOf ix bs) β) := cx_grow (BW_cx D) β
  have hsv : va_at G vwCl (aG + 261, .inl (cA 4, (2, .inr (.inr (.inr (.inr (svOf ix bs))))))) s.heap := (BW_G D β).1 β.1 _ hP 1 (by decide)
  unfold f_X8_restore at hf
  refine lv_iload_n hx hb dX8_restore_0 rfl (lv_at hl 1 rfl) ?_
  refine lv_if_lt (tgt := 13) hx hb dX8_restore_1 (by decide) (fun c1 => ?_) (fun c1 => ?_)
  · have hf := cx_t hf c1
    cases hf
    exact xthrowW_1 hl0 hx hb (hml.trans hl.1.symm) hown hts hno hlocks hZ hZ.2.2.2.2.2.1.2.2.2.2.2.1 hP hgr hL dX8_restore_13 dX8_restore_16 dX8_restore_17 dX8_restore_20 dX8_restore_23 ⟨by decide, by decide, by decide, by decide⟩ (by decide) (by decide)
  · have hf := cx_f hf c1
    refine lv_iload_n hx hb dX8_restore_4 rfl (lv_at hl 1 rfl) ?_
    refine lv_aload_n hx hb dX8_restore_5 rfl (lv_at hl 0 rfl) ?_
    refine g_GL_5 (BW_G D β) (τ := β.1) hP hx hb hts hown hK mw_31 dX8_restore_6 ?_
    refine va_alen (v := 2) (a := aG + 261) hx hb hK (cx_one hsv) 0 4 rfl rfl rfl dX8_restore_9 ?_
    refine lv_icmp_lt (tgt := 24) hx hb dX8_restore_10 (by decide) (fun c2 => ?_) (fun c2 => ?_)
    · have hf := cx_t hf c2
      obtain ⟨hin, hlt, -⟩ := pk_below2 c1 c2
      refine lv_aload_n hx hb dX8_restore_24 rfl (lv_at hl 0 rfl) ?_
      refine g_GL_5 (BW_G D β) (τ := β.1) hP hx hb hts hown hK mw_31 dX8_restore_25 ?_
      refine lv_iload_n hx hb dX8_restore_28 rfl (lv_at hl 1 rfl) ?_
      refine va_aldq (a := aG + 261) (C := "GhostLayers$Cache") hx hb hK (cx_one hsv) 0 4 rfl rfl hin dX8_restore_29 ?_
      cases hix : ix p0.toNatClampNeg with
      | some k =>
        rw [hix] at hf
        obtain ⟨r, hr1, hf⟩ := cx_b hf
        cases hf
        have hk : k < bs.length := hI _ _ hix
        have hrf : svOf ix bs p0.toNatClampNeg = some (bs.getD k 0) := by unfold svOf; rw [hix]; rfl
        rw [hrf]
        have hC : ∀ zc : CacS, cx G lo 25 (adN (adGL aG)) (ceCache cA (adN (adGL aG))) (fun x => BW G cA H0 lo aG aM aO bs (svOf ix bs) ((β.1.1, β.1.2.1, x, β.1.2.2.2), β.2.1, β.2.2.1, β.2.2.2.1, va_up β.2.2.2.2 k zc)) := fun zc => cx_glN (BW_G D (β.1, β.2.1, β.2.2.1, β.2.2.2.1, va_up β.2.2.2.2 k zc)) β.1
        have hO : ∀ zc : CacS, cx G lo 25 (fun j => bs.getD k 0 + j) (ceCache cA (fun j => bs.getD k 0 + j)) (fun x => BW G cA H0 lo aG aM aO bs (svOf ix bs) ((β.1.1, β.1.2.1, zc, β.1.2.2.2), β.2.1, β.2.2.1, β.2.2.2.1, va_up β.2.2.2.2 k x)) := fun zc => BW_S D ((β.1.1, β.1.2.1, zc, β.1.2.2.2), β.2) k hk
        have hP2 : BW G cA H0 lo aG aM aO bs (svOf ix bs) ((β.1.1, β.1.2.1, β.1.2.2.1, β.1.2.2.2), β.2.1, β.2.2.1, β.2.2.2.1, va_up β.2.2.2.2 k (β.2.2.2.2 k)) s.heap := by rw [va_up_id]; exact hP
        refine lv_astore_n (lv' := [(2, .ref (bs.getD k 0)), (0, .ref aG), (1, .int p0)]) hx hb dX8_restore_30 rfl hl (by decide) rfl (fun ls hl => ?_)
        refine lv_aload_n hx hb dX8_restore_31 rfl (lv_at hl 0 rfl) ?_
        refine lv_ifnonnull (tgt := 46) hx hb dX8_restore_32 (by decide) ?_
        refine lv_aload_n hx hb dX8_restore_46 rfl (lv_at hl 1 rfl) ?_
        refine g_GL_2 (BW_G D β) (τ := β.1) hP hx hb hts hown hK mw_25 dX8_restore_47 ?_
        refine lv_aload_n hx hb dX8_restore_50 rfl (lv_at hl 0 rfl) ?_
        refine cx_callV (As := [.ref (bs.getD k 0)]) (rest := []) ⟨hx, hb, hml, hown, hts⟩ (c_X1_copyFrom hC hO hr1) (cwV 1 hts (gV mw_1208 mw_302 mw_303 mw_24 mw_304) rfl rfl rfl hd_X1_copyFrom ⟨Nat.le_of_ble_eq_true rfl, Nat.le_of_ble_eq_true rfl⟩) hK hP2 rfl (at_Cache (hC (β.2.2.2.2 k)) hP2) rfl hl.1 rfl (Nat.le_of_ble_eq_true rfl) dX8_restore_51 ⟨Nat.zero_le _, Nat.zero_le _⟩ hL (fun H locs hP hL => ?_)
        rw [va_up_id] at hP
        have hP : BW G cA H0 lo aG aM aO bs (svOf ix bs) ((β.1.1, β.1.2.1, r, β.1.2.2.2), β.2) H := hP
        refine lv_aload_n hx hb dX8_restore_54 rfl (lv_at hl 1 rfl) ?_
        refine g_GL_4 (BW_G D ((β.1.1, β.1.2.1, r, β.1.2.2.2), β.2)) (τ := (β.1.1, β.1.2.1, r, β.1.2.2.2)) hP hx hb hts hown hK mw_30 dX8_restore_55 ?_
        refine lv_iconst (v := 0) hx hb dX8_restore_58 (by decide) ?_
        refine p_History_2 (cx_glH (BW_G D ((β.1.1, β.1.2.1, r, β.1.2.2.2), β.2)) (β.1.1, β.1.2.1, r, β.1.2.2.2)) hP hx hb hts hown hK mw_841 dX8_restore_59 hL (fun H locs hP hL => ?_)
        refine xx_ret (by decide) (by decide) ?_
        exact cx_vret hx hb hr hlocks hP hL dX8_restore_62
      | none =>
        rw [hix] at hf
        cases hf
        have hrf : svOf ix bs p0.toNatClampNeg = none := by unfold svOf; rw [hix]; rfl
        rw [hrf]
        refine lv_astore_nN (lv' := [(2, .null), (0, .ref aG), (1, .int p0)]) hx hb dX8_restore_30 rfl hl (by decide) rfl (fun ls hl => ?_)
        refine lv_aload_nN hx hb dX8_restore_31 rfl (lv_at hl 0 rfl) ?_
        refine lv_ifnonnullN hx hb dX8_restore_32 ?_
        exact xthrowW_2 hl0 hx hb (hml.trans hl.1.symm) hown hts hno hlocks hZ hZ.2.2.2.2.2.1.2.2.2.2.2.2 hP hgr hL dX8_restore_35 dX8_restore_38 dX8_restore_39 dX8_restore_42 dX8_restore_45 ⟨by decide, by decide, by decide, by decide⟩ (by decide) (by decide)
    · have hf := cx_f hf c2
      cases hf
      exact xthrowW_1 hl0 hx hb (hml.trans hl.1.symm) hown hts hno hlocks hZ hZ.2.2.2.2.2.1.2.2.2.2.2.1 hP hgr hL dX8_restore_13 dX8_restore_16 dX8_restore_17 dX8_restore_20 dX8_restore_23 ⟨by decide, by decide, by decide, by decide⟩ (by decide) (by decide)
