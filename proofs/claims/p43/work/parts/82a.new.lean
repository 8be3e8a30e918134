/-! NEW THINGS: a row of cells from an address on to the heap's end, what lies below as before -/
def gr (G : va_G) (L : List va_E) (a : Nat) (H0 H : Heap) : Prop := H.size = a + L.length ∧ (∀ (i : Nat) (x : va_E), L[i]? = some x → va_at G vwCl (a + i, x) H) ∧ ∀ q : Nat, q < a → H[q]? = H0[q]?
theorem gr.push {G : va_G} {L : List va_E} {a : Nat} {H0 H H1 : Heap} {x : va_E} (h : gr G L a H0 H) (hz : H1.size = H.size + 1) (hq : ∀ q : Nat, q < H.size → H1[q]? = H[q]?) (hat : va_at G vwCl (H.size, x) H1) : gr G (L ++ [x]) a H0 H1 := by
  refine ⟨by rw [hz, h.1, List.length_append]; rfl, fun i y hy => ?_, fun q hl => (hq q (by have := h.1; omega)).trans (h.2.2 q hl)⟩
  by_cases hi : i < L.length
  · rw [List.getElem?_append_left hi] at hy
    exact (h.2.1 i y hy).kept (hq _ (h.2.1 i y hy).lt)
  · have hl : i < (L ++ [x]).length := (List.getElem?_eq_some_iff.mp hy).1
    rw [List.length_append] at hl
    have e : i = L.length := by
      have : i < L.length + 1 := hl
      omega
    subst e
    rw [List.getElem?_append_right (Nat.le_refl _), Nat.sub_self] at hy
    cases hy
    rw [← h.1]
    exact hat
theorem gr.sub {G : va_G} {L : List va_E} {a : Nat} {H0 H : Heap} {d : va_E} (h : gr G (L ++ [d]) a H0 H) : gr G [d] (a + L.length) H H := by
  refine ⟨by rw [h.1, List.length_append, ← Nat.add_assoc], fun i x hx => ?_, fun q _ => rfl⟩
  have hz : i < 1 := (List.getElem?_eq_some_iff.mp hx).1
  have e : i = 0 := by omega
  subst e
  have := h.2.1 L.length x (by rw [List.getElem?_append_right (Nat.le_refl _), Nat.sub_self]; exact hx)
  exact this
theorem gr.join {G : va_G} {L L' : List va_E} {a : Nat} {H0 H H1 : Heap} {d : va_E} (h : gr G (L ++ [d]) a H0 H) (h1 : gr G L' (a + L.length) H H1) : gr G (L ++ L') a H0 H1 := by
  refine ⟨by rw [h1.1, List.length_append, ← Nat.add_assoc], fun i x hx => ?_, fun q hl => (h1.2.2 q (by omega)).trans (h.2.2 q hl)⟩
  by_cases hi : i < L.length
  · rw [List.getElem?_append_left hi] at hx
    have := h.2.1 i x (by rw [List.getElem?_append_left hi]; exact hx)
    exact this.kept (h1.2.2 (a + i) (by omega))
  · rw [List.getElem?_append_right (by omega)] at hx
    have := h1.2.1 (i - L.length) x hx
    rw [show a + L.length + (i - L.length) = a + i by omega] at this
    exact this
theorem gr.set {G : va_G} {L : List va_E} {a j : Nat} {H0 H H1 : Heap} {x : va_E} (h : gr G L a H0 H) (hz : H1.size = H.size) (hq : ∀ q : Nat, q ≠ a + j → H1[q]? = H[q]?) (hat : va_at G vwCl (a + j, x) H1) : gr G (L.set j x) a H0 H1 := by
  refine ⟨by rw [hz, h.1, List.length_set], fun i y hy => ?_, fun q hl => (hq q (by omega)).trans (h.2.2 q hl)⟩
  by_cases e : i = j
  · subst e
    rw [List.getElem?_set_self' ] at hy
    cases hl : L[i]? with
    | none => rw [hl] at hy; cases hy
    | some z => rw [hl] at hy; cases hy; exact hat
  · rw [List.getElem?_set_ne (fun q => e q.symm)] at hy
    exact (h.2.1 i y hy).kept (hq _ (by omega))
def cKn (G : va_G) (cA : Nat → ClassId) (U : State) : Prop := cK G cA U ∧ va_AO "GhostLayers$Cache" U ∧ va_AO "GhostLayers$Client" U
def cPn (av : List Value) (PH : Heap → Prop) (G : va_G) (cA : Nat → ClassId) : Array Value → State → Prop := va_Pc av (fun U => PH U.heap ∧ cKn G cA U)
theorem cKn.moved {G : va_G} {cA : Nat → ClassId} {u U : State} (hvm : u.vm.Alike U.vm) (h : cKn G cA u) : cKn G cA U := ⟨va_K.moved hvm h.1, va_AO.moved hvm h.2.1, va_AO.moved hvm h.2.2⟩
theorem cPn_preS {s : State} {H : Heap} {As : List Value} {PH : Heap → Prop} {G : va_G} {cA : Nat → ClassId} (hK : cKn G cA s) (hP : PH H) : PreS s H (cPn As PH G cA) As :=
  ⟨fun a U g mk q => by
    obtain ⟨q0, q1, q2⟩ := q
    exact ⟨q0, q1, cKn.moved (u := U) (U := U.calling g mk a) (Vm.Alike.refl U.vm) q2⟩, fun U hU hW => ⟨rfl, by rw [hU]; exact hP, cKn.moved hW.alike hK⟩⟩
theorem nx_met {l : Launch} {y : MethodName} {rm : Room} {av : List Value} {PH : Heap → Prop} {G : va_G} {cA : Nat → ClassId} {Qc : Array Value → State → Outcome → State → Prop} {mc ms lo : Nat} {cc : ByteArray} {maxL : Nat} {ret : Option FieldType} (hy : plainName y.cls = true) (hlen : (lg_sl av).length ≤ maxL)
    (body : ∀ (p : Program) (e : Env) (s : State) (m : MethodId) (args : Array Value) (below : List Frame) (meth : Method) (c : Code) (ls : Array Slot), cB p s m args meth c y.cls cc maxL ret G cA → cKn G cA s → meth.name = y.name → PH s.heap → lv_has ls maxL (lv_args 0 av) →
      W p l e rm s m args below meth c s.heap [] 0 0 (MQ below Qc args s mc ms (fun q => lo ≤ q)) (F0 m 0 ls [])) : Met l y (cW y cc maxL ret) rm (cPn av PH G cA) Qc mc ms (fun q => lo ≤ q) := by
  refine Met.ofW (cc := cc) (maxL := maxL) (ret := ret) hy rfl ?_
  intro p e s m args below meth c s₁ B hml hv
  obtain ⟨rfl, hP, hK⟩ := hv
  have hts := atoms_spec (ws := cW y cc maxL ret) B.pre
  have hl := lv_entry av (n := maxL) hlen
  rw [lg_entry_eq]
  exact body p e s m _ below meth c _ ⟨⟨B.exec, B.bytes, hml, findClass_of_methodNamed B.named, fun w hw => hts w (List.mem_cons_of_mem _ hw)⟩, B.returns, B.notSynchronized, hK.1⟩ hK (name_of_methodNamed B.named B.method).1 hP hl
section SGN
variable {p : Program} {l : Launch} {e : Env} {R : Room} {s : State} {m : MethodId} {args : Array Value} {below : List Frame} {meth : Method} {c : Code} {H H0 : Heap} {locs : List Loc} {cells slots : Nat} {Q : State → Prop}
variable {cc : ByteArray} {pc : Nat} {ls : Array Slot} {rest : List Value} {G : va_G} {a n : Nat} {cA : Nat → ClassId} {L : List va_E}
theorem sg_new (hexec : p.tables.exec = Jvm.exec) (hb : c.code = cc) {own C : String} {T : u_T} {N ci index : Nat} (hts : ∀ w ∈ WL, w.before args s = true) (hin : ∀ w ∈ u_ws C T N, w ∈ WL) (ty : Nat → FieldType) (hty : ∀ k, k < N → parseFieldDescriptor (T k).2.2.1 = some (ty k)) (hown : s.vm.findClass own = some m.cls) (hK : cK G cA s) (hG : gr G L a H0 H) (hc : vwCl[ci]? = some (C, T, N)) (hn : L.length = n) {fs : List Value} (hfs : ∀ j, j < N → defaultValue (ty j) = vp_V fs j)
    (hcl : Cond.classLink own index C ∈ WL) (hinst : Cond.instantiable C N ∈ WL) (hini : Cond.initialized C ∈ WL) (hcells : cells + 1 ≤ R.cells) (hslots : slots + N ≤ R.slots) (hdg : decode cc pc = .ok (.new index, 3))
    (kk : ∀ H1 : Heap, gr G (L ++ [.inr (ci, fs)]) a H0 H1 → W p l e R s m args below meth c H1 locs (cells + 1) (slots + N) Q (F0 m (pc + 3) ls (.ref (a + n) :: rest))) : W p l e R s m args below meth c H locs cells slots Q (F0 m pc ls rest) := by
  have hKn := hK.1 ci _ hc
  subst hn
  refine W.newcK hexec hb hown (hts _ hcl) (hts _ hinst) (hts _ hini) rfl hdg hcells hslots hKn.2.1 rfl fun H1 kC hkC e1 z1 o1 => ?_
  have h1 := kk H1 (hG.push z1 o1 ⟨_, hc, (u_born ty hts hin hKn hkC e1 hty).to hfs⟩)
  rw [← hG.1] at h1
  exact h1
theorem sg_newi (hexec : p.tables.exec = Jvm.exec) (hb : c.code = cc) (hts : ∀ w ∈ WL, w.before args s = true) (harr : Cond.arrayClass .int ∈ WL) (hK : cK G cA s) (hG : gr G L a H0 H) (hn : L.length = n) {x : Int32} {N' : Nat} (hx0 : ¬ x < 0) (hN : x.toNatClampNeg = N') (hbytes : N' * componentBytes .int ≤ 536870912) (hcells : cells + 1 ≤ R.cells) (hslots : slots + N' ≤ R.slots) (hdg : decode cc pc = .ok (.newarray .int, 2))
    (kk : ∀ H1 : Heap, gr G (L ++ [.inl (cA 0, (N', .inl fun _ => 0))]) a H0 H1 → W p l e R s m args below meth c H1 locs (cells + 1) (slots + N') Q (F0 m (pc + 2) ls (.ref (a + n) :: rest))) : W p l e R s m args below meth c H locs cells slots Q (F0 m pc ls (.int x :: rest)) := by
  subst hn
  refine va_newaK (atype := .int) hexec hb (hts _ harr) rfl hdg rfl hx0 hN hbytes hcells hslots rfl fun H1 cB e1 z1 o1 hAr hNm => ?_
  have hB : cB = cA 0 := Option.some.inj (hNm.symm.trans (va_nm_int (hK.2 0 _ rfl).2))
  subst hB
  have h1 := kk H1 (hG.push z1 o1 (show H1[H.size]? = some (vp_cell (cA 0) (N', .inl fun _ => 0)) from e1))
  rw [← hG.1] at h1
  exact h1
theorem sg_newq (hexec : p.tables.exec = Jvm.exec) (hb : c.code = cc) (hts : ∀ w ∈ WL, w.before args s = true) {own C : String} {index t0 : Nat} {cT : ClassId} (hown : s.vm.findClass own = some m.cls) (hcl : Cond.classLink own index C ∈ WL) (hover : va_AO C s) (hK : cK G cA s) (ht : (aty cA)[t0]? = some (cT, .object C)) (hG : gr G L a H0 H) (hn : L.length = n) {x : Int32} {N' : Nat} (hx0 : ¬ x < 0) (hN : x.toNatClampNeg = N') (hbytes : N' * 4 ≤ 536870912) (hcells : cells + 1 ≤ R.cells) (hslots : slots + N' ≤ R.slots) (hdg : decode cc pc = .ok (.anewarray index, 3))
    (kk : ∀ H1 : Heap, gr G (L ++ [.inl (cT, (N', .inr (.inr (.inr (.inr fun _ => none)))))]) a H0 H1 → W p l e R s m args below meth c H1 locs (cells + 1) (slots + N') Q (F0 m (pc + 3) ls (.ref (a + n) :: rest))) : W p l e R s m args below meth c H locs cells slots Q (F0 m pc ls (.int x :: rest)) := by
  subst hn
  subst hN
  refine W.anew hexec hb hown (hts _ hcl) (va_AO.use hover) rfl hdg rfl hx0 hbytes hcells hslots fun cB kA comp f1 f2 f3 f4 => ?_
  obtain ⟨kA2, comp2, b1, b2, b3, b4⟩ := (hK.2 t0 _ ht).2
  have hB : cB = cT := Option.some.inj (f1.symm.trans b4)
  subst hB
  generalize hH1 : H.push ({ cls := cB, slots := Array.replicate x.toNatClampNeg .null, vm := .none } : Cell) = H1
  have z1 : H1.size = H.size + 1 := by rw [← hH1, Array.size_push]
  have e1 : H1[H.size]? = some (arrV cB x.toNatClampNeg (fun _ => .null)) := by rw [← hH1, Array.getElem?_push_size, ← arrV_new]
  have o1 : ∀ q : Nat, q < H.size → H1[q]? = H[q]? := fun q hq => by rw [← hH1, Array.getElem?_push, if_neg (Nat.ne_of_lt hq)]
  have h1 := kk H1 (hG.push z1 o1 (show H1[H.size]? = some (vp_cell cB (x.toNatClampNeg, .inr (.inr (.inr (.inr fun _ => none))))) by rw [vp_cell_q]; exact e1))
  rw [← hG.1] at h1
  exact h1
theorem sg_put (hexec : p.tables.exec = Jvm.exec) (hb : c.code = cc) {own ref C : String} {T : u_T} {N ci index : Nat} (j : Nat) (hts : ∀ w ∈ WL, w.before args s = true) (hin : ∀ w ∈ u_ws C T N, w ∈ WL) (ty0 : Nat → FieldType) (hty : ∀ k, k < N → parseFieldDescriptor (T k).2.2.1 = some (ty0 k)) (hnm : ∀ a, a < N → ∀ b, b < N → a ≠ b → (T a).2.1 ≠ (T b).2.1) (hown : s.vm.findClass own = some m.cls) (hK : cK G cA s) (hG : gr G L a H0 H) {fs : List Value} (hj : L[j]? = some (.inr (ci, fs))) (hc : vwCl[ci]? = some (C, T, N)) (k : Nat) (hk : k < N) (hlink : (Cond.fieldLink own index ref (T k).2.1 (T k).2.2.1) ∈ WL) (href : (T k).1 = ref) (hfin : (T k).2.2.2 = false) {v : Value} (hn : narrow (ty0 k) v = v) (hfit : fits (ty0 k) v = true) (hl : k < fs.length) (hdg : decode cc pc = .ok (.putfield index, 3)) (hL : ∀ q ∈ locs, a ≤ q.base)
    (kk : ∀ (H1 : Heap) (locs1 : List Loc), gr G (L.set j (.inr (ci, fs.set k v))) a H0 H1 → (∀ q ∈ locs1, a ≤ q.base) → W p l e R s m args below meth c H1 locs1 cells slots Q (F0 m (pc + 3) ls rest)) : W p l e R s m args below meth c H locs cells slots Q (F0 m pc ls (v :: .ref (a + j) :: rest)) :=
  cx_put hexec hb hts hin ty0 hty hnm hown hK (hG.2.1 j _ hj) hc k hk hlink href hfin hn hfit hl hdg (fun H1 k0 hat hz hq => kk H1 _ (hG.set hz hq hat) (cx_lL hL (Nat.le_add_right a j)))
theorem sg_putF (hexec : p.tables.exec = Jvm.exec) (hb : c.code = cc) {own ref C : String} {T : u_T} {N ci index : Nat} (j : Nat) (hts : ∀ w ∈ WL, w.before args s = true) (hin : ∀ w ∈ u_ws C T N, w ∈ WL) (ty0 : Nat → FieldType) (hty : ∀ k, k < N → parseFieldDescriptor (T k).2.2.1 = some (ty0 k)) (hnm : ∀ a, a < N → ∀ b, b < N → a ≠ b → (T a).2.1 ≠ (T b).2.1) (hown : s.vm.findClass own = some m.cls) (hK : cK G cA s) (hG : gr G L a H0 H) {fs : List Value} (hj : L[j]? = some (.inr (ci, fs))) (hc : vwCl[ci]? = some (C, T, N)) (k : Nat) (hk : k < N) (hlink : (Cond.fieldLink own index ref (T k).2.1 (T k).2.2.1) ∈ WL) (href : (T k).1 = ref) (hfin : (T k).2.2.2 = true) (hin2 : meth.name = "<init>") (hdecl : (T k).1 = own) {v : Value} (hn : narrow (ty0 k) v = v) (hfit : fits (ty0 k) v = true) (hl : k < fs.length) (hdg : decode cc pc = .ok (.putfield index, 3)) (hL : ∀ q ∈ locs, a ≤ q.base)
    (kk : ∀ (H1 : Heap) (locs1 : List Loc), gr G (L.set j (.inr (ci, fs.set k v))) a H0 H1 → (∀ q ∈ locs1, a ≤ q.base) → W p l e R s m args below meth c H1 locs1 cells slots Q (F0 m (pc + 3) ls rest)) : W p l e R s m args below meth c H locs cells slots Q (F0 m pc ls (v :: .ref (a + j) :: rest)) := by
  have hap := va_apart (own := own) hts hin ty0 hty hnm hK hc
  obtain ⟨r, h1, cell, q1, q2, q3, q4⟩ := hG.2.1 j _ hj
  have hr : r = (C, T, N) := Option.some.inj (h1.symm.trans hc)
  subst hr
  obtain ⟨hS, hfc, kC, hkC, hkind⟩ := hK.1 ci _ hc
  obtain ⟨cf, kf, fi, f, hi, hsl⟩ := hS k hk
  have hlay := hts _ (hin _ (u_in_lay hk))
  unfold u_lay at hlay
  rw [if_pos hfin] at hlay
  have hst := (u_facts hfc hkC (u_lays hts hin hk) hi).1
  have hcf : m.cls = cf := by
    obtain ⟨_, _, c', _, _, _, -, -, hf', -, -, -, hown2, -⟩ := Cond.laysFinal_spec hlay
    have e1 : c' = cf := by have := hi.symm.trans hf'; simp at this; exact this.1.symm
    rw [hdecl] at hown2
    rw [← e1]; exact Option.some.inj (hown.symm.trans hown2)
  have h6 := u_fits hfc hkC hkind (Or.inr hlay) hi (hty k hk) hn hfit
  have hi' : s.fieldFound? ref (T k).2.1 (T k).2.2.1 = some (cf, kf, fi, f) := by rw [← href]; exact hi
  refine W.putFinK hexec hb hown (hts _ hlink) hi' hst hcf hin2 (by rw [q2]; exact h6) q1 q3 (by rw [hsl]; exact k2_hasslot (q4 k hk)) rfl rfl hdg fun H' e1 e2 e3 => ?_
  rw [hsl] at e1 ⊢
  exact kk H' _ (hG.set e2 e3 ⟨_, hc, t_OB.to (V := updV (vp_V fs) k v) ⟨_, e1, q2, q3, t_set q4 hap hk v⟩ (fun j _ => vp_updV_set hl v j)⟩) (cx_lL hL (Nat.le_add_right a j))
theorem sg_iast (hexec : p.tables.exec = Jvm.exec) (hb : c.code = cc) (hK : cK G cA s) (j : Nat) (hG : gr G L a H0 H) {n : Nat} {f : Nat → Int32} (hj : L[j]? = some (.inl (cA 0, n, .inl f))) {i x : Int32} (hin : vp_in i n) (hdg : decode cc pc = .ok (.iastore, 1)) (hL : ∀ q ∈ locs, a ≤ q.base)
    (kk : ∀ (H1 : Heap) (locs1 : List Loc), gr G (L.set j (.inl (cA 0, n, .inl (upd f i.toNatClampNeg x)))) a H0 H1 → (∀ q ∈ locs1, a ≤ q.base) → W p l e R s m args below meth c H1 locs1 cells slots Q (F0 m (pc + 1) ls rest)) : W p l e R s m args below meth c H locs cells slots Q (F0 m pc ls (.int x :: .int i :: .ref (a + j) :: rest)) :=
  cx_iast hexec hb hK (hG.2.1 j _ hj) hin hdg (fun H1 k0 hat hz hq => kk H1 _ (hG.set hz hq hat) (cx_lL hL (Nat.le_add_right a j)))
theorem sg_get (hexec : p.tables.exec = Jvm.exec) (hb : c.code = cc) {own ref C : String} {T : u_T} {N ci index : Nat} (j : Nat) (hts : ∀ w ∈ WL, w.before args s = true) (hin : ∀ w ∈ u_ws C T N, w ∈ WL) (hown : s.vm.findClass own = some m.cls) (hK : cK G cA s) (hG : gr G L a H0 H) {fs : List Value} (hj : L[j]? = some (.inr (ci, fs))) (hc : vwCl[ci]? = some (C, T, N)) (k : Nat) (hk : k < N) (hlink : (Cond.fieldLink own index ref (T k).2.1 (T k).2.2.1) ∈ WL) (href : (T k).1 = ref) {v : Value} (hv : fs[k]? = some v) (hdg : decode cc pc = .ok (.getfield index, 3))
    (kk : W p l e R s m args below meth c H locs cells slots Q (F0 m (pc + 3) ls (v :: rest))) : W p l e R s m args below meth c H locs cells slots Q (F0 m pc ls (.ref (a + j) :: rest)) :=
  cx_get hexec hb hts hin hown hK (hG.2.1 j _ hj) hc k hk hlink href hv hdg kk
theorem sg_aast (hexec : p.tables.exec = Jvm.exec) (hb : c.code = cc) (hK : cK G cA s) (j j2 t0 ci : Nat) (hG : gr G L a H0 H) {cT : ClassId} {r : vw_C} {n : Nat} {vs : List Value} {f : Nat → Option Nat} (hj : L[j]? = some (.inl (cT, n, .inr (.inr (.inr (.inr f)))))) (ht : (aty cA)[t0]? = some (cT, .object r.1)) (hj2 : L[j2]? = some (.inr (ci, vs))) (hc : vwCl[ci]? = some r) (hne : j ≠ j2) {i : Int32} (hin : vp_in i n) (hdg : decode cc pc = .ok (.aastore, 1)) (hL : ∀ q ∈ locs, a ≤ q.base)
    (kk : ∀ (H1 : Heap) (locs1 : List Loc), gr G (L.set j (.inl (cT, n, .inr (.inr (.inr (.inr (va_up f i.toNatClampNeg (some (a + j2))))))))) a H0 H1 → (∀ q ∈ locs1, a ≤ q.base) → W p l e R s m args below meth c H1 locs1 cells slots Q (F0 m (pc + 1) ls rest)) : W p l e R s m args below meth c H locs cells slots Q (F0 m pc ls (.ref (a + j2) :: .int i :: .ref (a + j) :: rest)) := by
  have hlt : i.toNatClampNeg < n := Nat.not_le.mp fun q => hin (Or.inr q)
  have h0 : ¬ i < 0 := fun q => hin (Or.inl q)
  obtain ⟨r2, hr2, cell, g1, g2, g3, -⟩ := hG.2.1 j2 _ hj2
  have hr : r2 = r := Option.some.inj (hr2.symm.trans hc)
  subst hr
  have hcls := hK.1 ci _ hc
  obtain ⟨kA, comp, k1, k2, hcomp, k4⟩ := (hK.2 t0 _ ht).2
  have hcls2 := hcls.2
  have hcc : comp = G.1 ci := Option.some.inj (hcomp.symm.trans hcls.2.1)
  subst hcc
  obtain ⟨kC, hkC, -⟩ := hcls.2.2
  refine W.aast hexec hb (show H[a + j]? = _ from hG.2.1 j _ hj) (fun q h => by cases h) (fun h => by cases h) k1 k2 rfl hkC ⟨h0, by show _ < (arrV _ _ _).slots.size; rw [arrV_size]; exact hlt⟩ g1 (fun q h => by rw [g3] at h; cases h) (by rw [g2]; exact hkC) (by rw [g2]; exact va_assign hcls.2) rfl rfl hdg fun H1 e z oq => ?_
  refine kk H1 _ (hG.set z oq ?_) (cx_lL hL (Nat.le_add_right a j))
  show H1[a + j]? = some (vp_cell _ _)
  rw [e]
  rw [vp_cell_q, vp_cell_q, arrV_store]
  congr 2
  funext q
  by_cases hq : q = i.toNatClampNeg
  · subst hq
    simp [updV, va_up, va_rf]
  · simp [updV, va_up, hq]
theorem sg_call {nL : Nat} {own : String} (S : CallFix p m c cc nL s args WL own) {y : MethodName} {bytes : ByteArray} {maxL mc ms index : Nat} {rm : Room} {ws : List Cond} {d : va_E} {L' : List va_E} (hn : L.length = n) (hM : Met l y ws rm (cPn [.ref (a + n)] (gr G [d] (a + n) H) G cA) (cQ none (gr G L' (a + n) H)) mc ms (fun q => a + n ≤ q)) (cw : CallB R s args own index y bytes maxL none ws rm mc ms 0 ∧ y.name = "<init>" ∧ (Cond.instanceMethod y).before args s = true) (hK : cKn G cA s) (hG : gr G (L ++ [d]) a H0 H) (hsize : ls.size = nL) (hW : (rest.map fun v => v.category).sum ≤ 8) (hdg : decode cc pc = .ok (.invokespecial index, 3)) (hf : cells + mc ≤ R.cells ∧ slots + ms ≤ R.slots) (hL : ∀ q ∈ locs, a ≤ q.base)
    (kk : ∀ (H1 : Heap) (locs1 : List Loc), gr G (L ++ L') a H0 H1 → (∀ q ∈ locs1, a ≤ q.base) → W p l e R s m args below meth c H1 locs1 (cells + mc) (slots + ms) Q (F0 m (pc + 3) ls rest)) : W p l e R s m args below meth c H locs cells slots Q (F0 m pc ls (.ref (a + n) :: rest)) := by
  subst hn
  intro T hT X
  obtain ⟨v', st₀, t, T', L2, h0, X', hL', e1, e2, ⟨hv, hp⟩, st⟩ := va_runI (As := []) (rest := rest) S hM cw (cPn_preS hK hG.sub) rfl rfl hsize rfl (lv_room hW) hdg hf T hT X
  cases hv
  obtain ⟨t2, a1, b1⟩ := kk T'.heap (locs ++ L2) (hG.join (by rw [e1]; exact hp)) (fun q hq => (List.mem_append.mp hq).elim (hL q) (fun h => by have := hL' q h; omega)) T' rfl X'
  exact ⟨t2, st t2 a1, b1⟩
end SGN
theorem va_atq {G : va_G} {H : Heap} {q n : Nat} {cT : ClassId} {f f' : Nat → Option Nat} (h : ∀ j, j < n → f j = f' j) (hat : va_at G vwCl (q, .inl (cT, n, .inr (.inr (.inr (.inr f))))) H) : va_at G vwCl (q, .inl (cT, n, .inr (.inr (.inr (.inr f'))))) H := by
  have e : vp_cell cT (n, .inr (.inr (.inr (.inr f)))) = vp_cell cT (n, .inr (.inr (.inr (.inr f')))) := by
    rw [vp_cell_q, vp_cell_q]
    unfold arrV
    have e : (fun j : Fin n => va_rf (f j.1)) = (fun j : Fin n => va_rf (f' j.1)) := funext fun j => by rw [h j.1 j.2]
    show ({ cls := cT, slots := Array.ofFn (fun j : Fin n => va_rf (f j.1)) } : Cell) = _
    rw [e]
  have h1 : H[q]? = some (vp_cell cT (n, .inr (.inr (.inr (.inr f))))) := hat
  rw [e] at h1
  exact h1
