/-! THE WALKS' OWN GROUND: a world seen through a context: cells at addresses, a state that says what they hold, a statement of the heap that a change of one cell carries along -/


abbrev ObjS : Type := (Nat → Nat → Int32) × (Nat → Int32)
abbrev CacS : Type := Nat → ObjS
abbrev aty (cA : Nat → ClassId) : List (ClassId × FieldType) := [(cA 0, .int), (cA 1, .int), (cA 2, .int), (cA 3, .int), (cA 4, .object "GhostLayers$Cache"), (cA 5, .object "GhostLayers$Client")]
abbrev cK (G : va_G) (cA : Nat → ClassId) (U : State) : Prop := va_K G vwCl (aty cA) U
def oI (τ : ObjS) (k : Nat) (v : Int32) : ObjS := (τ.1, va_up τ.2 k v)
def oA (τ : ObjS) (k : Nat) (j : Nat) (v : Int32) : ObjS := (va_up τ.1 k (upd (τ.1 k) j v), τ.2)
def cx {S : Type} (G : va_G) (lo n : Nat) (ad : Nat → Nat) (cell : S → Nat → va_E) (P : S → Heap → Prop) : Prop :=
  (∀ σ H, P σ H → ∀ i, i < n → va_at G vwCl (ad i, cell σ i) H) ∧ (∀ i, i < n → lo ≤ ad i) ∧
  (∀ σ σ' H H1 i, i < n → P σ H → H1.size = H.size → (∀ q : Nat, q ≠ ad i → H1[q]? = H[q]?) → va_at G vwCl (ad i, cell σ' i) H1 → (∀ j, j < n → j ≠ i → cell σ' j = cell σ j) → P σ' H1) ∧
  (∀ σ H H1, P σ H → H.size ≤ H1.size → (∀ q : Nat, q < H.size → H1[q]? = H[q]?) → P σ H1)
theorem cx_sub {S S' : Type} {G : va_G} {lo n n' : Nat} {ad : Nat → Nat} {cell : S → Nat → va_E} {cell' : S' → Nat → va_E} {P : S → Heap → Prop} (h : cx G lo n ad cell P) (f : S' → S) (em : Nat → Nat) (h0 : ∀ i, i < n' → em i < n)
    (h1 : ∀ τ i, i < n' → cell (f τ) (em i) = cell' τ i) (h2 : ∀ τ τ' j, j < n → (∀ i, i < n' → em i ≠ j) → cell (f τ) j = cell (f τ') j) (h3 : ∀ i j, i < n' → j < n' → em i = em j → i = j) :
    cx G lo n' (fun i => ad (em i)) cell' (fun τ => P (f τ)) := by
  obtain ⟨a1, a2, a3, a4⟩ := h
  refine ⟨fun τ H hP i hi => ?_, fun i hi => a2 _ (h0 i hi), fun τ τ' H H1 i hi hP hz hq hat hc => ?_, fun τ H H1 hP hz hq => a4 _ _ _ hP hz hq⟩
  · have := a1 _ _ hP (em i) (h0 i hi)
    rwa [h1 τ i hi] at this
  · refine a3 (f τ) (f τ') H H1 (em i) (h0 i hi) hP hz hq (by rw [h1 τ' i hi]; exact hat) (fun j hj hne => ?_)
    by_cases hx : ∃ k, k < n' ∧ em k = j
    · obtain ⟨k, hk, rfl⟩ := hx
      rw [h1 τ' k hk, h1 τ k hk]
      exact hc k hk (fun e => hne (by rw [e]))
    · exact h2 τ' τ j hj (fun k hk e => hx ⟨k, hk, e⟩)
theorem va_up_id {α : Type} (f : Nat → α) (k : Nat) : va_up f k (f k) = f := by
  funext j
  unfold va_up
  by_cases h : j = k
  · rw [if_pos h, h]
  · rw [if_neg h]
theorem cx_id {α : Type} {P : (Nat → α) → Heap → Prop} {σ : Nat → α} {H : Heap} (k : Nat) (h : P σ H) : P (va_up σ k (σ k)) H := by rw [va_up_id]; exact h
def cx_let {α β : Type} (x : α) (k : α → Option β) : Option β := k x
theorem cx_letE {α β : Type} {x : α} {k : α → Option β} {r : Option β} (h : cx_let x k = r) : ∃ z, x = z ∧ k z = r := ⟨x, rfl, h⟩
theorem cx_t {β : Type} {c : Prop} [Decidable c] {x y r : Option β} (h : (if c then x else y) = r) (hc : c) : x = r := by rwa [if_pos hc] at h
theorem cx_f {β : Type} {c : Prop} [Decidable c] {x y r : Option β} (h : (if c then x else y) = r) (hc : ¬ c) : y = r := by rwa [if_neg hc] at h
theorem cx_g {β : Type} {c : Prop} [Decidable c] {x : Option β} {r : β} (h : (if c then x else none) = some r) : c ∧ x = some r := by
  by_cases hc : c
  · exact ⟨hc, by rwa [if_pos hc] at h⟩
  · rw [if_neg hc] at h; cases h
theorem cx_b {α β : Type} {x : Option α} {k : α → Option β} {r : β} (h : x.bind k = some r) : ∃ z, x = some z ∧ k z = some r := Option.bind_eq_some_iff.mp h
/-- the index is within the row -/
def inb (i : Int32) (n : Nat) : Prop := 0 ≤ i.toInt ∧ i.toInt < n
def inbD (i : Int32) (n : Nat) : Decidable (inb i n) := inferInstanceAs (Decidable (_ ∧ _))
def gd {β : Type} (i : Int32) (n : Nat) (x : Option β) : Option β := @ite _ (inb i n) (inbD i n) x none
theorem gdE {β : Type} {i : Int32} {n : Nat} {x : Option β} {r : β} (h : gd i n x = some r) : vp_in i n ∧ x = some r := by
  unfold gd at h
  by_cases hc : inb i n
  · rw [if_pos hc] at h; exact ⟨vp_in_iff.mpr hc, h⟩
  · rw [if_neg hc] at h; cases h
/-- what stands through a walk -/
def cB (p : Program) (s : State) (m : MethodId) (args : Array Value) (meth : Method) (c : Code) (own : String) (cc : ByteArray) (nL : Nat) (ret : Option FieldType) (G : va_G) (cA : Nat → ClassId) : Prop :=
  (p.tables.exec = Jvm.exec ∧ c.code = cc ∧ c.maxLocals = nL ∧ s.vm.findClass own = some m.cls ∧ ∀ w ∈ WL, w.before args s = true) ∧ meth.sig.returnType = ret ∧ meth.locks = false ∧ cK G cA s
def cQ (v : Option Value) (PH : Heap → Prop) : Array Value → State → Outcome → State → Prop := fun _ _ oc t => oc = .returned v ∧ PH t.heap
def cP (av : List Value) (PH : Heap → Prop) (G : va_G) (cA : Nat → ClassId) : Array Value → State → Prop := va_Pc av (fun U => PH U.heap ∧ cK G cA U)
def cW (y : MethodName) (b : ByteArray) (n : Nat) (r : Option FieldType) : List Cond := Cond.code y b n r :: WL
section CXW
variable {p : Program} {l : Launch} {e : Env} {R : Room} {s : State} {m : MethodId} {args : Array Value} {below : List Frame} {meth : Method} {c : Code} {H : Heap} {locs : List Loc} {cells slots : Nat} {Q : State → Prop}
variable {cc : ByteArray} {pc : Nat} {ls : Array Slot} {rest : List Value} {G : va_G} {a : Nat} {cA : Nat → ClassId}
theorem cx_one {q : Nat × va_E} (h : va_at G vwCl q H) : va_P G vwCl [q] H := by
  intro k z hz
  match k, hz with
  | 0, hz => cases hz; exact h
theorem cx_get (hexec : p.tables.exec = Jvm.exec) (hb : c.code = cc) {own ref C : String} {T : u_T} {N ci index : Nat} (hts : ∀ w ∈ WL, w.before args s = true) (hin : ∀ w ∈ u_ws C T N, w ∈ WL) (hown : s.vm.findClass own = some m.cls) (hK : cK G cA s) {fs : List Value} (hat : va_at G vwCl (a, .inr (ci, fs)) H) (hc : vwCl[ci]? = some (C, T, N)) (k : Nat) (hk : k < N) (hlink : (Cond.fieldLink own index ref (T k).2.1 (T k).2.2.1) ∈ WL) (href : (T k).1 = ref) {v : Value} (hv : fs[k]? = some v) (hdg : decode cc pc = .ok (.getfield index, 3))
    (kk : W p l e R s m args below meth c H locs cells slots Q (F0 m (pc + 3) ls (v :: rest))) : W p l e R s m args below meth c H locs cells slots Q (F0 m pc ls (.ref a :: rest)) :=
  va_get hexec hb hts hin hown hK (cx_one hat) 0 rfl hc k hk (hts _ hlink) (by rw [href]; exact fun _ h => h) hv hdg kk
theorem cx_put (hexec : p.tables.exec = Jvm.exec) (hb : c.code = cc) {own ref C : String} {T : u_T} {N ci index : Nat} (hts : ∀ w ∈ WL, w.before args s = true) (hin : ∀ w ∈ u_ws C T N, w ∈ WL) (ty0 : Nat → FieldType) (hty : ∀ k, k < N → parseFieldDescriptor (T k).2.2.1 = some (ty0 k)) (hnm : ∀ a, a < N → ∀ b, b < N → a ≠ b → (T a).2.1 ≠ (T b).2.1) (hown : s.vm.findClass own = some m.cls) (hK : cK G cA s) {fs : List Value} (hat : va_at G vwCl (a, .inr (ci, fs)) H) (hc : vwCl[ci]? = some (C, T, N)) (k : Nat) (hk : k < N) (hlink : (Cond.fieldLink own index ref (T k).2.1 (T k).2.2.1) ∈ WL) (href : (T k).1 = ref) (hfin : (T k).2.2.2 = false) {v : Value} (hn : narrow (ty0 k) v = v) (hfit : fits (ty0 k) v = true) (hl : k < fs.length) (hdg : decode cc pc = .ok (.putfield index, 3))
    (kk : ∀ (H1 : Heap) (k0 : Nat), va_at G vwCl (a, .inr (ci, fs.set k v)) H1 → H1.size = H.size → (∀ q : Nat, q ≠ a → H1[q]? = H[q]?) → W p l e R s m args below meth c H1 (locs ++ [⟨a, k0⟩]) cells slots Q (F0 m (pc + 3) ls rest)) : W p l e R s m args below meth c H locs cells slots Q (F0 m pc ls (v :: .ref a :: rest)) := by
  have hap := va_apart (own := own) hts hin ty0 hty hnm hK hc
  obtain ⟨r, h1, cell, q1, q2, q3, q4⟩ := hat
  have hr : r = (C, T, N) := Option.some.inj (h1.symm.trans hc)
  subst hr
  obtain ⟨hS, hfc, kC, hkC, hkind⟩ := hK.1 ci _ hc
  obtain ⟨cf, kf, fi, f, hi, hsl⟩ := hS k hk
  have hlay := hts _ (hin _ (u_in_lay hk))
  unfold u_lay at hlay
  rw [if_neg (by rw [hfin]; decide)] at hlay
  have hst := (u_facts hfc hkC (u_lays hts hin hk) hi).1
  have h6 := u_store hfc hkC hkind hlay hi (hty k hk) hn hfit
  have hi' : s.fieldFound? ref (T k).2.1 (T k).2.2.1 = some (cf, kf, fi, f) := by rw [← href]; exact hi
  refine W.putK hexec hb (f := f) ⟨hown, hts _ hlink, ⟨_, _, _, hi'⟩, hst⟩ (by rw [q2]; exact h6) q1 q3 (by rw [hsl]; exact k2_hasslot (q4 k hk)) rfl rfl hdg fun H' e1 e2 e3 => ?_
  rw [hsl] at e1 ⊢
  exact kk H' _ ⟨_, hc, t_OB.to (V := updV (vp_V fs) k v) ⟨_, e1, q2, q3, t_set q4 hap hk v⟩ (fun j _ => vp_updV_set hl v j)⟩ e2 e3
theorem cx_iald (hexec : p.tables.exec = Jvm.exec) (hb : c.code = cc) (hK : cK G cA s) {n : Nat} {f : Nat → Int32} (hat : va_at G vwCl (a, .inl (cA 0, n, .inl f)) H) {i : Int32} (hin : vp_in i n) (hdg : decode cc pc = .ok (.iaload, 1))
    (kk : W p l e R s m args below meth c H locs cells slots Q (F0 m (pc + 1) ls (.int (f i.toNatClampNeg) :: rest))) : W p l e R s m args below meth c H locs cells slots Q (F0 m pc ls (.int i :: .ref a :: rest)) :=
  va_iald hexec hb hK (cx_one hat) 0 0 rfl rfl hin hdg kk
theorem cx_iast (hexec : p.tables.exec = Jvm.exec) (hb : c.code = cc) (hK : cK G cA s) {n : Nat} {f : Nat → Int32} (hat : va_at G vwCl (a, .inl (cA 0, n, .inl f)) H) {i x : Int32} (hin : vp_in i n) (hdg : decode cc pc = .ok (.iastore, 1))
    (kk : ∀ (H1 : Heap) (k0 : Nat), va_at G vwCl (a, .inl (cA 0, n, .inl (upd f i.toNatClampNeg x))) H1 → H1.size = H.size → (∀ q : Nat, q ≠ a → H1[q]? = H[q]?) → W p l e R s m args below meth c H1 (locs ++ [⟨a, k0⟩]) cells slots Q (F0 m (pc + 1) ls rest)) : W p l e R s m args below meth c H locs cells slots Q (F0 m pc ls (.int x :: .int i :: .ref a :: rest)) := by
  refine W.iast hexec hb (show H[a]? = _ from hat) ((hK.2 0 _ rfl).1 n (fun j => .int (f j))) (fun q => by cases q) (by show ¬ (i < 0 ∨ (arrV _ _ _).slots.size ≤ _); rw [arrV_size]; exact hin) rfl rfl hdg fun H1 e z oq => ?_
  refine kk H1 _ ?_ z oq
  show H1[a]? = some (vp_cell _ _)
  rw [e]
  rw [vp_cell_i, vp_cell_i, arrV_store]
  congr 2
  funext q
  by_cases hq : q = i.toNatClampNeg
  · subst hq
    simp [updV, upd]
  · simp [updV, upd, hq]
theorem cx_alen (hexec : p.tables.exec = Jvm.exec) (hb : c.code = cc) (hK : cK G cA s) {n : Nat} {f : Nat → Int32} (hat : va_at G vwCl (a, .inl (cA 0, n, .inl f)) H) {v : Int32} (hv : Int32.ofNat n = v) (hdg : decode cc pc = .ok (.arraylength, 1))
    (kk : W p l e R s m args below meth c H locs cells slots Q (F0 m (pc + 1) ls (.int v :: rest))) : W p l e R s m args below meth c H locs cells slots Q (F0 m pc ls (.ref a :: rest)) := by
  subst hv
  exact va_alen hexec hb hK (cx_one hat) 0 0 rfl rfl rfl hdg kk
/-- a call's way on: what came back, the world as the callee says -/
theorem cx_call {v : Option Value} {PH : Heap → Prop} {st0 : List Value} {av : Array Value} {lo mc ms : Nat} (hr : va_Run p l e R s m args below meth c H locs cells slots mc ms (F0 m pc ls st0) rest (cQ v PH av) (fun q => lo ≤ q)) (hL : ∀ q ∈ locs, lo ≤ q.base)
    (kk : ∀ (H1 : Heap) (locs1 : List Loc), PH H1 → (∀ q ∈ locs1, lo ≤ q.base) → W p l e R s m args below meth c H1 locs1 (cells + mc) (slots + ms) Q (F0 m (pc + 3) ls (v.toList ++ rest))) : W p l e R s m args below meth c H locs cells slots Q (F0 m pc ls st0) := by
  intro T hT X
  obtain ⟨v', st₀, t, T', L, h0, X', hL', e1, e2, ⟨hv, hp⟩, st⟩ := hr T hT X
  cases hv
  obtain ⟨t2, a1, b1⟩ := kk T'.heap (locs ++ L) (by rw [e1]; exact hp) (fun q hq => (List.mem_append.mp hq).elim (hL q) (hL' q)) T' rfl X'
  exact ⟨t2, st t2 a1, b1⟩
theorem cx_lL {lo k0 : Nat} (h : ∀ q ∈ locs, lo ≤ q.base) (ha : lo ≤ a) : ∀ q ∈ locs ++ [(⟨a, k0⟩ : Loc)], lo ≤ q.base := fun q hq => (List.mem_append.mp hq).elim (h q) (fun h1 => by rw [List.mem_singleton.mp h1]; exact ha)
end CXW
theorem cP_blind {av : List Value} {PH : Heap → Prop} {G : va_G} {cA : Nat → ClassId} : FrameBlind (cP av PH G cA) := fun a U g mk q => by
  obtain ⟨q0, q1, q2⟩ := q
  exact ⟨q0, q1, va_K.moved (u := U) (U := U.calling g mk a) (Vm.Alike.refl U.vm) q2⟩
theorem cP_preS {s : State} {H : Heap} {As : List Value} {PH : Heap → Prop} {G : va_G} {cA : Nat → ClassId} (hK : cK G cA s) (hP : PH H) : PreS s H (cP As PH G cA) As :=
  ⟨cP_blind, fun U hU hW => ⟨rfl, by rw [hU]; exact hP, va_K.moved hW.alike hK⟩⟩
theorem cP_preV {s : State} {H : Heap} {As : List Value} {PH : Heap → Prop} {G : va_G} {cA : Nat → ClassId} {C : String} {T : u_T} {N ci b : Nat} {fs : List Value} (hK : cK G cA s) (hP : PH H) (hc : vwCl[ci]? = some (C, T, N)) (hat : va_at G vwCl (b, .inr (ci, fs)) H) : PreV s H C b (cP (.ref b :: As) PH G cA) As := by
  refine ⟨cP_blind, ?_, fun U hU hW => ⟨rfl, by rw [hU]; exact hP, va_K.moved hW.alike hK⟩⟩
  exact va_recv hK (cx_one hat) hc (q0 := 0) rfl
theorem WL_good : ∀ w ∈ WL, (w.onTables && w.keeps) = true ∨ ∃ ty, w = .arrayClass ty := by
  have h0 : wsL_law0.all goodWord = true := by decide +kernel
  intro w hw
  unfold WL wsL_law at hw
  rcases List.mem_append.mp hw with hw | hw
  · rcases List.mem_append.mp hw with hw | hw
    · rcases List.mem_append.mp hw with hw | hw
      · exact good_of_word (List.all_eq_true.mp h0 w hw)
      · exact good_of_word (List.mem_filter.mp hw).2
    · exact good_of_word (List.mem_filter.mp hw).2
  · exact good_of_word (List.mem_filter.mp hw).2
theorem gW {y : MethodName} {b : ByteArray} {n : Nat} {r : Option FieldType} (h : Cond.code y b n r ∈ WL) : GoodIn WL (cW y b n r) := by
  intro w hw
  have h1 : w ∈ WL := (List.mem_cons.mp hw).elim (fun e => by rw [e]; exact h) id
  exact ⟨h1, WL_good w h1⟩
theorem gV {own C : String} {idx : Nat} {y : MethodName} {b : ByteArray} {n : Nat} {r : Option FieldType} (h1 : Cond.methodLink own idx y ∈ WL) (h2 : Cond.instanceMethod y ∈ WL) (h3 : Cond.selects C y y ∈ WL) (h4 : Cond.initialized C ∈ WL) (h : Cond.code y b n r ∈ WL) : GoodIn WL (wsV own idx C y (cW y b n r)) := by
  refine goodIn_app (fun w hw => ?_) (gW h)
  have h5 : w ∈ WL := by
    rcases List.mem_cons.mp hw with rfl | hw
    · exact h1
    rcases List.mem_cons.mp hw with rfl | hw
    · exact h2
    rcases List.mem_cons.mp hw with rfl | hw
    · exact h3
    rcases List.mem_cons.mp hw with rfl | hw
    · exact h4
    exact absurd hw List.not_mem_nil
  exact ⟨h5, WL_good w h5⟩
theorem gS {own : String} {idx : Nat} {y : MethodName} {b : ByteArray} {n : Nat} {r : Option FieldType} (h1 : Cond.methodLink own idx y ∈ WL) (h2 : Cond.static y ∈ WL) (h4 : Cond.initialized own ∈ WL) (h : Cond.code y b n r ∈ WL) : GoodIn WL (wsS own idx y (cW y b n r)) := by
  refine goodIn_app (fun w hw => ?_) (gW h)
  have h5 : w ∈ WL := by
    rcases List.mem_cons.mp hw with rfl | hw
    · exact h1
    rcases List.mem_cons.mp hw with rfl | hw
    · exact h2
    rcases List.mem_cons.mp hw with rfl | hw
    · exact h4
    exact absurd hw List.not_mem_nil
  exact ⟨h5, WL_good w h5⟩
/-- a method's contract out of the walk of its body -/
theorem cx_met {l : Launch} {y : MethodName} {rm : Room} {av : List Value} {PH : Heap → Prop} {G : va_G} {cA : Nat → ClassId} {Qc : Array Value → State → Outcome → State → Prop} {mc ms lo : Nat} {cc : ByteArray} {maxL : Nat} {ret : Option FieldType} (hy : plainName y.cls = true) (hlen : (lg_sl av).length ≤ maxL)
    (body : ∀ (p : Program) (e : Env) (s : State) (m : MethodId) (args : Array Value) (below : List Frame) (meth : Method) (c : Code) (ls : Array Slot), cB p s m args meth c y.cls cc maxL ret G cA → PH s.heap → lv_has ls maxL (lv_args 0 av) →
      W p l e rm s m args below meth c s.heap [] 0 0 (MQ below Qc args s mc ms (fun q => lo ≤ q)) (F0 m 0 ls [])) : Met l y (cW y cc maxL ret) rm (cP av PH G cA) Qc mc ms (fun q => lo ≤ q) := by
  refine Met.ofW (cc := cc) (maxL := maxL) (ret := ret) hy rfl ?_
  intro p e s m args below meth c s₁ B hml hv
  obtain ⟨rfl, hP, hK⟩ := hv
  have hts := atoms_spec (ws := cW y cc maxL ret) B.pre
  have hl := lv_entry av (n := maxL) hlen
  rw [lg_entry_eq]
  exact body p e s m _ below meth c _ ⟨⟨B.exec, B.bytes, hml, findClass_of_methodNamed B.named, fun w hw => hts w (List.mem_cons_of_mem _ hw)⟩, B.returns, B.notSynchronized, hK⟩ hP hl
section CXR
variable {p : Program} {l : Launch} {e : Env} {R : Room} {s : State} {m : MethodId} {args : Array Value} {below : List Frame} {meth : Method} {c : Code} {H : Heap} {locs : List Loc} {cells slots : Nat} {Q : State → Prop}
variable {cc : ByteArray} {pc : Nat} {ls : Array Slot} {rest st0 : List Value} {G : va_G} {cA : Nat → ClassId} {lo mc ms : Nat} {PH PH1 : Heap → Prop} {v : Option Value} {nL n index : Nat} {own C : String} {y : MethodName} {bytes : ByteArray} {maxL : Nat} {ret : Option FieldType} {rm : Room}
theorem cx_callV (As : List Value) (rest : List Value) {ws : List Cond} {T : u_T} {N ci b : Nat} {fs : List Value} (S : CallFix p m c cc nL s args WL own) (hM : Met l y ws rm (cP (.ref b :: As) PH G cA) (cQ v PH1) mc ms (fun q => lo ≤ q)) (cw : CallW R s args own C index y bytes maxL ret ws rm mc ms n) (hK : cK G cA s) (hP : PH H) (hc : vwCl[ci]? = some (C, T, N)) (hat : va_at G vwCl (b, .inr (ci, fs)) H) (hn : As.length = n) (hsize : ls.size = nL) (hst : st0 = As.reverse ++ .ref b :: rest) (hW : (rest.map fun v => v.category).sum ≤ 8) (hdg : decode cc pc = .ok (.invokevirtual index, 3)) (hf : cells + mc ≤ R.cells ∧ slots + ms ≤ R.slots) (hL : ∀ q ∈ locs, lo ≤ q.base)
    (kk : ∀ (H1 : Heap) (locs1 : List Loc), PH1 H1 → (∀ q ∈ locs1, lo ≤ q.base) → W p l e R s m args below meth c H1 locs1 (cells + mc) (slots + ms) Q (F0 m (pc + 3) ls (v.toList ++ rest))) : W p l e R s m args below meth c H locs cells slots Q (F0 m pc ls st0) := by
  subst hst
  exact cx_call (va_runV (As := As) (rest := rest) S hM cw (cP_preV hK hP hc hat) rfl hn hsize rfl (lv_room hW) hdg hf) hL kk
theorem cx_callS (As : List Value) (rest : List Value) {ws : List Cond} (S : CallFix p m c cc nL s args WL own) (hM : Met l y ws rm (cP As PH G cA) (cQ v PH1) mc ms (fun q => lo ≤ q)) (cw : CallB R s args own index y bytes maxL ret ws rm mc ms n ∧ (Cond.static y).before args s = true) (hK : cK G cA s) (hP : PH H) (hn : As.length = n) (hsize : ls.size = nL) (hst : st0 = As.reverse ++ rest) (hW : (rest.map fun v => v.category).sum ≤ 8) (hdg : decode cc pc = .ok (.invokestatic index, 3)) (hf : cells + mc ≤ R.cells ∧ slots + ms ≤ R.slots) (hL : ∀ q ∈ locs, lo ≤ q.base)
    (kk : ∀ (H1 : Heap) (locs1 : List Loc), PH1 H1 → (∀ q ∈ locs1, lo ≤ q.base) → W p l e R s m args below meth c H1 locs1 (cells + mc) (slots + ms) Q (F0 m (pc + 3) ls (v.toList ++ rest))) : W p l e R s m args below meth c H locs cells slots Q (F0 m pc ls st0) := by
  subst hst
  exact cx_call (va_runS (As := As) (rest := rest) S hM cw (cP_preS hK hP) rfl hn hsize rfl (lv_room hW) hdg hf) hL kk
theorem cx_iret {x : Int32} (hexec : p.tables.exec = Jvm.exec) (hb : c.code = cc) (hr : meth.sig.returnType = some .int) (hlocks : meth.locks = false) (hP : PH H) (hL : ∀ q ∈ locs, lo ≤ q.base) (hdg : decode cc pc = .ok (.ireturn, 1)) : W p l e R s m args below meth c H locs cells slots (MQ below (cQ (some (.int x)) PH) args s cells slots (fun q => lo ≤ q)) (F0 m pc ls [.int x]) :=
  W.iret hexec hb hr (fun t ht _ => ⟨rfl, by rw [ht]; exact hP⟩) hL hdg hlocks
theorem cx_zret {x : Int32} (hexec : p.tables.exec = Jvm.exec) (hb : c.code = cc) (hr : meth.sig.returnType = some .boolean) (hlocks : meth.locks = false) (hx : x = 0 ∨ x = 1) (hP : PH H) (hL : ∀ q ∈ locs, lo ≤ q.base) (hdg : decode cc pc = .ok (.ireturn, 1)) : W p l e R s m args below meth c H locs cells slots (MQ below (cQ (some (.int x)) PH) args s cells slots (fun q => lo ≤ q)) (F0 m pc ls [.int x]) :=
  W.zret hexec hb hr (by rcases hx with rfl | rfl <;> rfl) (fun t ht _ => ⟨rfl, by rw [ht]; exact hP⟩) hL hdg hlocks
theorem cx_vret (hexec : p.tables.exec = Jvm.exec) (hb : c.code = cc) (hr : meth.sig.returnType = none) (hlocks : meth.locks = false) (hP : PH H) (hL : ∀ q ∈ locs, lo ≤ q.base) (hdg : decode cc pc = .ok (.return_, 1)) : W p l e R s m args below meth c H locs cells slots (MQ below (cQ none PH) args s cells slots (fun q => lo ≤ q)) (F0 m pc ls []) :=
  W.vret hexec hb hr (fun t ht _ => ⟨rfl, by rw [ht]; exact hP⟩) hL hdg hlocks
theorem cx_aret {a : Nat} {cn : String} (hexec : p.tables.exec = Jvm.exec) (hb : c.code = cc) (hr : meth.sig.returnType = some (.object cn)) (hlocks : meth.locks = false) (hP : PH H) (hL : ∀ q ∈ locs, lo ≤ q.base) (hdg : decode cc pc = .ok (.areturn, 1)) : W p l e R s m args below meth c H locs cells slots (MQ below (cQ (some (.ref a)) PH) args s cells slots (fun q => lo ≤ q)) (F0 m pc ls [.ref a]) :=
  W.aret hexec hb hr (Or.inl ⟨_, rfl⟩) (Or.inr ⟨_, rfl⟩) (fun t ht _ => ⟨rfl, by rw [ht]; exact hP⟩) hL hdg hlocks
theorem cx_aretN {cn : String} (hexec : p.tables.exec = Jvm.exec) (hb : c.code = cc) (hr : meth.sig.returnType = some (.object cn)) (hlocks : meth.locks = false) (hP : PH H) (hL : ∀ q ∈ locs, lo ≤ q.base) (hdg : decode cc pc = .ok (.areturn, 1)) : W p l e R s m args below meth c H locs cells slots (MQ below (cQ (some .null) PH) args s cells slots (fun q => lo ≤ q)) (F0 m pc ls [.null]) :=
  W.aret hexec hb hr (Or.inl ⟨_, rfl⟩) (Or.inl rfl) (fun t ht _ => ⟨rfl, by rw [ht]; exact hP⟩) hL hdg hlocks
end CXR
def zb {β : Type} (v : Int32) (x : Option β) : Option β := if v = 0 ∨ v = 1 then x else none
theorem zbE {β : Type} {v : Int32} {x : Option β} {r : β} (h : zb v x = some r) : (v = 0 ∨ v = 1) ∧ x = some r := cx_g h
def dz {β : Type} (v : Int32) (x : Option β) : Option β := if v = 0 then none else x
theorem dzE {β : Type} {v : Int32} {x : Option β} {r : β} (h : dz v x = some r) : ¬ v = 0 ∧ x = some r := by
  unfold dz at h
  by_cases hc : v = 0
  · rw [if_pos hc] at h; cases h
  · exact ⟨hc, by rwa [if_neg hc] at h⟩
def on_ {α β : Type} (o : Option α) (a : Option β) (b : α → Option β) : Option β := match o with
  | none => a
  | some k => b k
theorem on_N {α β : Type} {a r : Option β} {b : α → Option β} (h : on_ none a b = r) : a = r := h
theorem on_S {α β : Type} {k : α} {a r : Option β} {b : α → Option β} (h : on_ (some k) a b = r) : b k = r := h
theorem vp_lt {i : Int32} {n : Nat} (h : vp_in i n) : i.toNatClampNeg < n := Nat.not_le.mp fun q => h (Or.inr q)
theorem cx_id2 {α β : Type} {P : (Nat → α) → (Nat → β) → Heap → Prop} {σ : Nat → α} {σ2 : Nat → β} {H : Heap} (k k2 : Nat) (h : P σ σ2 H) : P (va_up σ k (σ k)) (va_up σ2 k2 (σ2 k2)) H := by rw [va_up_id, va_up_id]; exact h
