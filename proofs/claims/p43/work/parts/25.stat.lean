/-! what stands still: the script -/
abbrev ZS : Type := Nat × Nat × (Nat → Int32)
def Zt (lo : Nat) (z : ZS) (U : State) : Prop := z.1 < lo ∧ z.1 < U.heap.size ∧ va_X z.1 z.2.1 z.2.2 U U.heap
theorem Zt.go {lo : Nat} {z : ZS} {s U : State} (hW : s.WarmedH U.vm) (hz : z.1 < U.heap.size) (hq : ∀ a : Nat, a < s.heap.size → ¬ lo ≤ a → U.heap[a]? = s.heap[a]?) (h : Zt lo z s) : Zt lo z U :=
  ⟨h.1, hz, (va_X.moved hW.alike h.2.2).kept (hq z.1 h.2.1 (Nat.not_le.mpr h.1))⟩
theorem Zt.eq {lo : Nat} {z : ZS} {s U : State} (hv : U.vm = s.vm) (hh : U.heap = s.heap) (h : Zt lo z s) : Zt lo z U :=
  ⟨h.1, by rw [hh]; exact h.2.1, (va_X.moved (by rw [hv]; exact Vm.Alike.refl s.vm) h.2.2).kept (by rw [hh])⟩
def cPZ (lo : Nat) (z : ZS) (av : List Value) (PH : Heap → Prop) (G : va_G) (cA : Nat → ClassId) : Array Value → State → Prop := va_Pc av (fun U => PH U.heap ∧ cK G cA U ∧ Zt lo z U)
theorem cPZ_blind {lo : Nat} {z : ZS} {av : List Value} {PH : Heap → Prop} {G : va_G} {cA : Nat → ClassId} : FrameBlind (cPZ lo z av PH G cA) := fun a U g mk q => by
  obtain ⟨q0, q1, q2, q3⟩ := q
  exact ⟨q0, q1, va_K.moved (u := U) (U := U.calling g mk a) (Vm.Alike.refl U.vm) q2, Zt.eq (s := U) (U := U.calling g mk a) rfl rfl q3⟩
theorem cPZ_preS {lo : Nat} {z : ZS} {s : State} {H : Heap} {As : List Value} {PH : Heap → Prop} {G : va_G} {cA : Nat → ClassId} {locs : List Loc} (hK : cK G cA s) (hZ : Zt lo z s) (hS : va_S (fun q => lo ≤ q) s.heap H locs) (hP : PH H) : PreS s H (cPZ lo z As PH G cA) As :=
  ⟨cPZ_blind, fun U hU hW => ⟨rfl, by rw [hU]; exact hP, va_K.moved hW.alike hK, Zt.go hW (by rw [hU]; exact Nat.lt_of_lt_of_le hZ.2.1 hS.1) (by rw [hU]; exact hS.2.1) hZ⟩⟩
theorem cPZ_preV {lo : Nat} {z : ZS} {s : State} {H : Heap} {As : List Value} {PH : Heap → Prop} {G : va_G} {cA : Nat → ClassId} {locs : List Loc} {C : String} {T : u_T} {N ci b : Nat} {fs : List Value} (hK : cK G cA s) (hZ : Zt lo z s) (hS : va_S (fun q => lo ≤ q) s.heap H locs) (hP : PH H) (hc : vwCl[ci]? = some (C, T, N)) (hat : va_at G vwCl (b, .inr (ci, fs)) H) : PreV s H C b (cPZ lo z (.ref b :: As) PH G cA) As := by
  refine ⟨cPZ_blind, ?_, fun U hU hW => ⟨rfl, by rw [hU]; exact hP, va_K.moved hW.alike hK, Zt.go hW (by rw [hU]; exact Nat.lt_of_lt_of_le hZ.2.1 hS.1) (by rw [hU]; exact hS.2.1) hZ⟩⟩
  exact va_recv hK (cx_one hat) hc (q0 := 0) rfl
theorem cx_metZ {l : Launch} {y : MethodName} {rm : Room} {av : List Value} {PH : Heap → Prop} {G : va_G} {cA : Nat → ClassId} {z : ZS} {Qc : Array Value → State → Outcome → State → Prop} {mc ms lo : Nat} {cc : ByteArray} {maxL : Nat} {ret : Option FieldType} (hy : plainName y.cls = true) (hlen : (lg_sl av).length ≤ maxL)
    (body : ∀ (p : Program) (e : Env) (s : State) (m : MethodId) (args : Array Value) (below : List Frame) (meth : Method) (c : Code) (ls : Array Slot), cB p s m args meth c y.cls cc maxL ret G cA → Zt lo z s → PH s.heap → lv_has ls maxL (lv_args 0 av) →
      W p l e rm s m args below meth c s.heap [] 0 0 (MQ below Qc args s mc ms (fun q => lo ≤ q)) (F0 m 0 ls [])) : Met l y (cW y cc maxL ret) rm (cPZ lo z av PH G cA) Qc mc ms (fun q => lo ≤ q) := by
  refine Met.ofW (cc := cc) (maxL := maxL) (ret := ret) hy rfl ?_
  intro p e s m args below meth c s₁ B hml hv
  obtain ⟨rfl, hP, hK, hZ⟩ := hv
  have hts := atoms_spec (ws := cW y cc maxL ret) B.pre
  have hl := lv_entry av (n := maxL) hlen
  rw [lg_entry_eq]
  exact body p e s m _ below meth c _ ⟨⟨B.exec, B.bytes, hml, findClass_of_methodNamed B.named, fun w hw => hts w (List.mem_cons_of_mem _ hw)⟩, B.returns, B.notSynchronized, hK⟩ hZ hP hl
section CXZ
variable {p : Program} {l : Launch} {e : Env} {R : Room} {s : State} {m : MethodId} {args : Array Value} {below : List Frame} {meth : Method} {c : Code} {H : Heap} {locs : List Loc} {cells slots : Nat} {Q : State → Prop}
variable {cc : ByteArray} {pc : Nat} {ls : Array Slot} {rest st0 : List Value} {G : va_G} {cA : Nat → ClassId} {z : ZS} {lo mc ms : Nat} {PH PH1 : Heap → Prop} {v : Option Value} {nL n index : Nat} {own C : String} {y : MethodName} {bytes : ByteArray} {maxL : Nat} {ret : Option FieldType} {rm : Room}
theorem cz_S {g : JFrame} (hL : ∀ q ∈ locs, lo ≤ q.base) (k : va_S (fun q => lo ≤ q) s.heap H locs → W p l e R s m args below meth c H locs cells slots Q g) : W p l e R s m args below meth c H locs cells slots Q g := fun T hT X => by
  obtain ⟨h1, h2⟩ := vx_frame (s := s) (U := T) X.same
  refine k ⟨by rw [← hT]; exact h1, fun q hq hA => by rw [← hT]; exact h2 q hq (fun y hy e => hA (by rw [← e]; exact hL y hy)), hL⟩ T hT X
theorem cx_callVZ (As : List Value) (rest : List Value) {ws : List Cond} {T : u_T} {N ci b : Nat} {fs : List Value} (S : CallFix p m c cc nL s args WL own) (hM : Met l y ws rm (cPZ lo z (.ref b :: As) PH G cA) (cQ v PH1) mc ms (fun q => lo ≤ q)) (cw : CallW R s args own C index y bytes maxL ret ws rm mc ms n) (hK : cK G cA s) (hZ : Zt lo z s) (hP : PH H) (hc : vwCl[ci]? = some (C, T, N)) (hat : va_at G vwCl (b, .inr (ci, fs)) H) (hn : As.length = n) (hsize : ls.size = nL) (hst : st0 = As.reverse ++ .ref b :: rest) (hW : (rest.map fun v => v.category).sum ≤ 8) (hdg : decode cc pc = .ok (.invokevirtual index, 3)) (hf : cells + mc ≤ R.cells ∧ slots + ms ≤ R.slots) (hL : ∀ q ∈ locs, lo ≤ q.base)
    (kk : ∀ (H1 : Heap) (locs1 : List Loc), PH1 H1 → (∀ q ∈ locs1, lo ≤ q.base) → W p l e R s m args below meth c H1 locs1 (cells + mc) (slots + ms) Q (F0 m (pc + 3) ls (v.toList ++ rest))) : W p l e R s m args below meth c H locs cells slots Q (F0 m pc ls st0) := by
  subst hst
  exact cz_S hL (fun hS => cx_call (va_runV (As := As) (rest := rest) S hM cw (cPZ_preV hK hZ hS hP hc hat) rfl hn hsize rfl (lv_room hW) hdg hf) hL kk)
theorem cx_callSZ (As : List Value) (rest : List Value) {ws : List Cond} (S : CallFix p m c cc nL s args WL own) (hM : Met l y ws rm (cPZ lo z As PH G cA) (cQ v PH1) mc ms (fun q => lo ≤ q)) (cw : CallB R s args own index y bytes maxL ret ws rm mc ms n ∧ (Cond.static y).before args s = true) (hK : cK G cA s) (hZ : Zt lo z s) (hP : PH H) (hn : As.length = n) (hsize : ls.size = nL) (hst : st0 = As.reverse ++ rest) (hW : (rest.map fun v => v.category).sum ≤ 8) (hdg : decode cc pc = .ok (.invokestatic index, 3)) (hf : cells + mc ≤ R.cells ∧ slots + ms ≤ R.slots) (hL : ∀ q ∈ locs, lo ≤ q.base)
    (kk : ∀ (H1 : Heap) (locs1 : List Loc), PH1 H1 → (∀ q ∈ locs1, lo ≤ q.base) → W p l e R s m args below meth c H1 locs1 (cells + mc) (slots + ms) Q (F0 m (pc + 3) ls (v.toList ++ rest))) : W p l e R s m args below meth c H locs cells slots Q (F0 m pc ls st0) := by
  subst hst
  exact cz_S hL (fun hS => cx_call (va_runS (As := As) (rest := rest) S hM cw (cPZ_preS hK hZ hS hP) rfl hn hsize rfl (lv_room hW) hdg hf) hL kk)
end CXZ
