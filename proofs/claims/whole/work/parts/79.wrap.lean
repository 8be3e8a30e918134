def Nc3 (U : State) : Prop := ∀ i j, i < 3 → j < 3 → i ≠ j → va_Nc (exN i) (exN j) U
theorem Nc3.moved {u U : State} (hvm : u.vm.Alike U.vm) (h : Nc3 u) : Nc3 U := fun i j hi hj hne => va_Nc.moved hvm (h i j hi hj hne)
def cWx (y : MethodName) (b : ByteArray) (n : Nat) (r : Option FieldType) (hh : List (Nat × Nat × Nat × Nat)) : List Cond := Cond.codeWith y b n r hh :: WL
def cPW (lo : Nat) (z : ZS) (av : List Value) (PH : Heap → Prop) (G : va_G) (cA : Nat → ClassId) : Array Value → State → Prop := va_Pc av (fun U => PH U.heap ∧ cKn G cA U ∧ Zt lo z U ∧ Nc3 U)
theorem cPW_preS {lo : Nat} {z : ZS} {s : State} {H : Heap} {As : List Value} {PH : Heap → Prop} {G : va_G} {cA : Nat → ClassId} {locs : List Loc} (hK : cKn G cA s) (hZ : Zt lo z s) (hX : Nc3 s) (hS : va_S (fun q => lo ≤ q) s.heap H locs) (hP : PH H) : PreS s H (cPW lo z As PH G cA) As :=
  ⟨fun a U g mk q => by
    obtain ⟨q0, q1, q2, q3, q4⟩ := q
    exact ⟨q0, q1, cKn.moved (u := U) (U := U.calling g mk a) (Vm.Alike.refl U.vm) q2, Zt.eq (s := U) (U := U.calling g mk a) rfl rfl q3, Nc3.moved (u := U) (U := U.calling g mk a) (Vm.Alike.refl U.vm) q4⟩, fun U hU hW => ⟨rfl, by rw [hU]; exact hP, cKn.moved hW.alike hK, Zt.go hW (by rw [hU]; exact hS.2.1) hZ, Nc3.moved hW.alike hX⟩⟩
theorem cPZn_preV {lo : Nat} {z : ZS} {s : State} {H : Heap} {As : List Value} {PH : Heap → Prop} {G : va_G} {cA : Nat → ClassId} {locs : List Loc} {C : String} {T : u_T} {N ci b : Nat} {fs : List Value} (hK : cKn G cA s) (hZ : Zt lo z s) (hS : va_S (fun q => lo ≤ q) s.heap H locs) (hP : PH H) (hc : vwCl[ci]? = some (C, T, N)) (hat : va_at G vwCl (b, .inr (ci, fs)) H) : PreV s H C b (cPZn lo z (.ref b :: As) PH G cA) As := by
  refine ⟨fun a U g mk q => ?_, ?_, fun U hU hW => ⟨rfl, by rw [hU]; exact hP, cKn.moved hW.alike hK, Zt.go hW (by rw [hU]; exact hS.2.1) hZ⟩⟩
  · obtain ⟨q0, q1, q2, q3⟩ := q
    exact ⟨q0, q1, cKn.moved (u := U) (U := U.calling g mk a) (Vm.Alike.refl U.vm) q2, Zt.eq (s := U) (U := U.calling g mk a) rfl rfl q3⟩
  · exact va_recv hK.1 (cx_one hat) hc (q0 := 0) rfl
theorem wx_met {l : Launch} {y : MethodName} {rm : Room} {av : List Value} {PH : Heap → Prop} {G : va_G} {cA : Nat → ClassId} {z : ZS} {Qc : Array Value → State → Outcome → State → Prop} {mc ms lo : Nat} {cc : ByteArray} {maxL : Nat} {ret : Option FieldType} {hh : List (Nat × Nat × Nat × Nat)} (hy : plainName y.cls = true) (hlen : (lg_sl av).length ≤ maxL)
    (body : ∀ (p : Program) (e : Env) (s : State) (m : MethodId) (args : Array Value) (below : List Frame) (meth : Method) (c : Code) (ls : Array Slot), cB p s m args meth c y.cls cc maxL ret G cA → cKn G cA s → c.exceptionTable.toList = tableOf hh → Zt lo z s → Nc3 s → PH s.heap → lv_has ls maxL (lv_args 0 av) →
      W p l e rm s m args below meth c s.heap [] 0 0 (MQ below Qc args s mc ms (fun q => lo ≤ q)) (F0 m 0 ls [])) : Met l y (cWx y cc maxL ret hh) rm (cPW lo z av PH G cA) Qc mc ms (fun q => lo ≤ q) := by
  refine va_MetW (cc := cc) (maxL := maxL) (ret := ret) (hh := hh) hy rfl ?_
  intro p e s m args below meth c s₁ B hml hv
  obtain ⟨rfl, hP, hK, hZ, hX⟩ := hv
  have hts := atoms_spec (ws := cWx y cc maxL ret hh) B.pre
  have htab := vx_table (x := y) B (hts _ List.mem_cons_self)
  have hl := lv_entry av (n := maxL) hlen
  rw [lg_entry_eq]
  exact body p e s m _ below meth c _ ⟨⟨B.exec, B.bytes, hml, findClass_of_methodNamed B.named, fun w hw => hts w (List.mem_cons_of_mem _ hw)⟩, B.returns, B.notSynchronized, hK.1⟩ hK htab hZ hX hP hl
section WXR
variable {p : Program} {l : Launch} {e : Env} {R : Room} {s : State} {m : MethodId} {args : Array Value} {below : List Frame} {meth : Method} {c : Code} {H : Heap} {locs : List Loc} {cells slots : Nat} {Q : State → Prop}
variable {cc : ByteArray} {pc : Nat} {ls : Array Slot} {rest st0 : List Value} {G : va_G} {a : Nat} {cA : Nat → ClassId} {z : ZS} {lo mc ms : Nat} {PH PX PH1 : Heap → Prop} {nL n index : Nat} {own C : String} {y : MethodName} {bytes : ByteArray} {maxL : Nat} {ret : Option FieldType} {rm : Room} {α : Type} {val : α → Option Value} {PHf : α → Heap → Prop} {res : Nat ⊕ α} {v : Option Value}
theorem cx_last (hexec : p.tables.exec = Jvm.exec) (hb : c.code = cc) (hK : cK G cA s) {n : Nat} {f : Nat → Int64} (hat : va_at G vwCl (a, .inl (cA 2, n, .inr (.inl f))) H) {i : Int32} {x : Int64} (hin : vp_in i n) (hdg : decode cc pc = .ok (.lastore, 1))
    (kk : ∀ (H1 : Heap) (k0 : Nat), va_at G vwCl (a, .inl (cA 2, n, .inr (.inl (vp_updL f i.toNatClampNeg x)))) H1 → H1.size = H.size → (∀ q : Nat, q ≠ a → H1[q]? = H[q]?) → W p l e R s m args below meth c H1 (locs ++ [⟨a, k0⟩]) cells slots Q (F0 m (pc + 1) ls rest)) : W p l e R s m args below meth c H locs cells slots Q (F0 m pc ls (.long x :: .int i :: .ref a :: rest)) := by
  refine W.last hexec hb (show H[a]? = _ from hat) ((hK.2 2 _ rfl).1 n (fun j => .long (f j))) (fun q => by cases q) (by show ¬ (i < 0 ∨ (arrV _ _ _).slots.size ≤ _); rw [arrV_size]; exact hin) rfl rfl hdg fun H1 e z oq => ?_
  refine kk H1 _ ?_ z oq
  show H1[a]? = some (vp_cell _ _)
  rw [e]
  rw [vp_cell_l, vp_cell_l, arrV_store]
  congr 2
  funext q
  by_cases hq : q = i.toNatClampNeg
  · subst hq
    simp [updV, vp_updL]
  · simp [updV, vp_updL, hq]
theorem cx_dast (hexec : p.tables.exec = Jvm.exec) (hb : c.code = cc) (hK : cK G cA s) {n : Nat} {f : Nat → UInt64} (hat : va_at G vwCl (a, .inl (cA 3, n, .inr (.inr (.inr (.inl f))))) H) {i : Int32} {x : UInt64} (hin : vp_in i n) (hdg : decode cc pc = .ok (.dastore, 1))
    (kk : ∀ (H1 : Heap) (k0 : Nat), va_at G vwCl (a, .inl (cA 3, n, .inr (.inr (.inr (.inl (vf_upd f i.toNatClampNeg x)))))) H1 → H1.size = H.size → (∀ q : Nat, q ≠ a → H1[q]? = H[q]?) → W p l e R s m args below meth c H1 (locs ++ [⟨a, k0⟩]) cells slots Q (F0 m (pc + 1) ls rest)) : W p l e R s m args below meth c H locs cells slots Q (F0 m pc ls (.double x :: .int i :: .ref a :: rest)) := by
  refine W.dast hexec hb (show H[a]? = _ from hat) ((hK.2 3 _ rfl).1 n (fun j => .double (f j))) (fun q => by cases q) (by show ¬ (i < 0 ∨ (arrV _ _ _).slots.size ≤ _); rw [arrV_size]; exact hin) rfl rfl hdg fun H1 e z oq => ?_
  refine kk H1 _ ?_ z oq
  show H1[a]? = some (vp_cell _ _)
  rw [e]
  rw [vp_cell_d, vp_cell_d, arrV_store]
  congr 2
  funext q
  by_cases hq : q = i.toNatClampNeg
  · subst hq
    simp [updV, vf_upd]
  · simp [updV, vf_upd, hq]
theorem xn_callV (As : List Value) (rest : List Value) {ws : List Cond} {T : u_T} {N ci b : Nat} {fs : List Value} (S : CallFix p m c cc nL s args WL own) (hM : vx_Met l y ws rm (cPZn lo z (.ref b :: As) PH G cA) (xQ val PHf res) (xX PX res) mc ms (fun q => lo ≤ q)) (cw : CallW R s args own C index y bytes maxL ret ws rm mc ms n) (hK : cKn G cA s) (hZ : Zt lo z s) (hP : PH H) (hc : vwCl[ci]? = some (C, T, N)) (hat : va_at G vwCl (b, .inr (ci, fs)) H) (hn : As.length = n) (hsize : ls.size = nL) (hst : st0 = As.reverse ++ .ref b :: rest) (hW : (rest.map fun v => v.category).sum ≤ 8) (hdg : decode cc pc = .ok (.invokevirtual index, 3)) (hf : cells + mc ≤ R.cells ∧ slots + ms ≤ R.slots) (hL : ∀ q ∈ locs, lo ≤ q.base)
    (kx : ∀ (k : Nat) (H1 : Heap) (locs1 : List Loc) (q9 : Addr) (ce : Cell), res = .inl k → k < 3 → PX H1 → (∀ q ∈ locs1, lo ≤ q.base) → H1[q9]? = some ce → ce.vm = .none → s.vm.findClass (exN k) = some ce.cls → vx_W p l e R s m args below meth c H1 locs1 (cells + mc) (slots + ms) Q (F0 m pc ls rest) q9)
    (kk : ∀ (r : α) (H1 : Heap) (locs1 : List Loc), res = .inr r → PHf r H1 → (∀ q ∈ locs1, lo ≤ q.base) → W p l e R s m args below meth c H1 locs1 (cells + mc) (slots + ms) Q (F0 m (pc + 3) ls ((val r).toList ++ rest))) : W p l e R s m args below meth c H locs cells slots Q (F0 m pc ls st0) := by
  subst hst
  exact cz_S hL (fun hS => xx_call (vx_runV (As := As) (rest := rest) S hM cw (cPZn_preV hK hZ hS hP hc hat) rfl hn hsize rfl (lv_room hW) hdg hf) hL kx kk)
theorem wx_call (As : List Value) (rest : List Value) {hh : List (Nat × Nat × Nat × Nat)} {ws : List Cond} (S : CallFix p m c cc nL s args WL own) (hM : Met l y ws rm (cPW lo z As PH G cA) (cQ v PH1) mc ms (fun q => lo ≤ q)) (cw : vx_CSW R s args own index y bytes maxL ret hh ws rm mc ms n) (hK : cKn G cA s) (hZ : Zt lo z s) (hX : Nc3 s) (hP : PH H) (hn : As.length = n) (hsize : ls.size = nL) (hst : st0 = As.reverse ++ rest) (hW : (rest.map fun v => v.category).sum ≤ 8) (hdg : decode cc pc = .ok (.invokestatic index, 3)) (hf : cells + mc ≤ R.cells ∧ slots + ms ≤ R.slots) (hL : ∀ q ∈ locs, lo ≤ q.base)
    (kk : ∀ (H1 : Heap) (locs1 : List Loc), PH1 H1 → (∀ q ∈ locs1, lo ≤ q.base) → W p l e R s m args below meth c H1 locs1 (cells + mc) (slots + ms) Q (F0 m (pc + 3) ls (v.toList ++ rest))) : W p l e R s m args below meth c H locs cells slots Q (F0 m pc ls st0) := by
  subst hst
  exact cz_S hL (fun hS => cx_call (vx_runSW (As := As) (rest := rest) S hM cw (cPW_preS hK hZ hX hS hP) rfl hn hsize rfl (lv_room hW) hdg hf) hL kk)
end WXR
theorem gSWx {own : String} {idx : Nat} {y : MethodName} {b : ByteArray} {n : Nat} {r : Option FieldType} {hh : List (Nat × Nat × Nat × Nat)} (h1 : Cond.methodLink own idx y ∈ WL) (h2 : Cond.static y ∈ WL) (h4 : Cond.initialized y.cls ∈ WL) (h : Cond.codeWith y b n r hh ∈ WL) : GoodIn WL (va_wsS own idx y (cWx y b n r hh)) := by
  have hg : GoodIn WL (cWx y b n r hh) := fun w hw => by
    have h1 : w ∈ WL := (List.mem_cons.mp hw).elim (fun e => by rw [e]; exact h) id
    exact ⟨h1, WL_good w h1⟩
  refine goodIn_app (fun w hw => ?_) hg
  have h5 : w ∈ WL := by
    rcases List.mem_cons.mp hw with rfl | hw
    · exact h1
    rcases List.mem_cons.mp hw with rfl | hw
    · exact h2
    rcases List.mem_cons.mp hw with rfl | hw
    · exact h4
    exact absurd hw List.not_mem_nil
  exact ⟨h5, WL_good w h5⟩
/-- what a wrapper tells of a call: 0, or which of its handlers took what was thrown -/
def wCode {α : Type} (k1 : Nat) (res : Nat ⊕ α) : Int32 := match res with
  | .inl k => if k = k1 then 1 else 2
  | .inr _ => 0
def oUp (f : Nat → Int64) (x : Int64) : Nat → Int64 := vp_updL f (Int32.toNatClampNeg 0) x
def dUp (f : Nat → UInt64) (x : UInt64) : Nat → UInt64 := vf_upd f (Int32.toNatClampNeg 0) x
/-- a world after a call: as before where something was thrown -/
def wAft {α : Type} (β : BigS) (f : α → BigS) (res : Nat ⊕ α) : BigS := match res with
  | .inl _ => β
  | .inr r => f r
abbrev rm_L_count : Room := { frames := 8, cells := 1, slots := 6, locals := 133 }
theorem hd_L_count : yL_count.cls ≠ "java/lang/invoke/MethodHandle" ∧ yL_count.cls ≠ "java/lang/invoke/VarHandle" ∧ (parseMethodDescriptor yL_count.desc).map (fun d => d.parameters.length) = some 3 := by decide +kernel
set_option maxHeartbeats 400000 in
set_option maxRecDepth 100000 in
theorem c_L_count {l : Launch} (hl0 : l.stackTraces = false) {G : va_G} {cA : Nat → ClassId} {H0 : Heap} {lo aG aM aO : Nat} {bs : List Nat} {sv : Nat → Option Nat} {β : BigS} {z : ZS} (D : Dj lo aG aM aO bs) {N : Nat} {p0 : Int32} {res : Nat ⊕ (Int32)} (hf : f_X8_count N β.1 p0 = some res) (hk : ∀ k, res = .inl k → k = 1) :
    Met l yL_count (cWx yL_count cL_count 4 (some .int) [(0, 9, 12, 18)]) rm_L_count (cPW lo z [.ref aG, .int p0, .ref aO] (BW G cA H0 lo aG aM aO bs sv β) G cA) (cQ (some (.int (wCode 1 res))) (BW G cA H0 lo aG aM aO bs sv (wAft β (fun r : Int32 => (β.1, β.2.1, oUp β.2.2.1 (Int32.toInt64 r), β.2.2.2)) res))) 1 6 (fun q => lo ≤ q) := by
  refine wx_met (by decide) (Nat.le_of_ble_eq_true rfl) (fun p e s m args below meth c ls C0 hN htab hZ hX hP hl => ?_)
  have hl : lv_has ls 4 [(0, .ref aG), (1, .int p0), (2, .ref aO)] := hl
  obtain ⟨⟨hx, hb, hml, hown, hts⟩, hr, hlocks, hK⟩ := id C0
  have hL : ∀ q ∈ ([] : List Loc), lo ≤ q.base := fun q h => nomatch h
  refine lv_aload_n hx hb dL_count_0 rfl (lv_at hl 2 rfl) ?_
  refine lv_iconst (v := 0) hx hb dL_count_1 (by decide) ?_
  refine lv_aload_n hx hb dL_count_2 rfl (lv_at hl 0 rfl) ?_
  refine lv_iload_n hx hb dL_count_3 rfl (lv_at hl 1 rfl) ?_
  refine xx_callV (As := [.int p0]) (rest := [.int 0, .ref aO]) ⟨hx, hb, hml, hown, hts⟩ (c_X8_count (z := z) hl0 (BW_G (H0 := H0) (cA := cA) (sv := sv) D β) hf) (cwV 1 hts (gV mw_837 mw_838 mw_839 mw_2 mw_840) rfl rfl rfl hd_X8_count ⟨Nat.le_of_ble_eq_true rfl, Nat.le_of_ble_eq_true rfl⟩) hK hZ hP rfl (at_GL (BW_G (H0 := H0) (cA := cA) (sv := sv) D β) hP) rfl hl.1 rfl (Nat.le_of_ble_eq_true rfl) dL_count_4 ⟨Nat.le_of_ble_eq_true rfl, Nat.le_of_ble_eq_true rfl⟩ hL (fun k H1 locs1 q9 ce hres hk3 hPX hL h1 h2 h3 => ?_) (fun r H1 locs1 hres hP hL => ?_)
  · subst hres
    have hk9 := hk k rfl
    subst hk9
    refine vx_catch (E := exN 1) (name := exN 1) hown [] ⟨0, 9, 12, 18⟩ [] (htab.trans rfl) (fun z h => nomatch h) (by decide) (by decide) (hts _ mw_162) (va_Nw.use rfl (hZ.2.2.2.2.2.2.1 1 (by decide))) h1 h2 h3 ?_
    refine lv_astore_n (lv' := [(3, .ref q9), (0, .ref aG), (1, .int p0), (2, .ref aO)]) hx hb dL_count_12 rfl hl (by decide) rfl (fun ls hl => ?_)
    refine lv_iconst (v := 1) hx hb dL_count_13 (by decide) ?_
    exact cx_iret hx hb hr hlocks hPX hL dL_count_14
  · subst hres
    refine lv_i2l hx hb dL_count_7 rfl ?_
    have hP : BW G cA H0 lo aG aM aO bs sv (β.1, β.2) H1 := hP
    refine cx_last (a := aO) hx hb hK ((BW_O (H0 := H0) (cA := cA) (sv := sv) D (β.1, β.2)).1 β.2.2.1 H1 hP 0 (by decide)) (nI_in (c := 0) (N := 1) (by decide) (by decide)) dL_count_8 (fun H2 k0 hat hz hq => ?_)
    have hP : BW G cA H0 lo aG aM aO bs sv (β.1, β.2.1, oUp β.2.2.1 (Int32.toInt64 r), β.2.2.2) H2 := (BW_O (H0 := H0) (cA := cA) (sv := sv) D (β.1, β.2)).2.2.1 β.2.2.1 _ H1 H2 0 (by decide) hP hz hq hat (fun j hj hne => absurd (show j = 0 by omega) hne)
    have hL := cx_lL (k0 := k0) hL (show lo ≤ aO by have := D.1; have := D.2.1; have := D.2.2.1; omega)
    refine lv_goto (tgt := 15) hx hb dL_count_9 (by decide) ?_
    refine lv_iconst (v := 0) hx hb dL_count_15 (by decide) ?_
    exact cx_iret hx hb hr hlocks hP hL dL_count_16
