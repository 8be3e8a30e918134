def Nc3 (U : State) : Prop := ∀ i j, i < 3 → j < 3 → i ≠ j → va_Nc (exN i) (exN j) U
theorem Nc3.moved {u U : State} (hvm : u.vm.Alike U.vm) (h : Nc3 u) : Nc3 U := fun i j hi hj hne => va_Nc.moved hvm (h i j hi hj hne)
def cWx (y : MethodName) (b : ByteArray) (n : Nat) (r : Option FieldType) (hh : List (Nat × Nat × Nat × Nat)) : List Cond := Cond.codeWith y b n r hh :: WL
def cPW (lo : Nat) (z : ZS) (av : List Value) (PH : Heap → Prop) (G : va_G) (cA : Nat → ClassId) : Array Value → State → Prop := va_Pc av (fun U => PH U.heap ∧ cKn G cA U ∧ Zt lo z U ∧ Nc3 U)
theorem cPW_preS {lo : Nat} {z : ZS} {s : State} {H : Heap} {As : List Value} {PH : Heap → Prop} {G : va_G} {cA : Nat → ClassId} {locs : List Loc} (hK : cKn G cA s) (hZ : Zt lo z s) (hX : Nc3 s) (hS : va_S (fun q => lo ≤ q) s.heap H locs) (hP : PH H) : PreS s H (cPW lo z As PH G cA) As :=
  ⟨fun a U g mk q => by
    obtain ⟨q0, q1, q2, q3, q4⟩ := q
    exact ⟨q0, q1, cKn.moved (u := U) (U := U.calling g mk a) (Vm.Alike.refl U.vm) q2, Zt.eq (s := U) (U := U.calling g mk a) rfl rfl q3, Nc3.moved (u := U) (U := U.calling g mk a) (Vm.Alike.refl U.vm) q4⟩, fun U hU hW => ⟨rfl, by rw [hU]; exact hP, cKn.moved hW.alike hK, Zt.go hW (by rw [hU]; exact hS.2.1) hZ, Nc3.moved hW.alike hX⟩⟩
theorem cPZn_preV {lo : Nat} {z : ZS} {s : State} {H : Heap} {As : List Value} {PH : Heap → Prop} {G : va_G} {cA : Nat → ClassId} {locs : List Loc} {C : String} {T : u_T} {N ci b : Nat} {fs : List Value} (hK : cKn G cA s) (hZ : Zt lo z s) (hS : va_S (fun q => lo ≤ q) s.heap H locs) (hP : PH H) (hc : vwCl[ci]? = some (C, T, N)) (hat : va_at G vwCl (b, .inr (ci, fs)) H) : PreV s H C b (cPZn lo z (.ref b :: As) PH G cA) As := by
  refine ⟨fun a U g mk q => ?_, ?_, fun U hU hW => ⟨rfl, by rw [hU]; exact hP, cKn.moved hW.alike hK, Zt.go hW (by rw [hU]; exact hS.2.1) hZ⟩⟩
  · obtain ⟨q0, q1, q2, q3⟩ := q
    exact ⟨q0, q1, cKn.moved (u := U) (U := U.calling g mk a) (Vm.Alike.refl U.vm) q2, Zt.eq (s := U) (U := U.calling g mk a) rfl rfl q3⟩
  · exact va_recv hK.1 (cx_one hat) hc (q0 := 0) rfl
theorem wx_met {l : Launch} {y : MethodName} {rm : Room} {av : List Value} {PH : Heap → Prop} {G : va_G} {cA : Nat → ClassId} {z : ZS} {Qc : Array Value → State → Outcome → State → Prop} {mc ms lo : Nat} {cc : ByteArray} {maxL : Nat} {ret : Option FieldType} {hh : List (Nat × Nat × Nat × Nat)} (hy : plainName y.cls = true) (hlen : (lg_sl av).length ≤ maxL)
    (body : ∀ (p : Program) (e : Env) (s : State) (m : MethodId) (args : Array Value) (below : List Frame) (meth : Method) (c : Code) (ls : Array Slot), cB p s m args meth c y.cls cc maxL ret G cA → cKn G cA s → c.exceptionTable.toList = tableOf hh → Zt lo z s → Nc3 s → PH s.heap → lv_has ls maxL (lv_args 0 av) →
      W p l e rm s m args below meth c s.heap [] 0 0 (MQ below Qc args s mc ms (fun q => lo ≤ q)) (F0 m 0 ls [])) : Met l y (cWx y cc maxL ret hh) rm (cPW lo z av PH G cA) Qc mc ms (fun q => lo ≤ q) := by
  refine va_MetW (cc := cc) (maxL := maxL) (ret := ret) (hh := hh) hy rfl ?_
  intro p e s m args below meth c s₁ B hml hv
  obtain ⟨rfl, hP, hK, hZ, hX⟩ := hv
  have hts := atoms_spec (ws := cWx y cc maxL ret hh) B.pre
  have htab := vx_table (x := y) B (hts _ List.mem_cons_self)
  have hl := lv_entry av (n := maxL) hlen
  rw [lg_entry_eq]
  exact body p e s m _ below meth c _ ⟨⟨B.exec, B.bytes, hml, findClass_of_methodNamed B.named, fun w hw => hts w (List.mem_cons_of_mem _ hw)⟩, B.returns, B.notSynchronized, hK.1⟩ hK htab hZ hX hP hl
section WXR
variable {p : Program} {l : Launch} {e : Env} {R : Room} {s : State} {m : MethodId} {args : Array Value} {below : List Frame} {meth : Method} {c : Code} {H : Heap} {locs : List Loc} {cells slots : Nat} {Q : State → Prop}
variable {cc : ByteArray} {pc : Nat} {ls : Array Slot} {rest st0 : List Value} {G : va_G} {a : Nat} {cA : Nat → ClassId} {z : ZS} {lo mc ms : Nat} {PH PX PH1 : Heap → Prop} {nL n index : Nat} {own C : String} {y : MethodName} {bytes : ByteArray} {maxL : Nat} {ret : Option FieldType} {rm : Room} {α : Type} {val : α → Option Value} {PHf : α → Heap → Prop} {res : Nat ⊕ α} {v : Option Value}
theorem cx_last (hexec : p.tables.exec = Jvm.exec) (hb : c.code = cc) (hK : cK G cA s) {n : Nat} {f : Nat → Int64} (hat : va_at G vwCl (a, .inl (cA 2, n, .inr (.inl f))) H) {i : Int32} {x : Int64} (hin : vp_in i n) (hdg : decode cc pc = .ok (.lastore, 1))
    (kk : ∀ (H1 : Heap) (k0 : Nat), va_at G vwCl (a, .inl (cA 2, n, .inr (.inl (vp_updL f i.toNatClampNeg x)))) H1 → H1.size = H.size → (∀ q : Nat, q ≠ a → H1[q]? = H[q]?) → W p l e R s m args below meth c H1 (locs ++ [⟨a, k0⟩]) cells slots Q (F0 m (pc + 1) ls rest)) : W p l e R s m args below meth c H locs cells slots Q (F0 m pc ls (.long x :: .int i :: .ref a :: rest)) := by
  refine W.last hexec hb (show H[a]? = _ from hat) ((hK.2 2 _ rfl).1 n (fun j => .long (f j))) (fun q => by cases q) (by show ¬ (i < 0 ∨ (arrV _ _ _).slots.size ≤ _); rw [arrV_size]; exact hin) rfl rfl hdg fun H1 e z oq => ?_
  refine kk H1 _ ?_ z oq
  show H1[a]? = some (vp_cell _ _)
  rw [e]
  rw [vp_cell_l, vp_cell_l, arrV_store]
  congr 2
  funext q
  by_cases hq : q = i.toNatClampNeg
  · subst hq
    simp [updV, vp_updL]
  · simp [updV, vp_updL, hq]
theorem cx_dast (hexec : p.tables.exec = Jvm.exec) (hb : c.code = cc) (hK : cK G cA s) {n : Nat} {f : Nat → UInt64} (hat : va_at G vwCl (a, .inl (cA 3, n, .inr (.inr (.inr (.inl f))))) H) {i : Int32} {x : UInt64} (hin : vp_in i n) (hdg : decode cc pc = .ok (.dastore, 1))
    (kk : ∀ (H1 : Heap) (k0 : Nat), va_at G vwCl (a, .inl (cA 3, n, .inr (.inr (.inr (.inl (vf_upd f i.toNatClampNeg x)))))) H1 → H1.size = H.size → (∀ q : Nat, q ≠ a → H1[q]? = H[q]?) → W p l e R s m args below meth c H1 (locs ++ [⟨a, k0⟩]) cells slots Q (F0 m (pc + 1) ls rest)) : W p l e R s m args below meth c H locs cells slots Q (F0 m pc ls (.double x :: .int i :: .ref a :: rest)) := by
  refine W.dast hexec hb (show H[a]? = _ from hat) ((hK.2 3 _ rfl).1 n (fun j => .double (f j))) (fun q => by cases q) (by show ¬ (i < 0 ∨ (arrV _ _ _).slots.size ≤ _); rw [arrV_size]; exact hin) rfl rfl hdg fun H1 e z oq => ?_
  refine kk H1 _ ?_ z oq
  show H1[a]? = some (vp_cell _ _)
  rw [e]
  rw [vp_cell_d, vp_cell_d, arrV_store]
  congr 2
  funext q
  by_cases hq : q = i.toNatClampNeg
  · subst hq
    simp [updV, vf_upd]
  · simp [updV, vf_upd, hq]
theorem xn_callV (As : List Value) (rest : List Value) {ws : List Cond} {T : u_T} {N ci b : Nat} {fs : List Value} (S : CallFix p m c cc nL s args WL own) (hM : vx_Met l y ws rm (cPZn lo z (.ref b :: As) PH G cA) (xQ val PHf res) (xX PX res) mc ms (fun q => lo ≤ q)) (cw : CallW R s args own C index y bytes maxL ret ws rm mc ms n) (hK : cKn G cA s) (hZ : Zt lo z s) (hP : PH H) (hc : vwCl[ci]? = some (C, T, N)) (hat : va_at G vwCl (b, .inr (ci, fs)) H) (hn : As.length = n) (hsize : ls.size = nL) (hst : st0 = As.reverse ++ .ref b :: rest) (hW : (rest.map fun v => v.category).sum ≤ 8) (hdg : decode cc pc = .ok (.invokevirtual index, 3)) (hf : cells + mc ≤ R.cells ∧ slots + ms ≤ R.slots) (hL : ∀ q ∈ locs, lo ≤ q.base)
    (kx : ∀ (k : Nat) (H1 : Heap) (locs1 : List Loc) (q9 : Addr) (ce : Cell), res = .inl k → k < 3 → PX H1 → (∀ q ∈ locs1, lo ≤ q.base) → H1[q9]? = some ce → ce.vm = .none → s.vm.findClass (exN k) = some ce.cls → vx_W p l e R s m args below meth c H1 locs1 (cells + mc) (slots + ms) Q (F0 m pc ls rest) q9)
    (kk : ∀ (r : α) (H1 : Heap) (locs1 : List Loc), res = .inr r → PHf r H1 → (∀ q ∈ locs1, lo ≤ q.base) → W p l e R s m args below meth c H1 locs1 (cells + mc) (slots + ms) Q (F0 m (pc + 3) ls ((val r).toList ++ rest))) : W p l e R s m args below meth c H locs cells slots Q (F0 m pc ls st0) := by
  subst hst
  exact cz_S hL (fun hS => xx_call (vx_runV (As := As) (rest := rest) S hM cw (cPZn_preV hK hZ hS hP hc hat) rfl hn hsize rfl (lv_room hW) hdg hf) hL kx kk)
theorem wx_call (As : List Value) (rest : List Value) {hh : List (Nat × Nat × Nat × Nat)} {ws : List Cond} (S : CallFix p m c cc nL s args WL own) (hM : Met l y ws rm (cPW lo z As PH G cA) (cQ v PH1) mc ms (fun q => lo ≤ q)) (cw : vx_CSW R s args own index y bytes maxL ret hh ws rm mc ms n) (hK : cKn G cA s) (hZ : Zt lo z s) (hX : Nc3 s) (hP : PH H) (hn : As.length = n) (hsize : ls.size = nL) (hst : st0 = As.reverse ++ rest) (hW : (rest.map fun v => v.category).sum ≤ 8) (hdg : decode cc pc = .ok (.invokestatic index, 3)) (hf : cells + mc ≤ R.cells ∧ slots + ms ≤ R.slots) (hL : ∀ q ∈ locs, lo ≤ q.base)
    (kk : ∀ (H1 : Heap) (locs1 : List Loc), PH1 H1 → (∀ q ∈ locs1, lo ≤ q.base) → W p l e R s m args below meth c H1 locs1 (cells + mc) (slots + ms) Q (F0 m (pc + 3) ls (v.toList ++ rest))) : W p l e R s m args below meth c H locs cells slots Q (F0 m pc ls st0) := by
  subst hst
  exact cz_S hL (fun hS => cx_call (vx_runSW (As := As) (rest := rest) S hM cw (cPW_preS hK hZ hX hS hP) rfl hn hsize rfl (lv_room hW) hdg hf) hL kk)
end WXR
theorem gSWx {own : String} {idx : Nat} {y : MethodName} {b : ByteArray} {n : Nat} {r : Option FieldType} {hh : List (Nat × Nat × Nat × Nat)} (h1 : Cond.methodLink own idx y ∈ WL) (h2 : Cond.static y ∈ WL) (h4 : Cond.initialized y.cls ∈ WL) (h : Cond.codeWith y b n r hh ∈ WL) : GoodIn WL (va_wsS own idx y (cWx y b n r hh)) := by
  have hg : GoodIn WL (cWx y b n r hh) := fun w hw => by
    have h1 : w ∈ WL := (List.mem_cons.mp hw).elim (fun e => by rw [e]; exact h) id
    exact ⟨h1, WL_good w h1⟩
  refine goodIn_app (fun w hw => ?_) hg
  have h5 : w ∈ WL := by
    rcases List.mem_cons.mp hw with rfl | hw
    · exact h1
    rcases List.mem_cons.mp hw with rfl | hw
    · exact h2
    rcases List.mem_cons.mp hw with rfl | hw
    · exact h4
    exact absurd hw List.not_mem_nil
  exact ⟨h5, WL_good w h5⟩
/-- what a wrapper tells of a call: 0, or which of its handlers took what was thrown -/
def wCode {α : Type} (k1 : Nat) (res : Nat ⊕ α) : Int32 := match res with
  | .inl k => if k = k1 then 1 else 2
  | .inr _ => 0
def oUp (f : Nat → Int64) (x : Int64) : Nat → Int64 := vp_updL f (Int32.toNatClampNeg 0) x
def dUp (f : Nat → UInt64) (x : UInt64) : Nat → UInt64 := vf_upd f (Int32.toNatClampNeg 0) x
/-- a world after a call: as before where something was thrown -/
def wAft {α : Type} (β : BigS) (f : α → BigS) (res : Nat ⊕ α) : BigS := match res with
  | .inl _ => β
  | .inr r => f r
abbrev rm_L_appendText : Room := { frames := 7, cells := 1, slots := 6, locals := 112 }
theorem hd_L_appendText : yL_appendText.cls ≠ "java/lang/invoke/MethodHandle" ∧ yL_appendText.cls ≠ "java/lang/invoke/VarHandle" ∧ (parseMethodDescriptor yL_appendText.desc).map (fun d => d.parameters.length) = some 3 := by decide +kernel
set_option maxHeartbeats 1000000 in
set_option maxRecDepth 100000 in
theorem c_L_appendText {l : Launch} (hl0 : l.stackTraces = false) {G : va_G} {cA : Nat → ClassId} {H0 : Heap} {lo aG aM aO : Nat} {bs : List Nat} {sv : Nat → Option Nat} {β : BigS} {z : ZS} (D : Dj lo aG aM aO bs) {N : Nat} {p0 : Int32} {res : Nat ⊕ (Int32 × GLS)} (hf : f_X8_appendText N β.1 p0 = some res) (hk : ∀ k, res = .inl k → k = 2) :
    Met l yL_appendText (cWx yL_appendText cL_appendText 4 (some .int) [(0, 9, 12, 13)]) rm_L_appendText (cPW lo z [.ref aG, .int p0, .ref aO] (BW G cA H0 lo aG aM aO bs sv β) G cA) (cQ (some (.int (wCode 2 res))) (BW G cA H0 lo aG aM aO bs sv (wAft β (fun r : Int32 × GLS => (r.2, β.2.1, oUp β.2.2.1 (Int32.toInt64 r.1), β.2.2.2)) res))) 1 6 (fun q => lo ≤ q) := by
  refine wx_met (by decide) (Nat.le_of_ble_eq_true rfl) (fun p e s m args below meth c ls C0 hN htab hZ hX hP hl => ?_)
  have hl : lv_has ls 4 [(0, .ref aG), (1, .int p0), (2, .ref aO)] := hl
  obtain ⟨⟨hx, hb, hml, hown, hts⟩, hr, hlocks, hK⟩ := id C0
  have hL : ∀ q ∈ ([] : List Loc), lo ≤ q.base := fun q h => nomatch h
  refine lv_aload_n hx hb dL_appendText_0 rfl (lv_at hl 2 rfl) ?_
  refine lv_iconst (v := 0) hx hb dL_appendText_1 (by decide) ?_
  refine lv_aload_n hx hb dL_appendText_2 rfl (lv_at hl 0 rfl) ?_
  refine lv_iload_n hx hb dL_appendText_3 rfl (lv_at hl 1 rfl) ?_
  refine xx_callV (As := [.int p0]) (rest := [.int 0, .ref aO]) ⟨hx, hb, hml, hown, hts⟩ (c_X8_appendText (z := z) hl0 (BW_G (H0 := H0) (cA := cA) (sv := sv) D β) hf) (cwV 1 hts (gV mw_133 mw_134 mw_135 mw_2 mw_136) rfl rfl rfl hd_X8_appendText ⟨Nat.le_of_ble_eq_true rfl, Nat.le_of_ble_eq_true rfl⟩) hK hZ hP rfl (at_GL (BW_G (H0 := H0) (cA := cA) (sv := sv) D β) hP) rfl hl.1 rfl (Nat.le_of_ble_eq_true rfl) dL_appendText_4 ⟨Nat.le_of_ble_eq_true rfl, Nat.le_of_ble_eq_true rfl⟩ hL (fun k H1 locs1 q9 ce hres hk3 hPX hL h1 h2 h3 => ?_) (fun r H1 locs1 hres hP hL => ?_)
  · subst hres
    have hk9 := hk k rfl
    subst hk9
    refine vx_catch (E := exN 2) (name := exN 2) hown [] ⟨0, 9, 12, 13⟩ [] (htab.trans rfl) (fun z h => nomatch h) (by decide) (by decide) (hts _ mw_132) (va_Nw.use rfl (hZ.2.2.2.2.2.2.1 2 (by decide))) h1 h2 h3 ?_
    refine lv_astore_n (lv' := [(3, .ref q9), (0, .ref aG), (1, .int p0), (2, .ref aO)]) hx hb dL_appendText_12 rfl hl (by decide) rfl (fun ls hl => ?_)
    refine lv_iconst (v := 1) hx hb dL_appendText_13 (by decide) ?_
    exact cx_iret hx hb hr hlocks hPX hL dL_appendText_14
  · subst hres
    refine lv_i2l hx hb dL_appendText_7 rfl ?_
    have hP : BW G cA H0 lo aG aM aO bs sv (r.2, β.2) H1 := hP
    refine cx_last (a := aO) hx hb hK ((BW_O (H0 := H0) (cA := cA) (sv := sv) D (r.2, β.2)).1 β.2.2.1 H1 hP 0 (by decide)) (nI_in (c := 0) (N := 1) (by decide) (by decide)) dL_appendText_8 (fun H2 k0 hat hz hq => ?_)
    have hP : BW G cA H0 lo aG aM aO bs sv (r.2, β.2.1, oUp β.2.2.1 (Int32.toInt64 r.1), β.2.2.2) H2 := (BW_O (H0 := H0) (cA := cA) (sv := sv) D (r.2, β.2)).2.2.1 β.2.2.1 _ H1 H2 0 (by decide) hP hz hq hat (fun j hj hne => absurd (show j = 0 by omega) hne)
    have hL := cx_lL (k0 := k0) hL (show lo ≤ aO by have := D.1; have := D.2.1; have := D.2.2.1; omega)
    refine lv_goto (tgt := 15) hx hb dL_appendText_9 (by decide) ?_
    refine lv_iconst (v := 0) hx hb dL_appendText_15 (by decide) ?_
    exact cx_iret hx hb hr hlocks hP hL dL_appendText_16
abbrev rm_L_truncateText : Room := { frames := 8, cells := 1, slots := 6, locals := 133 }
theorem hd_L_truncateText : yL_truncateText.cls ≠ "java/lang/invoke/MethodHandle" ∧ yL_truncateText.cls ≠ "java/lang/invoke/VarHandle" ∧ (parseMethodDescriptor yL_truncateText.desc).map (fun d => d.parameters.length) = some 3 := by decide +kernel
set_option maxHeartbeats 1000000 in
set_option maxRecDepth 100000 in
theorem c_L_truncateText {l : Launch} (hl0 : l.stackTraces = false) {G : va_G} {cA : Nat → ClassId} {H0 : Heap} {lo aG aM aO : Nat} {bs : List Nat} {sv : Nat → Option Nat} {β : BigS} {z : ZS} (D : Dj lo aG aM aO bs) {p0 : Int32} {res : Nat ⊕ (Int32 × GLS)} (hf : f_X8_truncateText β.1 p0 = some res) (hk : ∀ k, res = .inl k → k = 1) :
    Met l yL_truncateText (cWx yL_truncateText cL_truncateText 4 (some .int) [(0, 9, 12, 18)]) rm_L_truncateText (cPW lo z [.ref aG, .int p0, .ref aO] (BW G cA H0 lo aG aM aO bs sv β) G cA) (cQ (some (.int (wCode 1 res))) (BW G cA H0 lo aG aM aO bs sv (wAft β (fun r : Int32 × GLS => (r.2, β.2.1, oUp β.2.2.1 (Int32.toInt64 r.1), β.2.2.2)) res))) 1 6 (fun q => lo ≤ q) := by
  refine wx_met (by decide) (Nat.le_of_ble_eq_true rfl) (fun p e s m args below meth c ls C0 hN htab hZ hX hP hl => ?_)
  have hl : lv_has ls 4 [(0, .ref aG), (1, .int p0), (2, .ref aO)] := hl
  obtain ⟨⟨hx, hb, hml, hown, hts⟩, hr, hlocks, hK⟩ := id C0
  have hL : ∀ q ∈ ([] : List Loc), lo ≤ q.base := fun q h => nomatch h
  refine lv_aload_n hx hb dL_truncateText_0 rfl (lv_at hl 2 rfl) ?_
  refine lv_iconst (v := 0) hx hb dL_truncateText_1 (by decide) ?_
  refine lv_aload_n hx hb dL_truncateText_2 rfl (lv_at hl 0 rfl) ?_
  refine lv_iload_n hx hb dL_truncateText_3 rfl (lv_at hl 1 rfl) ?_
  refine xx_callV (As := [.int p0]) (rest := [.int 0, .ref aO]) ⟨hx, hb, hml, hown, hts⟩ (c_X8_truncateText (z := z) hl0 (BW_G (H0 := H0) (cA := cA) (sv := sv) D β) hf) (cwV 1 hts (gV mw_163 mw_164 mw_165 mw_2 mw_166) rfl rfl rfl hd_X8_truncateText ⟨Nat.le_of_ble_eq_true rfl, Nat.le_of_ble_eq_true rfl⟩) hK hZ hP rfl (at_GL (BW_G (H0 := H0) (cA := cA) (sv := sv) D β) hP) rfl hl.1 rfl (Nat.le_of_ble_eq_true rfl) dL_truncateText_4 ⟨Nat.le_of_ble_eq_true rfl, Nat.le_of_ble_eq_true rfl⟩ hL (fun k H1 locs1 q9 ce hres hk3 hPX hL h1 h2 h3 => ?_) (fun r H1 locs1 hres hP hL => ?_)
  · subst hres
    have hk9 := hk k rfl
    subst hk9
    refine vx_catch (E := exN 1) (name := exN 1) hown [] ⟨0, 9, 12, 18⟩ [] (htab.trans rfl) (fun z h => nomatch h) (by decide) (by decide) (hts _ mw_162) (va_Nw.use rfl (hZ.2.2.2.2.2.2.1 1 (by decide))) h1 h2 h3 ?_
    refine lv_astore_n (lv' := [(3, .ref q9), (0, .ref aG), (1, .int p0), (2, .ref aO)]) hx hb dL_truncateText_12 rfl hl (by decide) rfl (fun ls hl => ?_)
    refine lv_iconst (v := 1) hx hb dL_truncateText_13 (by decide) ?_
    exact cx_iret hx hb hr hlocks hPX hL dL_truncateText_14
  · subst hres
    refine lv_i2l hx hb dL_truncateText_7 rfl ?_
    have hP : BW G cA H0 lo aG aM aO bs sv (r.2, β.2) H1 := hP
    refine cx_last (a := aO) hx hb hK ((BW_O (H0 := H0) (cA := cA) (sv := sv) D (r.2, β.2)).1 β.2.2.1 H1 hP 0 (by decide)) (nI_in (c := 0) (N := 1) (by decide) (by decide)) dL_truncateText_8 (fun H2 k0 hat hz hq => ?_)
    have hP : BW G cA H0 lo aG aM aO bs sv (r.2, β.2.1, oUp β.2.2.1 (Int32.toInt64 r.1), β.2.2.2) H2 := (BW_O (H0 := H0) (cA := cA) (sv := sv) D (r.2, β.2)).2.2.1 β.2.2.1 _ H1 H2 0 (by decide) hP hz hq hat (fun j hj hne => absurd (show j = 0 by omega) hne)
    have hL := cx_lL (k0 := k0) hL (show lo ≤ aO by have := D.1; have := D.2.1; have := D.2.2.1; omega)
    refine lv_goto (tgt := 15) hx hb dL_truncateText_9 (by decide) ?_
    refine lv_iconst (v := 0) hx hb dL_truncateText_15 (by decide) ?_
    exact cx_iret hx hb hr hlocks hP hL dL_truncateText_16
abbrev rm_L_addClient : Room := { frames := 8, cells := 2, slots := 12, locals := 148 }
theorem hd_L_addClient : yL_addClient.cls ≠ "java/lang/invoke/MethodHandle" ∧ yL_addClient.cls ≠ "java/lang/invoke/VarHandle" ∧ (parseMethodDescriptor yL_addClient.desc).map (fun d => d.parameters.length) = some 3 := by decide +kernel
set_option maxHeartbeats 1000000 in
set_option maxRecDepth 100000 in
theorem c_L_addClient {l : Launch} (hl0 : l.stackTraces = false) {G : va_G} {cA : Nat → ClassId} {H0 : Heap} {lo aG aM aO : Nat} {bs : List Nat} {sv : Nat → Option Nat} {β : BigS} {z : ZS} (D : Dj lo aG aM aO bs) {N : Nat} {p0 : Int32} {res : Nat ⊕ (Int32 × GLS)} (hf : f_X8_addClient N β.1 p0 = some res) (hk : ∀ k, res = .inl k → k = 1 ∨ k = 2) :
    Met l yL_addClient (cWx yL_addClient cL_addClient 4 (some .int) [(0, 9, 12, 18), (0, 9, 15, 13)]) rm_L_addClient (cPW lo z [.ref aG, .int p0, .ref aO] (BW G cA H0 lo aG aM aO bs sv β) G cA) (cQ (some (.int (wCode 1 res))) (BW G cA H0 lo aG aM aO bs sv (wAft β (fun r : Int32 × GLS => (r.2, β.2.1, oUp β.2.2.1 (Int32.toInt64 r.1), β.2.2.2)) res))) 2 12 (fun q => lo ≤ q) := by
  refine wx_met (by decide) (Nat.le_of_ble_eq_true rfl) (fun p e s m args below meth c ls C0 hN htab hZ hX hP hl => ?_)
  have hl : lv_has ls 4 [(0, .ref aG), (1, .int p0), (2, .ref aO)] := hl
  obtain ⟨⟨hx, hb, hml, hown, hts⟩, hr, hlocks, hK⟩ := id C0
  have hL : ∀ q ∈ ([] : List Loc), lo ≤ q.base := fun q h => nomatch h
  refine lv_aload_n hx hb dL_addClient_0 rfl (lv_at hl 2 rfl) ?_
  refine lv_iconst (v := 0) hx hb dL_addClient_1 (by decide) ?_
  refine lv_aload_n hx hb dL_addClient_2 rfl (lv_at hl 0 rfl) ?_
  refine lv_iload_n hx hb dL_addClient_3 rfl (lv_at hl 1 rfl) ?_
  refine xx_callV (As := [.int p0]) (rest := [.int 0, .ref aO]) ⟨hx, hb, hml, hown, hts⟩ (c_X8_addClient (z := z) hl0 (BW_G (H0 := H0) (cA := cA) (sv := sv) D β) hf) (cwV 1 hts (gV mw_759 mw_760 mw_761 mw_2 mw_762) rfl rfl rfl hd_X8_addClient ⟨Nat.le_of_ble_eq_true rfl, Nat.le_of_ble_eq_true rfl⟩) hK hZ hP rfl (at_GL (BW_G (H0 := H0) (cA := cA) (sv := sv) D β) hP) rfl hl.1 rfl (Nat.le_of_ble_eq_true rfl) dL_addClient_4 ⟨Nat.le_of_ble_eq_true rfl, Nat.le_of_ble_eq_true rfl⟩ hL (fun k H1 locs1 q9 ce hres hk3 hPX hL h1 h2 h3 => ?_) (fun r H1 locs1 hres hP hL => ?_)
  · subst hres
    rcases hk k rfl with rfl | rfl
    · refine vx_catch (E := exN 1) (name := exN 1) hown [] ⟨0, 9, 12, 18⟩ [⟨0, 9, 15, 13⟩] (htab.trans rfl) (fun z h => nomatch h) (by decide) (by decide) (hts _ mw_162) (va_Nw.use rfl (hZ.2.2.2.2.2.2.1 1 (by decide))) h1 h2 h3 ?_
      refine lv_astore_n (lv' := [(3, .ref q9), (0, .ref aG), (1, .int p0), (2, .ref aO)]) hx hb dL_addClient_12 rfl hl (by decide) rfl (fun ls hl => ?_)
      refine lv_iconst (v := 1) hx hb dL_addClient_13 (by decide) ?_
      exact cx_iret hx hb hr hlocks hPX hL dL_addClient_14
    · refine vx_catch (E := exN 2) (name := exN 2) hown [⟨0, 9, 12, 18⟩] ⟨0, 9, 15, 13⟩ [] (htab.trans rfl) (fun z h => by rw [List.mem_singleton.mp h]; exact Or.inr ⟨by decide, exN 1, hts _ mw_162, hX 2 1 (by decide) (by decide) (by decide)⟩) (by decide) (by decide) (hts _ mw_132) (va_Nw.use rfl (hZ.2.2.2.2.2.2.1 2 (by decide))) h1 h2 h3 ?_
      refine lv_astore_n (lv' := [(3, .ref q9), (0, .ref aG), (1, .int p0), (2, .ref aO)]) hx hb dL_addClient_15 rfl hl (by decide) rfl (fun ls hl => ?_)
      refine lv_iconst (v := 2) hx hb dL_addClient_16 (by decide) ?_
      exact cx_iret hx hb hr hlocks hPX hL dL_addClient_17
  · subst hres
    refine lv_i2l hx hb dL_addClient_7 rfl ?_
    have hP : BW G cA H0 lo aG aM aO bs sv (r.2, β.2) H1 := hP
    refine cx_last (a := aO) hx hb hK ((BW_O (H0 := H0) (cA := cA) (sv := sv) D (r.2, β.2)).1 β.2.2.1 H1 hP 0 (by decide)) (nI_in (c := 0) (N := 1) (by decide) (by decide)) dL_addClient_8 (fun H2 k0 hat hz hq => ?_)
    have hP : BW G cA H0 lo aG aM aO bs sv (r.2, β.2.1, oUp β.2.2.1 (Int32.toInt64 r.1), β.2.2.2) H2 := (BW_O (H0 := H0) (cA := cA) (sv := sv) D (r.2, β.2)).2.2.1 β.2.2.1 _ H1 H2 0 (by decide) hP hz hq hat (fun j hj hne => absurd (show j = 0 by omega) hne)
    have hL := cx_lL (k0 := k0) hL (show lo ≤ aO by have := D.1; have := D.2.1; have := D.2.2.1; omega)
    refine lv_goto (tgt := 18) hx hb dL_addClient_9 (by decide) ?_
    refine lv_iconst (v := 0) hx hb dL_addClient_18 (by decide) ?_
    exact cx_iret hx hb hr hlocks hP hL dL_addClient_19
abbrev rm_L_setWeight : Room := { frames := 9, cells := 2, slots := 12, locals := 154 }
theorem hd_L_setWeight : yL_setWeight.cls ≠ "java/lang/invoke/MethodHandle" ∧ yL_setWeight.cls ≠ "java/lang/invoke/VarHandle" ∧ (parseMethodDescriptor yL_setWeight.desc).map (fun d => d.parameters.length) = some 4 := by decide +kernel
set_option maxHeartbeats 1000000 in
set_option maxRecDepth 100000 in
theorem c_L_setWeight {l : Launch} (hl0 : l.stackTraces = false) {G : va_G} {cA : Nat → ClassId} {H0 : Heap} {lo aG aM aO : Nat} {bs : List Nat} {sv : Nat → Option Nat} {β : BigS} {z : ZS} (D : Dj lo aG aM aO bs) {N : Nat} {p0 : Int32} {p1 : Int32} {res : Nat ⊕ (Int32 × GLS)} (hf : f_X8_setWeight N β.1 p0 p1 = some res) (hk : ∀ k, res = .inl k → k = 0 ∨ k = 1) :
    Met l yL_setWeight (cWx yL_setWeight cL_setWeight 5 (some .int) [(0, 10, 13, 27), (0, 10, 17, 18)]) rm_L_setWeight (cPW lo z [.ref aG, .int p0, .int p1, .ref aO] (BW G cA H0 lo aG aM aO bs sv β) G cA) (cQ (some (.int (wCode 0 res))) (BW G cA H0 lo aG aM aO bs sv (wAft β (fun r : Int32 × GLS => (r.2, β.2.1, oUp β.2.2.1 (Int32.toInt64 r.1), β.2.2.2)) res))) 2 12 (fun q => lo ≤ q) := by
  refine wx_met (by decide) (Nat.le_of_ble_eq_true rfl) (fun p e s m args below meth c ls C0 hN htab hZ hX hP hl => ?_)
  have hl : lv_has ls 5 [(0, .ref aG), (1, .int p0), (2, .int p1), (3, .ref aO)] := hl
  obtain ⟨⟨hx, hb, hml, hown, hts⟩, hr, hlocks, hK⟩ := id C0
  have hL : ∀ q ∈ ([] : List Loc), lo ≤ q.base := fun q h => nomatch h
  refine lv_aload_n hx hb dL_setWeight_0 rfl (lv_at hl 3 rfl) ?_
  refine lv_iconst (v := 0) hx hb dL_setWeight_1 (by decide) ?_
  refine lv_aload_n hx hb dL_setWeight_2 rfl (lv_at hl 0 rfl) ?_
  refine lv_iload_n hx hb dL_setWeight_3 rfl (lv_at hl 1 rfl) ?_
  refine lv_iload_n hx hb dL_setWeight_4 rfl (lv_at hl 2 rfl) ?_
  refine xx_callV (As := [.int p0, .int p1]) (rest := [.int 0, .ref aO]) ⟨hx, hb, hml, hown, hts⟩ (c_X8_setWeight (z := z) hl0 (BW_G (H0 := H0) (cA := cA) (sv := sv) D β) hf) (cwV 2 hts (gV mw_779 mw_780 mw_781 mw_2 mw_782) rfl rfl rfl hd_X8_setWeight ⟨Nat.le_of_ble_eq_true rfl, Nat.le_of_ble_eq_true rfl⟩) hK hZ hP rfl (at_GL (BW_G (H0 := H0) (cA := cA) (sv := sv) D β) hP) rfl hl.1 rfl (Nat.le_of_ble_eq_true rfl) dL_setWeight_5 ⟨Nat.le_of_ble_eq_true rfl, Nat.le_of_ble_eq_true rfl⟩ hL (fun k H1 locs1 q9 ce hres hk3 hPX hL h1 h2 h3 => ?_) (fun r H1 locs1 hres hP hL => ?_)
  · subst hres
    rcases hk k rfl with rfl | rfl
    · refine vx_catch (E := exN 0) (name := exN 0) hown [] ⟨0, 10, 13, 27⟩ [⟨0, 10, 17, 18⟩] (htab.trans rfl) (fun z h => nomatch h) (by decide) (by decide) (hts _ mw_778) (va_Nw.use rfl (hZ.2.2.2.2.2.2.1 0 (by decide))) h1 h2 h3 ?_
      refine lv_astore (lv' := [(4, .ref q9), (0, .ref aG), (1, .int p0), (2, .int p1), (3, .ref aO)]) hx hb dL_setWeight_13 hl (by decide) rfl (fun ls hl => ?_)
      refine lv_iconst (v := 1) hx hb dL_setWeight_15 (by decide) ?_
      exact cx_iret hx hb hr hlocks hPX hL dL_setWeight_16
    · refine vx_catch (E := exN 1) (name := exN 1) hown [⟨0, 10, 13, 27⟩] ⟨0, 10, 17, 18⟩ [] (htab.trans rfl) (fun z h => by rw [List.mem_singleton.mp h]; exact Or.inr ⟨by decide, exN 0, hts _ mw_778, hX 1 0 (by decide) (by decide) (by decide)⟩) (by decide) (by decide) (hts _ mw_162) (va_Nw.use rfl (hZ.2.2.2.2.2.2.1 1 (by decide))) h1 h2 h3 ?_
      refine lv_astore (lv' := [(4, .ref q9), (0, .ref aG), (1, .int p0), (2, .int p1), (3, .ref aO)]) hx hb dL_setWeight_17 hl (by decide) rfl (fun ls hl => ?_)
      refine lv_iconst (v := 2) hx hb dL_setWeight_19 (by decide) ?_
      exact cx_iret hx hb hr hlocks hPX hL dL_setWeight_20
  · subst hres
    refine lv_i2l hx hb dL_setWeight_8 rfl ?_
    have hP : BW G cA H0 lo aG aM aO bs sv (r.2, β.2) H1 := hP
    refine cx_last (a := aO) hx hb hK ((BW_O (H0 := H0) (cA := cA) (sv := sv) D (r.2, β.2)).1 β.2.2.1 H1 hP 0 (by decide)) (nI_in (c := 0) (N := 1) (by decide) (by decide)) dL_setWeight_9 (fun H2 k0 hat hz hq => ?_)
    have hP : BW G cA H0 lo aG aM aO bs sv (r.2, β.2.1, oUp β.2.2.1 (Int32.toInt64 r.1), β.2.2.2) H2 := (BW_O (H0 := H0) (cA := cA) (sv := sv) D (r.2, β.2)).2.2.1 β.2.2.1 _ H1 H2 0 (by decide) hP hz hq hat (fun j hj hne => absurd (show j = 0 by omega) hne)
    have hL := cx_lL (k0 := k0) hL (show lo ≤ aO by have := D.1; have := D.2.1; have := D.2.2.1; omega)
    refine lv_goto (tgt := 21) hx hb dL_setWeight_10 (by decide) ?_
    refine lv_iconst (v := 0) hx hb dL_setWeight_21 (by decide) ?_
    exact cx_iret hx hb hr hlocks hP hL dL_setWeight_22
abbrev rm_L_set : Room := { frames := 8, cells := 3, slots := 18, locals := 149 }
theorem hd_L_set : yL_set.cls ≠ "java/lang/invoke/MethodHandle" ∧ yL_set.cls ≠ "java/lang/invoke/VarHandle" ∧ (parseMethodDescriptor yL_set.desc).map (fun d => d.parameters.length) = some 4 := by decide +kernel
set_option maxHeartbeats 1000000 in
set_option maxRecDepth 100000 in
theorem c_L_set {l : Launch} (hl0 : l.stackTraces = false) {G : va_G} {cA : Nat → ClassId} {H0 : Heap} {lo aG aM aO : Nat} {bs : List Nat} {sv : Nat → Option Nat} {β : BigS} {z : ZS} (D : Dj lo aG aM aO bs) {N : Nat} {p0 : Int32} {p1 : Int32} {res : Nat ⊕ (Int32 × GLS)} (hf : f_X8_set N β.1 p0 p1 = some res) (hk : ∀ k, res = .inl k → k = 1) :
    Met l yL_set (cWx yL_set cL_set 5 (some .int) [(0, 10, 13, 18)]) rm_L_set (cPW lo z [.ref aG, .int p0, .int p1, .ref aO] (BW G cA H0 lo aG aM aO bs sv β) G cA) (cQ (some (.int (wCode 1 res))) (BW G cA H0 lo aG aM aO bs sv (wAft β (fun r : Int32 × GLS => (r.2, β.2.1, oUp β.2.2.1 (Int32.toInt64 r.1), β.2.2.2)) res))) 3 18 (fun q => lo ≤ q) := by
  refine wx_met (by decide) (Nat.le_of_ble_eq_true rfl) (fun p e s m args below meth c ls C0 hN htab hZ hX hP hl => ?_)
  have hl : lv_has ls 5 [(0, .ref aG), (1, .int p0), (2, .int p1), (3, .ref aO)] := hl
  obtain ⟨⟨hx, hb, hml, hown, hts⟩, hr, hlocks, hK⟩ := id C0
  have hL : ∀ q ∈ ([] : List Loc), lo ≤ q.base := fun q h => nomatch h
  refine lv_aload_n hx hb dL_set_0 rfl (lv_at hl 3 rfl) ?_
  refine lv_iconst (v := 0) hx hb dL_set_1 (by decide) ?_
  refine lv_aload_n hx hb dL_set_2 rfl (lv_at hl 0 rfl) ?_
  refine lv_iload_n hx hb dL_set_3 rfl (lv_at hl 1 rfl) ?_
  refine lv_iload_n hx hb dL_set_4 rfl (lv_at hl 2 rfl) ?_
  refine xx_callV (As := [.int p0, .int p1]) (rest := [.int 0, .ref aO]) ⟨hx, hb, hml, hown, hts⟩ (c_X8_set (z := z) hl0 (BW_G (H0 := H0) (cA := cA) (sv := sv) D β) hf) (cwV 2 hts (gV mw_803 mw_804 mw_805 mw_2 mw_806) rfl rfl rfl hd_X8_set ⟨Nat.le_of_ble_eq_true rfl, Nat.le_of_ble_eq_true rfl⟩) hK hZ hP rfl (at_GL (BW_G (H0 := H0) (cA := cA) (sv := sv) D β) hP) rfl hl.1 rfl (Nat.le_of_ble_eq_true rfl) dL_set_5 ⟨Nat.le_of_ble_eq_true rfl, Nat.le_of_ble_eq_true rfl⟩ hL (fun k H1 locs1 q9 ce hres hk3 hPX hL h1 h2 h3 => ?_) (fun r H1 locs1 hres hP hL => ?_)
  · subst hres
    have hk9 := hk k rfl
    subst hk9
    refine vx_catch (E := exN 1) (name := exN 1) hown [] ⟨0, 10, 13, 18⟩ [] (htab.trans rfl) (fun z h => nomatch h) (by decide) (by decide) (hts _ mw_162) (va_Nw.use rfl (hZ.2.2.2.2.2.2.1 1 (by decide))) h1 h2 h3 ?_
    refine lv_astore (lv' := [(4, .ref q9), (0, .ref aG), (1, .int p0), (2, .int p1), (3, .ref aO)]) hx hb dL_set_13 hl (by decide) rfl (fun ls hl => ?_)
    refine lv_iconst (v := 1) hx hb dL_set_15 (by decide) ?_
    exact cx_iret hx hb hr hlocks hPX hL dL_set_16
  · subst hres
    refine lv_i2l hx hb dL_set_8 rfl ?_
    have hP : BW G cA H0 lo aG aM aO bs sv (r.2, β.2) H1 := hP
    refine cx_last (a := aO) hx hb hK ((BW_O (H0 := H0) (cA := cA) (sv := sv) D (r.2, β.2)).1 β.2.2.1 H1 hP 0 (by decide)) (nI_in (c := 0) (N := 1) (by decide) (by decide)) dL_set_9 (fun H2 k0 hat hz hq => ?_)
    have hP : BW G cA H0 lo aG aM aO bs sv (r.2, β.2.1, oUp β.2.2.1 (Int32.toInt64 r.1), β.2.2.2) H2 := (BW_O (H0 := H0) (cA := cA) (sv := sv) D (r.2, β.2)).2.2.1 β.2.2.1 _ H1 H2 0 (by decide) hP hz hq hat (fun j hj hne => absurd (show j = 0 by omega) hne)
    have hL := cx_lL (k0 := k0) hL (show lo ≤ aO by have := D.1; have := D.2.1; have := D.2.2.1; omega)
    refine lv_goto (tgt := 17) hx hb dL_set_10 (by decide) ?_
    refine lv_iconst (v := 0) hx hb dL_set_17 (by decide) ?_
    exact cx_iret hx hb hr hlocks hP hL dL_set_18
abbrev rm_L_shape : Room := { frames := 8, cells := 2, slots := 12, locals := 149 }
theorem hd_L_shape : yL_shape.cls ≠ "java/lang/invoke/MethodHandle" ∧ yL_shape.cls ≠ "java/lang/invoke/VarHandle" ∧ (parseMethodDescriptor yL_shape.desc).map (fun d => d.parameters.length) = some 4 := by decide +kernel
set_option maxHeartbeats 1000000 in
set_option maxRecDepth 100000 in
theorem c_L_shape {l : Launch} (hl0 : l.stackTraces = false) {G : va_G} {cA : Nat → ClassId} {H0 : Heap} {lo aG aM aO : Nat} {bs : List Nat} {sv : Nat → Option Nat} {β : BigS} {z : ZS} (D : Dj lo aG aM aO bs) {N : Nat} {p0 : Int32} {p1 : Int32} {res : Nat ⊕ (Int32 × GLS)} (hf : f_X8_shape N β.1 p0 p1 = some res) (hk : ∀ k, res = .inl k → k = 1) :
    Met l yL_shape (cWx yL_shape cL_shape 5 (some .int) [(0, 10, 13, 18)]) rm_L_shape (cPW lo z [.ref aG, .int p0, .int p1, .ref aO] (BW G cA H0 lo aG aM aO bs sv β) G cA) (cQ (some (.int (wCode 1 res))) (BW G cA H0 lo aG aM aO bs sv (wAft β (fun r : Int32 × GLS => (r.2, β.2.1, oUp β.2.2.1 (Int32.toInt64 r.1), β.2.2.2)) res))) 2 12 (fun q => lo ≤ q) := by
  refine wx_met (by decide) (Nat.le_of_ble_eq_true rfl) (fun p e s m args below meth c ls C0 hN htab hZ hX hP hl => ?_)
  have hl : lv_has ls 5 [(0, .ref aG), (1, .int p0), (2, .int p1), (3, .ref aO)] := hl
  obtain ⟨⟨hx, hb, hml, hown, hts⟩, hr, hlocks, hK⟩ := id C0
  have hL : ∀ q ∈ ([] : List Loc), lo ≤ q.base := fun q h => nomatch h
  refine lv_aload_n hx hb dL_shape_0 rfl (lv_at hl 3 rfl) ?_
  refine lv_iconst (v := 0) hx hb dL_shape_1 (by decide) ?_
  refine lv_aload_n hx hb dL_shape_2 rfl (lv_at hl 0 rfl) ?_
  refine lv_iload_n hx hb dL_shape_3 rfl (lv_at hl 1 rfl) ?_
  refine lv_iload_n hx hb dL_shape_4 rfl (lv_at hl 2 rfl) ?_
  refine xx_callV (As := [.int p0, .int p1]) (rest := [.int 0, .ref aO]) ⟨hx, hb, hml, hown, hts⟩ (c_X8_shape (z := z) hl0 (BW_G (H0 := H0) (cA := cA) (sv := sv) D β) hf) (cwV 2 hts (gV mw_818 mw_819 mw_820 mw_2 mw_821) rfl rfl rfl hd_X8_shape ⟨Nat.le_of_ble_eq_true rfl, Nat.le_of_ble_eq_true rfl⟩) hK hZ hP rfl (at_GL (BW_G (H0 := H0) (cA := cA) (sv := sv) D β) hP) rfl hl.1 rfl (Nat.le_of_ble_eq_true rfl) dL_shape_5 ⟨Nat.le_of_ble_eq_true rfl, Nat.le_of_ble_eq_true rfl⟩ hL (fun k H1 locs1 q9 ce hres hk3 hPX hL h1 h2 h3 => ?_) (fun r H1 locs1 hres hP hL => ?_)
  · subst hres
    have hk9 := hk k rfl
    subst hk9
    refine vx_catch (E := exN 1) (name := exN 1) hown [] ⟨0, 10, 13, 18⟩ [] (htab.trans rfl) (fun z h => nomatch h) (by decide) (by decide) (hts _ mw_162) (va_Nw.use rfl (hZ.2.2.2.2.2.2.1 1 (by decide))) h1 h2 h3 ?_
    refine lv_astore (lv' := [(4, .ref q9), (0, .ref aG), (1, .int p0), (2, .int p1), (3, .ref aO)]) hx hb dL_shape_13 hl (by decide) rfl (fun ls hl => ?_)
    refine lv_iconst (v := 1) hx hb dL_shape_15 (by decide) ?_
    exact cx_iret hx hb hr hlocks hPX hL dL_shape_16
  · subst hres
    refine lv_i2l hx hb dL_shape_8 rfl ?_
    have hP : BW G cA H0 lo aG aM aO bs sv (r.2, β.2) H1 := hP
    refine cx_last (a := aO) hx hb hK ((BW_O (H0 := H0) (cA := cA) (sv := sv) D (r.2, β.2)).1 β.2.2.1 H1 hP 0 (by decide)) (nI_in (c := 0) (N := 1) (by decide) (by decide)) dL_shape_9 (fun H2 k0 hat hz hq => ?_)
    have hP : BW G cA H0 lo aG aM aO bs sv (r.2, β.2.1, oUp β.2.2.1 (Int32.toInt64 r.1), β.2.2.2) H2 := (BW_O (H0 := H0) (cA := cA) (sv := sv) D (r.2, β.2)).2.2.1 β.2.2.1 _ H1 H2 0 (by decide) hP hz hq hat (fun j hj hne => absurd (show j = 0 by omega) hne)
    have hL := cx_lL (k0 := k0) hL (show lo ≤ aO by have := D.1; have := D.2.1; have := D.2.2.1; omega)
    refine lv_goto (tgt := 17) hx hb dL_shape_10 (by decide) ?_
    refine lv_iconst (v := 0) hx hb dL_shape_17 (by decide) ?_
    exact cx_iret hx hb hr hlocks hP hL dL_shape_18
abbrev rm_L_count : Room := { frames := 8, cells := 1, slots := 6, locals := 133 }
theorem hd_L_count : yL_count.cls ≠ "java/lang/invoke/MethodHandle" ∧ yL_count.cls ≠ "java/lang/invoke/VarHandle" ∧ (parseMethodDescriptor yL_count.desc).map (fun d => d.parameters.length) = some 3 := by decide +kernel
set_option maxHeartbeats 1000000 in
set_option maxRecDepth 100000 in
theorem c_L_count {l : Launch} (hl0 : l.stackTraces = false) {G : va_G} {cA : Nat → ClassId} {H0 : Heap} {lo aG aM aO : Nat} {bs : List Nat} {sv : Nat → Option Nat} {β : BigS} {z : ZS} (D : Dj lo aG aM aO bs) {N : Nat} {p0 : Int32} {res : Nat ⊕ (Int32)} (hf : f_X8_count N β.1 p0 = some res) (hk : ∀ k, res = .inl k → k = 1) :
    Met l yL_count (cWx yL_count cL_count 4 (some .int) [(0, 9, 12, 18)]) rm_L_count (cPW lo z [.ref aG, .int p0, .ref aO] (BW G cA H0 lo aG aM aO bs sv β) G cA) (cQ (some (.int (wCode 1 res))) (BW G cA H0 lo aG aM aO bs sv (wAft β (fun r : Int32 => (β.1, β.2.1, oUp β.2.2.1 (Int32.toInt64 r), β.2.2.2)) res))) 1 6 (fun q => lo ≤ q) := by
  refine wx_met (by decide) (Nat.le_of_ble_eq_true rfl) (fun p e s m args below meth c ls C0 hN htab hZ hX hP hl => ?_)
  have hl : lv_has ls 4 [(0, .ref aG), (1, .int p0), (2, .ref aO)] := hl
  obtain ⟨⟨hx, hb, hml, hown, hts⟩, hr, hlocks, hK⟩ := id C0
  have hL : ∀ q ∈ ([] : List Loc), lo ≤ q.base := fun q h => nomatch h
  refine lv_aload_n hx hb dL_count_0 rfl (lv_at hl 2 rfl) ?_
  refine lv_iconst (v := 0) hx hb dL_count_1 (by decide) ?_
  refine lv_aload_n hx hb dL_count_2 rfl (lv_at hl 0 rfl) ?_
  refine lv_iload_n hx hb dL_count_3 rfl (lv_at hl 1 rfl) ?_
  refine xx_callV (As := [.int p0]) (rest := [.int 0, .ref aO]) ⟨hx, hb, hml, hown, hts⟩ (c_X8_count (z := z) hl0 (BW_G (H0 := H0) (cA := cA) (sv := sv) D β) hf) (cwV 1 hts (gV mw_837 mw_838 mw_839 mw_2 mw_840) rfl rfl rfl hd_X8_count ⟨Nat.le_of_ble_eq_true rfl, Nat.le_of_ble_eq_true rfl⟩) hK hZ hP rfl (at_GL (BW_G (H0 := H0) (cA := cA) (sv := sv) D β) hP) rfl hl.1 rfl (Nat.le_of_ble_eq_true rfl) dL_count_4 ⟨Nat.le_of_ble_eq_true rfl, Nat.le_of_ble_eq_true rfl⟩ hL (fun k H1 locs1 q9 ce hres hk3 hPX hL h1 h2 h3 => ?_) (fun r H1 locs1 hres hP hL => ?_)
  · subst hres
    have hk9 := hk k rfl
    subst hk9
    refine vx_catch (E := exN 1) (name := exN 1) hown [] ⟨0, 9, 12, 18⟩ [] (htab.trans rfl) (fun z h => nomatch h) (by decide) (by decide) (hts _ mw_162) (va_Nw.use rfl (hZ.2.2.2.2.2.2.1 1 (by decide))) h1 h2 h3 ?_
    refine lv_astore_n (lv' := [(3, .ref q9), (0, .ref aG), (1, .int p0), (2, .ref aO)]) hx hb dL_count_12 rfl hl (by decide) rfl (fun ls hl => ?_)
    refine lv_iconst (v := 1) hx hb dL_count_13 (by decide) ?_
    exact cx_iret hx hb hr hlocks hPX hL dL_count_14
  · subst hres
    refine lv_i2l hx hb dL_count_7 rfl ?_
    have hP : BW G cA H0 lo aG aM aO bs sv (β.1, β.2) H1 := hP
    refine cx_last (a := aO) hx hb hK ((BW_O (H0 := H0) (cA := cA) (sv := sv) D (β.1, β.2)).1 β.2.2.1 H1 hP 0 (by decide)) (nI_in (c := 0) (N := 1) (by decide) (by decide)) dL_count_8 (fun H2 k0 hat hz hq => ?_)
    have hP : BW G cA H0 lo aG aM aO bs sv (β.1, β.2.1, oUp β.2.2.1 (Int32.toInt64 r), β.2.2.2) H2 := (BW_O (H0 := H0) (cA := cA) (sv := sv) D (β.1, β.2)).2.2.1 β.2.2.1 _ H1 H2 0 (by decide) hP hz hq hat (fun j hj hne => absurd (show j = 0 by omega) hne)
    have hL := cx_lL (k0 := k0) hL (show lo ≤ aO by have := D.1; have := D.2.1; have := D.2.2.1; omega)
    refine lv_goto (tgt := 15) hx hb dL_count_9 (by decide) ?_
    refine lv_iconst (v := 0) hx hb dL_count_15 (by decide) ?_
    exact cx_iret hx hb hr hlocks hP hL dL_count_16
abbrev rm_L_client : Room := { frames := 9, cells := 2, slots := 12, locals := 154 }
theorem hd_L_client : yL_client.cls ≠ "java/lang/invoke/MethodHandle" ∧ yL_client.cls ≠ "java/lang/invoke/VarHandle" ∧ (parseMethodDescriptor yL_client.desc).map (fun d => d.parameters.length) = some 4 := by decide +kernel
set_option maxHeartbeats 1000000 in
set_option maxRecDepth 100000 in
theorem c_L_client {l : Launch} (hl0 : l.stackTraces = false) {G : va_G} {cA : Nat → ClassId} {H0 : Heap} {lo aG aM aO : Nat} {bs : List Nat} {sv : Nat → Option Nat} {β : BigS} {z : ZS} (D : Dj lo aG aM aO bs) {N : Nat} {p0 : Int32} {p1 : Int32} {res : Nat ⊕ (Int32)} (hf : f_X8_client N β.1 p0 p1 = some res) (hk : ∀ k, res = .inl k → k = 0 ∨ k = 1) :
    Met l yL_client (cWx yL_client cL_client 5 (some .int) [(0, 10, 13, 27), (0, 10, 17, 18)]) rm_L_client (cPW lo z [.ref aG, .int p0, .int p1, .ref aO] (BW G cA H0 lo aG aM aO bs sv β) G cA) (cQ (some (.int (wCode 0 res))) (BW G cA H0 lo aG aM aO bs sv (wAft β (fun r : Int32 => (β.1, β.2.1, oUp β.2.2.1 (Int32.toInt64 r), β.2.2.2)) res))) 2 12 (fun q => lo ≤ q) := by
  refine wx_met (by decide) (Nat.le_of_ble_eq_true rfl) (fun p e s m args below meth c ls C0 hN htab hZ hX hP hl => ?_)
  have hl : lv_has ls 5 [(0, .ref aG), (1, .int p0), (2, .int p1), (3, .ref aO)] := hl
  obtain ⟨⟨hx, hb, hml, hown, hts⟩, hr, hlocks, hK⟩ := id C0
  have hL : ∀ q ∈ ([] : List Loc), lo ≤ q.base := fun q h => nomatch h
  refine lv_aload_n hx hb dL_client_0 rfl (lv_at hl 3 rfl) ?_
  refine lv_iconst (v := 0) hx hb dL_client_1 (by decide) ?_
  refine lv_aload_n hx hb dL_client_2 rfl (lv_at hl 0 rfl) ?_
  refine lv_iload_n hx hb dL_client_3 rfl (lv_at hl 1 rfl) ?_
  refine lv_iload_n hx hb dL_client_4 rfl (lv_at hl 2 rfl) ?_
  refine xx_callV (As := [.int p0, .int p1]) (rest := [.int 0, .ref aO]) ⟨hx, hb, hml, hown, hts⟩ (c_X8_client (z := z) hl0 (BW_G (H0 := H0) (cA := cA) (sv := sv) D β) hf) (cwV 2 hts (gV mw_859 mw_860 mw_861 mw_2 mw_862) rfl rfl rfl hd_X8_client ⟨Nat.le_of_ble_eq_true rfl, Nat.le_of_ble_eq_true rfl⟩) hK hZ hP rfl (at_GL (BW_G (H0 := H0) (cA := cA) (sv := sv) D β) hP) rfl hl.1 rfl (Nat.le_of_ble_eq_true rfl) dL_client_5 ⟨Nat.le_of_ble_eq_true rfl, Nat.le_of_ble_eq_true rfl⟩ hL (fun k H1 locs1 q9 ce hres hk3 hPX hL h1 h2 h3 => ?_) (fun r H1 locs1 hres hP hL => ?_)
  · subst hres
    rcases hk k rfl with rfl | rfl
    · refine vx_catch (E := exN 0) (name := exN 0) hown [] ⟨0, 10, 13, 27⟩ [⟨0, 10, 17, 18⟩] (htab.trans rfl) (fun z h => nomatch h) (by decide) (by decide) (hts _ mw_778) (va_Nw.use rfl (hZ.2.2.2.2.2.2.1 0 (by decide))) h1 h2 h3 ?_
      refine lv_astore (lv' := [(4, .ref q9), (0, .ref aG), (1, .int p0), (2, .int p1), (3, .ref aO)]) hx hb dL_client_13 hl (by decide) rfl (fun ls hl => ?_)
      refine lv_iconst (v := 1) hx hb dL_client_15 (by decide) ?_
      exact cx_iret hx hb hr hlocks hPX hL dL_client_16
    · refine vx_catch (E := exN 1) (name := exN 1) hown [⟨0, 10, 13, 27⟩] ⟨0, 10, 17, 18⟩ [] (htab.trans rfl) (fun z h => by rw [List.mem_singleton.mp h]; exact Or.inr ⟨by decide, exN 0, hts _ mw_778, hX 1 0 (by decide) (by decide) (by decide)⟩) (by decide) (by decide) (hts _ mw_162) (va_Nw.use rfl (hZ.2.2.2.2.2.2.1 1 (by decide))) h1 h2 h3 ?_
      refine lv_astore (lv' := [(4, .ref q9), (0, .ref aG), (1, .int p0), (2, .int p1), (3, .ref aO)]) hx hb dL_client_17 hl (by decide) rfl (fun ls hl => ?_)
      refine lv_iconst (v := 2) hx hb dL_client_19 (by decide) ?_
      exact cx_iret hx hb hr hlocks hPX hL dL_client_20
  · subst hres
    refine lv_i2l hx hb dL_client_8 rfl ?_
    have hP : BW G cA H0 lo aG aM aO bs sv (β.1, β.2) H1 := hP
    refine cx_last (a := aO) hx hb hK ((BW_O (H0 := H0) (cA := cA) (sv := sv) D (β.1, β.2)).1 β.2.2.1 H1 hP 0 (by decide)) (nI_in (c := 0) (N := 1) (by decide) (by decide)) dL_client_9 (fun H2 k0 hat hz hq => ?_)
    have hP : BW G cA H0 lo aG aM aO bs sv (β.1, β.2.1, oUp β.2.2.1 (Int32.toInt64 r), β.2.2.2) H2 := (BW_O (H0 := H0) (cA := cA) (sv := sv) D (β.1, β.2)).2.2.1 β.2.2.1 _ H1 H2 0 (by decide) hP hz hq hat (fun j hj hne => absurd (show j = 0 by omega) hne)
    have hL := cx_lL (k0 := k0) hL (show lo ≤ aO by have := D.1; have := D.2.1; have := D.2.2.1; omega)
    refine lv_goto (tgt := 21) hx hb dL_client_10 (by decide) ?_
    refine lv_iconst (v := 0) hx hb dL_client_21 (by decide) ?_
    exact cx_iret hx hb hr hlocks hP hL dL_client_22
abbrev rm_L_block : Room := { frames := 8, cells := 2, slots := 12, locals := 134 }
theorem hd_L_block : yL_block.cls ≠ "java/lang/invoke/MethodHandle" ∧ yL_block.cls ≠ "java/lang/invoke/VarHandle" ∧ (parseMethodDescriptor yL_block.desc).map (fun d => d.parameters.length) = some 4 := by decide +kernel
set_option maxHeartbeats 1000000 in
set_option maxRecDepth 100000 in
theorem c_L_block {l : Launch} (hl0 : l.stackTraces = false) {G : va_G} {cA : Nat → ClassId} {H0 : Heap} {lo aG aM aO : Nat} {bs : List Nat} {sv : Nat → Option Nat} {β : BigS} {z : ZS} (D : Dj lo aG aM aO bs) {N : Nat} {p0 : Int32} {p1 : Int32} {res : Nat ⊕ (Int32)} (hf : f_X8_block N β.1 p0 p1 = some res) (hk : ∀ k, res = .inl k → k = 1) :
    Met l yL_block (cWx yL_block cL_block 5 (some .int) [(0, 10, 13, 18)]) rm_L_block (cPW lo z [.ref aG, .int p0, .int p1, .ref aO] (BW G cA H0 lo aG aM aO bs sv β) G cA) (cQ (some (.int (wCode 1 res))) (BW G cA H0 lo aG aM aO bs sv (wAft β (fun r : Int32 => (β.1, β.2.1, oUp β.2.2.1 (Int32.toInt64 r), β.2.2.2)) res))) 2 12 (fun q => lo ≤ q) := by
  refine wx_met (by decide) (Nat.le_of_ble_eq_true rfl) (fun p e s m args below meth c ls C0 hN htab hZ hX hP hl => ?_)
  have hl : lv_has ls 5 [(0, .ref aG), (1, .int p0), (2, .int p1), (3, .ref aO)] := hl
  obtain ⟨⟨hx, hb, hml, hown, hts⟩, hr, hlocks, hK⟩ := id C0
  have hL : ∀ q ∈ ([] : List Loc), lo ≤ q.base := fun q h => nomatch h
  refine lv_aload_n hx hb dL_block_0 rfl (lv_at hl 3 rfl) ?_
  refine lv_iconst (v := 0) hx hb dL_block_1 (by decide) ?_
  refine lv_aload_n hx hb dL_block_2 rfl (lv_at hl 0 rfl) ?_
  refine lv_iload_n hx hb dL_block_3 rfl (lv_at hl 1 rfl) ?_
  refine lv_iload_n hx hb dL_block_4 rfl (lv_at hl 2 rfl) ?_
  refine xx_callV (As := [.int p0, .int p1]) (rest := [.int 0, .ref aO]) ⟨hx, hb, hml, hown, hts⟩ (c_X8_block (z := z) hl0 (BW_G (H0 := H0) (cA := cA) (sv := sv) D β) hf) (cwV 2 hts (gV mw_886 mw_887 mw_888 mw_2 mw_889) rfl rfl rfl hd_X8_block ⟨Nat.le_of_ble_eq_true rfl, Nat.le_of_ble_eq_true rfl⟩) hK hZ hP rfl (at_GL (BW_G (H0 := H0) (cA := cA) (sv := sv) D β) hP) rfl hl.1 rfl (Nat.le_of_ble_eq_true rfl) dL_block_5 ⟨Nat.le_of_ble_eq_true rfl, Nat.le_of_ble_eq_true rfl⟩ hL (fun k H1 locs1 q9 ce hres hk3 hPX hL h1 h2 h3 => ?_) (fun r H1 locs1 hres hP hL => ?_)
  · subst hres
    have hk9 := hk k rfl
    subst hk9
    refine vx_catch (E := exN 1) (name := exN 1) hown [] ⟨0, 10, 13, 18⟩ [] (htab.trans rfl) (fun z h => nomatch h) (by decide) (by decide) (hts _ mw_162) (va_Nw.use rfl (hZ.2.2.2.2.2.2.1 1 (by decide))) h1 h2 h3 ?_
    refine lv_astore (lv' := [(4, .ref q9), (0, .ref aG), (1, .int p0), (2, .int p1), (3, .ref aO)]) hx hb dL_block_13 hl (by decide) rfl (fun ls hl => ?_)
    refine lv_iconst (v := 1) hx hb dL_block_15 (by decide) ?_
    exact cx_iret hx hb hr hlocks hPX hL dL_block_16
  · subst hres
    refine lv_i2l hx hb dL_block_8 rfl ?_
    have hP : BW G cA H0 lo aG aM aO bs sv (β.1, β.2) H1 := hP
    refine cx_last (a := aO) hx hb hK ((BW_O (H0 := H0) (cA := cA) (sv := sv) D (β.1, β.2)).1 β.2.2.1 H1 hP 0 (by decide)) (nI_in (c := 0) (N := 1) (by decide) (by decide)) dL_block_9 (fun H2 k0 hat hz hq => ?_)
    have hP : BW G cA H0 lo aG aM aO bs sv (β.1, β.2.1, oUp β.2.2.1 (Int32.toInt64 r), β.2.2.2) H2 := (BW_O (H0 := H0) (cA := cA) (sv := sv) D (β.1, β.2)).2.2.1 β.2.2.1 _ H1 H2 0 (by decide) hP hz hq hat (fun j hj hne => absurd (show j = 0 by omega) hne)
    have hL := cx_lL (k0 := k0) hL (show lo ≤ aO by have := D.1; have := D.2.1; have := D.2.2.1; omega)
    refine lv_goto (tgt := 17) hx hb dL_block_10 (by decide) ?_
    refine lv_iconst (v := 0) hx hb dL_block_17 (by decide) ?_
    exact cx_iret hx hb hr hlocks hP hL dL_block_18
abbrev rm_L_at : Room := { frames := 8, cells := 2, slots := 12, locals := 133 }
theorem hd_L_at : yL_at.cls ≠ "java/lang/invoke/MethodHandle" ∧ yL_at.cls ≠ "java/lang/invoke/VarHandle" ∧ (parseMethodDescriptor yL_at.desc).map (fun d => d.parameters.length) = some 4 := by decide +kernel
set_option maxHeartbeats 1000000 in
set_option maxRecDepth 100000 in
theorem c_L_at {l : Launch} (hl0 : l.stackTraces = false) {G : va_G} {cA : Nat → ClassId} {H0 : Heap} {lo aG aM aO : Nat} {bs : List Nat} {sv : Nat → Option Nat} {β : BigS} {z : ZS} (D : Dj lo aG aM aO bs) {p0 : Int32} {p1 : Int32} {res : Nat ⊕ (Int32)} (hf : f_X8_at β.1 p0 p1 = some res) (hk : ∀ k, res = .inl k → k = 0) :
    Met l yL_at (cWx yL_at cL_at 5 (some .int) [(0, 10, 13, 27)]) rm_L_at (cPW lo z [.ref aG, .int p0, .int p1, .ref aO] (BW G cA H0 lo aG aM aO bs sv β) G cA) (cQ (some (.int (wCode 0 res))) (BW G cA H0 lo aG aM aO bs sv (wAft β (fun r : Int32 => (β.1, β.2.1, oUp β.2.2.1 (Int32.toInt64 r), β.2.2.2)) res))) 2 12 (fun q => lo ≤ q) := by
  refine wx_met (by decide) (Nat.le_of_ble_eq_true rfl) (fun p e s m args below meth c ls C0 hN htab hZ hX hP hl => ?_)
  have hl : lv_has ls 5 [(0, .ref aG), (1, .int p0), (2, .int p1), (3, .ref aO)] := hl
  obtain ⟨⟨hx, hb, hml, hown, hts⟩, hr, hlocks, hK⟩ := id C0
  have hL : ∀ q ∈ ([] : List Loc), lo ≤ q.base := fun q h => nomatch h
  refine lv_aload_n hx hb dL_at_0 rfl (lv_at hl 3 rfl) ?_
  refine lv_iconst (v := 0) hx hb dL_at_1 (by decide) ?_
  refine lv_aload_n hx hb dL_at_2 rfl (lv_at hl 0 rfl) ?_
  refine lv_iload_n hx hb dL_at_3 rfl (lv_at hl 1 rfl) ?_
  refine lv_iload_n hx hb dL_at_4 rfl (lv_at hl 2 rfl) ?_
  refine xx_callV (As := [.int p0, .int p1]) (rest := [.int 0, .ref aO]) ⟨hx, hb, hml, hown, hts⟩ (c_X8_at (z := z) hl0 (BW_G (H0 := H0) (cA := cA) (sv := sv) D β) hf) (cwV 2 hts (gV mw_924 mw_925 mw_926 mw_2 mw_927) rfl rfl rfl hd_X8_at ⟨Nat.le_of_ble_eq_true rfl, Nat.le_of_ble_eq_true rfl⟩) hK hZ hP rfl (at_GL (BW_G (H0 := H0) (cA := cA) (sv := sv) D β) hP) rfl hl.1 rfl (Nat.le_of_ble_eq_true rfl) dL_at_5 ⟨Nat.le_of_ble_eq_true rfl, Nat.le_of_ble_eq_true rfl⟩ hL (fun k H1 locs1 q9 ce hres hk3 hPX hL h1 h2 h3 => ?_) (fun r H1 locs1 hres hP hL => ?_)
  · subst hres
    have hk9 := hk k rfl
    subst hk9
    refine vx_catch (E := exN 0) (name := exN 0) hown [] ⟨0, 10, 13, 27⟩ [] (htab.trans rfl) (fun z h => nomatch h) (by decide) (by decide) (hts _ mw_778) (va_Nw.use rfl (hZ.2.2.2.2.2.2.1 0 (by decide))) h1 h2 h3 ?_
    refine lv_astore (lv' := [(4, .ref q9), (0, .ref aG), (1, .int p0), (2, .int p1), (3, .ref aO)]) hx hb dL_at_13 hl (by decide) rfl (fun ls hl => ?_)
    refine lv_iconst (v := 1) hx hb dL_at_15 (by decide) ?_
    exact cx_iret hx hb hr hlocks hPX hL dL_at_16
  · subst hres
    refine lv_i2l hx hb dL_at_8 rfl ?_
    have hP : BW G cA H0 lo aG aM aO bs sv (β.1, β.2) H1 := hP
    refine cx_last (a := aO) hx hb hK ((BW_O (H0 := H0) (cA := cA) (sv := sv) D (β.1, β.2)).1 β.2.2.1 H1 hP 0 (by decide)) (nI_in (c := 0) (N := 1) (by decide) (by decide)) dL_at_9 (fun H2 k0 hat hz hq => ?_)
    have hP : BW G cA H0 lo aG aM aO bs sv (β.1, β.2.1, oUp β.2.2.1 (Int32.toInt64 r), β.2.2.2) H2 := (BW_O (H0 := H0) (cA := cA) (sv := sv) D (β.1, β.2)).2.2.1 β.2.2.1 _ H1 H2 0 (by decide) hP hz hq hat (fun j hj hne => absurd (show j = 0 by omega) hne)
    have hL := cx_lL (k0 := k0) hL (show lo ≤ aO by have := D.1; have := D.2.1; have := D.2.2.1; omega)
    refine lv_goto (tgt := 17) hx hb dL_at_10 (by decide) ?_
    refine lv_iconst (v := 0) hx hb dL_at_17 (by decide) ?_
    exact cx_iret hx hb hr hlocks hP hL dL_at_18
abbrev rm_L_read : Room := { frames := 9, cells := 2, slots := 12, locals := 154 }
theorem hd_L_read : yL_read.cls ≠ "java/lang/invoke/MethodHandle" ∧ yL_read.cls ≠ "java/lang/invoke/VarHandle" ∧ (parseMethodDescriptor yL_read.desc).map (fun d => d.parameters.length) = some 4 := by decide +kernel
set_option maxHeartbeats 1000000 in
set_option maxRecDepth 100000 in
theorem c_L_read {l : Launch} (hl0 : l.stackTraces = false) {G : va_G} {cA : Nat → ClassId} {H0 : Heap} {lo aG aM aO : Nat} {bs : List Nat} {sv : Nat → Option Nat} {β : BigS} {z : ZS} (D : Dj lo aG aM aO bs) {N : Nat} {p0 : Int32} {p1 : Int32} {res : Nat ⊕ (Int32 × GLS)} (hf : f_X8_read N β.1 p0 p1 = some res) (hk : ∀ k, res = .inl k → k = 0 ∨ k = 1) :
    Met l yL_read (cWx yL_read cL_read 5 (some .int) [(0, 10, 13, 27), (0, 10, 17, 18)]) rm_L_read (cPW lo z [.ref aG, .int p0, .int p1, .ref aO] (BW G cA H0 lo aG aM aO bs sv β) G cA) (cQ (some (.int (wCode 0 res))) (BW G cA H0 lo aG aM aO bs sv (wAft β (fun r : Int32 × GLS => (r.2, β.2.1, oUp β.2.2.1 (Int32.toInt64 r.1), β.2.2.2)) res))) 2 12 (fun q => lo ≤ q) := by
  refine wx_met (by decide) (Nat.le_of_ble_eq_true rfl) (fun p e s m args below meth c ls C0 hN htab hZ hX hP hl => ?_)
  have hl : lv_has ls 5 [(0, .ref aG), (1, .int p0), (2, .int p1), (3, .ref aO)] := hl
  obtain ⟨⟨hx, hb, hml, hown, hts⟩, hr, hlocks, hK⟩ := id C0
  have hL : ∀ q ∈ ([] : List Loc), lo ≤ q.base := fun q h => nomatch h
  refine lv_aload_n hx hb dL_read_0 rfl (lv_at hl 3 rfl) ?_
  refine lv_iconst (v := 0) hx hb dL_read_1 (by decide) ?_
  refine lv_aload_n hx hb dL_read_2 rfl (lv_at hl 0 rfl) ?_
  refine lv_iload_n hx hb dL_read_3 rfl (lv_at hl 1 rfl) ?_
  refine lv_iload_n hx hb dL_read_4 rfl (lv_at hl 2 rfl) ?_
  refine xx_callV (As := [.int p0, .int p1]) (rest := [.int 0, .ref aO]) ⟨hx, hb, hml, hown, hts⟩ (c_X8_read (z := z) hl0 (BW_G (H0 := H0) (cA := cA) (sv := sv) D β) hf) (cwV 2 hts (gV mw_944 mw_945 mw_946 mw_2 mw_947) rfl rfl rfl hd_X8_read ⟨Nat.le_of_ble_eq_true rfl, Nat.le_of_ble_eq_true rfl⟩) hK hZ hP rfl (at_GL (BW_G (H0 := H0) (cA := cA) (sv := sv) D β) hP) rfl hl.1 rfl (Nat.le_of_ble_eq_true rfl) dL_read_5 ⟨Nat.le_of_ble_eq_true rfl, Nat.le_of_ble_eq_true rfl⟩ hL (fun k H1 locs1 q9 ce hres hk3 hPX hL h1 h2 h3 => ?_) (fun r H1 locs1 hres hP hL => ?_)
  · subst hres
    rcases hk k rfl with rfl | rfl
    · refine vx_catch (E := exN 0) (name := exN 0) hown [] ⟨0, 10, 13, 27⟩ [⟨0, 10, 17, 18⟩] (htab.trans rfl) (fun z h => nomatch h) (by decide) (by decide) (hts _ mw_778) (va_Nw.use rfl (hZ.2.2.2.2.2.2.1 0 (by decide))) h1 h2 h3 ?_
      refine lv_astore (lv' := [(4, .ref q9), (0, .ref aG), (1, .int p0), (2, .int p1), (3, .ref aO)]) hx hb dL_read_13 hl (by decide) rfl (fun ls hl => ?_)
      refine lv_iconst (v := 1) hx hb dL_read_15 (by decide) ?_
      exact cx_iret hx hb hr hlocks hPX hL dL_read_16
    · refine vx_catch (E := exN 1) (name := exN 1) hown [⟨0, 10, 13, 27⟩] ⟨0, 10, 17, 18⟩ [] (htab.trans rfl) (fun z h => by rw [List.mem_singleton.mp h]; exact Or.inr ⟨by decide, exN 0, hts _ mw_778, hX 1 0 (by decide) (by decide) (by decide)⟩) (by decide) (by decide) (hts _ mw_162) (va_Nw.use rfl (hZ.2.2.2.2.2.2.1 1 (by decide))) h1 h2 h3 ?_
      refine lv_astore (lv' := [(4, .ref q9), (0, .ref aG), (1, .int p0), (2, .int p1), (3, .ref aO)]) hx hb dL_read_17 hl (by decide) rfl (fun ls hl => ?_)
      refine lv_iconst (v := 2) hx hb dL_read_19 (by decide) ?_
      exact cx_iret hx hb hr hlocks hPX hL dL_read_20
  · subst hres
    refine lv_i2l hx hb dL_read_8 rfl ?_
    have hP : BW G cA H0 lo aG aM aO bs sv (r.2, β.2) H1 := hP
    refine cx_last (a := aO) hx hb hK ((BW_O (H0 := H0) (cA := cA) (sv := sv) D (r.2, β.2)).1 β.2.2.1 H1 hP 0 (by decide)) (nI_in (c := 0) (N := 1) (by decide) (by decide)) dL_read_9 (fun H2 k0 hat hz hq => ?_)
    have hP : BW G cA H0 lo aG aM aO bs sv (r.2, β.2.1, oUp β.2.2.1 (Int32.toInt64 r.1), β.2.2.2) H2 := (BW_O (H0 := H0) (cA := cA) (sv := sv) D (r.2, β.2)).2.2.1 β.2.2.1 _ H1 H2 0 (by decide) hP hz hq hat (fun j hj hne => absurd (show j = 0 by omega) hne)
    have hL := cx_lL (k0 := k0) hL (show lo ≤ aO by have := D.1; have := D.2.1; have := D.2.2.1; omega)
    refine lv_goto (tgt := 21) hx hb dL_read_10 (by decide) ?_
    refine lv_iconst (v := 0) hx hb dL_read_21 (by decide) ?_
    exact cx_iret hx hb hr hlocks hP hL dL_read_22
abbrev rm_L_write : Room := { frames := 9, cells := 3, slots := 18, locals := 156 }
theorem hd_L_write : yL_write.cls ≠ "java/lang/invoke/MethodHandle" ∧ yL_write.cls ≠ "java/lang/invoke/VarHandle" ∧ (parseMethodDescriptor yL_write.desc).map (fun d => d.parameters.length) = some 5 := by decide +kernel
set_option maxHeartbeats 1000000 in
set_option maxRecDepth 100000 in
theorem c_L_write {l : Launch} (hl0 : l.stackTraces = false) {G : va_G} {cA : Nat → ClassId} {H0 : Heap} {lo aG aM aO : Nat} {bs : List Nat} {sv : Nat → Option Nat} {β : BigS} {z : ZS} (D : Dj lo aG aM aO bs) {N : Nat} {p0 : Int32} {p1 : Int32} {p2 : Int32} {res : Nat ⊕ (Int32 × GLS)} (hf : f_X8_write N β.1 p0 p1 p2 = some res) (hk : ∀ k, res = .inl k → k = 0 ∨ k = 1) :
    Met l yL_write (cWx yL_write cL_write 6 (some .int) [(0, 12, 15, 27), (0, 12, 19, 18)]) rm_L_write (cPW lo z [.ref aG, .int p0, .int p1, .int p2, .ref aO] (BW G cA H0 lo aG aM aO bs sv β) G cA) (cQ (some (.int (wCode 0 res))) (BW G cA H0 lo aG aM aO bs sv (wAft β (fun r : Int32 × GLS => (r.2, β.2.1, oUp β.2.2.1 (Int32.toInt64 r.1), β.2.2.2)) res))) 3 18 (fun q => lo ≤ q) := by
  refine wx_met (by decide) (Nat.le_of_ble_eq_true rfl) (fun p e s m args below meth c ls C0 hN htab hZ hX hP hl => ?_)
  have hl : lv_has ls 6 [(0, .ref aG), (1, .int p0), (2, .int p1), (3, .int p2), (4, .ref aO)] := hl
  obtain ⟨⟨hx, hb, hml, hown, hts⟩, hr, hlocks, hK⟩ := id C0
  have hL : ∀ q ∈ ([] : List Loc), lo ≤ q.base := fun q h => nomatch h
  refine lv_aload hx hb dL_write_0 (lv_at hl 4 rfl) ?_
  refine lv_iconst (v := 0) hx hb dL_write_2 (by decide) ?_
  refine lv_aload_n hx hb dL_write_3 rfl (lv_at hl 0 rfl) ?_
  refine lv_iload_n hx hb dL_write_4 rfl (lv_at hl 1 rfl) ?_
  refine lv_iload_n hx hb dL_write_5 rfl (lv_at hl 2 rfl) ?_
  refine lv_iload_n hx hb dL_write_6 rfl (lv_at hl 3 rfl) ?_
  refine xx_callV (As := [.int p0, .int p1, .int p2]) (rest := [.int 0, .ref aO]) ⟨hx, hb, hml, hown, hts⟩ (c_X8_write (z := z) hl0 (BW_G (H0 := H0) (cA := cA) (sv := sv) D β) hf) (cwV 3 hts (gV mw_956 mw_957 mw_958 mw_2 mw_959) rfl rfl rfl hd_X8_write ⟨Nat.le_of_ble_eq_true rfl, Nat.le_of_ble_eq_true rfl⟩) hK hZ hP rfl (at_GL (BW_G (H0 := H0) (cA := cA) (sv := sv) D β) hP) rfl hl.1 rfl (Nat.le_of_ble_eq_true rfl) dL_write_7 ⟨Nat.le_of_ble_eq_true rfl, Nat.le_of_ble_eq_true rfl⟩ hL (fun k H1 locs1 q9 ce hres hk3 hPX hL h1 h2 h3 => ?_) (fun r H1 locs1 hres hP hL => ?_)
  · subst hres
    rcases hk k rfl with rfl | rfl
    · refine vx_catch (E := exN 0) (name := exN 0) hown [] ⟨0, 12, 15, 27⟩ [⟨0, 12, 19, 18⟩] (htab.trans rfl) (fun z h => nomatch h) (by decide) (by decide) (hts _ mw_778) (va_Nw.use rfl (hZ.2.2.2.2.2.2.1 0 (by decide))) h1 h2 h3 ?_
      refine lv_astore (lv' := [(5, .ref q9), (0, .ref aG), (1, .int p0), (2, .int p1), (3, .int p2), (4, .ref aO)]) hx hb dL_write_15 hl (by decide) rfl (fun ls hl => ?_)
      refine lv_iconst (v := 1) hx hb dL_write_17 (by decide) ?_
      exact cx_iret hx hb hr hlocks hPX hL dL_write_18
    · refine vx_catch (E := exN 1) (name := exN 1) hown [⟨0, 12, 15, 27⟩] ⟨0, 12, 19, 18⟩ [] (htab.trans rfl) (fun z h => by rw [List.mem_singleton.mp h]; exact Or.inr ⟨by decide, exN 0, hts _ mw_778, hX 1 0 (by decide) (by decide) (by decide)⟩) (by decide) (by decide) (hts _ mw_162) (va_Nw.use rfl (hZ.2.2.2.2.2.2.1 1 (by decide))) h1 h2 h3 ?_
      refine lv_astore (lv' := [(5, .ref q9), (0, .ref aG), (1, .int p0), (2, .int p1), (3, .int p2), (4, .ref aO)]) hx hb dL_write_19 hl (by decide) rfl (fun ls hl => ?_)
      refine lv_iconst (v := 2) hx hb dL_write_21 (by decide) ?_
      exact cx_iret hx hb hr hlocks hPX hL dL_write_22
  · subst hres
    refine lv_i2l hx hb dL_write_10 rfl ?_
    have hP : BW G cA H0 lo aG aM aO bs sv (r.2, β.2) H1 := hP
    refine cx_last (a := aO) hx hb hK ((BW_O (H0 := H0) (cA := cA) (sv := sv) D (r.2, β.2)).1 β.2.2.1 H1 hP 0 (by decide)) (nI_in (c := 0) (N := 1) (by decide) (by decide)) dL_write_11 (fun H2 k0 hat hz hq => ?_)
    have hP : BW G cA H0 lo aG aM aO bs sv (r.2, β.2.1, oUp β.2.2.1 (Int32.toInt64 r.1), β.2.2.2) H2 := (BW_O (H0 := H0) (cA := cA) (sv := sv) D (r.2, β.2)).2.2.1 β.2.2.1 _ H1 H2 0 (by decide) hP hz hq hat (fun j hj hne => absurd (show j = 0 by omega) hne)
    have hL := cx_lL (k0 := k0) hL (show lo ≤ aO by have := D.1; have := D.2.1; have := D.2.2.1; omega)
    refine lv_goto (tgt := 23) hx hb dL_write_12 (by decide) ?_
    refine lv_iconst (v := 0) hx hb dL_write_23 (by decide) ?_
    exact cx_iret hx hb hr hlocks hP hL dL_write_24
abbrev rm_L_flush : Room := { frames := 8, cells := 1, slots := 6, locals := 148 }
theorem hd_L_flush : yL_flush.cls ≠ "java/lang/invoke/MethodHandle" ∧ yL_flush.cls ≠ "java/lang/invoke/VarHandle" ∧ (parseMethodDescriptor yL_flush.desc).map (fun d => d.parameters.length) = some 3 := by decide +kernel
set_option maxHeartbeats 1000000 in
set_option maxRecDepth 100000 in
theorem c_L_flush {l : Launch} (hl0 : l.stackTraces = false) {G : va_G} {cA : Nat → ClassId} {H0 : Heap} {lo aG aM aO : Nat} {bs : List Nat} {sv : Nat → Option Nat} {β : BigS} {z : ZS} (D : Dj lo aG aM aO bs) {N : Nat} {p0 : Int32} {res : Nat ⊕ (Int32 × GLS)} (hf : f_X8_flush N β.1 p0 = some res) (hk : ∀ k, res = .inl k → k = 1) :
    Met l yL_flush (cWx yL_flush cL_flush 4 (some .int) [(0, 9, 12, 18)]) rm_L_flush (cPW lo z [.ref aG, .int p0, .ref aO] (BW G cA H0 lo aG aM aO bs sv β) G cA) (cQ (some (.int (wCode 1 res))) (BW G cA H0 lo aG aM aO bs sv (wAft β (fun r : Int32 × GLS => (r.2, β.2.1, oUp β.2.2.1 (Int32.toInt64 r.1), β.2.2.2)) res))) 1 6 (fun q => lo ≤ q) := by
  refine wx_met (by decide) (Nat.le_of_ble_eq_true rfl) (fun p e s m args below meth c ls C0 hN htab hZ hX hP hl => ?_)
  have hl : lv_has ls 4 [(0, .ref aG), (1, .int p0), (2, .ref aO)] := hl
  obtain ⟨⟨hx, hb, hml, hown, hts⟩, hr, hlocks, hK⟩ := id C0
  have hL : ∀ q ∈ ([] : List Loc), lo ≤ q.base := fun q h => nomatch h
  refine lv_aload_n hx hb dL_flush_0 rfl (lv_at hl 2 rfl) ?_
  refine lv_iconst (v := 0) hx hb dL_flush_1 (by decide) ?_
  refine lv_aload_n hx hb dL_flush_2 rfl (lv_at hl 0 rfl) ?_
  refine lv_iload_n hx hb dL_flush_3 rfl (lv_at hl 1 rfl) ?_
  refine xx_callV (As := [.int p0]) (rest := [.int 0, .ref aO]) ⟨hx, hb, hml, hown, hts⟩ (c_X8_flush (z := z) hl0 (BW_G (H0 := H0) (cA := cA) (sv := sv) D β) hf) (cwV 1 hts (gV mw_968 mw_969 mw_970 mw_2 mw_971) rfl rfl rfl hd_X8_flush ⟨Nat.le_of_ble_eq_true rfl, Nat.le_of_ble_eq_true rfl⟩) hK hZ hP rfl (at_GL (BW_G (H0 := H0) (cA := cA) (sv := sv) D β) hP) rfl hl.1 rfl (Nat.le_of_ble_eq_true rfl) dL_flush_4 ⟨Nat.le_of_ble_eq_true rfl, Nat.le_of_ble_eq_true rfl⟩ hL (fun k H1 locs1 q9 ce hres hk3 hPX hL h1 h2 h3 => ?_) (fun r H1 locs1 hres hP hL => ?_)
  · subst hres
    have hk9 := hk k rfl
    subst hk9
    refine vx_catch (E := exN 1) (name := exN 1) hown [] ⟨0, 9, 12, 18⟩ [] (htab.trans rfl) (fun z h => nomatch h) (by decide) (by decide) (hts _ mw_162) (va_Nw.use rfl (hZ.2.2.2.2.2.2.1 1 (by decide))) h1 h2 h3 ?_
    refine lv_astore_n (lv' := [(3, .ref q9), (0, .ref aG), (1, .int p0), (2, .ref aO)]) hx hb dL_flush_12 rfl hl (by decide) rfl (fun ls hl => ?_)
    refine lv_iconst (v := 1) hx hb dL_flush_13 (by decide) ?_
    exact cx_iret hx hb hr hlocks hPX hL dL_flush_14
  · subst hres
    refine lv_i2l hx hb dL_flush_7 rfl ?_
    have hP : BW G cA H0 lo aG aM aO bs sv (r.2, β.2) H1 := hP
    refine cx_last (a := aO) hx hb hK ((BW_O (H0 := H0) (cA := cA) (sv := sv) D (r.2, β.2)).1 β.2.2.1 H1 hP 0 (by decide)) (nI_in (c := 0) (N := 1) (by decide) (by decide)) dL_flush_8 (fun H2 k0 hat hz hq => ?_)
    have hP : BW G cA H0 lo aG aM aO bs sv (r.2, β.2.1, oUp β.2.2.1 (Int32.toInt64 r.1), β.2.2.2) H2 := (BW_O (H0 := H0) (cA := cA) (sv := sv) D (r.2, β.2)).2.2.1 β.2.2.1 _ H1 H2 0 (by decide) hP hz hq hat (fun j hj hne => absurd (show j = 0 by omega) hne)
    have hL := cx_lL (k0 := k0) hL (show lo ≤ aO by have := D.1; have := D.2.1; have := D.2.2.1; omega)
    refine lv_goto (tgt := 15) hx hb dL_flush_9 (by decide) ?_
    refine lv_iconst (v := 0) hx hb dL_flush_15 (by decide) ?_
    exact cx_iret hx hb hr hlocks hP hL dL_flush_16
abbrev rm_L_forget : Room := { frames := 8, cells := 1, slots := 6, locals := 148 }
theorem hd_L_forget : yL_forget.cls ≠ "java/lang/invoke/MethodHandle" ∧ yL_forget.cls ≠ "java/lang/invoke/VarHandle" ∧ (parseMethodDescriptor yL_forget.desc).map (fun d => d.parameters.length) = some 3 := by decide +kernel
set_option maxHeartbeats 1000000 in
set_option maxRecDepth 100000 in
theorem c_L_forget {l : Launch} (hl0 : l.stackTraces = false) {G : va_G} {cA : Nat → ClassId} {H0 : Heap} {lo aG aM aO : Nat} {bs : List Nat} {sv : Nat → Option Nat} {β : BigS} {z : ZS} (D : Dj lo aG aM aO bs) {N : Nat} {p0 : Int32} {res : Nat ⊕ (Int32 × GLS)} (hf : f_X8_forget N β.1 p0 = some res) (hk : ∀ k, res = .inl k → k = 1) :
    Met l yL_forget (cWx yL_forget cL_forget 4 (some .int) [(0, 16, 19, 18)]) rm_L_forget (cPW lo z [.ref aG, .int p0, .ref aO] (BW G cA H0 lo aG aM aO bs sv β) G cA) (cQ (some (.int (wCode 1 res))) (BW G cA H0 lo aG aM aO bs sv (wAft β (fun r : Int32 × GLS => (r.2, β.2.1, oUp β.2.2.1 (if r.1 = 0 then 0 else 1), β.2.2.2)) res))) 1 6 (fun q => lo ≤ q) := by
  refine wx_met (by decide) (Nat.le_of_ble_eq_true rfl) (fun p e s m args below meth c ls C0 hN htab hZ hX hP hl => ?_)
  have hl : lv_has ls 4 [(0, .ref aG), (1, .int p0), (2, .ref aO)] := hl
  obtain ⟨⟨hx, hb, hml, hown, hts⟩, hr, hlocks, hK⟩ := id C0
  have hL : ∀ q ∈ ([] : List Loc), lo ≤ q.base := fun q h => nomatch h
  refine lv_aload_n hx hb dL_forget_0 rfl (lv_at hl 2 rfl) ?_
  refine lv_iconst (v := 0) hx hb dL_forget_1 (by decide) ?_
  refine lv_aload_n hx hb dL_forget_2 rfl (lv_at hl 0 rfl) ?_
  refine lv_iload_n hx hb dL_forget_3 rfl (lv_at hl 1 rfl) ?_
  refine xx_callV (As := [.int p0]) (rest := [.int 0, .ref aO]) ⟨hx, hb, hml, hown, hts⟩ (c_X8_forget (z := z) hl0 (BW_G (H0 := H0) (cA := cA) (sv := sv) D β) hf) (cwV 1 hts (gV mw_979 mw_980 mw_981 mw_2 mw_982) rfl rfl rfl hd_X8_forget ⟨Nat.le_of_ble_eq_true rfl, Nat.le_of_ble_eq_true rfl⟩) hK hZ hP rfl (at_GL (BW_G (H0 := H0) (cA := cA) (sv := sv) D β) hP) rfl hl.1 rfl (Nat.le_of_ble_eq_true rfl) dL_forget_4 ⟨Nat.le_of_ble_eq_true rfl, Nat.le_of_ble_eq_true rfl⟩ hL (fun k H1 locs1 q9 ce hres hk3 hPX hL h1 h2 h3 => ?_) (fun r H1 locs1 hres hP hL => ?_)
  · subst hres
    have hk9 := hk k rfl
    subst hk9
    refine vx_catch (E := exN 1) (name := exN 1) hown [] ⟨0, 16, 19, 18⟩ [] (htab.trans rfl) (fun z h => nomatch h) (by decide) (by decide) (hts _ mw_162) (va_Nw.use rfl (hZ.2.2.2.2.2.2.1 1 (by decide))) h1 h2 h3 ?_
    refine lv_astore_n (lv' := [(3, .ref q9), (0, .ref aG), (1, .int p0), (2, .ref aO)]) hx hb dL_forget_19 rfl hl (by decide) rfl (fun ls hl => ?_)
    refine lv_iconst (v := 1) hx hb dL_forget_20 (by decide) ?_
    exact cx_iret hx hb hr hlocks hPX hL dL_forget_21
  · subst hres
    refine lv_if_eq (tgt := 14) hx hb dL_forget_7 (by decide) (fun c9 => ?_) (fun c9 => ?_)
    · refine lv_lconst (v := 0) hx hb dL_forget_14 (by decide) ?_
      have hP : BW G cA H0 lo aG aM aO bs sv (r.2, β.2) H1 := hP
      refine cx_last (a := aO) hx hb hK ((BW_O (H0 := H0) (cA := cA) (sv := sv) D (r.2, β.2)).1 β.2.2.1 H1 hP 0 (by decide)) (nI_in (c := 0) (N := 1) (by decide) (by decide)) dL_forget_15 (fun H2 k0 hat hz hq => ?_)
      have hP : BW G cA H0 lo aG aM aO bs sv (r.2, β.2.1, oUp β.2.2.1 0, β.2.2.2) H2 := (BW_O (H0 := H0) (cA := cA) (sv := sv) D (r.2, β.2)).2.2.1 β.2.2.1 _ H1 H2 0 (by decide) hP hz hq hat (fun j hj hne => absurd (show j = 0 by omega) hne)
      have hL := cx_lL (k0 := k0) hL (show lo ≤ aO by have := D.1; have := D.2.1; have := D.2.2.1; omega)
      have hP : BW G cA H0 lo aG aM aO bs sv (r.2, β.2.1, oUp β.2.2.1 (if r.1 = 0 then 0 else 1), β.2.2.2) H2 := by rw [if_pos c9]; exact hP
      refine lv_goto (tgt := 22) hx hb dL_forget_16 (by decide) ?_
      refine lv_iconst (v := 0) hx hb dL_forget_22 (by decide) ?_
      exact cx_iret hx hb hr hlocks hP hL dL_forget_23
    · refine lv_lconst (v := 1) hx hb dL_forget_10 (by decide) ?_
      refine lv_goto (tgt := 15) hx hb dL_forget_11 (by decide) ?_
      have hP : BW G cA H0 lo aG aM aO bs sv (r.2, β.2) H1 := hP
      refine cx_last (a := aO) hx hb hK ((BW_O (H0 := H0) (cA := cA) (sv := sv) D (r.2, β.2)).1 β.2.2.1 H1 hP 0 (by decide)) (nI_in (c := 0) (N := 1) (by decide) (by decide)) dL_forget_15 (fun H2 k0 hat hz hq => ?_)
      have hP : BW G cA H0 lo aG aM aO bs sv (r.2, β.2.1, oUp β.2.2.1 1, β.2.2.2) H2 := (BW_O (H0 := H0) (cA := cA) (sv := sv) D (r.2, β.2)).2.2.1 β.2.2.1 _ H1 H2 0 (by decide) hP hz hq hat (fun j hj hne => absurd (show j = 0 by omega) hne)
      have hL := cx_lL (k0 := k0) hL (show lo ≤ aO by have := D.1; have := D.2.1; have := D.2.2.1; omega)
      have hP : BW G cA H0 lo aG aM aO bs sv (r.2, β.2.1, oUp β.2.2.1 (if r.1 = 0 then 0 else 1), β.2.2.2) H2 := by rw [if_neg c9]; exact hP
      refine lv_goto (tgt := 22) hx hb dL_forget_16 (by decide) ?_
      refine lv_iconst (v := 0) hx hb dL_forget_22 (by decide) ?_
      exact cx_iret hx hb hr hlocks hP hL dL_forget_23
abbrev rm_L_share : Room := { frames := 9, cells := 1, slots := 6, locals := 154 }
theorem hd_L_share : yL_share.cls ≠ "java/lang/invoke/MethodHandle" ∧ yL_share.cls ≠ "java/lang/invoke/VarHandle" ∧ (parseMethodDescriptor yL_share.desc).map (fun d => d.parameters.length) = some 3 := by decide +kernel
set_option maxHeartbeats 1000000 in
set_option maxRecDepth 100000 in
theorem c_L_share {l : Launch} (hl0 : l.stackTraces = false) {G : va_G} {cA : Nat → ClassId} {H0 : Heap} {lo aG aM aO : Nat} {bs : List Nat} {sv : Nat → Option Nat} {β : BigS} {z : ZS} (D : Dj lo aG aM aO bs) {N : Nat} {p0 : Int32} {res : Nat ⊕ (UInt64)} (hf : f_X8_share N β.1 p0 = some res) (hk : ∀ k, res = .inl k → k = 0) :
    Met l yL_share (cWx yL_share cL_share 4 (some .int) [(0, 8, 11, 27)]) rm_L_share (cPW lo z [.ref aG, .int p0, .ref (aO + 1)] (BW G cA H0 lo aG aM aO bs sv β) G cA) (cQ (some (.int (wCode 0 res))) (BW G cA H0 lo aG aM aO bs sv (wAft β (fun r : UInt64 => (β.1, β.2.1, β.2.2.1, dUp β.2.2.2.1 r, β.2.2.2.2)) res))) 1 6 (fun q => lo ≤ q) := by
  refine wx_met (by decide) (Nat.le_of_ble_eq_true rfl) (fun p e s m args below meth c ls C0 hN htab hZ hX hP hl => ?_)
  have hl : lv_has ls 4 [(0, .ref aG), (1, .int p0), (2, .ref (aO + 1))] := hl
  obtain ⟨⟨hx, hb, hml, hown, hts⟩, hr, hlocks, hK⟩ := id C0
  have hL : ∀ q ∈ ([] : List Loc), lo ≤ q.base := fun q h => nomatch h
  refine lv_aload_n hx hb dL_share_0 rfl (lv_at hl 2 rfl) ?_
  refine lv_iconst (v := 0) hx hb dL_share_1 (by decide) ?_
  refine lv_aload_n hx hb dL_share_2 rfl (lv_at hl 0 rfl) ?_
  refine lv_iload_n hx hb dL_share_3 rfl (lv_at hl 1 rfl) ?_
  refine xx_callV (As := [.int p0]) (rest := [.int 0, .ref (aO + 1)]) ⟨hx, hb, hml, hown, hts⟩ (c_X8_share (z := z) hl0 (BW_G (H0 := H0) (cA := cA) (sv := sv) D β) hf) (cwV 1 hts (gV mw_994 mw_995 mw_996 mw_2 mw_997) rfl rfl rfl hd_X8_share ⟨Nat.le_of_ble_eq_true rfl, Nat.le_of_ble_eq_true rfl⟩) hK hZ hP rfl (at_GL (BW_G (H0 := H0) (cA := cA) (sv := sv) D β) hP) rfl hl.1 rfl (Nat.le_of_ble_eq_true rfl) dL_share_4 ⟨Nat.le_of_ble_eq_true rfl, Nat.le_of_ble_eq_true rfl⟩ hL (fun k H1 locs1 q9 ce hres hk3 hPX hL h1 h2 h3 => ?_) (fun r H1 locs1 hres hP hL => ?_)
  · subst hres
    have hk9 := hk k rfl
    subst hk9
    refine vx_catch (E := exN 0) (name := exN 0) hown [] ⟨0, 8, 11, 27⟩ [] (htab.trans rfl) (fun z h => nomatch h) (by decide) (by decide) (hts _ mw_778) (va_Nw.use rfl (hZ.2.2.2.2.2.2.1 0 (by decide))) h1 h2 h3 ?_
    refine lv_astore_n (lv' := [(3, .ref q9), (0, .ref aG), (1, .int p0), (2, .ref (aO + 1))]) hx hb dL_share_11 rfl hl (by decide) rfl (fun ls hl => ?_)
    refine lv_iconst (v := 1) hx hb dL_share_12 (by decide) ?_
    exact cx_iret hx hb hr hlocks hPX hL dL_share_13
  · subst hres
    have hP : BW G cA H0 lo aG aM aO bs sv (β.1, β.2) H1 := hP
    refine cx_dast (a := aO + 1) hx hb hK ((BW_D (H0 := H0) (cA := cA) (sv := sv) D (β.1, β.2)).1 β.2.2.2.1 H1 hP 0 (by decide)) (nI_in (c := 0) (N := 1) (by decide) (by decide)) dL_share_7 (fun H2 k0 hat hz hq => ?_)
    have hP : BW G cA H0 lo aG aM aO bs sv (β.1, β.2.1, β.2.2.1, dUp β.2.2.2.1 r, β.2.2.2.2) H2 := (BW_D (H0 := H0) (cA := cA) (sv := sv) D (β.1, β.2)).2.2.1 β.2.2.2.1 _ H1 H2 0 (by decide) hP hz hq hat (fun j hj hne => absurd (show j = 0 by omega) hne)
    have hL := cx_lL (k0 := k0) hL (show lo ≤ aO + 1 by have := D.1; have := D.2.1; have := D.2.2.1; omega)
    refine lv_goto (tgt := 14) hx hb dL_share_8 (by decide) ?_
    refine lv_iconst (v := 0) hx hb dL_share_14 (by decide) ?_
    exact cx_iret hx hb hr hlocks hP hL dL_share_15
abbrev rm_L_order : Room := { frames := 8, cells := 1, slots := 6, locals := 131 }
theorem hd_L_order : yL_order.cls ≠ "java/lang/invoke/MethodHandle" ∧ yL_order.cls ≠ "java/lang/invoke/VarHandle" ∧ (parseMethodDescriptor yL_order.desc).map (fun d => d.parameters.length) = some 3 := by decide +kernel
set_option maxHeartbeats 1000000 in
set_option maxRecDepth 100000 in
theorem c_L_order {l : Launch} (hl0 : l.stackTraces = false) {G : va_G} {cA : Nat → ClassId} {H0 : Heap} {lo aG aM aO : Nat} {bs : List Nat} {sv : Nat → Option Nat} {β : BigS} {z : ZS} (D : Dj lo aG aM aO bs) {N : Nat} {p0 : Int32} {res : Nat ⊕ (Int32)} (hf : f_X8_order N β.1 p0 = some res) (hk : ∀ k, res = .inl k → k = 0) :
    Met l yL_order (cWx yL_order cL_order 4 (some .int) [(0, 9, 12, 27)]) rm_L_order (cPW lo z [.ref aG, .int p0, .ref aO] (BW G cA H0 lo aG aM aO bs sv β) G cA) (cQ (some (.int (wCode 0 res))) (BW G cA H0 lo aG aM aO bs sv (wAft β (fun r : Int32 => (β.1, β.2.1, oUp β.2.2.1 (Int32.toInt64 r), β.2.2.2)) res))) 1 6 (fun q => lo ≤ q) := by
  refine wx_met (by decide) (Nat.le_of_ble_eq_true rfl) (fun p e s m args below meth c ls C0 hN htab hZ hX hP hl => ?_)
  have hl : lv_has ls 4 [(0, .ref aG), (1, .int p0), (2, .ref aO)] := hl
  obtain ⟨⟨hx, hb, hml, hown, hts⟩, hr, hlocks, hK⟩ := id C0
  have hL : ∀ q ∈ ([] : List Loc), lo ≤ q.base := fun q h => nomatch h
  refine lv_aload_n hx hb dL_order_0 rfl (lv_at hl 2 rfl) ?_
  refine lv_iconst (v := 0) hx hb dL_order_1 (by decide) ?_
  refine lv_aload_n hx hb dL_order_2 rfl (lv_at hl 0 rfl) ?_
  refine lv_iload_n hx hb dL_order_3 rfl (lv_at hl 1 rfl) ?_
  refine xx_callV (As := [.int p0]) (rest := [.int 0, .ref aO]) ⟨hx, hb, hml, hown, hts⟩ (c_X8_order (z := z) hl0 (BW_G (H0 := H0) (cA := cA) (sv := sv) D β) hf) (cwV 1 hts (gV mw_1020 mw_1021 mw_1022 mw_2 mw_1023) rfl rfl rfl hd_X8_order ⟨Nat.le_of_ble_eq_true rfl, Nat.le_of_ble_eq_true rfl⟩) hK hZ hP rfl (at_GL (BW_G (H0 := H0) (cA := cA) (sv := sv) D β) hP) rfl hl.1 rfl (Nat.le_of_ble_eq_true rfl) dL_order_4 ⟨Nat.le_of_ble_eq_true rfl, Nat.le_of_ble_eq_true rfl⟩ hL (fun k H1 locs1 q9 ce hres hk3 hPX hL h1 h2 h3 => ?_) (fun r H1 locs1 hres hP hL => ?_)
  · subst hres
    have hk9 := hk k rfl
    subst hk9
    refine vx_catch (E := exN 0) (name := exN 0) hown [] ⟨0, 9, 12, 27⟩ [] (htab.trans rfl) (fun z h => nomatch h) (by decide) (by decide) (hts _ mw_778) (va_Nw.use rfl (hZ.2.2.2.2.2.2.1 0 (by decide))) h1 h2 h3 ?_
    refine lv_astore_n (lv' := [(3, .ref q9), (0, .ref aG), (1, .int p0), (2, .ref aO)]) hx hb dL_order_12 rfl hl (by decide) rfl (fun ls hl => ?_)
    refine lv_iconst (v := 1) hx hb dL_order_13 (by decide) ?_
    exact cx_iret hx hb hr hlocks hPX hL dL_order_14
  · subst hres
    refine lv_i2l hx hb dL_order_7 rfl ?_
    have hP : BW G cA H0 lo aG aM aO bs sv (β.1, β.2) H1 := hP
    refine cx_last (a := aO) hx hb hK ((BW_O (H0 := H0) (cA := cA) (sv := sv) D (β.1, β.2)).1 β.2.2.1 H1 hP 0 (by decide)) (nI_in (c := 0) (N := 1) (by decide) (by decide)) dL_order_8 (fun H2 k0 hat hz hq => ?_)
    have hP : BW G cA H0 lo aG aM aO bs sv (β.1, β.2.1, oUp β.2.2.1 (Int32.toInt64 r), β.2.2.2) H2 := (BW_O (H0 := H0) (cA := cA) (sv := sv) D (β.1, β.2)).2.2.1 β.2.2.1 _ H1 H2 0 (by decide) hP hz hq hat (fun j hj hne => absurd (show j = 0 by omega) hne)
    have hL := cx_lL (k0 := k0) hL (show lo ≤ aO by have := D.1; have := D.2.1; have := D.2.2.1; omega)
    refine lv_goto (tgt := 15) hx hb dL_order_9 (by decide) ?_
    refine lv_iconst (v := 0) hx hb dL_order_15 (by decide) ?_
    exact cx_iret hx hb hr hlocks hP hL dL_order_16
abbrev rm_L_ages : Room := { frames := 8, cells := 1, slots := 6, locals := 132 }
theorem hd_L_ages : yL_ages.cls ≠ "java/lang/invoke/MethodHandle" ∧ yL_ages.cls ≠ "java/lang/invoke/VarHandle" ∧ (parseMethodDescriptor yL_ages.desc).map (fun d => d.parameters.length) = some 3 := by decide +kernel
set_option maxHeartbeats 1000000 in
set_option maxRecDepth 100000 in
theorem c_L_ages {l : Launch} (hl0 : l.stackTraces = false) {G : va_G} {cA : Nat → ClassId} {H0 : Heap} {lo aG aM aO : Nat} {bs : List Nat} {sv : Nat → Option Nat} {β : BigS} {z : ZS} (D : Dj lo aG aM aO bs) {N : Nat} {p0 : Int32} {res : Nat ⊕ (Int32)} (hf : f_X8_ages N β.1 p0 = some res) (hk : ∀ k, res = .inl k → k = 0) :
    Met l yL_ages (cWx yL_ages cL_ages 4 (some .int) [(0, 9, 12, 27)]) rm_L_ages (cPW lo z [.ref aG, .int p0, .ref aO] (BW G cA H0 lo aG aM aO bs sv β) G cA) (cQ (some (.int (wCode 0 res))) (BW G cA H0 lo aG aM aO bs sv (wAft β (fun r : Int32 => (β.1, β.2.1, oUp β.2.2.1 (Int32.toInt64 r), β.2.2.2)) res))) 1 6 (fun q => lo ≤ q) := by
  refine wx_met (by decide) (Nat.le_of_ble_eq_true rfl) (fun p e s m args below meth c ls C0 hN htab hZ hX hP hl => ?_)
  have hl : lv_has ls 4 [(0, .ref aG), (1, .int p0), (2, .ref aO)] := hl
  obtain ⟨⟨hx, hb, hml, hown, hts⟩, hr, hlocks, hK⟩ := id C0
  have hL : ∀ q ∈ ([] : List Loc), lo ≤ q.base := fun q h => nomatch h
  refine lv_aload_n hx hb dL_ages_0 rfl (lv_at hl 2 rfl) ?_
  refine lv_iconst (v := 0) hx hb dL_ages_1 (by decide) ?_
  refine lv_aload_n hx hb dL_ages_2 rfl (lv_at hl 0 rfl) ?_
  refine lv_iload_n hx hb dL_ages_3 rfl (lv_at hl 1 rfl) ?_
  refine xx_callV (As := [.int p0]) (rest := [.int 0, .ref aO]) ⟨hx, hb, hml, hown, hts⟩ (c_X8_ages (z := z) hl0 (BW_G (H0 := H0) (cA := cA) (sv := sv) D β) hf) (cwV 1 hts (gV mw_1063 mw_1064 mw_1065 mw_2 mw_1066) rfl rfl rfl hd_X8_ages ⟨Nat.le_of_ble_eq_true rfl, Nat.le_of_ble_eq_true rfl⟩) hK hZ hP rfl (at_GL (BW_G (H0 := H0) (cA := cA) (sv := sv) D β) hP) rfl hl.1 rfl (Nat.le_of_ble_eq_true rfl) dL_ages_4 ⟨Nat.le_of_ble_eq_true rfl, Nat.le_of_ble_eq_true rfl⟩ hL (fun k H1 locs1 q9 ce hres hk3 hPX hL h1 h2 h3 => ?_) (fun r H1 locs1 hres hP hL => ?_)
  · subst hres
    have hk9 := hk k rfl
    subst hk9
    refine vx_catch (E := exN 0) (name := exN 0) hown [] ⟨0, 9, 12, 27⟩ [] (htab.trans rfl) (fun z h => nomatch h) (by decide) (by decide) (hts _ mw_778) (va_Nw.use rfl (hZ.2.2.2.2.2.2.1 0 (by decide))) h1 h2 h3 ?_
    refine lv_astore_n (lv' := [(3, .ref q9), (0, .ref aG), (1, .int p0), (2, .ref aO)]) hx hb dL_ages_12 rfl hl (by decide) rfl (fun ls hl => ?_)
    refine lv_iconst (v := 1) hx hb dL_ages_13 (by decide) ?_
    exact cx_iret hx hb hr hlocks hPX hL dL_ages_14
  · subst hres
    refine lv_i2l hx hb dL_ages_7 rfl ?_
    have hP : BW G cA H0 lo aG aM aO bs sv (β.1, β.2) H1 := hP
    refine cx_last (a := aO) hx hb hK ((BW_O (H0 := H0) (cA := cA) (sv := sv) D (β.1, β.2)).1 β.2.2.1 H1 hP 0 (by decide)) (nI_in (c := 0) (N := 1) (by decide) (by decide)) dL_ages_8 (fun H2 k0 hat hz hq => ?_)
    have hP : BW G cA H0 lo aG aM aO bs sv (β.1, β.2.1, oUp β.2.2.1 (Int32.toInt64 r), β.2.2.2) H2 := (BW_O (H0 := H0) (cA := cA) (sv := sv) D (β.1, β.2)).2.2.1 β.2.2.1 _ H1 H2 0 (by decide) hP hz hq hat (fun j hj hne => absurd (show j = 0 by omega) hne)
    have hL := cx_lL (k0 := k0) hL (show lo ≤ aO by have := D.1; have := D.2.1; have := D.2.2.1; omega)
    refine lv_goto (tgt := 15) hx hb dL_ages_9 (by decide) ?_
    refine lv_iconst (v := 0) hx hb dL_ages_15 (by decide) ?_
    exact cx_iret hx hb hr hlocks hP hL dL_ages_16
abbrev rm_L_ownedAt : Room := { frames := 9, cells := 3, slots := 18, locals := 155 }
theorem hd_L_ownedAt : yL_ownedAt.cls ≠ "java/lang/invoke/MethodHandle" ∧ yL_ownedAt.cls ≠ "java/lang/invoke/VarHandle" ∧ (parseMethodDescriptor yL_ownedAt.desc).map (fun d => d.parameters.length) = some 5 := by decide +kernel
set_option maxHeartbeats 1000000 in
set_option maxRecDepth 100000 in
theorem c_L_ownedAt {l : Launch} (hl0 : l.stackTraces = false) {G : va_G} {cA : Nat → ClassId} {H0 : Heap} {lo aG aM aO : Nat} {bs : List Nat} {sv : Nat → Option Nat} {β : BigS} {z : ZS} (D : Dj lo aG aM aO bs) {N : Nat} {p0 : Int32} {p1 : Int32} {p2 : Int32} {res : Nat ⊕ (Int32)} (hf : f_X8_ownedAt N β.1 p0 p1 p2 = some res) (hk : ∀ k, res = .inl k → k = 0) :
    Met l yL_ownedAt (cWx yL_ownedAt cL_ownedAt 6 (some .int) [(0, 12, 15, 27)]) rm_L_ownedAt (cPW lo z [.ref aG, .int p0, .int p1, .int p2, .ref aO] (BW G cA H0 lo aG aM aO bs sv β) G cA) (cQ (some (.int (wCode 0 res))) (BW G cA H0 lo aG aM aO bs sv (wAft β (fun r : Int32 => (β.1, β.2.1, oUp β.2.2.1 (Int32.toInt64 r), β.2.2.2)) res))) 3 18 (fun q => lo ≤ q) := by
  refine wx_met (by decide) (Nat.le_of_ble_eq_true rfl) (fun p e s m args below meth c ls C0 hN htab hZ hX hP hl => ?_)
  have hl : lv_has ls 6 [(0, .ref aG), (1, .int p0), (2, .int p1), (3, .int p2), (4, .ref aO)] := hl
  obtain ⟨⟨hx, hb, hml, hown, hts⟩, hr, hlocks, hK⟩ := id C0
  have hL : ∀ q ∈ ([] : List Loc), lo ≤ q.base := fun q h => nomatch h
  refine lv_aload hx hb dL_ownedAt_0 (lv_at hl 4 rfl) ?_
  refine lv_iconst (v := 0) hx hb dL_ownedAt_2 (by decide) ?_
  refine lv_aload_n hx hb dL_ownedAt_3 rfl (lv_at hl 0 rfl) ?_
  refine lv_iload_n hx hb dL_ownedAt_4 rfl (lv_at hl 1 rfl) ?_
  refine lv_iload_n hx hb dL_ownedAt_5 rfl (lv_at hl 2 rfl) ?_
  refine lv_iload_n hx hb dL_ownedAt_6 rfl (lv_at hl 3 rfl) ?_
  refine xx_callV (As := [.int p0, .int p1, .int p2]) (rest := [.int 0, .ref aO]) ⟨hx, hb, hml, hown, hts⟩ (c_X8_ownedAt (z := z) hl0 (BW_G (H0 := H0) (cA := cA) (sv := sv) D β) hf) (cwV 3 hts (gV mw_1078 mw_1079 mw_1080 mw_2 mw_1081) rfl rfl rfl hd_X8_ownedAt ⟨Nat.le_of_ble_eq_true rfl, Nat.le_of_ble_eq_true rfl⟩) hK hZ hP rfl (at_GL (BW_G (H0 := H0) (cA := cA) (sv := sv) D β) hP) rfl hl.1 rfl (Nat.le_of_ble_eq_true rfl) dL_ownedAt_7 ⟨Nat.le_of_ble_eq_true rfl, Nat.le_of_ble_eq_true rfl⟩ hL (fun k H1 locs1 q9 ce hres hk3 hPX hL h1 h2 h3 => ?_) (fun r H1 locs1 hres hP hL => ?_)
  · subst hres
    have hk9 := hk k rfl
    subst hk9
    refine vx_catch (E := exN 0) (name := exN 0) hown [] ⟨0, 12, 15, 27⟩ [] (htab.trans rfl) (fun z h => nomatch h) (by decide) (by decide) (hts _ mw_778) (va_Nw.use rfl (hZ.2.2.2.2.2.2.1 0 (by decide))) h1 h2 h3 ?_
    refine lv_astore (lv' := [(5, .ref q9), (0, .ref aG), (1, .int p0), (2, .int p1), (3, .int p2), (4, .ref aO)]) hx hb dL_ownedAt_15 hl (by decide) rfl (fun ls hl => ?_)
    refine lv_iconst (v := 1) hx hb dL_ownedAt_17 (by decide) ?_
    exact cx_iret hx hb hr hlocks hPX hL dL_ownedAt_18
  · subst hres
    refine lv_i2l hx hb dL_ownedAt_10 rfl ?_
    have hP : BW G cA H0 lo aG aM aO bs sv (β.1, β.2) H1 := hP
    refine cx_last (a := aO) hx hb hK ((BW_O (H0 := H0) (cA := cA) (sv := sv) D (β.1, β.2)).1 β.2.2.1 H1 hP 0 (by decide)) (nI_in (c := 0) (N := 1) (by decide) (by decide)) dL_ownedAt_11 (fun H2 k0 hat hz hq => ?_)
    have hP : BW G cA H0 lo aG aM aO bs sv (β.1, β.2.1, oUp β.2.2.1 (Int32.toInt64 r), β.2.2.2) H2 := (BW_O (H0 := H0) (cA := cA) (sv := sv) D (β.1, β.2)).2.2.1 β.2.2.1 _ H1 H2 0 (by decide) hP hz hq hat (fun j hj hne => absurd (show j = 0 by omega) hne)
    have hL := cx_lL (k0 := k0) hL (show lo ≤ aO by have := D.1; have := D.2.1; have := D.2.2.1; omega)
    refine lv_goto (tgt := 19) hx hb dL_ownedAt_12 (by decide) ?_
    refine lv_iconst (v := 0) hx hb dL_ownedAt_19 (by decide) ?_
    exact cx_iret hx hb hr hlocks hP hL dL_ownedAt_20
abbrev rm_L_excess : Room := { frames := 9, cells := 1, slots := 6, locals := 155 }
theorem hd_L_excess : yL_excess.cls ≠ "java/lang/invoke/MethodHandle" ∧ yL_excess.cls ≠ "java/lang/invoke/VarHandle" ∧ (parseMethodDescriptor yL_excess.desc).map (fun d => d.parameters.length) = some 3 := by decide +kernel
set_option maxHeartbeats 1000000 in
set_option maxRecDepth 100000 in
theorem c_L_excess {l : Launch} (hl0 : l.stackTraces = false) {G : va_G} {cA : Nat → ClassId} {H0 : Heap} {lo aG aM aO : Nat} {bs : List Nat} {sv : Nat → Option Nat} {β : BigS} {z : ZS} (D : Dj lo aG aM aO bs) {N : Nat} {p0 : Int32} {res : Nat ⊕ (UInt32)} (hf : f_X8_excess N β.1 p0 = some res) (hk : ∀ k, res = .inl k → k = 0) (hnn : ∀ r, res = .inr r → vf_n64 (FP.f2d r)) :
    Met l yL_excess (cWx yL_excess cL_excess 4 (some .int) [(0, 9, 12, 27)]) rm_L_excess (cPW lo z [.ref aG, .int p0, .ref (aO + 1)] (BW G cA H0 lo aG aM aO bs sv β) G cA) (cQ (some (.int (wCode 0 res))) (BW G cA H0 lo aG aM aO bs sv (wAft β (fun r : UInt32 => (β.1, β.2.1, β.2.2.1, dUp β.2.2.2.1 (FP.f2d r), β.2.2.2.2)) res))) 1 6 (fun q => lo ≤ q) := by
  refine wx_met (by decide) (Nat.le_of_ble_eq_true rfl) (fun p e s m args below meth c ls C0 hN htab hZ hX hP hl => ?_)
  have hl : lv_has ls 4 [(0, .ref aG), (1, .int p0), (2, .ref (aO + 1))] := hl
  obtain ⟨⟨hx, hb, hml, hown, hts⟩, hr, hlocks, hK⟩ := id C0
  have hL : ∀ q ∈ ([] : List Loc), lo ≤ q.base := fun q h => nomatch h
  refine lv_aload_n hx hb dL_excess_0 rfl (lv_at hl 2 rfl) ?_
  refine lv_iconst (v := 0) hx hb dL_excess_1 (by decide) ?_
  refine lv_aload_n hx hb dL_excess_2 rfl (lv_at hl 0 rfl) ?_
  refine lv_iload_n hx hb dL_excess_3 rfl (lv_at hl 1 rfl) ?_
  refine xx_callV (As := [.int p0]) (rest := [.int 0, .ref (aO + 1)]) ⟨hx, hb, hml, hown, hts⟩ (c_X8_excess (z := z) hl0 (BW_G (H0 := H0) (cA := cA) (sv := sv) D β) hf) (cwV 1 hts (gV mw_1093 mw_1094 mw_1095 mw_2 mw_1096) rfl rfl rfl hd_X8_excess ⟨Nat.le_of_ble_eq_true rfl, Nat.le_of_ble_eq_true rfl⟩) hK hZ hP rfl (at_GL (BW_G (H0 := H0) (cA := cA) (sv := sv) D β) hP) rfl hl.1 rfl (Nat.le_of_ble_eq_true rfl) dL_excess_4 ⟨Nat.le_of_ble_eq_true rfl, Nat.le_of_ble_eq_true rfl⟩ hL (fun k H1 locs1 q9 ce hres hk3 hPX hL h1 h2 h3 => ?_) (fun r H1 locs1 hres hP hL => ?_)
  · subst hres
    have hk9 := hk k rfl
    subst hk9
    refine vx_catch (E := exN 0) (name := exN 0) hown [] ⟨0, 9, 12, 27⟩ [] (htab.trans rfl) (fun z h => nomatch h) (by decide) (by decide) (hts _ mw_778) (va_Nw.use rfl (hZ.2.2.2.2.2.2.1 0 (by decide))) h1 h2 h3 ?_
    refine lv_astore_n (lv' := [(3, .ref q9), (0, .ref aG), (1, .int p0), (2, .ref (aO + 1))]) hx hb dL_excess_12 rfl hl (by decide) rfl (fun ls hl => ?_)
    refine lv_iconst (v := 1) hx hb dL_excess_13 (by decide) ?_
    exact cx_iret hx hb hr hlocks hPX hL dL_excess_14
  · subst hres
    refine lv_f2d hx hb dL_excess_7 (hnn r rfl) ?_
    have hP : BW G cA H0 lo aG aM aO bs sv (β.1, β.2) H1 := hP
    refine cx_dast (a := aO + 1) hx hb hK ((BW_D (H0 := H0) (cA := cA) (sv := sv) D (β.1, β.2)).1 β.2.2.2.1 H1 hP 0 (by decide)) (nI_in (c := 0) (N := 1) (by decide) (by decide)) dL_excess_8 (fun H2 k0 hat hz hq => ?_)
    have hP : BW G cA H0 lo aG aM aO bs sv (β.1, β.2.1, β.2.2.1, dUp β.2.2.2.1 (FP.f2d r), β.2.2.2.2) H2 := (BW_D (H0 := H0) (cA := cA) (sv := sv) D (β.1, β.2)).2.2.1 β.2.2.2.1 _ H1 H2 0 (by decide) hP hz hq hat (fun j hj hne => absurd (show j = 0 by omega) hne)
    have hL := cx_lL (k0 := k0) hL (show lo ≤ aO + 1 by have := D.1; have := D.2.1; have := D.2.2.1; omega)
    refine lv_goto (tgt := 15) hx hb dL_excess_9 (by decide) ?_
    refine lv_iconst (v := 0) hx hb dL_excess_15 (by decide) ?_
    exact cx_iret hx hb hr hlocks hP hL dL_excess_16
abbrev rm_L_toScan : Room := { frames := 9, cells := 2, slots := 12, locals := 155 }
theorem hd_L_toScan : yL_toScan.cls ≠ "java/lang/invoke/MethodHandle" ∧ yL_toScan.cls ≠ "java/lang/invoke/VarHandle" ∧ (parseMethodDescriptor yL_toScan.desc).map (fun d => d.parameters.length) = some 4 := by decide +kernel
set_option maxHeartbeats 1000000 in
set_option maxRecDepth 100000 in
theorem c_L_toScan {l : Launch} (hl0 : l.stackTraces = false) {G : va_G} {cA : Nat → ClassId} {H0 : Heap} {lo aG aM aO : Nat} {bs : List Nat} {sv : Nat → Option Nat} {β : BigS} {z : ZS} (D : Dj lo aG aM aO bs) {p0 : Int32} {p1 : Int32} {res : Nat ⊕ (Int32)} (hf : f_X8_toScan β.1 p0 p1 = some res) (hk : ∀ k, res = .inl k → k = 0 ∨ k = 1) :
    Met l yL_toScan (cWx yL_toScan cL_toScan 5 (some .int) [(0, 10, 13, 27), (0, 10, 17, 18)]) rm_L_toScan (cPW lo z [.ref aG, .int p0, .int p1, .ref aO] (BW G cA H0 lo aG aM aO bs sv β) G cA) (cQ (some (.int (wCode 0 res))) (BW G cA H0 lo aG aM aO bs sv (wAft β (fun r : Int32 => (β.1, β.2.1, oUp β.2.2.1 (Int32.toInt64 r), β.2.2.2)) res))) 2 12 (fun q => lo ≤ q) := by
  refine wx_met (by decide) (Nat.le_of_ble_eq_true rfl) (fun p e s m args below meth c ls C0 hN htab hZ hX hP hl => ?_)
  have hl : lv_has ls 5 [(0, .ref aG), (1, .int p0), (2, .int p1), (3, .ref aO)] := hl
  obtain ⟨⟨hx, hb, hml, hown, hts⟩, hr, hlocks, hK⟩ := id C0
  have hL : ∀ q ∈ ([] : List Loc), lo ≤ q.base := fun q h => nomatch h
  refine lv_aload_n hx hb dL_toScan_0 rfl (lv_at hl 3 rfl) ?_
  refine lv_iconst (v := 0) hx hb dL_toScan_1 (by decide) ?_
  refine lv_aload_n hx hb dL_toScan_2 rfl (lv_at hl 0 rfl) ?_
  refine lv_iload_n hx hb dL_toScan_3 rfl (lv_at hl 1 rfl) ?_
  refine lv_iload_n hx hb dL_toScan_4 rfl (lv_at hl 2 rfl) ?_
  refine xx_callV (As := [.int p0, .int p1]) (rest := [.int 0, .ref aO]) ⟨hx, hb, hml, hown, hts⟩ (c_X8_toScan (z := z) hl0 (BW_G (H0 := H0) (cA := cA) (sv := sv) D β) hf) (cwV 2 hts (gV mw_1106 mw_1107 mw_1108 mw_2 mw_1109) rfl rfl rfl hd_X8_toScan ⟨Nat.le_of_ble_eq_true rfl, Nat.le_of_ble_eq_true rfl⟩) hK hZ hP rfl (at_GL (BW_G (H0 := H0) (cA := cA) (sv := sv) D β) hP) rfl hl.1 rfl (Nat.le_of_ble_eq_true rfl) dL_toScan_5 ⟨Nat.le_of_ble_eq_true rfl, Nat.le_of_ble_eq_true rfl⟩ hL (fun k H1 locs1 q9 ce hres hk3 hPX hL h1 h2 h3 => ?_) (fun r H1 locs1 hres hP hL => ?_)
  · subst hres
    rcases hk k rfl with rfl | rfl
    · refine vx_catch (E := exN 0) (name := exN 0) hown [] ⟨0, 10, 13, 27⟩ [⟨0, 10, 17, 18⟩] (htab.trans rfl) (fun z h => nomatch h) (by decide) (by decide) (hts _ mw_778) (va_Nw.use rfl (hZ.2.2.2.2.2.2.1 0 (by decide))) h1 h2 h3 ?_
      refine lv_astore (lv' := [(4, .ref q9), (0, .ref aG), (1, .int p0), (2, .int p1), (3, .ref aO)]) hx hb dL_toScan_13 hl (by decide) rfl (fun ls hl => ?_)
      refine lv_iconst (v := 1) hx hb dL_toScan_15 (by decide) ?_
      exact cx_iret hx hb hr hlocks hPX hL dL_toScan_16
    · refine vx_catch (E := exN 1) (name := exN 1) hown [⟨0, 10, 13, 27⟩] ⟨0, 10, 17, 18⟩ [] (htab.trans rfl) (fun z h => by rw [List.mem_singleton.mp h]; exact Or.inr ⟨by decide, exN 0, hts _ mw_778, hX 1 0 (by decide) (by decide) (by decide)⟩) (by decide) (by decide) (hts _ mw_162) (va_Nw.use rfl (hZ.2.2.2.2.2.2.1 1 (by decide))) h1 h2 h3 ?_
      refine lv_astore (lv' := [(4, .ref q9), (0, .ref aG), (1, .int p0), (2, .int p1), (3, .ref aO)]) hx hb dL_toScan_17 hl (by decide) rfl (fun ls hl => ?_)
      refine lv_iconst (v := 2) hx hb dL_toScan_19 (by decide) ?_
      exact cx_iret hx hb hr hlocks hPX hL dL_toScan_20
  · subst hres
    refine lv_i2l hx hb dL_toScan_8 rfl ?_
    have hP : BW G cA H0 lo aG aM aO bs sv (β.1, β.2) H1 := hP
    refine cx_last (a := aO) hx hb hK ((BW_O (H0 := H0) (cA := cA) (sv := sv) D (β.1, β.2)).1 β.2.2.1 H1 hP 0 (by decide)) (nI_in (c := 0) (N := 1) (by decide) (by decide)) dL_toScan_9 (fun H2 k0 hat hz hq => ?_)
    have hP : BW G cA H0 lo aG aM aO bs sv (β.1, β.2.1, oUp β.2.2.1 (Int32.toInt64 r), β.2.2.2) H2 := (BW_O (H0 := H0) (cA := cA) (sv := sv) D (β.1, β.2)).2.2.1 β.2.2.1 _ H1 H2 0 (by decide) hP hz hq hat (fun j hj hne => absurd (show j = 0 by omega) hne)
    have hL := cx_lL (k0 := k0) hL (show lo ≤ aO by have := D.1; have := D.2.1; have := D.2.2.1; omega)
    refine lv_goto (tgt := 21) hx hb dL_toScan_10 (by decide) ?_
    refine lv_iconst (v := 0) hx hb dL_toScan_21 (by decide) ?_
    exact cx_iret hx hb hr hlocks hP hL dL_toScan_22
abbrev rm_L_rank : Room := { frames := 8, cells := 1, slots := 6, locals := 133 }
theorem hd_L_rank : yL_rank.cls ≠ "java/lang/invoke/MethodHandle" ∧ yL_rank.cls ≠ "java/lang/invoke/VarHandle" ∧ (parseMethodDescriptor yL_rank.desc).map (fun d => d.parameters.length) = some 3 := by decide +kernel
set_option maxHeartbeats 1000000 in
set_option maxRecDepth 100000 in
theorem c_L_rank {l : Launch} (hl0 : l.stackTraces = false) {G : va_G} {cA : Nat → ClassId} {H0 : Heap} {lo aG aM aO : Nat} {bs : List Nat} {sv : Nat → Option Nat} {β : BigS} {z : ZS} (D : Dj lo aG aM aO bs) {N : Nat} {p0 : Int32} {res : Nat ⊕ (Int32)} (hf : f_X8_rank N β.1 p0 = some res) (hk : ∀ k, res = .inl k → k = 1) :
    Met l yL_rank (cWx yL_rank cL_rank 4 (some .int) [(0, 9, 12, 18)]) rm_L_rank (cPW lo z [.ref aG, .int p0, .ref aO] (BW G cA H0 lo aG aM aO bs sv β) G cA) (cQ (some (.int (wCode 1 res))) (BW G cA H0 lo aG aM aO bs sv (wAft β (fun r : Int32 => (β.1, β.2.1, oUp β.2.2.1 (Int32.toInt64 r), β.2.2.2)) res))) 1 6 (fun q => lo ≤ q) := by
  refine wx_met (by decide) (Nat.le_of_ble_eq_true rfl) (fun p e s m args below meth c ls C0 hN htab hZ hX hP hl => ?_)
  have hl : lv_has ls 4 [(0, .ref aG), (1, .int p0), (2, .ref aO)] := hl
  obtain ⟨⟨hx, hb, hml, hown, hts⟩, hr, hlocks, hK⟩ := id C0
  have hL : ∀ q ∈ ([] : List Loc), lo ≤ q.base := fun q h => nomatch h
  refine lv_aload_n hx hb dL_rank_0 rfl (lv_at hl 2 rfl) ?_
  refine lv_iconst (v := 0) hx hb dL_rank_1 (by decide) ?_
  refine lv_aload_n hx hb dL_rank_2 rfl (lv_at hl 0 rfl) ?_
  refine lv_iload_n hx hb dL_rank_3 rfl (lv_at hl 1 rfl) ?_
  refine xx_callV (As := [.int p0]) (rest := [.int 0, .ref aO]) ⟨hx, hb, hml, hown, hts⟩ (c_X8_rank (z := z) hl0 (BW_G (H0 := H0) (cA := cA) (sv := sv) D β) hf) (cwV 1 hts (gV mw_1127 mw_1128 mw_1129 mw_2 mw_1130) rfl rfl rfl hd_X8_rank ⟨Nat.le_of_ble_eq_true rfl, Nat.le_of_ble_eq_true rfl⟩) hK hZ hP rfl (at_GL (BW_G (H0 := H0) (cA := cA) (sv := sv) D β) hP) rfl hl.1 rfl (Nat.le_of_ble_eq_true rfl) dL_rank_4 ⟨Nat.le_of_ble_eq_true rfl, Nat.le_of_ble_eq_true rfl⟩ hL (fun k H1 locs1 q9 ce hres hk3 hPX hL h1 h2 h3 => ?_) (fun r H1 locs1 hres hP hL => ?_)
  · subst hres
    have hk9 := hk k rfl
    subst hk9
    refine vx_catch (E := exN 1) (name := exN 1) hown [] ⟨0, 9, 12, 18⟩ [] (htab.trans rfl) (fun z h => nomatch h) (by decide) (by decide) (hts _ mw_162) (va_Nw.use rfl (hZ.2.2.2.2.2.2.1 1 (by decide))) h1 h2 h3 ?_
    refine lv_astore_n (lv' := [(3, .ref q9), (0, .ref aG), (1, .int p0), (2, .ref aO)]) hx hb dL_rank_12 rfl hl (by decide) rfl (fun ls hl => ?_)
    refine lv_iconst (v := 1) hx hb dL_rank_13 (by decide) ?_
    exact cx_iret hx hb hr hlocks hPX hL dL_rank_14
  · subst hres
    refine lv_i2l hx hb dL_rank_7 rfl ?_
    have hP : BW G cA H0 lo aG aM aO bs sv (β.1, β.2) H1 := hP
    refine cx_last (a := aO) hx hb hK ((BW_O (H0 := H0) (cA := cA) (sv := sv) D (β.1, β.2)).1 β.2.2.1 H1 hP 0 (by decide)) (nI_in (c := 0) (N := 1) (by decide) (by decide)) dL_rank_8 (fun H2 k0 hat hz hq => ?_)
    have hP : BW G cA H0 lo aG aM aO bs sv (β.1, β.2.1, oUp β.2.2.1 (Int32.toInt64 r), β.2.2.2) H2 := (BW_O (H0 := H0) (cA := cA) (sv := sv) D (β.1, β.2)).2.2.1 β.2.2.1 _ H1 H2 0 (by decide) hP hz hq hat (fun j hj hne => absurd (show j = 0 by omega) hne)
    have hL := cx_lL (k0 := k0) hL (show lo ≤ aO by have := D.1; have := D.2.1; have := D.2.2.1; omega)
    refine lv_goto (tgt := 15) hx hb dL_rank_9 (by decide) ?_
    refine lv_iconst (v := 0) hx hb dL_rank_15 (by decide) ?_
    exact cx_iret hx hb hr hlocks hP hL dL_rank_16
abbrev rm_L_between : Room := { frames := 8, cells := 3, slots := 18, locals := 135 }
theorem hd_L_between : yL_between.cls ≠ "java/lang/invoke/MethodHandle" ∧ yL_between.cls ≠ "java/lang/invoke/VarHandle" ∧ (parseMethodDescriptor yL_between.desc).map (fun d => d.parameters.length) = some 5 := by decide +kernel
set_option maxHeartbeats 1000000 in
set_option maxRecDepth 100000 in
theorem c_L_between {l : Launch} (hl0 : l.stackTraces = false) {G : va_G} {cA : Nat → ClassId} {H0 : Heap} {lo aG aM aO : Nat} {bs : List Nat} {sv : Nat → Option Nat} {β : BigS} {z : ZS} (D : Dj lo aG aM aO bs) {N : Nat} {p0 : Int32} {p1 : Int32} {p2 : Int32} {res : Nat ⊕ (Int32)} (hf : f_X8_between N β.1 p0 p1 p2 = some res) (hk : ∀ k, res = .inl k → k = 0 ∨ k = 1) :
    Met l yL_between (cWx yL_between cL_between 6 (some .int) [(0, 12, 15, 27), (0, 12, 19, 18)]) rm_L_between (cPW lo z [.ref aG, .int p0, .int p1, .int p2, .ref aO] (BW G cA H0 lo aG aM aO bs sv β) G cA) (cQ (some (.int (wCode 0 res))) (BW G cA H0 lo aG aM aO bs sv (wAft β (fun r : Int32 => (β.1, β.2.1, oUp β.2.2.1 (Int32.toInt64 r), β.2.2.2)) res))) 3 18 (fun q => lo ≤ q) := by
  refine wx_met (by decide) (Nat.le_of_ble_eq_true rfl) (fun p e s m args below meth c ls C0 hN htab hZ hX hP hl => ?_)
  have hl : lv_has ls 6 [(0, .ref aG), (1, .int p0), (2, .int p1), (3, .int p2), (4, .ref aO)] := hl
  obtain ⟨⟨hx, hb, hml, hown, hts⟩, hr, hlocks, hK⟩ := id C0
  have hL : ∀ q ∈ ([] : List Loc), lo ≤ q.base := fun q h => nomatch h
  refine lv_aload hx hb dL_between_0 (lv_at hl 4 rfl) ?_
  refine lv_iconst (v := 0) hx hb dL_between_2 (by decide) ?_
  refine lv_aload_n hx hb dL_between_3 rfl (lv_at hl 0 rfl) ?_
  refine lv_iload_n hx hb dL_between_4 rfl (lv_at hl 1 rfl) ?_
  refine lv_iload_n hx hb dL_between_5 rfl (lv_at hl 2 rfl) ?_
  refine lv_iload_n hx hb dL_between_6 rfl (lv_at hl 3 rfl) ?_
  refine xx_callV (As := [.int p0, .int p1, .int p2]) (rest := [.int 0, .ref aO]) ⟨hx, hb, hml, hown, hts⟩ (c_X8_between (z := z) hl0 (BW_G (H0 := H0) (cA := cA) (sv := sv) D β) hf) (cwV 3 hts (gV mw_1142 mw_1143 mw_1144 mw_2 mw_1145) rfl rfl rfl hd_X8_between ⟨Nat.le_of_ble_eq_true rfl, Nat.le_of_ble_eq_true rfl⟩) hK hZ hP rfl (at_GL (BW_G (H0 := H0) (cA := cA) (sv := sv) D β) hP) rfl hl.1 rfl (Nat.le_of_ble_eq_true rfl) dL_between_7 ⟨Nat.le_of_ble_eq_true rfl, Nat.le_of_ble_eq_true rfl⟩ hL (fun k H1 locs1 q9 ce hres hk3 hPX hL h1 h2 h3 => ?_) (fun r H1 locs1 hres hP hL => ?_)
  · subst hres
    rcases hk k rfl with rfl | rfl
    · refine vx_catch (E := exN 0) (name := exN 0) hown [] ⟨0, 12, 15, 27⟩ [⟨0, 12, 19, 18⟩] (htab.trans rfl) (fun z h => nomatch h) (by decide) (by decide) (hts _ mw_778) (va_Nw.use rfl (hZ.2.2.2.2.2.2.1 0 (by decide))) h1 h2 h3 ?_
      refine lv_astore (lv' := [(5, .ref q9), (0, .ref aG), (1, .int p0), (2, .int p1), (3, .int p2), (4, .ref aO)]) hx hb dL_between_15 hl (by decide) rfl (fun ls hl => ?_)
      refine lv_iconst (v := 1) hx hb dL_between_17 (by decide) ?_
      exact cx_iret hx hb hr hlocks hPX hL dL_between_18
    · refine vx_catch (E := exN 1) (name := exN 1) hown [⟨0, 12, 15, 27⟩] ⟨0, 12, 19, 18⟩ [] (htab.trans rfl) (fun z h => by rw [List.mem_singleton.mp h]; exact Or.inr ⟨by decide, exN 0, hts _ mw_778, hX 1 0 (by decide) (by decide) (by decide)⟩) (by decide) (by decide) (hts _ mw_162) (va_Nw.use rfl (hZ.2.2.2.2.2.2.1 1 (by decide))) h1 h2 h3 ?_
      refine lv_astore (lv' := [(5, .ref q9), (0, .ref aG), (1, .int p0), (2, .int p1), (3, .int p2), (4, .ref aO)]) hx hb dL_between_19 hl (by decide) rfl (fun ls hl => ?_)
      refine lv_iconst (v := 2) hx hb dL_between_21 (by decide) ?_
      exact cx_iret hx hb hr hlocks hPX hL dL_between_22
  · subst hres
    refine lv_i2l hx hb dL_between_10 rfl ?_
    have hP : BW G cA H0 lo aG aM aO bs sv (β.1, β.2) H1 := hP
    refine cx_last (a := aO) hx hb hK ((BW_O (H0 := H0) (cA := cA) (sv := sv) D (β.1, β.2)).1 β.2.2.1 H1 hP 0 (by decide)) (nI_in (c := 0) (N := 1) (by decide) (by decide)) dL_between_11 (fun H2 k0 hat hz hq => ?_)
    have hP : BW G cA H0 lo aG aM aO bs sv (β.1, β.2.1, oUp β.2.2.1 (Int32.toInt64 r), β.2.2.2) H2 := (BW_O (H0 := H0) (cA := cA) (sv := sv) D (β.1, β.2)).2.2.1 β.2.2.1 _ H1 H2 0 (by decide) hP hz hq hat (fun j hj hne => absurd (show j = 0 by omega) hne)
    have hL := cx_lL (k0 := k0) hL (show lo ≤ aO by have := D.1; have := D.2.1; have := D.2.2.1; omega)
    refine lv_goto (tgt := 23) hx hb dL_between_12 (by decide) ?_
    refine lv_iconst (v := 0) hx hb dL_between_23 (by decide) ?_
    exact cx_iret hx hb hr hlocks hP hL dL_between_24
abbrev rm_L_longest : Room := { frames := 8, cells := 1, slots := 6, locals := 132 }
theorem hd_L_longest : yL_longest.cls ≠ "java/lang/invoke/MethodHandle" ∧ yL_longest.cls ≠ "java/lang/invoke/VarHandle" ∧ (parseMethodDescriptor yL_longest.desc).map (fun d => d.parameters.length) = some 3 := by decide +kernel
set_option maxHeartbeats 1000000 in
set_option maxRecDepth 100000 in
theorem c_L_longest {l : Launch} (hl0 : l.stackTraces = false) {G : va_G} {cA : Nat → ClassId} {H0 : Heap} {lo aG aM aO : Nat} {bs : List Nat} {sv : Nat → Option Nat} {β : BigS} {z : ZS} (D : Dj lo aG aM aO bs) {N : Nat} {p0 : Int32} {res : Nat ⊕ (Int32)} (hf : f_X8_longest N β.1 p0 = some res) (hk : ∀ k, res = .inl k → k = 0) :
    Met l yL_longest (cWx yL_longest cL_longest 4 (some .int) [(0, 9, 12, 27)]) rm_L_longest (cPW lo z [.ref aG, .int p0, .ref aO] (BW G cA H0 lo aG aM aO bs sv β) G cA) (cQ (some (.int (wCode 0 res))) (BW G cA H0 lo aG aM aO bs sv (wAft β (fun r : Int32 => (β.1, β.2.1, oUp β.2.2.1 (Int32.toInt64 r), β.2.2.2)) res))) 1 6 (fun q => lo ≤ q) := by
  refine wx_met (by decide) (Nat.le_of_ble_eq_true rfl) (fun p e s m args below meth c ls C0 hN htab hZ hX hP hl => ?_)
  have hl : lv_has ls 4 [(0, .ref aG), (1, .int p0), (2, .ref aO)] := hl
  obtain ⟨⟨hx, hb, hml, hown, hts⟩, hr, hlocks, hK⟩ := id C0
  have hL : ∀ q ∈ ([] : List Loc), lo ≤ q.base := fun q h => nomatch h
  refine lv_aload_n hx hb dL_longest_0 rfl (lv_at hl 2 rfl) ?_
  refine lv_iconst (v := 0) hx hb dL_longest_1 (by decide) ?_
  refine lv_aload_n hx hb dL_longest_2 rfl (lv_at hl 0 rfl) ?_
  refine lv_iload_n hx hb dL_longest_3 rfl (lv_at hl 1 rfl) ?_
  refine xx_callV (As := [.int p0]) (rest := [.int 0, .ref aO]) ⟨hx, hb, hml, hown, hts⟩ (c_X8_longest (z := z) hl0 (BW_G (H0 := H0) (cA := cA) (sv := sv) D β) hf) (cwV 1 hts (gV mw_1157 mw_1158 mw_1159 mw_2 mw_1160) rfl rfl rfl hd_X8_longest ⟨Nat.le_of_ble_eq_true rfl, Nat.le_of_ble_eq_true rfl⟩) hK hZ hP rfl (at_GL (BW_G (H0 := H0) (cA := cA) (sv := sv) D β) hP) rfl hl.1 rfl (Nat.le_of_ble_eq_true rfl) dL_longest_4 ⟨Nat.le_of_ble_eq_true rfl, Nat.le_of_ble_eq_true rfl⟩ hL (fun k H1 locs1 q9 ce hres hk3 hPX hL h1 h2 h3 => ?_) (fun r H1 locs1 hres hP hL => ?_)
  · subst hres
    have hk9 := hk k rfl
    subst hk9
    refine vx_catch (E := exN 0) (name := exN 0) hown [] ⟨0, 9, 12, 27⟩ [] (htab.trans rfl) (fun z h => nomatch h) (by decide) (by decide) (hts _ mw_778) (va_Nw.use rfl (hZ.2.2.2.2.2.2.1 0 (by decide))) h1 h2 h3 ?_
    refine lv_astore_n (lv' := [(3, .ref q9), (0, .ref aG), (1, .int p0), (2, .ref aO)]) hx hb dL_longest_12 rfl hl (by decide) rfl (fun ls hl => ?_)
    refine lv_iconst (v := 1) hx hb dL_longest_13 (by decide) ?_
    exact cx_iret hx hb hr hlocks hPX hL dL_longest_14
  · subst hres
    refine lv_i2l hx hb dL_longest_7 rfl ?_
    have hP : BW G cA H0 lo aG aM aO bs sv (β.1, β.2) H1 := hP
    refine cx_last (a := aO) hx hb hK ((BW_O (H0 := H0) (cA := cA) (sv := sv) D (β.1, β.2)).1 β.2.2.1 H1 hP 0 (by decide)) (nI_in (c := 0) (N := 1) (by decide) (by decide)) dL_longest_8 (fun H2 k0 hat hz hq => ?_)
    have hP : BW G cA H0 lo aG aM aO bs sv (β.1, β.2.1, oUp β.2.2.1 (Int32.toInt64 r), β.2.2.2) H2 := (BW_O (H0 := H0) (cA := cA) (sv := sv) D (β.1, β.2)).2.2.1 β.2.2.1 _ H1 H2 0 (by decide) hP hz hq hat (fun j hj hne => absurd (show j = 0 by omega) hne)
    have hL := cx_lL (k0 := k0) hL (show lo ≤ aO by have := D.1; have := D.2.1; have := D.2.2.1; omega)
    refine lv_goto (tgt := 15) hx hb dL_longest_9 (by decide) ?_
    refine lv_iconst (v := 0) hx hb dL_longest_15 (by decide) ?_
    exact cx_iret hx hb hr hlocks hP hL dL_longest_16
abbrev rm_L_stale : Room := { frames := 7, cells := 1, slots := 6, locals := 111 }
theorem hd_L_stale : yL_stale.cls ≠ "java/lang/invoke/MethodHandle" ∧ yL_stale.cls ≠ "java/lang/invoke/VarHandle" ∧ (parseMethodDescriptor yL_stale.desc).map (fun d => d.parameters.length) = some 3 := by decide +kernel
set_option maxHeartbeats 1000000 in
set_option maxRecDepth 100000 in
theorem c_L_stale {l : Launch} (hl0 : l.stackTraces = false) {G : va_G} {cA : Nat → ClassId} {H0 : Heap} {lo aG aM aO : Nat} {bs : List Nat} {sv : Nat → Option Nat} {β : BigS} {z : ZS} (D : Dj lo aG aM aO bs) {N : Nat} {p0 : Int32} {res : Nat ⊕ (Int32)} (hf : f_X8_stale N β.1 p0 = some res) (hk : ∀ k, res = .inl k → k = 1) :
    Met l yL_stale (cWx yL_stale cL_stale 4 (some .int) [(0, 9, 12, 18)]) rm_L_stale (cPW lo z [.ref aG, .int p0, .ref aO] (BW G cA H0 lo aG aM aO bs sv β) G cA) (cQ (some (.int (wCode 1 res))) (BW G cA H0 lo aG aM aO bs sv (wAft β (fun r : Int32 => (β.1, β.2.1, oUp β.2.2.1 (Int32.toInt64 r), β.2.2.2)) res))) 1 6 (fun q => lo ≤ q) := by
  refine wx_met (by decide) (Nat.le_of_ble_eq_true rfl) (fun p e s m args below meth c ls C0 hN htab hZ hX hP hl => ?_)
  have hl : lv_has ls 4 [(0, .ref aG), (1, .int p0), (2, .ref aO)] := hl
  obtain ⟨⟨hx, hb, hml, hown, hts⟩, hr, hlocks, hK⟩ := id C0
  have hL : ∀ q ∈ ([] : List Loc), lo ≤ q.base := fun q h => nomatch h
  refine lv_aload_n hx hb dL_stale_0 rfl (lv_at hl 2 rfl) ?_
  refine lv_iconst (v := 0) hx hb dL_stale_1 (by decide) ?_
  refine lv_aload_n hx hb dL_stale_2 rfl (lv_at hl 0 rfl) ?_
  refine lv_iload_n hx hb dL_stale_3 rfl (lv_at hl 1 rfl) ?_
  refine xx_callV (As := [.int p0]) (rest := [.int 0, .ref aO]) ⟨hx, hb, hml, hown, hts⟩ (c_X8_stale (z := z) hl0 (BW_G (H0 := H0) (cA := cA) (sv := sv) D β) hf) (cwV 1 hts (gV mw_1189 mw_1190 mw_1191 mw_2 mw_1192) rfl rfl rfl hd_X8_stale ⟨Nat.le_of_ble_eq_true rfl, Nat.le_of_ble_eq_true rfl⟩) hK hZ hP rfl (at_GL (BW_G (H0 := H0) (cA := cA) (sv := sv) D β) hP) rfl hl.1 rfl (Nat.le_of_ble_eq_true rfl) dL_stale_4 ⟨Nat.le_of_ble_eq_true rfl, Nat.le_of_ble_eq_true rfl⟩ hL (fun k H1 locs1 q9 ce hres hk3 hPX hL h1 h2 h3 => ?_) (fun r H1 locs1 hres hP hL => ?_)
  · subst hres
    have hk9 := hk k rfl
    subst hk9
    refine vx_catch (E := exN 1) (name := exN 1) hown [] ⟨0, 9, 12, 18⟩ [] (htab.trans rfl) (fun z h => nomatch h) (by decide) (by decide) (hts _ mw_162) (va_Nw.use rfl (hZ.2.2.2.2.2.2.1 1 (by decide))) h1 h2 h3 ?_
    refine lv_astore_n (lv' := [(3, .ref q9), (0, .ref aG), (1, .int p0), (2, .ref aO)]) hx hb dL_stale_12 rfl hl (by decide) rfl (fun ls hl => ?_)
    refine lv_iconst (v := 1) hx hb dL_stale_13 (by decide) ?_
    exact cx_iret hx hb hr hlocks hPX hL dL_stale_14
  · subst hres
    refine lv_i2l hx hb dL_stale_7 rfl ?_
    have hP : BW G cA H0 lo aG aM aO bs sv (β.1, β.2) H1 := hP
    refine cx_last (a := aO) hx hb hK ((BW_O (H0 := H0) (cA := cA) (sv := sv) D (β.1, β.2)).1 β.2.2.1 H1 hP 0 (by decide)) (nI_in (c := 0) (N := 1) (by decide) (by decide)) dL_stale_8 (fun H2 k0 hat hz hq => ?_)
    have hP : BW G cA H0 lo aG aM aO bs sv (β.1, β.2.1, oUp β.2.2.1 (Int32.toInt64 r), β.2.2.2) H2 := (BW_O (H0 := H0) (cA := cA) (sv := sv) D (β.1, β.2)).2.2.1 β.2.2.1 _ H1 H2 0 (by decide) hP hz hq hat (fun j hj hne => absurd (show j = 0 by omega) hne)
    have hL := cx_lL (k0 := k0) hL (show lo ≤ aO by have := D.1; have := D.2.1; have := D.2.2.1; omega)
    refine lv_goto (tgt := 15) hx hb dL_stale_9 (by decide) ?_
    refine lv_iconst (v := 0) hx hb dL_stale_15 (by decide) ?_
    exact cx_iret hx hb hr hlocks hP hL dL_stale_16
abbrev rm_L_wouldBe : Room := { frames := 9, cells := 3, slots := 18, locals := 156 }
theorem hd_L_wouldBe : yL_wouldBe.cls ≠ "java/lang/invoke/MethodHandle" ∧ yL_wouldBe.cls ≠ "java/lang/invoke/VarHandle" ∧ (parseMethodDescriptor yL_wouldBe.desc).map (fun d => d.parameters.length) = some 5 := by decide +kernel
set_option maxHeartbeats 1000000 in
set_option maxRecDepth 100000 in
theorem c_L_wouldBe {l : Launch} (hl0 : l.stackTraces = false) {G : va_G} {cA : Nat → ClassId} {H0 : Heap} {lo aG aM aO : Nat} {bs : List Nat} {sv : Nat → Option Nat} {β : BigS} {z : ZS} (D : Dj lo aG aM aO bs) {N : Nat} {p0 : Int32} {p1 : Int32} {p2 : Int32} {res : Nat ⊕ (Int32 × GLS)} (hf : f_X8_wouldBe N β.1 p0 p1 p2 = some res) (hk : ∀ k, res = .inl k → k = 0 ∨ k = 1) :
    Met l yL_wouldBe (cWx yL_wouldBe cL_wouldBe 6 (some .int) [(0, 12, 15, 27), (0, 12, 19, 18)]) rm_L_wouldBe (cPW lo z [.ref aG, .int p0, .int p1, .int p2, .ref aO] (BW G cA H0 lo aG aM aO bs sv β) G cA) (cQ (some (.int (wCode 0 res))) (BW G cA H0 lo aG aM aO bs sv (wAft β (fun r : Int32 × GLS => (r.2, β.2.1, oUp β.2.2.1 (Int32.toInt64 r.1), β.2.2.2)) res))) 3 18 (fun q => lo ≤ q) := by
  refine wx_met (by decide) (Nat.le_of_ble_eq_true rfl) (fun p e s m args below meth c ls C0 hN htab hZ hX hP hl => ?_)
  have hl : lv_has ls 6 [(0, .ref aG), (1, .int p0), (2, .int p1), (3, .int p2), (4, .ref aO)] := hl
  obtain ⟨⟨hx, hb, hml, hown, hts⟩, hr, hlocks, hK⟩ := id C0
  have hL : ∀ q ∈ ([] : List Loc), lo ≤ q.base := fun q h => nomatch h
  refine lv_aload hx hb dL_wouldBe_0 (lv_at hl 4 rfl) ?_
  refine lv_iconst (v := 0) hx hb dL_wouldBe_2 (by decide) ?_
  refine lv_aload_n hx hb dL_wouldBe_3 rfl (lv_at hl 0 rfl) ?_
  refine lv_iload_n hx hb dL_wouldBe_4 rfl (lv_at hl 1 rfl) ?_
  refine lv_iload_n hx hb dL_wouldBe_5 rfl (lv_at hl 2 rfl) ?_
  refine lv_iload_n hx hb dL_wouldBe_6 rfl (lv_at hl 3 rfl) ?_
  refine xx_callV (As := [.int p0, .int p1, .int p2]) (rest := [.int 0, .ref aO]) ⟨hx, hb, hml, hown, hts⟩ (c_X8_wouldBe (z := z) hl0 (BW_G (H0 := H0) (cA := cA) (sv := sv) D β) hf) (cwV 3 hts (gV mw_1204 mw_1205 mw_1206 mw_2 mw_1207) rfl rfl rfl hd_X8_wouldBe ⟨Nat.le_of_ble_eq_true rfl, Nat.le_of_ble_eq_true rfl⟩) hK hZ hP rfl (at_GL (BW_G (H0 := H0) (cA := cA) (sv := sv) D β) hP) rfl hl.1 rfl (Nat.le_of_ble_eq_true rfl) dL_wouldBe_7 ⟨Nat.le_of_ble_eq_true rfl, Nat.le_of_ble_eq_true rfl⟩ hL (fun k H1 locs1 q9 ce hres hk3 hPX hL h1 h2 h3 => ?_) (fun r H1 locs1 hres hP hL => ?_)
  · subst hres
    rcases hk k rfl with rfl | rfl
    · refine vx_catch (E := exN 0) (name := exN 0) hown [] ⟨0, 12, 15, 27⟩ [⟨0, 12, 19, 18⟩] (htab.trans rfl) (fun z h => nomatch h) (by decide) (by decide) (hts _ mw_778) (va_Nw.use rfl (hZ.2.2.2.2.2.2.1 0 (by decide))) h1 h2 h3 ?_
      refine lv_astore (lv' := [(5, .ref q9), (0, .ref aG), (1, .int p0), (2, .int p1), (3, .int p2), (4, .ref aO)]) hx hb dL_wouldBe_15 hl (by decide) rfl (fun ls hl => ?_)
      refine lv_iconst (v := 1) hx hb dL_wouldBe_17 (by decide) ?_
      exact cx_iret hx hb hr hlocks hPX hL dL_wouldBe_18
    · refine vx_catch (E := exN 1) (name := exN 1) hown [⟨0, 12, 15, 27⟩] ⟨0, 12, 19, 18⟩ [] (htab.trans rfl) (fun z h => by rw [List.mem_singleton.mp h]; exact Or.inr ⟨by decide, exN 0, hts _ mw_778, hX 1 0 (by decide) (by decide) (by decide)⟩) (by decide) (by decide) (hts _ mw_162) (va_Nw.use rfl (hZ.2.2.2.2.2.2.1 1 (by decide))) h1 h2 h3 ?_
      refine lv_astore (lv' := [(5, .ref q9), (0, .ref aG), (1, .int p0), (2, .int p1), (3, .int p2), (4, .ref aO)]) hx hb dL_wouldBe_19 hl (by decide) rfl (fun ls hl => ?_)
      refine lv_iconst (v := 2) hx hb dL_wouldBe_21 (by decide) ?_
      exact cx_iret hx hb hr hlocks hPX hL dL_wouldBe_22
  · subst hres
    refine lv_i2l hx hb dL_wouldBe_10 rfl ?_
    have hP : BW G cA H0 lo aG aM aO bs sv (r.2, β.2) H1 := hP
    refine cx_last (a := aO) hx hb hK ((BW_O (H0 := H0) (cA := cA) (sv := sv) D (r.2, β.2)).1 β.2.2.1 H1 hP 0 (by decide)) (nI_in (c := 0) (N := 1) (by decide) (by decide)) dL_wouldBe_11 (fun H2 k0 hat hz hq => ?_)
    have hP : BW G cA H0 lo aG aM aO bs sv (r.2, β.2.1, oUp β.2.2.1 (Int32.toInt64 r.1), β.2.2.2) H2 := (BW_O (H0 := H0) (cA := cA) (sv := sv) D (r.2, β.2)).2.2.1 β.2.2.1 _ H1 H2 0 (by decide) hP hz hq hat (fun j hj hne => absurd (show j = 0 by omega) hne)
    have hL := cx_lL (k0 := k0) hL (show lo ≤ aO by have := D.1; have := D.2.1; have := D.2.2.1; omega)
    refine lv_goto (tgt := 23) hx hb dL_wouldBe_12 (by decide) ?_
    refine lv_iconst (v := 0) hx hb dL_wouldBe_23 (by decide) ?_
    exact cx_iret hx hb hr hlocks hP hL dL_wouldBe_24
abbrev rm_L_ahead : Room := { frames := 10, cells := 5, slots := 30, locals := 181 }
theorem hd_L_ahead : yL_ahead.cls ≠ "java/lang/invoke/MethodHandle" ∧ yL_ahead.cls ≠ "java/lang/invoke/VarHandle" ∧ (parseMethodDescriptor yL_ahead.desc).map (fun d => d.parameters.length) = some 7 := by decide +kernel
set_option maxHeartbeats 1000000 in
set_option maxRecDepth 100000 in
theorem c_L_ahead {l : Launch} (hl0 : l.stackTraces = false) {G : va_G} {cA : Nat → ClassId} {H0 : Heap} {lo aG aM aO : Nat} {bs : List Nat} {sv : Nat → Option Nat} {β : BigS} {z : ZS} (D : Dj lo aG aM aO bs) {N : Nat} {p0 : Int32} {p1 : Int32} {p2 : Int32} {p3 : Int32} {p4 : Int32} {res : Nat ⊕ (Int32 × GLS)} (hf : f_X8_ahead N β.1 p0 p1 p2 p3 p4 = some res) (hk : ∀ k, res = .inl k → k = 0 ∨ k = 1) :
    Met l yL_ahead (cWx yL_ahead cL_ahead 8 (some .int) [(0, 16, 19, 27), (0, 16, 23, 18)]) rm_L_ahead (cPW lo z [.ref aG, .int p0, .int p1, .int p2, .int p3, .int p4, .ref aO] (BW G cA H0 lo aG aM aO bs sv β) G cA) (cQ (some (.int (wCode 0 res))) (BW G cA H0 lo aG aM aO bs sv (wAft β (fun r : Int32 × GLS => (r.2, β.2.1, oUp β.2.2.1 (Int32.toInt64 r.1), β.2.2.2)) res))) 5 30 (fun q => lo ≤ q) := by
  refine wx_met (by decide) (Nat.le_of_ble_eq_true rfl) (fun p e s m args below meth c ls C0 hN htab hZ hX hP hl => ?_)
  have hl : lv_has ls 8 [(0, .ref aG), (1, .int p0), (2, .int p1), (3, .int p2), (4, .int p3), (5, .int p4), (6, .ref aO)] := hl
  obtain ⟨⟨hx, hb, hml, hown, hts⟩, hr, hlocks, hK⟩ := id C0
  have hL : ∀ q ∈ ([] : List Loc), lo ≤ q.base := fun q h => nomatch h
  refine lv_aload hx hb dL_ahead_0 (lv_at hl 6 rfl) ?_
  refine lv_iconst (v := 0) hx hb dL_ahead_2 (by decide) ?_
  refine lv_aload_n hx hb dL_ahead_3 rfl (lv_at hl 0 rfl) ?_
  refine lv_iload_n hx hb dL_ahead_4 rfl (lv_at hl 1 rfl) ?_
  refine lv_iload_n hx hb dL_ahead_5 rfl (lv_at hl 2 rfl) ?_
  refine lv_iload_n hx hb dL_ahead_6 rfl (lv_at hl 3 rfl) ?_
  refine lv_iload hx hb dL_ahead_7 (lv_at hl 4 rfl) ?_
  refine lv_iload hx hb dL_ahead_9 (lv_at hl 5 rfl) ?_
  refine xx_callV (As := [.int p0, .int p1, .int p2, .int p3, .int p4]) (rest := [.int 0, .ref aO]) ⟨hx, hb, hml, hown, hts⟩ (c_X8_ahead (z := z) hl0 (BW_G (H0 := H0) (cA := cA) (sv := sv) D β) hf) (cwV 5 hts (gV mw_1229 mw_1230 mw_1231 mw_2 mw_1232) rfl rfl rfl hd_X8_ahead ⟨Nat.le_of_ble_eq_true rfl, Nat.le_of_ble_eq_true rfl⟩) hK hZ hP rfl (at_GL (BW_G (H0 := H0) (cA := cA) (sv := sv) D β) hP) rfl hl.1 rfl (Nat.le_of_ble_eq_true rfl) dL_ahead_11 ⟨Nat.le_of_ble_eq_true rfl, Nat.le_of_ble_eq_true rfl⟩ hL (fun k H1 locs1 q9 ce hres hk3 hPX hL h1 h2 h3 => ?_) (fun r H1 locs1 hres hP hL => ?_)
  · subst hres
    rcases hk k rfl with rfl | rfl
    · refine vx_catch (E := exN 0) (name := exN 0) hown [] ⟨0, 16, 19, 27⟩ [⟨0, 16, 23, 18⟩] (htab.trans rfl) (fun z h => nomatch h) (by decide) (by decide) (hts _ mw_778) (va_Nw.use rfl (hZ.2.2.2.2.2.2.1 0 (by decide))) h1 h2 h3 ?_
      refine lv_astore (lv' := [(7, .ref q9), (0, .ref aG), (1, .int p0), (2, .int p1), (3, .int p2), (4, .int p3), (5, .int p4), (6, .ref aO)]) hx hb dL_ahead_19 hl (by decide) rfl (fun ls hl => ?_)
      refine lv_iconst (v := 1) hx hb dL_ahead_21 (by decide) ?_
      exact cx_iret hx hb hr hlocks hPX hL dL_ahead_22
    · refine vx_catch (E := exN 1) (name := exN 1) hown [⟨0, 16, 19, 27⟩] ⟨0, 16, 23, 18⟩ [] (htab.trans rfl) (fun z h => by rw [List.mem_singleton.mp h]; exact Or.inr ⟨by decide, exN 0, hts _ mw_778, hX 1 0 (by decide) (by decide) (by decide)⟩) (by decide) (by decide) (hts _ mw_162) (va_Nw.use rfl (hZ.2.2.2.2.2.2.1 1 (by decide))) h1 h2 h3 ?_
      refine lv_astore (lv' := [(7, .ref q9), (0, .ref aG), (1, .int p0), (2, .int p1), (3, .int p2), (4, .int p3), (5, .int p4), (6, .ref aO)]) hx hb dL_ahead_23 hl (by decide) rfl (fun ls hl => ?_)
      refine lv_iconst (v := 2) hx hb dL_ahead_25 (by decide) ?_
      exact cx_iret hx hb hr hlocks hPX hL dL_ahead_26
  · subst hres
    refine lv_i2l hx hb dL_ahead_14 rfl ?_
    have hP : BW G cA H0 lo aG aM aO bs sv (r.2, β.2) H1 := hP
    refine cx_last (a := aO) hx hb hK ((BW_O (H0 := H0) (cA := cA) (sv := sv) D (r.2, β.2)).1 β.2.2.1 H1 hP 0 (by decide)) (nI_in (c := 0) (N := 1) (by decide) (by decide)) dL_ahead_15 (fun H2 k0 hat hz hq => ?_)
    have hP : BW G cA H0 lo aG aM aO bs sv (r.2, β.2.1, oUp β.2.2.1 (Int32.toInt64 r.1), β.2.2.2) H2 := (BW_O (H0 := H0) (cA := cA) (sv := sv) D (r.2, β.2)).2.2.1 β.2.2.1 _ H1 H2 0 (by decide) hP hz hq hat (fun j hj hne => absurd (show j = 0 by omega) hne)
    have hL := cx_lL (k0 := k0) hL (show lo ≤ aO by have := D.1; have := D.2.1; have := D.2.2.1; omega)
    refine lv_goto (tgt := 27) hx hb dL_ahead_16 (by decide) ?_
    refine lv_iconst (v := 0) hx hb dL_ahead_27 (by decide) ?_
    exact cx_iret hx hb hr hlocks hP hL dL_ahead_28
abbrev rm_L_bestLength : Room := { frames := 10, cells := 4, slots := 24, locals := 184 }
theorem hd_L_bestLength : yL_bestLength.cls ≠ "java/lang/invoke/MethodHandle" ∧ yL_bestLength.cls ≠ "java/lang/invoke/VarHandle" ∧ (parseMethodDescriptor yL_bestLength.desc).map (fun d => d.parameters.length) = some 6 := by decide +kernel
set_option maxHeartbeats 1000000 in
set_option maxRecDepth 100000 in
theorem c_L_bestLength {l : Launch} (hl0 : l.stackTraces = false) {G : va_G} {cA : Nat → ClassId} {H0 : Heap} {lo aG aM aO : Nat} {bs : List Nat} {sv : Nat → Option Nat} {β : BigS} {z : ZS} (D : Dj lo aG aM aO bs) {N : Nat} {p0 : Int32} {p1 : Int32} {p2 : Int32} {p3 : Int32} {res : Nat ⊕ (Int32 × GLS)} (hf : f_X8_bestLength N β.1 p0 p1 p2 p3 = some res) (hk : ∀ k, res = .inl k → k = 0 ∨ k = 1) :
    Met l yL_bestLength (cWx yL_bestLength cL_bestLength 7 (some .int) [(0, 14, 17, 27), (0, 14, 21, 18)]) rm_L_bestLength (cPW lo z [.ref aG, .int p0, .int p1, .int p2, .int p3, .ref aO] (BW G cA H0 lo aG aM aO bs sv β) G cA) (cQ (some (.int (wCode 0 res))) (BW G cA H0 lo aG aM aO bs sv (wAft β (fun r : Int32 × GLS => (r.2, β.2.1, oUp β.2.2.1 (Int32.toInt64 r.1), β.2.2.2)) res))) 4 24 (fun q => lo ≤ q) := by
  refine wx_met (by decide) (Nat.le_of_ble_eq_true rfl) (fun p e s m args below meth c ls C0 hN htab hZ hX hP hl => ?_)
  have hl : lv_has ls 7 [(0, .ref aG), (1, .int p0), (2, .int p1), (3, .int p2), (4, .int p3), (5, .ref aO)] := hl
  obtain ⟨⟨hx, hb, hml, hown, hts⟩, hr, hlocks, hK⟩ := id C0
  have hL : ∀ q ∈ ([] : List Loc), lo ≤ q.base := fun q h => nomatch h
  refine lv_aload hx hb dL_bestLength_0 (lv_at hl 5 rfl) ?_
  refine lv_iconst (v := 0) hx hb dL_bestLength_2 (by decide) ?_
  refine lv_aload_n hx hb dL_bestLength_3 rfl (lv_at hl 0 rfl) ?_
  refine lv_iload_n hx hb dL_bestLength_4 rfl (lv_at hl 1 rfl) ?_
  refine lv_iload_n hx hb dL_bestLength_5 rfl (lv_at hl 2 rfl) ?_
  refine lv_iload_n hx hb dL_bestLength_6 rfl (lv_at hl 3 rfl) ?_
  refine lv_iload hx hb dL_bestLength_7 (lv_at hl 4 rfl) ?_
  refine xx_callV (As := [.int p0, .int p1, .int p2, .int p3]) (rest := [.int 0, .ref aO]) ⟨hx, hb, hml, hown, hts⟩ (c_X8_bestLength (z := z) hl0 (BW_G (H0 := H0) (cA := cA) (sv := sv) D β) hf) (cwV 4 hts (gV mw_1266 mw_1267 mw_1268 mw_2 mw_1269) rfl rfl rfl hd_X8_bestLength ⟨Nat.le_of_ble_eq_true rfl, Nat.le_of_ble_eq_true rfl⟩) hK hZ hP rfl (at_GL (BW_G (H0 := H0) (cA := cA) (sv := sv) D β) hP) rfl hl.1 rfl (Nat.le_of_ble_eq_true rfl) dL_bestLength_9 ⟨Nat.le_of_ble_eq_true rfl, Nat.le_of_ble_eq_true rfl⟩ hL (fun k H1 locs1 q9 ce hres hk3 hPX hL h1 h2 h3 => ?_) (fun r H1 locs1 hres hP hL => ?_)
  · subst hres
    rcases hk k rfl with rfl | rfl
    · refine vx_catch (E := exN 0) (name := exN 0) hown [] ⟨0, 14, 17, 27⟩ [⟨0, 14, 21, 18⟩] (htab.trans rfl) (fun z h => nomatch h) (by decide) (by decide) (hts _ mw_778) (va_Nw.use rfl (hZ.2.2.2.2.2.2.1 0 (by decide))) h1 h2 h3 ?_
      refine lv_astore (lv' := [(6, .ref q9), (0, .ref aG), (1, .int p0), (2, .int p1), (3, .int p2), (4, .int p3), (5, .ref aO)]) hx hb dL_bestLength_17 hl (by decide) rfl (fun ls hl => ?_)
      refine lv_iconst (v := 1) hx hb dL_bestLength_19 (by decide) ?_
      exact cx_iret hx hb hr hlocks hPX hL dL_bestLength_20
    · refine vx_catch (E := exN 1) (name := exN 1) hown [⟨0, 14, 17, 27⟩] ⟨0, 14, 21, 18⟩ [] (htab.trans rfl) (fun z h => by rw [List.mem_singleton.mp h]; exact Or.inr ⟨by decide, exN 0, hts _ mw_778, hX 1 0 (by decide) (by decide) (by decide)⟩) (by decide) (by decide) (hts _ mw_162) (va_Nw.use rfl (hZ.2.2.2.2.2.2.1 1 (by decide))) h1 h2 h3 ?_
      refine lv_astore (lv' := [(6, .ref q9), (0, .ref aG), (1, .int p0), (2, .int p1), (3, .int p2), (4, .int p3), (5, .ref aO)]) hx hb dL_bestLength_21 hl (by decide) rfl (fun ls hl => ?_)
      refine lv_iconst (v := 2) hx hb dL_bestLength_23 (by decide) ?_
      exact cx_iret hx hb hr hlocks hPX hL dL_bestLength_24
  · subst hres
    refine lv_i2l hx hb dL_bestLength_12 rfl ?_
    have hP : BW G cA H0 lo aG aM aO bs sv (r.2, β.2) H1 := hP
    refine cx_last (a := aO) hx hb hK ((BW_O (H0 := H0) (cA := cA) (sv := sv) D (r.2, β.2)).1 β.2.2.1 H1 hP 0 (by decide)) (nI_in (c := 0) (N := 1) (by decide) (by decide)) dL_bestLength_13 (fun H2 k0 hat hz hq => ?_)
    have hP : BW G cA H0 lo aG aM aO bs sv (r.2, β.2.1, oUp β.2.2.1 (Int32.toInt64 r.1), β.2.2.2) H2 := (BW_O (H0 := H0) (cA := cA) (sv := sv) D (r.2, β.2)).2.2.1 β.2.2.1 _ H1 H2 0 (by decide) hP hz hq hat (fun j hj hne => absurd (show j = 0 by omega) hne)
    have hL := cx_lL (k0 := k0) hL (show lo ≤ aO by have := D.1; have := D.2.1; have := D.2.2.1; omega)
    refine lv_goto (tgt := 25) hx hb dL_bestLength_14 (by decide) ?_
    refine lv_iconst (v := 0) hx hb dL_bestLength_25 (by decide) ?_
    exact cx_iret hx hb hr hlocks hP hL dL_bestLength_26
abbrev rm_L_show : Room := { frames := 8, cells := 1, slots := 6, locals := 135 }
theorem hd_L_show : yL_show.cls ≠ "java/lang/invoke/MethodHandle" ∧ yL_show.cls ≠ "java/lang/invoke/VarHandle" ∧ (parseMethodDescriptor yL_show.desc).map (fun d => d.parameters.length) = some 3 := by decide +kernel
set_option maxHeartbeats 1000000 in
set_option maxRecDepth 100000 in
theorem c_L_show {l : Launch} (hl0 : l.stackTraces = false) {G : va_G} {cA : Nat → ClassId} {H0 : Heap} {lo aG aM aO : Nat} {bs : List Nat} {sv : Nat → Option Nat} {β : BigS} {z : ZS} (D : Dj lo aG aM aO bs) {N : Nat} {p0 : Int32} {res : Nat ⊕ (Int32 × GLS)} (hf : f_X8_show N β.1 p0 = some res) (hk : ∀ k, res = .inl k → k = 0) :
    Met l yL_show (cWx yL_show cL_show 4 (some .int) [(0, 9, 12, 27)]) rm_L_show (cPW lo z [.ref aG, .int p0, .ref aO] (BW G cA H0 lo aG aM aO bs sv β) G cA) (cQ (some (.int (wCode 0 res))) (BW G cA H0 lo aG aM aO bs sv (wAft β (fun r : Int32 × GLS => (r.2, β.2.1, oUp β.2.2.1 (Int32.toInt64 r.1), β.2.2.2)) res))) 1 6 (fun q => lo ≤ q) := by
  refine wx_met (by decide) (Nat.le_of_ble_eq_true rfl) (fun p e s m args below meth c ls C0 hN htab hZ hX hP hl => ?_)
  have hl : lv_has ls 4 [(0, .ref aG), (1, .int p0), (2, .ref aO)] := hl
  obtain ⟨⟨hx, hb, hml, hown, hts⟩, hr, hlocks, hK⟩ := id C0
  have hL : ∀ q ∈ ([] : List Loc), lo ≤ q.base := fun q h => nomatch h
  refine lv_aload_n hx hb dL_show_0 rfl (lv_at hl 2 rfl) ?_
  refine lv_iconst (v := 0) hx hb dL_show_1 (by decide) ?_
  refine lv_aload_n hx hb dL_show_2 rfl (lv_at hl 0 rfl) ?_
  refine lv_iload_n hx hb dL_show_3 rfl (lv_at hl 1 rfl) ?_
  refine xx_callV (As := [.int p0]) (rest := [.int 0, .ref aO]) ⟨hx, hb, hml, hown, hts⟩ (c_X8_show (z := z) hl0 (BW_G (H0 := H0) (cA := cA) (sv := sv) D β) hf) (cwV 1 hts (gV mw_1277 mw_1278 mw_1279 mw_2 mw_1280) rfl rfl rfl hd_X8_show ⟨Nat.le_of_ble_eq_true rfl, Nat.le_of_ble_eq_true rfl⟩) hK hZ hP rfl (at_GL (BW_G (H0 := H0) (cA := cA) (sv := sv) D β) hP) rfl hl.1 rfl (Nat.le_of_ble_eq_true rfl) dL_show_4 ⟨Nat.le_of_ble_eq_true rfl, Nat.le_of_ble_eq_true rfl⟩ hL (fun k H1 locs1 q9 ce hres hk3 hPX hL h1 h2 h3 => ?_) (fun r H1 locs1 hres hP hL => ?_)
  · subst hres
    have hk9 := hk k rfl
    subst hk9
    refine vx_catch (E := exN 0) (name := exN 0) hown [] ⟨0, 9, 12, 27⟩ [] (htab.trans rfl) (fun z h => nomatch h) (by decide) (by decide) (hts _ mw_778) (va_Nw.use rfl (hZ.2.2.2.2.2.2.1 0 (by decide))) h1 h2 h3 ?_
    refine lv_astore_n (lv' := [(3, .ref q9), (0, .ref aG), (1, .int p0), (2, .ref aO)]) hx hb dL_show_12 rfl hl (by decide) rfl (fun ls hl => ?_)
    refine lv_iconst (v := 1) hx hb dL_show_13 (by decide) ?_
    exact cx_iret hx hb hr hlocks hPX hL dL_show_14
  · subst hres
    refine lv_i2l hx hb dL_show_7 rfl ?_
    have hP : BW G cA H0 lo aG aM aO bs sv (r.2, β.2) H1 := hP
    refine cx_last (a := aO) hx hb hK ((BW_O (H0 := H0) (cA := cA) (sv := sv) D (r.2, β.2)).1 β.2.2.1 H1 hP 0 (by decide)) (nI_in (c := 0) (N := 1) (by decide) (by decide)) dL_show_8 (fun H2 k0 hat hz hq => ?_)
    have hP : BW G cA H0 lo aG aM aO bs sv (r.2, β.2.1, oUp β.2.2.1 (Int32.toInt64 r.1), β.2.2.2) H2 := (BW_O (H0 := H0) (cA := cA) (sv := sv) D (r.2, β.2)).2.2.1 β.2.2.1 _ H1 H2 0 (by decide) hP hz hq hat (fun j hj hne => absurd (show j = 0 by omega) hne)
    have hL := cx_lL (k0 := k0) hL (show lo ≤ aO by have := D.1; have := D.2.1; have := D.2.2.1; omega)
    refine lv_goto (tgt := 15) hx hb dL_show_9 (by decide) ?_
    refine lv_iconst (v := 0) hx hb dL_show_15 (by decide) ?_
    exact cx_iret hx hb hr hlocks hP hL dL_show_16
abbrev rm_L_save : Room := { frames := 7, cells := 25, slots := 1404, locals := 146 }
theorem hd_L_save : yL_save.cls ≠ "java/lang/invoke/MethodHandle" ∧ yL_save.cls ≠ "java/lang/invoke/VarHandle" ∧ (parseMethodDescriptor yL_save.desc).map (fun d => d.parameters.length) = some 2 := by decide +kernel
set_option maxHeartbeats 1000000 in
set_option maxRecDepth 100000 in
theorem c_L_save {l : Launch} (hl0 : l.stackTraces = false) {G : va_G} {cA : Nat → ClassId} {H0 : Heap} {lo aG aM aO : Nat} {bs : List Nat} {ix : Nat → Option Nat} {β : BigS} {z : ZS} (D : Dj lo aG aM aO bs) (hI : IxOk ix bs.length) {N : Nat} {p0 : Int32} {res : Nat ⊕ SavR} (hf : f_X8_save N bs.length ix β.1.2.2.1 β.2.2.2.2 p0 = some res) (hk : ∀ k, res = .inl k → k = 1) :
    Met l yL_save (cWx yL_save cL_save 3 (some .int) [(0, 5, 8, 18)]) rm_L_save (cPW lo z [.ref aG, .int p0] (BW G cA H0 lo aG aM aO bs (svOf ix bs) β) G cA) (cQ (some (.int (wCode 1 res))) (fun H => match res with
    | .inl _ => BW G cA H0 lo aG aM aO bs (svOf ix bs) β H
    | .inr r => ∃ bs2, bs2.length = r.2.1 ∧ Dj lo aG aM aO bs2 ∧ BW G cA H0 lo aG aM aO bs2 (svOf r.1 bs2) (β.1, β.2.1, β.2.2.1, β.2.2.2.1, r.2.2) H)) 25 1404 (fun q => lo ≤ q) := by
  refine wx_met (by decide) (Nat.le_of_ble_eq_true rfl) (fun p e s m args below meth c ls C0 hN htab hZ hX hP hl => ?_)
  have hl : lv_has ls 3 [(0, .ref aG), (1, .int p0)] := hl
  obtain ⟨⟨hx, hb, hml, hown, hts⟩, hr, hlocks, hK⟩ := id C0
  have hL : ∀ q ∈ ([] : List Loc), lo ≤ q.base := fun q h => nomatch h
  refine lv_aload_n hx hb dL_save_0 rfl (lv_at hl 0 rfl) ?_
  refine lv_iload_n hx hb dL_save_1 rfl (lv_at hl 1 rfl) ?_
  refine xn_callV (As := [.int p0]) (rest := []) ⟨hx, hb, hml, hown, hts⟩ (c_X8_save (z := z) (H0 := H0) (cA := cA) (G := G) hl0 D hI hf) (cwV 1 hts (gV mw_1334 mw_1335 mw_1336 mw_2 mw_1337) rfl rfl rfl hd_X8_save ⟨Nat.le_of_ble_eq_true rfl, Nat.le_of_ble_eq_true rfl⟩) hN hZ hP rfl (at_GL (BW_G (H0 := H0) (cA := cA) (sv := svOf ix bs) D β) hP) rfl hl.1 rfl (Nat.le_of_ble_eq_true rfl) dL_save_2 ⟨Nat.le_of_ble_eq_true rfl, Nat.le_of_ble_eq_true rfl⟩ hL (fun k H1 locs1 q9 ce hres hk3 hPX hL h1 h2 h3 => ?_) (fun r H1 locs1 hres hP hL => ?_)
  · subst hres
    have hk9 := hk k rfl
    subst hk9
    refine vx_catch (E := exN 1) (name := exN 1) hown [] ⟨0, 5, 8, 18⟩ [] (htab.trans rfl) (fun z h => nomatch h) (by decide) (by decide) (hts _ mw_162) (va_Nw.use rfl (hZ.2.2.2.2.2.2.1 1 (by decide))) h1 h2 h3 ?_
    refine lv_astore_n (lv' := [(2, .ref q9), (0, .ref aG), (1, .int p0)]) hx hb dL_save_8 rfl hl (by decide) rfl (fun ls hl => ?_)
    refine lv_iconst (v := 1) hx hb dL_save_9 (by decide) ?_
    exact cx_iret hx hb hr hlocks hPX hL dL_save_10
  · subst hres
    refine lv_goto (tgt := 11) hx hb dL_save_5 (by decide) ?_
    refine lv_iconst (v := 0) hx hb dL_save_11 (by decide) ?_
    exact cx_iret hx hb hr hlocks hP hL dL_save_12
abbrev rm_L_restore : Room := { frames := 7, cells := 1, slots := 6, locals := 146 }
theorem hd_L_restore : yL_restore.cls ≠ "java/lang/invoke/MethodHandle" ∧ yL_restore.cls ≠ "java/lang/invoke/VarHandle" ∧ (parseMethodDescriptor yL_restore.desc).map (fun d => d.parameters.length) = some 2 := by decide +kernel
set_option maxHeartbeats 1000000 in
set_option maxRecDepth 100000 in
theorem c_L_restore {l : Launch} (hl0 : l.stackTraces = false) {G : va_G} {cA : Nat → ClassId} {H0 : Heap} {lo aG aM aO : Nat} {bs : List Nat} {ix : Nat → Option Nat} {β : BigS} {z : ZS} (D : Dj lo aG aM aO bs) (hI : IxOk ix bs.length) {N : Nat} {p0 : Int32} {res : Nat ⊕ GLS} (hf : f_X8_restore N ix β.1 β.2.2.2.2 p0 = some res) (hk : ∀ k, res = .inl k → k = 1 ∨ k = 2) :
    Met l yL_restore (cWx yL_restore cL_restore 3 (some .int) [(0, 5, 8, 18), (0, 5, 11, 13)]) rm_L_restore (cPW lo z [.ref aG, .int p0] (BW G cA H0 lo aG aM aO bs (svOf ix bs) β) G cA) (cQ (some (.int (wCode 1 res))) (BW G cA H0 lo aG aM aO bs (svOf ix bs) (wAft β (fun r : GLS => (r, β.2)) res))) 1 6 (fun q => lo ≤ q) := by
  refine wx_met (by decide) (Nat.le_of_ble_eq_true rfl) (fun p e s m args below meth c ls C0 hN htab hZ hX hP hl => ?_)
  have hl : lv_has ls 3 [(0, .ref aG), (1, .int p0)] := hl
  obtain ⟨⟨hx, hb, hml, hown, hts⟩, hr, hlocks, hK⟩ := id C0
  have hL : ∀ q ∈ ([] : List Loc), lo ≤ q.base := fun q h => nomatch h
  refine lv_aload_n hx hb dL_restore_0 rfl (lv_at hl 0 rfl) ?_
  refine lv_iload_n hx hb dL_restore_1 rfl (lv_at hl 1 rfl) ?_
  refine xx_callV (As := [.int p0]) (rest := []) ⟨hx, hb, hml, hown, hts⟩ (c_X8_restore (z := z) (H0 := H0) (cA := cA) (G := G) hl0 D hI hf) (cwV 1 hts (gV mw_1345 mw_1346 mw_1347 mw_2 mw_1348) rfl rfl rfl hd_X8_restore ⟨Nat.le_of_ble_eq_true rfl, Nat.le_of_ble_eq_true rfl⟩) hK hZ hP rfl (at_GL (BW_G (H0 := H0) (cA := cA) (sv := svOf ix bs) D β) hP) rfl hl.1 rfl (Nat.le_of_ble_eq_true rfl) dL_restore_2 ⟨Nat.le_of_ble_eq_true rfl, Nat.le_of_ble_eq_true rfl⟩ hL (fun k H1 locs1 q9 ce hres hk3 hPX hL h1 h2 h3 => ?_) (fun r H1 locs1 hres hP hL => ?_)
  · subst hres
    rcases hk k rfl with rfl | rfl
    · refine vx_catch (E := exN 1) (name := exN 1) hown [] ⟨0, 5, 8, 18⟩ [⟨0, 5, 11, 13⟩] (htab.trans rfl) (fun z h => nomatch h) (by decide) (by decide) (hts _ mw_162) (va_Nw.use rfl (hZ.2.2.2.2.2.2.1 1 (by decide))) h1 h2 h3 ?_
      refine lv_astore_n (lv' := [(2, .ref q9), (0, .ref aG), (1, .int p0)]) hx hb dL_restore_8 rfl hl (by decide) rfl (fun ls hl => ?_)
      refine lv_iconst (v := 1) hx hb dL_restore_9 (by decide) ?_
      exact cx_iret hx hb hr hlocks hPX hL dL_restore_10
    · refine vx_catch (E := exN 2) (name := exN 2) hown [⟨0, 5, 8, 18⟩] ⟨0, 5, 11, 13⟩ [] (htab.trans rfl) (fun z h => by rw [List.mem_singleton.mp h]; exact Or.inr ⟨by decide, exN 1, hts _ mw_162, hX 2 1 (by decide) (by decide) (by decide)⟩) (by decide) (by decide) (hts _ mw_132) (va_Nw.use rfl (hZ.2.2.2.2.2.2.1 2 (by decide))) h1 h2 h3 ?_
      refine lv_astore_n (lv' := [(2, .ref q9), (0, .ref aG), (1, .int p0)]) hx hb dL_restore_11 rfl hl (by decide) rfl (fun ls hl => ?_)
      refine lv_iconst (v := 2) hx hb dL_restore_12 (by decide) ?_
      exact cx_iret hx hb hr hlocks hPX hL dL_restore_13
  · subst hres
    refine lv_goto (tgt := 14) hx hb dL_restore_5 (by decide) ?_
    refine lv_iconst (v := 0) hx hb dL_restore_14 (by decide) ?_
    exact cx_iret hx hb hr hlocks hP hL dL_restore_15
