abbrev ZS : Type := (Nat → Nat) × (Nat → Nat)
def wO (i : Nat) : String := if i < 4 then RX7 else RX9
def wK (i : Nat) : Nat := [89, 95, 97, 99, 125, 131, 133, 145].getD i 0
def wT (i : Nat) : String := ["read", "write", "flush", "to"].getD (i % 4) ""
def wB (i : Nat) : List Int32 := ([[114, 101, 97, 100], [119, 114, 105, 116, 101], [102, 108, 117, 115, 104], [116, 111]] : List (List Int32)).getD (i % 4) []
def sLit (bs : List Int32) (a v : Nat) (A : Nat → Prop) (U : State) (H : Heap) : Prop := va_O "java/lang/String" a A U H ∧ va_OF "java/lang/String" "coder" "B" (.int 0) a A U H ∧ va_OF "java/lang/String" "value" "[B" (.ref v) a A U H ∧ va_T .byte v bs.length (fun j => .int (bs.getD j 0)) A U H
def dcN (k : Nat) : String := if k = 0 then "java/lang/RuntimeException" else if k = 1 then "java/lang/Exception" else "java/lang/Throwable"
def exN (k : Nat) : String := if k = 0 then "java/lang/IndexOutOfBoundsException" else if k = 1 then "java/lang/IllegalArgumentException" else "java/lang/IllegalStateException"
/-- what stands still: the texts, the switch of strings, the tables' words of throws -/
def Zt (lo : Nat) (z : ZS) (U : State) : Prop :=
  (∀ i, i < 8 → vk_R (wO i) (wK i) (wT i) (z.1 i) U ∧ sLit (wB i) (z.1 i) (z.2 i) (fun q => lo ≤ q) U U.heap) ∧
  va_Z "java/lang/String" "COMPACT_STRINGS" "Z" (.int 1) (fun q => lo ≤ q) U U.heap ∧
  va_Zq "jdk/internal/util/Preconditions" "SIOOBE_FORMATTER" "Ljava/util/function/BiFunction;" (fun q => lo ≤ q) U U.heap ∧
  vx_Zq Bundle.tN "UNASSIGNED_STACK" Bundle.steD (fun q => lo ≤ q) U U.heap ∧ vx_Zq Bundle.tN "SUPPRESSED_SENTINEL" Bundle.listD (fun q => lo ≤ q) U U.heap ∧
  ((∃ q, vk_R RX8 50 "the text would be too long" q U) ∧ (∃ q, vk_R RX8 277 "there is no such one" q U) ∧ (∃ q, vk_R RX8 96 "there are as many clients as there may be" q U) ∧ (∃ q, vk_R RX8 280 "out of range" q U) ∧ (∃ q, vk_R RX8 232 "less than 0" q U) ∧ (∃ q, vk_R RX8 271 "no such slot" q U) ∧ (∃ q, vk_R RX8 273 "nothing is saved there" q U)) ∧
  (∀ i, i < 3 → (Cond.castable (exN i) (exN i)).before #[] U = true) ∧ (∀ i, i < 3 → (Cond.declares (Bundle.initS (dcN i))).before #[] U = true)
theorem Zt.go {lo : Nat} {z : ZS} {s U : State} (hW : s.WarmedH U.vm) (hq : ∀ a : Nat, a < s.heap.size → ¬ lo ≤ a → U.heap[a]? = s.heap[a]?) (h : Zt lo z s) : Zt lo z U := by
  obtain ⟨h1, h2, h3, h4, h5, h6, h7, h8⟩ := h
  refine ⟨fun i hi => ?_, (va_Z.moved hW.alike h2).kept hq, (va_Zq.moved hW.alike h3).kept hq, (vx_Zq.moved hW.alike h4).kept hq, (vx_Zq.moved hW.alike h5).kept hq, ?_, fun i hi => va_Nw.warmC hW (h7 i hi), fun i hi => va_Nw.warmD hW (h8 i hi)⟩
  · obtain ⟨a1, a2, a3, a4, a5⟩ := h1 i hi
    exact ⟨vk_R.warm hW a1, (va_O.moved hW.alike a2).kept hq, (va_OF.moved hW.alike a3).kept hq, (va_OF.moved hW.alike a4).kept hq, (va_T.moved hW.alike a5).kept hq⟩
  · obtain ⟨⟨q0, t0⟩, ⟨q1, t1⟩, ⟨q2, t2⟩, ⟨q3, t3⟩, ⟨q4, t4⟩, ⟨q5, t5⟩, ⟨q6, t6⟩⟩ := h6
    exact ⟨⟨q0, vk_R.warm hW t0⟩, ⟨q1, vk_R.warm hW t1⟩, ⟨q2, vk_R.warm hW t2⟩, ⟨q3, vk_R.warm hW t3⟩, ⟨q4, vk_R.warm hW t4⟩, ⟨q5, vk_R.warm hW t5⟩, ⟨q6, vk_R.warm hW t6⟩⟩
theorem Zt.eq {lo : Nat} {z : ZS} {s U : State} (hv : U.vm = s.vm) (hh : U.heap = s.heap) (h : Zt lo z s) : Zt lo z U := by
  obtain ⟨h1, h2, h3, h4, h5, h6, h7, h8⟩ := h
  have hA : s.vm.Alike U.vm := by rw [hv]; exact Vm.Alike.refl s.vm
  have hq : ∀ a : Nat, a < s.heap.size → ¬ lo ≤ a → U.heap[a]? = s.heap[a]? := fun a _ _ => by rw [hh]
  refine ⟨fun i hi => ?_, (va_Z.moved hA h2).kept hq, (va_Zq.moved hA h3).kept hq, (vx_Zq.moved hA h4).kept hq, (vx_Zq.moved hA h5).kept hq, ?_, fun i hi => va_tabs rfl hv.symm (h7 i hi), fun i hi => va_tabs rfl hv.symm (h8 i hi)⟩
  · obtain ⟨a1, a2, a3, a4, a5⟩ := h1 i hi
    exact ⟨vk_R.same hv a1, (va_O.moved hA a2).kept hq, (va_OF.moved hA a3).kept hq, (va_OF.moved hA a4).kept hq, (va_T.moved hA a5).kept hq⟩
  · obtain ⟨⟨q0, t0⟩, ⟨q1, t1⟩, ⟨q2, t2⟩, ⟨q3, t3⟩, ⟨q4, t4⟩, ⟨q5, t5⟩, ⟨q6, t6⟩⟩ := h6
    exact ⟨⟨q0, vk_R.same hv t0⟩, ⟨q1, vk_R.same hv t1⟩, ⟨q2, vk_R.same hv t2⟩, ⟨q3, vk_R.same hv t3⟩, ⟨q4, vk_R.same hv t4⟩, ⟨q5, vk_R.same hv t5⟩, ⟨q6, vk_R.same hv t6⟩⟩
theorem gSx {own : String} {idx : Nat} {y : MethodName} {b : ByteArray} {n : Nat} {r : Option FieldType} (h1 : Cond.methodLink own idx y ∈ WL) (h2 : Cond.static y ∈ WL) (h4 : Cond.initialized y.cls ∈ WL) (h : Cond.code y b n r ∈ WL) : GoodIn WL (va_wsS own idx y (cW y b n r)) := by
  refine goodIn_app (fun w hw => ?_) (gW h)
  have h5 : w ∈ WL := by
    rcases List.mem_cons.mp hw with rfl | hw
    · exact h1
    rcases List.mem_cons.mp hw with rfl | hw
    · exact h2
    rcases List.mem_cons.mp hw with rfl | hw
    · exact h4
    exact absurd hw List.not_mem_nil
  exact ⟨h5, WL_good w h5⟩
def cPZ (lo : Nat) (z : ZS) (av : List Value) (PH : Heap → Prop) (G : va_G) (cA : Nat → ClassId) : Array Value → State → Prop := va_Pc av (fun U => PH U.heap ∧ cK G cA U ∧ Zt lo z U)
theorem cPZ_blind {lo : Nat} {z : ZS} {av : List Value} {PH : Heap → Prop} {G : va_G} {cA : Nat → ClassId} : FrameBlind (cPZ lo z av PH G cA) := fun a U g mk q => by
  obtain ⟨q0, q1, q2, q3⟩ := q
  exact ⟨q0, q1, va_K.moved (u := U) (U := U.calling g mk a) (Vm.Alike.refl U.vm) q2, Zt.eq (s := U) (U := U.calling g mk a) rfl rfl q3⟩
theorem cPZ_preS {lo : Nat} {z : ZS} {s : State} {H : Heap} {As : List Value} {PH : Heap → Prop} {G : va_G} {cA : Nat → ClassId} {locs : List Loc} (hK : cK G cA s) (hZ : Zt lo z s) (hS : va_S (fun q => lo ≤ q) s.heap H locs) (hP : PH H) : PreS s H (cPZ lo z As PH G cA) As :=
  ⟨cPZ_blind, fun U hU hW => ⟨rfl, by rw [hU]; exact hP, va_K.moved hW.alike hK, Zt.go hW (by rw [hU]; exact hS.2.1) hZ⟩⟩
theorem cPZ_preV {lo : Nat} {z : ZS} {s : State} {H : Heap} {As : List Value} {PH : Heap → Prop} {G : va_G} {cA : Nat → ClassId} {locs : List Loc} {C : String} {T : u_T} {N ci b : Nat} {fs : List Value} (hK : cK G cA s) (hZ : Zt lo z s) (hS : va_S (fun q => lo ≤ q) s.heap H locs) (hP : PH H) (hc : vwCl[ci]? = some (C, T, N)) (hat : va_at G vwCl (b, .inr (ci, fs)) H) : PreV s H C b (cPZ lo z (.ref b :: As) PH G cA) As := by
  refine ⟨cPZ_blind, ?_, fun U hU hW => ⟨rfl, by rw [hU]; exact hP, va_K.moved hW.alike hK, Zt.go hW (by rw [hU]; exact hS.2.1) hZ⟩⟩
  exact va_recv hK (cx_one hat) hc (q0 := 0) rfl
theorem cPZ_preT {lo : Nat} {z : ZS} {s : State} {H : Heap} {As : List Value} {PH : Heap → Prop} {G : va_G} {cA : Nat → ClassId} {locs : List Loc} {i : Nat} (hi : i < 8) (hK : cK G cA s) (hZ : Zt lo z s) (hS : va_S (fun q => lo ≤ q) s.heap H locs) (hP : PH H) : PreV s H "java/lang/String" (z.1 i) (cPZ lo z (.ref (z.1 i) :: As) PH G cA) As := by
  refine ⟨cPZ_blind, ?_, fun U hU hW => ⟨rfl, by rw [hU]; exact hP, va_K.moved hW.alike hK, Zt.go hW (by rw [hU]; exact hS.2.1) hZ⟩⟩
  obtain ⟨cell, h1, h2, h3, -⟩ := (hZ.1 i hi).2.1.kept hS.2.1
  exact ⟨cell, h1, h2, h3⟩
theorem cx_metZ {l : Launch} {y : MethodName} {rm : Room} {av : List Value} {PH : Heap → Prop} {G : va_G} {cA : Nat → ClassId} {z : ZS} {Qc : Array Value → State → Outcome → State → Prop} {mc ms lo : Nat} {cc : ByteArray} {maxL : Nat} {ret : Option FieldType} (hy : plainName y.cls = true) (hlen : (lg_sl av).length ≤ maxL)
    (body : ∀ (p : Program) (e : Env) (s : State) (m : MethodId) (args : Array Value) (below : List Frame) (meth : Method) (c : Code) (ls : Array Slot), cB p s m args meth c y.cls cc maxL ret G cA → Zt lo z s → PH s.heap → lv_has ls maxL (lv_args 0 av) →
      W p l e rm s m args below meth c s.heap [] 0 0 (MQ below Qc args s mc ms (fun q => lo ≤ q)) (F0 m 0 ls [])) : Met l y (cW y cc maxL ret) rm (cPZ lo z av PH G cA) Qc mc ms (fun q => lo ≤ q) := by
  refine Met.ofW (cc := cc) (maxL := maxL) (ret := ret) hy rfl ?_
  intro p e s m args below meth c s₁ B hml hv
  obtain ⟨rfl, hP, hK, hZ⟩ := hv
  have hts := atoms_spec (ws := cW y cc maxL ret) B.pre
  have hl := lv_entry av (n := maxL) hlen
  rw [lg_entry_eq]
  exact body p e s m _ below meth c _ ⟨⟨B.exec, B.bytes, hml, findClass_of_methodNamed B.named, fun w hw => hts w (List.mem_cons_of_mem _ hw)⟩, B.returns, B.notSynchronized, hK⟩ hZ hP hl
section CXZ
variable {p : Program} {l : Launch} {e : Env} {R : Room} {s : State} {m : MethodId} {args : Array Value} {below : List Frame} {meth : Method} {c : Code} {H : Heap} {locs : List Loc} {cells slots : Nat} {Q : State → Prop}
variable {cc : ByteArray} {pc : Nat} {ls : Array Slot} {rest st0 : List Value} {G : va_G} {cA : Nat → ClassId} {z : ZS} {lo mc ms : Nat} {PH PH1 : Heap → Prop} {v : Option Value} {nL n index : Nat} {own C : String} {y : MethodName} {bytes : ByteArray} {maxL : Nat} {ret : Option FieldType} {rm : Room}
theorem cz_S {g : JFrame} (hL : ∀ q ∈ locs, lo ≤ q.base) (k : va_S (fun q => lo ≤ q) s.heap H locs → W p l e R s m args below meth c H locs cells slots Q g) : W p l e R s m args below meth c H locs cells slots Q g := fun T hT X => by
  obtain ⟨h1, h2⟩ := vx_frame (s := s) (U := T) X.same
  refine k ⟨by rw [← hT]; exact h1, fun q hq hA => by rw [← hT]; exact h2 q hq (fun y hy e => hA (by rw [← e]; exact hL y hy)), hL⟩ T hT X
theorem cx_callVZ (As : List Value) (rest : List Value) {ws : List Cond} {T : u_T} {N ci b : Nat} {fs : List Value} (S : CallFix p m c cc nL s args WL own) (hM : Met l y ws rm (cPZ lo z (.ref b :: As) PH G cA) (cQ v PH1) mc ms (fun q => lo ≤ q)) (cw : CallW R s args own C index y bytes maxL ret ws rm mc ms n) (hK : cK G cA s) (hZ : Zt lo z s) (hP : PH H) (hc : vwCl[ci]? = some (C, T, N)) (hat : va_at G vwCl (b, .inr (ci, fs)) H) (hn : As.length = n) (hsize : ls.size = nL) (hst : st0 = As.reverse ++ .ref b :: rest) (hW : (rest.map fun v => v.category).sum ≤ 8) (hdg : decode cc pc = .ok (.invokevirtual index, 3)) (hf : cells + mc ≤ R.cells ∧ slots + ms ≤ R.slots) (hL : ∀ q ∈ locs, lo ≤ q.base)
    (kk : ∀ (H1 : Heap) (locs1 : List Loc), PH1 H1 → (∀ q ∈ locs1, lo ≤ q.base) → W p l e R s m args below meth c H1 locs1 (cells + mc) (slots + ms) Q (F0 m (pc + 3) ls (v.toList ++ rest))) : W p l e R s m args below meth c H locs cells slots Q (F0 m pc ls st0) := by
  subst hst
  exact cz_S hL (fun hS => cx_call (va_runV (As := As) (rest := rest) S hM cw (cPZ_preV hK hZ hS hP hc hat) rfl hn hsize rfl (lv_room hW) hdg hf) hL kk)
theorem cx_callStr (As : List Value) (rest : List Value) {ws : List Cond} {i : Nat} (S : CallFix p m c cc nL s args WL own) (hM : Met l y ws rm (cPZ lo z (.ref (z.1 i) :: As) PH G cA) (cQ v PH1) mc ms (fun q => lo ≤ q)) (cw : CallW R s args own "java/lang/String" index y bytes maxL ret ws rm mc ms n) (hK : cK G cA s) (hZ : Zt lo z s) (hi : i < 8) (hP : PH H) (hn : As.length = n) (hsize : ls.size = nL) (hst : st0 = As.reverse ++ .ref (z.1 i) :: rest) (hW : (rest.map fun v => v.category).sum ≤ 8) (hdg : decode cc pc = .ok (.invokevirtual index, 3)) (hf : cells + mc ≤ R.cells ∧ slots + ms ≤ R.slots) (hL : ∀ q ∈ locs, lo ≤ q.base)
    (kk : ∀ (H1 : Heap) (locs1 : List Loc), PH1 H1 → (∀ q ∈ locs1, lo ≤ q.base) → W p l e R s m args below meth c H1 locs1 (cells + mc) (slots + ms) Q (F0 m (pc + 3) ls (v.toList ++ rest))) : W p l e R s m args below meth c H locs cells slots Q (F0 m pc ls st0) := by
  subst hst
  exact cz_S hL (fun hS => cx_call (va_runV (As := As) (rest := rest) S hM cw (cPZ_preT hi hK hZ hS hP) rfl hn hsize rfl (lv_room hW) hdg hf) hL kk)
theorem cx_callSZ (As : List Value) (rest : List Value) {ws : List Cond} (S : CallFix p m c cc nL s args WL own) (hM : Met l y ws rm (cPZ lo z As PH G cA) (cQ v PH1) mc ms (fun q => lo ≤ q)) (cw : CallB R s args own index y bytes maxL ret ws rm mc ms n ∧ (Cond.static y).before args s = true) (hK : cK G cA s) (hZ : Zt lo z s) (hP : PH H) (hn : As.length = n) (hsize : ls.size = nL) (hst : st0 = As.reverse ++ rest) (hW : (rest.map fun v => v.category).sum ≤ 8) (hdg : decode cc pc = .ok (.invokestatic index, 3)) (hf : cells + mc ≤ R.cells ∧ slots + ms ≤ R.slots) (hL : ∀ q ∈ locs, lo ≤ q.base)
    (kk : ∀ (H1 : Heap) (locs1 : List Loc), PH1 H1 → (∀ q ∈ locs1, lo ≤ q.base) → W p l e R s m args below meth c H1 locs1 (cells + mc) (slots + ms) Q (F0 m (pc + 3) ls (v.toList ++ rest))) : W p l e R s m args below meth c H locs cells slots Q (F0 m pc ls st0) := by
  subst hst
  exact cz_S hL (fun hS => cx_call (va_runS (As := As) (rest := rest) S hM cw (cPZ_preS hK hZ hS hP) rfl hn hsize rfl (lv_room hW) hdg hf) hL kk)
theorem cx_nret {x : Int32} {ty : FieldType} (hexec : p.tables.exec = Jvm.exec) (hb : c.code = cc) (hr : meth.sig.returnType = some ty) (hlocks : meth.locks = false) (hn : narrow ty (.int x) = .int x) (hP : PH H) (hL : ∀ q ∈ locs, lo ≤ q.base) (hdg : decode cc pc = .ok (.ireturn, 1)) : W p l e R s m args below meth c H locs cells slots (MQ below (cQ (some (.int x)) PH) args s cells slots (fun q => lo ≤ q)) (F0 m pc ls [.int x]) :=
  W.zret hexec hb hr hn (fun t ht _ => ⟨rfl, by rw [ht]; exact hP⟩) hL hdg hlocks
end CXZ
theorem wB_len : ∀ i, i < 8 → (wB i).length ≤ 5 ∧ Int32.ofNat (wB i).length >>> ((0 : Int32) &&& 31) = Int32.ofNat (wB i).length := by decide
theorem wB_ch : ∀ i, i < 8 → ∀ j, j < 5 → (((wB i).getD j 0 &&& 255).toUInt32 % 65536).toInt32 = (wB i).getD j 0 := by decide
theorem wB_nar : ∀ i, i < 8 → ∀ j, j < 5 → narrow .char (.int ((wB i).getD j 0)) = .int ((wB i).getD j 0) := by
  intro i hi j hj
  rcases (show i = 0 ∨ i = 1 ∨ i = 2 ∨ i = 3 ∨ i = 4 ∨ i = 5 ∨ i = 6 ∨ i = 7 by omega) with rfl | rfl | rfl | rfl | rfl | rfl | rfl | rfl <;> rcases (show j = 0 ∨ j = 1 ∨ j = 2 ∨ j = 3 ∨ j = 4 by omega) with rfl | rfl | rfl | rfl | rfl <;> rfl
abbrev rm_J0_coder_7d493 : Room := { frames := 0, cells := 0, slots := 0, locals := 0 }
theorem hd_J0_coder_7d493 : yJ0_coder_7d493.cls = RJ0 ∧ yJ0_coder_7d493.cls ≠ "java/lang/invoke/MethodHandle" ∧ yJ0_coder_7d493.cls ≠ "java/lang/invoke/VarHandle" ∧ (parseMethodDescriptor yJ0_coder_7d493.desc).map (fun d => d.parameters.length) = some 0 := by decide +kernel
set_option maxHeartbeats 4000000 in
set_option maxRecDepth 100000 in
theorem c_J0_coder_7d493 {l : Launch} {G : va_G} {cA : Nat → ClassId} {lo : Nat} {z : ZS} {PH : Heap → Prop} {i : Nat} (hi : i < 8) : Met l yJ0_coder_7d493 (cW yJ0_coder_7d493 cJ0_coder_7d493 1 (some .byte)) rm_J0_coder_7d493 (cPZ lo z [.ref (z.1 i)] PH G cA) (cQ (some (.int 0)) PH) 0 0 (fun q => lo ≤ q) := by
  refine cx_metZ (by decide) (Nat.le_of_ble_eq_true rfl) (fun p e s m args below meth c ls C0 hZ hP hl => ?_)
  have hl : lv_has ls 1 [(0, .ref (z.1 i))] := hl
  obtain ⟨⟨hx, hb, hml, hown, hts⟩, hr, hlocks, hK⟩ := id C0
  have hL : ∀ q ∈ ([] : List Loc), lo ≤ q.base := fun q h => nomatch h
  refine cz_S hL (fun hS => va_gets hx hb hZ.2.1 hS hown (hts _ mw_227) (fun _ h => h) dJ0_coder_7d493_0 ?_)
  refine lv_if_eq (tgt := 13) hx hb dJ0_coder_7d493_3 (by decide) (fun q => absurd q (by decide)) (fun _ => ?_)
  refine lv_aload_n hx hb dJ0_coder_7d493_6 rfl (lv_at hl 0 rfl) ?_
  refine cz_S hL (fun hS => vk_getf hx hb (hZ.1 i hi).2.2.1 hS hown (hts _ mw_228) (fun _ h => h) dJ0_coder_7d493_7 ?_)
  refine lv_goto (tgt := 14) hx hb dJ0_coder_7d493_10 (by decide) ?_
  exact cx_nret hx hb hr hlocks rfl hP hL dJ0_coder_7d493_14
abbrev rm_J0_isLatin1_aae02 : Room := { frames := 0, cells := 0, slots := 0, locals := 0 }
theorem hd_J0_isLatin1_aae02 : yJ0_isLatin1_aae02.cls = RJ0 ∧ yJ0_isLatin1_aae02.cls ≠ "java/lang/invoke/MethodHandle" ∧ yJ0_isLatin1_aae02.cls ≠ "java/lang/invoke/VarHandle" ∧ (parseMethodDescriptor yJ0_isLatin1_aae02.desc).map (fun d => d.parameters.length) = some 0 := by decide +kernel
set_option maxHeartbeats 4000000 in
set_option maxRecDepth 100000 in
theorem c_J0_isLatin1_aae02 {l : Launch} {G : va_G} {cA : Nat → ClassId} {lo : Nat} {z : ZS} {PH : Heap → Prop} {i : Nat} (hi : i < 8) : Met l yJ0_isLatin1_aae02 (cW yJ0_isLatin1_aae02 cJ0_isLatin1_aae02 1 (some .boolean)) rm_J0_isLatin1_aae02 (cPZ lo z [.ref (z.1 i)] PH G cA) (cQ (some (.int 1)) PH) 0 0 (fun q => lo ≤ q) := by
  refine cx_metZ (by decide) (Nat.le_of_ble_eq_true rfl) (fun p e s m args below meth c ls C0 hZ hP hl => ?_)
  have hl : lv_has ls 1 [(0, .ref (z.1 i))] := hl
  obtain ⟨⟨hx, hb, hml, hown, hts⟩, hr, hlocks, hK⟩ := id C0
  have hL : ∀ q ∈ ([] : List Loc), lo ≤ q.base := fun q h => nomatch h
  refine cz_S hL (fun hS => va_gets hx hb hZ.2.1 hS hown (hts _ mw_227) (fun _ h => h) dJ0_isLatin1_aae02_0 ?_)
  refine lv_if_eq (tgt := 17) hx hb dJ0_isLatin1_aae02_3 (by decide) (fun q => absurd q (by decide)) (fun _ => ?_)
  refine lv_aload_n hx hb dJ0_isLatin1_aae02_6 rfl (lv_at hl 0 rfl) ?_
  refine cz_S hL (fun hS => vk_getf hx hb (hZ.1 i hi).2.2.1 hS hown (hts _ mw_228) (fun _ h => h) dJ0_isLatin1_aae02_7 ?_)
  refine lv_if_ne (tgt := 17) hx hb dJ0_isLatin1_aae02_10 (by decide) (fun q => absurd rfl q) (fun _ => ?_)
  refine lv_iconst (v := 1) hx hb dJ0_isLatin1_aae02_13 (by decide) ?_
  refine lv_goto (tgt := 18) hx hb dJ0_isLatin1_aae02_14 (by decide) ?_
  exact cx_nret hx hb hr hlocks rfl hP hL dJ0_isLatin1_aae02_18
def f_J0_length_8abf5 (i : Nat) : Option Int32 := some (Int32.ofNat (wB i).length)
abbrev rm_J0_length_8abf5 : Room := { frames := 1, cells := 0, slots := 0, locals := 20 }
theorem hd_J0_length_8abf5 : yJ0_length_8abf5.cls = RJ0 ∧ yJ0_length_8abf5.cls ≠ "java/lang/invoke/MethodHandle" ∧ yJ0_length_8abf5.cls ≠ "java/lang/invoke/VarHandle" ∧ (parseMethodDescriptor yJ0_length_8abf5.desc).map (fun d => d.parameters.length) = some 0 := by decide +kernel
set_option maxHeartbeats 4000000 in
set_option maxRecDepth 100000 in
theorem c_J0_length_8abf5 {l : Launch} {G : va_G} {cA : Nat → ClassId} {lo : Nat} {z : ZS} {PH : Heap → Prop} {i : Nat} (hi : i < 8) {res : Int32} (hf : f_J0_length_8abf5 i = some res) : Met l yJ0_length_8abf5 (cW yJ0_length_8abf5 cJ0_length_8abf5 1 (some .int)) rm_J0_length_8abf5 (cPZ lo z [.ref (z.1 i)] PH G cA) (cQ (some (.int res)) PH) 0 0 (fun q => lo ≤ q) := by
  refine cx_metZ (by decide) (Nat.le_of_ble_eq_true rfl) (fun p e s m args below meth c ls C0 hZ hP hl => ?_)
  have hl : lv_has ls 1 [(0, .ref (z.1 i))] := hl
  obtain ⟨⟨hx, hb, hml, hown, hts⟩, hr, hlocks, hK⟩ := id C0
  have hL : ∀ q ∈ ([] : List Loc), lo ≤ q.base := fun q h => nomatch h
  cases hf
  refine lv_aload_n hx hb dJ0_length_8abf5_0 rfl (lv_at hl 0 rfl) ?_
  refine cz_S hL (fun hS => vk_getf hx hb (hZ.1 i hi).2.2.2.1 hS hown (hts _ mw_222) (fun _ h => h) dJ0_length_8abf5_1 ?_)
  refine cz_S hL (fun hS => va_tlen (v := Int32.ofNat (wB i).length) hx hb (hZ.1 i hi).2.2.2.2 hS rfl dJ0_length_8abf5_4 ?_)
  refine lv_aload_n hx hb dJ0_length_8abf5_5 rfl (lv_at hl 0 rfl) ?_
  refine cx_callStr (As := []) (rest := [.int (Int32.ofNat (wB i).length)]) ⟨hx, hb, hml, hown, hts⟩ (c_J0_coder_7d493 hi) (cwV 0 hts (gV mw_223 mw_224 mw_225 mw_220 mw_226) rfl rfl rfl hd_J0_coder_7d493 ⟨Nat.le_of_ble_eq_true rfl, Nat.le_of_ble_eq_true rfl⟩) hK hZ hi hP rfl hl.1 rfl (Nat.le_of_ble_eq_true rfl) dJ0_length_8abf5_6 ⟨Nat.zero_le _, Nat.zero_le _⟩ hL (fun H locs hP hL => ?_)
  refine lv_ishr hx hb dJ0_length_8abf5_9 ?_
  rw [(wB_len i hi).2]
  exact cx_iret hx hb hr hlocks hP hL dJ0_length_8abf5_10
abbrev rm_J3_checkIndex_8e157 : Room := { frames := 0, cells := 0, slots := 0, locals := 0 }
theorem hd_J3_checkIndex_8e157 : yJ3_checkIndex_8e157.cls = RJ3 ∧ yJ3_checkIndex_8e157.cls ≠ "java/lang/invoke/MethodHandle" ∧ yJ3_checkIndex_8e157.cls ≠ "java/lang/invoke/VarHandle" ∧ (parseMethodDescriptor yJ3_checkIndex_8e157.desc).map (fun d => d.parameters.length) = some 3 := by decide +kernel
set_option maxHeartbeats 4000000 in
set_option maxRecDepth 100000 in
theorem c_J3_checkIndex_8e157 {l : Launch} {G : va_G} {cA : Nat → ClassId} {lo : Nat} {PH : Heap → Prop} {t : Nat} {k n : Int32} (h0 : ¬ k < 0) (h1 : k < n) : Met l yJ3_checkIndex_8e157 (cW yJ3_checkIndex_8e157 cJ3_checkIndex_8e157 3 (some .int)) rm_J3_checkIndex_8e157 (cP [.int k, .int n, .ref t] PH G cA) (cQ (some (.int k)) PH) 0 0 (fun q => lo ≤ q) := by
  refine cx_met (by decide) (Nat.le_of_ble_eq_true rfl) (fun p e s m args below meth c ls C0 hP hl => ?_)
  have hl : lv_has ls 3 [(0, .int k), (1, .int n), (2, .ref t)] := hl
  obtain ⟨⟨hx, hb, hml, hown, hts⟩, hr, hlocks, hK⟩ := id C0
  have hL : ∀ q ∈ ([] : List Loc), lo ≤ q.base := fun q h => nomatch h
  refine lv_iload_n hx hb dJ3_checkIndex_8e157_0 rfl (lv_at hl 0 rfl) ?_
  refine lv_if_lt (tgt := 9) hx hb dJ3_checkIndex_8e157_1 (by decide) (fun q => absurd q h0) (fun _ => ?_)
  refine lv_iload_n hx hb dJ3_checkIndex_8e157_4 rfl (lv_at hl 0 rfl) ?_
  refine lv_iload_n hx hb dJ3_checkIndex_8e157_5 rfl (lv_at hl 1 rfl) ?_
  refine lv_icmp_lt (tgt := 16) hx hb dJ3_checkIndex_8e157_6 (by decide) (fun _ => ?_) (fun q => absurd h1 q)
  refine lv_iload_n hx hb dJ3_checkIndex_8e157_16 rfl (lv_at hl 0 rfl) ?_
  exact cx_iret hx hb hr hlocks hP hL dJ3_checkIndex_8e157_17
abbrev rm_J3_checkIndex_8e157N : Room := { frames := 0, cells := 0, slots := 0, locals := 0 }
set_option maxHeartbeats 4000000 in
set_option maxRecDepth 100000 in
theorem c_J3_checkIndex_8e157N {l : Launch} {G : va_G} {cA : Nat → ClassId} {lo : Nat} {PH : Heap → Prop} {k n : Int32} (h0 : ¬ k < 0) (h1 : k < n) : Met l yJ3_checkIndex_8e157 (cW yJ3_checkIndex_8e157 cJ3_checkIndex_8e157 3 (some .int)) rm_J3_checkIndex_8e157N (cP [.int k, .int n, .null] PH G cA) (cQ (some (.int k)) PH) 0 0 (fun q => lo ≤ q) := by
  refine cx_met (by decide) (Nat.le_of_ble_eq_true rfl) (fun p e s m args below meth c ls C0 hP hl => ?_)
  have hl : lv_has ls 3 [(0, .int k), (1, .int n), (2, .null)] := hl
  obtain ⟨⟨hx, hb, hml, hown, hts⟩, hr, hlocks, hK⟩ := id C0
  have hL : ∀ q ∈ ([] : List Loc), lo ≤ q.base := fun q h => nomatch h
  refine lv_iload_n hx hb dJ3_checkIndex_8e157_0 rfl (lv_at hl 0 rfl) ?_
  refine lv_if_lt (tgt := 9) hx hb dJ3_checkIndex_8e157_1 (by decide) (fun q => absurd q h0) (fun _ => ?_)
  refine lv_iload_n hx hb dJ3_checkIndex_8e157_4 rfl (lv_at hl 0 rfl) ?_
  refine lv_iload_n hx hb dJ3_checkIndex_8e157_5 rfl (lv_at hl 1 rfl) ?_
  refine lv_icmp_lt (tgt := 16) hx hb dJ3_checkIndex_8e157_6 (by decide) (fun _ => ?_) (fun q => absurd h1 q)
  refine lv_iload_n hx hb dJ3_checkIndex_8e157_16 rfl (lv_at hl 0 rfl) ?_
  exact cx_iret hx hb hr hlocks hP hL dJ3_checkIndex_8e157_17
abbrev rm_J0_checkIndex_df160 : Room := { frames := 1, cells := 0, slots := 0, locals := 22 }
theorem hd_J0_checkIndex_df160 : yJ0_checkIndex_df160.cls = RJ0 ∧ yJ0_checkIndex_df160.cls ≠ "java/lang/invoke/MethodHandle" ∧ yJ0_checkIndex_df160.cls ≠ "java/lang/invoke/VarHandle" ∧ (parseMethodDescriptor yJ0_checkIndex_df160.desc).map (fun d => d.parameters.length) = some 2 := by decide +kernel
set_option maxHeartbeats 4000000 in
set_option maxRecDepth 100000 in
theorem c_J0_checkIndex_df160 {l : Launch} {G : va_G} {cA : Nat → ClassId} {lo : Nat} {z : ZS} {PH : Heap → Prop} {k n : Int32} (h0 : ¬ k < 0) (h1 : k < n) : Met l yJ0_checkIndex_df160 (cW yJ0_checkIndex_df160 cJ0_checkIndex_df160 2 none) rm_J0_checkIndex_df160 (cPZ lo z [.int k, .int n] PH G cA) (cQ none PH) 0 0 (fun q => lo ≤ q) := by
  refine cx_metZ (by decide) (Nat.le_of_ble_eq_true rfl) (fun p e s m args below meth c ls C0 hZ hP hl => ?_)
  have hl : lv_has ls 2 [(0, .int k), (1, .int n)] := hl
  obtain ⟨⟨hx, hb, hml, hown, hts⟩, hr, hlocks, hK⟩ := id C0
  have hL : ∀ q ∈ ([] : List Loc), lo ≤ q.base := fun q h => nomatch h
  refine lv_iload_n hx hb dJ0_checkIndex_df160_0 rfl (lv_at hl 0 rfl) ?_
  refine lv_iload_n hx hb dJ0_checkIndex_df160_1 rfl (lv_at hl 1 rfl) ?_
  rcases hZ.2.2.1 with h | ⟨t, h⟩
  · refine cz_S hL (fun hS => va_gets hx hb h hS hown (hts _ mw_244) (fun _ h => h) dJ0_checkIndex_df160_2 ?_)
    refine cx_callS (As := [.int k, .int n, .null]) (rest := []) ⟨hx, hb, hml, hown, hts⟩ (c_J3_checkIndex_8e157N h0 h1) (va_cwS 3 hts (gSx mw_245 mw_246 mw_247 mw_248) rfl rfl rfl hd_J3_checkIndex_8e157.2 ⟨Nat.le_of_ble_eq_true rfl, Nat.le_of_ble_eq_true rfl⟩) hK hP rfl hl.1 rfl (Nat.le_of_ble_eq_true rfl) dJ0_checkIndex_df160_5 ⟨Nat.zero_le _, Nat.zero_le _⟩ hL (fun H locs hP hL => ?_)
    refine lv_pop hx hb dJ0_checkIndex_df160_8 rfl ?_
    exact cx_vret hx hb hr hlocks hP hL dJ0_checkIndex_df160_9
  · refine cz_S hL (fun hS => va_gets hx hb h hS hown (hts _ mw_244) (fun _ h => h) dJ0_checkIndex_df160_2 ?_)
    refine cx_callS (As := [.int k, .int n, .ref t]) (rest := []) ⟨hx, hb, hml, hown, hts⟩ (c_J3_checkIndex_8e157 h0 h1) (va_cwS 3 hts (gSx mw_245 mw_246 mw_247 mw_248) rfl rfl rfl hd_J3_checkIndex_8e157.2 ⟨Nat.le_of_ble_eq_true rfl, Nat.le_of_ble_eq_true rfl⟩) hK hP rfl hl.1 rfl (Nat.le_of_ble_eq_true rfl) dJ0_checkIndex_df160_5 ⟨Nat.zero_le _, Nat.zero_le _⟩ hL (fun H locs hP hL => ?_)
    refine lv_pop hx hb dJ0_checkIndex_df160_8 rfl ?_
    exact cx_vret hx hb hr hlocks hP hL dJ0_checkIndex_df160_9
theorem wB_in {i : Nat} (hi : i < 8) {k : Int32} (h : vp_in k (wB i).length) : ¬ k < 0 ∧ k < Int32.ofNat (wB i).length ∧ k.toNatClampNeg < 5 := by
  obtain ⟨a, b⟩ := vp_in_iff.mp h
  have h5 := (wB_len i hi).1
  refine ⟨fun q => ?_, ?_, ?_⟩
  · have q := Int32.lt_iff_toInt_lt.mp q
    have : (0 : Int32).toInt = 0 := rfl
    omega
  · rw [Int32.lt_iff_toInt_lt]
    have : (Int32.ofNat (wB i).length).toInt = ((wB i).length : Int) := nI_toInt (by omega)
    omega
  · have := vp_lt h
    omega
abbrev rm_J1_charAt_3b067 : Room := { frames := 2, cells := 0, slots := 0, locals := 43 }
theorem hd_J1_charAt_3b067 : yJ1_charAt_3b067.cls = RJ1 ∧ yJ1_charAt_3b067.cls ≠ "java/lang/invoke/MethodHandle" ∧ yJ1_charAt_3b067.cls ≠ "java/lang/invoke/VarHandle" ∧ (parseMethodDescriptor yJ1_charAt_3b067.desc).map (fun d => d.parameters.length) = some 2 := by decide +kernel
set_option maxHeartbeats 4000000 in
set_option maxRecDepth 100000 in
theorem c_J1_charAt_3b067 {l : Launch} {G : va_G} {cA : Nat → ClassId} {lo : Nat} {z : ZS} {PH : Heap → Prop} {i : Nat} (hi : i < 8) {k : Int32} (hk : vp_in k (wB i).length) : Met l yJ1_charAt_3b067 (cW yJ1_charAt_3b067 cJ1_charAt_3b067 2 (some .char)) rm_J1_charAt_3b067 (cPZ lo z [.ref (z.2 i), .int k] PH G cA) (cQ (some (.int ((wB i).getD k.toNatClampNeg 0))) PH) 0 0 (fun q => lo ≤ q) := by
  refine cx_metZ (by decide) (Nat.le_of_ble_eq_true rfl) (fun p e s m args below meth c ls C0 hZ hP hl => ?_)
  have hl : lv_has ls 2 [(0, .ref (z.2 i)), (1, .int k)] := hl
  obtain ⟨⟨hx, hb, hml, hown, hts⟩, hr, hlocks, hK⟩ := id C0
  have hL : ∀ q ∈ ([] : List Loc), lo ≤ q.base := fun q h => nomatch h
  obtain ⟨k0, k1, k2⟩ := wB_in hi hk
  refine lv_iload_n hx hb dJ1_charAt_3b067_0 rfl (lv_at hl 1 rfl) ?_
  refine lv_aload_n hx hb dJ1_charAt_3b067_1 rfl (lv_at hl 0 rfl) ?_
  refine cz_S hL (fun hS => va_tlen (v := Int32.ofNat (wB i).length) hx hb (hZ.1 i hi).2.2.2.2 hS rfl dJ1_charAt_3b067_2 ?_)
  refine cx_callSZ (As := [.int k, .int (Int32.ofNat (wB i).length)]) (rest := []) ⟨hx, hb, hml, hown, hts⟩ (c_J0_checkIndex_df160 k0 k1) (va_cwS 2 hts (gSx mw_241 mw_242 mw_220 mw_243) rfl rfl rfl hd_J0_checkIndex_df160.2 ⟨Nat.le_of_ble_eq_true rfl, Nat.le_of_ble_eq_true rfl⟩) hK hZ hP rfl hl.1 rfl (Nat.le_of_ble_eq_true rfl) dJ1_charAt_3b067_3 ⟨Nat.zero_le _, Nat.zero_le _⟩ hL (fun H locs hP hL => ?_)
  refine lv_aload_n hx hb dJ1_charAt_3b067_6 rfl (lv_at hl 0 rfl) ?_
  refine lv_iload_n hx hb dJ1_charAt_3b067_7 rfl (lv_at hl 1 rfl) ?_
  refine cz_S hL (fun hS => va_tb hx hb (hZ.1 i hi).2.2.2.2 hS hk rfl dJ1_charAt_3b067_8 ?_)
  refine lv_sipush (v := 255) hx hb dJ1_charAt_3b067_9 (by decide) ?_
  refine lv_iand hx hb dJ1_charAt_3b067_12 ?_
  refine lv_i2c hx hb dJ1_charAt_3b067_13 (wB_ch i hi _ k2) ?_
  exact cx_nret hx hb hr hlocks (wB_nar i hi _ k2) hP hL dJ1_charAt_3b067_14
def f_J0_charAt_5068e (i : Nat) (k : Int32) : Option Int32 := gd k (wB i).length (some ((wB i).getD k.toNatClampNeg 0))
abbrev rm_J0_charAt_5068e : Room := { frames := 3, cells := 0, slots := 0, locals := 64 }
theorem hd_J0_charAt_5068e : yJ0_charAt_5068e.cls = RJ0 ∧ yJ0_charAt_5068e.cls ≠ "java/lang/invoke/MethodHandle" ∧ yJ0_charAt_5068e.cls ≠ "java/lang/invoke/VarHandle" ∧ (parseMethodDescriptor yJ0_charAt_5068e.desc).map (fun d => d.parameters.length) = some 1 := by decide +kernel
set_option maxHeartbeats 4000000 in
set_option maxRecDepth 100000 in
theorem c_J0_charAt_5068e {l : Launch} {G : va_G} {cA : Nat → ClassId} {lo : Nat} {z : ZS} {PH : Heap → Prop} {i : Nat} {k : Int32} (hi : i < 8) {res : Int32} (hf : f_J0_charAt_5068e i k = some res) : Met l yJ0_charAt_5068e (cW yJ0_charAt_5068e cJ0_charAt_5068e 2 (some .char)) rm_J0_charAt_5068e (cPZ lo z [.ref (z.1 i), .int k] PH G cA) (cQ (some (.int res)) PH) 0 0 (fun q => lo ≤ q) := by
  refine cx_metZ (by decide) (Nat.le_of_ble_eq_true rfl) (fun p e s m args below meth c ls C0 hZ hP hl => ?_)
  have hl : lv_has ls 2 [(0, .ref (z.1 i)), (1, .int k)] := hl
  obtain ⟨⟨hx, hb, hml, hown, hts⟩, hr, hlocks, hK⟩ := id C0
  have hL : ∀ q ∈ ([] : List Loc), lo ≤ q.base := fun q h => nomatch h
  obtain ⟨hk, hf⟩ := gdE hf
  cases hf
  obtain ⟨k0, k1, k2⟩ := wB_in hi hk
  refine lv_aload_n hx hb dJ0_charAt_5068e_0 rfl (lv_at hl 0 rfl) ?_
  refine cx_callStr (As := []) (rest := []) ⟨hx, hb, hml, hown, hts⟩ (c_J0_isLatin1_aae02 hi) (cwV 0 hts (gV mw_233 mw_234 mw_235 mw_220 mw_236) rfl rfl rfl hd_J0_isLatin1_aae02 ⟨Nat.le_of_ble_eq_true rfl, Nat.le_of_ble_eq_true rfl⟩) hK hZ hi hP rfl hl.1 rfl (Nat.le_of_ble_eq_true rfl) dJ0_charAt_5068e_1 ⟨Nat.zero_le _, Nat.zero_le _⟩ hL (fun H locs hP hL => ?_)
  refine lv_if_eq (tgt := 16) hx hb dJ0_charAt_5068e_4 (by decide) (fun q => absurd q (by decide)) (fun _ => ?_)
  refine lv_aload_n hx hb dJ0_charAt_5068e_7 rfl (lv_at hl 0 rfl) ?_
  refine cz_S hL (fun hS => vk_getf hx hb (hZ.1 i hi).2.2.2.1 hS hown (hts _ mw_222) (fun _ h => h) dJ0_charAt_5068e_8 ?_)
  refine lv_iload_n hx hb dJ0_charAt_5068e_11 rfl (lv_at hl 1 rfl) ?_
  refine cx_callSZ (As := [.ref (z.2 i), .int k]) (rest := []) ⟨hx, hb, hml, hown, hts⟩ (c_J1_charAt_3b067 hi hk) (va_cwS 2 hts (gSx mw_237 mw_238 mw_239 mw_240) rfl rfl rfl hd_J1_charAt_3b067.2 ⟨Nat.le_of_ble_eq_true rfl, Nat.le_of_ble_eq_true rfl⟩) hK hZ hP rfl hl.1 rfl (Nat.le_of_ble_eq_true rfl) dJ0_charAt_5068e_12 ⟨Nat.zero_le _, Nat.zero_le _⟩ hL (fun H locs hP hL => ?_)
  exact cx_nret hx hb hr hlocks (wB_nar i hi _ k2) hP hL dJ0_charAt_5068e_15
