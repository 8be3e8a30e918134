abbrev rm_X0_copyFrom : Room := { frames := 1, cells := 0, slots := 0, locals := 60 }
theorem hd_X0_copyFrom : yX0_copyFrom.cls = RX0 ∧ yX0_copyFrom.cls ≠ "java/lang/invoke/MethodHandle" ∧ yX0_copyFrom.cls ≠ "java/lang/invoke/VarHandle" ∧ (parseMethodDescriptor yX0_copyFrom.desc).map (fun d => d.parameters.length) = some 1 := by decide +kernel
def f_X0_copyFrom (τ : ObjS) (υ : ObjS) : Option (ObjS) := cx_let (oS τ 0 (va_cpy (υ.1 0) (τ.1 0) 0 0 200)) fun z1 => cx_let (oS z1 1 (va_cpy (υ.1 1) (z1.1 1) 0 0 200)) fun z2 => cx_let (oS z2 2 (va_cpy (υ.1 2) (z2.1 2) 0 0 200)) fun z3 => cx_let (oS z3 3 (va_cpy (υ.1 3) (z3.1 3) 0 0 200)) fun z4 => cx_let (oS z4 4 (va_cpy (υ.1 4) (z4.1 4) 0 0 200)) fun z5 => cx_let (oS z5 5 (va_cpy (υ.1 5) (z5.1 5) 0 0 200)) fun z6 => cx_let (oI z6 6 (υ.2 6)) fun z7 => cx_let (oI z7 7 (υ.2 7)) fun z8 => some z8
set_option maxHeartbeats 4000000 in
set_option maxRecDepth 100000 in
theorem c_X0_copyFrom {l : Launch} {G : va_G} {cA : Nat → ClassId} {lo : Nat} {ad : Nat → Nat} {adother : Nat → Nat} {P : ObjS → ObjS → Heap → Prop} (hC : ∀ z0 : ObjS, cx G lo 7 ad (ceBlocks cA ad) (fun x => P x z0)) (hCother : ∀ z0 : ObjS, cx G lo 7 adother (ceBlocks cA adother) (fun x => P z0 x)) {τ : ObjS} {υ : ObjS} {res : ObjS} (hf : f_X0_copyFrom τ υ = some res) : Met l yX0_copyFrom (cW yX0_copyFrom cX0_copyFrom 2 none) rm_X0_copyFrom (cP [.ref (ad 0), .ref (adother 0)] (P τ υ) G cA) (cQ none (P res υ)) 0 0 (fun q => lo ≤ q) := by
  refine cx_met (by decide) (Nat.le_of_ble_eq_true rfl) (fun p e s m args below meth c ls C0 hP hl => ?_)
  have hl : lv_has ls 2 [(0, .ref (ad 0)), (1, .ref (adother 0))] := hl
  obtain ⟨⟨hx, hb, hml, hown, hts⟩, hr, hlocks, hK⟩ := id C0
  have hL : ∀ q ∈ ([] : List Loc), lo ≤ q.base := fun q h => nomatch h
  unfold f_X0_copyFrom at hf
  refine lv_aload_n hx hb dX0_copyFrom_0 rfl (lv_at hl 1 rfl) ?_
  refine g_Blocks_0 (hCother τ) hP hx hb hts hown hK mw_85 dX0_copyFrom_1 ?_
  refine lv_iconst (v := 0) hx hb dX0_copyFrom_4 (by decide) ?_
  refine lv_aload_n hx hb dX0_copyFrom_5 rfl (lv_at hl 0 rfl) ?_
  refine g_Blocks_0 (hC υ) hP hx hb hts hown hK mw_85 dX0_copyFrom_6 ?_
  refine lv_iconst (v := 0) hx hb dX0_copyFrom_9 (by decide) ?_
  refine lv_sipush (v := 200) hx hb dX0_copyFrom_10 (by decide) ?_
  obtain ⟨z1, ez1, hf⟩ := cx_letE hf
  refine cp_Blocks_0 (hC υ) hP (hCother τ) hP hx hb (hml.trans hl.1.symm) hown hts hK mw_177 mw_178 mw_179 mw_180 (Nat.le_of_ble_eq_true rfl) (Nat.le_of_ble_eq_true rfl) dX0_copyFrom_13 hL (fun H locs hP hL => ?_)
  replace hP : P z1 υ H := by rw [← ez1]; exact hP
  refine lv_aload_n hx hb dX0_copyFrom_16 rfl (lv_at hl 1 rfl) ?_
  refine g_Blocks_1 (hCother z1) hP hx hb hts hown hK mw_86 dX0_copyFrom_17 ?_
  refine lv_iconst (v := 0) hx hb dX0_copyFrom_20 (by decide) ?_
  refine lv_aload_n hx hb dX0_copyFrom_21 rfl (lv_at hl 0 rfl) ?_
  refine g_Blocks_1 (hC υ) hP hx hb hts hown hK mw_86 dX0_copyFrom_22 ?_
  refine lv_iconst (v := 0) hx hb dX0_copyFrom_25 (by decide) ?_
  refine lv_sipush (v := 200) hx hb dX0_copyFrom_26 (by decide) ?_
  obtain ⟨z2, ez2, hf⟩ := cx_letE hf
  refine cp_Blocks_1 (hC υ) hP (hCother z1) hP hx hb (hml.trans hl.1.symm) hown hts hK mw_177 mw_178 mw_179 mw_180 (Nat.le_of_ble_eq_true rfl) (Nat.le_of_ble_eq_true rfl) dX0_copyFrom_29 hL (fun H locs hP hL => ?_)
  replace hP : P z2 υ H := by rw [← ez2]; exact hP
  refine lv_aload_n hx hb dX0_copyFrom_32 rfl (lv_at hl 1 rfl) ?_
  refine g_Blocks_2 (hCother z2) hP hx hb hts hown hK mw_87 dX0_copyFrom_33 ?_
  refine lv_iconst (v := 0) hx hb dX0_copyFrom_36 (by decide) ?_
  refine lv_aload_n hx hb dX0_copyFrom_37 rfl (lv_at hl 0 rfl) ?_
  refine g_Blocks_2 (hC υ) hP hx hb hts hown hK mw_87 dX0_copyFrom_38 ?_
  refine lv_iconst (v := 0) hx hb dX0_copyFrom_41 (by decide) ?_
  refine lv_sipush (v := 200) hx hb dX0_copyFrom_42 (by decide) ?_
  obtain ⟨z3, ez3, hf⟩ := cx_letE hf
  refine cp_Blocks_2 (hC υ) hP (hCother z2) hP hx hb (hml.trans hl.1.symm) hown hts hK mw_177 mw_178 mw_179 mw_180 (Nat.le_of_ble_eq_true rfl) (Nat.le_of_ble_eq_true rfl) dX0_copyFrom_45 hL (fun H locs hP hL => ?_)
  replace hP : P z3 υ H := by rw [← ez3]; exact hP
  refine lv_aload_n hx hb dX0_copyFrom_48 rfl (lv_at hl 1 rfl) ?_
  refine g_Blocks_3 (hCother z3) hP hx hb hts hown hK mw_88 dX0_copyFrom_49 ?_
  refine lv_iconst (v := 0) hx hb dX0_copyFrom_52 (by decide) ?_
  refine lv_aload_n hx hb dX0_copyFrom_53 rfl (lv_at hl 0 rfl) ?_
  refine g_Blocks_3 (hC υ) hP hx hb hts hown hK mw_88 dX0_copyFrom_54 ?_
  refine lv_iconst (v := 0) hx hb dX0_copyFrom_57 (by decide) ?_
  refine lv_sipush (v := 200) hx hb dX0_copyFrom_58 (by decide) ?_
  obtain ⟨z4, ez4, hf⟩ := cx_letE hf
  refine cp_Blocks_3 (hC υ) hP (hCother z3) hP hx hb (hml.trans hl.1.symm) hown hts hK mw_177 mw_178 mw_179 mw_180 (Nat.le_of_ble_eq_true rfl) (Nat.le_of_ble_eq_true rfl) dX0_copyFrom_61 hL (fun H locs hP hL => ?_)
  replace hP : P z4 υ H := by rw [← ez4]; exact hP
  refine lv_aload_n hx hb dX0_copyFrom_64 rfl (lv_at hl 1 rfl) ?_
  refine g_Blocks_4 (hCother z4) hP hx hb hts hown hK mw_89 dX0_copyFrom_65 ?_
  refine lv_iconst (v := 0) hx hb dX0_copyFrom_68 (by decide) ?_
  refine lv_aload_n hx hb dX0_copyFrom_69 rfl (lv_at hl 0 rfl) ?_
  refine g_Blocks_4 (hC υ) hP hx hb hts hown hK mw_89 dX0_copyFrom_70 ?_
  refine lv_iconst (v := 0) hx hb dX0_copyFrom_73 (by decide) ?_
  refine lv_sipush (v := 200) hx hb dX0_copyFrom_74 (by decide) ?_
  obtain ⟨z5, ez5, hf⟩ := cx_letE hf
  refine cp_Blocks_4 (hC υ) hP (hCother z4) hP hx hb (hml.trans hl.1.symm) hown hts hK mw_177 mw_178 mw_179 mw_180 (Nat.le_of_ble_eq_true rfl) (Nat.le_of_ble_eq_true rfl) dX0_copyFrom_77 hL (fun H locs hP hL => ?_)
  replace hP : P z5 υ H := by rw [← ez5]; exact hP
  refine lv_aload_n hx hb dX0_copyFrom_80 rfl (lv_at hl 1 rfl) ?_
  refine g_Blocks_5 (hCother z5) hP hx hb hts hown hK mw_90 dX0_copyFrom_81 ?_
  refine lv_iconst (v := 0) hx hb dX0_copyFrom_84 (by decide) ?_
  refine lv_aload_n hx hb dX0_copyFrom_85 rfl (lv_at hl 0 rfl) ?_
  refine g_Blocks_5 (hC υ) hP hx hb hts hown hK mw_90 dX0_copyFrom_86 ?_
  refine lv_iconst (v := 0) hx hb dX0_copyFrom_89 (by decide) ?_
  refine lv_sipush (v := 200) hx hb dX0_copyFrom_90 (by decide) ?_
  obtain ⟨z6, ez6, hf⟩ := cx_letE hf
  refine cp_Blocks_5 (hC υ) hP (hCother z5) hP hx hb (hml.trans hl.1.symm) hown hts hK mw_177 mw_178 mw_179 mw_180 (Nat.le_of_ble_eq_true rfl) (Nat.le_of_ble_eq_true rfl) dX0_copyFrom_93 hL (fun H locs hP hL => ?_)
  replace hP : P z6 υ H := by rw [← ez6]; exact hP
  refine lv_aload_n hx hb dX0_copyFrom_96 rfl (lv_at hl 0 rfl) ?_
  refine lv_aload_n hx hb dX0_copyFrom_97 rfl (lv_at hl 1 rfl) ?_
  refine g_Blocks_6 (hCother z6) hP hx hb hts hown hK mw_181 dX0_copyFrom_98 ?_
  obtain ⟨z7, ez7, hf⟩ := cx_letE hf
  refine p_Blocks_6 (hC υ) hP hx hb hts hown hK mw_181 dX0_copyFrom_101 hL (fun H locs hP hL => ?_)
  replace hP : P z7 υ H := by rw [← ez7]; exact hP
  refine lv_aload_n hx hb dX0_copyFrom_104 rfl (lv_at hl 0 rfl) ?_
  refine lv_aload_n hx hb dX0_copyFrom_105 rfl (lv_at hl 1 rfl) ?_
  refine g_Blocks_7 (hCother z7) hP hx hb hts hown hK mw_182 dX0_copyFrom_106 ?_
  obtain ⟨z8, ez8, hf⟩ := cx_letE hf
  refine p_Blocks_7 (hC υ) hP hx hb hts hown hK mw_182 dX0_copyFrom_109 hL (fun H locs hP hL => ?_)
  replace hP : P z8 υ H := by rw [← ez8]; exact hP
  cases hf
  exact cx_vret hx hb hr hlocks hP hL dX0_copyFrom_112
abbrev rm_X1_copyFrom : Room := { frames := 2, cells := 0, slots := 0, locals := 81 }
theorem hd_X1_copyFrom : yX1_copyFrom.cls = RX1 ∧ yX1_copyFrom.cls ≠ "java/lang/invoke/MethodHandle" ∧ yX1_copyFrom.cls ≠ "java/lang/invoke/VarHandle" ∧ (parseMethodDescriptor yX1_copyFrom.desc).map (fun d => d.parameters.length) = some 1 := by decide +kernel
def f_X1_copyFrom_b127 (N : Nat) : Nat → CacS → CacS → Int32 → Option (CacS)
  | 0, _, _, _ => none
  | n + 1, σ, ς, x2 => if (σ 0).2 9 ≤ x2 then some σ else (f_X1_clientOf σ x2).bind fun r2 => on_ r2 ((f_X1_clientOf ς x2).bind fun r5 => on_ r5 (f_X1_copyFrom_b127 N n σ ς (x2 + 1)) (fun k7 => f_X1_copyFrom_b127 N n σ ς (x2 + 1))) (fun k4 => (f_X1_clientOf ς x2).bind fun r8 => on_ r8 (f_X1_copyFrom_b127 N n σ ς (x2 + 1)) (fun k10 => (f_X2_copyFrom (σ (8 + k4)) (ς (8 + k10))).bind fun r11 => cx_let (va_up σ (8 + k4) r11) fun z13 => f_X1_copyFrom_b127 N n z13 ς (x2 + 1)))
set_option maxHeartbeats 4000000 in
set_option maxRecDepth 100000 in
theorem w_X1_copyFrom_b127 {p : Program} {l : Launch} {e : Env} {s : State} {m : MethodId} {args : Array Value} {below : List Frame} {meth : Method} {c : Code} {G : va_G} {cA : Nat → ClassId} (C0 : cB p s m args meth c RX1 cX1_copyFrom 5 none G cA) {lo : Nat} {ad : Nat → Nat} {adother : Nat → Nat} {P : CacS → CacS → Heap → Prop} (hC : ∀ z0 : CacS, cx G lo 25 ad (ceCache cA ad) (fun x => P x z0)) (hCother : ∀ z0 : CacS, cx G lo 25 adother (ceCache cA adother) (fun x => P z0 x)) {N : Nat} {res : CacS} : ∀ (n : Nat) (σ : CacS) (ς : CacS) (x2 : Int32) (H : Heap) (locs : List Loc) (ls : Array Slot), f_X1_copyFrom_b127 N n σ ς x2 = some res → P σ ς H → (∀ q ∈ locs, lo ≤ q.base) → lv_has ls 5 [(0, .ref (ad 0)), (1, .ref (adother 0)), (2, .int x2)] → W p l e rm_X1_copyFrom s m args below meth c H locs 0 0 (MQ below (cQ none (P res ς)) args s 0 0 (fun q => lo ≤ q)) (F0 m 127 ls []) := by
  obtain ⟨⟨hx, hb, hml, hown, hts⟩, hr, hlocks, hK⟩ := id C0
  intro n
  induction n with
  | zero => intro σ ς x2 H locs ls
            exact fun hf => nomatch hf
  | succ n ih =>
    intro σ ς x2 H locs ls hf hP hL hl
    rw [f_X1_copyFrom_b127] at hf
    refine lv_iload_n hx hb dX1_copyFrom_127 rfl (lv_at hl 2 rfl) ?_
    refine lv_aload_n hx hb dX1_copyFrom_128 rfl (lv_at hl 0 rfl) ?_
    refine g_Cache_9 (hC ς) hP hx hb hts hown hK mw_171 dX1_copyFrom_129 ?_
    refine lv_icmp_ge (tgt := 169) hx hb dX1_copyFrom_132 (by decide) (fun c1 => ?_) (fun c1 => ?_)
    · have hf := cx_t hf c1
      cases hf
      exact cx_vret hx hb hr hlocks hP hL dX1_copyFrom_169
    · have hf := cx_f hf c1
      refine lv_aload_n hx hb dX1_copyFrom_135 rfl (lv_at hl 0 rfl) ?_
      refine lv_iload_n hx hb dX1_copyFrom_136 rfl (lv_at hl 2 rfl) ?_
      obtain ⟨r2, q3, hf⟩ := cx_b hf
      refine cx_callV (As := [.int x2]) (rest := []) ⟨hx, hb, hml, hown, hts⟩ (c_X1_clientOf (hC ς) q3) (cwV 1 hts (gV mw_205 mw_206 mw_207 mw_29 mw_208) rfl rfl rfl hd_X1_clientOf ⟨Nat.le_of_ble_eq_true rfl, Nat.le_of_ble_eq_true rfl⟩) hK hP rfl (at_Cache (hC ς) hP) rfl hl.1 rfl (Nat.le_of_ble_eq_true rfl) dX1_copyFrom_137 ⟨Nat.zero_le _, Nat.zero_le _⟩ hL (fun H locs hP hL => ?_)
      replace hP : P σ ς H := by first | exact hP | (simpa only [va_up_id] using hP)
      cases r2 with
      | none =>
        have hf := on_N hf
        refine lv_astore_nN (lv' := [(3, .null), (0, .ref (ad 0)), (1, .ref (adother 0)), (2, .int x2)]) hx hb dX1_copyFrom_140 rfl hl (by decide) rfl (fun ls hl => ?_)
        refine lv_aload_n hx hb dX1_copyFrom_141 rfl (lv_at hl 2 rfl) ?_
        refine lv_iload_n hx hb dX1_copyFrom_142 rfl (lv_at hl 3 rfl) ?_
        obtain ⟨r5, q6, hf⟩ := cx_b hf
        refine cx_callV (As := [.int x2]) (rest := []) ⟨hx, hb, hml, hown, hts⟩ (c_X1_clientOf (hCother σ) q6) (cwV 1 hts (gV mw_205 mw_206 mw_207 mw_29 mw_208) rfl rfl rfl hd_X1_clientOf ⟨Nat.le_of_ble_eq_true rfl, Nat.le_of_ble_eq_true rfl⟩) hK hP rfl (at_Cache (hCother σ) hP) rfl hl.1 rfl (Nat.le_of_ble_eq_true rfl) dX1_copyFrom_143 ⟨Nat.zero_le _, Nat.zero_le _⟩ hL (fun H locs hP hL => ?_)
        replace hP : P σ ς H := by first | exact hP | (simpa only [va_up_id] using hP)
        cases r5 with
        | none =>
          have hf := on_N hf
          refine lv_astoreN (lv' := [(4, .null), (3, .null), (0, .ref (ad 0)), (1, .ref (adother 0)), (2, .int x2)]) hx hb dX1_copyFrom_146 hl (by decide) rfl (fun ls hl => ?_)
          refine lv_aload_nN hx hb dX1_copyFrom_148 rfl (lv_at hl 1 rfl) ?_
          refine lv_ifnullN (tgt := 163) hx hb dX1_copyFrom_149 (by decide) ?_
          refine lv_iinc (v := (x2 + 1)) (lv' := [(2, .int (x2 + 1)), (4, .null), (3, .null), (0, .ref (ad 0)), (1, .ref (adother 0))]) hx hb dX1_copyFrom_163 hl (k := 4) rfl rfl (by decide) rfl (fun ls hl => ?_)
          refine lv_goto (tgt := 127) hx hb dX1_copyFrom_166 (by decide) ?_
          exact ih σ ς (x2 + 1) _ _ _ hf hP hL (lv_sub hl [3, 4, 0] rfl)
        | some k7 =>
          have hf := on_S hf
          have hk7 := f_X1_clientOf_lt q6
          refine lv_astore (lv' := [(4, .ref ((adCli adother k7) 0)), (3, .null), (0, .ref (ad 0)), (1, .ref (adother 0)), (2, .int x2)]) hx hb dX1_copyFrom_146 hl (by decide) rfl (fun ls hl => ?_)
          refine lv_aload_nN hx hb dX1_copyFrom_148 rfl (lv_at hl 1 rfl) ?_
          refine lv_ifnullN (tgt := 163) hx hb dX1_copyFrom_149 (by decide) ?_
          refine lv_iinc (v := (x2 + 1)) (lv' := [(2, .int (x2 + 1)), (4, .ref ((adCli adother k7) 0)), (3, .null), (0, .ref (ad 0)), (1, .ref (adother 0))]) hx hb dX1_copyFrom_163 hl (k := 4) rfl rfl (by decide) rfl (fun ls hl => ?_)
          refine lv_goto (tgt := 127) hx hb dX1_copyFrom_166 (by decide) ?_
          exact ih σ ς (x2 + 1) _ _ _ hf hP hL (lv_sub hl [3, 4, 0] rfl)
      | some k4 =>
        have hf := on_S hf
        have hk4 := f_X1_clientOf_lt q3
        refine lv_astore_n (lv' := [(3, .ref ((adCli ad k4) 0)), (0, .ref (ad 0)), (1, .ref (adother 0)), (2, .int x2)]) hx hb dX1_copyFrom_140 rfl hl (by decide) rfl (fun ls hl => ?_)
        refine lv_aload_n hx hb dX1_copyFrom_141 rfl (lv_at hl 2 rfl) ?_
        refine lv_iload_n hx hb dX1_copyFrom_142 rfl (lv_at hl 3 rfl) ?_
        obtain ⟨r8, q9, hf⟩ := cx_b hf
        refine cx_callV (As := [.int x2]) (rest := []) ⟨hx, hb, hml, hown, hts⟩ (c_X1_clientOf (hCother σ) q9) (cwV 1 hts (gV mw_205 mw_206 mw_207 mw_29 mw_208) rfl rfl rfl hd_X1_clientOf ⟨Nat.le_of_ble_eq_true rfl, Nat.le_of_ble_eq_true rfl⟩) hK hP rfl (at_Cache (hCother σ) hP) rfl hl.1 rfl (Nat.le_of_ble_eq_true rfl) dX1_copyFrom_143 ⟨Nat.zero_le _, Nat.zero_le _⟩ hL (fun H locs hP hL => ?_)
        replace hP : P σ ς H := by first | exact hP | (simpa only [va_up_id] using hP)
        cases r8 with
        | none =>
          have hf := on_N hf
          refine lv_astoreN (lv' := [(4, .null), (3, .ref ((adCli ad k4) 0)), (0, .ref (ad 0)), (1, .ref (adother 0)), (2, .int x2)]) hx hb dX1_copyFrom_146 hl (by decide) rfl (fun ls hl => ?_)
          refine lv_aload_n hx hb dX1_copyFrom_148 rfl (lv_at hl 1 rfl) ?_
          refine lv_ifnull hx hb dX1_copyFrom_149 ?_
          refine lv_aloadN hx hb dX1_copyFrom_152 (lv_at hl 0 rfl) ?_
          refine lv_ifnullN (tgt := 163) hx hb dX1_copyFrom_154 (by decide) ?_
          refine lv_iinc (v := (x2 + 1)) (lv' := [(2, .int (x2 + 1)), (4, .null), (3, .ref ((adCli ad k4) 0)), (0, .ref (ad 0)), (1, .ref (adother 0))]) hx hb dX1_copyFrom_163 hl (k := 4) rfl rfl (by decide) rfl (fun ls hl => ?_)
          refine lv_goto (tgt := 127) hx hb dX1_copyFrom_166 (by decide) ?_
          exact ih σ ς (x2 + 1) _ _ _ hf hP hL (lv_sub hl [3, 4, 0] rfl)
        | some k10 =>
          have hf := on_S hf
          have hk10 := f_X1_clientOf_lt q9
          refine lv_astore (lv' := [(4, .ref ((adCli adother k10) 0)), (3, .ref ((adCli ad k4) 0)), (0, .ref (ad 0)), (1, .ref (adother 0)), (2, .int x2)]) hx hb dX1_copyFrom_146 hl (by decide) rfl (fun ls hl => ?_)
          refine lv_aload_n hx hb dX1_copyFrom_148 rfl (lv_at hl 1 rfl) ?_
          refine lv_ifnull hx hb dX1_copyFrom_149 ?_
          refine lv_aload hx hb dX1_copyFrom_152 (lv_at hl 0 rfl) ?_
          refine lv_ifnull hx hb dX1_copyFrom_154 ?_
          refine lv_aload_n hx hb dX1_copyFrom_157 rfl (lv_at hl 1 rfl) ?_
          refine lv_aload hx hb dX1_copyFrom_158 (lv_at hl 0 rfl) ?_
          obtain ⟨r11, q12, hf⟩ := cx_b hf
          refine cx_callV (As := [.ref ((adCli adother k10) 0)]) (rest := []) ⟨hx, hb, hml, hown, hts⟩ (c_X2_copyFrom (fun z => cx_cli (hC (va_up ς (8 + k10) z)) σ k4 (8 + k4) hk4 rfl) (fun z => cx_cli (hCother (va_up σ (8 + k4) z)) ς k10 (8 + k10) hk10 rfl) q12) (cwV 1 hts (gV mw_209 mw_210 mw_211 mw_76 mw_212) rfl rfl rfl hd_X2_copyFrom ⟨Nat.le_of_ble_eq_true rfl, Nat.le_of_ble_eq_true rfl⟩) hK (show P (va_up σ (8 + k4) (σ (8 + k4))) (va_up ς (8 + k10) (ς (8 + k10))) _ by (repeat rw [va_up_id]); exact hP) rfl (at_Client (cx_cli (hC ς) σ k4 (8 + k4) hk4 rfl) (show P (va_up σ (8 + k4) (σ (8 + k4))) ς _ by (repeat rw [va_up_id]); exact hP)) rfl hl.1 rfl (Nat.le_of_ble_eq_true rfl) dX1_copyFrom_160 ⟨Nat.zero_le _, Nat.zero_le _⟩ hL (fun H locs hP hL => ?_)
          obtain ⟨z13, ez13, hf⟩ := cx_letE hf
          replace hP : P z13 ς H := by rw [← ez13]; (first | exact hP | (simpa only [va_up_id] using hP))
          replace hP : P z13 ς H := by first | exact hP | (simpa only [va_up_id] using hP)
          refine lv_iinc (v := (x2 + 1)) (lv' := [(2, .int (x2 + 1)), (4, .ref ((adCli adother k10) 0)), (3, .ref ((adCli ad k4) 0)), (0, .ref (ad 0)), (1, .ref (adother 0))]) hx hb dX1_copyFrom_163 hl (k := 4) rfl rfl (by decide) rfl (fun ls hl => ?_)
          refine lv_goto (tgt := 127) hx hb dX1_copyFrom_166 (by decide) ?_
          exact ih z13 ς (x2 + 1) _ _ _ hf hP hL (lv_sub hl [3, 4, 0] rfl)
def f_X1_copyFrom (N : Nat) (σ : CacS) (ς : CacS) : Option (CacS) := (f_X0_copyFrom (σ 1) (ς 1)).bind fun r1 => cx_let (va_up σ 1 r1) fun z3 => (f_X6_copyFrom (z3 2) (ς 2)).bind fun r4 => cx_let (va_up z3 2 r4) fun z6 => (f_X5_copyFrom N (z6 3) (ς 3)).bind fun r7 => cx_let (va_up z6 3 r7) fun z9 => (f_X5_copyFrom N (z9 4) (ς 4)).bind fun r10 => cx_let (va_up z9 4 r10) fun z12 => (f_X5_copyFrom N (z12 5) (ς 5)).bind fun r13 => cx_let (va_up z12 5 r13) fun z15 => (f_X5_copyFrom N (z15 6) (ς 6)).bind fun r16 => cx_let (va_up z15 6 r16) fun z18 => (f_X5_copyFrom N (z18 7) (ς 7)).bind fun r19 => cx_let (va_up z18 7 r19) fun z21 => cx_let (va_up z21 0 (oI (z21 0) 9 ((ς 0).2 9))) fun z22 => cx_let (va_up z22 0 (oI (z22 0) 10 ((ς 0).2 10))) fun z23 => cx_let (va_up z23 0 (oI (z23 0) 11 ((ς 0).2 11))) fun z24 => cx_let (va_up z24 0 (oI (z24 0) 12 ((ς 0).2 12))) fun z25 => cx_let (va_up z25 0 (oI (z25 0) 13 ((ς 0).2 13))) fun z26 => cx_let (va_up z26 0 (oI (z26 0) 14 ((ς 0).2 14))) fun z27 => f_X1_copyFrom_b127 N N z27 ς 0
set_option maxHeartbeats 4000000 in
set_option maxRecDepth 100000 in
theorem c_X1_copyFrom {l : Launch} {G : va_G} {cA : Nat → ClassId} {lo : Nat} {ad : Nat → Nat} {adother : Nat → Nat} {P : CacS → CacS → Heap → Prop} (hC : ∀ z0 : CacS, cx G lo 25 ad (ceCache cA ad) (fun x => P x z0)) (hCother : ∀ z0 : CacS, cx G lo 25 adother (ceCache cA adother) (fun x => P z0 x)) {N : Nat} {σ : CacS} {ς : CacS} {res : CacS} (hf : f_X1_copyFrom N σ ς = some res) : Met l yX1_copyFrom (cW yX1_copyFrom cX1_copyFrom 5 none) rm_X1_copyFrom (cP [.ref (ad 0), .ref (adother 0)] (P σ ς) G cA) (cQ none (P res ς)) 0 0 (fun q => lo ≤ q) := by
  refine cx_met (by decide) (Nat.le_of_ble_eq_true rfl) (fun p e s m args below meth c ls C0 hP hl => ?_)
  have hl : lv_has ls 5 [(0, .ref (ad 0)), (1, .ref (adother 0))] := hl
  obtain ⟨⟨hx, hb, hml, hown, hts⟩, hr, hlocks, hK⟩ := id C0
  have hL : ∀ q ∈ ([] : List Loc), lo ≤ q.base := fun q h => nomatch h
  unfold f_X1_copyFrom at hf
  refine lv_aload_n hx hb dX1_copyFrom_0 rfl (lv_at hl 0 rfl) ?_
  refine g_Cache_0 (hC ς) hP hx hb hts hown hK mw_59 dX1_copyFrom_1 ?_
  refine lv_aload_n hx hb dX1_copyFrom_4 rfl (lv_at hl 1 rfl) ?_
  refine g_Cache_0 (hCother σ) hP hx hb hts hown hK mw_59 dX1_copyFrom_5 ?_
  obtain ⟨r1, q2, hf⟩ := cx_b hf
  refine cx_callV (As := [.ref ((adBlk adother) 0)]) (rest := []) ⟨hx, hb, hml, hown, hts⟩ (c_X0_copyFrom (fun z => cx_blk (hC (va_up ς 1 z)) σ) (fun z => cx_blk (hCother (va_up σ 1 z)) ς) q2) (cwV 1 hts (gV mw_173 mw_174 mw_175 mw_58 mw_176) rfl rfl rfl hd_X0_copyFrom ⟨Nat.le_of_ble_eq_true rfl, Nat.le_of_ble_eq_true rfl⟩) hK (show P (va_up σ 1 (σ 1)) (va_up ς 1 (ς 1)) _ by (repeat rw [va_up_id]); exact hP) rfl (at_Blocks (cx_blk (hC ς) σ) (show P (va_up σ 1 (σ 1)) ς _ by (repeat rw [va_up_id]); exact hP)) rfl hl.1 rfl (Nat.le_of_ble_eq_true rfl) dX1_copyFrom_8 ⟨Nat.zero_le _, Nat.zero_le _⟩ hL (fun H locs hP hL => ?_)
  obtain ⟨z3, ez3, hf⟩ := cx_letE hf
  replace hP : P z3 ς H := by rw [← ez3]; (first | exact hP | (simpa only [va_up_id] using hP))
  replace hP : P z3 ς H := by first | exact hP | (simpa only [va_up_id] using hP)
  refine lv_aload_n hx hb dX1_copyFrom_11 rfl (lv_at hl 0 rfl) ?_
  refine g_Cache_1 (hC ς) hP hx hb hts hown hK mw_63 dX1_copyFrom_12 ?_
  refine lv_aload_n hx hb dX1_copyFrom_15 rfl (lv_at hl 1 rfl) ?_
  refine g_Cache_1 (hCother z3) hP hx hb hts hown hK mw_63 dX1_copyFrom_16 ?_
  obtain ⟨r4, q5, hf⟩ := cx_b hf
  refine cx_callV (As := [.ref ((adTal adother) 0)]) (rest := []) ⟨hx, hb, hml, hown, hts⟩ (c_X6_copyFrom (fun z => cx_tal (hC (va_up ς 2 z)) z3) (fun z => cx_tal (hCother (va_up z3 2 z)) ς) q5) (cwV 1 hts (gV mw_183 mw_184 mw_185 mw_62 mw_186) rfl rfl rfl hd_X6_copyFrom ⟨Nat.le_of_ble_eq_true rfl, Nat.le_of_ble_eq_true rfl⟩) hK (show P (va_up z3 2 (z3 2)) (va_up ς 2 (ς 2)) _ by (repeat rw [va_up_id]); exact hP) rfl (at_Tally (cx_tal (hC ς) z3) (show P (va_up z3 2 (z3 2)) ς _ by (repeat rw [va_up_id]); exact hP)) rfl hl.1 rfl (Nat.le_of_ble_eq_true rfl) dX1_copyFrom_19 ⟨Nat.zero_le _, Nat.zero_le _⟩ hL (fun H locs hP hL => ?_)
  obtain ⟨z6, ez6, hf⟩ := cx_letE hf
  replace hP : P z6 ς H := by rw [← ez6]; (first | exact hP | (simpa only [va_up_id] using hP))
  replace hP : P z6 ς H := by first | exact hP | (simpa only [va_up_id] using hP)
  refine lv_aload_n hx hb dX1_copyFrom_22 rfl (lv_at hl 0 rfl) ?_
  refine g_Cache_2 (hC ς) hP hx hb hts hown hK mw_67 dX1_copyFrom_23 ?_
  refine lv_aload_n hx hb dX1_copyFrom_26 rfl (lv_at hl 1 rfl) ?_
  refine g_Cache_2 (hCother z6) hP hx hb hts hown hK mw_67 dX1_copyFrom_27 ?_
  obtain ⟨r7, q8, hf⟩ := cx_b hf
  refine cx_callV (As := [.ref ((adRow adother 0) 0)]) (rest := []) ⟨hx, hb, hml, hown, hts⟩ (c_X5_copyFrom (fun z => cx_row (hC (va_up ς 3 z)) z6 0 3 (by decide) rfl) (fun z => cx_row (hCother (va_up z6 3 z)) ς 0 3 (by decide) rfl) q8) (cwV 1 hts (gV mw_196 mw_197 mw_198 mw_66 mw_199) rfl rfl rfl hd_X5_copyFrom ⟨Nat.le_of_ble_eq_true rfl, Nat.le_of_ble_eq_true rfl⟩) hK (show P (va_up z6 3 (z6 3)) (va_up ς 3 (ς 3)) _ by (repeat rw [va_up_id]); exact hP) rfl (at_Row (cx_row (hC ς) z6 0 3 (by decide) rfl) (show P (va_up z6 3 (z6 3)) ς _ by (repeat rw [va_up_id]); exact hP)) rfl hl.1 rfl (Nat.le_of_ble_eq_true rfl) dX1_copyFrom_30 ⟨Nat.zero_le _, Nat.zero_le _⟩ hL (fun H locs hP hL => ?_)
  obtain ⟨z9, ez9, hf⟩ := cx_letE hf
  replace hP : P z9 ς H := by rw [← ez9]; (first | exact hP | (simpa only [va_up_id] using hP))
  replace hP : P z9 ς H := by first | exact hP | (simpa only [va_up_id] using hP)
  refine lv_aload_n hx hb dX1_copyFrom_33 rfl (lv_at hl 0 rfl) ?_
  refine g_Cache_3 (hC ς) hP hx hb hts hown hK mw_68 dX1_copyFrom_34 ?_
  refine lv_aload_n hx hb dX1_copyFrom_37 rfl (lv_at hl 1 rfl) ?_
  refine g_Cache_3 (hCother z9) hP hx hb hts hown hK mw_68 dX1_copyFrom_38 ?_
  obtain ⟨r10, q11, hf⟩ := cx_b hf
  refine cx_callV (As := [.ref ((adRow adother 1) 0)]) (rest := []) ⟨hx, hb, hml, hown, hts⟩ (c_X5_copyFrom (fun z => cx_row (hC (va_up ς 4 z)) z9 1 4 (by decide) rfl) (fun z => cx_row (hCother (va_up z9 4 z)) ς 1 4 (by decide) rfl) q11) (cwV 1 hts (gV mw_196 mw_197 mw_198 mw_66 mw_199) rfl rfl rfl hd_X5_copyFrom ⟨Nat.le_of_ble_eq_true rfl, Nat.le_of_ble_eq_true rfl⟩) hK (show P (va_up z9 4 (z9 4)) (va_up ς 4 (ς 4)) _ by (repeat rw [va_up_id]); exact hP) rfl (at_Row (cx_row (hC ς) z9 1 4 (by decide) rfl) (show P (va_up z9 4 (z9 4)) ς _ by (repeat rw [va_up_id]); exact hP)) rfl hl.1 rfl (Nat.le_of_ble_eq_true rfl) dX1_copyFrom_41 ⟨Nat.zero_le _, Nat.zero_le _⟩ hL (fun H locs hP hL => ?_)
  obtain ⟨z12, ez12, hf⟩ := cx_letE hf
  replace hP : P z12 ς H := by rw [← ez12]; (first | exact hP | (simpa only [va_up_id] using hP))
  replace hP : P z12 ς H := by first | exact hP | (simpa only [va_up_id] using hP)
  refine lv_aload_n hx hb dX1_copyFrom_44 rfl (lv_at hl 0 rfl) ?_
  refine g_Cache_4 (hC ς) hP hx hb hts hown hK mw_69 dX1_copyFrom_45 ?_
  refine lv_aload_n hx hb dX1_copyFrom_48 rfl (lv_at hl 1 rfl) ?_
  refine g_Cache_4 (hCother z12) hP hx hb hts hown hK mw_69 dX1_copyFrom_49 ?_
  obtain ⟨r13, q14, hf⟩ := cx_b hf
  refine cx_callV (As := [.ref ((adRow adother 2) 0)]) (rest := []) ⟨hx, hb, hml, hown, hts⟩ (c_X5_copyFrom (fun z => cx_row (hC (va_up ς 5 z)) z12 2 5 (by decide) rfl) (fun z => cx_row (hCother (va_up z12 5 z)) ς 2 5 (by decide) rfl) q14) (cwV 1 hts (gV mw_196 mw_197 mw_198 mw_66 mw_199) rfl rfl rfl hd_X5_copyFrom ⟨Nat.le_of_ble_eq_true rfl, Nat.le_of_ble_eq_true rfl⟩) hK (show P (va_up z12 5 (z12 5)) (va_up ς 5 (ς 5)) _ by (repeat rw [va_up_id]); exact hP) rfl (at_Row (cx_row (hC ς) z12 2 5 (by decide) rfl) (show P (va_up z12 5 (z12 5)) ς _ by (repeat rw [va_up_id]); exact hP)) rfl hl.1 rfl (Nat.le_of_ble_eq_true rfl) dX1_copyFrom_52 ⟨Nat.zero_le _, Nat.zero_le _⟩ hL (fun H locs hP hL => ?_)
  obtain ⟨z15, ez15, hf⟩ := cx_letE hf
  replace hP : P z15 ς H := by rw [← ez15]; (first | exact hP | (simpa only [va_up_id] using hP))
  replace hP : P z15 ς H := by first | exact hP | (simpa only [va_up_id] using hP)
  refine lv_aload_n hx hb dX1_copyFrom_55 rfl (lv_at hl 0 rfl) ?_
  refine g_Cache_5 (hC ς) hP hx hb hts hown hK mw_70 dX1_copyFrom_56 ?_
  refine lv_aload_n hx hb dX1_copyFrom_59 rfl (lv_at hl 1 rfl) ?_
  refine g_Cache_5 (hCother z15) hP hx hb hts hown hK mw_70 dX1_copyFrom_60 ?_
  obtain ⟨r16, q17, hf⟩ := cx_b hf
  refine cx_callV (As := [.ref ((adRow adother 3) 0)]) (rest := []) ⟨hx, hb, hml, hown, hts⟩ (c_X5_copyFrom (fun z => cx_row (hC (va_up ς 6 z)) z15 3 6 (by decide) rfl) (fun z => cx_row (hCother (va_up z15 6 z)) ς 3 6 (by decide) rfl) q17) (cwV 1 hts (gV mw_196 mw_197 mw_198 mw_66 mw_199) rfl rfl rfl hd_X5_copyFrom ⟨Nat.le_of_ble_eq_true rfl, Nat.le_of_ble_eq_true rfl⟩) hK (show P (va_up z15 6 (z15 6)) (va_up ς 6 (ς 6)) _ by (repeat rw [va_up_id]); exact hP) rfl (at_Row (cx_row (hC ς) z15 3 6 (by decide) rfl) (show P (va_up z15 6 (z15 6)) ς _ by (repeat rw [va_up_id]); exact hP)) rfl hl.1 rfl (Nat.le_of_ble_eq_true rfl) dX1_copyFrom_63 ⟨Nat.zero_le _, Nat.zero_le _⟩ hL (fun H locs hP hL => ?_)
  obtain ⟨z18, ez18, hf⟩ := cx_letE hf
  replace hP : P z18 ς H := by rw [← ez18]; (first | exact hP | (simpa only [va_up_id] using hP))
  replace hP : P z18 ς H := by first | exact hP | (simpa only [va_up_id] using hP)
  refine lv_aload_n hx hb dX1_copyFrom_66 rfl (lv_at hl 0 rfl) ?_
  refine g_Cache_6 (hC ς) hP hx hb hts hown hK mw_71 dX1_copyFrom_67 ?_
  refine lv_aload_n hx hb dX1_copyFrom_70 rfl (lv_at hl 1 rfl) ?_
  refine g_Cache_6 (hCother z18) hP hx hb hts hown hK mw_71 dX1_copyFrom_71 ?_
  obtain ⟨r19, q20, hf⟩ := cx_b hf
  refine cx_callV (As := [.ref ((adRow adother 4) 0)]) (rest := []) ⟨hx, hb, hml, hown, hts⟩ (c_X5_copyFrom (fun z => cx_row (hC (va_up ς 7 z)) z18 4 7 (by decide) rfl) (fun z => cx_row (hCother (va_up z18 7 z)) ς 4 7 (by decide) rfl) q20) (cwV 1 hts (gV mw_196 mw_197 mw_198 mw_66 mw_199) rfl rfl rfl hd_X5_copyFrom ⟨Nat.le_of_ble_eq_true rfl, Nat.le_of_ble_eq_true rfl⟩) hK (show P (va_up z18 7 (z18 7)) (va_up ς 7 (ς 7)) _ by (repeat rw [va_up_id]); exact hP) rfl (at_Row (cx_row (hC ς) z18 4 7 (by decide) rfl) (show P (va_up z18 7 (z18 7)) ς _ by (repeat rw [va_up_id]); exact hP)) rfl hl.1 rfl (Nat.le_of_ble_eq_true rfl) dX1_copyFrom_74 ⟨Nat.zero_le _, Nat.zero_le _⟩ hL (fun H locs hP hL => ?_)
  obtain ⟨z21, ez21, hf⟩ := cx_letE hf
  replace hP : P z21 ς H := by rw [← ez21]; (first | exact hP | (simpa only [va_up_id] using hP))
  replace hP : P z21 ς H := by first | exact hP | (simpa only [va_up_id] using hP)
  refine lv_aload_n hx hb dX1_copyFrom_77 rfl (lv_at hl 0 rfl) ?_
  refine lv_aload_n hx hb dX1_copyFrom_78 rfl (lv_at hl 1 rfl) ?_
  refine g_Cache_9 (hCother z21) hP hx hb hts hown hK mw_171 dX1_copyFrom_79 ?_
  obtain ⟨z22, ez22, hf⟩ := cx_letE hf
  refine p_Cache_9 (hC ς) hP hx hb hts hown hK mw_171 dX1_copyFrom_82 hL (fun H locs hP hL => ?_)
  replace hP : P z22 ς H := by rw [← ez22]; exact hP
  refine lv_aload_n hx hb dX1_copyFrom_85 rfl (lv_at hl 0 rfl) ?_
  refine lv_aload_n hx hb dX1_copyFrom_86 rfl (lv_at hl 1 rfl) ?_
  refine g_Cache_10 (hCother z22) hP hx hb hts hown hK mw_77 dX1_copyFrom_87 ?_
  obtain ⟨z23, ez23, hf⟩ := cx_letE hf
  refine p_Cache_10 (hC ς) hP hx hb hts hown hK mw_77 dX1_copyFrom_90 hL (fun H locs hP hL => ?_)
  replace hP : P z23 ς H := by rw [← ez23]; exact hP
  refine lv_aload_n hx hb dX1_copyFrom_93 rfl (lv_at hl 0 rfl) ?_
  refine lv_aload_n hx hb dX1_copyFrom_94 rfl (lv_at hl 1 rfl) ?_
  refine g_Cache_11 (hCother z23) hP hx hb hts hown hK mw_78 dX1_copyFrom_95 ?_
  obtain ⟨z24, ez24, hf⟩ := cx_letE hf
  refine p_Cache_11 (hC ς) hP hx hb hts hown hK mw_78 dX1_copyFrom_98 hL (fun H locs hP hL => ?_)
  replace hP : P z24 ς H := by rw [← ez24]; exact hP
  refine lv_aload_n hx hb dX1_copyFrom_101 rfl (lv_at hl 0 rfl) ?_
  refine lv_aload_n hx hb dX1_copyFrom_102 rfl (lv_at hl 1 rfl) ?_
  refine g_Cache_12 (hCother z24) hP hx hb hts hown hK mw_79 dX1_copyFrom_103 ?_
  obtain ⟨z25, ez25, hf⟩ := cx_letE hf
  refine p_Cache_12 (hC ς) hP hx hb hts hown hK mw_79 dX1_copyFrom_106 hL (fun H locs hP hL => ?_)
  replace hP : P z25 ς H := by rw [← ez25]; exact hP
  refine lv_aload_n hx hb dX1_copyFrom_109 rfl (lv_at hl 0 rfl) ?_
  refine lv_aload_n hx hb dX1_copyFrom_110 rfl (lv_at hl 1 rfl) ?_
  refine g_Cache_13 (hCother z25) hP hx hb hts hown hK mw_80 dX1_copyFrom_111 ?_
  obtain ⟨z26, ez26, hf⟩ := cx_letE hf
  refine p_Cache_13 (hC ς) hP hx hb hts hown hK mw_80 dX1_copyFrom_114 hL (fun H locs hP hL => ?_)
  replace hP : P z26 ς H := by rw [← ez26]; exact hP
  refine lv_aload_n hx hb dX1_copyFrom_117 rfl (lv_at hl 0 rfl) ?_
  refine lv_aload_n hx hb dX1_copyFrom_118 rfl (lv_at hl 1 rfl) ?_
  refine g_Cache_14 (hCother z26) hP hx hb hts hown hK mw_172 dX1_copyFrom_119 ?_
  obtain ⟨z27, ez27, hf⟩ := cx_letE hf
  refine p_Cache_14 (hC ς) hP hx hb hts hown hK mw_172 dX1_copyFrom_122 hL (fun H locs hP hL => ?_)
  replace hP : P z27 ς H := by rw [← ez27]; exact hP
  refine lv_iconst (v := 0) hx hb dX1_copyFrom_125 (by decide) ?_
  refine lv_istore_n (lv' := [(2, .int 0), (0, .ref (ad 0)), (1, .ref (adother 0))]) hx hb dX1_copyFrom_126 rfl hl (by decide) rfl (fun ls hl => ?_)
  exact w_X1_copyFrom_b127 C0 hC hCother N z27 ς 0 _ _ _ hf hP hL (lv_sub hl [1, 2, 0] rfl)
