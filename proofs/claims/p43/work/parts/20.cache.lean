abbrev rm_X1_rowOf : Room := { frames := 0, cells := 0, slots := 0, locals := 0 }
theorem hd_X1_rowOf : yX1_rowOf.cls = RX1 ∧ yX1_rowOf.cls ≠ "java/lang/invoke/MethodHandle" ∧ yX1_rowOf.cls ≠ "java/lang/invoke/VarHandle" ∧ (parseMethodDescriptor yX1_rowOf.desc).map (fun d => d.parameters.length) = some 1 := by decide +kernel
def f_X1_rowOf (σ : CacS) (p0 : Int32) : Option (Nat) := if p0 = 0 then some 0 else if p0 = 1 then some 1 else if p0 = 2 then some 2 else if p0 = 3 then some 3 else some 4
set_option maxHeartbeats 4000000 in
set_option maxRecDepth 100000 in
theorem c_X1_rowOf {l : Launch} {G : va_G} {cA : Nat → ClassId} {lo : Nat} {ad : Nat → Nat} {P : CacS → Heap → Prop} (hC : cx G lo 25 ad (ceCache cA ad) P) {σ : CacS} {p0 : Int32} {res : Nat} (hf : f_X1_rowOf σ p0 = some res) : Met l yX1_rowOf (cW yX1_rowOf cX1_rowOf 2 (some (.object "GhostLayers$Row"))) rm_X1_rowOf (cP [.ref (ad 0), .int p0] (P σ) G cA) (cQ (some (.ref (adRow ad res 0))) (P σ)) 0 0 (fun q => lo ≤ q) := by
  refine cx_met (by decide) (Nat.le_of_ble_eq_true rfl) (fun p e s m args below meth c ls C0 hP hl => ?_)
  have hl : lv_has ls 2 [(0, .ref (ad 0)), (1, .int p0)] := hl
  obtain ⟨⟨hx, hb, hml, hown, hts⟩, hr, hlocks, hK⟩ := id C0
  have hL : ∀ q ∈ ([] : List Loc), lo ≤ q.base := fun q h => nomatch h
  unfold f_X1_rowOf at hf
  refine lv_iload_n hx hb dX1_rowOf_0 rfl (lv_at hl 1 rfl) ?_
  by_cases c1 : p0 = 0
  · have hf := cx_t hf c1
    refine lv_tableIn (off := 31) (tgt := 32) hx hb dX1_rowOf_1 (by rw [c1]; decide) (by rw [c1]; decide) (by rw [c1]; rfl) (by decide) ?_
    refine lv_aload_n hx hb dX1_rowOf_32 rfl (lv_at hl 0 rfl) ?_
    refine g_Cache_2 hC hP hx hb hts hown hK mw_67 dX1_rowOf_33 ?_
    cases hf
    exact cx_aret hx hb hr hlocks hP hL dX1_rowOf_36
  · have hf := cx_f hf c1
    by_cases c2 : p0 = 1
    · have hf := cx_t hf c2
      refine lv_tableIn (off := 36) (tgt := 37) hx hb dX1_rowOf_1 (by rw [c2]; decide) (by rw [c2]; decide) (by rw [c2]; rfl) (by decide) ?_
      refine lv_aload_n hx hb dX1_rowOf_37 rfl (lv_at hl 0 rfl) ?_
      refine g_Cache_3 hC hP hx hb hts hown hK mw_68 dX1_rowOf_38 ?_
      cases hf
      exact cx_aret hx hb hr hlocks hP hL dX1_rowOf_41
    · have hf := cx_f hf c2
      by_cases c3 : p0 = 2
      · have hf := cx_t hf c3
        refine lv_tableIn (off := 41) (tgt := 42) hx hb dX1_rowOf_1 (by rw [c3]; decide) (by rw [c3]; decide) (by rw [c3]; rfl) (by decide) ?_
        refine lv_aload_n hx hb dX1_rowOf_42 rfl (lv_at hl 0 rfl) ?_
        refine g_Cache_4 hC hP hx hb hts hown hK mw_69 dX1_rowOf_43 ?_
        cases hf
        exact cx_aret hx hb hr hlocks hP hL dX1_rowOf_46
      · have hf := cx_f hf c3
        by_cases c4 : p0 = 3
        · have hf := cx_t hf c4
          refine lv_tableIn (off := 46) (tgt := 47) hx hb dX1_rowOf_1 (by rw [c4]; decide) (by rw [c4]; decide) (by rw [c4]; rfl) (by decide) ?_
          refine lv_aload_n hx hb dX1_rowOf_47 rfl (lv_at hl 0 rfl) ?_
          refine g_Cache_5 hC hP hx hb hts hown hK mw_70 dX1_rowOf_48 ?_
          cases hf
          exact cx_aret hx hb hr hlocks hP hL dX1_rowOf_51
        · have hf := cx_f hf c4
          refine lv_tableOut (tgt := 52) hx hb dX1_rowOf_1 (by have := lv_neT (a := 0) c1 (by decide); have := lv_neT (a := 1) c2 (by decide); have := lv_neT (a := 2) c3 (by decide); have := lv_neT (a := 3) c4 (by decide); omega) (by decide) ?_
          refine lv_aload_n hx hb dX1_rowOf_52 rfl (lv_at hl 0 rfl) ?_
          refine g_Cache_6 hC hP hx hb hts hown hK mw_71 dX1_rowOf_53 ?_
          cases hf
          exact cx_aret hx hb hr hlocks hP hL dX1_rowOf_56
theorem f_X1_rowOf_lt {σ : CacS} {p0 : Int32} {r : Nat} (h : f_X1_rowOf σ p0 = some r) : r < 5 := by
  unfold f_X1_rowOf at h
  repeat' split at h
  all_goals (cases h; decide)
abbrev rm_X1_clientOf : Room := { frames := 0, cells := 0, slots := 0, locals := 0 }
theorem hd_X1_clientOf : yX1_clientOf.cls = RX1 ∧ yX1_clientOf.cls ≠ "java/lang/invoke/MethodHandle" ∧ yX1_clientOf.cls ≠ "java/lang/invoke/VarHandle" ∧ (parseMethodDescriptor yX1_clientOf.desc).map (fun d => d.parameters.length) = some 1 := by decide +kernel
def f_X1_clientOf (σ : CacS) (p0 : Int32) : Option ((Option Nat)) := if p0 < 0 then some none else if (σ 0).2 9 ≤ p0 then some none else if 4 ≤ p0 then some none else gd p0 4 (some (some (Int32.toNatClampNeg p0)))
set_option maxHeartbeats 4000000 in
set_option maxRecDepth 100000 in
theorem c_X1_clientOf {l : Launch} {G : va_G} {cA : Nat → ClassId} {lo : Nat} {ad : Nat → Nat} {P : CacS → Heap → Prop} (hC : cx G lo 25 ad (ceCache cA ad) P) {σ : CacS} {p0 : Int32} {res : (Option Nat)} (hf : f_X1_clientOf σ p0 = some res) : Met l yX1_clientOf (cW yX1_clientOf cX1_clientOf 3 (some (.object "GhostLayers$Client"))) rm_X1_clientOf (cP [.ref (ad 0), .int p0] (P σ) G cA) (cQ (some (va_rf (Option.map (fun k => adCli ad k 0) res))) (P σ)) 0 0 (fun q => lo ≤ q) := by
  refine cx_met (by decide) (Nat.le_of_ble_eq_true rfl) (fun p e s m args below meth c ls C0 hP hl => ?_)
  have hl : lv_has ls 3 [(0, .ref (ad 0)), (1, .int p0)] := hl
  obtain ⟨⟨hx, hb, hml, hown, hts⟩, hr, hlocks, hK⟩ := id C0
  have hL : ∀ q ∈ ([] : List Loc), lo ≤ q.base := fun q h => nomatch h
  unfold f_X1_clientOf at hf
  refine lv_iload_n hx hb dX1_clientOf_0 rfl (lv_at hl 1 rfl) ?_
  refine lv_if_lt (tgt := 25) hx hb dX1_clientOf_1 (by decide) (fun c1 => ?_) (fun c1 => ?_)
  · have hf := cx_t hf c1
    refine lv_iconst (v := 0) hx hb dX1_clientOf_25 (by decide) ?_
    refine lv_istore_n (lv' := [(2, .int 0), (0, .ref (ad 0)), (1, .int p0)]) hx hb dX1_clientOf_26 rfl hl (by decide) rfl (fun ls hl => ?_)
    refine lv_iload_n hx hb dX1_clientOf_27 rfl (lv_at hl 0 rfl) ?_
    refine lv_if_eq (tgt := 40) hx hb dX1_clientOf_28 (by decide) (fun _ => ?_) (fun q => absurd (by decide) q)
    refine lv_null hx hb dX1_clientOf_40 ?_
    cases hf
    exact cx_aretN hx hb hr hlocks hP hL dX1_clientOf_41
  · have hf := cx_f hf c1
    refine lv_iload_n hx hb dX1_clientOf_4 rfl (lv_at hl 1 rfl) ?_
    refine lv_aload_n hx hb dX1_clientOf_5 rfl (lv_at hl 0 rfl) ?_
    refine g_Cache_9 hC hP hx hb hts hown hK mw_171 dX1_clientOf_6 ?_
    refine lv_icmp_ge (tgt := 25) hx hb dX1_clientOf_9 (by decide) (fun c2 => ?_) (fun c2 => ?_)
    · have hf := cx_t hf c2
      refine lv_iconst (v := 0) hx hb dX1_clientOf_25 (by decide) ?_
      refine lv_istore_n (lv' := [(2, .int 0), (0, .ref (ad 0)), (1, .int p0)]) hx hb dX1_clientOf_26 rfl hl (by decide) rfl (fun ls hl => ?_)
      refine lv_iload_n hx hb dX1_clientOf_27 rfl (lv_at hl 0 rfl) ?_
      refine lv_if_eq (tgt := 40) hx hb dX1_clientOf_28 (by decide) (fun _ => ?_) (fun q => absurd (by decide) q)
      refine lv_null hx hb dX1_clientOf_40 ?_
      cases hf
      exact cx_aretN hx hb hr hlocks hP hL dX1_clientOf_41
    · have hf := cx_f hf c2
      refine lv_iload_n hx hb dX1_clientOf_12 rfl (lv_at hl 1 rfl) ?_
      refine lv_aload_n hx hb dX1_clientOf_13 rfl (lv_at hl 0 rfl) ?_
      refine g_Cache_7 hC hP hx hb hts hown hK mw_74 dX1_clientOf_14 ?_
      refine lc_Cache hC hP hx hb hK dX1_clientOf_17 ?_
      refine lv_icmp_ge (tgt := 25) hx hb dX1_clientOf_18 (by decide) (fun c3 => ?_) (fun c3 => ?_)
      · have hf := cx_t hf c3
        refine lv_iconst (v := 0) hx hb dX1_clientOf_25 (by decide) ?_
        refine lv_istore_n (lv' := [(2, .int 0), (0, .ref (ad 0)), (1, .int p0)]) hx hb dX1_clientOf_26 rfl hl (by decide) rfl (fun ls hl => ?_)
        refine lv_iload_n hx hb dX1_clientOf_27 rfl (lv_at hl 0 rfl) ?_
        refine lv_if_eq (tgt := 40) hx hb dX1_clientOf_28 (by decide) (fun _ => ?_) (fun q => absurd (by decide) q)
        refine lv_null hx hb dX1_clientOf_40 ?_
        cases hf
        exact cx_aretN hx hb hr hlocks hP hL dX1_clientOf_41
      · have hf := cx_f hf c3
        refine lv_iconst (v := 1) hx hb dX1_clientOf_21 (by decide) ?_
        refine lv_goto (tgt := 26) hx hb dX1_clientOf_22 (by decide) ?_
        refine lv_istore_n (lv' := [(2, .int 1), (0, .ref (ad 0)), (1, .int p0)]) hx hb dX1_clientOf_26 rfl hl (by decide) rfl (fun ls hl => ?_)
        refine lv_iload_n hx hb dX1_clientOf_27 rfl (lv_at hl 0 rfl) ?_
        refine lv_if_eq (tgt := 40) hx hb dX1_clientOf_28 (by decide) (fun q => absurd q (by decide)) (fun _ => ?_)
        refine lv_aload_n hx hb dX1_clientOf_31 rfl (lv_at hl 1 rfl) ?_
        refine g_Cache_7 hC hP hx hb hts hown hK mw_74 dX1_clientOf_32 ?_
        refine lv_iload_n hx hb dX1_clientOf_35 rfl (lv_at hl 2 rfl) ?_
        obtain ⟨hi4, hf⟩ := gdE hf
        refine gc_Cache hC hP hx hb hK hi4 dX1_clientOf_36 ?_
        refine lv_goto (tgt := 41) hx hb dX1_clientOf_37 (by decide) ?_
        cases hf
        exact cx_aret hx hb hr hlocks hP hL dX1_clientOf_41
theorem f_X1_clientOf_lt {σ : CacS} {p0 : Int32} {k : Nat} (h : f_X1_clientOf σ p0 = some (some k)) : k < 4 := by
  unfold f_X1_clientOf at h
  repeat' split at h
  all_goals first | (obtain ⟨hi, h⟩ := gdE h; cases h; exact vp_lt hi) | cases h
abbrev rm_X1_runAt : Room := { frames := 1, cells := 0, slots := 0, locals := 22 }
theorem hd_X1_runAt : yX1_runAt.cls = RX1 ∧ yX1_runAt.cls ≠ "java/lang/invoke/MethodHandle" ∧ yX1_runAt.cls ≠ "java/lang/invoke/VarHandle" ∧ (parseMethodDescriptor yX1_runAt.desc).map (fun d => d.parameters.length) = some 2 := by decide +kernel
def f_X1_runAt (σ : CacS) (p0 : Int32) (p1 : Int32) : Option (Int32) := (f_X1_clientOf σ p0).bind fun r1 => on_ r1 (some 1) (fun k3 => (f_X2_runWith (σ (8 + k3)) p1).bind fun r4 => some r4)
set_option maxHeartbeats 4000000 in
set_option maxRecDepth 100000 in
theorem c_X1_runAt {l : Launch} {G : va_G} {cA : Nat → ClassId} {lo : Nat} {ad : Nat → Nat} {P : CacS → Heap → Prop} (hC : cx G lo 25 ad (ceCache cA ad) P) {σ : CacS} {p0 : Int32} {p1 : Int32} {res : Int32} (hf : f_X1_runAt σ p0 p1 = some res) : Met l yX1_runAt (cW yX1_runAt cX1_runAt 4 (some .int)) rm_X1_runAt (cP [.ref (ad 0), .int p0, .int p1] (P σ) G cA) (cQ (some (.int res)) (P σ)) 0 0 (fun q => lo ≤ q) := by
  refine cx_met (by decide) (Nat.le_of_ble_eq_true rfl) (fun p e s m args below meth c ls C0 hP hl => ?_)
  have hl : lv_has ls 4 [(0, .ref (ad 0)), (1, .int p0), (2, .int p1)] := hl
  obtain ⟨⟨hx, hb, hml, hown, hts⟩, hr, hlocks, hK⟩ := id C0
  have hL : ∀ q ∈ ([] : List Loc), lo ≤ q.base := fun q h => nomatch h
  unfold f_X1_runAt at hf
  refine lv_aload_n hx hb dX1_runAt_0 rfl (lv_at hl 0 rfl) ?_
  refine lv_iload_n hx hb dX1_runAt_1 rfl (lv_at hl 1 rfl) ?_
  obtain ⟨r1, q2, hf⟩ := cx_b hf
  refine cx_callV (As := [.int p0]) (rest := []) ⟨hx, hb, hml, hown, hts⟩ (c_X1_clientOf hC q2) (cwV 1 hts (gV mw_205 mw_206 mw_207 mw_29 mw_208) rfl rfl rfl hd_X1_clientOf ⟨Nat.le_of_ble_eq_true rfl, Nat.le_of_ble_eq_true rfl⟩) hK hP rfl (at_Cache hC hP) rfl hl.1 rfl (Nat.le_of_ble_eq_true rfl) dX1_runAt_2 ⟨Nat.zero_le _, Nat.zero_le _⟩ hL (fun H locs hP hL => ?_)
  replace hP : P σ H := by first | exact hP | (simpa only [va_up_id] using hP)
  cases r1 with
  | none =>
    have hf := on_N hf
    refine lv_astore_nN (lv' := [(3, .null), (0, .ref (ad 0)), (1, .int p0), (2, .int p1)]) hx hb dX1_runAt_5 rfl hl (by decide) rfl (fun ls hl => ?_)
    refine lv_aload_nN hx hb dX1_runAt_6 rfl (lv_at hl 0 rfl) ?_
    refine lv_ifnonnullN hx hb dX1_runAt_7 ?_
    refine lv_iconst (v := 1) hx hb dX1_runAt_10 (by decide) ?_
    refine lv_goto (tgt := 19) hx hb dX1_runAt_11 (by decide) ?_
    cases hf
    exact cx_iret hx hb hr hlocks hP hL dX1_runAt_19
  | some k3 =>
    have hf := on_S hf
    have hk3 := f_X1_clientOf_lt q2
    refine lv_astore_n (lv' := [(3, .ref ((adCli ad k3) 0)), (0, .ref (ad 0)), (1, .int p0), (2, .int p1)]) hx hb dX1_runAt_5 rfl hl (by decide) rfl (fun ls hl => ?_)
    refine lv_aload_n hx hb dX1_runAt_6 rfl (lv_at hl 0 rfl) ?_
    refine lv_ifnonnull (tgt := 14) hx hb dX1_runAt_7 (by decide) ?_
    refine lv_aload_n hx hb dX1_runAt_14 rfl (lv_at hl 0 rfl) ?_
    refine lv_iload_n hx hb dX1_runAt_15 rfl (lv_at hl 3 rfl) ?_
    obtain ⟨r4, q5, hf⟩ := cx_b hf
    refine cx_callV (As := [.int p1]) (rest := []) ⟨hx, hb, hml, hown, hts⟩ (c_X2_runWith (cx_cli hC σ k3 (8 + k3) hk3 rfl) q5) (cwV 1 hts (gV mw_405 mw_406 mw_407 mw_76 mw_408) rfl rfl rfl hd_X2_runWith ⟨Nat.le_of_ble_eq_true rfl, Nat.le_of_ble_eq_true rfl⟩) hK (cx_id (8 + k3) hP) rfl (at_Client (cx_cli hC σ k3 (8 + k3) hk3 rfl) (cx_id (8 + k3) hP)) rfl hl.1 rfl (Nat.le_of_ble_eq_true rfl) dX1_runAt_16 ⟨Nat.zero_le _, Nat.zero_le _⟩ hL (fun H locs hP hL => ?_)
    replace hP : P σ H := by first | exact hP | (simpa only [va_up_id] using hP)
    cases hf
    exact cx_iret hx hb hr hlocks hP hL dX1_runAt_19
abbrev rm_X1_sumOfWeights : Room := { frames := 1, cells := 0, slots := 0, locals := 22 }
theorem hd_X1_sumOfWeights : yX1_sumOfWeights.cls = RX1 ∧ yX1_sumOfWeights.cls ≠ "java/lang/invoke/MethodHandle" ∧ yX1_sumOfWeights.cls ≠ "java/lang/invoke/VarHandle" ∧ (parseMethodDescriptor yX1_sumOfWeights.desc).map (fun d => d.parameters.length) = some 0 := by decide +kernel
def f_X1_sumOfWeights_b4 (N : Nat) : Nat → CacS → Int32 → Int32 → Option (Int32)
  | 0, _, _, _ => none
  | n + 1, σ, x1, x2 => if (σ 0).2 9 ≤ x2 then some x1 else (f_X1_clientOf σ x2).bind fun r2 => on_ r2 (f_X1_sumOfWeights_b4 N n σ (x1 + 0) (x2 + 1)) (fun k4 => f_X1_sumOfWeights_b4 N n σ (x1 + (σ (8 + k4)).2 0) (x2 + 1))
set_option maxHeartbeats 4000000 in
set_option maxRecDepth 100000 in
theorem w_X1_sumOfWeights_b4 {p : Program} {l : Launch} {e : Env} {s : State} {m : MethodId} {args : Array Value} {below : List Frame} {meth : Method} {c : Code} {G : va_G} {cA : Nat → ClassId} (C0 : cB p s m args meth c RX1 cX1_sumOfWeights 4 (some .int) G cA) {lo : Nat} {ad : Nat → Nat} {P : CacS → Heap → Prop} (hC : cx G lo 25 ad (ceCache cA ad) P) {N : Nat} {res : Int32} : ∀ (n : Nat) (σ : CacS) (x1 : Int32) (x2 : Int32) (H : Heap) (locs : List Loc) (ls : Array Slot), f_X1_sumOfWeights_b4 N n σ x1 x2 = some res → P σ H → (∀ q ∈ locs, lo ≤ q.base) → lv_has ls 4 [(0, .ref (ad 0)), (1, .int x1), (2, .int x2)] → W p l e rm_X1_sumOfWeights s m args below meth c H locs 0 0 (MQ below (cQ (some (.int res)) (P σ)) args s 0 0 (fun q => lo ≤ q)) (F0 m 4 ls []) := by
  obtain ⟨⟨hx, hb, hml, hown, hts⟩, hr, hlocks, hK⟩ := id C0
  intro n
  induction n with
  | zero => intro σ x1 x2 H locs ls
            exact fun hf => nomatch hf
  | succ n ih =>
    intro σ x1 x2 H locs ls hf hP hL hl
    rw [f_X1_sumOfWeights_b4] at hf
    refine lv_iload_n hx hb dX1_sumOfWeights_4 rfl (lv_at hl 2 rfl) ?_
    refine lv_aload_n hx hb dX1_sumOfWeights_5 rfl (lv_at hl 0 rfl) ?_
    refine g_Cache_9 hC hP hx hb hts hown hK mw_171 dX1_sumOfWeights_6 ?_
    refine lv_icmp_ge (tgt := 39) hx hb dX1_sumOfWeights_9 (by decide) (fun c1 => ?_) (fun c1 => ?_)
    · have hf := cx_t hf c1
      refine lv_iload_n hx hb dX1_sumOfWeights_39 rfl (lv_at hl 1 rfl) ?_
      cases hf
      exact cx_iret hx hb hr hlocks hP hL dX1_sumOfWeights_40
    · have hf := cx_f hf c1
      refine lv_aload_n hx hb dX1_sumOfWeights_12 rfl (lv_at hl 0 rfl) ?_
      refine lv_iload_n hx hb dX1_sumOfWeights_13 rfl (lv_at hl 2 rfl) ?_
      obtain ⟨r2, q3, hf⟩ := cx_b hf
      refine cx_callV (As := [.int x2]) (rest := []) ⟨hx, hb, hml, hown, hts⟩ (c_X1_clientOf hC q3) (cwV 1 hts (gV mw_205 mw_206 mw_207 mw_29 mw_208) rfl rfl rfl hd_X1_clientOf ⟨Nat.le_of_ble_eq_true rfl, Nat.le_of_ble_eq_true rfl⟩) hK hP rfl (at_Cache hC hP) rfl hl.1 rfl (Nat.le_of_ble_eq_true rfl) dX1_sumOfWeights_14 ⟨Nat.zero_le _, Nat.zero_le _⟩ hL (fun H locs hP hL => ?_)
      replace hP : P σ H := by first | exact hP | (simpa only [va_up_id] using hP)
      cases r2 with
      | none =>
        have hf := on_N hf
        refine lv_astore_nN (lv' := [(3, .null), (0, .ref (ad 0)), (1, .int x1), (2, .int x2)]) hx hb dX1_sumOfWeights_17 rfl hl (by decide) rfl (fun ls hl => ?_)
        refine lv_iload_n hx hb dX1_sumOfWeights_18 rfl (lv_at hl 2 rfl) ?_
        refine lv_aload_nN hx hb dX1_sumOfWeights_19 rfl (lv_at hl 0 rfl) ?_
        refine lv_ifnonnullN hx hb dX1_sumOfWeights_20 ?_
        refine lv_iconst (v := 0) hx hb dX1_sumOfWeights_23 (by decide) ?_
        refine lv_goto (tgt := 31) hx hb dX1_sumOfWeights_24 (by decide) ?_
        refine lv_iadd hx hb dX1_sumOfWeights_31 ?_
        refine lv_istore_n (lv' := [(1, .int (x1 + 0)), (3, .null), (0, .ref (ad 0)), (2, .int x2)]) hx hb dX1_sumOfWeights_32 rfl hl (by decide) rfl (fun ls hl => ?_)
        refine lv_iinc (v := (x2 + 1)) (lv' := [(2, .int (x2 + 1)), (1, .int (x1 + 0)), (3, .null), (0, .ref (ad 0))]) hx hb dX1_sumOfWeights_33 hl (k := 3) rfl rfl (by decide) rfl (fun ls hl => ?_)
        refine lv_goto (tgt := 4) hx hb dX1_sumOfWeights_36 (by decide) ?_
        exact ih σ (x1 + 0) (x2 + 1) _ _ _ hf hP hL (lv_sub hl [3, 1, 0] rfl)
      | some k4 =>
        have hf := on_S hf
        have hk4 := f_X1_clientOf_lt q3
        refine lv_astore_n (lv' := [(3, .ref ((adCli ad k4) 0)), (0, .ref (ad 0)), (1, .int x1), (2, .int x2)]) hx hb dX1_sumOfWeights_17 rfl hl (by decide) rfl (fun ls hl => ?_)
        refine lv_iload_n hx hb dX1_sumOfWeights_18 rfl (lv_at hl 2 rfl) ?_
        refine lv_aload_n hx hb dX1_sumOfWeights_19 rfl (lv_at hl 0 rfl) ?_
        refine lv_ifnonnull (tgt := 27) hx hb dX1_sumOfWeights_20 (by decide) ?_
        refine lv_aload_n hx hb dX1_sumOfWeights_27 rfl (lv_at hl 0 rfl) ?_
        refine g_Client_0 (cx_cli hC σ k4 (8 + k4) hk4 rfl) (cx_id (8 + k4) hP) hx hb hts hown hK mw_339 dX1_sumOfWeights_28 ?_
        refine lv_iadd hx hb dX1_sumOfWeights_31 ?_
        refine lv_istore_n (lv' := [(1, .int (x1 + (σ (8 + k4)).2 0)), (3, .ref ((adCli ad k4) 0)), (0, .ref (ad 0)), (2, .int x2)]) hx hb dX1_sumOfWeights_32 rfl hl (by decide) rfl (fun ls hl => ?_)
        refine lv_iinc (v := (x2 + 1)) (lv' := [(2, .int (x2 + 1)), (1, .int (x1 + (σ (8 + k4)).2 0)), (3, .ref ((adCli ad k4) 0)), (0, .ref (ad 0))]) hx hb dX1_sumOfWeights_33 hl (k := 3) rfl rfl (by decide) rfl (fun ls hl => ?_)
        refine lv_goto (tgt := 4) hx hb dX1_sumOfWeights_36 (by decide) ?_
        exact ih σ (x1 + (σ (8 + k4)).2 0) (x2 + 1) _ _ _ hf hP hL (lv_sub hl [3, 1, 0] rfl)
def f_X1_sumOfWeights (N : Nat) (σ : CacS) : Option (Int32) := f_X1_sumOfWeights_b4 N N σ 0 0
set_option maxHeartbeats 4000000 in
set_option maxRecDepth 100000 in
theorem c_X1_sumOfWeights {l : Launch} {G : va_G} {cA : Nat → ClassId} {lo : Nat} {ad : Nat → Nat} {P : CacS → Heap → Prop} (hC : cx G lo 25 ad (ceCache cA ad) P) {N : Nat} {σ : CacS} {res : Int32} (hf : f_X1_sumOfWeights N σ = some res) : Met l yX1_sumOfWeights (cW yX1_sumOfWeights cX1_sumOfWeights 4 (some .int)) rm_X1_sumOfWeights (cP [.ref (ad 0)] (P σ) G cA) (cQ (some (.int res)) (P σ)) 0 0 (fun q => lo ≤ q) := by
  refine cx_met (by decide) (Nat.le_of_ble_eq_true rfl) (fun p e s m args below meth c ls C0 hP hl => ?_)
  have hl : lv_has ls 4 [(0, .ref (ad 0))] := hl
  obtain ⟨⟨hx, hb, hml, hown, hts⟩, hr, hlocks, hK⟩ := id C0
  have hL : ∀ q ∈ ([] : List Loc), lo ≤ q.base := fun q h => nomatch h
  unfold f_X1_sumOfWeights at hf
  refine lv_iconst (v := 0) hx hb dX1_sumOfWeights_0 (by decide) ?_
  refine lv_istore_n (lv' := [(1, .int 0), (0, .ref (ad 0))]) hx hb dX1_sumOfWeights_1 rfl hl (by decide) rfl (fun ls hl => ?_)
  refine lv_iconst (v := 0) hx hb dX1_sumOfWeights_2 (by decide) ?_
  refine lv_istore_n (lv' := [(2, .int 0), (1, .int 0), (0, .ref (ad 0))]) hx hb dX1_sumOfWeights_3 rfl hl (by decide) rfl (fun ls hl => ?_)
  exact w_X1_sumOfWeights_b4 C0 hC N σ 0 0 _ _ _ hf hP hL (lv_sub hl [2, 1, 0] rfl)
abbrev rm_X1_numberOf : Room := { frames := 1, cells := 0, slots := 0, locals := 22 }
theorem hd_X1_numberOf : yX1_numberOf.cls = RX1 ∧ yX1_numberOf.cls ≠ "java/lang/invoke/MethodHandle" ∧ yX1_numberOf.cls ≠ "java/lang/invoke/VarHandle" ∧ (parseMethodDescriptor yX1_numberOf.desc).map (fun d => d.parameters.length) = some 1 := by decide +kernel
def f_X1_numberOf (N : Nat) (σ : CacS) (p0 : Int32) : Option (Int32) := if p0 = 0 then some ((σ 0).2 10) else if p0 = 1 then some ((σ 0).2 11) else if p0 = 2 then some ((σ 0).2 12) else if p0 = 3 then some ((σ 0).2 13) else if p0 = 4 then some ((σ 0).2 14) else if p0 = 5 then (f_X6_numberOf (σ 2) p0).bind fun r7 => some r7 else if p0 = 6 then some ((σ 0).2 9) else if p0 = 7 then (f_X1_rowOf σ (p0 - 7)).bind fun r11 => some ((σ (3 + r11)).2 1) else if p0 = 8 then (f_X1_rowOf σ (p0 - 7)).bind fun r14 => some ((σ (3 + r14)).2 1) else if p0 = 9 then (f_X1_rowOf σ (p0 - 7)).bind fun r17 => some ((σ (3 + r17)).2 1) else if p0 = 10 then (f_X1_rowOf σ (p0 - 7)).bind fun r20 => some ((σ (3 + r20)).2 1) else if p0 = 11 then (f_X1_rowOf σ (p0 - 7)).bind fun r23 => some ((σ (3 + r23)).2 1) else if p0 = 12 then (f_X0_howManyDirty N (σ 1)).bind fun r26 => some r26 else if p0 = 13 then some ((σ 1).2 6) else if p0 = 14 then (f_X6_numberOf (σ 2) p0).bind fun r30 => some r30 else if p0 = 15 then (f_X6_numberOf (σ 2) p0).bind fun r33 => some r33 else if p0 = 16 then (f_X6_numberOf (σ 2) p0).bind fun r36 => some r36 else if p0 = 17 then (f_X6_numberOf (σ 2) p0).bind fun r39 => some r39 else if p0 = 18 then (f_X6_numberOf (σ 2) p0).bind fun r42 => some r42 else if p0 = 19 then (f_X6_numberOf (σ 2) p0).bind fun r45 => some r45 else if p0 = 20 then (f_X6_numberOf (σ 2) p0).bind fun r48 => some r48 else if p0 = 21 then some ((σ 1).2 7) else (f_X6_numberOf (σ 2) p0).bind fun r51 => some r51
set_option maxHeartbeats 4000000 in
set_option maxRecDepth 100000 in
theorem c_X1_numberOf {l : Launch} {G : va_G} {cA : Nat → ClassId} {lo : Nat} {ad : Nat → Nat} {P : CacS → Heap → Prop} (hC : cx G lo 25 ad (ceCache cA ad) P) {N : Nat} {σ : CacS} {p0 : Int32} {res : Int32} (hf : f_X1_numberOf N σ p0 = some res) : Met l yX1_numberOf (cW yX1_numberOf cX1_numberOf 2 (some .int)) rm_X1_numberOf (cP [.ref (ad 0), .int p0] (P σ) G cA) (cQ (some (.int res)) (P σ)) 0 0 (fun q => lo ≤ q) := by
  refine cx_met (by decide) (Nat.le_of_ble_eq_true rfl) (fun p e s m args below meth c ls C0 hP hl => ?_)
  have hl : lv_has ls 2 [(0, .ref (ad 0)), (1, .int p0)] := hl
  obtain ⟨⟨hx, hb, hml, hown, hts⟩, hr, hlocks, hK⟩ := id C0
  have hL : ∀ q ∈ ([] : List Loc), lo ≤ q.base := fun q h => nomatch h
  unfold f_X1_numberOf at hf
  refine lv_iload_n hx hb dX1_numberOf_0 rfl (lv_at hl 1 rfl) ?_
  by_cases c1 : p0 = 0
  · have hf := cx_t hf c1
    refine lv_tableIn (off := 103) (tgt := 104) hx hb dX1_numberOf_1 (by rw [c1]; decide) (by rw [c1]; decide) (by rw [c1]; rfl) (by decide) ?_
    refine lv_aload_n hx hb dX1_numberOf_104 rfl (lv_at hl 0 rfl) ?_
    refine g_Cache_10 hC hP hx hb hts hown hK mw_77 dX1_numberOf_105 ?_
    cases hf
    exact cx_iret hx hb hr hlocks hP hL dX1_numberOf_108
  · have hf := cx_f hf c1
    by_cases c2 : p0 = 1
    · have hf := cx_t hf c2
      refine lv_tableIn (off := 108) (tgt := 109) hx hb dX1_numberOf_1 (by rw [c2]; decide) (by rw [c2]; decide) (by rw [c2]; rfl) (by decide) ?_
      refine lv_aload_n hx hb dX1_numberOf_109 rfl (lv_at hl 0 rfl) ?_
      refine g_Cache_11 hC hP hx hb hts hown hK mw_78 dX1_numberOf_110 ?_
      cases hf
      exact cx_iret hx hb hr hlocks hP hL dX1_numberOf_113
    · have hf := cx_f hf c2
      by_cases c3 : p0 = 2
      · have hf := cx_t hf c3
        refine lv_tableIn (off := 113) (tgt := 114) hx hb dX1_numberOf_1 (by rw [c3]; decide) (by rw [c3]; decide) (by rw [c3]; rfl) (by decide) ?_
        refine lv_aload_n hx hb dX1_numberOf_114 rfl (lv_at hl 0 rfl) ?_
        refine g_Cache_12 hC hP hx hb hts hown hK mw_79 dX1_numberOf_115 ?_
        cases hf
        exact cx_iret hx hb hr hlocks hP hL dX1_numberOf_118
      · have hf := cx_f hf c3
        by_cases c4 : p0 = 3
        · have hf := cx_t hf c4
          refine lv_tableIn (off := 118) (tgt := 119) hx hb dX1_numberOf_1 (by rw [c4]; decide) (by rw [c4]; decide) (by rw [c4]; rfl) (by decide) ?_
          refine lv_aload_n hx hb dX1_numberOf_119 rfl (lv_at hl 0 rfl) ?_
          refine g_Cache_13 hC hP hx hb hts hown hK mw_80 dX1_numberOf_120 ?_
          cases hf
          exact cx_iret hx hb hr hlocks hP hL dX1_numberOf_123
        · have hf := cx_f hf c4
          by_cases c5 : p0 = 4
          · have hf := cx_t hf c5
            refine lv_tableIn (off := 123) (tgt := 124) hx hb dX1_numberOf_1 (by rw [c5]; decide) (by rw [c5]; decide) (by rw [c5]; rfl) (by decide) ?_
            refine lv_aload_n hx hb dX1_numberOf_124 rfl (lv_at hl 0 rfl) ?_
            refine g_Cache_14 hC hP hx hb hts hown hK mw_172 dX1_numberOf_125 ?_
            cases hf
            exact cx_iret hx hb hr hlocks hP hL dX1_numberOf_128
          · have hf := cx_f hf c5
            by_cases c6 : p0 = 5
            · have hf := cx_t hf c6
              refine lv_tableIn (off := 169) (tgt := 170) hx hb dX1_numberOf_1 (by rw [c6]; decide) (by rw [c6]; decide) (by rw [c6]; rfl) (by decide) ?_
              refine lv_aload_n hx hb dX1_numberOf_170 rfl (lv_at hl 0 rfl) ?_
              refine g_Cache_1 hC hP hx hb hts hown hK mw_63 dX1_numberOf_171 ?_
              refine lv_iload_n hx hb dX1_numberOf_174 rfl (lv_at hl 1 rfl) ?_
              obtain ⟨r7, q8, hf⟩ := cx_b hf
              refine cx_callV (As := [.int p0]) (rest := []) ⟨hx, hb, hml, hown, hts⟩ (c_X6_numberOf (cx_tal hC σ) q8) (cwV 1 hts (gV mw_297 mw_298 mw_299 mw_62 mw_300) rfl rfl rfl hd_X6_numberOf ⟨Nat.le_of_ble_eq_true rfl, Nat.le_of_ble_eq_true rfl⟩) hK (cx_id 2 hP) rfl (at_Tally (cx_tal hC σ) (cx_id 2 hP)) rfl hl.1 rfl (Nat.le_of_ble_eq_true rfl) dX1_numberOf_175 ⟨Nat.zero_le _, Nat.zero_le _⟩ hL (fun H locs hP hL => ?_)
              replace hP : P σ H := by first | exact hP | (simpa only [va_up_id] using hP)
              cases hf
              exact cx_iret hx hb hr hlocks hP hL dX1_numberOf_178
            · have hf := cx_f hf c6
              by_cases c9 : p0 = 6
              · have hf := cx_t hf c9
                refine lv_tableIn (off := 128) (tgt := 129) hx hb dX1_numberOf_1 (by rw [c9]; decide) (by rw [c9]; decide) (by rw [c9]; rfl) (by decide) ?_
                refine lv_aload_n hx hb dX1_numberOf_129 rfl (lv_at hl 0 rfl) ?_
                refine g_Cache_9 hC hP hx hb hts hown hK mw_171 dX1_numberOf_130 ?_
                cases hf
                exact cx_iret hx hb hr hlocks hP hL dX1_numberOf_133
              · have hf := cx_f hf c9
                by_cases c10 : p0 = 7
                · have hf := cx_t hf c10
                  refine lv_tableIn (off := 133) (tgt := 134) hx hb dX1_numberOf_1 (by rw [c10]; decide) (by rw [c10]; decide) (by rw [c10]; rfl) (by decide) ?_
                  refine lv_aload_n hx hb dX1_numberOf_134 rfl (lv_at hl 0 rfl) ?_
                  refine lv_iload_n hx hb dX1_numberOf_135 rfl (lv_at hl 1 rfl) ?_
                  refine lv_bipush (v := 7) hx hb dX1_numberOf_136 (by decide) ?_
                  refine lv_isub hx hb dX1_numberOf_138 ?_
                  obtain ⟨r11, q12, hf⟩ := cx_b hf
                  refine cx_callV (As := [.int (p0 - 7)]) (rest := []) ⟨hx, hb, hml, hown, hts⟩ (c_X1_rowOf hC q12) (cwV 1 hts (gV mw_289 mw_290 mw_291 mw_29 mw_292) rfl rfl rfl hd_X1_rowOf ⟨Nat.le_of_ble_eq_true rfl, Nat.le_of_ble_eq_true rfl⟩) hK hP rfl (at_Cache hC hP) rfl hl.1 rfl (Nat.le_of_ble_eq_true rfl) dX1_numberOf_139 ⟨Nat.zero_le _, Nat.zero_le _⟩ hL (fun H locs hP hL => ?_)
                  replace hP : P σ H := by first | exact hP | (simpa only [va_up_id] using hP)
                  have hr11 := f_X1_rowOf_lt q12
                  refine g_Row_1 (cx_row hC σ r11 (3 + r11) hr11 rfl) (cx_id (3 + r11) hP) hx hb hts hown hK mw_239 dX1_numberOf_142 ?_
                  cases hf
                  exact cx_iret hx hb hr hlocks hP hL dX1_numberOf_145
                · have hf := cx_f hf c10
                  by_cases c13 : p0 = 8
                  · have hf := cx_t hf c13
                    refine lv_tableIn (off := 133) (tgt := 134) hx hb dX1_numberOf_1 (by rw [c13]; decide) (by rw [c13]; decide) (by rw [c13]; rfl) (by decide) ?_
                    refine lv_aload_n hx hb dX1_numberOf_134 rfl (lv_at hl 0 rfl) ?_
                    refine lv_iload_n hx hb dX1_numberOf_135 rfl (lv_at hl 1 rfl) ?_
                    refine lv_bipush (v := 7) hx hb dX1_numberOf_136 (by decide) ?_
                    refine lv_isub hx hb dX1_numberOf_138 ?_
                    obtain ⟨r14, q15, hf⟩ := cx_b hf
                    refine cx_callV (As := [.int (p0 - 7)]) (rest := []) ⟨hx, hb, hml, hown, hts⟩ (c_X1_rowOf hC q15) (cwV 1 hts (gV mw_289 mw_290 mw_291 mw_29 mw_292) rfl rfl rfl hd_X1_rowOf ⟨Nat.le_of_ble_eq_true rfl, Nat.le_of_ble_eq_true rfl⟩) hK hP rfl (at_Cache hC hP) rfl hl.1 rfl (Nat.le_of_ble_eq_true rfl) dX1_numberOf_139 ⟨Nat.zero_le _, Nat.zero_le _⟩ hL (fun H locs hP hL => ?_)
                    replace hP : P σ H := by first | exact hP | (simpa only [va_up_id] using hP)
                    have hr14 := f_X1_rowOf_lt q15
                    refine g_Row_1 (cx_row hC σ r14 (3 + r14) hr14 rfl) (cx_id (3 + r14) hP) hx hb hts hown hK mw_239 dX1_numberOf_142 ?_
                    cases hf
                    exact cx_iret hx hb hr hlocks hP hL dX1_numberOf_145
                  · have hf := cx_f hf c13
                    by_cases c16 : p0 = 9
                    · have hf := cx_t hf c16
                      refine lv_tableIn (off := 133) (tgt := 134) hx hb dX1_numberOf_1 (by rw [c16]; decide) (by rw [c16]; decide) (by rw [c16]; rfl) (by decide) ?_
                      refine lv_aload_n hx hb dX1_numberOf_134 rfl (lv_at hl 0 rfl) ?_
                      refine lv_iload_n hx hb dX1_numberOf_135 rfl (lv_at hl 1 rfl) ?_
                      refine lv_bipush (v := 7) hx hb dX1_numberOf_136 (by decide) ?_
                      refine lv_isub hx hb dX1_numberOf_138 ?_
                      obtain ⟨r17, q18, hf⟩ := cx_b hf
                      refine cx_callV (As := [.int (p0 - 7)]) (rest := []) ⟨hx, hb, hml, hown, hts⟩ (c_X1_rowOf hC q18) (cwV 1 hts (gV mw_289 mw_290 mw_291 mw_29 mw_292) rfl rfl rfl hd_X1_rowOf ⟨Nat.le_of_ble_eq_true rfl, Nat.le_of_ble_eq_true rfl⟩) hK hP rfl (at_Cache hC hP) rfl hl.1 rfl (Nat.le_of_ble_eq_true rfl) dX1_numberOf_139 ⟨Nat.zero_le _, Nat.zero_le _⟩ hL (fun H locs hP hL => ?_)
                      replace hP : P σ H := by first | exact hP | (simpa only [va_up_id] using hP)
                      have hr17 := f_X1_rowOf_lt q18
                      refine g_Row_1 (cx_row hC σ r17 (3 + r17) hr17 rfl) (cx_id (3 + r17) hP) hx hb hts hown hK mw_239 dX1_numberOf_142 ?_
                      cases hf
                      exact cx_iret hx hb hr hlocks hP hL dX1_numberOf_145
                    · have hf := cx_f hf c16
                      by_cases c19 : p0 = 10
                      · have hf := cx_t hf c19
                        refine lv_tableIn (off := 133) (tgt := 134) hx hb dX1_numberOf_1 (by rw [c19]; decide) (by rw [c19]; decide) (by rw [c19]; rfl) (by decide) ?_
                        refine lv_aload_n hx hb dX1_numberOf_134 rfl (lv_at hl 0 rfl) ?_
                        refine lv_iload_n hx hb dX1_numberOf_135 rfl (lv_at hl 1 rfl) ?_
                        refine lv_bipush (v := 7) hx hb dX1_numberOf_136 (by decide) ?_
                        refine lv_isub hx hb dX1_numberOf_138 ?_
                        obtain ⟨r20, q21, hf⟩ := cx_b hf
                        refine cx_callV (As := [.int (p0 - 7)]) (rest := []) ⟨hx, hb, hml, hown, hts⟩ (c_X1_rowOf hC q21) (cwV 1 hts (gV mw_289 mw_290 mw_291 mw_29 mw_292) rfl rfl rfl hd_X1_rowOf ⟨Nat.le_of_ble_eq_true rfl, Nat.le_of_ble_eq_true rfl⟩) hK hP rfl (at_Cache hC hP) rfl hl.1 rfl (Nat.le_of_ble_eq_true rfl) dX1_numberOf_139 ⟨Nat.zero_le _, Nat.zero_le _⟩ hL (fun H locs hP hL => ?_)
                        replace hP : P σ H := by first | exact hP | (simpa only [va_up_id] using hP)
                        have hr20 := f_X1_rowOf_lt q21
                        refine g_Row_1 (cx_row hC σ r20 (3 + r20) hr20 rfl) (cx_id (3 + r20) hP) hx hb hts hown hK mw_239 dX1_numberOf_142 ?_
                        cases hf
                        exact cx_iret hx hb hr hlocks hP hL dX1_numberOf_145
                      · have hf := cx_f hf c19
                        by_cases c22 : p0 = 11
                        · have hf := cx_t hf c22
                          refine lv_tableIn (off := 133) (tgt := 134) hx hb dX1_numberOf_1 (by rw [c22]; decide) (by rw [c22]; decide) (by rw [c22]; rfl) (by decide) ?_
                          refine lv_aload_n hx hb dX1_numberOf_134 rfl (lv_at hl 0 rfl) ?_
                          refine lv_iload_n hx hb dX1_numberOf_135 rfl (lv_at hl 1 rfl) ?_
                          refine lv_bipush (v := 7) hx hb dX1_numberOf_136 (by decide) ?_
                          refine lv_isub hx hb dX1_numberOf_138 ?_
                          obtain ⟨r23, q24, hf⟩ := cx_b hf
                          refine cx_callV (As := [.int (p0 - 7)]) (rest := []) ⟨hx, hb, hml, hown, hts⟩ (c_X1_rowOf hC q24) (cwV 1 hts (gV mw_289 mw_290 mw_291 mw_29 mw_292) rfl rfl rfl hd_X1_rowOf ⟨Nat.le_of_ble_eq_true rfl, Nat.le_of_ble_eq_true rfl⟩) hK hP rfl (at_Cache hC hP) rfl hl.1 rfl (Nat.le_of_ble_eq_true rfl) dX1_numberOf_139 ⟨Nat.zero_le _, Nat.zero_le _⟩ hL (fun H locs hP hL => ?_)
                          replace hP : P σ H := by first | exact hP | (simpa only [va_up_id] using hP)
                          have hr23 := f_X1_rowOf_lt q24
                          refine g_Row_1 (cx_row hC σ r23 (3 + r23) hr23 rfl) (cx_id (3 + r23) hP) hx hb hts hown hK mw_239 dX1_numberOf_142 ?_
                          cases hf
                          exact cx_iret hx hb hr hlocks hP hL dX1_numberOf_145
                        · have hf := cx_f hf c22
                          by_cases c25 : p0 = 12
                          · have hf := cx_t hf c25
                            refine lv_tableIn (off := 145) (tgt := 146) hx hb dX1_numberOf_1 (by rw [c25]; decide) (by rw [c25]; decide) (by rw [c25]; rfl) (by decide) ?_
                            refine lv_aload_n hx hb dX1_numberOf_146 rfl (lv_at hl 0 rfl) ?_
                            refine g_Cache_0 hC hP hx hb hts hown hK mw_59 dX1_numberOf_147 ?_
                            obtain ⟨r26, q27, hf⟩ := cx_b hf
                            refine cx_callV (As := []) (rest := []) ⟨hx, hb, hml, hown, hts⟩ (c_X0_howManyDirty (cx_blk hC σ) q27) (cwV 0 hts (gV mw_293 mw_294 mw_295 mw_58 mw_296) rfl rfl rfl hd_X0_howManyDirty ⟨Nat.le_of_ble_eq_true rfl, Nat.le_of_ble_eq_true rfl⟩) hK (cx_id 1 hP) rfl (at_Blocks (cx_blk hC σ) (cx_id 1 hP)) rfl hl.1 rfl (Nat.le_of_ble_eq_true rfl) dX1_numberOf_150 ⟨Nat.zero_le _, Nat.zero_le _⟩ hL (fun H locs hP hL => ?_)
                            replace hP : P σ H := by first | exact hP | (simpa only [va_up_id] using hP)
                            cases hf
                            exact cx_iret hx hb hr hlocks hP hL dX1_numberOf_153
                          · have hf := cx_f hf c25
                            by_cases c28 : p0 = 13
                            · have hf := cx_t hf c28
                              refine lv_tableIn (off := 153) (tgt := 154) hx hb dX1_numberOf_1 (by rw [c28]; decide) (by rw [c28]; decide) (by rw [c28]; rfl) (by decide) ?_
                              refine lv_aload_n hx hb dX1_numberOf_154 rfl (lv_at hl 0 rfl) ?_
                              refine g_Cache_0 hC hP hx hb hts hown hK mw_59 dX1_numberOf_155 ?_
                              refine g_Blocks_6 (cx_blk hC σ) (cx_id 1 hP) hx hb hts hown hK mw_287 dX1_numberOf_158 ?_
                              cases hf
                              exact cx_iret hx hb hr hlocks hP hL dX1_numberOf_161
                            · have hf := cx_f hf c28
                              by_cases c29 : p0 = 14
                              · have hf := cx_t hf c29
                                refine lv_tableIn (off := 169) (tgt := 170) hx hb dX1_numberOf_1 (by rw [c29]; decide) (by rw [c29]; decide) (by rw [c29]; rfl) (by decide) ?_
                                refine lv_aload_n hx hb dX1_numberOf_170 rfl (lv_at hl 0 rfl) ?_
                                refine g_Cache_1 hC hP hx hb hts hown hK mw_63 dX1_numberOf_171 ?_
                                refine lv_iload_n hx hb dX1_numberOf_174 rfl (lv_at hl 1 rfl) ?_
                                obtain ⟨r30, q31, hf⟩ := cx_b hf
                                refine cx_callV (As := [.int p0]) (rest := []) ⟨hx, hb, hml, hown, hts⟩ (c_X6_numberOf (cx_tal hC σ) q31) (cwV 1 hts (gV mw_297 mw_298 mw_299 mw_62 mw_300) rfl rfl rfl hd_X6_numberOf ⟨Nat.le_of_ble_eq_true rfl, Nat.le_of_ble_eq_true rfl⟩) hK (cx_id 2 hP) rfl (at_Tally (cx_tal hC σ) (cx_id 2 hP)) rfl hl.1 rfl (Nat.le_of_ble_eq_true rfl) dX1_numberOf_175 ⟨Nat.zero_le _, Nat.zero_le _⟩ hL (fun H locs hP hL => ?_)
                                replace hP : P σ H := by first | exact hP | (simpa only [va_up_id] using hP)
                                cases hf
                                exact cx_iret hx hb hr hlocks hP hL dX1_numberOf_178
                              · have hf := cx_f hf c29
                                by_cases c32 : p0 = 15
                                · have hf := cx_t hf c32
                                  refine lv_tableIn (off := 169) (tgt := 170) hx hb dX1_numberOf_1 (by rw [c32]; decide) (by rw [c32]; decide) (by rw [c32]; rfl) (by decide) ?_
                                  refine lv_aload_n hx hb dX1_numberOf_170 rfl (lv_at hl 0 rfl) ?_
                                  refine g_Cache_1 hC hP hx hb hts hown hK mw_63 dX1_numberOf_171 ?_
                                  refine lv_iload_n hx hb dX1_numberOf_174 rfl (lv_at hl 1 rfl) ?_
                                  obtain ⟨r33, q34, hf⟩ := cx_b hf
                                  refine cx_callV (As := [.int p0]) (rest := []) ⟨hx, hb, hml, hown, hts⟩ (c_X6_numberOf (cx_tal hC σ) q34) (cwV 1 hts (gV mw_297 mw_298 mw_299 mw_62 mw_300) rfl rfl rfl hd_X6_numberOf ⟨Nat.le_of_ble_eq_true rfl, Nat.le_of_ble_eq_true rfl⟩) hK (cx_id 2 hP) rfl (at_Tally (cx_tal hC σ) (cx_id 2 hP)) rfl hl.1 rfl (Nat.le_of_ble_eq_true rfl) dX1_numberOf_175 ⟨Nat.zero_le _, Nat.zero_le _⟩ hL (fun H locs hP hL => ?_)
                                  replace hP : P σ H := by first | exact hP | (simpa only [va_up_id] using hP)
                                  cases hf
                                  exact cx_iret hx hb hr hlocks hP hL dX1_numberOf_178
                                · have hf := cx_f hf c32
                                  by_cases c35 : p0 = 16
                                  · have hf := cx_t hf c35
                                    refine lv_tableIn (off := 169) (tgt := 170) hx hb dX1_numberOf_1 (by rw [c35]; decide) (by rw [c35]; decide) (by rw [c35]; rfl) (by decide) ?_
                                    refine lv_aload_n hx hb dX1_numberOf_170 rfl (lv_at hl 0 rfl) ?_
                                    refine g_Cache_1 hC hP hx hb hts hown hK mw_63 dX1_numberOf_171 ?_
                                    refine lv_iload_n hx hb dX1_numberOf_174 rfl (lv_at hl 1 rfl) ?_
                                    obtain ⟨r36, q37, hf⟩ := cx_b hf
                                    refine cx_callV (As := [.int p0]) (rest := []) ⟨hx, hb, hml, hown, hts⟩ (c_X6_numberOf (cx_tal hC σ) q37) (cwV 1 hts (gV mw_297 mw_298 mw_299 mw_62 mw_300) rfl rfl rfl hd_X6_numberOf ⟨Nat.le_of_ble_eq_true rfl, Nat.le_of_ble_eq_true rfl⟩) hK (cx_id 2 hP) rfl (at_Tally (cx_tal hC σ) (cx_id 2 hP)) rfl hl.1 rfl (Nat.le_of_ble_eq_true rfl) dX1_numberOf_175 ⟨Nat.zero_le _, Nat.zero_le _⟩ hL (fun H locs hP hL => ?_)
                                    replace hP : P σ H := by first | exact hP | (simpa only [va_up_id] using hP)
                                    cases hf
                                    exact cx_iret hx hb hr hlocks hP hL dX1_numberOf_178
                                  · have hf := cx_f hf c35
                                    by_cases c38 : p0 = 17
                                    · have hf := cx_t hf c38
                                      refine lv_tableIn (off := 169) (tgt := 170) hx hb dX1_numberOf_1 (by rw [c38]; decide) (by rw [c38]; decide) (by rw [c38]; rfl) (by decide) ?_
                                      refine lv_aload_n hx hb dX1_numberOf_170 rfl (lv_at hl 0 rfl) ?_
                                      refine g_Cache_1 hC hP hx hb hts hown hK mw_63 dX1_numberOf_171 ?_
                                      refine lv_iload_n hx hb dX1_numberOf_174 rfl (lv_at hl 1 rfl) ?_
                                      obtain ⟨r39, q40, hf⟩ := cx_b hf
                                      refine cx_callV (As := [.int p0]) (rest := []) ⟨hx, hb, hml, hown, hts⟩ (c_X6_numberOf (cx_tal hC σ) q40) (cwV 1 hts (gV mw_297 mw_298 mw_299 mw_62 mw_300) rfl rfl rfl hd_X6_numberOf ⟨Nat.le_of_ble_eq_true rfl, Nat.le_of_ble_eq_true rfl⟩) hK (cx_id 2 hP) rfl (at_Tally (cx_tal hC σ) (cx_id 2 hP)) rfl hl.1 rfl (Nat.le_of_ble_eq_true rfl) dX1_numberOf_175 ⟨Nat.zero_le _, Nat.zero_le _⟩ hL (fun H locs hP hL => ?_)
                                      replace hP : P σ H := by first | exact hP | (simpa only [va_up_id] using hP)
                                      cases hf
                                      exact cx_iret hx hb hr hlocks hP hL dX1_numberOf_178
                                    · have hf := cx_f hf c38
                                      by_cases c41 : p0 = 18
                                      · have hf := cx_t hf c41
                                        refine lv_tableIn (off := 169) (tgt := 170) hx hb dX1_numberOf_1 (by rw [c41]; decide) (by rw [c41]; decide) (by rw [c41]; rfl) (by decide) ?_
                                        refine lv_aload_n hx hb dX1_numberOf_170 rfl (lv_at hl 0 rfl) ?_
                                        refine g_Cache_1 hC hP hx hb hts hown hK mw_63 dX1_numberOf_171 ?_
                                        refine lv_iload_n hx hb dX1_numberOf_174 rfl (lv_at hl 1 rfl) ?_
                                        obtain ⟨r42, q43, hf⟩ := cx_b hf
                                        refine cx_callV (As := [.int p0]) (rest := []) ⟨hx, hb, hml, hown, hts⟩ (c_X6_numberOf (cx_tal hC σ) q43) (cwV 1 hts (gV mw_297 mw_298 mw_299 mw_62 mw_300) rfl rfl rfl hd_X6_numberOf ⟨Nat.le_of_ble_eq_true rfl, Nat.le_of_ble_eq_true rfl⟩) hK (cx_id 2 hP) rfl (at_Tally (cx_tal hC σ) (cx_id 2 hP)) rfl hl.1 rfl (Nat.le_of_ble_eq_true rfl) dX1_numberOf_175 ⟨Nat.zero_le _, Nat.zero_le _⟩ hL (fun H locs hP hL => ?_)
                                        replace hP : P σ H := by first | exact hP | (simpa only [va_up_id] using hP)
                                        cases hf
                                        exact cx_iret hx hb hr hlocks hP hL dX1_numberOf_178
                                      · have hf := cx_f hf c41
                                        by_cases c44 : p0 = 19
                                        · have hf := cx_t hf c44
                                          refine lv_tableIn (off := 169) (tgt := 170) hx hb dX1_numberOf_1 (by rw [c44]; decide) (by rw [c44]; decide) (by rw [c44]; rfl) (by decide) ?_
                                          refine lv_aload_n hx hb dX1_numberOf_170 rfl (lv_at hl 0 rfl) ?_
                                          refine g_Cache_1 hC hP hx hb hts hown hK mw_63 dX1_numberOf_171 ?_
                                          refine lv_iload_n hx hb dX1_numberOf_174 rfl (lv_at hl 1 rfl) ?_
                                          obtain ⟨r45, q46, hf⟩ := cx_b hf
                                          refine cx_callV (As := [.int p0]) (rest := []) ⟨hx, hb, hml, hown, hts⟩ (c_X6_numberOf (cx_tal hC σ) q46) (cwV 1 hts (gV mw_297 mw_298 mw_299 mw_62 mw_300) rfl rfl rfl hd_X6_numberOf ⟨Nat.le_of_ble_eq_true rfl, Nat.le_of_ble_eq_true rfl⟩) hK (cx_id 2 hP) rfl (at_Tally (cx_tal hC σ) (cx_id 2 hP)) rfl hl.1 rfl (Nat.le_of_ble_eq_true rfl) dX1_numberOf_175 ⟨Nat.zero_le _, Nat.zero_le _⟩ hL (fun H locs hP hL => ?_)
                                          replace hP : P σ H := by first | exact hP | (simpa only [va_up_id] using hP)
                                          cases hf
                                          exact cx_iret hx hb hr hlocks hP hL dX1_numberOf_178
                                        · have hf := cx_f hf c44
                                          by_cases c47 : p0 = 20
                                          · have hf := cx_t hf c47
                                            refine lv_tableIn (off := 169) (tgt := 170) hx hb dX1_numberOf_1 (by rw [c47]; decide) (by rw [c47]; decide) (by rw [c47]; rfl) (by decide) ?_
                                            refine lv_aload_n hx hb dX1_numberOf_170 rfl (lv_at hl 0 rfl) ?_
                                            refine g_Cache_1 hC hP hx hb hts hown hK mw_63 dX1_numberOf_171 ?_
                                            refine lv_iload_n hx hb dX1_numberOf_174 rfl (lv_at hl 1 rfl) ?_
                                            obtain ⟨r48, q49, hf⟩ := cx_b hf
                                            refine cx_callV (As := [.int p0]) (rest := []) ⟨hx, hb, hml, hown, hts⟩ (c_X6_numberOf (cx_tal hC σ) q49) (cwV 1 hts (gV mw_297 mw_298 mw_299 mw_62 mw_300) rfl rfl rfl hd_X6_numberOf ⟨Nat.le_of_ble_eq_true rfl, Nat.le_of_ble_eq_true rfl⟩) hK (cx_id 2 hP) rfl (at_Tally (cx_tal hC σ) (cx_id 2 hP)) rfl hl.1 rfl (Nat.le_of_ble_eq_true rfl) dX1_numberOf_175 ⟨Nat.zero_le _, Nat.zero_le _⟩ hL (fun H locs hP hL => ?_)
                                            replace hP : P σ H := by first | exact hP | (simpa only [va_up_id] using hP)
                                            cases hf
                                            exact cx_iret hx hb hr hlocks hP hL dX1_numberOf_178
                                          · have hf := cx_f hf c47
                                            by_cases c50 : p0 = 21
                                            · have hf := cx_t hf c50
                                              refine lv_tableIn (off := 161) (tgt := 162) hx hb dX1_numberOf_1 (by rw [c50]; decide) (by rw [c50]; decide) (by rw [c50]; rfl) (by decide) ?_
                                              refine lv_aload_n hx hb dX1_numberOf_162 rfl (lv_at hl 0 rfl) ?_
                                              refine g_Cache_0 hC hP hx hb hts hown hK mw_59 dX1_numberOf_163 ?_
                                              refine g_Blocks_7 (cx_blk hC σ) (cx_id 1 hP) hx hb hts hown hK mw_288 dX1_numberOf_166 ?_
                                              cases hf
                                              exact cx_iret hx hb hr hlocks hP hL dX1_numberOf_169
                                            · have hf := cx_f hf c50
                                              refine lv_tableOut (tgt := 170) hx hb dX1_numberOf_1 (by have := lv_neT (a := 0) c1 (by decide); have := lv_neT (a := 1) c2 (by decide); have := lv_neT (a := 2) c3 (by decide); have := lv_neT (a := 3) c4 (by decide); have := lv_neT (a := 4) c5 (by decide); have := lv_neT (a := 5) c6 (by decide); have := lv_neT (a := 6) c9 (by decide); have := lv_neT (a := 7) c10 (by decide); have := lv_neT (a := 8) c13 (by decide); have := lv_neT (a := 9) c16 (by decide); have := lv_neT (a := 10) c19 (by decide); have := lv_neT (a := 11) c22 (by decide); have := lv_neT (a := 12) c25 (by decide); have := lv_neT (a := 13) c28 (by decide); have := lv_neT (a := 14) c29 (by decide); have := lv_neT (a := 15) c32 (by decide); have := lv_neT (a := 16) c35 (by decide); have := lv_neT (a := 17) c38 (by decide); have := lv_neT (a := 18) c41 (by decide); have := lv_neT (a := 19) c44 (by decide); have := lv_neT (a := 20) c47 (by decide); have := lv_neT (a := 21) c50 (by decide); omega) (by decide) ?_
                                              refine lv_aload_n hx hb dX1_numberOf_170 rfl (lv_at hl 0 rfl) ?_
                                              refine g_Cache_1 hC hP hx hb hts hown hK mw_63 dX1_numberOf_171 ?_
                                              refine lv_iload_n hx hb dX1_numberOf_174 rfl (lv_at hl 1 rfl) ?_
                                              obtain ⟨r51, q52, hf⟩ := cx_b hf
                                              refine cx_callV (As := [.int p0]) (rest := []) ⟨hx, hb, hml, hown, hts⟩ (c_X6_numberOf (cx_tal hC σ) q52) (cwV 1 hts (gV mw_297 mw_298 mw_299 mw_62 mw_300) rfl rfl rfl hd_X6_numberOf ⟨Nat.le_of_ble_eq_true rfl, Nat.le_of_ble_eq_true rfl⟩) hK (cx_id 2 hP) rfl (at_Tally (cx_tal hC σ) (cx_id 2 hP)) rfl hl.1 rfl (Nat.le_of_ble_eq_true rfl) dX1_numberOf_175 ⟨Nat.zero_le _, Nat.zero_le _⟩ hL (fun H locs hP hL => ?_)
                                              replace hP : P σ H := by first | exact hP | (simpa only [va_up_id] using hP)
                                              cases hf
                                              exact cx_iret hx hb hr hlocks hP hL dX1_numberOf_178
abbrev rm_X1_howManyOwned : Room := { frames := 1, cells := 0, slots := 0, locals := 21 }
theorem hd_X1_howManyOwned : yX1_howManyOwned.cls = RX1 ∧ yX1_howManyOwned.cls ≠ "java/lang/invoke/MethodHandle" ∧ yX1_howManyOwned.cls ≠ "java/lang/invoke/VarHandle" ∧ (parseMethodDescriptor yX1_howManyOwned.desc).map (fun d => d.parameters.length) = some 2 := by decide +kernel
def f_X1_howManyOwned_b5 (N : Nat) : Nat → CacS → Nat → Int32 → Int32 → Int32 → Option (Int32)
  | 0, _, _, _, _, _ => none
  | n + 1, σ, x1, x2, x3, x4 => if (σ (3 + x1)).2 1 ≤ x4 then some x3 else (f_X5_blockAt (σ (3 + x1)) x4).bind fun r2 => (f_X0_ownerOf (σ 1) r2).bind fun r4 => if r4 = x2 then f_X1_howManyOwned_b5 N n σ x1 x2 (x3 + 1) (x4 + 1) else f_X1_howManyOwned_b5 N n σ x1 x2 x3 (x4 + 1)
set_option maxHeartbeats 4000000 in
set_option maxRecDepth 100000 in
theorem w_X1_howManyOwned_b5 {p : Program} {l : Launch} {e : Env} {s : State} {m : MethodId} {args : Array Value} {below : List Frame} {meth : Method} {c : Code} {G : va_G} {cA : Nat → ClassId} (C0 : cB p s m args meth c RX1 cX1_howManyOwned 5 (some .int) G cA) {lo : Nat} {ad : Nat → Nat} {P : CacS → Heap → Prop} (hC : cx G lo 25 ad (ceCache cA ad) P) {N : Nat} {res : Int32} : ∀ (n : Nat) (σ : CacS) (x1 : Nat) (x2 : Int32) (x3 : Int32) (x4 : Int32) (hx1 : x1 < 5) (H : Heap) (locs : List Loc) (ls : Array Slot), f_X1_howManyOwned_b5 N n σ x1 x2 x3 x4 = some res → P σ H → (∀ q ∈ locs, lo ≤ q.base) → lv_has ls 5 [(0, .ref (ad 0)), (1, .ref ((adRow ad x1) 0)), (2, .int x2), (3, .int x3), (4, .int x4)] → W p l e rm_X1_howManyOwned s m args below meth c H locs 0 0 (MQ below (cQ (some (.int res)) (P σ)) args s 0 0 (fun q => lo ≤ q)) (F0 m 5 ls []) := by
  obtain ⟨⟨hx, hb, hml, hown, hts⟩, hr, hlocks, hK⟩ := id C0
  intro n
  induction n with
  | zero => intro σ x1 x2 x3 x4 hx1 H locs ls
            exact fun hf => nomatch hf
  | succ n ih =>
    intro σ x1 x2 x3 x4 hx1 H locs ls hf hP hL hl
    rw [f_X1_howManyOwned_b5] at hf
    refine lv_iload hx hb dX1_howManyOwned_5 (lv_at hl 4 rfl) ?_
    refine lv_aload_n hx hb dX1_howManyOwned_7 rfl (lv_at hl 1 rfl) ?_
    refine g_Row_1 (cx_row hC σ x1 (3 + x1) hx1 rfl) (cx_id (3 + x1) hP) hx hb hts hown hK mw_239 dX1_howManyOwned_8 ?_
    refine lv_icmp_ge (tgt := 40) hx hb dX1_howManyOwned_11 (by decide) (fun c1 => ?_) (fun c1 => ?_)
    · have hf := cx_t hf c1
      refine lv_iload_n hx hb dX1_howManyOwned_40 rfl (lv_at hl 3 rfl) ?_
      cases hf
      exact cx_iret hx hb hr hlocks hP hL dX1_howManyOwned_41
    · have hf := cx_f hf c1
      refine lv_aload_n hx hb dX1_howManyOwned_14 rfl (lv_at hl 0 rfl) ?_
      refine g_Cache_0 hC hP hx hb hts hown hK mw_59 dX1_howManyOwned_15 ?_
      refine lv_aload_n hx hb dX1_howManyOwned_18 rfl (lv_at hl 1 rfl) ?_
      refine lv_iload hx hb dX1_howManyOwned_19 (lv_at hl 4 rfl) ?_
      obtain ⟨r2, q3, hf⟩ := cx_b hf
      refine cx_callV (As := [.int x4]) (rest := [.ref ((adBlk ad) 0)]) ⟨hx, hb, hml, hown, hts⟩ (c_X5_blockAt (cx_row hC σ x1 (3 + x1) hx1 rfl) q3) (cwV 1 hts (gV mw_330 mw_202 mw_203 mw_66 mw_204) rfl rfl rfl hd_X5_blockAt ⟨Nat.le_of_ble_eq_true rfl, Nat.le_of_ble_eq_true rfl⟩) hK (cx_id (3 + x1) hP) rfl (at_Row (cx_row hC σ x1 (3 + x1) hx1 rfl) (cx_id (3 + x1) hP)) rfl hl.1 rfl (Nat.le_of_ble_eq_true rfl) dX1_howManyOwned_21 ⟨Nat.zero_le _, Nat.zero_le _⟩ hL (fun H locs hP hL => ?_)
      replace hP : P σ H := by first | exact hP | (simpa only [va_up_id] using hP)
      obtain ⟨r4, q5, hf⟩ := cx_b hf
      refine cx_callV (As := [.int r2]) (rest := []) ⟨hx, hb, hml, hown, hts⟩ (c_X0_ownerOf (cx_blk hC σ) q5) (cwV 1 hts (gV mw_331 mw_332 mw_333 mw_58 mw_334) rfl rfl rfl hd_X0_ownerOf ⟨Nat.le_of_ble_eq_true rfl, Nat.le_of_ble_eq_true rfl⟩) hK (cx_id 1 hP) rfl (at_Blocks (cx_blk hC σ) (cx_id 1 hP)) rfl hl.1 rfl (Nat.le_of_ble_eq_true rfl) dX1_howManyOwned_24 ⟨Nat.zero_le _, Nat.zero_le _⟩ hL (fun H locs hP hL => ?_)
      replace hP : P σ H := by first | exact hP | (simpa only [va_up_id] using hP)
      refine lv_iload_n hx hb dX1_howManyOwned_27 rfl (lv_at hl 2 rfl) ?_
      refine lv_icmp_ne (tgt := 34) hx hb dX1_howManyOwned_28 (by decide) (fun c6 => ?_) (fun c6 => ?_)
      · have hf := cx_f hf c6
        refine lv_iinc (v := (x4 + 1)) (lv' := [(4, .int (x4 + 1)), (0, .ref (ad 0)), (1, .ref ((adRow ad x1) 0)), (2, .int x2), (3, .int x3)]) hx hb dX1_howManyOwned_34 hl (k := 4) rfl rfl (by decide) rfl (fun ls hl => ?_)
        refine lv_goto (tgt := 5) hx hb dX1_howManyOwned_37 (by decide) ?_
        exact ih σ x1 x2 x3 (x4 + 1) hx1 _ _ _ hf hP hL (lv_sub hl [1, 2, 3, 4, 0] rfl)
      · have hf := cx_t hf c6
        refine lv_iinc (v := (x3 + 1)) (lv' := [(3, .int (x3 + 1)), (0, .ref (ad 0)), (1, .ref ((adRow ad x1) 0)), (2, .int x2), (4, .int x4)]) hx hb dX1_howManyOwned_31 hl (k := 3) rfl rfl (by decide) rfl (fun ls hl => ?_)
        refine lv_iinc (v := (x4 + 1)) (lv' := [(4, .int (x4 + 1)), (3, .int (x3 + 1)), (0, .ref (ad 0)), (1, .ref ((adRow ad x1) 0)), (2, .int x2)]) hx hb dX1_howManyOwned_34 hl (k := 4) rfl rfl (by decide) rfl (fun ls hl => ?_)
        refine lv_goto (tgt := 5) hx hb dX1_howManyOwned_37 (by decide) ?_
        exact ih σ x1 x2 (x3 + 1) (x4 + 1) hx1 _ _ _ hf hP hL (lv_sub hl [2, 3, 4, 1, 0] rfl)
def f_X1_howManyOwned (N : Nat) (σ : CacS) (p0 : Nat) (p1 : Int32) : Option (Int32) := f_X1_howManyOwned_b5 N N σ p0 p1 0 0
set_option maxHeartbeats 4000000 in
set_option maxRecDepth 100000 in
theorem c_X1_howManyOwned {l : Launch} {G : va_G} {cA : Nat → ClassId} {lo : Nat} {ad : Nat → Nat} {P : CacS → Heap → Prop} (hC : cx G lo 25 ad (ceCache cA ad) P) {N : Nat} {σ : CacS} {p0 : Nat} {p1 : Int32} (hp0 : p0 < 5) {res : Int32} (hf : f_X1_howManyOwned N σ p0 p1 = some res) : Met l yX1_howManyOwned (cW yX1_howManyOwned cX1_howManyOwned 5 (some .int)) rm_X1_howManyOwned (cP [.ref (ad 0), .ref ((adRow ad p0) 0), .int p1] (P σ) G cA) (cQ (some (.int res)) (P σ)) 0 0 (fun q => lo ≤ q) := by
  refine cx_met (by decide) (Nat.le_of_ble_eq_true rfl) (fun p e s m args below meth c ls C0 hP hl => ?_)
  have hl : lv_has ls 5 [(0, .ref (ad 0)), (1, .ref ((adRow ad p0) 0)), (2, .int p1)] := hl
  obtain ⟨⟨hx, hb, hml, hown, hts⟩, hr, hlocks, hK⟩ := id C0
  have hL : ∀ q ∈ ([] : List Loc), lo ≤ q.base := fun q h => nomatch h
  unfold f_X1_howManyOwned at hf
  refine lv_iconst (v := 0) hx hb dX1_howManyOwned_0 (by decide) ?_
  refine lv_istore_n (lv' := [(3, .int 0), (0, .ref (ad 0)), (1, .ref ((adRow ad p0) 0)), (2, .int p1)]) hx hb dX1_howManyOwned_1 rfl hl (by decide) rfl (fun ls hl => ?_)
  refine lv_iconst (v := 0) hx hb dX1_howManyOwned_2 (by decide) ?_
  refine lv_istore (lv' := [(4, .int 0), (3, .int 0), (0, .ref (ad 0)), (1, .ref ((adRow ad p0) 0)), (2, .int p1)]) hx hb dX1_howManyOwned_3 hl (by decide) rfl (fun ls hl => ?_)
  exact w_X1_howManyOwned_b5 C0 hC N σ p0 p1 0 0 hp0 _ _ _ hf hP hL (lv_sub hl [2, 3, 4, 1, 0] rfl)
abbrev rm_X1_upperUnitsOf : Room := { frames := 2, cells := 0, slots := 0, locals := 45 }
theorem hd_X1_upperUnitsOf : yX1_upperUnitsOf.cls = RX1 ∧ yX1_upperUnitsOf.cls ≠ "java/lang/invoke/MethodHandle" ∧ yX1_upperUnitsOf.cls ≠ "java/lang/invoke/VarHandle" ∧ (parseMethodDescriptor yX1_upperUnitsOf.desc).map (fun d => d.parameters.length) = some 1 := by decide +kernel
def f_X1_upperUnitsOf (N : Nat) (σ : CacS) (p0 : Int32) : Option (Int32) := (f_X1_howManyOwned N σ 0 p0).bind fun r1 => (f_X1_howManyOwned N σ 1 p0).bind fun r3 => some (r1 + r3)
set_option maxHeartbeats 4000000 in
set_option maxRecDepth 100000 in
theorem c_X1_upperUnitsOf {l : Launch} {G : va_G} {cA : Nat → ClassId} {lo : Nat} {ad : Nat → Nat} {P : CacS → Heap → Prop} (hC : cx G lo 25 ad (ceCache cA ad) P) {N : Nat} {σ : CacS} {p0 : Int32} {res : Int32} (hf : f_X1_upperUnitsOf N σ p0 = some res) : Met l yX1_upperUnitsOf (cW yX1_upperUnitsOf cX1_upperUnitsOf 2 (some .int)) rm_X1_upperUnitsOf (cP [.ref (ad 0), .int p0] (P σ) G cA) (cQ (some (.int res)) (P σ)) 0 0 (fun q => lo ≤ q) := by
  refine cx_met (by decide) (Nat.le_of_ble_eq_true rfl) (fun p e s m args below meth c ls C0 hP hl => ?_)
  have hl : lv_has ls 2 [(0, .ref (ad 0)), (1, .int p0)] := hl
  obtain ⟨⟨hx, hb, hml, hown, hts⟩, hr, hlocks, hK⟩ := id C0
  have hL : ∀ q ∈ ([] : List Loc), lo ≤ q.base := fun q h => nomatch h
  unfold f_X1_upperUnitsOf at hf
  refine lv_aload_n hx hb dX1_upperUnitsOf_0 rfl (lv_at hl 0 rfl) ?_
  refine lv_aload_n hx hb dX1_upperUnitsOf_1 rfl (lv_at hl 0 rfl) ?_
  refine g_Cache_2 hC hP hx hb hts hown hK mw_67 dX1_upperUnitsOf_2 ?_
  refine lv_iload_n hx hb dX1_upperUnitsOf_5 rfl (lv_at hl 1 rfl) ?_
  obtain ⟨r1, q2, hf⟩ := cx_b hf
  refine cx_callV (As := [.ref ((adRow ad 0) 0), .int p0]) (rest := []) ⟨hx, hb, hml, hown, hts⟩ (c_X1_howManyOwned hC (by decide) q2) (cwV 2 hts (gV mw_326 mw_327 mw_328 mw_29 mw_329) rfl rfl rfl hd_X1_howManyOwned ⟨Nat.le_of_ble_eq_true rfl, Nat.le_of_ble_eq_true rfl⟩) hK hP rfl (at_Cache hC hP) rfl hl.1 rfl (Nat.le_of_ble_eq_true rfl) dX1_upperUnitsOf_6 ⟨Nat.zero_le _, Nat.zero_le _⟩ hL (fun H locs hP hL => ?_)
  replace hP : P σ H := by first | exact hP | (simpa only [va_up_id] using hP)
  refine lv_aload_n hx hb dX1_upperUnitsOf_9 rfl (lv_at hl 0 rfl) ?_
  refine lv_aload_n hx hb dX1_upperUnitsOf_10 rfl (lv_at hl 0 rfl) ?_
  refine g_Cache_3 hC hP hx hb hts hown hK mw_68 dX1_upperUnitsOf_11 ?_
  refine lv_iload_n hx hb dX1_upperUnitsOf_14 rfl (lv_at hl 1 rfl) ?_
  obtain ⟨r3, q4, hf⟩ := cx_b hf
  refine cx_callV (As := [.ref ((adRow ad 1) 0), .int p0]) (rest := [.int r1]) ⟨hx, hb, hml, hown, hts⟩ (c_X1_howManyOwned hC (by decide) q4) (cwV 2 hts (gV mw_326 mw_327 mw_328 mw_29 mw_329) rfl rfl rfl hd_X1_howManyOwned ⟨Nat.le_of_ble_eq_true rfl, Nat.le_of_ble_eq_true rfl⟩) hK hP rfl (at_Cache hC hP) rfl hl.1 rfl (Nat.le_of_ble_eq_true rfl) dX1_upperUnitsOf_15 ⟨Nat.zero_le _, Nat.zero_le _⟩ hL (fun H locs hP hL => ?_)
  replace hP : P σ H := by first | exact hP | (simpa only [va_up_id] using hP)
  refine lv_iadd hx hb dX1_upperUnitsOf_18 ?_
  cases hf
  exact cx_iret hx hb hr hlocks hP hL dX1_upperUnitsOf_19
abbrev rm_X1_unitsAbove : Room := { frames := 1, cells := 0, slots := 0, locals := 22 }
theorem hd_X1_unitsAbove : yX1_unitsAbove.cls = RX1 ∧ yX1_unitsAbove.cls ≠ "java/lang/invoke/MethodHandle" ∧ yX1_unitsAbove.cls ≠ "java/lang/invoke/VarHandle" ∧ (parseMethodDescriptor yX1_unitsAbove.desc).map (fun d => d.parameters.length) = some 3 := by decide +kernel
def f_X1_unitsAbove (σ : CacS) (p0 : Int32) (p1 : Int32) (p2 : Int32) : Option (Int32) := (f_X1_clientOf σ p0).bind fun r1 => on_ r1 (some 0) (fun k3 => some ((p1 * p2) - ((σ 0).2 12 * (σ (8 + k3)).2 0)))
set_option maxHeartbeats 4000000 in
set_option maxRecDepth 100000 in
theorem c_X1_unitsAbove {l : Launch} {G : va_G} {cA : Nat → ClassId} {lo : Nat} {ad : Nat → Nat} {P : CacS → Heap → Prop} (hC : cx G lo 25 ad (ceCache cA ad) P) {σ : CacS} {p0 : Int32} {p1 : Int32} {p2 : Int32} {res : Int32} (hf : f_X1_unitsAbove σ p0 p1 p2 = some res) : Met l yX1_unitsAbove (cW yX1_unitsAbove cX1_unitsAbove 5 (some .int)) rm_X1_unitsAbove (cP [.ref (ad 0), .int p0, .int p1, .int p2] (P σ) G cA) (cQ (some (.int res)) (P σ)) 0 0 (fun q => lo ≤ q) := by
  refine cx_met (by decide) (Nat.le_of_ble_eq_true rfl) (fun p e s m args below meth c ls C0 hP hl => ?_)
  have hl : lv_has ls 5 [(0, .ref (ad 0)), (1, .int p0), (2, .int p1), (3, .int p2)] := hl
  obtain ⟨⟨hx, hb, hml, hown, hts⟩, hr, hlocks, hK⟩ := id C0
  have hL : ∀ q ∈ ([] : List Loc), lo ≤ q.base := fun q h => nomatch h
  unfold f_X1_unitsAbove at hf
  refine lv_aload_n hx hb dX1_unitsAbove_0 rfl (lv_at hl 0 rfl) ?_
  refine lv_iload_n hx hb dX1_unitsAbove_1 rfl (lv_at hl 1 rfl) ?_
  obtain ⟨r1, q2, hf⟩ := cx_b hf
  refine cx_callV (As := [.int p0]) (rest := []) ⟨hx, hb, hml, hown, hts⟩ (c_X1_clientOf hC q2) (cwV 1 hts (gV mw_205 mw_206 mw_207 mw_29 mw_208) rfl rfl rfl hd_X1_clientOf ⟨Nat.le_of_ble_eq_true rfl, Nat.le_of_ble_eq_true rfl⟩) hK hP rfl (at_Cache hC hP) rfl hl.1 rfl (Nat.le_of_ble_eq_true rfl) dX1_unitsAbove_2 ⟨Nat.zero_le _, Nat.zero_le _⟩ hL (fun H locs hP hL => ?_)
  replace hP : P σ H := by first | exact hP | (simpa only [va_up_id] using hP)
  cases r1 with
  | none =>
    have hf := on_N hf
    refine lv_astoreN (lv' := [(4, .null), (0, .ref (ad 0)), (1, .int p0), (2, .int p1), (3, .int p2)]) hx hb dX1_unitsAbove_5 hl (by decide) rfl (fun ls hl => ?_)
    refine lv_aloadN hx hb dX1_unitsAbove_7 (lv_at hl 0 rfl) ?_
    refine lv_ifnonnullN hx hb dX1_unitsAbove_9 ?_
    refine lv_iconst (v := 0) hx hb dX1_unitsAbove_12 (by decide) ?_
    refine lv_goto (tgt := 30) hx hb dX1_unitsAbove_13 (by decide) ?_
    cases hf
    exact cx_iret hx hb hr hlocks hP hL dX1_unitsAbove_30
  | some k3 =>
    have hf := on_S hf
    have hk3 := f_X1_clientOf_lt q2
    refine lv_astore (lv' := [(4, .ref ((adCli ad k3) 0)), (0, .ref (ad 0)), (1, .int p0), (2, .int p1), (3, .int p2)]) hx hb dX1_unitsAbove_5 hl (by decide) rfl (fun ls hl => ?_)
    refine lv_aload hx hb dX1_unitsAbove_7 (lv_at hl 0 rfl) ?_
    refine lv_ifnonnull (tgt := 16) hx hb dX1_unitsAbove_9 (by decide) ?_
    refine lv_iload_n hx hb dX1_unitsAbove_16 rfl (lv_at hl 3 rfl) ?_
    refine lv_iload_n hx hb dX1_unitsAbove_17 rfl (lv_at hl 4 rfl) ?_
    refine lv_imul hx hb dX1_unitsAbove_18 ?_
    refine lv_aload_n hx hb dX1_unitsAbove_19 rfl (lv_at hl 1 rfl) ?_
    refine g_Cache_12 hC hP hx hb hts hown hK mw_79 dX1_unitsAbove_20 ?_
    refine lv_aload hx hb dX1_unitsAbove_23 (lv_at hl 0 rfl) ?_
    refine g_Client_0 (cx_cli hC σ k3 (8 + k3) hk3 rfl) (cx_id (8 + k3) hP) hx hb hts hown hK mw_339 dX1_unitsAbove_25 ?_
    refine lv_imul hx hb dX1_unitsAbove_28 ?_
    refine lv_isub hx hb dX1_unitsAbove_29 ?_
    cases hf
    exact cx_iret hx hb hr hlocks hP hL dX1_unitsAbove_30
abbrev rm_X1_numberOfClient : Room := { frames := 3, cells := 0, slots := 0, locals := 66 }
theorem hd_X1_numberOfClient : yX1_numberOfClient.cls = RX1 ∧ yX1_numberOfClient.cls ≠ "java/lang/invoke/MethodHandle" ∧ yX1_numberOfClient.cls ≠ "java/lang/invoke/VarHandle" ∧ (parseMethodDescriptor yX1_numberOfClient.desc).map (fun d => d.parameters.length) = some 2 := by decide +kernel
def f_X1_numberOfClient (N : Nat) (σ : CacS) (p0 : Int32) (p1 : Int32) : Option (Int32) := (f_X1_clientOf σ p0).bind fun r1 => on_ r1 (some (-1)) (fun k3 => if p1 = 1 then (f_X1_upperUnitsOf N σ p0).bind fun r5 => some r5 else if p1 = 2 then (f_X1_howManyOwned N σ 2 p0).bind fun r8 => some r8 else if p1 = 10 then (f_X1_upperUnitsOf N σ p0).bind fun r11 => (f_X1_sumOfWeights N σ).bind fun r13 => (f_X1_unitsAbove σ p0 r11 r13).bind fun r15 => if r15 ≤ 0 then some 0 else some 1 else (f_X2_numberOf (σ (8 + k3)) p1).bind fun r18 => some r18)
set_option maxHeartbeats 4000000 in
set_option maxRecDepth 100000 in
theorem c_X1_numberOfClient {l : Launch} {G : va_G} {cA : Nat → ClassId} {lo : Nat} {ad : Nat → Nat} {P : CacS → Heap → Prop} (hC : cx G lo 25 ad (ceCache cA ad) P) {N : Nat} {σ : CacS} {p0 : Int32} {p1 : Int32} {res : Int32} (hf : f_X1_numberOfClient N σ p0 p1 = some res) : Met l yX1_numberOfClient (cW yX1_numberOfClient cX1_numberOfClient 4 (some .int)) rm_X1_numberOfClient (cP [.ref (ad 0), .int p0, .int p1] (P σ) G cA) (cQ (some (.int res)) (P σ)) 0 0 (fun q => lo ≤ q) := by
  refine cx_met (by decide) (Nat.le_of_ble_eq_true rfl) (fun p e s m args below meth c ls C0 hP hl => ?_)
  have hl : lv_has ls 4 [(0, .ref (ad 0)), (1, .int p0), (2, .int p1)] := hl
  obtain ⟨⟨hx, hb, hml, hown, hts⟩, hr, hlocks, hK⟩ := id C0
  have hL : ∀ q ∈ ([] : List Loc), lo ≤ q.base := fun q h => nomatch h
  unfold f_X1_numberOfClient at hf
  refine lv_aload_n hx hb dX1_numberOfClient_0 rfl (lv_at hl 0 rfl) ?_
  refine lv_iload_n hx hb dX1_numberOfClient_1 rfl (lv_at hl 1 rfl) ?_
  obtain ⟨r1, q2, hf⟩ := cx_b hf
  refine cx_callV (As := [.int p0]) (rest := []) ⟨hx, hb, hml, hown, hts⟩ (c_X1_clientOf hC q2) (cwV 1 hts (gV mw_205 mw_206 mw_207 mw_29 mw_208) rfl rfl rfl hd_X1_clientOf ⟨Nat.le_of_ble_eq_true rfl, Nat.le_of_ble_eq_true rfl⟩) hK hP rfl (at_Cache hC hP) rfl hl.1 rfl (Nat.le_of_ble_eq_true rfl) dX1_numberOfClient_2 ⟨Nat.zero_le _, Nat.zero_le _⟩ hL (fun H locs hP hL => ?_)
  replace hP : P σ H := by first | exact hP | (simpa only [va_up_id] using hP)
  cases r1 with
  | none =>
    have hf := on_N hf
    refine lv_astore_nN (lv' := [(3, .null), (0, .ref (ad 0)), (1, .int p0), (2, .int p1)]) hx hb dX1_numberOfClient_5 rfl hl (by decide) rfl (fun ls hl => ?_)
    refine lv_aload_nN hx hb dX1_numberOfClient_6 rfl (lv_at hl 0 rfl) ?_
    refine lv_ifnonnullN hx hb dX1_numberOfClient_7 ?_
    refine lv_iconst (v := (-1)) hx hb dX1_numberOfClient_10 (by decide) ?_
    cases hf
    exact cx_iret hx hb hr hlocks hP hL dX1_numberOfClient_11
  | some k3 =>
    have hf := on_S hf
    have hk3 := f_X1_clientOf_lt q2
    refine lv_astore_n (lv' := [(3, .ref ((adCli ad k3) 0)), (0, .ref (ad 0)), (1, .int p0), (2, .int p1)]) hx hb dX1_numberOfClient_5 rfl hl (by decide) rfl (fun ls hl => ?_)
    refine lv_aload_n hx hb dX1_numberOfClient_6 rfl (lv_at hl 0 rfl) ?_
    refine lv_ifnonnull (tgt := 12) hx hb dX1_numberOfClient_7 (by decide) ?_
    refine lv_iload_n hx hb dX1_numberOfClient_12 rfl (lv_at hl 3 rfl) ?_
    by_cases c4 : p1 = 1
    · have hf := cx_t hf c4
      refine lv_lookup (off := 35) (tgt := 48) hx hb dX1_numberOfClient_13 (by decide) (by rw [c4]; rfl) (by decide) ?_
      refine lv_aload_n hx hb dX1_numberOfClient_48 rfl (lv_at hl 1 rfl) ?_
      refine lv_iload_n hx hb dX1_numberOfClient_49 rfl (lv_at hl 2 rfl) ?_
      obtain ⟨r5, q6, hf⟩ := cx_b hf
      refine cx_callV (As := [.int p0]) (rest := []) ⟨hx, hb, hml, hown, hts⟩ (c_X1_upperUnitsOf hC q6) (cwV 1 hts (gV mw_322 mw_323 mw_324 mw_29 mw_325) rfl rfl rfl hd_X1_upperUnitsOf ⟨Nat.le_of_ble_eq_true rfl, Nat.le_of_ble_eq_true rfl⟩) hK hP rfl (at_Cache hC hP) rfl hl.1 rfl (Nat.le_of_ble_eq_true rfl) dX1_numberOfClient_50 ⟨Nat.zero_le _, Nat.zero_le _⟩ hL (fun H locs hP hL => ?_)
      replace hP : P σ H := by first | exact hP | (simpa only [va_up_id] using hP)
      cases hf
      exact cx_iret hx hb hr hlocks hP hL dX1_numberOfClient_53
    · have hf := cx_f hf c4
      by_cases c7 : p1 = 2
      · have hf := cx_t hf c7
        refine lv_lookup (off := 41) (tgt := 54) hx hb dX1_numberOfClient_13 (by decide) (by rw [c7]; rfl) (by decide) ?_
        refine lv_aload_n hx hb dX1_numberOfClient_54 rfl (lv_at hl 1 rfl) ?_
        refine lv_aload_n hx hb dX1_numberOfClient_55 rfl (lv_at hl 1 rfl) ?_
        refine g_Cache_4 hC hP hx hb hts hown hK mw_69 dX1_numberOfClient_56 ?_
        refine lv_iload_n hx hb dX1_numberOfClient_59 rfl (lv_at hl 2 rfl) ?_
        obtain ⟨r8, q9, hf⟩ := cx_b hf
        refine cx_callV (As := [.ref ((adRow ad 2) 0), .int p0]) (rest := []) ⟨hx, hb, hml, hown, hts⟩ (c_X1_howManyOwned hC (by decide) q9) (cwV 2 hts (gV mw_326 mw_327 mw_328 mw_29 mw_329) rfl rfl rfl hd_X1_howManyOwned ⟨Nat.le_of_ble_eq_true rfl, Nat.le_of_ble_eq_true rfl⟩) hK hP rfl (at_Cache hC hP) rfl hl.1 rfl (Nat.le_of_ble_eq_true rfl) dX1_numberOfClient_60 ⟨Nat.zero_le _, Nat.zero_le _⟩ hL (fun H locs hP hL => ?_)
        replace hP : P σ H := by first | exact hP | (simpa only [va_up_id] using hP)
        cases hf
        exact cx_iret hx hb hr hlocks hP hL dX1_numberOfClient_63
      · have hf := cx_f hf c7
        by_cases c10 : p1 = 10
        · have hf := cx_t hf c10
          refine lv_lookup (off := 51) (tgt := 64) hx hb dX1_numberOfClient_13 (by decide) (by rw [c10]; rfl) (by decide) ?_
          refine lv_aload_n hx hb dX1_numberOfClient_64 rfl (lv_at hl 1 rfl) ?_
          refine lv_iload_n hx hb dX1_numberOfClient_65 rfl (lv_at hl 2 rfl) ?_
          refine lv_aload_n hx hb dX1_numberOfClient_66 rfl (lv_at hl 1 rfl) ?_
          refine lv_iload_n hx hb dX1_numberOfClient_67 rfl (lv_at hl 2 rfl) ?_
          obtain ⟨r11, q12, hf⟩ := cx_b hf
          refine cx_callV (As := [.int p0]) (rest := [.int p0, .ref (ad 0)]) ⟨hx, hb, hml, hown, hts⟩ (c_X1_upperUnitsOf hC q12) (cwV 1 hts (gV mw_322 mw_323 mw_324 mw_29 mw_325) rfl rfl rfl hd_X1_upperUnitsOf ⟨Nat.le_of_ble_eq_true rfl, Nat.le_of_ble_eq_true rfl⟩) hK hP rfl (at_Cache hC hP) rfl hl.1 rfl (Nat.le_of_ble_eq_true rfl) dX1_numberOfClient_68 ⟨Nat.zero_le _, Nat.zero_le _⟩ hL (fun H locs hP hL => ?_)
          replace hP : P σ H := by first | exact hP | (simpa only [va_up_id] using hP)
          refine lv_aload_n hx hb dX1_numberOfClient_71 rfl (lv_at hl 1 rfl) ?_
          obtain ⟨r13, q14, hf⟩ := cx_b hf
          refine cx_callV (As := []) (rest := [.int r11, .int p0, .ref (ad 0)]) ⟨hx, hb, hml, hown, hts⟩ (c_X1_sumOfWeights hC q14) (cwV 0 hts (gV mw_335 mw_336 mw_337 mw_29 mw_338) rfl rfl rfl hd_X1_sumOfWeights ⟨Nat.le_of_ble_eq_true rfl, Nat.le_of_ble_eq_true rfl⟩) hK hP rfl (at_Cache hC hP) rfl hl.1 rfl (Nat.le_of_ble_eq_true rfl) dX1_numberOfClient_72 ⟨Nat.zero_le _, Nat.zero_le _⟩ hL (fun H locs hP hL => ?_)
          replace hP : P σ H := by first | exact hP | (simpa only [va_up_id] using hP)
          obtain ⟨r15, q16, hf⟩ := cx_b hf
          refine cx_callV (As := [.int p0, .int r11, .int r13]) (rest := []) ⟨hx, hb, hml, hown, hts⟩ (c_X1_unitsAbove hC q16) (cwV 3 hts (gV mw_340 mw_341 mw_342 mw_29 mw_343) rfl rfl rfl hd_X1_unitsAbove ⟨Nat.le_of_ble_eq_true rfl, Nat.le_of_ble_eq_true rfl⟩) hK hP rfl (at_Cache hC hP) rfl hl.1 rfl (Nat.le_of_ble_eq_true rfl) dX1_numberOfClient_75 ⟨Nat.zero_le _, Nat.zero_le _⟩ hL (fun H locs hP hL => ?_)
          replace hP : P σ H := by first | exact hP | (simpa only [va_up_id] using hP)
          refine lv_if_le (tgt := 85) hx hb dX1_numberOfClient_78 (by decide) (fun c17 => ?_) (fun c17 => ?_)
          · have hf := cx_t hf c17
            refine lv_iconst (v := 0) hx hb dX1_numberOfClient_85 (by decide) ?_
            cases hf
            exact cx_iret hx hb hr hlocks hP hL dX1_numberOfClient_86
          · have hf := cx_f hf c17
            refine lv_iconst (v := 1) hx hb dX1_numberOfClient_81 (by decide) ?_
            refine lv_goto (tgt := 86) hx hb dX1_numberOfClient_82 (by decide) ?_
            cases hf
            exact cx_iret hx hb hr hlocks hP hL dX1_numberOfClient_86
        · have hf := cx_f hf c10
          refine lv_lookup (off := 74) (tgt := 87) hx hb dX1_numberOfClient_13 (by decide) (by refine (lv_osw c4 (by decide)).trans ?_; refine (lv_osw c7 (by decide)).trans ?_; refine (lv_osw c10 (by decide)).trans ?_; rfl) (by decide) ?_
          refine lv_aload_n hx hb dX1_numberOfClient_87 rfl (lv_at hl 0 rfl) ?_
          refine lv_iload_n hx hb dX1_numberOfClient_88 rfl (lv_at hl 3 rfl) ?_
          obtain ⟨r18, q19, hf⟩ := cx_b hf
          refine cx_callV (As := [.int p1]) (rest := []) ⟨hx, hb, hml, hown, hts⟩ (c_X2_numberOf (cx_cli hC σ k3 (8 + k3) hk3 rfl) q19) (cwV 1 hts (gV mw_344 mw_345 mw_346 mw_76 mw_347) rfl rfl rfl hd_X2_numberOf ⟨Nat.le_of_ble_eq_true rfl, Nat.le_of_ble_eq_true rfl⟩) hK (cx_id (8 + k3) hP) rfl (at_Client (cx_cli hC σ k3 (8 + k3) hk3 rfl) (cx_id (8 + k3) hP)) rfl hl.1 rfl (Nat.le_of_ble_eq_true rfl) dX1_numberOfClient_89 ⟨Nat.zero_le _, Nat.zero_le _⟩ hL (fun H locs hP hL => ?_)
          replace hP : P σ H := by first | exact hP | (simpa only [va_up_id] using hP)
          cases hf
          exact cx_iret hx hb hr hlocks hP hL dX1_numberOfClient_92
abbrev rm_X1_placeOfUnit : Room := { frames := 1, cells := 0, slots := 0, locals := 22 }
theorem hd_X1_placeOfUnit : yX1_placeOfUnit.cls = RX1 ∧ yX1_placeOfUnit.cls ≠ "java/lang/invoke/MethodHandle" ∧ yX1_placeOfUnit.cls ≠ "java/lang/invoke/VarHandle" ∧ (parseMethodDescriptor yX1_placeOfUnit.desc).map (fun d => d.parameters.length) = some 1 := by decide +kernel
def f_X1_placeOfUnit (N : Nat) (σ : CacS) (p0 : Int32) : Option (Int32) := (f_X0_listOf (σ 1) p0).bind fun r1 => if r1 = (-1) then some (-1) else (f_X1_rowOf σ r1).bind fun r4 => (f_X5_placeOf N (σ (3 + r4)) p0).bind fun r6 => some r6
set_option maxHeartbeats 4000000 in
set_option maxRecDepth 100000 in
theorem c_X1_placeOfUnit {l : Launch} {G : va_G} {cA : Nat → ClassId} {lo : Nat} {ad : Nat → Nat} {P : CacS → Heap → Prop} (hC : cx G lo 25 ad (ceCache cA ad) P) {N : Nat} {σ : CacS} {p0 : Int32} {res : Int32} (hf : f_X1_placeOfUnit N σ p0 = some res) : Met l yX1_placeOfUnit (cW yX1_placeOfUnit cX1_placeOfUnit 3 (some .int)) rm_X1_placeOfUnit (cP [.ref (ad 0), .int p0] (P σ) G cA) (cQ (some (.int res)) (P σ)) 0 0 (fun q => lo ≤ q) := by
  refine cx_met (by decide) (Nat.le_of_ble_eq_true rfl) (fun p e s m args below meth c ls C0 hP hl => ?_)
  have hl : lv_has ls 3 [(0, .ref (ad 0)), (1, .int p0)] := hl
  obtain ⟨⟨hx, hb, hml, hown, hts⟩, hr, hlocks, hK⟩ := id C0
  have hL : ∀ q ∈ ([] : List Loc), lo ≤ q.base := fun q h => nomatch h
  unfold f_X1_placeOfUnit at hf
  refine lv_aload_n hx hb dX1_placeOfUnit_0 rfl (lv_at hl 0 rfl) ?_
  refine g_Cache_0 hC hP hx hb hts hown hK mw_59 dX1_placeOfUnit_1 ?_
  refine lv_iload_n hx hb dX1_placeOfUnit_4 rfl (lv_at hl 1 rfl) ?_
  obtain ⟨r1, q2, hf⟩ := cx_b hf
  refine cx_callV (As := [.int p0]) (rest := []) ⟨hx, hb, hml, hown, hts⟩ (c_X0_listOf (cx_blk hC σ) q2) (cwV 1 hts (gV mw_364 mw_365 mw_366 mw_58 mw_367) rfl rfl rfl hd_X0_listOf ⟨Nat.le_of_ble_eq_true rfl, Nat.le_of_ble_eq_true rfl⟩) hK (cx_id 1 hP) rfl (at_Blocks (cx_blk hC σ) (cx_id 1 hP)) rfl hl.1 rfl (Nat.le_of_ble_eq_true rfl) dX1_placeOfUnit_5 ⟨Nat.zero_le _, Nat.zero_le _⟩ hL (fun H locs hP hL => ?_)
  replace hP : P σ H := by first | exact hP | (simpa only [va_up_id] using hP)
  refine lv_istore_n (lv' := [(2, .int r1), (0, .ref (ad 0)), (1, .int p0)]) hx hb dX1_placeOfUnit_8 rfl hl (by decide) rfl (fun ls hl => ?_)
  refine lv_iload_n hx hb dX1_placeOfUnit_9 rfl (lv_at hl 0 rfl) ?_
  refine lv_iconst (v := (-1)) hx hb dX1_placeOfUnit_10 (by decide) ?_
  refine lv_icmp_ne (tgt := 18) hx hb dX1_placeOfUnit_11 (by decide) (fun c3 => ?_) (fun c3 => ?_)
  · have hf := cx_f hf c3
    refine lv_aload_n hx hb dX1_placeOfUnit_18 rfl (lv_at hl 1 rfl) ?_
    refine lv_iload_n hx hb dX1_placeOfUnit_19 rfl (lv_at hl 0 rfl) ?_
    obtain ⟨r4, q5, hf⟩ := cx_b hf
    refine cx_callV (As := [.int r1]) (rest := []) ⟨hx, hb, hml, hown, hts⟩ (c_X1_rowOf hC q5) (cwV 1 hts (gV mw_289 mw_290 mw_291 mw_29 mw_292) rfl rfl rfl hd_X1_rowOf ⟨Nat.le_of_ble_eq_true rfl, Nat.le_of_ble_eq_true rfl⟩) hK hP rfl (at_Cache hC hP) rfl hl.1 rfl (Nat.le_of_ble_eq_true rfl) dX1_placeOfUnit_20 ⟨Nat.zero_le _, Nat.zero_le _⟩ hL (fun H locs hP hL => ?_)
    replace hP : P σ H := by first | exact hP | (simpa only [va_up_id] using hP)
    have hr4 := f_X1_rowOf_lt q5
    refine lv_iload_n hx hb dX1_placeOfUnit_23 rfl (lv_at hl 2 rfl) ?_
    obtain ⟨r6, q7, hf⟩ := cx_b hf
    refine cx_callV (As := [.int p0]) (rest := []) ⟨hx, hb, hml, hown, hts⟩ (c_X5_placeOf (cx_row hC σ r4 (3 + r4) hr4 rfl) q7) (cwV 1 hts (gV mw_372 mw_373 mw_374 mw_66 mw_375) rfl rfl rfl hd_X5_placeOf ⟨Nat.le_of_ble_eq_true rfl, Nat.le_of_ble_eq_true rfl⟩) hK (cx_id (3 + r4) hP) rfl (at_Row (cx_row hC σ r4 (3 + r4) hr4 rfl) (cx_id (3 + r4) hP)) rfl hl.1 rfl (Nat.le_of_ble_eq_true rfl) dX1_placeOfUnit_24 ⟨Nat.zero_le _, Nat.zero_le _⟩ hL (fun H locs hP hL => ?_)
    replace hP : P σ H := by first | exact hP | (simpa only [va_up_id] using hP)
    cases hf
    exact cx_iret hx hb hr hlocks hP hL dX1_placeOfUnit_27
  · have hf := cx_t hf c3
    refine lv_iconst (v := (-1)) hx hb dX1_placeOfUnit_14 (by decide) ?_
    refine lv_goto (tgt := 27) hx hb dX1_placeOfUnit_15 (by decide) ?_
    cases hf
    exact cx_iret hx hb hr hlocks hP hL dX1_placeOfUnit_27
abbrev rm_X1_numberOfBlock : Room := { frames := 2, cells := 0, slots := 0, locals := 44 }
theorem hd_X1_numberOfBlock : yX1_numberOfBlock.cls = RX1 ∧ yX1_numberOfBlock.cls ≠ "java/lang/invoke/MethodHandle" ∧ yX1_numberOfBlock.cls ≠ "java/lang/invoke/VarHandle" ∧ (parseMethodDescriptor yX1_numberOfBlock.desc).map (fun d => d.parameters.length) = some 2 := by decide +kernel
def f_X1_numberOfBlock (N : Nat) (σ : CacS) (p0 : Int32) (p1 : Int32) : Option (Int32) := if p1 = 0 then (f_X0_listOf (σ 1) p0).bind fun r2 => some r2 else if p1 = 1 then (f_X1_placeOfUnit N σ p0).bind fun r5 => some r5 else if p1 = 2 then (f_X0_valueOf (σ 1) p0).bind fun r8 => some r8 else if p1 = 3 then (f_X0_ownerOf (σ 1) p0).bind fun r11 => some r11 else if p1 = 4 then (f_X0_sinceOf (σ 1) p0).bind fun r14 => some r14 else if p1 = 5 then (f_X0_ghostListOf (σ 1) p0).bind fun r17 => some r17 else (f_X0_storedOf (σ 1) p0).bind fun r19 => some r19
set_option maxHeartbeats 4000000 in
set_option maxRecDepth 100000 in
theorem c_X1_numberOfBlock {l : Launch} {G : va_G} {cA : Nat → ClassId} {lo : Nat} {ad : Nat → Nat} {P : CacS → Heap → Prop} (hC : cx G lo 25 ad (ceCache cA ad) P) {N : Nat} {σ : CacS} {p0 : Int32} {p1 : Int32} {res : Int32} (hf : f_X1_numberOfBlock N σ p0 p1 = some res) : Met l yX1_numberOfBlock (cW yX1_numberOfBlock cX1_numberOfBlock 3 (some .int)) rm_X1_numberOfBlock (cP [.ref (ad 0), .int p0, .int p1] (P σ) G cA) (cQ (some (.int res)) (P σ)) 0 0 (fun q => lo ≤ q) := by
  refine cx_met (by decide) (Nat.le_of_ble_eq_true rfl) (fun p e s m args below meth c ls C0 hP hl => ?_)
  have hl : lv_has ls 3 [(0, .ref (ad 0)), (1, .int p0), (2, .int p1)] := hl
  obtain ⟨⟨hx, hb, hml, hown, hts⟩, hr, hlocks, hK⟩ := id C0
  have hL : ∀ q ∈ ([] : List Loc), lo ≤ q.base := fun q h => nomatch h
  unfold f_X1_numberOfBlock at hf
  refine lv_iload_n hx hb dX1_numberOfBlock_0 rfl (lv_at hl 2 rfl) ?_
  by_cases c1 : p1 = 0
  · have hf := cx_t hf c1
    refine lv_tableIn (off := 39) (tgt := 40) hx hb dX1_numberOfBlock_1 (by rw [c1]; decide) (by rw [c1]; decide) (by rw [c1]; rfl) (by decide) ?_
    refine lv_aload_n hx hb dX1_numberOfBlock_40 rfl (lv_at hl 0 rfl) ?_
    refine g_Cache_0 hC hP hx hb hts hown hK mw_59 dX1_numberOfBlock_41 ?_
    refine lv_iload_n hx hb dX1_numberOfBlock_44 rfl (lv_at hl 1 rfl) ?_
    obtain ⟨r2, q3, hf⟩ := cx_b hf
    refine cx_callV (As := [.int p0]) (rest := []) ⟨hx, hb, hml, hown, hts⟩ (c_X0_listOf (cx_blk hC σ) q3) (cwV 1 hts (gV mw_364 mw_365 mw_366 mw_58 mw_367) rfl rfl rfl hd_X0_listOf ⟨Nat.le_of_ble_eq_true rfl, Nat.le_of_ble_eq_true rfl⟩) hK (cx_id 1 hP) rfl (at_Blocks (cx_blk hC σ) (cx_id 1 hP)) rfl hl.1 rfl (Nat.le_of_ble_eq_true rfl) dX1_numberOfBlock_45 ⟨Nat.zero_le _, Nat.zero_le _⟩ hL (fun H locs hP hL => ?_)
    replace hP : P σ H := by first | exact hP | (simpa only [va_up_id] using hP)
    cases hf
    exact cx_iret hx hb hr hlocks hP hL dX1_numberOfBlock_48
  · have hf := cx_f hf c1
    by_cases c4 : p1 = 1
    · have hf := cx_t hf c4
      refine lv_tableIn (off := 48) (tgt := 49) hx hb dX1_numberOfBlock_1 (by rw [c4]; decide) (by rw [c4]; decide) (by rw [c4]; rfl) (by decide) ?_
      refine lv_aload_n hx hb dX1_numberOfBlock_49 rfl (lv_at hl 0 rfl) ?_
      refine lv_iload_n hx hb dX1_numberOfBlock_50 rfl (lv_at hl 1 rfl) ?_
      obtain ⟨r5, q6, hf⟩ := cx_b hf
      refine cx_callV (As := [.int p0]) (rest := []) ⟨hx, hb, hml, hown, hts⟩ (c_X1_placeOfUnit hC q6) (cwV 1 hts (gV mw_368 mw_369 mw_370 mw_29 mw_371) rfl rfl rfl hd_X1_placeOfUnit ⟨Nat.le_of_ble_eq_true rfl, Nat.le_of_ble_eq_true rfl⟩) hK hP rfl (at_Cache hC hP) rfl hl.1 rfl (Nat.le_of_ble_eq_true rfl) dX1_numberOfBlock_51 ⟨Nat.zero_le _, Nat.zero_le _⟩ hL (fun H locs hP hL => ?_)
      replace hP : P σ H := by first | exact hP | (simpa only [va_up_id] using hP)
      cases hf
      exact cx_iret hx hb hr hlocks hP hL dX1_numberOfBlock_54
    · have hf := cx_f hf c4
      by_cases c7 : p1 = 2
      · have hf := cx_t hf c7
        refine lv_tableIn (off := 54) (tgt := 55) hx hb dX1_numberOfBlock_1 (by rw [c7]; decide) (by rw [c7]; decide) (by rw [c7]; rfl) (by decide) ?_
        refine lv_aload_n hx hb dX1_numberOfBlock_55 rfl (lv_at hl 0 rfl) ?_
        refine g_Cache_0 hC hP hx hb hts hown hK mw_59 dX1_numberOfBlock_56 ?_
        refine lv_iload_n hx hb dX1_numberOfBlock_59 rfl (lv_at hl 1 rfl) ?_
        obtain ⟨r8, q9, hf⟩ := cx_b hf
        refine cx_callV (As := [.int p0]) (rest := []) ⟨hx, hb, hml, hown, hts⟩ (c_X0_valueOf (cx_blk hC σ) q9) (cwV 1 hts (gV mw_376 mw_377 mw_378 mw_58 mw_379) rfl rfl rfl hd_X0_valueOf ⟨Nat.le_of_ble_eq_true rfl, Nat.le_of_ble_eq_true rfl⟩) hK (cx_id 1 hP) rfl (at_Blocks (cx_blk hC σ) (cx_id 1 hP)) rfl hl.1 rfl (Nat.le_of_ble_eq_true rfl) dX1_numberOfBlock_60 ⟨Nat.zero_le _, Nat.zero_le _⟩ hL (fun H locs hP hL => ?_)
        replace hP : P σ H := by first | exact hP | (simpa only [va_up_id] using hP)
        cases hf
        exact cx_iret hx hb hr hlocks hP hL dX1_numberOfBlock_63
      · have hf := cx_f hf c7
        by_cases c10 : p1 = 3
        · have hf := cx_t hf c10
          refine lv_tableIn (off := 63) (tgt := 64) hx hb dX1_numberOfBlock_1 (by rw [c10]; decide) (by rw [c10]; decide) (by rw [c10]; rfl) (by decide) ?_
          refine lv_aload_n hx hb dX1_numberOfBlock_64 rfl (lv_at hl 0 rfl) ?_
          refine g_Cache_0 hC hP hx hb hts hown hK mw_59 dX1_numberOfBlock_65 ?_
          refine lv_iload_n hx hb dX1_numberOfBlock_68 rfl (lv_at hl 1 rfl) ?_
          obtain ⟨r11, q12, hf⟩ := cx_b hf
          refine cx_callV (As := [.int p0]) (rest := []) ⟨hx, hb, hml, hown, hts⟩ (c_X0_ownerOf (cx_blk hC σ) q12) (cwV 1 hts (gV mw_331 mw_332 mw_333 mw_58 mw_334) rfl rfl rfl hd_X0_ownerOf ⟨Nat.le_of_ble_eq_true rfl, Nat.le_of_ble_eq_true rfl⟩) hK (cx_id 1 hP) rfl (at_Blocks (cx_blk hC σ) (cx_id 1 hP)) rfl hl.1 rfl (Nat.le_of_ble_eq_true rfl) dX1_numberOfBlock_69 ⟨Nat.zero_le _, Nat.zero_le _⟩ hL (fun H locs hP hL => ?_)
          replace hP : P σ H := by first | exact hP | (simpa only [va_up_id] using hP)
          cases hf
          exact cx_iret hx hb hr hlocks hP hL dX1_numberOfBlock_72
        · have hf := cx_f hf c10
          by_cases c13 : p1 = 4
          · have hf := cx_t hf c13
            refine lv_tableIn (off := 72) (tgt := 73) hx hb dX1_numberOfBlock_1 (by rw [c13]; decide) (by rw [c13]; decide) (by rw [c13]; rfl) (by decide) ?_
            refine lv_aload_n hx hb dX1_numberOfBlock_73 rfl (lv_at hl 0 rfl) ?_
            refine g_Cache_0 hC hP hx hb hts hown hK mw_59 dX1_numberOfBlock_74 ?_
            refine lv_iload_n hx hb dX1_numberOfBlock_77 rfl (lv_at hl 1 rfl) ?_
            obtain ⟨r14, q15, hf⟩ := cx_b hf
            refine cx_callV (As := [.int p0]) (rest := []) ⟨hx, hb, hml, hown, hts⟩ (c_X0_sinceOf (cx_blk hC σ) q15) (cwV 1 hts (gV mw_380 mw_381 mw_382 mw_58 mw_383) rfl rfl rfl hd_X0_sinceOf ⟨Nat.le_of_ble_eq_true rfl, Nat.le_of_ble_eq_true rfl⟩) hK (cx_id 1 hP) rfl (at_Blocks (cx_blk hC σ) (cx_id 1 hP)) rfl hl.1 rfl (Nat.le_of_ble_eq_true rfl) dX1_numberOfBlock_78 ⟨Nat.zero_le _, Nat.zero_le _⟩ hL (fun H locs hP hL => ?_)
            replace hP : P σ H := by first | exact hP | (simpa only [va_up_id] using hP)
            cases hf
            exact cx_iret hx hb hr hlocks hP hL dX1_numberOfBlock_81
          · have hf := cx_f hf c13
            by_cases c16 : p1 = 5
            · have hf := cx_t hf c16
              refine lv_tableIn (off := 81) (tgt := 82) hx hb dX1_numberOfBlock_1 (by rw [c16]; decide) (by rw [c16]; decide) (by rw [c16]; rfl) (by decide) ?_
              refine lv_aload_n hx hb dX1_numberOfBlock_82 rfl (lv_at hl 0 rfl) ?_
              refine g_Cache_0 hC hP hx hb hts hown hK mw_59 dX1_numberOfBlock_83 ?_
              refine lv_iload_n hx hb dX1_numberOfBlock_86 rfl (lv_at hl 1 rfl) ?_
              obtain ⟨r17, q18, hf⟩ := cx_b hf
              refine cx_callV (As := [.int p0]) (rest := []) ⟨hx, hb, hml, hown, hts⟩ (c_X0_ghostListOf (cx_blk hC σ) q18) (cwV 1 hts (gV mw_384 mw_385 mw_386 mw_58 mw_387) rfl rfl rfl hd_X0_ghostListOf ⟨Nat.le_of_ble_eq_true rfl, Nat.le_of_ble_eq_true rfl⟩) hK (cx_id 1 hP) rfl (at_Blocks (cx_blk hC σ) (cx_id 1 hP)) rfl hl.1 rfl (Nat.le_of_ble_eq_true rfl) dX1_numberOfBlock_87 ⟨Nat.zero_le _, Nat.zero_le _⟩ hL (fun H locs hP hL => ?_)
              replace hP : P σ H := by first | exact hP | (simpa only [va_up_id] using hP)
              cases hf
              exact cx_iret hx hb hr hlocks hP hL dX1_numberOfBlock_90
            · have hf := cx_f hf c16
              refine lv_tableOut (tgt := 91) hx hb dX1_numberOfBlock_1 (by have := lv_neT (a := 0) c1 (by decide); have := lv_neT (a := 1) c4 (by decide); have := lv_neT (a := 2) c7 (by decide); have := lv_neT (a := 3) c10 (by decide); have := lv_neT (a := 4) c13 (by decide); have := lv_neT (a := 5) c16 (by decide); omega) (by decide) ?_
              refine lv_aload_n hx hb dX1_numberOfBlock_91 rfl (lv_at hl 0 rfl) ?_
              refine g_Cache_0 hC hP hx hb hts hown hK mw_59 dX1_numberOfBlock_92 ?_
              refine lv_iload_n hx hb dX1_numberOfBlock_95 rfl (lv_at hl 1 rfl) ?_
              obtain ⟨r19, q20, hf⟩ := cx_b hf
              refine cx_callV (As := [.int p0]) (rest := []) ⟨hx, hb, hml, hown, hts⟩ (c_X0_storedOf (cx_blk hC σ) q20) (cwV 1 hts (gV mw_388 mw_389 mw_390 mw_58 mw_391) rfl rfl rfl hd_X0_storedOf ⟨Nat.le_of_ble_eq_true rfl, Nat.le_of_ble_eq_true rfl⟩) hK (cx_id 1 hP) rfl (at_Blocks (cx_blk hC σ) (cx_id 1 hP)) rfl hl.1 rfl (Nat.le_of_ble_eq_true rfl) dX1_numberOfBlock_96 ⟨Nat.zero_le _, Nat.zero_le _⟩ hL (fun H locs hP hL => ?_)
              replace hP : P σ H := by first | exact hP | (simpa only [va_up_id] using hP)
              cases hf
              exact cx_iret hx hb hr hlocks hP hL dX1_numberOfBlock_99
abbrev rm_X1_ownedBlock : Room := { frames := 1, cells := 0, slots := 0, locals := 21 }
theorem hd_X1_ownedBlock : yX1_ownedBlock.cls = RX1 ∧ yX1_ownedBlock.cls ≠ "java/lang/invoke/MethodHandle" ∧ yX1_ownedBlock.cls ≠ "java/lang/invoke/VarHandle" ∧ (parseMethodDescriptor yX1_ownedBlock.desc).map (fun d => d.parameters.length) = some 3 := by decide +kernel
def f_X1_ownedBlock_b13 (N : Nat) : Nat → CacS → Int32 → Int32 → Nat → Int32 → Int32 → Option (Int32)
  | 0, _, _, _, _, _, _ => none
  | n + 1, σ, x1, x3, x4, x5, x6 => if (σ (3 + x4)).2 1 ≤ x6 then some (-1) else (f_X5_blockAt (σ (3 + x4)) x6).bind fun r2 => (f_X0_ownerOf (σ 1) r2).bind fun r4 => if r4 = x1 then if x5 = x3 then some r2 else f_X1_ownedBlock_b13 N n σ x1 x3 x4 (x5 + 1) (x6 + 1) else f_X1_ownedBlock_b13 N n σ x1 x3 x4 x5 (x6 + 1)
set_option maxHeartbeats 4000000 in
set_option maxRecDepth 100000 in
theorem w_X1_ownedBlock_b13 {p : Program} {l : Launch} {e : Env} {s : State} {m : MethodId} {args : Array Value} {below : List Frame} {meth : Method} {c : Code} {G : va_G} {cA : Nat → ClassId} (C0 : cB p s m args meth c RX1 cX1_ownedBlock 8 (some .int) G cA) {lo : Nat} {ad : Nat → Nat} {P : CacS → Heap → Prop} (hC : cx G lo 25 ad (ceCache cA ad) P) {N : Nat} {res : Int32} : ∀ (n : Nat) (σ : CacS) (x1 : Int32) (x3 : Int32) (x4 : Nat) (x5 : Int32) (x6 : Int32) (hx4 : x4 < 5) (H : Heap) (locs : List Loc) (ls : Array Slot), f_X1_ownedBlock_b13 N n σ x1 x3 x4 x5 x6 = some res → P σ H → (∀ q ∈ locs, lo ≤ q.base) → lv_has ls 8 [(0, .ref (ad 0)), (1, .int x1), (3, .int x3), (4, .ref ((adRow ad x4) 0)), (5, .int x5), (6, .int x6)] → W p l e rm_X1_ownedBlock s m args below meth c H locs 0 0 (MQ below (cQ (some (.int res)) (P σ)) args s 0 0 (fun q => lo ≤ q)) (F0 m 13 ls []) := by
  obtain ⟨⟨hx, hb, hml, hown, hts⟩, hr, hlocks, hK⟩ := id C0
  intro n
  induction n with
  | zero => intro σ x1 x3 x4 x5 x6 hx4 H locs ls
            exact fun hf => nomatch hf
  | succ n ih =>
    intro σ x1 x3 x4 x5 x6 hx4 H locs ls hf hP hL hl
    rw [f_X1_ownedBlock_b13] at hf
    refine lv_iload hx hb dX1_ownedBlock_13 (lv_at hl 5 rfl) ?_
    refine lv_aload hx hb dX1_ownedBlock_15 (lv_at hl 3 rfl) ?_
    refine g_Row_1 (cx_row hC σ x4 (3 + x4) hx4 rfl) (cx_id (3 + x4) hP) hx hb hts hown hK mw_239 dX1_ownedBlock_17 ?_
    refine lv_icmp_ge (tgt := 63) hx hb dX1_ownedBlock_20 (by decide) (fun c1 => ?_) (fun c1 => ?_)
    · have hf := cx_t hf c1
      refine lv_iconst (v := (-1)) hx hb dX1_ownedBlock_63 (by decide) ?_
      cases hf
      exact cx_iret hx hb hr hlocks hP hL dX1_ownedBlock_64
    · have hf := cx_f hf c1
      refine lv_aload hx hb dX1_ownedBlock_23 (lv_at hl 3 rfl) ?_
      refine lv_iload hx hb dX1_ownedBlock_25 (lv_at hl 5 rfl) ?_
      obtain ⟨r2, q3, hf⟩ := cx_b hf
      refine cx_callV (As := [.int x6]) (rest := []) ⟨hx, hb, hml, hown, hts⟩ (c_X5_blockAt (cx_row hC σ x4 (3 + x4) hx4 rfl) q3) (cwV 1 hts (gV mw_330 mw_202 mw_203 mw_66 mw_204) rfl rfl rfl hd_X5_blockAt ⟨Nat.le_of_ble_eq_true rfl, Nat.le_of_ble_eq_true rfl⟩) hK (cx_id (3 + x4) hP) rfl (at_Row (cx_row hC σ x4 (3 + x4) hx4 rfl) (cx_id (3 + x4) hP)) rfl hl.1 rfl (Nat.le_of_ble_eq_true rfl) dX1_ownedBlock_27 ⟨Nat.zero_le _, Nat.zero_le _⟩ hL (fun H locs hP hL => ?_)
      replace hP : P σ H := by first | exact hP | (simpa only [va_up_id] using hP)
      refine lv_istore (lv' := [(7, .int r2), (0, .ref (ad 0)), (1, .int x1), (3, .int x3), (4, .ref ((adRow ad x4) 0)), (5, .int x5), (6, .int x6)]) hx hb dX1_ownedBlock_30 hl (by decide) rfl (fun ls hl => ?_)
      refine lv_aload_n hx hb dX1_ownedBlock_32 rfl (lv_at hl 1 rfl) ?_
      refine g_Cache_0 hC hP hx hb hts hown hK mw_59 dX1_ownedBlock_33 ?_
      refine lv_iload hx hb dX1_ownedBlock_36 (lv_at hl 0 rfl) ?_
      obtain ⟨r4, q5, hf⟩ := cx_b hf
      refine cx_callV (As := [.int r2]) (rest := []) ⟨hx, hb, hml, hown, hts⟩ (c_X0_ownerOf (cx_blk hC σ) q5) (cwV 1 hts (gV mw_331 mw_332 mw_333 mw_58 mw_334) rfl rfl rfl hd_X0_ownerOf ⟨Nat.le_of_ble_eq_true rfl, Nat.le_of_ble_eq_true rfl⟩) hK (cx_id 1 hP) rfl (at_Blocks (cx_blk hC σ) (cx_id 1 hP)) rfl hl.1 rfl (Nat.le_of_ble_eq_true rfl) dX1_ownedBlock_38 ⟨Nat.zero_le _, Nat.zero_le _⟩ hL (fun H locs hP hL => ?_)
      replace hP : P σ H := by first | exact hP | (simpa only [va_up_id] using hP)
      refine lv_iload_n hx hb dX1_ownedBlock_41 rfl (lv_at hl 2 rfl) ?_
      refine lv_icmp_ne (tgt := 57) hx hb dX1_ownedBlock_42 (by decide) (fun c6 => ?_) (fun c6 => ?_)
      · have hf := cx_f hf c6
        refine lv_iinc (v := (x6 + 1)) (lv' := [(6, .int (x6 + 1)), (7, .int r2), (0, .ref (ad 0)), (1, .int x1), (3, .int x3), (4, .ref ((adRow ad x4) 0)), (5, .int x5)]) hx hb dX1_ownedBlock_57 hl (k := 6) rfl rfl (by decide) rfl (fun ls hl => ?_)
        refine lv_goto (tgt := 13) hx hb dX1_ownedBlock_60 (by decide) ?_
        exact ih σ x1 x3 x4 x5 (x6 + 1) hx4 _ _ _ hf hP hL (lv_sub hl [2, 3, 4, 5, 6, 0] rfl)
      · have hf := cx_t hf c6
        refine lv_iload hx hb dX1_ownedBlock_45 (lv_at hl 5 rfl) ?_
        refine lv_iload_n hx hb dX1_ownedBlock_47 rfl (lv_at hl 3 rfl) ?_
        refine lv_icmp_ne (tgt := 54) hx hb dX1_ownedBlock_48 (by decide) (fun c7 => ?_) (fun c7 => ?_)
        · have hf := cx_f hf c7
          refine lv_iinc (v := (x5 + 1)) (lv' := [(5, .int (x5 + 1)), (7, .int r2), (0, .ref (ad 0)), (1, .int x1), (3, .int x3), (4, .ref ((adRow ad x4) 0)), (6, .int x6)]) hx hb dX1_ownedBlock_54 hl (k := 5) rfl rfl (by decide) rfl (fun ls hl => ?_)
          refine lv_iinc (v := (x6 + 1)) (lv' := [(6, .int (x6 + 1)), (5, .int (x5 + 1)), (7, .int r2), (0, .ref (ad 0)), (1, .int x1), (3, .int x3), (4, .ref ((adRow ad x4) 0))]) hx hb dX1_ownedBlock_57 hl (k := 6) rfl rfl (by decide) rfl (fun ls hl => ?_)
          refine lv_goto (tgt := 13) hx hb dX1_ownedBlock_60 (by decide) ?_
          exact ih σ x1 x3 x4 (x5 + 1) (x6 + 1) hx4 _ _ _ hf hP hL (lv_sub hl [3, 4, 5, 6, 1, 0] rfl)
        · have hf := cx_t hf c7
          refine lv_iload hx hb dX1_ownedBlock_51 (lv_at hl 0 rfl) ?_
          cases hf
          exact cx_iret hx hb hr hlocks hP hL dX1_ownedBlock_53
def f_X1_ownedBlock (N : Nat) (σ : CacS) (p0 : Int32) (p1 : Int32) (p2 : Int32) : Option (Int32) := (f_X1_rowOf σ p1).bind fun r1 => f_X1_ownedBlock_b13 N N σ p0 p2 r1 0 0
set_option maxHeartbeats 4000000 in
set_option maxRecDepth 100000 in
theorem c_X1_ownedBlock {l : Launch} {G : va_G} {cA : Nat → ClassId} {lo : Nat} {ad : Nat → Nat} {P : CacS → Heap → Prop} (hC : cx G lo 25 ad (ceCache cA ad) P) {N : Nat} {σ : CacS} {p0 : Int32} {p1 : Int32} {p2 : Int32} {res : Int32} (hf : f_X1_ownedBlock N σ p0 p1 p2 = some res) : Met l yX1_ownedBlock (cW yX1_ownedBlock cX1_ownedBlock 8 (some .int)) rm_X1_ownedBlock (cP [.ref (ad 0), .int p0, .int p1, .int p2] (P σ) G cA) (cQ (some (.int res)) (P σ)) 0 0 (fun q => lo ≤ q) := by
  refine cx_met (by decide) (Nat.le_of_ble_eq_true rfl) (fun p e s m args below meth c ls C0 hP hl => ?_)
  have hl : lv_has ls 8 [(0, .ref (ad 0)), (1, .int p0), (2, .int p1), (3, .int p2)] := hl
  obtain ⟨⟨hx, hb, hml, hown, hts⟩, hr, hlocks, hK⟩ := id C0
  have hL : ∀ q ∈ ([] : List Loc), lo ≤ q.base := fun q h => nomatch h
  unfold f_X1_ownedBlock at hf
  refine lv_aload_n hx hb dX1_ownedBlock_0 rfl (lv_at hl 0 rfl) ?_
  refine lv_iload_n hx hb dX1_ownedBlock_1 rfl (lv_at hl 2 rfl) ?_
  obtain ⟨r1, q2, hf⟩ := cx_b hf
  refine cx_callV (As := [.int p1]) (rest := []) ⟨hx, hb, hml, hown, hts⟩ (c_X1_rowOf hC q2) (cwV 1 hts (gV mw_289 mw_290 mw_291 mw_29 mw_292) rfl rfl rfl hd_X1_rowOf ⟨Nat.le_of_ble_eq_true rfl, Nat.le_of_ble_eq_true rfl⟩) hK hP rfl (at_Cache hC hP) rfl hl.1 rfl (Nat.le_of_ble_eq_true rfl) dX1_ownedBlock_2 ⟨Nat.zero_le _, Nat.zero_le _⟩ hL (fun H locs hP hL => ?_)
  replace hP : P σ H := by first | exact hP | (simpa only [va_up_id] using hP)
  have hr1 := f_X1_rowOf_lt q2
  refine lv_astore (lv' := [(4, .ref ((adRow ad r1) 0)), (0, .ref (ad 0)), (1, .int p0), (2, .int p1), (3, .int p2)]) hx hb dX1_ownedBlock_5 hl (by decide) rfl (fun ls hl => ?_)
  refine lv_iconst (v := 0) hx hb dX1_ownedBlock_7 (by decide) ?_
  refine lv_istore (lv' := [(5, .int 0), (4, .ref ((adRow ad r1) 0)), (0, .ref (ad 0)), (1, .int p0), (2, .int p1), (3, .int p2)]) hx hb dX1_ownedBlock_8 hl (by decide) rfl (fun ls hl => ?_)
  refine lv_iconst (v := 0) hx hb dX1_ownedBlock_10 (by decide) ?_
  refine lv_istore (lv' := [(6, .int 0), (5, .int 0), (4, .ref ((adRow ad r1) 0)), (0, .ref (ad 0)), (1, .int p0), (2, .int p1), (3, .int p2)]) hx hb dX1_ownedBlock_11 hl (by decide) rfl (fun ls hl => ?_)
  exact w_X1_ownedBlock_b13 C0 hC N σ p0 p2 r1 0 0 hr1 _ _ _ hf hP hL (lv_sub hl [3, 4, 6, 2, 1, 0] rfl)
abbrev rm_X1_addOne : Room := { frames := 1, cells := 0, slots := 0, locals := 22 }
theorem hd_X1_addOne : yX1_addOne.cls = RX1 ∧ yX1_addOne.cls ≠ "java/lang/invoke/MethodHandle" ∧ yX1_addOne.cls ≠ "java/lang/invoke/VarHandle" ∧ (parseMethodDescriptor yX1_addOne.desc).map (fun d => d.parameters.length) = some 1 := by decide +kernel
def f_X1_addOne (σ : CacS) (p0 : Int32) : Option (Int32 × CacS) := if (σ 0).2 9 < 4 then cx_let (va_up σ 0 (oI (σ 0) 9 ((σ 0).2 9 + 1))) fun z2 => (f_X1_clientOf z2 ((σ 0).2 9)).bind fun r3 => on_ r3 (some ((σ 0).2 9, z2)) (fun k5 => (f_X2_startAfresh (z2 (8 + k5)) p0).bind fun r6 => cx_let (va_up z2 (8 + k5) r6) fun z8 => some ((σ 0).2 9, z8)) else some ((-1), σ)
set_option maxHeartbeats 4000000 in
set_option maxRecDepth 100000 in
theorem c_X1_addOne {l : Launch} {G : va_G} {cA : Nat → ClassId} {lo : Nat} {ad : Nat → Nat} {P : CacS → Heap → Prop} (hC : cx G lo 25 ad (ceCache cA ad) P) {σ : CacS} {p0 : Int32} {res : Int32 × CacS} (hf : f_X1_addOne σ p0 = some res) : Met l yX1_addOne (cW yX1_addOne cX1_addOne 4 (some .int)) rm_X1_addOne (cP [.ref (ad 0), .int p0] (P σ) G cA) (cQ (some (.int res.1)) (P res.2)) 0 0 (fun q => lo ≤ q) := by
  refine cx_met (by decide) (Nat.le_of_ble_eq_true rfl) (fun p e s m args below meth c ls C0 hP hl => ?_)
  have hl : lv_has ls 4 [(0, .ref (ad 0)), (1, .int p0)] := hl
  obtain ⟨⟨hx, hb, hml, hown, hts⟩, hr, hlocks, hK⟩ := id C0
  have hL : ∀ q ∈ ([] : List Loc), lo ≤ q.base := fun q h => nomatch h
  unfold f_X1_addOne at hf
  refine lv_aload_n hx hb dX1_addOne_0 rfl (lv_at hl 0 rfl) ?_
  refine g_Cache_9 hC hP hx hb hts hown hK mw_171 dX1_addOne_1 ?_
  refine lv_aload_n hx hb dX1_addOne_4 rfl (lv_at hl 0 rfl) ?_
  refine g_Cache_7 hC hP hx hb hts hown hK mw_74 dX1_addOne_5 ?_
  refine lc_Cache hC hP hx hb hK dX1_addOne_8 ?_
  refine lv_icmp_lt (tgt := 14) hx hb dX1_addOne_9 (by decide) (fun c1 => ?_) (fun c1 => ?_)
  · have hf := cx_t hf c1
    refine lv_aload_n hx hb dX1_addOne_14 rfl (lv_at hl 0 rfl) ?_
    refine g_Cache_9 hC hP hx hb hts hown hK mw_171 dX1_addOne_15 ?_
    refine lv_istore_n (lv' := [(2, .int ((σ 0).2 9)), (0, .ref (ad 0)), (1, .int p0)]) hx hb dX1_addOne_18 rfl hl (by decide) rfl (fun ls hl => ?_)
    refine lv_aload_n hx hb dX1_addOne_19 rfl (lv_at hl 1 rfl) ?_
    refine lv_dup hx hb dX1_addOne_20 rfl ?_
    refine g_Cache_9 hC hP hx hb hts hown hK mw_171 dX1_addOne_21 ?_
    refine lv_iconst (v := 1) hx hb dX1_addOne_24 (by decide) ?_
    refine lv_iadd hx hb dX1_addOne_25 ?_
    obtain ⟨z2, ez2, hf⟩ := cx_letE hf
    refine p_Cache_9 hC hP hx hb hts hown hK mw_171 dX1_addOne_26 hL (fun H locs hP hL => ?_)
    replace hP : P z2 H := by rw [← ez2]; exact hP
    refine lv_aload_n hx hb dX1_addOne_29 rfl (lv_at hl 1 rfl) ?_
    refine lv_iload_n hx hb dX1_addOne_30 rfl (lv_at hl 0 rfl) ?_
    obtain ⟨r3, q4, hf⟩ := cx_b hf
    refine cx_callV (As := [.int ((σ 0).2 9)]) (rest := []) ⟨hx, hb, hml, hown, hts⟩ (c_X1_clientOf hC q4) (cwV 1 hts (gV mw_205 mw_206 mw_207 mw_29 mw_208) rfl rfl rfl hd_X1_clientOf ⟨Nat.le_of_ble_eq_true rfl, Nat.le_of_ble_eq_true rfl⟩) hK hP rfl (at_Cache hC hP) rfl hl.1 rfl (Nat.le_of_ble_eq_true rfl) dX1_addOne_31 ⟨Nat.zero_le _, Nat.zero_le _⟩ hL (fun H locs hP hL => ?_)
    replace hP : P z2 H := by first | exact hP | (simpa only [va_up_id] using hP)
    cases r3 with
    | none =>
      have hf := on_N hf
      refine lv_astore_nN (lv' := [(3, .null), (2, .int ((σ 0).2 9)), (0, .ref (ad 0)), (1, .int p0)]) hx hb dX1_addOne_34 rfl hl (by decide) rfl (fun ls hl => ?_)
      refine lv_aload_nN hx hb dX1_addOne_35 rfl (lv_at hl 0 rfl) ?_
      refine lv_ifnullN (tgt := 44) hx hb dX1_addOne_36 (by decide) ?_
      refine lv_iload_n hx hb dX1_addOne_44 rfl (lv_at hl 1 rfl) ?_
      cases hf
      exact cx_iret hx hb hr hlocks hP hL dX1_addOne_45
    | some k5 =>
      have hf := on_S hf
      have hk5 := f_X1_clientOf_lt q4
      refine lv_astore_n (lv' := [(3, .ref ((adCli ad k5) 0)), (2, .int ((σ 0).2 9)), (0, .ref (ad 0)), (1, .int p0)]) hx hb dX1_addOne_34 rfl hl (by decide) rfl (fun ls hl => ?_)
      refine lv_aload_n hx hb dX1_addOne_35 rfl (lv_at hl 0 rfl) ?_
      refine lv_ifnull hx hb dX1_addOne_36 ?_
      refine lv_aload_n hx hb dX1_addOne_39 rfl (lv_at hl 0 rfl) ?_
      refine lv_iload_n hx hb dX1_addOne_40 rfl (lv_at hl 3 rfl) ?_
      obtain ⟨r6, q7, hf⟩ := cx_b hf
      refine cx_callV (As := [.int p0]) (rest := []) ⟨hx, hb, hml, hown, hts⟩ (c_X2_startAfresh (cx_cli hC z2 k5 (8 + k5) hk5 rfl) q7) (cwV 1 hts (gV mw_224 mw_225 mw_226 mw_76 mw_227) rfl rfl rfl hd_X2_startAfresh ⟨Nat.le_of_ble_eq_true rfl, Nat.le_of_ble_eq_true rfl⟩) hK (cx_id (8 + k5) hP) rfl (at_Client (cx_cli hC z2 k5 (8 + k5) hk5 rfl) (cx_id (8 + k5) hP)) rfl hl.1 rfl (Nat.le_of_ble_eq_true rfl) dX1_addOne_41 ⟨Nat.zero_le _, Nat.zero_le _⟩ hL (fun H locs hP hL => ?_)
      obtain ⟨z8, ez8, hf⟩ := cx_letE hf
      replace hP : P z8 H := by rw [← ez8]; exact hP
      refine lv_iload_n hx hb dX1_addOne_44 rfl (lv_at hl 1 rfl) ?_
      cases hf
      exact cx_iret hx hb hr hlocks hP hL dX1_addOne_45
  · have hf := cx_f hf c1
    refine lv_iconst (v := (-1)) hx hb dX1_addOne_12 (by decide) ?_
    cases hf
    exact cx_iret hx hb hr hlocks hP hL dX1_addOne_13
abbrev rm_X1_changeWeight : Room := { frames := 1, cells := 0, slots := 0, locals := 22 }
theorem hd_X1_changeWeight : yX1_changeWeight.cls = RX1 ∧ yX1_changeWeight.cls ≠ "java/lang/invoke/MethodHandle" ∧ yX1_changeWeight.cls ≠ "java/lang/invoke/VarHandle" ∧ (parseMethodDescriptor yX1_changeWeight.desc).map (fun d => d.parameters.length) = some 2 := by decide +kernel
def f_X1_changeWeight (σ : CacS) (p0 : Int32) (p1 : Int32) : Option (Int32 × CacS) := (f_X1_clientOf σ p0).bind fun r1 => on_ r1 (some ((-1), σ)) (fun k3 => cx_let (va_up σ (8 + k3) (oI (σ (8 + k3)) 0 p1)) fun z4 => some ((σ (8 + k3)).2 0, z4))
set_option maxHeartbeats 4000000 in
set_option maxRecDepth 100000 in
theorem c_X1_changeWeight {l : Launch} {G : va_G} {cA : Nat → ClassId} {lo : Nat} {ad : Nat → Nat} {P : CacS → Heap → Prop} (hC : cx G lo 25 ad (ceCache cA ad) P) {σ : CacS} {p0 : Int32} {p1 : Int32} {res : Int32 × CacS} (hf : f_X1_changeWeight σ p0 p1 = some res) : Met l yX1_changeWeight (cW yX1_changeWeight cX1_changeWeight 5 (some .int)) rm_X1_changeWeight (cP [.ref (ad 0), .int p0, .int p1] (P σ) G cA) (cQ (some (.int res.1)) (P res.2)) 0 0 (fun q => lo ≤ q) := by
  refine cx_met (by decide) (Nat.le_of_ble_eq_true rfl) (fun p e s m args below meth c ls C0 hP hl => ?_)
  have hl : lv_has ls 5 [(0, .ref (ad 0)), (1, .int p0), (2, .int p1)] := hl
  obtain ⟨⟨hx, hb, hml, hown, hts⟩, hr, hlocks, hK⟩ := id C0
  have hL : ∀ q ∈ ([] : List Loc), lo ≤ q.base := fun q h => nomatch h
  unfold f_X1_changeWeight at hf
  refine lv_aload_n hx hb dX1_changeWeight_0 rfl (lv_at hl 0 rfl) ?_
  refine lv_iload_n hx hb dX1_changeWeight_1 rfl (lv_at hl 1 rfl) ?_
  obtain ⟨r1, q2, hf⟩ := cx_b hf
  refine cx_callV (As := [.int p0]) (rest := []) ⟨hx, hb, hml, hown, hts⟩ (c_X1_clientOf hC q2) (cwV 1 hts (gV mw_205 mw_206 mw_207 mw_29 mw_208) rfl rfl rfl hd_X1_clientOf ⟨Nat.le_of_ble_eq_true rfl, Nat.le_of_ble_eq_true rfl⟩) hK hP rfl (at_Cache hC hP) rfl hl.1 rfl (Nat.le_of_ble_eq_true rfl) dX1_changeWeight_2 ⟨Nat.zero_le _, Nat.zero_le _⟩ hL (fun H locs hP hL => ?_)
  replace hP : P σ H := by first | exact hP | (simpa only [va_up_id] using hP)
  cases r1 with
  | none =>
    have hf := on_N hf
    refine lv_astore_nN (lv' := [(3, .null), (0, .ref (ad 0)), (1, .int p0), (2, .int p1)]) hx hb dX1_changeWeight_5 rfl hl (by decide) rfl (fun ls hl => ?_)
    refine lv_aload_nN hx hb dX1_changeWeight_6 rfl (lv_at hl 0 rfl) ?_
    refine lv_ifnonnullN hx hb dX1_changeWeight_7 ?_
    refine lv_iconst (v := (-1)) hx hb dX1_changeWeight_10 (by decide) ?_
    cases hf
    exact cx_iret hx hb hr hlocks hP hL dX1_changeWeight_11
  | some k3 =>
    have hf := on_S hf
    have hk3 := f_X1_clientOf_lt q2
    refine lv_astore_n (lv' := [(3, .ref ((adCli ad k3) 0)), (0, .ref (ad 0)), (1, .int p0), (2, .int p1)]) hx hb dX1_changeWeight_5 rfl hl (by decide) rfl (fun ls hl => ?_)
    refine lv_aload_n hx hb dX1_changeWeight_6 rfl (lv_at hl 0 rfl) ?_
    refine lv_ifnonnull (tgt := 12) hx hb dX1_changeWeight_7 (by decide) ?_
    refine lv_aload_n hx hb dX1_changeWeight_12 rfl (lv_at hl 0 rfl) ?_
    refine g_Client_0 (cx_cli hC σ k3 (8 + k3) hk3 rfl) (cx_id (8 + k3) hP) hx hb hts hown hK mw_339 dX1_changeWeight_13 ?_
    refine lv_istore (lv' := [(4, .int ((σ (8 + k3)).2 0)), (3, .ref ((adCli ad k3) 0)), (0, .ref (ad 0)), (1, .int p0), (2, .int p1)]) hx hb dX1_changeWeight_16 hl (by decide) rfl (fun ls hl => ?_)
    refine lv_aload_n hx hb dX1_changeWeight_18 rfl (lv_at hl 1 rfl) ?_
    refine lv_iload_n hx hb dX1_changeWeight_19 rfl (lv_at hl 4 rfl) ?_
    obtain ⟨z4, ez4, hf⟩ := cx_letE hf
    refine p_Client_0 (cx_cli hC σ k3 (8 + k3) hk3 rfl) (cx_id (8 + k3) hP) hx hb hts hown hK mw_339 dX1_changeWeight_20 hL (fun H locs hP hL => ?_)
    replace hP : P z4 H := by rw [← ez4]; exact hP
    refine lv_iload hx hb dX1_changeWeight_23 (lv_at hl 0 rfl) ?_
    cases hf
    exact cx_iret hx hb hr hlocks hP hL dX1_changeWeight_25
abbrev rm_X1_changeSetting : Room := { frames := 0, cells := 0, slots := 0, locals := 0 }
theorem hd_X1_changeSetting : yX1_changeSetting.cls = RX1 ∧ yX1_changeSetting.cls ≠ "java/lang/invoke/MethodHandle" ∧ yX1_changeSetting.cls ≠ "java/lang/invoke/VarHandle" ∧ (parseMethodDescriptor yX1_changeSetting.desc).map (fun d => d.parameters.length) = some 2 := by decide +kernel
def f_X1_changeSetting (σ : CacS) (p0 : Int32) (p1 : Int32) : Option (Int32 × CacS) := if p0 = 0 then if p0 = 0 then cx_let (va_up σ 0 (oI (σ 0) 10 p1)) fun z7 => some ((σ 0).2 10, z7) else cx_let (va_up σ 0 (oI (σ 0) 11 p1)) fun z6 => some ((σ 0).2 10, z6) else if p0 = 0 then cx_let (va_up σ 0 (oI (σ 0) 10 p1)) fun z4 => some ((σ 0).2 11, z4) else cx_let (va_up σ 0 (oI (σ 0) 11 p1)) fun z3 => some ((σ 0).2 11, z3)
set_option maxHeartbeats 4000000 in
set_option maxRecDepth 100000 in
theorem c_X1_changeSetting {l : Launch} {G : va_G} {cA : Nat → ClassId} {lo : Nat} {ad : Nat → Nat} {P : CacS → Heap → Prop} (hC : cx G lo 25 ad (ceCache cA ad) P) {σ : CacS} {p0 : Int32} {p1 : Int32} {res : Int32 × CacS} (hf : f_X1_changeSetting σ p0 p1 = some res) : Met l yX1_changeSetting (cW yX1_changeSetting cX1_changeSetting 4 (some .int)) rm_X1_changeSetting (cP [.ref (ad 0), .int p0, .int p1] (P σ) G cA) (cQ (some (.int res.1)) (P res.2)) 0 0 (fun q => lo ≤ q) := by
  refine cx_met (by decide) (Nat.le_of_ble_eq_true rfl) (fun p e s m args below meth c ls C0 hP hl => ?_)
  have hl : lv_has ls 4 [(0, .ref (ad 0)), (1, .int p0), (2, .int p1)] := hl
  obtain ⟨⟨hx, hb, hml, hown, hts⟩, hr, hlocks, hK⟩ := id C0
  have hL : ∀ q ∈ ([] : List Loc), lo ≤ q.base := fun q h => nomatch h
  unfold f_X1_changeSetting at hf
  refine lv_iload_n hx hb dX1_changeSetting_0 rfl (lv_at hl 1 rfl) ?_
  refine lv_if_ne (tgt := 11) hx hb dX1_changeSetting_1 (by decide) (fun c1 => ?_) (fun c1 => ?_)
  · have hf := cx_f hf c1
    refine lv_aload_n hx hb dX1_changeSetting_11 rfl (lv_at hl 0 rfl) ?_
    refine g_Cache_11 hC hP hx hb hts hown hK mw_78 dX1_changeSetting_12 ?_
    refine lv_istore_n (lv' := [(3, .int ((σ 0).2 11)), (0, .ref (ad 0)), (1, .int p0), (2, .int p1)]) hx hb dX1_changeSetting_15 rfl hl (by decide) rfl (fun ls hl => ?_)
    refine lv_iload_n hx hb dX1_changeSetting_16 rfl (lv_at hl 2 rfl) ?_
    refine lv_if_ne (tgt := 28) hx hb dX1_changeSetting_17 (by decide) (fun c2 => ?_) (fun c2 => ?_)
    · have hf := cx_f hf c2
      refine lv_aload_n hx hb dX1_changeSetting_28 rfl (lv_at hl 1 rfl) ?_
      refine lv_iload_n hx hb dX1_changeSetting_29 rfl (lv_at hl 3 rfl) ?_
      obtain ⟨z3, ez3, hf⟩ := cx_letE hf
      refine p_Cache_11 hC hP hx hb hts hown hK mw_78 dX1_changeSetting_30 hL (fun H locs hP hL => ?_)
      replace hP : P z3 H := by rw [← ez3]; exact hP
      refine lv_iload_n hx hb dX1_changeSetting_33 rfl (lv_at hl 0 rfl) ?_
      cases hf
      exact cx_iret hx hb hr hlocks hP hL dX1_changeSetting_34
    · have hf := cx_t hf c2
      refine lv_aload_n hx hb dX1_changeSetting_20 rfl (lv_at hl 1 rfl) ?_
      refine lv_iload_n hx hb dX1_changeSetting_21 rfl (lv_at hl 3 rfl) ?_
      obtain ⟨z4, ez4, hf⟩ := cx_letE hf
      refine p_Cache_10 hC hP hx hb hts hown hK mw_77 dX1_changeSetting_22 hL (fun H locs hP hL => ?_)
      replace hP : P z4 H := by rw [← ez4]; exact hP
      refine lv_goto (tgt := 33) hx hb dX1_changeSetting_25 (by decide) ?_
      refine lv_iload_n hx hb dX1_changeSetting_33 rfl (lv_at hl 0 rfl) ?_
      cases hf
      exact cx_iret hx hb hr hlocks hP hL dX1_changeSetting_34
  · have hf := cx_t hf c1
    refine lv_aload_n hx hb dX1_changeSetting_4 rfl (lv_at hl 0 rfl) ?_
    refine g_Cache_10 hC hP hx hb hts hown hK mw_77 dX1_changeSetting_5 ?_
    refine lv_goto (tgt := 15) hx hb dX1_changeSetting_8 (by decide) ?_
    refine lv_istore_n (lv' := [(3, .int ((σ 0).2 10)), (0, .ref (ad 0)), (1, .int p0), (2, .int p1)]) hx hb dX1_changeSetting_15 rfl hl (by decide) rfl (fun ls hl => ?_)
    refine lv_iload_n hx hb dX1_changeSetting_16 rfl (lv_at hl 2 rfl) ?_
    refine lv_if_ne (tgt := 28) hx hb dX1_changeSetting_17 (by decide) (fun c5 => ?_) (fun c5 => ?_)
    · have hf := cx_f hf c5
      refine lv_aload_n hx hb dX1_changeSetting_28 rfl (lv_at hl 1 rfl) ?_
      refine lv_iload_n hx hb dX1_changeSetting_29 rfl (lv_at hl 3 rfl) ?_
      obtain ⟨z6, ez6, hf⟩ := cx_letE hf
      refine p_Cache_11 hC hP hx hb hts hown hK mw_78 dX1_changeSetting_30 hL (fun H locs hP hL => ?_)
      replace hP : P z6 H := by rw [← ez6]; exact hP
      refine lv_iload_n hx hb dX1_changeSetting_33 rfl (lv_at hl 0 rfl) ?_
      cases hf
      exact cx_iret hx hb hr hlocks hP hL dX1_changeSetting_34
    · have hf := cx_t hf c5
      refine lv_aload_n hx hb dX1_changeSetting_20 rfl (lv_at hl 1 rfl) ?_
      refine lv_iload_n hx hb dX1_changeSetting_21 rfl (lv_at hl 3 rfl) ?_
      obtain ⟨z7, ez7, hf⟩ := cx_letE hf
      refine p_Cache_10 hC hP hx hb hts hown hK mw_77 dX1_changeSetting_22 hL (fun H locs hP hL => ?_)
      replace hP : P z7 H := by rw [← ez7]; exact hP
      refine lv_goto (tgt := 33) hx hb dX1_changeSetting_25 (by decide) ?_
      refine lv_iload_n hx hb dX1_changeSetting_33 rfl (lv_at hl 0 rfl) ?_
      cases hf
      exact cx_iret hx hb hr hlocks hP hL dX1_changeSetting_34
abbrev rm_X1_reshape : Room := { frames := 3, cells := 0, slots := 0, locals := 68 }
theorem hd_X1_reshape : yX1_reshape.cls = RX1 ∧ yX1_reshape.cls ≠ "java/lang/invoke/MethodHandle" ∧ yX1_reshape.cls ≠ "java/lang/invoke/VarHandle" ∧ (parseMethodDescriptor yX1_reshape.desc).map (fun d => d.parameters.length) = some 2 := by decide +kernel
def f_X1_reshape (N : Nat) (σ : CacS) (p0 : Int32) (p1 : Int32) : Option (Int32 × CacS) := (f_X0_writeBackSome N (σ 1) 200).bind fun r1 => cx_let (va_up σ 1 r1.2) fun z3 => (f_X0_dropAll N (z3 1)).bind fun r4 => cx_let (va_up z3 1 r4) fun z6 => cx_let (va_up z6 3 (oI (z6 3) 1 0)) fun z7 => cx_let (va_up z7 4 (oI (z7 4) 1 0)) fun z8 => cx_let (va_up z8 5 (oI (z8 5) 1 0)) fun z9 => cx_let (va_up z9 6 (oI (z9 6) 1 0)) fun z10 => cx_let (va_up z10 7 (oI (z10 7) 1 0)) fun z11 => cx_let (va_up z11 0 (oI (z11 0) 14 0)) fun z12 => cx_let (va_up z12 0 (oI (z12 0) 12 p0)) fun z13 => cx_let (va_up z13 0 (oI (z13 0) 13 p1)) fun z14 => some ((((σ 3).2 1 + (σ 4).2 1) + (σ 5).2 1), z14)
set_option maxHeartbeats 4000000 in
set_option maxRecDepth 100000 in
theorem c_X1_reshape {l : Launch} {G : va_G} {cA : Nat → ClassId} {lo : Nat} {ad : Nat → Nat} {P : CacS → Heap → Prop} (hC : cx G lo 25 ad (ceCache cA ad) P) {N : Nat} {σ : CacS} {p0 : Int32} {p1 : Int32} {res : Int32 × CacS} (hf : f_X1_reshape N σ p0 p1 = some res) : Met l yX1_reshape (cW yX1_reshape cX1_reshape 4 (some .int)) rm_X1_reshape (cP [.ref (ad 0), .int p0, .int p1] (P σ) G cA) (cQ (some (.int res.1)) (P res.2)) 0 0 (fun q => lo ≤ q) := by
  refine cx_met (by decide) (Nat.le_of_ble_eq_true rfl) (fun p e s m args below meth c ls C0 hP hl => ?_)
  have hl : lv_has ls 4 [(0, .ref (ad 0)), (1, .int p0), (2, .int p1)] := hl
  obtain ⟨⟨hx, hb, hml, hown, hts⟩, hr, hlocks, hK⟩ := id C0
  have hL : ∀ q ∈ ([] : List Loc), lo ≤ q.base := fun q h => nomatch h
  unfold f_X1_reshape at hf
  refine lv_aload_n hx hb dX1_reshape_0 rfl (lv_at hl 0 rfl) ?_
  refine g_Cache_2 hC hP hx hb hts hown hK mw_67 dX1_reshape_1 ?_
  refine g_Row_1 (cx_row hC σ 0 3 (by decide) rfl) (cx_id 3 hP) hx hb hts hown hK mw_239 dX1_reshape_4 ?_
  refine lv_aload_n hx hb dX1_reshape_7 rfl (lv_at hl 0 rfl) ?_
  refine g_Cache_3 hC hP hx hb hts hown hK mw_68 dX1_reshape_8 ?_
  refine g_Row_1 (cx_row hC σ 1 4 (by decide) rfl) (cx_id 4 hP) hx hb hts hown hK mw_239 dX1_reshape_11 ?_
  refine lv_iadd hx hb dX1_reshape_14 ?_
  refine lv_aload_n hx hb dX1_reshape_15 rfl (lv_at hl 0 rfl) ?_
  refine g_Cache_4 hC hP hx hb hts hown hK mw_69 dX1_reshape_16 ?_
  refine g_Row_1 (cx_row hC σ 2 5 (by decide) rfl) (cx_id 5 hP) hx hb hts hown hK mw_239 dX1_reshape_19 ?_
  refine lv_iadd hx hb dX1_reshape_22 ?_
  refine lv_istore_n (lv' := [(3, .int (((σ 3).2 1 + (σ 4).2 1) + (σ 5).2 1)), (0, .ref (ad 0)), (1, .int p0), (2, .int p1)]) hx hb dX1_reshape_23 rfl hl (by decide) rfl (fun ls hl => ?_)
  refine lv_aload_n hx hb dX1_reshape_24 rfl (lv_at hl 1 rfl) ?_
  refine g_Cache_0 hC hP hx hb hts hown hK mw_59 dX1_reshape_25 ?_
  refine lv_sipush (v := 200) hx hb dX1_reshape_28 (by decide) ?_
  obtain ⟨r1, q2, hf⟩ := cx_b hf
  refine cx_callV (As := [.int 200]) (rest := []) ⟨hx, hb, hml, hown, hts⟩ (c_X0_writeBackSome (cx_blk hC σ) q2) (cwV 1 hts (gV mw_240 mw_241 mw_242 mw_58 mw_243) rfl rfl rfl hd_X0_writeBackSome ⟨Nat.le_of_ble_eq_true rfl, Nat.le_of_ble_eq_true rfl⟩) hK (cx_id 1 hP) rfl (at_Blocks (cx_blk hC σ) (cx_id 1 hP)) rfl hl.1 rfl (Nat.le_of_ble_eq_true rfl) dX1_reshape_31 ⟨Nat.zero_le _, Nat.zero_le _⟩ hL (fun H locs hP hL => ?_)
  obtain ⟨z3, ez3, hf⟩ := cx_letE hf
  replace hP : P z3 H := by rw [← ez3]; exact hP
  refine lv_pop hx hb dX1_reshape_34 rfl ?_
  refine lv_aload_n hx hb dX1_reshape_35 rfl (lv_at hl 1 rfl) ?_
  refine g_Cache_0 hC hP hx hb hts hown hK mw_59 dX1_reshape_36 ?_
  obtain ⟨r4, q5, hf⟩ := cx_b hf
  refine cx_callV (As := []) (rest := []) ⟨hx, hb, hml, hown, hts⟩ (c_X0_dropAll (cx_blk hC z3) q5) (cwV 0 hts (gV mw_256 mw_257 mw_258 mw_58 mw_259) rfl rfl rfl hd_X0_dropAll ⟨Nat.le_of_ble_eq_true rfl, Nat.le_of_ble_eq_true rfl⟩) hK (cx_id 1 hP) rfl (at_Blocks (cx_blk hC z3) (cx_id 1 hP)) rfl hl.1 rfl (Nat.le_of_ble_eq_true rfl) dX1_reshape_39 ⟨Nat.zero_le _, Nat.zero_le _⟩ hL (fun H locs hP hL => ?_)
  obtain ⟨z6, ez6, hf⟩ := cx_letE hf
  replace hP : P z6 H := by rw [← ez6]; exact hP
  refine lv_aload_n hx hb dX1_reshape_42 rfl (lv_at hl 1 rfl) ?_
  refine g_Cache_2 hC hP hx hb hts hown hK mw_67 dX1_reshape_43 ?_
  refine lv_iconst (v := 0) hx hb dX1_reshape_46 (by decide) ?_
  obtain ⟨z7, ez7, hf⟩ := cx_letE hf
  refine p_Row_1 (cx_row hC z6 0 3 (by decide) rfl) (cx_id 3 hP) hx hb hts hown hK mw_239 dX1_reshape_47 hL (fun H locs hP hL => ?_)
  replace hP : P z7 H := by rw [← ez7]; exact hP
  refine lv_aload_n hx hb dX1_reshape_50 rfl (lv_at hl 1 rfl) ?_
  refine g_Cache_3 hC hP hx hb hts hown hK mw_68 dX1_reshape_51 ?_
  refine lv_iconst (v := 0) hx hb dX1_reshape_54 (by decide) ?_
  obtain ⟨z8, ez8, hf⟩ := cx_letE hf
  refine p_Row_1 (cx_row hC z7 1 4 (by decide) rfl) (cx_id 4 hP) hx hb hts hown hK mw_239 dX1_reshape_55 hL (fun H locs hP hL => ?_)
  replace hP : P z8 H := by rw [← ez8]; exact hP
  refine lv_aload_n hx hb dX1_reshape_58 rfl (lv_at hl 1 rfl) ?_
  refine g_Cache_4 hC hP hx hb hts hown hK mw_69 dX1_reshape_59 ?_
  refine lv_iconst (v := 0) hx hb dX1_reshape_62 (by decide) ?_
  obtain ⟨z9, ez9, hf⟩ := cx_letE hf
  refine p_Row_1 (cx_row hC z8 2 5 (by decide) rfl) (cx_id 5 hP) hx hb hts hown hK mw_239 dX1_reshape_63 hL (fun H locs hP hL => ?_)
  replace hP : P z9 H := by rw [← ez9]; exact hP
  refine lv_aload_n hx hb dX1_reshape_66 rfl (lv_at hl 1 rfl) ?_
  refine g_Cache_5 hC hP hx hb hts hown hK mw_70 dX1_reshape_67 ?_
  refine lv_iconst (v := 0) hx hb dX1_reshape_70 (by decide) ?_
  obtain ⟨z10, ez10, hf⟩ := cx_letE hf
  refine p_Row_1 (cx_row hC z9 3 6 (by decide) rfl) (cx_id 6 hP) hx hb hts hown hK mw_239 dX1_reshape_71 hL (fun H locs hP hL => ?_)
  replace hP : P z10 H := by rw [← ez10]; exact hP
  refine lv_aload_n hx hb dX1_reshape_74 rfl (lv_at hl 1 rfl) ?_
  refine g_Cache_6 hC hP hx hb hts hown hK mw_71 dX1_reshape_75 ?_
  refine lv_iconst (v := 0) hx hb dX1_reshape_78 (by decide) ?_
  obtain ⟨z11, ez11, hf⟩ := cx_letE hf
  refine p_Row_1 (cx_row hC z10 4 7 (by decide) rfl) (cx_id 7 hP) hx hb hts hown hK mw_239 dX1_reshape_79 hL (fun H locs hP hL => ?_)
  replace hP : P z11 H := by rw [← ez11]; exact hP
  refine lv_aload_n hx hb dX1_reshape_82 rfl (lv_at hl 1 rfl) ?_
  refine lv_iconst (v := 0) hx hb dX1_reshape_83 (by decide) ?_
  obtain ⟨z12, ez12, hf⟩ := cx_letE hf
  refine p_Cache_14 hC hP hx hb hts hown hK mw_172 dX1_reshape_84 hL (fun H locs hP hL => ?_)
  replace hP : P z12 H := by rw [← ez12]; exact hP
  refine lv_aload_n hx hb dX1_reshape_87 rfl (lv_at hl 1 rfl) ?_
  refine lv_iload_n hx hb dX1_reshape_88 rfl (lv_at hl 2 rfl) ?_
  obtain ⟨z13, ez13, hf⟩ := cx_letE hf
  refine p_Cache_12 hC hP hx hb hts hown hK mw_79 dX1_reshape_89 hL (fun H locs hP hL => ?_)
  replace hP : P z13 H := by rw [← ez13]; exact hP
  refine lv_aload_n hx hb dX1_reshape_92 rfl (lv_at hl 1 rfl) ?_
  refine lv_iload_n hx hb dX1_reshape_93 rfl (lv_at hl 3 rfl) ?_
  obtain ⟨z14, ez14, hf⟩ := cx_letE hf
  refine p_Cache_13 hC hP hx hb hts hown hK mw_80 dX1_reshape_94 hL (fun H locs hP hL => ?_)
  replace hP : P z14 H := by rw [← ez14]; exact hP
  refine lv_iload_n hx hb dX1_reshape_97 rfl (lv_at hl 0 rfl) ?_
  cases hf
  exact cx_iret hx hb hr hlocks hP hL dX1_reshape_98
abbrev rm_X1_kindOf : Room := { frames := 1, cells := 0, slots := 0, locals := 21 }
theorem hd_X1_kindOf : yX1_kindOf.cls = RX1 ∧ yX1_kindOf.cls ≠ "java/lang/invoke/MethodHandle" ∧ yX1_kindOf.cls ≠ "java/lang/invoke/VarHandle" ∧ (parseMethodDescriptor yX1_kindOf.desc).map (fun d => d.parameters.length) = some 1 := by decide +kernel
def f_X1_kindOf (σ : CacS) (p0 : Int32) : Option (Int32) := (f_X0_listOf (σ 1) p0).bind fun r1 => if r1 = (-1) then some 2 else if r1 = 2 then some 1 else some 0
set_option maxHeartbeats 4000000 in
set_option maxRecDepth 100000 in
theorem c_X1_kindOf {l : Launch} {G : va_G} {cA : Nat → ClassId} {lo : Nat} {ad : Nat → Nat} {P : CacS → Heap → Prop} (hC : cx G lo 25 ad (ceCache cA ad) P) {σ : CacS} {p0 : Int32} {res : Int32} (hf : f_X1_kindOf σ p0 = some res) : Met l yX1_kindOf (cW yX1_kindOf cX1_kindOf 3 (some .int)) rm_X1_kindOf (cP [.ref (ad 0), .int p0] (P σ) G cA) (cQ (some (.int res)) (P σ)) 0 0 (fun q => lo ≤ q) := by
  refine cx_met (by decide) (Nat.le_of_ble_eq_true rfl) (fun p e s m args below meth c ls C0 hP hl => ?_)
  have hl : lv_has ls 3 [(0, .ref (ad 0)), (1, .int p0)] := hl
  obtain ⟨⟨hx, hb, hml, hown, hts⟩, hr, hlocks, hK⟩ := id C0
  have hL : ∀ q ∈ ([] : List Loc), lo ≤ q.base := fun q h => nomatch h
  unfold f_X1_kindOf at hf
  refine lv_aload_n hx hb dX1_kindOf_0 rfl (lv_at hl 0 rfl) ?_
  refine g_Cache_0 hC hP hx hb hts hown hK mw_59 dX1_kindOf_1 ?_
  refine lv_iload_n hx hb dX1_kindOf_4 rfl (lv_at hl 1 rfl) ?_
  obtain ⟨r1, q2, hf⟩ := cx_b hf
  refine cx_callV (As := [.int p0]) (rest := []) ⟨hx, hb, hml, hown, hts⟩ (c_X0_listOf (cx_blk hC σ) q2) (cwV 1 hts (gV mw_364 mw_365 mw_366 mw_58 mw_367) rfl rfl rfl hd_X0_listOf ⟨Nat.le_of_ble_eq_true rfl, Nat.le_of_ble_eq_true rfl⟩) hK (cx_id 1 hP) rfl (at_Blocks (cx_blk hC σ) (cx_id 1 hP)) rfl hl.1 rfl (Nat.le_of_ble_eq_true rfl) dX1_kindOf_5 ⟨Nat.zero_le _, Nat.zero_le _⟩ hL (fun H locs hP hL => ?_)
  replace hP : P σ H := by first | exact hP | (simpa only [va_up_id] using hP)
  refine lv_istore_n (lv' := [(2, .int r1), (0, .ref (ad 0)), (1, .int p0)]) hx hb dX1_kindOf_8 rfl hl (by decide) rfl (fun ls hl => ?_)
  refine lv_iload_n hx hb dX1_kindOf_9 rfl (lv_at hl 0 rfl) ?_
  refine lv_iconst (v := (-1)) hx hb dX1_kindOf_10 (by decide) ?_
  refine lv_icmp_ne (tgt := 16) hx hb dX1_kindOf_11 (by decide) (fun c3 => ?_) (fun c3 => ?_)
  · have hf := cx_f hf c3
    refine lv_iload_n hx hb dX1_kindOf_16 rfl (lv_at hl 0 rfl) ?_
    refine lv_iconst (v := 2) hx hb dX1_kindOf_17 (by decide) ?_
    refine lv_icmp_ne (tgt := 25) hx hb dX1_kindOf_18 (by decide) (fun c4 => ?_) (fun c4 => ?_)
    · have hf := cx_f hf c4
      refine lv_iconst (v := 0) hx hb dX1_kindOf_25 (by decide) ?_
      cases hf
      exact cx_iret hx hb hr hlocks hP hL dX1_kindOf_26
    · have hf := cx_t hf c4
      refine lv_iconst (v := 1) hx hb dX1_kindOf_21 (by decide) ?_
      refine lv_goto (tgt := 26) hx hb dX1_kindOf_22 (by decide) ?_
      cases hf
      exact cx_iret hx hb hr hlocks hP hL dX1_kindOf_26
  · have hf := cx_t hf c3
    refine lv_iconst (v := 2) hx hb dX1_kindOf_14 (by decide) ?_
    cases hf
    exact cx_iret hx hb hr hlocks hP hL dX1_kindOf_15
abbrev rm_X1_makeMostFrequent : Room := { frames := 1, cells := 0, slots := 0, locals := 23 }
theorem hd_X1_makeMostFrequent : yX1_makeMostFrequent.cls = RX1 ∧ yX1_makeMostFrequent.cls ≠ "java/lang/invoke/MethodHandle" ∧ yX1_makeMostFrequent.cls ≠ "java/lang/invoke/VarHandle" ∧ (parseMethodDescriptor yX1_makeMostFrequent.desc).map (fun d => d.parameters.length) = some 1 := by decide +kernel
def f_X1_makeMostFrequent (N : Nat) (σ : CacS) (p0 : Int32) : Option (CacS) := (f_X0_listOf (σ 1) p0).bind fun r1 => (f_X1_rowOf σ r1).bind fun r3 => (f_X5_takeOut N (σ (3 + r3)) p0).bind fun r5 => cx_let (va_up σ (3 + r3) r5) fun z7 => (f_X5_putFirst N (z7 4) p0).bind fun r8 => cx_let (va_up z7 4 r8) fun z10 => (f_X0_putUnitIn (z10 1) p0 1).bind fun r11 => cx_let (va_up z10 1 r11) fun z13 => some z13
set_option maxHeartbeats 4000000 in
set_option maxRecDepth 100000 in
theorem c_X1_makeMostFrequent {l : Launch} {G : va_G} {cA : Nat → ClassId} {lo : Nat} {ad : Nat → Nat} {P : CacS → Heap → Prop} (hC : cx G lo 25 ad (ceCache cA ad) P) {N : Nat} {σ : CacS} {p0 : Int32} {res : CacS} (hf : f_X1_makeMostFrequent N σ p0 = some res) : Met l yX1_makeMostFrequent (cW yX1_makeMostFrequent cX1_makeMostFrequent 2 none) rm_X1_makeMostFrequent (cP [.ref (ad 0), .int p0] (P σ) G cA) (cQ none (P res)) 0 0 (fun q => lo ≤ q) := by
  refine cx_met (by decide) (Nat.le_of_ble_eq_true rfl) (fun p e s m args below meth c ls C0 hP hl => ?_)
  have hl : lv_has ls 2 [(0, .ref (ad 0)), (1, .int p0)] := hl
  obtain ⟨⟨hx, hb, hml, hown, hts⟩, hr, hlocks, hK⟩ := id C0
  have hL : ∀ q ∈ ([] : List Loc), lo ≤ q.base := fun q h => nomatch h
  unfold f_X1_makeMostFrequent at hf
  refine lv_aload_n hx hb dX1_makeMostFrequent_0 rfl (lv_at hl 0 rfl) ?_
  refine lv_aload_n hx hb dX1_makeMostFrequent_1 rfl (lv_at hl 0 rfl) ?_
  refine g_Cache_0 hC hP hx hb hts hown hK mw_59 dX1_makeMostFrequent_2 ?_
  refine lv_iload_n hx hb dX1_makeMostFrequent_5 rfl (lv_at hl 1 rfl) ?_
  obtain ⟨r1, q2, hf⟩ := cx_b hf
  refine cx_callV (As := [.int p0]) (rest := [.ref (ad 0)]) ⟨hx, hb, hml, hown, hts⟩ (c_X0_listOf (cx_blk hC σ) q2) (cwV 1 hts (gV mw_364 mw_365 mw_366 mw_58 mw_367) rfl rfl rfl hd_X0_listOf ⟨Nat.le_of_ble_eq_true rfl, Nat.le_of_ble_eq_true rfl⟩) hK (cx_id 1 hP) rfl (at_Blocks (cx_blk hC σ) (cx_id 1 hP)) rfl hl.1 rfl (Nat.le_of_ble_eq_true rfl) dX1_makeMostFrequent_6 ⟨Nat.zero_le _, Nat.zero_le _⟩ hL (fun H locs hP hL => ?_)
  replace hP : P σ H := by first | exact hP | (simpa only [va_up_id] using hP)
  obtain ⟨r3, q4, hf⟩ := cx_b hf
  refine cx_callV (As := [.int r1]) (rest := []) ⟨hx, hb, hml, hown, hts⟩ (c_X1_rowOf hC q4) (cwV 1 hts (gV mw_289 mw_290 mw_291 mw_29 mw_292) rfl rfl rfl hd_X1_rowOf ⟨Nat.le_of_ble_eq_true rfl, Nat.le_of_ble_eq_true rfl⟩) hK hP rfl (at_Cache hC hP) rfl hl.1 rfl (Nat.le_of_ble_eq_true rfl) dX1_makeMostFrequent_9 ⟨Nat.zero_le _, Nat.zero_le _⟩ hL (fun H locs hP hL => ?_)
  replace hP : P σ H := by first | exact hP | (simpa only [va_up_id] using hP)
  have hr3 := f_X1_rowOf_lt q4
  refine lv_iload_n hx hb dX1_makeMostFrequent_12 rfl (lv_at hl 1 rfl) ?_
  obtain ⟨r5, q6, hf⟩ := cx_b hf
  refine cx_callV (As := [.int p0]) (rest := []) ⟨hx, hb, hml, hown, hts⟩ (c_X5_takeOut (cx_row hC σ r3 (3 + r3) hr3 rfl) q6) (cwV 1 hts (gV mw_439 mw_440 mw_441 mw_66 mw_442) rfl rfl rfl hd_X5_takeOut ⟨Nat.le_of_ble_eq_true rfl, Nat.le_of_ble_eq_true rfl⟩) hK (cx_id (3 + r3) hP) rfl (at_Row (cx_row hC σ r3 (3 + r3) hr3 rfl) (cx_id (3 + r3) hP)) rfl hl.1 rfl (Nat.le_of_ble_eq_true rfl) dX1_makeMostFrequent_13 ⟨Nat.zero_le _, Nat.zero_le _⟩ hL (fun H locs hP hL => ?_)
  obtain ⟨z7, ez7, hf⟩ := cx_letE hf
  replace hP : P z7 H := by rw [← ez7]; exact hP
  refine lv_aload_n hx hb dX1_makeMostFrequent_16 rfl (lv_at hl 0 rfl) ?_
  refine g_Cache_3 hC hP hx hb hts hown hK mw_68 dX1_makeMostFrequent_17 ?_
  refine lv_iload_n hx hb dX1_makeMostFrequent_20 rfl (lv_at hl 1 rfl) ?_
  obtain ⟨r8, q9, hf⟩ := cx_b hf
  refine cx_callV (As := [.int p0]) (rest := []) ⟨hx, hb, hml, hown, hts⟩ (c_X5_putFirst (cx_row hC z7 1 4 (by decide) rfl) q9) (cwV 1 hts (gV mw_443 mw_444 mw_445 mw_66 mw_446) rfl rfl rfl hd_X5_putFirst ⟨Nat.le_of_ble_eq_true rfl, Nat.le_of_ble_eq_true rfl⟩) hK (cx_id 4 hP) rfl (at_Row (cx_row hC z7 1 4 (by decide) rfl) (cx_id 4 hP)) rfl hl.1 rfl (Nat.le_of_ble_eq_true rfl) dX1_makeMostFrequent_21 ⟨Nat.zero_le _, Nat.zero_le _⟩ hL (fun H locs hP hL => ?_)
  obtain ⟨z10, ez10, hf⟩ := cx_letE hf
  replace hP : P z10 H := by rw [← ez10]; exact hP
  refine lv_aload_n hx hb dX1_makeMostFrequent_24 rfl (lv_at hl 0 rfl) ?_
  refine g_Cache_0 hC hP hx hb hts hown hK mw_59 dX1_makeMostFrequent_25 ?_
  refine lv_iload_n hx hb dX1_makeMostFrequent_28 rfl (lv_at hl 1 rfl) ?_
  refine lv_iconst (v := 1) hx hb dX1_makeMostFrequent_29 (by decide) ?_
  obtain ⟨r11, q12, hf⟩ := cx_b hf
  refine cx_callV (As := [.int p0, .int 1]) (rest := []) ⟨hx, hb, hml, hown, hts⟩ (c_X0_putUnitIn (cx_blk hC z10) q12) (cwV 2 hts (gV mw_447 mw_448 mw_449 mw_58 mw_450) rfl rfl rfl hd_X0_putUnitIn ⟨Nat.le_of_ble_eq_true rfl, Nat.le_of_ble_eq_true rfl⟩) hK (cx_id 1 hP) rfl (at_Blocks (cx_blk hC z10) (cx_id 1 hP)) rfl hl.1 rfl (Nat.le_of_ble_eq_true rfl) dX1_makeMostFrequent_30 ⟨Nat.zero_le _, Nat.zero_le _⟩ hL (fun H locs hP hL => ?_)
  obtain ⟨z13, ez13, hf⟩ := cx_letE hf
  replace hP : P z13 H := by rw [← ez13]; exact hP
  cases hf
  exact cx_vret hx hb hr hlocks hP hL dX1_makeMostFrequent_33
abbrev rm_X1_unitToLeave : Room := { frames := 1, cells := 0, slots := 0, locals := 21 }
theorem hd_X1_unitToLeave : yX1_unitToLeave.cls = RX1 ∧ yX1_unitToLeave.cls ≠ "java/lang/invoke/MethodHandle" ∧ yX1_unitToLeave.cls ≠ "java/lang/invoke/VarHandle" ∧ (parseMethodDescriptor yX1_unitToLeave.desc).map (fun d => d.parameters.length) = some 0 := by decide +kernel
def f_X1_unitToLeave_b26 (N : Nat) : Nat → CacS → Int32 → Option (Int32)
  | 0, _, _ => none
  | n + 1, σ, x1 => if x1 < 0 then (f_X5_blockAt (σ 5) ((σ 5).2 1 - 1)).bind fun r2 => some r2 else (f_X5_blockAt (σ 5) x1).bind fun r4 => (f_X0_isDirty (σ 1) r4).bind fun r6 => if r6 = 0 then some r4 else f_X1_unitToLeave_b26 N n σ (x1 + (-1))
set_option maxHeartbeats 4000000 in
set_option maxRecDepth 100000 in
theorem w_X1_unitToLeave_b26 {p : Program} {l : Launch} {e : Env} {s : State} {m : MethodId} {args : Array Value} {below : List Frame} {meth : Method} {c : Code} {G : va_G} {cA : Nat → ClassId} (C0 : cB p s m args meth c RX1 cX1_unitToLeave 3 (some .int) G cA) {lo : Nat} {ad : Nat → Nat} {P : CacS → Heap → Prop} (hC : cx G lo 25 ad (ceCache cA ad) P) {N : Nat} {res : Int32} : ∀ (n : Nat) (σ : CacS) (x1 : Int32) (H : Heap) (locs : List Loc) (ls : Array Slot), f_X1_unitToLeave_b26 N n σ x1 = some res → P σ H → (∀ q ∈ locs, lo ≤ q.base) → lv_has ls 3 [(0, .ref (ad 0)), (1, .int x1)] → W p l e rm_X1_unitToLeave s m args below meth c H locs 0 0 (MQ below (cQ (some (.int res)) (P σ)) args s 0 0 (fun q => lo ≤ q)) (F0 m 26 ls []) := by
  obtain ⟨⟨hx, hb, hml, hown, hts⟩, hr, hlocks, hK⟩ := id C0
  intro n
  induction n with
  | zero => intro σ x1 H locs ls
            exact fun hf => nomatch hf
  | succ n ih =>
    intro σ x1 H locs ls hf hP hL hl
    rw [f_X1_unitToLeave_b26] at hf
    refine lv_iload_n hx hb dX1_unitToLeave_26 rfl (lv_at hl 1 rfl) ?_
    refine lv_if_lt (tgt := 58) hx hb dX1_unitToLeave_27 (by decide) (fun c1 => ?_) (fun c1 => ?_)
    · have hf := cx_t hf c1
      refine lv_aload_n hx hb dX1_unitToLeave_58 rfl (lv_at hl 0 rfl) ?_
      refine g_Cache_4 hC hP hx hb hts hown hK mw_69 dX1_unitToLeave_59 ?_
      refine lv_aload_n hx hb dX1_unitToLeave_62 rfl (lv_at hl 0 rfl) ?_
      refine g_Cache_4 hC hP hx hb hts hown hK mw_69 dX1_unitToLeave_63 ?_
      refine g_Row_1 (cx_row hC σ 2 5 (by decide) rfl) (cx_id 5 hP) hx hb hts hown hK mw_239 dX1_unitToLeave_66 ?_
      refine lv_iconst (v := 1) hx hb dX1_unitToLeave_69 (by decide) ?_
      refine lv_isub hx hb dX1_unitToLeave_70 ?_
      obtain ⟨r2, q3, hf⟩ := cx_b hf
      refine cx_callV (As := [.int ((σ 5).2 1 - 1)]) (rest := []) ⟨hx, hb, hml, hown, hts⟩ (c_X5_blockAt (cx_row hC σ 2 5 (by decide) rfl) q3) (cwV 1 hts (gV mw_330 mw_202 mw_203 mw_66 mw_204) rfl rfl rfl hd_X5_blockAt ⟨Nat.le_of_ble_eq_true rfl, Nat.le_of_ble_eq_true rfl⟩) hK (cx_id 5 hP) rfl (at_Row (cx_row hC σ 2 5 (by decide) rfl) (cx_id 5 hP)) rfl hl.1 rfl (Nat.le_of_ble_eq_true rfl) dX1_unitToLeave_71 ⟨Nat.zero_le _, Nat.zero_le _⟩ hL (fun H locs hP hL => ?_)
      replace hP : P σ H := by first | exact hP | (simpa only [va_up_id] using hP)
      cases hf
      exact cx_iret hx hb hr hlocks hP hL dX1_unitToLeave_74
    · have hf := cx_f hf c1
      refine lv_aload_n hx hb dX1_unitToLeave_30 rfl (lv_at hl 0 rfl) ?_
      refine g_Cache_4 hC hP hx hb hts hown hK mw_69 dX1_unitToLeave_31 ?_
      refine lv_iload_n hx hb dX1_unitToLeave_34 rfl (lv_at hl 1 rfl) ?_
      obtain ⟨r4, q5, hf⟩ := cx_b hf
      refine cx_callV (As := [.int x1]) (rest := []) ⟨hx, hb, hml, hown, hts⟩ (c_X5_blockAt (cx_row hC σ 2 5 (by decide) rfl) q5) (cwV 1 hts (gV mw_330 mw_202 mw_203 mw_66 mw_204) rfl rfl rfl hd_X5_blockAt ⟨Nat.le_of_ble_eq_true rfl, Nat.le_of_ble_eq_true rfl⟩) hK (cx_id 5 hP) rfl (at_Row (cx_row hC σ 2 5 (by decide) rfl) (cx_id 5 hP)) rfl hl.1 rfl (Nat.le_of_ble_eq_true rfl) dX1_unitToLeave_35 ⟨Nat.zero_le _, Nat.zero_le _⟩ hL (fun H locs hP hL => ?_)
      replace hP : P σ H := by first | exact hP | (simpa only [va_up_id] using hP)
      refine lv_istore_n (lv' := [(2, .int r4), (0, .ref (ad 0)), (1, .int x1)]) hx hb dX1_unitToLeave_38 rfl hl (by decide) rfl (fun ls hl => ?_)
      refine lv_aload_n hx hb dX1_unitToLeave_39 rfl (lv_at hl 1 rfl) ?_
      refine g_Cache_0 hC hP hx hb hts hown hK mw_59 dX1_unitToLeave_40 ?_
      refine lv_iload_n hx hb dX1_unitToLeave_43 rfl (lv_at hl 0 rfl) ?_
      obtain ⟨r6, q7, hf⟩ := cx_b hf
      refine cx_callV (As := [.int r4]) (rest := []) ⟨hx, hb, hml, hown, hts⟩ (c_X0_isDirty (cx_blk hC σ) q7) (cwV 1 hts (gV mw_465 mw_249 mw_250 mw_58 mw_251) rfl rfl rfl hd_X0_isDirty ⟨Nat.le_of_ble_eq_true rfl, Nat.le_of_ble_eq_true rfl⟩) hK (cx_id 1 hP) rfl (at_Blocks (cx_blk hC σ) (cx_id 1 hP)) rfl hl.1 rfl (Nat.le_of_ble_eq_true rfl) dX1_unitToLeave_44 ⟨Nat.zero_le _, Nat.zero_le _⟩ hL (fun H locs hP hL => ?_)
      replace hP : P σ H := by first | exact hP | (simpa only [va_up_id] using hP)
      refine lv_if_ne (tgt := 52) hx hb dX1_unitToLeave_47 (by decide) (fun c8 => ?_) (fun c8 => ?_)
      · have hf := cx_f hf c8
        refine lv_iinc (v := (x1 + (-1))) (lv' := [(1, .int (x1 + (-1))), (2, .int r4), (0, .ref (ad 0))]) hx hb dX1_unitToLeave_52 hl (k := 2) rfl rfl (by decide) rfl (fun ls hl => ?_)
        refine lv_goto (tgt := 26) hx hb dX1_unitToLeave_55 (by decide) ?_
        exact ih σ (x1 + (-1)) _ _ _ hf hP hL (lv_sub hl [2, 0] rfl)
      · have hf := cx_t hf c8
        refine lv_iload_n hx hb dX1_unitToLeave_50 rfl (lv_at hl 0 rfl) ?_
        cases hf
        exact cx_iret hx hb hr hlocks hP hL dX1_unitToLeave_51
def f_X1_unitToLeave (N : Nat) (σ : CacS) : Option (Int32) := if (σ 0).2 13 ≤ (σ 5).2 1 then f_X1_unitToLeave_b26 N N σ ((σ 5).2 1 - 1) else some (-1)
set_option maxHeartbeats 4000000 in
set_option maxRecDepth 100000 in
theorem c_X1_unitToLeave {l : Launch} {G : va_G} {cA : Nat → ClassId} {lo : Nat} {ad : Nat → Nat} {P : CacS → Heap → Prop} (hC : cx G lo 25 ad (ceCache cA ad) P) {N : Nat} {σ : CacS} {res : Int32} (hf : f_X1_unitToLeave N σ = some res) : Met l yX1_unitToLeave (cW yX1_unitToLeave cX1_unitToLeave 3 (some .int)) rm_X1_unitToLeave (cP [.ref (ad 0)] (P σ) G cA) (cQ (some (.int res)) (P σ)) 0 0 (fun q => lo ≤ q) := by
  refine cx_met (by decide) (Nat.le_of_ble_eq_true rfl) (fun p e s m args below meth c ls C0 hP hl => ?_)
  have hl : lv_has ls 3 [(0, .ref (ad 0))] := hl
  obtain ⟨⟨hx, hb, hml, hown, hts⟩, hr, hlocks, hK⟩ := id C0
  have hL : ∀ q ∈ ([] : List Loc), lo ≤ q.base := fun q h => nomatch h
  unfold f_X1_unitToLeave at hf
  refine lv_aload_n hx hb dX1_unitToLeave_0 rfl (lv_at hl 0 rfl) ?_
  refine g_Cache_4 hC hP hx hb hts hown hK mw_69 dX1_unitToLeave_1 ?_
  refine g_Row_1 (cx_row hC σ 2 5 (by decide) rfl) (cx_id 5 hP) hx hb hts hown hK mw_239 dX1_unitToLeave_4 ?_
  refine lv_aload_n hx hb dX1_unitToLeave_7 rfl (lv_at hl 0 rfl) ?_
  refine g_Cache_13 hC hP hx hb hts hown hK mw_80 dX1_unitToLeave_8 ?_
  refine lv_icmp_ge (tgt := 16) hx hb dX1_unitToLeave_11 (by decide) (fun c1 => ?_) (fun c1 => ?_)
  · have hf := cx_t hf c1
    refine lv_aload_n hx hb dX1_unitToLeave_16 rfl (lv_at hl 0 rfl) ?_
    refine g_Cache_4 hC hP hx hb hts hown hK mw_69 dX1_unitToLeave_17 ?_
    refine g_Row_1 (cx_row hC σ 2 5 (by decide) rfl) (cx_id 5 hP) hx hb hts hown hK mw_239 dX1_unitToLeave_20 ?_
    refine lv_iconst (v := 1) hx hb dX1_unitToLeave_23 (by decide) ?_
    refine lv_isub hx hb dX1_unitToLeave_24 ?_
    refine lv_istore_n (lv' := [(1, .int ((σ 5).2 1 - 1)), (0, .ref (ad 0))]) hx hb dX1_unitToLeave_25 rfl hl (by decide) rfl (fun ls hl => ?_)
    exact w_X1_unitToLeave_b26 C0 hC N σ ((σ 5).2 1 - 1) _ _ _ hf hP hL (lv_sub hl [1, 0] rfl)
  · have hf := cx_f hf c1
    refine lv_iconst (v := (-1)) hx hb dX1_unitToLeave_14 (by decide) ?_
    cases hf
    exact cx_iret hx hb hr hlocks hP hL dX1_unitToLeave_15
abbrev rm_X1_makeRoomInLower : Room := { frames := 2, cells := 0, slots := 0, locals := 43 }
theorem hd_X1_makeRoomInLower : yX1_makeRoomInLower.cls = RX1 ∧ yX1_makeRoomInLower.cls ≠ "java/lang/invoke/MethodHandle" ∧ yX1_makeRoomInLower.cls ≠ "java/lang/invoke/VarHandle" ∧ (parseMethodDescriptor yX1_makeRoomInLower.desc).map (fun d => d.parameters.length) = some 0 := by decide +kernel
def f_X1_makeRoomInLower_b30 (N : Nat) (σ : CacS) (x1 : Int32) : Option (CacS) := (f_X5_takeOut N (σ 5) x1).bind fun r1 => cx_let (va_up σ 5 r1) fun z3 => (f_X0_dropUnit (z3 1) x1).bind fun r4 => cx_let (va_up z3 1 r4) fun z6 => cx_let (va_up z6 2 (oI (z6 2) 7 ((z6 2).2 7 + 1))) fun z7 => cx_let (va_up z7 2 (oI (z7 2) 10 x1)) fun z8 => some z8
set_option maxHeartbeats 4000000 in
set_option maxRecDepth 100000 in
theorem w_X1_makeRoomInLower_b30 {p : Program} {l : Launch} {e : Env} {s : State} {m : MethodId} {args : Array Value} {below : List Frame} {meth : Method} {c : Code} {G : va_G} {cA : Nat → ClassId} (C0 : cB p s m args meth c RX1 cX1_makeRoomInLower 2 none G cA) {lo : Nat} {ad : Nat → Nat} {P : CacS → Heap → Prop} (hC : cx G lo 25 ad (ceCache cA ad) P) {N : Nat} {res : CacS} : ∀ (σ : CacS) (x1 : Int32) (H : Heap) (locs : List Loc) (ls : Array Slot), f_X1_makeRoomInLower_b30 N σ x1 = some res → P σ H → (∀ q ∈ locs, lo ≤ q.base) → lv_has ls 2 [(0, .ref (ad 0)), (1, .int x1)] → W p l e rm_X1_makeRoomInLower s m args below meth c H locs 0 0 (MQ below (cQ none (P res)) args s 0 0 (fun q => lo ≤ q)) (F0 m 30 ls []) := by
  obtain ⟨⟨hx, hb, hml, hown, hts⟩, hr, hlocks, hK⟩ := id C0
  intro σ x1 H locs ls hf hP hL hl
  unfold f_X1_makeRoomInLower_b30 at hf
  refine lv_aload_n hx hb dX1_makeRoomInLower_30 rfl (lv_at hl 0 rfl) ?_
  refine g_Cache_4 hC hP hx hb hts hown hK mw_69 dX1_makeRoomInLower_31 ?_
  refine lv_iload_n hx hb dX1_makeRoomInLower_34 rfl (lv_at hl 1 rfl) ?_
  obtain ⟨r1, q2, hf⟩ := cx_b hf
  refine cx_callV (As := [.int x1]) (rest := []) ⟨hx, hb, hml, hown, hts⟩ (c_X5_takeOut (cx_row hC σ 2 5 (by decide) rfl) q2) (cwV 1 hts (gV mw_439 mw_440 mw_441 mw_66 mw_442) rfl rfl rfl hd_X5_takeOut ⟨Nat.le_of_ble_eq_true rfl, Nat.le_of_ble_eq_true rfl⟩) hK (cx_id 5 hP) rfl (at_Row (cx_row hC σ 2 5 (by decide) rfl) (cx_id 5 hP)) rfl hl.1 rfl (Nat.le_of_ble_eq_true rfl) dX1_makeRoomInLower_35 ⟨Nat.zero_le _, Nat.zero_le _⟩ hL (fun H locs hP hL => ?_)
  obtain ⟨z3, ez3, hf⟩ := cx_letE hf
  replace hP : P z3 H := by rw [← ez3]; exact hP
  refine lv_aload_n hx hb dX1_makeRoomInLower_38 rfl (lv_at hl 0 rfl) ?_
  refine g_Cache_0 hC hP hx hb hts hown hK mw_59 dX1_makeRoomInLower_39 ?_
  refine lv_iload_n hx hb dX1_makeRoomInLower_42 rfl (lv_at hl 1 rfl) ?_
  obtain ⟨r4, q5, hf⟩ := cx_b hf
  refine cx_callV (As := [.int x1]) (rest := []) ⟨hx, hb, hml, hown, hts⟩ (c_X0_dropUnit (cx_blk hC z3) q5) (cwV 1 hts (gV mw_467 mw_468 mw_469 mw_58 mw_470) rfl rfl rfl hd_X0_dropUnit ⟨Nat.le_of_ble_eq_true rfl, Nat.le_of_ble_eq_true rfl⟩) hK (cx_id 1 hP) rfl (at_Blocks (cx_blk hC z3) (cx_id 1 hP)) rfl hl.1 rfl (Nat.le_of_ble_eq_true rfl) dX1_makeRoomInLower_43 ⟨Nat.zero_le _, Nat.zero_le _⟩ hL (fun H locs hP hL => ?_)
  obtain ⟨z6, ez6, hf⟩ := cx_letE hf
  replace hP : P z6 H := by rw [← ez6]; exact hP
  refine lv_aload_n hx hb dX1_makeRoomInLower_46 rfl (lv_at hl 0 rfl) ?_
  refine g_Cache_1 hC hP hx hb hts hown hK mw_63 dX1_makeRoomInLower_47 ?_
  refine lv_dup hx hb dX1_makeRoomInLower_50 rfl ?_
  refine g_Tally_7 (cx_tal hC z6) (cx_id 2 hP) hx hb hts hown hK mw_459 dX1_makeRoomInLower_51 ?_
  refine lv_iconst (v := 1) hx hb dX1_makeRoomInLower_54 (by decide) ?_
  refine lv_iadd hx hb dX1_makeRoomInLower_55 ?_
  obtain ⟨z7, ez7, hf⟩ := cx_letE hf
  refine p_Tally_7 (cx_tal hC z6) (cx_id 2 hP) hx hb hts hown hK mw_459 dX1_makeRoomInLower_56 hL (fun H locs hP hL => ?_)
  replace hP : P z7 H := by rw [← ez7]; exact hP
  refine lv_aload_n hx hb dX1_makeRoomInLower_59 rfl (lv_at hl 0 rfl) ?_
  refine g_Cache_1 hC hP hx hb hts hown hK mw_63 dX1_makeRoomInLower_60 ?_
  refine lv_iload_n hx hb dX1_makeRoomInLower_63 rfl (lv_at hl 1 rfl) ?_
  obtain ⟨z8, ez8, hf⟩ := cx_letE hf
  refine p_Tally_10 (cx_tal hC z7) (cx_id 2 hP) hx hb hts hown hK mw_460 dX1_makeRoomInLower_64 hL (fun H locs hP hL => ?_)
  replace hP : P z8 H := by rw [← ez8]; exact hP
  cases hf
  exact cx_vret hx hb hr hlocks hP hL dX1_makeRoomInLower_67
def f_X1_makeRoomInLower (N : Nat) (σ : CacS) : Option (CacS) := (f_X1_unitToLeave N σ).bind fun r1 => if r1 = (-1) then some σ else (f_X0_isDirty (σ 1) r1).bind fun r4 => if r4 = 0 then f_X1_makeRoomInLower_b30 N σ r1 else (f_X0_writeBack (σ 1) r1).bind fun r7 => cx_let (va_up σ 1 r7) fun z9 => f_X1_makeRoomInLower_b30 N z9 r1
set_option maxHeartbeats 4000000 in
set_option maxRecDepth 100000 in
theorem c_X1_makeRoomInLower {l : Launch} {G : va_G} {cA : Nat → ClassId} {lo : Nat} {ad : Nat → Nat} {P : CacS → Heap → Prop} (hC : cx G lo 25 ad (ceCache cA ad) P) {N : Nat} {σ : CacS} {res : CacS} (hf : f_X1_makeRoomInLower N σ = some res) : Met l yX1_makeRoomInLower (cW yX1_makeRoomInLower cX1_makeRoomInLower 2 none) rm_X1_makeRoomInLower (cP [.ref (ad 0)] (P σ) G cA) (cQ none (P res)) 0 0 (fun q => lo ≤ q) := by
  refine cx_met (by decide) (Nat.le_of_ble_eq_true rfl) (fun p e s m args below meth c ls C0 hP hl => ?_)
  have hl : lv_has ls 2 [(0, .ref (ad 0))] := hl
  obtain ⟨⟨hx, hb, hml, hown, hts⟩, hr, hlocks, hK⟩ := id C0
  have hL : ∀ q ∈ ([] : List Loc), lo ≤ q.base := fun q h => nomatch h
  unfold f_X1_makeRoomInLower at hf
  refine lv_aload_n hx hb dX1_makeRoomInLower_0 rfl (lv_at hl 0 rfl) ?_
  obtain ⟨r1, q2, hf⟩ := cx_b hf
  refine cx_callV (As := []) (rest := []) ⟨hx, hb, hml, hown, hts⟩ (c_X1_unitToLeave hC q2) (cwV 0 hts (gV mw_461 mw_462 mw_463 mw_29 mw_464) rfl rfl rfl hd_X1_unitToLeave ⟨Nat.le_of_ble_eq_true rfl, Nat.le_of_ble_eq_true rfl⟩) hK hP rfl (at_Cache hC hP) rfl hl.1 rfl (Nat.le_of_ble_eq_true rfl) dX1_makeRoomInLower_1 ⟨Nat.zero_le _, Nat.zero_le _⟩ hL (fun H locs hP hL => ?_)
  replace hP : P σ H := by first | exact hP | (simpa only [va_up_id] using hP)
  refine lv_istore_n (lv' := [(1, .int r1), (0, .ref (ad 0))]) hx hb dX1_makeRoomInLower_4 rfl hl (by decide) rfl (fun ls hl => ?_)
  refine lv_iload_n hx hb dX1_makeRoomInLower_5 rfl (lv_at hl 0 rfl) ?_
  refine lv_iconst (v := (-1)) hx hb dX1_makeRoomInLower_6 (by decide) ?_
  refine lv_icmp_ne (tgt := 11) hx hb dX1_makeRoomInLower_7 (by decide) (fun c3 => ?_) (fun c3 => ?_)
  · have hf := cx_f hf c3
    refine lv_aload_n hx hb dX1_makeRoomInLower_11 rfl (lv_at hl 1 rfl) ?_
    refine g_Cache_0 hC hP hx hb hts hown hK mw_59 dX1_makeRoomInLower_12 ?_
    refine lv_iload_n hx hb dX1_makeRoomInLower_15 rfl (lv_at hl 0 rfl) ?_
    obtain ⟨r4, q5, hf⟩ := cx_b hf
    refine cx_callV (As := [.int r1]) (rest := []) ⟨hx, hb, hml, hown, hts⟩ (c_X0_isDirty (cx_blk hC σ) q5) (cwV 1 hts (gV mw_465 mw_249 mw_250 mw_58 mw_251) rfl rfl rfl hd_X0_isDirty ⟨Nat.le_of_ble_eq_true rfl, Nat.le_of_ble_eq_true rfl⟩) hK (cx_id 1 hP) rfl (at_Blocks (cx_blk hC σ) (cx_id 1 hP)) rfl hl.1 rfl (Nat.le_of_ble_eq_true rfl) dX1_makeRoomInLower_16 ⟨Nat.zero_le _, Nat.zero_le _⟩ hL (fun H locs hP hL => ?_)
    replace hP : P σ H := by first | exact hP | (simpa only [va_up_id] using hP)
    refine lv_if_eq (tgt := 30) hx hb dX1_makeRoomInLower_19 (by decide) (fun c6 => ?_) (fun c6 => ?_)
    · have hf := cx_t hf c6
      exact w_X1_makeRoomInLower_b30 C0 hC σ r1 _ _ _ hf hP hL (lv_sub hl [1, 0] rfl)
    · have hf := cx_f hf c6
      refine lv_aload_n hx hb dX1_makeRoomInLower_22 rfl (lv_at hl 1 rfl) ?_
      refine g_Cache_0 hC hP hx hb hts hown hK mw_59 dX1_makeRoomInLower_23 ?_
      refine lv_iload_n hx hb dX1_makeRoomInLower_26 rfl (lv_at hl 0 rfl) ?_
      obtain ⟨r7, q8, hf⟩ := cx_b hf
      refine cx_callV (As := [.int r1]) (rest := []) ⟨hx, hb, hml, hown, hts⟩ (c_X0_writeBack (cx_blk hC σ) q8) (cwV 1 hts (gV mw_466 mw_253 mw_254 mw_58 mw_255) rfl rfl rfl hd_X0_writeBack ⟨Nat.le_of_ble_eq_true rfl, Nat.le_of_ble_eq_true rfl⟩) hK (cx_id 1 hP) rfl (at_Blocks (cx_blk hC σ) (cx_id 1 hP)) rfl hl.1 rfl (Nat.le_of_ble_eq_true rfl) dX1_makeRoomInLower_27 ⟨Nat.zero_le _, Nat.zero_le _⟩ hL (fun H locs hP hL => ?_)
      obtain ⟨z9, ez9, hf⟩ := cx_letE hf
      replace hP : P z9 H := by rw [← ez9]; exact hP
      exact w_X1_makeRoomInLower_b30 C0 hC z9 r1 _ _ _ hf hP hL (lv_sub hl [1, 0] rfl)
  · have hf := cx_t hf c3
    cases hf
    exact cx_vret hx hb hr hlocks hP hL dX1_makeRoomInLower_10
abbrev rm_X1_scanInLower : Room := { frames := 3, cells := 0, slots := 0, locals := 64 }
theorem hd_X1_scanInLower : yX1_scanInLower.cls = RX1 ∧ yX1_scanInLower.cls ≠ "java/lang/invoke/MethodHandle" ∧ yX1_scanInLower.cls ≠ "java/lang/invoke/VarHandle" ∧ (parseMethodDescriptor yX1_scanInLower.desc).map (fun d => d.parameters.length) = some 1 := by decide +kernel
def f_X1_scanInLower (N : Nat) (σ : CacS) (p0 : Int32) : Option (CacS) := (f_X0_listOf (σ 1) p0).bind fun r1 => if r1 = 2 then (f_X5_takeOut N (σ 5) p0).bind fun r15 => cx_let (va_up σ 5 r15) fun z17 => (f_X5_putFirst N (z17 5) p0).bind fun r18 => cx_let (va_up z17 5 r18) fun z20 => some z20 else (f_X1_makeRoomInLower N σ).bind fun r4 => (f_X0_makeCleanUnit (r4 1) p0).bind fun r6 => cx_let (va_up r4 1 r6) fun z8 => (f_X0_putUnitIn (z8 1) p0 2).bind fun r9 => cx_let (va_up z8 1 r9) fun z11 => (f_X5_putFirst N (z11 5) p0).bind fun r12 => cx_let (va_up z11 5 r12) fun z14 => some z14
set_option maxHeartbeats 4000000 in
set_option maxRecDepth 100000 in
theorem c_X1_scanInLower {l : Launch} {G : va_G} {cA : Nat → ClassId} {lo : Nat} {ad : Nat → Nat} {P : CacS → Heap → Prop} (hC : cx G lo 25 ad (ceCache cA ad) P) {N : Nat} {σ : CacS} {p0 : Int32} {res : CacS} (hf : f_X1_scanInLower N σ p0 = some res) : Met l yX1_scanInLower (cW yX1_scanInLower cX1_scanInLower 2 none) rm_X1_scanInLower (cP [.ref (ad 0), .int p0] (P σ) G cA) (cQ none (P res)) 0 0 (fun q => lo ≤ q) := by
  refine cx_met (by decide) (Nat.le_of_ble_eq_true rfl) (fun p e s m args below meth c ls C0 hP hl => ?_)
  have hl : lv_has ls 2 [(0, .ref (ad 0)), (1, .int p0)] := hl
  obtain ⟨⟨hx, hb, hml, hown, hts⟩, hr, hlocks, hK⟩ := id C0
  have hL : ∀ q ∈ ([] : List Loc), lo ≤ q.base := fun q h => nomatch h
  unfold f_X1_scanInLower at hf
  refine lv_aload_n hx hb dX1_scanInLower_0 rfl (lv_at hl 0 rfl) ?_
  refine g_Cache_0 hC hP hx hb hts hown hK mw_59 dX1_scanInLower_1 ?_
  refine lv_iload_n hx hb dX1_scanInLower_4 rfl (lv_at hl 1 rfl) ?_
  obtain ⟨r1, q2, hf⟩ := cx_b hf
  refine cx_callV (As := [.int p0]) (rest := []) ⟨hx, hb, hml, hown, hts⟩ (c_X0_listOf (cx_blk hC σ) q2) (cwV 1 hts (gV mw_364 mw_365 mw_366 mw_58 mw_367) rfl rfl rfl hd_X0_listOf ⟨Nat.le_of_ble_eq_true rfl, Nat.le_of_ble_eq_true rfl⟩) hK (cx_id 1 hP) rfl (at_Blocks (cx_blk hC σ) (cx_id 1 hP)) rfl hl.1 rfl (Nat.le_of_ble_eq_true rfl) dX1_scanInLower_5 ⟨Nat.zero_le _, Nat.zero_le _⟩ hL (fun H locs hP hL => ?_)
  replace hP : P σ H := by first | exact hP | (simpa only [va_up_id] using hP)
  refine lv_iconst (v := 2) hx hb dX1_scanInLower_8 (by decide) ?_
  refine lv_icmp_ne (tgt := 23) hx hb dX1_scanInLower_9 (by decide) (fun c3 => ?_) (fun c3 => ?_)
  · have hf := cx_f hf c3
    refine lv_aload_n hx hb dX1_scanInLower_23 rfl (lv_at hl 0 rfl) ?_
    obtain ⟨r4, q5, hf⟩ := cx_b hf
    refine cx_callV (As := []) (rest := []) ⟨hx, hb, hml, hown, hts⟩ (c_X1_makeRoomInLower hC q5) (cwV 0 hts (gV mw_455 mw_456 mw_457 mw_29 mw_458) rfl rfl rfl hd_X1_makeRoomInLower ⟨Nat.le_of_ble_eq_true rfl, Nat.le_of_ble_eq_true rfl⟩) hK hP rfl (at_Cache hC hP) rfl hl.1 rfl (Nat.le_of_ble_eq_true rfl) dX1_scanInLower_24 ⟨Nat.zero_le _, Nat.zero_le _⟩ hL (fun H locs hP hL => ?_)
    replace hP : P r4 H := by first | exact hP | (simpa only [va_up_id] using hP)
    refine lv_aload_n hx hb dX1_scanInLower_27 rfl (lv_at hl 0 rfl) ?_
    refine g_Cache_0 hC hP hx hb hts hown hK mw_59 dX1_scanInLower_28 ?_
    refine lv_iload_n hx hb dX1_scanInLower_31 rfl (lv_at hl 1 rfl) ?_
    obtain ⟨r6, q7, hf⟩ := cx_b hf
    refine cx_callV (As := [.int p0]) (rest := []) ⟨hx, hb, hml, hown, hts⟩ (c_X0_makeCleanUnit (cx_blk hC r4) q7) (cwV 1 hts (gV mw_471 mw_472 mw_473 mw_58 mw_474) rfl rfl rfl hd_X0_makeCleanUnit ⟨Nat.le_of_ble_eq_true rfl, Nat.le_of_ble_eq_true rfl⟩) hK (cx_id 1 hP) rfl (at_Blocks (cx_blk hC r4) (cx_id 1 hP)) rfl hl.1 rfl (Nat.le_of_ble_eq_true rfl) dX1_scanInLower_32 ⟨Nat.zero_le _, Nat.zero_le _⟩ hL (fun H locs hP hL => ?_)
    obtain ⟨z8, ez8, hf⟩ := cx_letE hf
    replace hP : P z8 H := by rw [← ez8]; exact hP
    refine lv_aload_n hx hb dX1_scanInLower_35 rfl (lv_at hl 0 rfl) ?_
    refine g_Cache_0 hC hP hx hb hts hown hK mw_59 dX1_scanInLower_36 ?_
    refine lv_iload_n hx hb dX1_scanInLower_39 rfl (lv_at hl 1 rfl) ?_
    refine lv_iconst (v := 2) hx hb dX1_scanInLower_40 (by decide) ?_
    obtain ⟨r9, q10, hf⟩ := cx_b hf
    refine cx_callV (As := [.int p0, .int 2]) (rest := []) ⟨hx, hb, hml, hown, hts⟩ (c_X0_putUnitIn (cx_blk hC z8) q10) (cwV 2 hts (gV mw_447 mw_448 mw_449 mw_58 mw_450) rfl rfl rfl hd_X0_putUnitIn ⟨Nat.le_of_ble_eq_true rfl, Nat.le_of_ble_eq_true rfl⟩) hK (cx_id 1 hP) rfl (at_Blocks (cx_blk hC z8) (cx_id 1 hP)) rfl hl.1 rfl (Nat.le_of_ble_eq_true rfl) dX1_scanInLower_41 ⟨Nat.zero_le _, Nat.zero_le _⟩ hL (fun H locs hP hL => ?_)
    obtain ⟨z11, ez11, hf⟩ := cx_letE hf
    replace hP : P z11 H := by rw [← ez11]; exact hP
    refine lv_aload_n hx hb dX1_scanInLower_44 rfl (lv_at hl 0 rfl) ?_
    refine g_Cache_4 hC hP hx hb hts hown hK mw_69 dX1_scanInLower_45 ?_
    refine lv_iload_n hx hb dX1_scanInLower_48 rfl (lv_at hl 1 rfl) ?_
    obtain ⟨r12, q13, hf⟩ := cx_b hf
    refine cx_callV (As := [.int p0]) (rest := []) ⟨hx, hb, hml, hown, hts⟩ (c_X5_putFirst (cx_row hC z11 2 5 (by decide) rfl) q13) (cwV 1 hts (gV mw_443 mw_444 mw_445 mw_66 mw_446) rfl rfl rfl hd_X5_putFirst ⟨Nat.le_of_ble_eq_true rfl, Nat.le_of_ble_eq_true rfl⟩) hK (cx_id 5 hP) rfl (at_Row (cx_row hC z11 2 5 (by decide) rfl) (cx_id 5 hP)) rfl hl.1 rfl (Nat.le_of_ble_eq_true rfl) dX1_scanInLower_49 ⟨Nat.zero_le _, Nat.zero_le _⟩ hL (fun H locs hP hL => ?_)
    obtain ⟨z14, ez14, hf⟩ := cx_letE hf
    replace hP : P z14 H := by rw [← ez14]; exact hP
    cases hf
    exact cx_vret hx hb hr hlocks hP hL dX1_scanInLower_52
  · have hf := cx_t hf c3
    refine lv_aload_n hx hb dX1_scanInLower_12 rfl (lv_at hl 0 rfl) ?_
    refine g_Cache_4 hC hP hx hb hts hown hK mw_69 dX1_scanInLower_13 ?_
    refine lv_iload_n hx hb dX1_scanInLower_16 rfl (lv_at hl 1 rfl) ?_
    obtain ⟨r15, q16, hf⟩ := cx_b hf
    refine cx_callV (As := [.int p0]) (rest := []) ⟨hx, hb, hml, hown, hts⟩ (c_X5_takeOut (cx_row hC σ 2 5 (by decide) rfl) q16) (cwV 1 hts (gV mw_439 mw_440 mw_441 mw_66 mw_442) rfl rfl rfl hd_X5_takeOut ⟨Nat.le_of_ble_eq_true rfl, Nat.le_of_ble_eq_true rfl⟩) hK (cx_id 5 hP) rfl (at_Row (cx_row hC σ 2 5 (by decide) rfl) (cx_id 5 hP)) rfl hl.1 rfl (Nat.le_of_ble_eq_true rfl) dX1_scanInLower_17 ⟨Nat.zero_le _, Nat.zero_le _⟩ hL (fun H locs hP hL => ?_)
    obtain ⟨z17, ez17, hf⟩ := cx_letE hf
    replace hP : P z17 H := by rw [← ez17]; exact hP
    refine lv_goto (tgt := 44) hx hb dX1_scanInLower_20 (by decide) ?_
    refine lv_aload_n hx hb dX1_scanInLower_44 rfl (lv_at hl 0 rfl) ?_
    refine g_Cache_4 hC hP hx hb hts hown hK mw_69 dX1_scanInLower_45 ?_
    refine lv_iload_n hx hb dX1_scanInLower_48 rfl (lv_at hl 1 rfl) ?_
    obtain ⟨r18, q19, hf⟩ := cx_b hf
    refine cx_callV (As := [.int p0]) (rest := []) ⟨hx, hb, hml, hown, hts⟩ (c_X5_putFirst (cx_row hC z17 2 5 (by decide) rfl) q19) (cwV 1 hts (gV mw_443 mw_444 mw_445 mw_66 mw_446) rfl rfl rfl hd_X5_putFirst ⟨Nat.le_of_ble_eq_true rfl, Nat.le_of_ble_eq_true rfl⟩) hK (cx_id 5 hP) rfl (at_Row (cx_row hC z17 2 5 (by decide) rfl) (cx_id 5 hP)) rfl hl.1 rfl (Nat.le_of_ble_eq_true rfl) dX1_scanInLower_49 ⟨Nat.zero_le _, Nat.zero_le _⟩ hL (fun H locs hP hL => ?_)
    obtain ⟨z20, ez20, hf⟩ := cx_letE hf
    replace hP : P z20 H := by rw [← ez20]; exact hP
    cases hf
    exact cx_vret hx hb hr hlocks hP hL dX1_scanInLower_52
abbrev rm_X1_learnFrom : Room := { frames := 1, cells := 0, slots := 0, locals := 21 }
theorem hd_X1_learnFrom : yX1_learnFrom.cls = RX1 ∧ yX1_learnFrom.cls ≠ "java/lang/invoke/MethodHandle" ∧ yX1_learnFrom.cls ≠ "java/lang/invoke/VarHandle" ∧ (parseMethodDescriptor yX1_learnFrom.desc).map (fun d => d.parameters.length) = some 1 := by decide +kernel
def f_X1_learnFrom_b45 (σ : CacS) (y0 : Int32) : Option (CacS) := cx_let (va_up σ 0 (oI (σ 0) 14 (if ((σ 0).2 14 + (if 1 < y0 then y0 else 1)) < (σ 0).2 12 then ((σ 0).2 14 + (if 1 < y0 then y0 else 1)) else (σ 0).2 12))) fun z1 => some z1
set_option maxHeartbeats 4000000 in
set_option maxRecDepth 100000 in
theorem w_X1_learnFrom_b45 {p : Program} {l : Launch} {e : Env} {s : State} {m : MethodId} {args : Array Value} {below : List Frame} {meth : Method} {c : Code} {G : va_G} {cA : Nat → ClassId} (C0 : cB p s m args meth c RX1 cX1_learnFrom 5 none G cA) {lo : Nat} {ad : Nat → Nat} {P : CacS → Heap → Prop} (hC : cx G lo 25 ad (ceCache cA ad) P) {res : CacS} : ∀ (σ : CacS) (y0 : Int32) (H : Heap) (locs : List Loc) (ls : Array Slot), f_X1_learnFrom_b45 σ y0 = some res → P σ H → (∀ q ∈ locs, lo ≤ q.base) → lv_has ls 5 [(0, .ref (ad 0))] → W p l e rm_X1_learnFrom s m args below meth c H locs 0 0 (MQ below (cQ none (P res)) args s 0 0 (fun q => lo ≤ q)) (F0 m 45 ls [.int y0]) := by
  obtain ⟨⟨hx, hb, hml, hown, hts⟩, hr, hlocks, hK⟩ := id C0
  intro σ y0 H locs ls hf hP hL hl
  unfold f_X1_learnFrom_b45 at hf
  refine lv_istore (lv' := [(4, .int y0), (0, .ref (ad 0))]) hx hb dX1_learnFrom_45 hl (by decide) rfl (fun ls hl => ?_)
  refine lv_aload_n hx hb dX1_learnFrom_47 rfl (lv_at hl 1 rfl) ?_
  refine lv_aload_n hx hb dX1_learnFrom_48 rfl (lv_at hl 1 rfl) ?_
  refine g_Cache_12 hC hP hx hb hts hown hK mw_79 dX1_learnFrom_49 ?_
  refine lv_aload_n hx hb dX1_learnFrom_52 rfl (lv_at hl 1 rfl) ?_
  refine g_Cache_14 hC hP hx hb hts hown hK mw_172 dX1_learnFrom_53 ?_
  refine lv_iconst (v := 1) hx hb dX1_learnFrom_56 (by decide) ?_
  refine lv_iload hx hb dX1_learnFrom_57 (lv_at hl 0 rfl) ?_
  refine va_mmax hx hb (hml.trans hl.1.symm) hown (hts _ mw_484) (hts _ mw_130) (hts _ mw_131) (hts _ mw_132) (Nat.le_of_ble_eq_true rfl) (Nat.le_of_ble_eq_true rfl) (Nat.zero_le _) (Nat.zero_le _) dX1_learnFrom_59 ?_
  refine lv_iadd hx hb dX1_learnFrom_62 ?_
  refine va_mmin hx hb (hml.trans hl.1.symm) hown (hts _ mw_485) (hts _ mw_165) (hts _ mw_131) (hts _ mw_166) (Nat.le_of_ble_eq_true rfl) (Nat.le_of_ble_eq_true rfl) (Nat.zero_le _) (Nat.zero_le _) dX1_learnFrom_63 ?_
  obtain ⟨z1, ez1, hf⟩ := cx_letE hf
  refine p_Cache_14 hC hP hx hb hts hown hK mw_172 dX1_learnFrom_66 hL (fun H locs hP hL => ?_)
  replace hP : P z1 H := by rw [← ez1]; exact hP
  refine lv_goto (tgt := 122) hx hb dX1_learnFrom_69 (by decide) ?_
  cases hf
  exact cx_vret hx hb hr hlocks hP hL dX1_learnFrom_122
def f_X1_learnFrom_b101 (σ : CacS) (y0 : Int32) : Option (CacS) := cx_let (va_up σ 0 (oI (σ 0) 14 (if 0 < ((σ 0).2 14 - (if 1 < y0 then y0 else 1)) then ((σ 0).2 14 - (if 1 < y0 then y0 else 1)) else 0))) fun z1 => some z1
set_option maxHeartbeats 4000000 in
set_option maxRecDepth 100000 in
theorem w_X1_learnFrom_b101 {p : Program} {l : Launch} {e : Env} {s : State} {m : MethodId} {args : Array Value} {below : List Frame} {meth : Method} {c : Code} {G : va_G} {cA : Nat → ClassId} (C0 : cB p s m args meth c RX1 cX1_learnFrom 5 none G cA) {lo : Nat} {ad : Nat → Nat} {P : CacS → Heap → Prop} (hC : cx G lo 25 ad (ceCache cA ad) P) {res : CacS} : ∀ (σ : CacS) (y0 : Int32) (H : Heap) (locs : List Loc) (ls : Array Slot), f_X1_learnFrom_b101 σ y0 = some res → P σ H → (∀ q ∈ locs, lo ≤ q.base) → lv_has ls 5 [(0, .ref (ad 0))] → W p l e rm_X1_learnFrom s m args below meth c H locs 0 0 (MQ below (cQ none (P res)) args s 0 0 (fun q => lo ≤ q)) (F0 m 101 ls [.int y0]) := by
  obtain ⟨⟨hx, hb, hml, hown, hts⟩, hr, hlocks, hK⟩ := id C0
  intro σ y0 H locs ls hf hP hL hl
  unfold f_X1_learnFrom_b101 at hf
  refine lv_istore (lv' := [(4, .int y0), (0, .ref (ad 0))]) hx hb dX1_learnFrom_101 hl (by decide) rfl (fun ls hl => ?_)
  refine lv_aload_n hx hb dX1_learnFrom_103 rfl (lv_at hl 1 rfl) ?_
  refine lv_iconst (v := 0) hx hb dX1_learnFrom_104 (by decide) ?_
  refine lv_aload_n hx hb dX1_learnFrom_105 rfl (lv_at hl 1 rfl) ?_
  refine g_Cache_14 hC hP hx hb hts hown hK mw_172 dX1_learnFrom_106 ?_
  refine lv_iconst (v := 1) hx hb dX1_learnFrom_109 (by decide) ?_
  refine lv_iload hx hb dX1_learnFrom_110 (lv_at hl 0 rfl) ?_
  refine va_mmax hx hb (hml.trans hl.1.symm) hown (hts _ mw_484) (hts _ mw_130) (hts _ mw_131) (hts _ mw_132) (Nat.le_of_ble_eq_true rfl) (Nat.le_of_ble_eq_true rfl) (Nat.zero_le _) (Nat.zero_le _) dX1_learnFrom_112 ?_
  refine lv_isub hx hb dX1_learnFrom_115 ?_
  refine va_mmax hx hb (hml.trans hl.1.symm) hown (hts _ mw_484) (hts _ mw_130) (hts _ mw_131) (hts _ mw_132) (Nat.le_of_ble_eq_true rfl) (Nat.le_of_ble_eq_true rfl) (Nat.zero_le _) (Nat.zero_le _) dX1_learnFrom_116 ?_
  obtain ⟨z1, ez1, hf⟩ := cx_letE hf
  refine p_Cache_14 hC hP hx hb hts hown hK mw_172 dX1_learnFrom_119 hL (fun H locs hP hL => ?_)
  replace hP : P z1 H := by rw [← ez1]; exact hP
  cases hf
  exact cx_vret hx hb hr hlocks hP hL dX1_learnFrom_122
def f_X1_learnFrom (σ : CacS) (p0 : Int32) : Option (CacS) := if p0 = 3 then cx_let (va_up σ 2 (oI (σ 2) 4 ((σ 2).2 4 + 1))) fun z6 => if (σ 6).2 1 = 0 then f_X1_learnFrom_b45 z6 0 else dz ((σ 6).2 1) (f_X1_learnFrom_b45 z6 ((σ 7).2 1 / (σ 6).2 1)) else if p0 = 4 then cx_let (va_up σ 2 (oI (σ 2) 5 ((σ 2).2 5 + 1))) fun z3 => if (σ 7).2 1 = 0 then f_X1_learnFrom_b101 z3 0 else dz ((σ 7).2 1) (f_X1_learnFrom_b101 z3 ((σ 6).2 1 / (σ 7).2 1)) else some σ
set_option maxHeartbeats 4000000 in
set_option maxRecDepth 100000 in
theorem c_X1_learnFrom {l : Launch} {G : va_G} {cA : Nat → ClassId} {lo : Nat} {ad : Nat → Nat} {P : CacS → Heap → Prop} (hC : cx G lo 25 ad (ceCache cA ad) P) {σ : CacS} {p0 : Int32} {res : CacS} (hf : f_X1_learnFrom σ p0 = some res) : Met l yX1_learnFrom (cW yX1_learnFrom cX1_learnFrom 5 none) rm_X1_learnFrom (cP [.ref (ad 0), .int p0] (P σ) G cA) (cQ none (P res)) 0 0 (fun q => lo ≤ q) := by
  refine cx_met (by decide) (Nat.le_of_ble_eq_true rfl) (fun p e s m args below meth c ls C0 hP hl => ?_)
  have hl : lv_has ls 5 [(0, .ref (ad 0)), (1, .int p0)] := hl
  obtain ⟨⟨hx, hb, hml, hown, hts⟩, hr, hlocks, hK⟩ := id C0
  have hL : ∀ q ∈ ([] : List Loc), lo ≤ q.base := fun q h => nomatch h
  unfold f_X1_learnFrom at hf
  refine lv_aload_n hx hb dX1_learnFrom_0 rfl (lv_at hl 0 rfl) ?_
  refine g_Cache_5 hC hP hx hb hts hown hK mw_70 dX1_learnFrom_1 ?_
  refine g_Row_1 (cx_row hC σ 3 6 (by decide) rfl) (cx_id 6 hP) hx hb hts hown hK mw_239 dX1_learnFrom_4 ?_
  refine lv_istore_n (lv' := [(2, .int ((σ 6).2 1)), (0, .ref (ad 0)), (1, .int p0)]) hx hb dX1_learnFrom_7 rfl hl (by decide) rfl (fun ls hl => ?_)
  refine lv_aload_n hx hb dX1_learnFrom_8 rfl (lv_at hl 1 rfl) ?_
  refine g_Cache_6 hC hP hx hb hts hown hK mw_71 dX1_learnFrom_9 ?_
  refine g_Row_1 (cx_row hC σ 4 7 (by decide) rfl) (cx_id 7 hP) hx hb hts hown hK mw_239 dX1_learnFrom_12 ?_
  refine lv_istore_n (lv' := [(3, .int ((σ 7).2 1)), (2, .int ((σ 6).2 1)), (0, .ref (ad 0)), (1, .int p0)]) hx hb dX1_learnFrom_15 rfl hl (by decide) rfl (fun ls hl => ?_)
  refine lv_iload_n hx hb dX1_learnFrom_16 rfl (lv_at hl 3 rfl) ?_
  refine lv_iconst (v := 3) hx hb dX1_learnFrom_17 (by decide) ?_
  refine lv_icmp_ne (tgt := 72) hx hb dX1_learnFrom_18 (by decide) (fun c1 => ?_) (fun c1 => ?_)
  · have hf := cx_f hf c1
    refine lv_iload_n hx hb dX1_learnFrom_72 rfl (lv_at hl 3 rfl) ?_
    refine lv_iconst (v := 4) hx hb dX1_learnFrom_73 (by decide) ?_
    refine lv_icmp_ne (tgt := 122) hx hb dX1_learnFrom_74 (by decide) (fun c2 => ?_) (fun c2 => ?_)
    · have hf := cx_f hf c2
      cases hf
      exact cx_vret hx hb hr hlocks hP hL dX1_learnFrom_122
    · have hf := cx_t hf c2
      refine lv_aload_n hx hb dX1_learnFrom_77 rfl (lv_at hl 2 rfl) ?_
      refine g_Cache_1 hC hP hx hb hts hown hK mw_63 dX1_learnFrom_78 ?_
      refine lv_dup hx hb dX1_learnFrom_81 rfl ?_
      refine g_Tally_5 (cx_tal hC σ) (cx_id 2 hP) hx hb hts hown hK mw_486 dX1_learnFrom_82 ?_
      refine lv_iconst (v := 1) hx hb dX1_learnFrom_85 (by decide) ?_
      refine lv_iadd hx hb dX1_learnFrom_86 ?_
      obtain ⟨z3, ez3, hf⟩ := cx_letE hf
      refine p_Tally_5 (cx_tal hC σ) (cx_id 2 hP) hx hb hts hown hK mw_486 dX1_learnFrom_87 hL (fun H locs hP hL => ?_)
      replace hP : P z3 H := by rw [← ez3]; exact hP
      refine lv_iload_n hx hb dX1_learnFrom_90 rfl (lv_at hl 0 rfl) ?_
      refine lv_if_ne (tgt := 98) hx hb dX1_learnFrom_91 (by decide) (fun c4 => ?_) (fun c4 => ?_)
      · have hf := cx_f hf c4
        refine lv_iload_n hx hb dX1_learnFrom_98 rfl (lv_at hl 1 rfl) ?_
        refine lv_iload_n hx hb dX1_learnFrom_99 rfl (lv_at hl 0 rfl) ?_
        obtain ⟨hd5, hf⟩ := dzE hf
        refine lv_idiv hx hb dX1_learnFrom_100 hd5 ?_
        exact w_X1_learnFrom_b101 C0 hC z3 ((σ 6).2 1 / (σ 7).2 1) _ _ _ hf hP hL (lv_sub hl [2] rfl)
      · have hf := cx_t hf c4
        refine lv_iconst (v := 0) hx hb dX1_learnFrom_94 (by decide) ?_
        refine lv_goto (tgt := 101) hx hb dX1_learnFrom_95 (by decide) ?_
        exact w_X1_learnFrom_b101 C0 hC z3 0 _ _ _ hf hP hL (lv_sub hl [2] rfl)
  · have hf := cx_t hf c1
    refine lv_aload_n hx hb dX1_learnFrom_21 rfl (lv_at hl 2 rfl) ?_
    refine g_Cache_1 hC hP hx hb hts hown hK mw_63 dX1_learnFrom_22 ?_
    refine lv_dup hx hb dX1_learnFrom_25 rfl ?_
    refine g_Tally_4 (cx_tal hC σ) (cx_id 2 hP) hx hb hts hown hK mw_483 dX1_learnFrom_26 ?_
    refine lv_iconst (v := 1) hx hb dX1_learnFrom_29 (by decide) ?_
    refine lv_iadd hx hb dX1_learnFrom_30 ?_
    obtain ⟨z6, ez6, hf⟩ := cx_letE hf
    refine p_Tally_4 (cx_tal hC σ) (cx_id 2 hP) hx hb hts hown hK mw_483 dX1_learnFrom_31 hL (fun H locs hP hL => ?_)
    replace hP : P z6 H := by rw [← ez6]; exact hP
    refine lv_iload_n hx hb dX1_learnFrom_34 rfl (lv_at hl 1 rfl) ?_
    refine lv_if_ne (tgt := 42) hx hb dX1_learnFrom_35 (by decide) (fun c7 => ?_) (fun c7 => ?_)
    · have hf := cx_f hf c7
      refine lv_iload_n hx hb dX1_learnFrom_42 rfl (lv_at hl 0 rfl) ?_
      refine lv_iload_n hx hb dX1_learnFrom_43 rfl (lv_at hl 1 rfl) ?_
      obtain ⟨hd8, hf⟩ := dzE hf
      refine lv_idiv hx hb dX1_learnFrom_44 hd8 ?_
      exact w_X1_learnFrom_b45 C0 hC z6 ((σ 7).2 1 / (σ 6).2 1) _ _ _ hf hP hL (lv_sub hl [2] rfl)
    · have hf := cx_t hf c7
      refine lv_iconst (v := 0) hx hb dX1_learnFrom_38 (by decide) ?_
      refine lv_goto (tgt := 45) hx hb dX1_learnFrom_39 (by decide) ?_
      exact w_X1_learnFrom_b45 C0 hC z6 0 _ _ _ hf hP hL (lv_sub hl [2] rfl)
abbrev rm_X1_loseGhost : Room := { frames := 1, cells := 0, slots := 0, locals := 23 }
theorem hd_X1_loseGhost : yX1_loseGhost.cls = RX1 ∧ yX1_loseGhost.cls ≠ "java/lang/invoke/MethodHandle" ∧ yX1_loseGhost.cls ≠ "java/lang/invoke/VarHandle" ∧ (parseMethodDescriptor yX1_loseGhost.desc).map (fun d => d.parameters.length) = some 1 := by decide +kernel
def f_X1_loseGhost (N : Nat) (σ : CacS) (p0 : Int32) : Option (CacS) := (f_X0_ghostListOf (σ 1) p0).bind fun r1 => if r1 = (-1) then some σ else (f_X1_rowOf σ r1).bind fun r4 => (f_X5_takeOut N (σ (3 + r4)) p0).bind fun r6 => cx_let (va_up σ (3 + r4) r6) fun z8 => (f_X0_makeGhostOf (z8 1) p0 (-1)).bind fun r9 => cx_let (va_up z8 1 r9) fun z11 => some z11
set_option maxHeartbeats 4000000 in
set_option maxRecDepth 100000 in
theorem c_X1_loseGhost {l : Launch} {G : va_G} {cA : Nat → ClassId} {lo : Nat} {ad : Nat → Nat} {P : CacS → Heap → Prop} (hC : cx G lo 25 ad (ceCache cA ad) P) {N : Nat} {σ : CacS} {p0 : Int32} {res : CacS} (hf : f_X1_loseGhost N σ p0 = some res) : Met l yX1_loseGhost (cW yX1_loseGhost cX1_loseGhost 3 none) rm_X1_loseGhost (cP [.ref (ad 0), .int p0] (P σ) G cA) (cQ none (P res)) 0 0 (fun q => lo ≤ q) := by
  refine cx_met (by decide) (Nat.le_of_ble_eq_true rfl) (fun p e s m args below meth c ls C0 hP hl => ?_)
  have hl : lv_has ls 3 [(0, .ref (ad 0)), (1, .int p0)] := hl
  obtain ⟨⟨hx, hb, hml, hown, hts⟩, hr, hlocks, hK⟩ := id C0
  have hL : ∀ q ∈ ([] : List Loc), lo ≤ q.base := fun q h => nomatch h
  unfold f_X1_loseGhost at hf
  refine lv_aload_n hx hb dX1_loseGhost_0 rfl (lv_at hl 0 rfl) ?_
  refine g_Cache_0 hC hP hx hb hts hown hK mw_59 dX1_loseGhost_1 ?_
  refine lv_iload_n hx hb dX1_loseGhost_4 rfl (lv_at hl 1 rfl) ?_
  obtain ⟨r1, q2, hf⟩ := cx_b hf
  refine cx_callV (As := [.int p0]) (rest := []) ⟨hx, hb, hml, hown, hts⟩ (c_X0_ghostListOf (cx_blk hC σ) q2) (cwV 1 hts (gV mw_384 mw_385 mw_386 mw_58 mw_387) rfl rfl rfl hd_X0_ghostListOf ⟨Nat.le_of_ble_eq_true rfl, Nat.le_of_ble_eq_true rfl⟩) hK (cx_id 1 hP) rfl (at_Blocks (cx_blk hC σ) (cx_id 1 hP)) rfl hl.1 rfl (Nat.le_of_ble_eq_true rfl) dX1_loseGhost_5 ⟨Nat.zero_le _, Nat.zero_le _⟩ hL (fun H locs hP hL => ?_)
  replace hP : P σ H := by first | exact hP | (simpa only [va_up_id] using hP)
  refine lv_istore_n (lv' := [(2, .int r1), (0, .ref (ad 0)), (1, .int p0)]) hx hb dX1_loseGhost_8 rfl hl (by decide) rfl (fun ls hl => ?_)
  refine lv_iload_n hx hb dX1_loseGhost_9 rfl (lv_at hl 0 rfl) ?_
  refine lv_iconst (v := (-1)) hx hb dX1_loseGhost_10 (by decide) ?_
  refine lv_icmp_eq (tgt := 32) hx hb dX1_loseGhost_11 (by decide) (fun c3 => ?_) (fun c3 => ?_)
  · have hf := cx_t hf c3
    cases hf
    exact cx_vret hx hb hr hlocks hP hL dX1_loseGhost_32
  · have hf := cx_f hf c3
    refine lv_aload_n hx hb dX1_loseGhost_14 rfl (lv_at hl 1 rfl) ?_
    refine lv_iload_n hx hb dX1_loseGhost_15 rfl (lv_at hl 0 rfl) ?_
    obtain ⟨r4, q5, hf⟩ := cx_b hf
    refine cx_callV (As := [.int r1]) (rest := []) ⟨hx, hb, hml, hown, hts⟩ (c_X1_rowOf hC q5) (cwV 1 hts (gV mw_289 mw_290 mw_291 mw_29 mw_292) rfl rfl rfl hd_X1_rowOf ⟨Nat.le_of_ble_eq_true rfl, Nat.le_of_ble_eq_true rfl⟩) hK hP rfl (at_Cache hC hP) rfl hl.1 rfl (Nat.le_of_ble_eq_true rfl) dX1_loseGhost_16 ⟨Nat.zero_le _, Nat.zero_le _⟩ hL (fun H locs hP hL => ?_)
    replace hP : P σ H := by first | exact hP | (simpa only [va_up_id] using hP)
    have hr4 := f_X1_rowOf_lt q5
    refine lv_iload_n hx hb dX1_loseGhost_19 rfl (lv_at hl 2 rfl) ?_
    obtain ⟨r6, q7, hf⟩ := cx_b hf
    refine cx_callV (As := [.int p0]) (rest := []) ⟨hx, hb, hml, hown, hts⟩ (c_X5_takeOut (cx_row hC σ r4 (3 + r4) hr4 rfl) q7) (cwV 1 hts (gV mw_439 mw_440 mw_441 mw_66 mw_442) rfl rfl rfl hd_X5_takeOut ⟨Nat.le_of_ble_eq_true rfl, Nat.le_of_ble_eq_true rfl⟩) hK (cx_id (3 + r4) hP) rfl (at_Row (cx_row hC σ r4 (3 + r4) hr4 rfl) (cx_id (3 + r4) hP)) rfl hl.1 rfl (Nat.le_of_ble_eq_true rfl) dX1_loseGhost_20 ⟨Nat.zero_le _, Nat.zero_le _⟩ hL (fun H locs hP hL => ?_)
    obtain ⟨z8, ez8, hf⟩ := cx_letE hf
    replace hP : P z8 H := by rw [← ez8]; exact hP
    refine lv_aload_n hx hb dX1_loseGhost_23 rfl (lv_at hl 1 rfl) ?_
    refine g_Cache_0 hC hP hx hb hts hown hK mw_59 dX1_loseGhost_24 ?_
    refine lv_iload_n hx hb dX1_loseGhost_27 rfl (lv_at hl 2 rfl) ?_
    refine lv_iconst (v := (-1)) hx hb dX1_loseGhost_28 (by decide) ?_
    obtain ⟨r9, q10, hf⟩ := cx_b hf
    refine cx_callV (As := [.int p0, .int (-1)]) (rest := []) ⟨hx, hb, hml, hown, hts⟩ (c_X0_makeGhostOf (cx_blk hC z8) q10) (cwV 2 hts (gV mw_491 mw_492 mw_493 mw_58 mw_494) rfl rfl rfl hd_X0_makeGhostOf ⟨Nat.le_of_ble_eq_true rfl, Nat.le_of_ble_eq_true rfl⟩) hK (cx_id 1 hP) rfl (at_Blocks (cx_blk hC z8) (cx_id 1 hP)) rfl hl.1 rfl (Nat.le_of_ble_eq_true rfl) dX1_loseGhost_29 ⟨Nat.zero_le _, Nat.zero_le _⟩ hL (fun H locs hP hL => ?_)
    obtain ⟨z11, ez11, hf⟩ := cx_letE hf
    replace hP : P z11 H := by rw [← ez11]; exact hP
    cases hf
    exact cx_vret hx hb hr hlocks hP hL dX1_loseGhost_32
abbrev rm_X1_isRecentTooLong : Room := { frames := 0, cells := 0, slots := 0, locals := 0 }
theorem hd_X1_isRecentTooLong : yX1_isRecentTooLong.cls = RX1 ∧ yX1_isRecentTooLong.cls ≠ "java/lang/invoke/MethodHandle" ∧ yX1_isRecentTooLong.cls ≠ "java/lang/invoke/VarHandle" ∧ (parseMethodDescriptor yX1_isRecentTooLong.desc).map (fun d => d.parameters.length) = some 1 := by decide +kernel
def f_X1_isRecentTooLong (σ : CacS) (p0 : Int32) : Option (Int32) := if (σ 3).2 1 = 0 then some 0 else if (σ 0).2 14 < (σ 3).2 1 then some 1 else if (σ 3).2 1 = (σ 0).2 14 then if p0 = 0 then if (σ 4).2 1 = 0 then some 1 else some 0 else some 1 else if (σ 4).2 1 = 0 then some 1 else some 0
set_option maxHeartbeats 4000000 in
set_option maxRecDepth 100000 in
theorem c_X1_isRecentTooLong {l : Launch} {G : va_G} {cA : Nat → ClassId} {lo : Nat} {ad : Nat → Nat} {P : CacS → Heap → Prop} (hC : cx G lo 25 ad (ceCache cA ad) P) {σ : CacS} {p0 : Int32} {res : Int32} (hf : f_X1_isRecentTooLong σ p0 = some res) : Met l yX1_isRecentTooLong (cW yX1_isRecentTooLong cX1_isRecentTooLong 2 (some .boolean)) rm_X1_isRecentTooLong (cP [.ref (ad 0), .int p0] (P σ) G cA) (cQ (some (.int res)) (P σ)) 0 0 (fun q => lo ≤ q) := by
  refine cx_met (by decide) (Nat.le_of_ble_eq_true rfl) (fun p e s m args below meth c ls C0 hP hl => ?_)
  have hl : lv_has ls 2 [(0, .ref (ad 0)), (1, .int p0)] := hl
  obtain ⟨⟨hx, hb, hml, hown, hts⟩, hr, hlocks, hK⟩ := id C0
  have hL : ∀ q ∈ ([] : List Loc), lo ≤ q.base := fun q h => nomatch h
  unfold f_X1_isRecentTooLong at hf
  refine lv_aload_n hx hb dX1_isRecentTooLong_0 rfl (lv_at hl 0 rfl) ?_
  refine g_Cache_2 hC hP hx hb hts hown hK mw_67 dX1_isRecentTooLong_1 ?_
  refine g_Row_1 (cx_row hC σ 0 3 (by decide) rfl) (cx_id 3 hP) hx hb hts hown hK mw_239 dX1_isRecentTooLong_4 ?_
  refine lv_if_ne (tgt := 12) hx hb dX1_isRecentTooLong_7 (by decide) (fun c1 => ?_) (fun c1 => ?_)
  · have hf := cx_f hf c1
    refine lv_aload_n hx hb dX1_isRecentTooLong_12 rfl (lv_at hl 0 rfl) ?_
    refine g_Cache_2 hC hP hx hb hts hown hK mw_67 dX1_isRecentTooLong_13 ?_
    refine g_Row_1 (cx_row hC σ 0 3 (by decide) rfl) (cx_id 3 hP) hx hb hts hown hK mw_239 dX1_isRecentTooLong_16 ?_
    refine lv_aload_n hx hb dX1_isRecentTooLong_19 rfl (lv_at hl 0 rfl) ?_
    refine g_Cache_14 hC hP hx hb hts hown hK mw_172 dX1_isRecentTooLong_20 ?_
    refine lv_icmp_gt (tgt := 54) hx hb dX1_isRecentTooLong_23 (by decide) (fun c2 => ?_) (fun c2 => ?_)
    · have hf := cx_t hf c2
      refine lv_iconst (v := 1) hx hb dX1_isRecentTooLong_54 (by decide) ?_
      refine lv_goto (tgt := 59) hx hb dX1_isRecentTooLong_55 (by decide) ?_
      cases hf
      exact cx_zret hx hb hr hlocks (Or.inr rfl) hP hL dX1_isRecentTooLong_59
    · have hf := cx_f hf c2
      refine lv_aload_n hx hb dX1_isRecentTooLong_26 rfl (lv_at hl 0 rfl) ?_
      refine g_Cache_2 hC hP hx hb hts hown hK mw_67 dX1_isRecentTooLong_27 ?_
      refine g_Row_1 (cx_row hC σ 0 3 (by decide) rfl) (cx_id 3 hP) hx hb hts hown hK mw_239 dX1_isRecentTooLong_30 ?_
      refine lv_aload_n hx hb dX1_isRecentTooLong_33 rfl (lv_at hl 0 rfl) ?_
      refine g_Cache_14 hC hP hx hb hts hown hK mw_172 dX1_isRecentTooLong_34 ?_
      refine lv_icmp_ne (tgt := 44) hx hb dX1_isRecentTooLong_37 (by decide) (fun c3 => ?_) (fun c3 => ?_)
      · have hf := cx_f hf c3
        refine lv_aload_n hx hb dX1_isRecentTooLong_44 rfl (lv_at hl 0 rfl) ?_
        refine g_Cache_3 hC hP hx hb hts hown hK mw_68 dX1_isRecentTooLong_45 ?_
        refine g_Row_1 (cx_row hC σ 1 4 (by decide) rfl) (cx_id 4 hP) hx hb hts hown hK mw_239 dX1_isRecentTooLong_48 ?_
        refine lv_if_ne (tgt := 58) hx hb dX1_isRecentTooLong_51 (by decide) (fun c4 => ?_) (fun c4 => ?_)
        · have hf := cx_f hf c4
          refine lv_iconst (v := 0) hx hb dX1_isRecentTooLong_58 (by decide) ?_
          cases hf
          exact cx_zret hx hb hr hlocks (Or.inl rfl) hP hL dX1_isRecentTooLong_59
        · have hf := cx_t hf c4
          refine lv_iconst (v := 1) hx hb dX1_isRecentTooLong_54 (by decide) ?_
          refine lv_goto (tgt := 59) hx hb dX1_isRecentTooLong_55 (by decide) ?_
          cases hf
          exact cx_zret hx hb hr hlocks (Or.inr rfl) hP hL dX1_isRecentTooLong_59
      · have hf := cx_t hf c3
        refine lv_iload_n hx hb dX1_isRecentTooLong_40 rfl (lv_at hl 1 rfl) ?_
        refine lv_if_ne (tgt := 54) hx hb dX1_isRecentTooLong_41 (by decide) (fun c5 => ?_) (fun c5 => ?_)
        · have hf := cx_f hf c5
          refine lv_iconst (v := 1) hx hb dX1_isRecentTooLong_54 (by decide) ?_
          refine lv_goto (tgt := 59) hx hb dX1_isRecentTooLong_55 (by decide) ?_
          cases hf
          exact cx_zret hx hb hr hlocks (Or.inr rfl) hP hL dX1_isRecentTooLong_59
        · have hf := cx_t hf c5
          refine lv_aload_n hx hb dX1_isRecentTooLong_44 rfl (lv_at hl 0 rfl) ?_
          refine g_Cache_3 hC hP hx hb hts hown hK mw_68 dX1_isRecentTooLong_45 ?_
          refine g_Row_1 (cx_row hC σ 1 4 (by decide) rfl) (cx_id 4 hP) hx hb hts hown hK mw_239 dX1_isRecentTooLong_48 ?_
          refine lv_if_ne (tgt := 58) hx hb dX1_isRecentTooLong_51 (by decide) (fun c6 => ?_) (fun c6 => ?_)
          · have hf := cx_f hf c6
            refine lv_iconst (v := 0) hx hb dX1_isRecentTooLong_58 (by decide) ?_
            cases hf
            exact cx_zret hx hb hr hlocks (Or.inl rfl) hP hL dX1_isRecentTooLong_59
          · have hf := cx_t hf c6
            refine lv_iconst (v := 1) hx hb dX1_isRecentTooLong_54 (by decide) ?_
            refine lv_goto (tgt := 59) hx hb dX1_isRecentTooLong_55 (by decide) ?_
            cases hf
            exact cx_zret hx hb hr hlocks (Or.inr rfl) hP hL dX1_isRecentTooLong_59
  · have hf := cx_t hf c1
    refine lv_iconst (v := 0) hx hb dX1_isRecentTooLong_10 (by decide) ?_
    cases hf
    exact cx_zret hx hb hr hlocks (Or.inl rfl) hP hL dX1_isRecentTooLong_11
abbrev rm_X1_addOwners : Room := { frames := 1, cells := 0, slots := 0, locals := 21 }
theorem hd_X1_addOwners : yX1_addOwners.cls = RX1 ∧ yX1_addOwners.cls ≠ "java/lang/invoke/MethodHandle" ∧ yX1_addOwners.cls ≠ "java/lang/invoke/VarHandle" ∧ (parseMethodDescriptor yX1_addOwners.desc).map (fun d => d.parameters.length) = some 1 := by decide +kernel
def f_X1_addOwners_b2 (N : Nat) : Nat → CacS → Nat → Int32 → Option (CacS)
  | 0, _, _, _ => none
  | n + 1, σ, x1, x2 => if (σ (3 + x1)).2 1 ≤ x2 then some σ else (f_X5_blockAt (σ (3 + x1)) x2).bind fun r2 => (f_X0_ownerOf (σ 1) r2).bind fun r4 => if r4 < 0 then f_X1_addOwners_b2 N n σ x1 (x2 + 1) else if 4 ≤ r4 then f_X1_addOwners_b2 N n σ x1 (x2 + 1) else gd r4 4 (gd r4 4 (cx_let (va_up σ 0 (oA (σ 0) 8 (Int32.toNatClampNeg r4) (((σ 0).1 8 (Int32.toNatClampNeg r4)) + 1))) fun z10 => f_X1_addOwners_b2 N n z10 x1 (x2 + 1)))
set_option maxHeartbeats 4000000 in
set_option maxRecDepth 100000 in
theorem w_X1_addOwners_b2 {p : Program} {l : Launch} {e : Env} {s : State} {m : MethodId} {args : Array Value} {below : List Frame} {meth : Method} {c : Code} {G : va_G} {cA : Nat → ClassId} (C0 : cB p s m args meth c RX1 cX1_addOwners 4 none G cA) {lo : Nat} {ad : Nat → Nat} {P : CacS → Heap → Prop} (hC : cx G lo 25 ad (ceCache cA ad) P) {N : Nat} {res : CacS} : ∀ (n : Nat) (σ : CacS) (x1 : Nat) (x2 : Int32) (hx1 : x1 < 5) (H : Heap) (locs : List Loc) (ls : Array Slot), f_X1_addOwners_b2 N n σ x1 x2 = some res → P σ H → (∀ q ∈ locs, lo ≤ q.base) → lv_has ls 4 [(0, .ref (ad 0)), (1, .ref ((adRow ad x1) 0)), (2, .int x2)] → W p l e rm_X1_addOwners s m args below meth c H locs 0 0 (MQ below (cQ none (P res)) args s 0 0 (fun q => lo ≤ q)) (F0 m 2 ls []) := by
  obtain ⟨⟨hx, hb, hml, hown, hts⟩, hr, hlocks, hK⟩ := id C0
  intro n
  induction n with
  | zero => intro σ x1 x2 hx1 H locs ls
            exact fun hf => nomatch hf
  | succ n ih =>
    intro σ x1 x2 hx1 H locs ls hf hP hL hl
    rw [f_X1_addOwners_b2] at hf
    refine lv_iload_n hx hb dX1_addOwners_2 rfl (lv_at hl 2 rfl) ?_
    refine lv_aload_n hx hb dX1_addOwners_3 rfl (lv_at hl 1 rfl) ?_
    refine g_Row_1 (cx_row hC σ x1 (3 + x1) hx1 rfl) (cx_id (3 + x1) hP) hx hb hts hown hK mw_239 dX1_addOwners_4 ?_
    refine lv_icmp_ge (tgt := 48) hx hb dX1_addOwners_7 (by decide) (fun c1 => ?_) (fun c1 => ?_)
    · have hf := cx_t hf c1
      cases hf
      exact cx_vret hx hb hr hlocks hP hL dX1_addOwners_48
    · have hf := cx_f hf c1
      refine lv_aload_n hx hb dX1_addOwners_10 rfl (lv_at hl 0 rfl) ?_
      refine g_Cache_0 hC hP hx hb hts hown hK mw_59 dX1_addOwners_11 ?_
      refine lv_aload_n hx hb dX1_addOwners_14 rfl (lv_at hl 1 rfl) ?_
      refine lv_iload_n hx hb dX1_addOwners_15 rfl (lv_at hl 2 rfl) ?_
      obtain ⟨r2, q3, hf⟩ := cx_b hf
      refine cx_callV (As := [.int x2]) (rest := [.ref ((adBlk ad) 0)]) ⟨hx, hb, hml, hown, hts⟩ (c_X5_blockAt (cx_row hC σ x1 (3 + x1) hx1 rfl) q3) (cwV 1 hts (gV mw_330 mw_202 mw_203 mw_66 mw_204) rfl rfl rfl hd_X5_blockAt ⟨Nat.le_of_ble_eq_true rfl, Nat.le_of_ble_eq_true rfl⟩) hK (cx_id (3 + x1) hP) rfl (at_Row (cx_row hC σ x1 (3 + x1) hx1 rfl) (cx_id (3 + x1) hP)) rfl hl.1 rfl (Nat.le_of_ble_eq_true rfl) dX1_addOwners_16 ⟨Nat.zero_le _, Nat.zero_le _⟩ hL (fun H locs hP hL => ?_)
      replace hP : P σ H := by first | exact hP | (simpa only [va_up_id] using hP)
      obtain ⟨r4, q5, hf⟩ := cx_b hf
      refine cx_callV (As := [.int r2]) (rest := []) ⟨hx, hb, hml, hown, hts⟩ (c_X0_ownerOf (cx_blk hC σ) q5) (cwV 1 hts (gV mw_331 mw_332 mw_333 mw_58 mw_334) rfl rfl rfl hd_X0_ownerOf ⟨Nat.le_of_ble_eq_true rfl, Nat.le_of_ble_eq_true rfl⟩) hK (cx_id 1 hP) rfl (at_Blocks (cx_blk hC σ) (cx_id 1 hP)) rfl hl.1 rfl (Nat.le_of_ble_eq_true rfl) dX1_addOwners_19 ⟨Nat.zero_le _, Nat.zero_le _⟩ hL (fun H locs hP hL => ?_)
      replace hP : P σ H := by first | exact hP | (simpa only [va_up_id] using hP)
      refine lv_istore_n (lv' := [(3, .int r4), (0, .ref (ad 0)), (1, .ref ((adRow ad x1) 0)), (2, .int x2)]) hx hb dX1_addOwners_22 rfl hl (by decide) rfl (fun ls hl => ?_)
      refine lv_iload_n hx hb dX1_addOwners_23 rfl (lv_at hl 0 rfl) ?_
      refine lv_if_lt (tgt := 42) hx hb dX1_addOwners_24 (by decide) (fun c6 => ?_) (fun c6 => ?_)
      · have hf := cx_t hf c6
        refine lv_iinc (v := (x2 + 1)) (lv' := [(2, .int (x2 + 1)), (3, .int r4), (0, .ref (ad 0)), (1, .ref ((adRow ad x1) 0))]) hx hb dX1_addOwners_42 hl (k := 3) rfl rfl (by decide) rfl (fun ls hl => ?_)
        refine lv_goto (tgt := 2) hx hb dX1_addOwners_45 (by decide) ?_
        exact ih σ x1 (x2 + 1) hx1 _ _ _ hf hP hL (lv_sub hl [2, 3, 0] rfl)
      · have hf := cx_f hf c6
        refine lv_iload_n hx hb dX1_addOwners_27 rfl (lv_at hl 0 rfl) ?_
        refine lv_iconst (v := 4) hx hb dX1_addOwners_28 (by decide) ?_
        refine lv_icmp_ge (tgt := 42) hx hb dX1_addOwners_29 (by decide) (fun c7 => ?_) (fun c7 => ?_)
        · have hf := cx_t hf c7
          refine lv_iinc (v := (x2 + 1)) (lv' := [(2, .int (x2 + 1)), (3, .int r4), (0, .ref (ad 0)), (1, .ref ((adRow ad x1) 0))]) hx hb dX1_addOwners_42 hl (k := 3) rfl rfl (by decide) rfl (fun ls hl => ?_)
          refine lv_goto (tgt := 2) hx hb dX1_addOwners_45 (by decide) ?_
          exact ih σ x1 (x2 + 1) hx1 _ _ _ hf hP hL (lv_sub hl [2, 3, 0] rfl)
        · have hf := cx_f hf c7
          refine lv_aload_n hx hb dX1_addOwners_32 rfl (lv_at hl 1 rfl) ?_
          refine g_Cache_8 hC hP hx hb hts hown hK mw_72 dX1_addOwners_33 ?_
          refine lv_iload_n hx hb dX1_addOwners_36 rfl (lv_at hl 0 rfl) ?_
          refine lv_dup2_11 hx hb dX1_addOwners_37 rfl rfl ?_
          obtain ⟨hi8, hf⟩ := gdE hf
          refine ga_Cache_8 hC hP hx hb hK hi8 dX1_addOwners_38 ?_
          refine lv_iconst (v := 1) hx hb dX1_addOwners_39 (by decide) ?_
          refine lv_iadd hx hb dX1_addOwners_40 ?_
          obtain ⟨hi9, hf⟩ := gdE hf
          obtain ⟨z10, ez10, hf⟩ := cx_letE hf
          refine pa_Cache_8 hC hP hx hb hK hi9 dX1_addOwners_41 hL (fun H locs hP hL => ?_)
          replace hP : P z10 H := by rw [← ez10]; exact hP
          refine lv_iinc (v := (x2 + 1)) (lv' := [(2, .int (x2 + 1)), (3, .int r4), (0, .ref (ad 0)), (1, .ref ((adRow ad x1) 0))]) hx hb dX1_addOwners_42 hl (k := 3) rfl rfl (by decide) rfl (fun ls hl => ?_)
          refine lv_goto (tgt := 2) hx hb dX1_addOwners_45 (by decide) ?_
          exact ih z10 x1 (x2 + 1) hx1 _ _ _ hf hP hL (lv_sub hl [2, 3, 0] rfl)
def f_X1_addOwners (N : Nat) (σ : CacS) (p0 : Nat) : Option (CacS) := f_X1_addOwners_b2 N N σ p0 0
set_option maxHeartbeats 4000000 in
set_option maxRecDepth 100000 in
theorem c_X1_addOwners {l : Launch} {G : va_G} {cA : Nat → ClassId} {lo : Nat} {ad : Nat → Nat} {P : CacS → Heap → Prop} (hC : cx G lo 25 ad (ceCache cA ad) P) {N : Nat} {σ : CacS} {p0 : Nat} (hp0 : p0 < 5) {res : CacS} (hf : f_X1_addOwners N σ p0 = some res) : Met l yX1_addOwners (cW yX1_addOwners cX1_addOwners 4 none) rm_X1_addOwners (cP [.ref (ad 0), .ref ((adRow ad p0) 0)] (P σ) G cA) (cQ none (P res)) 0 0 (fun q => lo ≤ q) := by
  refine cx_met (by decide) (Nat.le_of_ble_eq_true rfl) (fun p e s m args below meth c ls C0 hP hl => ?_)
  have hl : lv_has ls 4 [(0, .ref (ad 0)), (1, .ref ((adRow ad p0) 0))] := hl
  obtain ⟨⟨hx, hb, hml, hown, hts⟩, hr, hlocks, hK⟩ := id C0
  have hL : ∀ q ∈ ([] : List Loc), lo ≤ q.base := fun q h => nomatch h
  unfold f_X1_addOwners at hf
  refine lv_iconst (v := 0) hx hb dX1_addOwners_0 (by decide) ?_
  refine lv_istore_n (lv' := [(2, .int 0), (0, .ref (ad 0)), (1, .ref ((adRow ad p0) 0))]) hx hb dX1_addOwners_1 rfl hl (by decide) rfl (fun ls hl => ?_)
  exact w_X1_addOwners_b2 C0 hC N σ p0 0 hp0 _ _ _ hf hP hL (lv_sub hl [1, 2, 0] rfl)
abbrev rm_X1_unitToDemote : Room := { frames := 2, cells := 0, slots := 0, locals := 46 }
theorem hd_X1_unitToDemote : yX1_unitToDemote.cls = RX1 ∧ yX1_unitToDemote.cls ≠ "java/lang/invoke/MethodHandle" ∧ yX1_unitToDemote.cls ≠ "java/lang/invoke/VarHandle" ∧ (parseMethodDescriptor yX1_unitToDemote.desc).map (fun d => d.parameters.length) = some 1 := by decide +kernel
def f_X1_unitToDemote_b93 (N : Nat) : Nat → CacS → Nat → Int32 → Int32 → Option (Int32 × CacS)
  | 0, _, _, _, _ => none
  | n + 1, σ, x2, x3, x4 => if x4 < 0 then (f_X5_blockAt (σ (3 + x2)) ((σ (3 + x2)).2 1 - 1)).bind fun r2 => some (r2, σ) else (f_X5_blockAt (σ (3 + x2)) x4).bind fun r4 => (f_X0_ownerOf (σ 1) r4).bind fun r6 => if r6 < 0 then f_X1_unitToDemote_b93 N n σ x2 x3 (x4 + (-1)) else if 4 ≤ r6 then f_X1_unitToDemote_b93 N n σ x2 x3 (x4 + (-1)) else gd r6 4 ((f_X1_unitsAbove σ r6 ((σ 0).1 8 (Int32.toNatClampNeg r6)) x3).bind fun r11 => if r11 ≤ 0 then f_X1_unitToDemote_b93 N n σ x2 x3 (x4 + (-1)) else (f_X5_blockAt (σ (3 + x2)) x4).bind fun r14 => some (r14, σ))
set_option maxHeartbeats 4000000 in
set_option maxRecDepth 100000 in
theorem w_X1_unitToDemote_b93 {p : Program} {l : Launch} {e : Env} {s : State} {m : MethodId} {args : Array Value} {below : List Frame} {meth : Method} {c : Code} {G : va_G} {cA : Nat → ClassId} (C0 : cB p s m args meth c RX1 cX1_unitToDemote 6 (some .int) G cA) {lo : Nat} {ad : Nat → Nat} {P : CacS → Heap → Prop} (hC : cx G lo 25 ad (ceCache cA ad) P) {N : Nat} {res : Int32 × CacS} : ∀ (n : Nat) (σ : CacS) (x2 : Nat) (x3 : Int32) (x4 : Int32) (hx2 : x2 < 5) (H : Heap) (locs : List Loc) (ls : Array Slot), f_X1_unitToDemote_b93 N n σ x2 x3 x4 = some res → P σ H → (∀ q ∈ locs, lo ≤ q.base) → lv_has ls 6 [(0, .ref (ad 0)), (2, .ref ((adRow ad x2) 0)), (3, .int x3), (4, .int x4)] → W p l e rm_X1_unitToDemote s m args below meth c H locs 0 0 (MQ below (cQ (some (.int res.1)) (P res.2)) args s 0 0 (fun q => lo ≤ q)) (F0 m 93 ls []) := by
  obtain ⟨⟨hx, hb, hml, hown, hts⟩, hr, hlocks, hK⟩ := id C0
  intro n
  induction n with
  | zero => intro σ x2 x3 x4 hx2 H locs ls
            exact fun hf => nomatch hf
  | succ n ih =>
    intro σ x2 x3 x4 hx2 H locs ls hf hP hL hl
    rw [f_X1_unitToDemote_b93] at hf
    refine lv_iload hx hb dX1_unitToDemote_93 (lv_at hl 3 rfl) ?_
    refine lv_if_lt (tgt := 154) hx hb dX1_unitToDemote_95 (by decide) (fun c1 => ?_) (fun c1 => ?_)
    · have hf := cx_t hf c1
      refine lv_aload_n hx hb dX1_unitToDemote_154 rfl (lv_at hl 1 rfl) ?_
      refine lv_aload_n hx hb dX1_unitToDemote_155 rfl (lv_at hl 1 rfl) ?_
      refine g_Row_1 (cx_row hC σ x2 (3 + x2) hx2 rfl) (cx_id (3 + x2) hP) hx hb hts hown hK mw_239 dX1_unitToDemote_156 ?_
      refine lv_iconst (v := 1) hx hb dX1_unitToDemote_159 (by decide) ?_
      refine lv_isub hx hb dX1_unitToDemote_160 ?_
      obtain ⟨r2, q3, hf⟩ := cx_b hf
      refine cx_callV (As := [.int ((σ (3 + x2)).2 1 - 1)]) (rest := []) ⟨hx, hb, hml, hown, hts⟩ (c_X5_blockAt (cx_row hC σ x2 (3 + x2) hx2 rfl) q3) (cwV 1 hts (gV mw_330 mw_202 mw_203 mw_66 mw_204) rfl rfl rfl hd_X5_blockAt ⟨Nat.le_of_ble_eq_true rfl, Nat.le_of_ble_eq_true rfl⟩) hK (cx_id (3 + x2) hP) rfl (at_Row (cx_row hC σ x2 (3 + x2) hx2 rfl) (cx_id (3 + x2) hP)) rfl hl.1 rfl (Nat.le_of_ble_eq_true rfl) dX1_unitToDemote_161 ⟨Nat.zero_le _, Nat.zero_le _⟩ hL (fun H locs hP hL => ?_)
      replace hP : P σ H := by first | exact hP | (simpa only [va_up_id] using hP)
      cases hf
      exact cx_iret hx hb hr hlocks hP hL dX1_unitToDemote_164
    · have hf := cx_f hf c1
      refine lv_aload_n hx hb dX1_unitToDemote_98 rfl (lv_at hl 0 rfl) ?_
      refine g_Cache_0 hC hP hx hb hts hown hK mw_59 dX1_unitToDemote_99 ?_
      refine lv_aload_n hx hb dX1_unitToDemote_102 rfl (lv_at hl 1 rfl) ?_
      refine lv_iload hx hb dX1_unitToDemote_103 (lv_at hl 3 rfl) ?_
      obtain ⟨r4, q5, hf⟩ := cx_b hf
      refine cx_callV (As := [.int x4]) (rest := [.ref ((adBlk ad) 0)]) ⟨hx, hb, hml, hown, hts⟩ (c_X5_blockAt (cx_row hC σ x2 (3 + x2) hx2 rfl) q5) (cwV 1 hts (gV mw_330 mw_202 mw_203 mw_66 mw_204) rfl rfl rfl hd_X5_blockAt ⟨Nat.le_of_ble_eq_true rfl, Nat.le_of_ble_eq_true rfl⟩) hK (cx_id (3 + x2) hP) rfl (at_Row (cx_row hC σ x2 (3 + x2) hx2 rfl) (cx_id (3 + x2) hP)) rfl hl.1 rfl (Nat.le_of_ble_eq_true rfl) dX1_unitToDemote_105 ⟨Nat.zero_le _, Nat.zero_le _⟩ hL (fun H locs hP hL => ?_)
      replace hP : P σ H := by first | exact hP | (simpa only [va_up_id] using hP)
      obtain ⟨r6, q7, hf⟩ := cx_b hf
      refine cx_callV (As := [.int r4]) (rest := []) ⟨hx, hb, hml, hown, hts⟩ (c_X0_ownerOf (cx_blk hC σ) q7) (cwV 1 hts (gV mw_331 mw_332 mw_333 mw_58 mw_334) rfl rfl rfl hd_X0_ownerOf ⟨Nat.le_of_ble_eq_true rfl, Nat.le_of_ble_eq_true rfl⟩) hK (cx_id 1 hP) rfl (at_Blocks (cx_blk hC σ) (cx_id 1 hP)) rfl hl.1 rfl (Nat.le_of_ble_eq_true rfl) dX1_unitToDemote_108 ⟨Nat.zero_le _, Nat.zero_le _⟩ hL (fun H locs hP hL => ?_)
      replace hP : P σ H := by first | exact hP | (simpa only [va_up_id] using hP)
      refine lv_istore (lv' := [(5, .int r6), (0, .ref (ad 0)), (2, .ref ((adRow ad x2) 0)), (3, .int x3), (4, .int x4)]) hx hb dX1_unitToDemote_111 hl (by decide) rfl (fun ls hl => ?_)
      refine lv_iload hx hb dX1_unitToDemote_113 (lv_at hl 0 rfl) ?_
      refine lv_if_lt (tgt := 148) hx hb dX1_unitToDemote_115 (by decide) (fun c8 => ?_) (fun c8 => ?_)
      · have hf := cx_t hf c8
        refine lv_iinc (v := (x4 + (-1))) (lv' := [(4, .int (x4 + (-1))), (5, .int r6), (0, .ref (ad 0)), (2, .ref ((adRow ad x2) 0)), (3, .int x3)]) hx hb dX1_unitToDemote_148 hl (k := 4) rfl rfl (by decide) rfl (fun ls hl => ?_)
        refine lv_goto (tgt := 93) hx hb dX1_unitToDemote_151 (by decide) ?_
        exact ih σ x2 x3 (x4 + (-1)) hx2 _ _ _ hf hP hL (lv_sub hl [2, 3, 4, 0] rfl)
      · have hf := cx_f hf c8
        refine lv_iload hx hb dX1_unitToDemote_118 (lv_at hl 0 rfl) ?_
        refine lv_iconst (v := 4) hx hb dX1_unitToDemote_120 (by decide) ?_
        refine lv_icmp_ge (tgt := 148) hx hb dX1_unitToDemote_121 (by decide) (fun c9 => ?_) (fun c9 => ?_)
        · have hf := cx_t hf c9
          refine lv_iinc (v := (x4 + (-1))) (lv' := [(4, .int (x4 + (-1))), (5, .int r6), (0, .ref (ad 0)), (2, .ref ((adRow ad x2) 0)), (3, .int x3)]) hx hb dX1_unitToDemote_148 hl (k := 4) rfl rfl (by decide) rfl (fun ls hl => ?_)
          refine lv_goto (tgt := 93) hx hb dX1_unitToDemote_151 (by decide) ?_
          exact ih σ x2 x3 (x4 + (-1)) hx2 _ _ _ hf hP hL (lv_sub hl [2, 3, 4, 0] rfl)
        · have hf := cx_f hf c9
          refine lv_aload_n hx hb dX1_unitToDemote_124 rfl (lv_at hl 1 rfl) ?_
          refine lv_iload hx hb dX1_unitToDemote_125 (lv_at hl 0 rfl) ?_
          refine lv_aload_n hx hb dX1_unitToDemote_127 rfl (lv_at hl 1 rfl) ?_
          refine g_Cache_8 hC hP hx hb hts hown hK mw_72 dX1_unitToDemote_128 ?_
          refine lv_iload hx hb dX1_unitToDemote_131 (lv_at hl 0 rfl) ?_
          obtain ⟨hi10, hf⟩ := gdE hf
          refine ga_Cache_8 hC hP hx hb hK hi10 dX1_unitToDemote_133 ?_
          refine lv_iload_n hx hb dX1_unitToDemote_134 rfl (lv_at hl 3 rfl) ?_
          obtain ⟨r11, q12, hf⟩ := cx_b hf
          refine cx_callV (As := [.int r6, .int ((σ 0).1 8 (Int32.toNatClampNeg r6)), .int x3]) (rest := []) ⟨hx, hb, hml, hown, hts⟩ (c_X1_unitsAbove hC q12) (cwV 3 hts (gV mw_340 mw_341 mw_342 mw_29 mw_343) rfl rfl rfl hd_X1_unitsAbove ⟨Nat.le_of_ble_eq_true rfl, Nat.le_of_ble_eq_true rfl⟩) hK hP rfl (at_Cache hC hP) rfl hl.1 rfl (Nat.le_of_ble_eq_true rfl) dX1_unitToDemote_135 ⟨Nat.zero_le _, Nat.zero_le _⟩ hL (fun H locs hP hL => ?_)
          replace hP : P σ H := by first | exact hP | (simpa only [va_up_id] using hP)
          refine lv_if_le (tgt := 148) hx hb dX1_unitToDemote_138 (by decide) (fun c13 => ?_) (fun c13 => ?_)
          · have hf := cx_t hf c13
            refine lv_iinc (v := (x4 + (-1))) (lv' := [(4, .int (x4 + (-1))), (5, .int r6), (0, .ref (ad 0)), (2, .ref ((adRow ad x2) 0)), (3, .int x3)]) hx hb dX1_unitToDemote_148 hl (k := 4) rfl rfl (by decide) rfl (fun ls hl => ?_)
            refine lv_goto (tgt := 93) hx hb dX1_unitToDemote_151 (by decide) ?_
            exact ih σ x2 x3 (x4 + (-1)) hx2 _ _ _ hf hP hL (lv_sub hl [2, 3, 4, 0] rfl)
          · have hf := cx_f hf c13
            refine lv_aload_n hx hb dX1_unitToDemote_141 rfl (lv_at hl 2 rfl) ?_
            refine lv_iload hx hb dX1_unitToDemote_142 (lv_at hl 4 rfl) ?_
            obtain ⟨r14, q15, hf⟩ := cx_b hf
            refine cx_callV (As := [.int x4]) (rest := []) ⟨hx, hb, hml, hown, hts⟩ (c_X5_blockAt (cx_row hC σ x2 (3 + x2) hx2 rfl) q15) (cwV 1 hts (gV mw_330 mw_202 mw_203 mw_66 mw_204) rfl rfl rfl hd_X5_blockAt ⟨Nat.le_of_ble_eq_true rfl, Nat.le_of_ble_eq_true rfl⟩) hK (cx_id (3 + x2) hP) rfl (at_Row (cx_row hC σ x2 (3 + x2) hx2 rfl) (cx_id (3 + x2) hP)) rfl hl.1 rfl (Nat.le_of_ble_eq_true rfl) dX1_unitToDemote_144 ⟨Nat.zero_le _, Nat.zero_le _⟩ hL (fun H locs hP hL => ?_)
            replace hP : P σ H := by first | exact hP | (simpa only [va_up_id] using hP)
            cases hf
            exact cx_iret hx hb hr hlocks hP hL dX1_unitToDemote_147
def f_X1_unitToDemote_b46 (N : Nat) : Nat → CacS → Nat → Int32 → Option (Int32 × CacS)
  | 0, _, _, _ => none
  | n + 1, σ, x2, x3 => if 4 ≤ x3 then (f_X1_addOwners N σ 0).bind fun r2 => (f_X1_addOwners N r2 1).bind fun r4 => (f_X1_sumOfWeights N r4).bind fun r6 => f_X1_unitToDemote_b93 N N r4 x2 r6 ((r4 (3 + x2)).2 1 - 1) else gd x3 4 (cx_let (va_up σ 0 (oA (σ 0) 8 (Int32.toNatClampNeg x3) 0)) fun z9 => f_X1_unitToDemote_b46 N n z9 x2 (x3 + 1))
set_option maxHeartbeats 4000000 in
set_option maxRecDepth 100000 in
theorem w_X1_unitToDemote_b46 {p : Program} {l : Launch} {e : Env} {s : State} {m : MethodId} {args : Array Value} {below : List Frame} {meth : Method} {c : Code} {G : va_G} {cA : Nat → ClassId} (C0 : cB p s m args meth c RX1 cX1_unitToDemote 6 (some .int) G cA) {lo : Nat} {ad : Nat → Nat} {P : CacS → Heap → Prop} (hC : cx G lo 25 ad (ceCache cA ad) P) {N : Nat} {res : Int32 × CacS} : ∀ (n : Nat) (σ : CacS) (x2 : Nat) (x3 : Int32) (hx2 : x2 < 5) (H : Heap) (locs : List Loc) (ls : Array Slot), f_X1_unitToDemote_b46 N n σ x2 x3 = some res → P σ H → (∀ q ∈ locs, lo ≤ q.base) → lv_has ls 6 [(0, .ref (ad 0)), (2, .ref ((adRow ad x2) 0)), (3, .int x3)] → W p l e rm_X1_unitToDemote s m args below meth c H locs 0 0 (MQ below (cQ (some (.int res.1)) (P res.2)) args s 0 0 (fun q => lo ≤ q)) (F0 m 46 ls []) := by
  obtain ⟨⟨hx, hb, hml, hown, hts⟩, hr, hlocks, hK⟩ := id C0
  intro n
  induction n with
  | zero => intro σ x2 x3 hx2 H locs ls
            exact fun hf => nomatch hf
  | succ n ih =>
    intro σ x2 x3 hx2 H locs ls hf hP hL hl
    rw [f_X1_unitToDemote_b46] at hf
    refine lv_iload_n hx hb dX1_unitToDemote_46 rfl (lv_at hl 2 rfl) ?_
    refine lv_iconst (v := 4) hx hb dX1_unitToDemote_47 (by decide) ?_
    refine lv_icmp_ge (tgt := 64) hx hb dX1_unitToDemote_48 (by decide) (fun c1 => ?_) (fun c1 => ?_)
    · have hf := cx_t hf c1
      refine lv_aload_n hx hb dX1_unitToDemote_64 rfl (lv_at hl 0 rfl) ?_
      refine lv_aload_n hx hb dX1_unitToDemote_65 rfl (lv_at hl 0 rfl) ?_
      refine g_Cache_2 hC hP hx hb hts hown hK mw_67 dX1_unitToDemote_66 ?_
      obtain ⟨r2, q3, hf⟩ := cx_b hf
      refine cx_callV (As := [.ref ((adRow ad 0) 0)]) (rest := []) ⟨hx, hb, hml, hown, hts⟩ (c_X1_addOwners hC (by decide) q3) (cwV 1 hts (gV mw_503 mw_504 mw_505 mw_29 mw_506) rfl rfl rfl hd_X1_addOwners ⟨Nat.le_of_ble_eq_true rfl, Nat.le_of_ble_eq_true rfl⟩) hK hP rfl (at_Cache hC hP) rfl hl.1 rfl (Nat.le_of_ble_eq_true rfl) dX1_unitToDemote_69 ⟨Nat.zero_le _, Nat.zero_le _⟩ hL (fun H locs hP hL => ?_)
      replace hP : P r2 H := by first | exact hP | (simpa only [va_up_id] using hP)
      refine lv_aload_n hx hb dX1_unitToDemote_72 rfl (lv_at hl 0 rfl) ?_
      refine lv_aload_n hx hb dX1_unitToDemote_73 rfl (lv_at hl 0 rfl) ?_
      refine g_Cache_3 hC hP hx hb hts hown hK mw_68 dX1_unitToDemote_74 ?_
      obtain ⟨r4, q5, hf⟩ := cx_b hf
      refine cx_callV (As := [.ref ((adRow ad 1) 0)]) (rest := []) ⟨hx, hb, hml, hown, hts⟩ (c_X1_addOwners hC (by decide) q5) (cwV 1 hts (gV mw_503 mw_504 mw_505 mw_29 mw_506) rfl rfl rfl hd_X1_addOwners ⟨Nat.le_of_ble_eq_true rfl, Nat.le_of_ble_eq_true rfl⟩) hK hP rfl (at_Cache hC hP) rfl hl.1 rfl (Nat.le_of_ble_eq_true rfl) dX1_unitToDemote_77 ⟨Nat.zero_le _, Nat.zero_le _⟩ hL (fun H locs hP hL => ?_)
      replace hP : P r4 H := by first | exact hP | (simpa only [va_up_id] using hP)
      refine lv_aload_n hx hb dX1_unitToDemote_80 rfl (lv_at hl 0 rfl) ?_
      obtain ⟨r6, q7, hf⟩ := cx_b hf
      refine cx_callV (As := []) (rest := []) ⟨hx, hb, hml, hown, hts⟩ (c_X1_sumOfWeights hC q7) (cwV 0 hts (gV mw_335 mw_336 mw_337 mw_29 mw_338) rfl rfl rfl hd_X1_sumOfWeights ⟨Nat.le_of_ble_eq_true rfl, Nat.le_of_ble_eq_true rfl⟩) hK hP rfl (at_Cache hC hP) rfl hl.1 rfl (Nat.le_of_ble_eq_true rfl) dX1_unitToDemote_81 ⟨Nat.zero_le _, Nat.zero_le _⟩ hL (fun H locs hP hL => ?_)
      replace hP : P r4 H := by first | exact hP | (simpa only [va_up_id] using hP)
      refine lv_istore_n (lv' := [(3, .int r6), (0, .ref (ad 0)), (2, .ref ((adRow ad x2) 0))]) hx hb dX1_unitToDemote_84 rfl hl (by decide) rfl (fun ls hl => ?_)
      refine lv_aload_n hx hb dX1_unitToDemote_85 rfl (lv_at hl 2 rfl) ?_
      refine g_Row_1 (cx_row hC r4 x2 (3 + x2) hx2 rfl) (cx_id (3 + x2) hP) hx hb hts hown hK mw_239 dX1_unitToDemote_86 ?_
      refine lv_iconst (v := 1) hx hb dX1_unitToDemote_89 (by decide) ?_
      refine lv_isub hx hb dX1_unitToDemote_90 ?_
      refine lv_istore (lv' := [(4, .int ((r4 (3 + x2)).2 1 - 1)), (3, .int r6), (0, .ref (ad 0)), (2, .ref ((adRow ad x2) 0))]) hx hb dX1_unitToDemote_91 hl (by decide) rfl (fun ls hl => ?_)
      exact w_X1_unitToDemote_b93 C0 hC N r4 x2 r6 ((r4 (3 + x2)).2 1 - 1) hx2 _ _ _ hf hP hL (lv_sub hl [2, 3, 1, 0] rfl)
    · have hf := cx_f hf c1
      refine lv_aload_n hx hb dX1_unitToDemote_51 rfl (lv_at hl 0 rfl) ?_
      refine g_Cache_8 hC hP hx hb hts hown hK mw_72 dX1_unitToDemote_52 ?_
      refine lv_iload_n hx hb dX1_unitToDemote_55 rfl (lv_at hl 2 rfl) ?_
      refine lv_iconst (v := 0) hx hb dX1_unitToDemote_56 (by decide) ?_
      obtain ⟨hi8, hf⟩ := gdE hf
      obtain ⟨z9, ez9, hf⟩ := cx_letE hf
      refine pa_Cache_8 hC hP hx hb hK hi8 dX1_unitToDemote_57 hL (fun H locs hP hL => ?_)
      replace hP : P z9 H := by rw [← ez9]; exact hP
      refine lv_iinc (v := (x3 + 1)) (lv' := [(3, .int (x3 + 1)), (0, .ref (ad 0)), (2, .ref ((adRow ad x2) 0))]) hx hb dX1_unitToDemote_58 hl (k := 2) rfl rfl (by decide) rfl (fun ls hl => ?_)
      refine lv_goto (tgt := 46) hx hb dX1_unitToDemote_61 (by decide) ?_
      exact ih z9 x2 (x3 + 1) hx2 _ _ _ hf hP hL (lv_sub hl [1, 2, 0] rfl)
def f_X1_unitToDemote (N : Nat) (σ : CacS) (p0 : Int32) : Option (Int32 × CacS) := if (σ 0).2 12 ≤ ((σ 3).2 1 + (σ 4).2 1) then (f_X1_isRecentTooLong σ p0).bind fun r2 => if r2 = 0 then f_X1_unitToDemote_b46 N N σ 1 0 else f_X1_unitToDemote_b46 N N σ 0 0 else some ((-1), σ)
set_option maxHeartbeats 4000000 in
set_option maxRecDepth 100000 in
theorem c_X1_unitToDemote {l : Launch} {G : va_G} {cA : Nat → ClassId} {lo : Nat} {ad : Nat → Nat} {P : CacS → Heap → Prop} (hC : cx G lo 25 ad (ceCache cA ad) P) {N : Nat} {σ : CacS} {p0 : Int32} {res : Int32 × CacS} (hf : f_X1_unitToDemote N σ p0 = some res) : Met l yX1_unitToDemote (cW yX1_unitToDemote cX1_unitToDemote 6 (some .int)) rm_X1_unitToDemote (cP [.ref (ad 0), .int p0] (P σ) G cA) (cQ (some (.int res.1)) (P res.2)) 0 0 (fun q => lo ≤ q) := by
  refine cx_met (by decide) (Nat.le_of_ble_eq_true rfl) (fun p e s m args below meth c ls C0 hP hl => ?_)
  have hl : lv_has ls 6 [(0, .ref (ad 0)), (1, .int p0)] := hl
  obtain ⟨⟨hx, hb, hml, hown, hts⟩, hr, hlocks, hK⟩ := id C0
  have hL : ∀ q ∈ ([] : List Loc), lo ≤ q.base := fun q h => nomatch h
  unfold f_X1_unitToDemote at hf
  refine lv_aload_n hx hb dX1_unitToDemote_0 rfl (lv_at hl 0 rfl) ?_
  refine g_Cache_2 hC hP hx hb hts hown hK mw_67 dX1_unitToDemote_1 ?_
  refine g_Row_1 (cx_row hC σ 0 3 (by decide) rfl) (cx_id 3 hP) hx hb hts hown hK mw_239 dX1_unitToDemote_4 ?_
  refine lv_aload_n hx hb dX1_unitToDemote_7 rfl (lv_at hl 0 rfl) ?_
  refine g_Cache_3 hC hP hx hb hts hown hK mw_68 dX1_unitToDemote_8 ?_
  refine g_Row_1 (cx_row hC σ 1 4 (by decide) rfl) (cx_id 4 hP) hx hb hts hown hK mw_239 dX1_unitToDemote_11 ?_
  refine lv_iadd hx hb dX1_unitToDemote_14 ?_
  refine lv_aload_n hx hb dX1_unitToDemote_15 rfl (lv_at hl 0 rfl) ?_
  refine g_Cache_12 hC hP hx hb hts hown hK mw_79 dX1_unitToDemote_16 ?_
  refine lv_icmp_ge (tgt := 24) hx hb dX1_unitToDemote_19 (by decide) (fun c1 => ?_) (fun c1 => ?_)
  · have hf := cx_t hf c1
    refine lv_aload_n hx hb dX1_unitToDemote_24 rfl (lv_at hl 0 rfl) ?_
    refine lv_iload_n hx hb dX1_unitToDemote_25 rfl (lv_at hl 1 rfl) ?_
    obtain ⟨r2, q3, hf⟩ := cx_b hf
    refine cx_callV (As := [.int p0]) (rest := []) ⟨hx, hb, hml, hown, hts⟩ (c_X1_isRecentTooLong hC q3) (cwV 1 hts (gV mw_499 mw_500 mw_501 mw_29 mw_502) rfl rfl rfl hd_X1_isRecentTooLong ⟨Nat.le_of_ble_eq_true rfl, Nat.le_of_ble_eq_true rfl⟩) hK hP rfl (at_Cache hC hP) rfl hl.1 rfl (Nat.le_of_ble_eq_true rfl) dX1_unitToDemote_26 ⟨Nat.zero_le _, Nat.zero_le _⟩ hL (fun H locs hP hL => ?_)
    replace hP : P σ H := by first | exact hP | (simpa only [va_up_id] using hP)
    refine lv_if_eq (tgt := 39) hx hb dX1_unitToDemote_29 (by decide) (fun c4 => ?_) (fun c4 => ?_)
    · have hf := cx_t hf c4
      refine lv_aload_n hx hb dX1_unitToDemote_39 rfl (lv_at hl 0 rfl) ?_
      refine g_Cache_3 hC hP hx hb hts hown hK mw_68 dX1_unitToDemote_40 ?_
      refine lv_astore_n (lv' := [(2, .ref ((adRow ad 1) 0)), (0, .ref (ad 0)), (1, .int p0)]) hx hb dX1_unitToDemote_43 rfl hl (by decide) rfl (fun ls hl => ?_)
      refine lv_iconst (v := 0) hx hb dX1_unitToDemote_44 (by decide) ?_
      refine lv_istore_n (lv' := [(3, .int 0), (2, .ref ((adRow ad 1) 0)), (0, .ref (ad 0)), (1, .int p0)]) hx hb dX1_unitToDemote_45 rfl hl (by decide) rfl (fun ls hl => ?_)
      exact w_X1_unitToDemote_b46 C0 hC N σ 1 0 (by decide) _ _ _ hf hP hL (lv_sub hl [2, 1, 0] rfl)
    · have hf := cx_f hf c4
      refine lv_aload_n hx hb dX1_unitToDemote_32 rfl (lv_at hl 0 rfl) ?_
      refine g_Cache_2 hC hP hx hb hts hown hK mw_67 dX1_unitToDemote_33 ?_
      refine lv_goto (tgt := 43) hx hb dX1_unitToDemote_36 (by decide) ?_
      refine lv_astore_n (lv' := [(2, .ref ((adRow ad 0) 0)), (0, .ref (ad 0)), (1, .int p0)]) hx hb dX1_unitToDemote_43 rfl hl (by decide) rfl (fun ls hl => ?_)
      refine lv_iconst (v := 0) hx hb dX1_unitToDemote_44 (by decide) ?_
      refine lv_istore_n (lv' := [(3, .int 0), (2, .ref ((adRow ad 0) 0)), (0, .ref (ad 0)), (1, .int p0)]) hx hb dX1_unitToDemote_45 rfl hl (by decide) rfl (fun ls hl => ?_)
      exact w_X1_unitToDemote_b46 C0 hC N σ 0 0 (by decide) _ _ _ hf hP hL (lv_sub hl [2, 1, 0] rfl)
  · have hf := cx_f hf c1
    refine lv_iconst (v := (-1)) hx hb dX1_unitToDemote_22 (by decide) ?_
    cases hf
    exact cx_iret hx hb hr hlocks hP hL dX1_unitToDemote_23
abbrev rm_X1_demote : Room := { frames := 2, cells := 0, slots := 0, locals := 45 }
theorem hd_X1_demote : yX1_demote.cls = RX1 ∧ yX1_demote.cls ≠ "java/lang/invoke/MethodHandle" ∧ yX1_demote.cls ≠ "java/lang/invoke/VarHandle" ∧ (parseMethodDescriptor yX1_demote.desc).map (fun d => d.parameters.length) = some 1 := by decide +kernel
def f_X1_demote_b94 (N : Nat) (σ : CacS) (x1 : Int32) (y0 : Int32) (y1 : Int32) : Option (CacS) := (f_X0_makeGhostOf (σ 1) y1 y0).bind fun r1 => cx_let (va_up σ 1 r1) fun z3 => (f_X5_putFirst N (z3 5) x1).bind fun r4 => cx_let (va_up z3 5 r4) fun z6 => (f_X0_putUnitIn (z6 1) x1 2).bind fun r7 => cx_let (va_up z6 1 r7) fun z9 => cx_let (va_up z9 2 (oI (z9 2) 6 ((z9 2).2 6 + 1))) fun z10 => cx_let (va_up z10 2 (oI (z10 2) 9 x1)) fun z11 => some z11
set_option maxHeartbeats 4000000 in
set_option maxRecDepth 100000 in
theorem w_X1_demote_b94 {p : Program} {l : Launch} {e : Env} {s : State} {m : MethodId} {args : Array Value} {below : List Frame} {meth : Method} {c : Code} {G : va_G} {cA : Nat → ClassId} (C0 : cB p s m args meth c RX1 cX1_demote 4 none G cA) {lo : Nat} {ad : Nat → Nat} {P : CacS → Heap → Prop} (hC : cx G lo 25 ad (ceCache cA ad) P) {N : Nat} {res : CacS} : ∀ (σ : CacS) (x1 : Int32) (y0 : Int32) (y1 : Int32) (H : Heap) (locs : List Loc) (ls : Array Slot), f_X1_demote_b94 N σ x1 y0 y1 = some res → P σ H → (∀ q ∈ locs, lo ≤ q.base) → lv_has ls 4 [(0, .ref (ad 0)), (1, .int x1)] → W p l e rm_X1_demote s m args below meth c H locs 0 0 (MQ below (cQ none (P res)) args s 0 0 (fun q => lo ≤ q)) (F0 m 94 ls [.int y0, .int y1, .ref ((adBlk ad) 0)]) := by
  obtain ⟨⟨hx, hb, hml, hown, hts⟩, hr, hlocks, hK⟩ := id C0
  intro σ x1 y0 y1 H locs ls hf hP hL hl
  unfold f_X1_demote_b94 at hf
  obtain ⟨r1, q2, hf⟩ := cx_b hf
  refine cx_callV (As := [.int y1, .int y0]) (rest := []) ⟨hx, hb, hml, hown, hts⟩ (c_X0_makeGhostOf (cx_blk hC σ) q2) (cwV 2 hts (gV mw_491 mw_492 mw_493 mw_58 mw_494) rfl rfl rfl hd_X0_makeGhostOf ⟨Nat.le_of_ble_eq_true rfl, Nat.le_of_ble_eq_true rfl⟩) hK (cx_id 1 hP) rfl (at_Blocks (cx_blk hC σ) (cx_id 1 hP)) rfl hl.1 rfl (Nat.le_of_ble_eq_true rfl) dX1_demote_94 ⟨Nat.zero_le _, Nat.zero_le _⟩ hL (fun H locs hP hL => ?_)
  obtain ⟨z3, ez3, hf⟩ := cx_letE hf
  replace hP : P z3 H := by rw [← ez3]; exact hP
  refine lv_aload_n hx hb dX1_demote_97 rfl (lv_at hl 0 rfl) ?_
  refine g_Cache_4 hC hP hx hb hts hown hK mw_69 dX1_demote_98 ?_
  refine lv_iload_n hx hb dX1_demote_101 rfl (lv_at hl 1 rfl) ?_
  obtain ⟨r4, q5, hf⟩ := cx_b hf
  refine cx_callV (As := [.int x1]) (rest := []) ⟨hx, hb, hml, hown, hts⟩ (c_X5_putFirst (cx_row hC z3 2 5 (by decide) rfl) q5) (cwV 1 hts (gV mw_443 mw_444 mw_445 mw_66 mw_446) rfl rfl rfl hd_X5_putFirst ⟨Nat.le_of_ble_eq_true rfl, Nat.le_of_ble_eq_true rfl⟩) hK (cx_id 5 hP) rfl (at_Row (cx_row hC z3 2 5 (by decide) rfl) (cx_id 5 hP)) rfl hl.1 rfl (Nat.le_of_ble_eq_true rfl) dX1_demote_102 ⟨Nat.zero_le _, Nat.zero_le _⟩ hL (fun H locs hP hL => ?_)
  obtain ⟨z6, ez6, hf⟩ := cx_letE hf
  replace hP : P z6 H := by rw [← ez6]; exact hP
  refine lv_aload_n hx hb dX1_demote_105 rfl (lv_at hl 0 rfl) ?_
  refine g_Cache_0 hC hP hx hb hts hown hK mw_59 dX1_demote_106 ?_
  refine lv_iload_n hx hb dX1_demote_109 rfl (lv_at hl 1 rfl) ?_
  refine lv_iconst (v := 2) hx hb dX1_demote_110 (by decide) ?_
  obtain ⟨r7, q8, hf⟩ := cx_b hf
  refine cx_callV (As := [.int x1, .int 2]) (rest := []) ⟨hx, hb, hml, hown, hts⟩ (c_X0_putUnitIn (cx_blk hC z6) q8) (cwV 2 hts (gV mw_447 mw_448 mw_449 mw_58 mw_450) rfl rfl rfl hd_X0_putUnitIn ⟨Nat.le_of_ble_eq_true rfl, Nat.le_of_ble_eq_true rfl⟩) hK (cx_id 1 hP) rfl (at_Blocks (cx_blk hC z6) (cx_id 1 hP)) rfl hl.1 rfl (Nat.le_of_ble_eq_true rfl) dX1_demote_111 ⟨Nat.zero_le _, Nat.zero_le _⟩ hL (fun H locs hP hL => ?_)
  obtain ⟨z9, ez9, hf⟩ := cx_letE hf
  replace hP : P z9 H := by rw [← ez9]; exact hP
  refine lv_aload_n hx hb dX1_demote_114 rfl (lv_at hl 0 rfl) ?_
  refine g_Cache_1 hC hP hx hb hts hown hK mw_63 dX1_demote_115 ?_
  refine lv_dup hx hb dX1_demote_118 rfl ?_
  refine g_Tally_6 (cx_tal hC z9) (cx_id 2 hP) hx hb hts hown hK mw_511 dX1_demote_119 ?_
  refine lv_iconst (v := 1) hx hb dX1_demote_122 (by decide) ?_
  refine lv_iadd hx hb dX1_demote_123 ?_
  obtain ⟨z10, ez10, hf⟩ := cx_letE hf
  refine p_Tally_6 (cx_tal hC z9) (cx_id 2 hP) hx hb hts hown hK mw_511 dX1_demote_124 hL (fun H locs hP hL => ?_)
  replace hP : P z10 H := by rw [← ez10]; exact hP
  refine lv_aload_n hx hb dX1_demote_127 rfl (lv_at hl 0 rfl) ?_
  refine g_Cache_1 hC hP hx hb hts hown hK mw_63 dX1_demote_128 ?_
  refine lv_iload_n hx hb dX1_demote_131 rfl (lv_at hl 1 rfl) ?_
  obtain ⟨z11, ez11, hf⟩ := cx_letE hf
  refine p_Tally_9 (cx_tal hC z10) (cx_id 2 hP) hx hb hts hown hK mw_512 dX1_demote_132 hL (fun H locs hP hL => ?_)
  replace hP : P z11 H := by rw [← ez11]; exact hP
  cases hf
  exact cx_vret hx hb hr hlocks hP hL dX1_demote_135
def f_X1_demote_b75 (N : Nat) (σ : CacS) (x1 : Int32) (x2 : Int32) (x3 : Nat) : Option (CacS) := (f_X5_putFirst N (σ (3 + x3)) x1).bind fun r1 => cx_let (va_up σ (3 + x3) r1) fun z3 => if x2 = 0 then f_X1_demote_b94 N z3 x1 4 x1 else f_X1_demote_b94 N z3 x1 3 x1
set_option maxHeartbeats 4000000 in
set_option maxRecDepth 100000 in
theorem w_X1_demote_b75 {p : Program} {l : Launch} {e : Env} {s : State} {m : MethodId} {args : Array Value} {below : List Frame} {meth : Method} {c : Code} {G : va_G} {cA : Nat → ClassId} (C0 : cB p s m args meth c RX1 cX1_demote 4 none G cA) {lo : Nat} {ad : Nat → Nat} {P : CacS → Heap → Prop} (hC : cx G lo 25 ad (ceCache cA ad) P) {N : Nat} {res : CacS} : ∀ (σ : CacS) (x1 : Int32) (x2 : Int32) (x3 : Nat) (hx3 : x3 < 5) (H : Heap) (locs : List Loc) (ls : Array Slot), f_X1_demote_b75 N σ x1 x2 x3 = some res → P σ H → (∀ q ∈ locs, lo ≤ q.base) → lv_has ls 4 [(0, .ref (ad 0)), (1, .int x1), (2, .int x2), (3, .ref ((adRow ad x3) 0))] → W p l e rm_X1_demote s m args below meth c H locs 0 0 (MQ below (cQ none (P res)) args s 0 0 (fun q => lo ≤ q)) (F0 m 75 ls []) := by
  obtain ⟨⟨hx, hb, hml, hown, hts⟩, hr, hlocks, hK⟩ := id C0
  intro σ x1 x2 x3 hx3 H locs ls hf hP hL hl
  unfold f_X1_demote_b75 at hf
  refine lv_aload_n hx hb dX1_demote_75 rfl (lv_at hl 3 rfl) ?_
  refine lv_iload_n hx hb dX1_demote_76 rfl (lv_at hl 1 rfl) ?_
  obtain ⟨r1, q2, hf⟩ := cx_b hf
  refine cx_callV (As := [.int x1]) (rest := []) ⟨hx, hb, hml, hown, hts⟩ (c_X5_putFirst (cx_row hC σ x3 (3 + x3) hx3 rfl) q2) (cwV 1 hts (gV mw_443 mw_444 mw_445 mw_66 mw_446) rfl rfl rfl hd_X5_putFirst ⟨Nat.le_of_ble_eq_true rfl, Nat.le_of_ble_eq_true rfl⟩) hK (cx_id (3 + x3) hP) rfl (at_Row (cx_row hC σ x3 (3 + x3) hx3 rfl) (cx_id (3 + x3) hP)) rfl hl.1 rfl (Nat.le_of_ble_eq_true rfl) dX1_demote_77 ⟨Nat.zero_le _, Nat.zero_le _⟩ hL (fun H locs hP hL => ?_)
  obtain ⟨z3, ez3, hf⟩ := cx_letE hf
  replace hP : P z3 H := by rw [← ez3]; exact hP
  refine lv_aload_n hx hb dX1_demote_80 rfl (lv_at hl 0 rfl) ?_
  refine g_Cache_0 hC hP hx hb hts hown hK mw_59 dX1_demote_81 ?_
  refine lv_iload_n hx hb dX1_demote_84 rfl (lv_at hl 1 rfl) ?_
  refine lv_iload_n hx hb dX1_demote_85 rfl (lv_at hl 2 rfl) ?_
  refine lv_if_eq (tgt := 93) hx hb dX1_demote_86 (by decide) (fun c4 => ?_) (fun c4 => ?_)
  · have hf := cx_t hf c4
    refine lv_iconst (v := 4) hx hb dX1_demote_93 (by decide) ?_
    exact w_X1_demote_b94 C0 hC z3 x1 4 x1 _ _ _ hf hP hL (lv_sub hl [0, 1] rfl)
  · have hf := cx_f hf c4
    refine lv_iconst (v := 3) hx hb dX1_demote_89 (by decide) ?_
    refine lv_goto (tgt := 94) hx hb dX1_demote_90 (by decide) ?_
    exact w_X1_demote_b94 C0 hC z3 x1 3 x1 _ _ _ hf hP hL (lv_sub hl [0, 1] rfl)
def f_X1_demote_b43 (N : Nat) (σ : CacS) (x1 : Int32) (x2 : Int32) (x3 : Nat) (y0 : Int32) : Option (CacS) := (f_X1_rowOf σ y0).bind fun r1 => (f_X5_takeOut N (σ (3 + r1)) x1).bind fun r3 => cx_let (va_up σ (3 + r1) r3) fun z5 => if (z5 (3 + x3)).2 1 < (z5 0).2 12 then f_X1_demote_b75 N z5 x1 x2 x3 else (f_X5_blockAt (z5 (3 + x3)) ((z5 (3 + x3)).2 1 - 1)).bind fun r7 => (f_X1_loseGhost N z5 r7).bind fun r9 => f_X1_demote_b75 N r9 x1 x2 x3
set_option maxHeartbeats 4000000 in
set_option maxRecDepth 100000 in
theorem w_X1_demote_b43 {p : Program} {l : Launch} {e : Env} {s : State} {m : MethodId} {args : Array Value} {below : List Frame} {meth : Method} {c : Code} {G : va_G} {cA : Nat → ClassId} (C0 : cB p s m args meth c RX1 cX1_demote 4 none G cA) {lo : Nat} {ad : Nat → Nat} {P : CacS → Heap → Prop} (hC : cx G lo 25 ad (ceCache cA ad) P) {N : Nat} {res : CacS} : ∀ (σ : CacS) (x1 : Int32) (x2 : Int32) (x3 : Nat) (y0 : Int32) (hx3 : x3 < 5) (H : Heap) (locs : List Loc) (ls : Array Slot), f_X1_demote_b43 N σ x1 x2 x3 y0 = some res → P σ H → (∀ q ∈ locs, lo ≤ q.base) → lv_has ls 4 [(0, .ref (ad 0)), (1, .int x1), (2, .int x2), (3, .ref ((adRow ad x3) 0))] → W p l e rm_X1_demote s m args below meth c H locs 0 0 (MQ below (cQ none (P res)) args s 0 0 (fun q => lo ≤ q)) (F0 m 43 ls [.int y0, .ref (ad 0)]) := by
  obtain ⟨⟨hx, hb, hml, hown, hts⟩, hr, hlocks, hK⟩ := id C0
  intro σ x1 x2 x3 y0 hx3 H locs ls hf hP hL hl
  unfold f_X1_demote_b43 at hf
  obtain ⟨r1, q2, hf⟩ := cx_b hf
  refine cx_callV (As := [.int y0]) (rest := []) ⟨hx, hb, hml, hown, hts⟩ (c_X1_rowOf hC q2) (cwV 1 hts (gV mw_289 mw_290 mw_291 mw_29 mw_292) rfl rfl rfl hd_X1_rowOf ⟨Nat.le_of_ble_eq_true rfl, Nat.le_of_ble_eq_true rfl⟩) hK hP rfl (at_Cache hC hP) rfl hl.1 rfl (Nat.le_of_ble_eq_true rfl) dX1_demote_43 ⟨Nat.zero_le _, Nat.zero_le _⟩ hL (fun H locs hP hL => ?_)
  replace hP : P σ H := by first | exact hP | (simpa only [va_up_id] using hP)
  have hr1 := f_X1_rowOf_lt q2
  refine lv_iload_n hx hb dX1_demote_46 rfl (lv_at hl 1 rfl) ?_
  obtain ⟨r3, q4, hf⟩ := cx_b hf
  refine cx_callV (As := [.int x1]) (rest := []) ⟨hx, hb, hml, hown, hts⟩ (c_X5_takeOut (cx_row hC σ r1 (3 + r1) hr1 rfl) q4) (cwV 1 hts (gV mw_439 mw_440 mw_441 mw_66 mw_442) rfl rfl rfl hd_X5_takeOut ⟨Nat.le_of_ble_eq_true rfl, Nat.le_of_ble_eq_true rfl⟩) hK (cx_id (3 + r1) hP) rfl (at_Row (cx_row hC σ r1 (3 + r1) hr1 rfl) (cx_id (3 + r1) hP)) rfl hl.1 rfl (Nat.le_of_ble_eq_true rfl) dX1_demote_47 ⟨Nat.zero_le _, Nat.zero_le _⟩ hL (fun H locs hP hL => ?_)
  obtain ⟨z5, ez5, hf⟩ := cx_letE hf
  replace hP : P z5 H := by rw [← ez5]; exact hP
  refine lv_aload_n hx hb dX1_demote_50 rfl (lv_at hl 3 rfl) ?_
  refine g_Row_1 (cx_row hC z5 x3 (3 + x3) hx3 rfl) (cx_id (3 + x3) hP) hx hb hts hown hK mw_239 dX1_demote_51 ?_
  refine lv_aload_n hx hb dX1_demote_54 rfl (lv_at hl 0 rfl) ?_
  refine g_Cache_12 hC hP hx hb hts hown hK mw_79 dX1_demote_55 ?_
  refine lv_icmp_lt (tgt := 75) hx hb dX1_demote_58 (by decide) (fun c6 => ?_) (fun c6 => ?_)
  · have hf := cx_t hf c6
    exact w_X1_demote_b75 C0 hC z5 x1 x2 x3 hx3 _ _ _ hf hP hL (lv_sub hl [0, 1, 2, 3] rfl)
  · have hf := cx_f hf c6
    refine lv_aload_n hx hb dX1_demote_61 rfl (lv_at hl 0 rfl) ?_
    refine lv_aload_n hx hb dX1_demote_62 rfl (lv_at hl 3 rfl) ?_
    refine lv_aload_n hx hb dX1_demote_63 rfl (lv_at hl 3 rfl) ?_
    refine g_Row_1 (cx_row hC z5 x3 (3 + x3) hx3 rfl) (cx_id (3 + x3) hP) hx hb hts hown hK mw_239 dX1_demote_64 ?_
    refine lv_iconst (v := 1) hx hb dX1_demote_67 (by decide) ?_
    refine lv_isub hx hb dX1_demote_68 ?_
    obtain ⟨r7, q8, hf⟩ := cx_b hf
    refine cx_callV (As := [.int ((z5 (3 + x3)).2 1 - 1)]) (rest := [.ref (ad 0)]) ⟨hx, hb, hml, hown, hts⟩ (c_X5_blockAt (cx_row hC z5 x3 (3 + x3) hx3 rfl) q8) (cwV 1 hts (gV mw_330 mw_202 mw_203 mw_66 mw_204) rfl rfl rfl hd_X5_blockAt ⟨Nat.le_of_ble_eq_true rfl, Nat.le_of_ble_eq_true rfl⟩) hK (cx_id (3 + x3) hP) rfl (at_Row (cx_row hC z5 x3 (3 + x3) hx3 rfl) (cx_id (3 + x3) hP)) rfl hl.1 rfl (Nat.le_of_ble_eq_true rfl) dX1_demote_69 ⟨Nat.zero_le _, Nat.zero_le _⟩ hL (fun H locs hP hL => ?_)
    replace hP : P z5 H := by first | exact hP | (simpa only [va_up_id] using hP)
    obtain ⟨r9, q10, hf⟩ := cx_b hf
    refine cx_callV (As := [.int r7]) (rest := []) ⟨hx, hb, hml, hown, hts⟩ (c_X1_loseGhost hC q10) (cwV 1 hts (gV mw_487 mw_488 mw_489 mw_29 mw_490) rfl rfl rfl hd_X1_loseGhost ⟨Nat.le_of_ble_eq_true rfl, Nat.le_of_ble_eq_true rfl⟩) hK hP rfl (at_Cache hC hP) rfl hl.1 rfl (Nat.le_of_ble_eq_true rfl) dX1_demote_72 ⟨Nat.zero_le _, Nat.zero_le _⟩ hL (fun H locs hP hL => ?_)
    replace hP : P r9 H := by first | exact hP | (simpa only [va_up_id] using hP)
    exact w_X1_demote_b75 C0 hC r9 x1 x2 x3 hx3 _ _ _ hf hP hL (lv_sub hl [0, 1, 2, 3] rfl)
def f_X1_demote_b16 (N : Nat) (σ : CacS) (x1 : Int32) (y0 : Int32) : Option (CacS) := if y0 = 0 then if y0 = 0 then f_X1_demote_b43 N σ x1 y0 4 1 else f_X1_demote_b43 N σ x1 y0 4 0 else if y0 = 0 then f_X1_demote_b43 N σ x1 y0 3 1 else f_X1_demote_b43 N σ x1 y0 3 0
set_option maxHeartbeats 4000000 in
set_option maxRecDepth 100000 in
theorem w_X1_demote_b16 {p : Program} {l : Launch} {e : Env} {s : State} {m : MethodId} {args : Array Value} {below : List Frame} {meth : Method} {c : Code} {G : va_G} {cA : Nat → ClassId} (C0 : cB p s m args meth c RX1 cX1_demote 4 none G cA) {lo : Nat} {ad : Nat → Nat} {P : CacS → Heap → Prop} (hC : cx G lo 25 ad (ceCache cA ad) P) {N : Nat} {res : CacS} : ∀ (σ : CacS) (x1 : Int32) (y0 : Int32) (H : Heap) (locs : List Loc) (ls : Array Slot), f_X1_demote_b16 N σ x1 y0 = some res → P σ H → (∀ q ∈ locs, lo ≤ q.base) → lv_has ls 4 [(0, .ref (ad 0)), (1, .int x1)] → W p l e rm_X1_demote s m args below meth c H locs 0 0 (MQ below (cQ none (P res)) args s 0 0 (fun q => lo ≤ q)) (F0 m 16 ls [.int y0]) := by
  obtain ⟨⟨hx, hb, hml, hown, hts⟩, hr, hlocks, hK⟩ := id C0
  intro σ x1 y0 H locs ls hf hP hL hl
  unfold f_X1_demote_b16 at hf
  refine lv_istore_n (lv' := [(2, .int y0), (0, .ref (ad 0)), (1, .int x1)]) hx hb dX1_demote_16 rfl hl (by decide) rfl (fun ls hl => ?_)
  refine lv_iload_n hx hb dX1_demote_17 rfl (lv_at hl 0 rfl) ?_
  refine lv_if_eq (tgt := 28) hx hb dX1_demote_18 (by decide) (fun c1 => ?_) (fun c1 => ?_)
  · have hf := cx_t hf c1
    refine lv_aload_n hx hb dX1_demote_28 rfl (lv_at hl 1 rfl) ?_
    refine g_Cache_6 hC hP hx hb hts hown hK mw_71 dX1_demote_29 ?_
    refine lv_astore_n (lv' := [(3, .ref ((adRow ad 4) 0)), (2, .int y0), (0, .ref (ad 0)), (1, .int x1)]) hx hb dX1_demote_32 rfl hl (by decide) rfl (fun ls hl => ?_)
    refine lv_aload_n hx hb dX1_demote_33 rfl (lv_at hl 2 rfl) ?_
    refine lv_iload_n hx hb dX1_demote_34 rfl (lv_at hl 1 rfl) ?_
    refine lv_if_eq (tgt := 42) hx hb dX1_demote_35 (by decide) (fun c2 => ?_) (fun c2 => ?_)
    · have hf := cx_t hf c2
      refine lv_iconst (v := 1) hx hb dX1_demote_42 (by decide) ?_
      exact w_X1_demote_b43 C0 hC σ x1 y0 4 1 (by decide) _ _ _ hf hP hL (lv_sub hl [2, 3, 1, 0] rfl)
    · have hf := cx_f hf c2
      refine lv_iconst (v := 0) hx hb dX1_demote_38 (by decide) ?_
      refine lv_goto (tgt := 43) hx hb dX1_demote_39 (by decide) ?_
      exact w_X1_demote_b43 C0 hC σ x1 y0 4 0 (by decide) _ _ _ hf hP hL (lv_sub hl [2, 3, 1, 0] rfl)
  · have hf := cx_f hf c1
    refine lv_aload_n hx hb dX1_demote_21 rfl (lv_at hl 1 rfl) ?_
    refine g_Cache_5 hC hP hx hb hts hown hK mw_70 dX1_demote_22 ?_
    refine lv_goto (tgt := 32) hx hb dX1_demote_25 (by decide) ?_
    refine lv_astore_n (lv' := [(3, .ref ((adRow ad 3) 0)), (2, .int y0), (0, .ref (ad 0)), (1, .int x1)]) hx hb dX1_demote_32 rfl hl (by decide) rfl (fun ls hl => ?_)
    refine lv_aload_n hx hb dX1_demote_33 rfl (lv_at hl 2 rfl) ?_
    refine lv_iload_n hx hb dX1_demote_34 rfl (lv_at hl 1 rfl) ?_
    refine lv_if_eq (tgt := 42) hx hb dX1_demote_35 (by decide) (fun c3 => ?_) (fun c3 => ?_)
    · have hf := cx_t hf c3
      refine lv_iconst (v := 1) hx hb dX1_demote_42 (by decide) ?_
      exact w_X1_demote_b43 C0 hC σ x1 y0 3 1 (by decide) _ _ _ hf hP hL (lv_sub hl [2, 3, 1, 0] rfl)
    · have hf := cx_f hf c3
      refine lv_iconst (v := 0) hx hb dX1_demote_38 (by decide) ?_
      refine lv_goto (tgt := 43) hx hb dX1_demote_39 (by decide) ?_
      exact w_X1_demote_b43 C0 hC σ x1 y0 3 0 (by decide) _ _ _ hf hP hL (lv_sub hl [2, 3, 1, 0] rfl)
def f_X1_demote (N : Nat) (σ : CacS) (p0 : Int32) : Option (CacS) := (f_X0_listOf (σ 1) p0).bind fun r1 => if r1 = 0 then f_X1_demote_b16 N σ p0 1 else f_X1_demote_b16 N σ p0 0
set_option maxHeartbeats 4000000 in
set_option maxRecDepth 100000 in
theorem c_X1_demote {l : Launch} {G : va_G} {cA : Nat → ClassId} {lo : Nat} {ad : Nat → Nat} {P : CacS → Heap → Prop} (hC : cx G lo 25 ad (ceCache cA ad) P) {N : Nat} {σ : CacS} {p0 : Int32} {res : CacS} (hf : f_X1_demote N σ p0 = some res) : Met l yX1_demote (cW yX1_demote cX1_demote 4 none) rm_X1_demote (cP [.ref (ad 0), .int p0] (P σ) G cA) (cQ none (P res)) 0 0 (fun q => lo ≤ q) := by
  refine cx_met (by decide) (Nat.le_of_ble_eq_true rfl) (fun p e s m args below meth c ls C0 hP hl => ?_)
  have hl : lv_has ls 4 [(0, .ref (ad 0)), (1, .int p0)] := hl
  obtain ⟨⟨hx, hb, hml, hown, hts⟩, hr, hlocks, hK⟩ := id C0
  have hL : ∀ q ∈ ([] : List Loc), lo ≤ q.base := fun q h => nomatch h
  unfold f_X1_demote at hf
  refine lv_aload_n hx hb dX1_demote_0 rfl (lv_at hl 0 rfl) ?_
  refine g_Cache_0 hC hP hx hb hts hown hK mw_59 dX1_demote_1 ?_
  refine lv_iload_n hx hb dX1_demote_4 rfl (lv_at hl 1 rfl) ?_
  obtain ⟨r1, q2, hf⟩ := cx_b hf
  refine cx_callV (As := [.int p0]) (rest := []) ⟨hx, hb, hml, hown, hts⟩ (c_X0_listOf (cx_blk hC σ) q2) (cwV 1 hts (gV mw_364 mw_365 mw_366 mw_58 mw_367) rfl rfl rfl hd_X0_listOf ⟨Nat.le_of_ble_eq_true rfl, Nat.le_of_ble_eq_true rfl⟩) hK (cx_id 1 hP) rfl (at_Blocks (cx_blk hC σ) (cx_id 1 hP)) rfl hl.1 rfl (Nat.le_of_ble_eq_true rfl) dX1_demote_5 ⟨Nat.zero_le _, Nat.zero_le _⟩ hL (fun H locs hP hL => ?_)
  replace hP : P σ H := by first | exact hP | (simpa only [va_up_id] using hP)
  refine lv_if_ne (tgt := 15) hx hb dX1_demote_8 (by decide) (fun c3 => ?_) (fun c3 => ?_)
  · have hf := cx_f hf c3
    refine lv_iconst (v := 0) hx hb dX1_demote_15 (by decide) ?_
    exact w_X1_demote_b16 C0 hC σ p0 0 _ _ _ hf hP hL (lv_sub hl [0, 1] rfl)
  · have hf := cx_t hf c3
    refine lv_iconst (v := 1) hx hb dX1_demote_11 (by decide) ?_
    refine lv_goto (tgt := 16) hx hb dX1_demote_12 (by decide) ?_
    exact w_X1_demote_b16 C0 hC σ p0 1 _ _ _ hf hP hL (lv_sub hl [0, 1] rfl)
abbrev rm_X1_bringToUpper : Room := { frames := 3, cells := 0, slots := 0, locals := 71 }
theorem hd_X1_bringToUpper : yX1_bringToUpper.cls = RX1 ∧ yX1_bringToUpper.cls ≠ "java/lang/invoke/MethodHandle" ∧ yX1_bringToUpper.cls ≠ "java/lang/invoke/VarHandle" ∧ (parseMethodDescriptor yX1_bringToUpper.desc).map (fun d => d.parameters.length) = some 1 := by decide +kernel
def f_X1_bringToUpper_b89 (N : Nat) (σ : CacS) (x1 : Int32) (y0 : Int32) : Option (CacS) := (f_X1_rowOf σ y0).bind fun r1 => (f_X5_putFirst N (σ (3 + r1)) x1).bind fun r3 => cx_let (va_up σ (3 + r1) r3) fun z5 => (f_X0_putUnitIn (z5 1) x1 y0).bind fun r6 => cx_let (va_up z5 1 r6) fun z8 => some z8
set_option maxHeartbeats 4000000 in
set_option maxRecDepth 100000 in
theorem w_X1_bringToUpper_b89 {p : Program} {l : Launch} {e : Env} {s : State} {m : MethodId} {args : Array Value} {below : List Frame} {meth : Method} {c : Code} {G : va_G} {cA : Nat → ClassId} (C0 : cB p s m args meth c RX1 cX1_bringToUpper 5 none G cA) {lo : Nat} {ad : Nat → Nat} {P : CacS → Heap → Prop} (hC : cx G lo 25 ad (ceCache cA ad) P) {N : Nat} {res : CacS} : ∀ (σ : CacS) (x1 : Int32) (y0 : Int32) (H : Heap) (locs : List Loc) (ls : Array Slot), f_X1_bringToUpper_b89 N σ x1 y0 = some res → P σ H → (∀ q ∈ locs, lo ≤ q.base) → lv_has ls 5 [(0, .ref (ad 0)), (1, .int x1)] → W p l e rm_X1_bringToUpper s m args below meth c H locs 0 0 (MQ below (cQ none (P res)) args s 0 0 (fun q => lo ≤ q)) (F0 m 89 ls [.int y0]) := by
  obtain ⟨⟨hx, hb, hml, hown, hts⟩, hr, hlocks, hK⟩ := id C0
  intro σ x1 y0 H locs ls hf hP hL hl
  unfold f_X1_bringToUpper_b89 at hf
  refine lv_istore (lv' := [(4, .int y0), (0, .ref (ad 0)), (1, .int x1)]) hx hb dX1_bringToUpper_89 hl (by decide) rfl (fun ls hl => ?_)
  refine lv_aload_n hx hb dX1_bringToUpper_91 rfl (lv_at hl 1 rfl) ?_
  refine lv_iload hx hb dX1_bringToUpper_92 (lv_at hl 0 rfl) ?_
  obtain ⟨r1, q2, hf⟩ := cx_b hf
  refine cx_callV (As := [.int y0]) (rest := []) ⟨hx, hb, hml, hown, hts⟩ (c_X1_rowOf hC q2) (cwV 1 hts (gV mw_289 mw_290 mw_291 mw_29 mw_292) rfl rfl rfl hd_X1_rowOf ⟨Nat.le_of_ble_eq_true rfl, Nat.le_of_ble_eq_true rfl⟩) hK hP rfl (at_Cache hC hP) rfl hl.1 rfl (Nat.le_of_ble_eq_true rfl) dX1_bringToUpper_94 ⟨Nat.zero_le _, Nat.zero_le _⟩ hL (fun H locs hP hL => ?_)
  replace hP : P σ H := by first | exact hP | (simpa only [va_up_id] using hP)
  have hr1 := f_X1_rowOf_lt q2
  refine lv_iload_n hx hb dX1_bringToUpper_97 rfl (lv_at hl 2 rfl) ?_
  obtain ⟨r3, q4, hf⟩ := cx_b hf
  refine cx_callV (As := [.int x1]) (rest := []) ⟨hx, hb, hml, hown, hts⟩ (c_X5_putFirst (cx_row hC σ r1 (3 + r1) hr1 rfl) q4) (cwV 1 hts (gV mw_443 mw_444 mw_445 mw_66 mw_446) rfl rfl rfl hd_X5_putFirst ⟨Nat.le_of_ble_eq_true rfl, Nat.le_of_ble_eq_true rfl⟩) hK (cx_id (3 + r1) hP) rfl (at_Row (cx_row hC σ r1 (3 + r1) hr1 rfl) (cx_id (3 + r1) hP)) rfl hl.1 rfl (Nat.le_of_ble_eq_true rfl) dX1_bringToUpper_98 ⟨Nat.zero_le _, Nat.zero_le _⟩ hL (fun H locs hP hL => ?_)
  obtain ⟨z5, ez5, hf⟩ := cx_letE hf
  replace hP : P z5 H := by rw [← ez5]; exact hP
  refine lv_aload_n hx hb dX1_bringToUpper_101 rfl (lv_at hl 1 rfl) ?_
  refine g_Cache_0 hC hP hx hb hts hown hK mw_59 dX1_bringToUpper_102 ?_
  refine lv_iload_n hx hb dX1_bringToUpper_105 rfl (lv_at hl 2 rfl) ?_
  refine lv_iload hx hb dX1_bringToUpper_106 (lv_at hl 0 rfl) ?_
  obtain ⟨r6, q7, hf⟩ := cx_b hf
  refine cx_callV (As := [.int x1, .int y0]) (rest := []) ⟨hx, hb, hml, hown, hts⟩ (c_X0_putUnitIn (cx_blk hC z5) q7) (cwV 2 hts (gV mw_447 mw_448 mw_449 mw_58 mw_450) rfl rfl rfl hd_X0_putUnitIn ⟨Nat.le_of_ble_eq_true rfl, Nat.le_of_ble_eq_true rfl⟩) hK (cx_id 1 hP) rfl (at_Blocks (cx_blk hC z5) (cx_id 1 hP)) rfl hl.1 rfl (Nat.le_of_ble_eq_true rfl) dX1_bringToUpper_108 ⟨Nat.zero_le _, Nat.zero_le _⟩ hL (fun H locs hP hL => ?_)
  obtain ⟨z8, ez8, hf⟩ := cx_letE hf
  replace hP : P z8 H := by rw [← ez8]; exact hP
  cases hf
  exact cx_vret hx hb hr hlocks hP hL dX1_bringToUpper_111
def f_X1_bringToUpper_b61 (N : Nat) (σ : CacS) (x1 : Int32) (x2 : Int32) (y0 : Int32) : Option (CacS) := (f_X1_unitToDemote N σ y0).bind fun r1 => if r1.1 = (-1) then if x2 = (-1) then f_X1_bringToUpper_b89 N r1.2 x1 0 else f_X1_bringToUpper_b89 N r1.2 x1 1 else (f_X1_makeRoomInLower N r1.2).bind fun r5 => (f_X1_demote N r5 r1.1).bind fun r7 => if x2 = (-1) then f_X1_bringToUpper_b89 N r7 x1 0 else f_X1_bringToUpper_b89 N r7 x1 1
set_option maxHeartbeats 4000000 in
set_option maxRecDepth 100000 in
theorem w_X1_bringToUpper_b61 {p : Program} {l : Launch} {e : Env} {s : State} {m : MethodId} {args : Array Value} {below : List Frame} {meth : Method} {c : Code} {G : va_G} {cA : Nat → ClassId} (C0 : cB p s m args meth c RX1 cX1_bringToUpper 5 none G cA) {lo : Nat} {ad : Nat → Nat} {P : CacS → Heap → Prop} (hC : cx G lo 25 ad (ceCache cA ad) P) {N : Nat} {res : CacS} : ∀ (σ : CacS) (x1 : Int32) (x2 : Int32) (y0 : Int32) (H : Heap) (locs : List Loc) (ls : Array Slot), f_X1_bringToUpper_b61 N σ x1 x2 y0 = some res → P σ H → (∀ q ∈ locs, lo ≤ q.base) → lv_has ls 5 [(0, .ref (ad 0)), (1, .int x1), (2, .int x2)] → W p l e rm_X1_bringToUpper s m args below meth c H locs 0 0 (MQ below (cQ none (P res)) args s 0 0 (fun q => lo ≤ q)) (F0 m 61 ls [.int y0, .ref (ad 0)]) := by
  obtain ⟨⟨hx, hb, hml, hown, hts⟩, hr, hlocks, hK⟩ := id C0
  intro σ x1 x2 y0 H locs ls hf hP hL hl
  unfold f_X1_bringToUpper_b61 at hf
  obtain ⟨r1, q2, hf⟩ := cx_b hf
  refine cx_callV (As := [.int y0]) (rest := []) ⟨hx, hb, hml, hown, hts⟩ (c_X1_unitToDemote hC q2) (cwV 1 hts (gV mw_495 mw_496 mw_497 mw_29 mw_498) rfl rfl rfl hd_X1_unitToDemote ⟨Nat.le_of_ble_eq_true rfl, Nat.le_of_ble_eq_true rfl⟩) hK hP rfl (at_Cache hC hP) rfl hl.1 rfl (Nat.le_of_ble_eq_true rfl) dX1_bringToUpper_61 ⟨Nat.zero_le _, Nat.zero_le _⟩ hL (fun H locs hP hL => ?_)
  replace hP : P r1.2 H := by first | exact hP | (simpa only [va_up_id] using hP)
  refine lv_istore_n (lv' := [(3, .int r1.1), (0, .ref (ad 0)), (1, .int x1), (2, .int x2)]) hx hb dX1_bringToUpper_64 rfl hl (by decide) rfl (fun ls hl => ?_)
  refine lv_iload_n hx hb dX1_bringToUpper_65 rfl (lv_at hl 0 rfl) ?_
  refine lv_iconst (v := (-1)) hx hb dX1_bringToUpper_66 (by decide) ?_
  refine lv_icmp_eq (tgt := 79) hx hb dX1_bringToUpper_67 (by decide) (fun c3 => ?_) (fun c3 => ?_)
  · have hf := cx_t hf c3
    refine lv_iload_n hx hb dX1_bringToUpper_79 rfl (lv_at hl 3 rfl) ?_
    refine lv_iconst (v := (-1)) hx hb dX1_bringToUpper_80 (by decide) ?_
    refine lv_icmp_ne (tgt := 88) hx hb dX1_bringToUpper_81 (by decide) (fun c4 => ?_) (fun c4 => ?_)
    · have hf := cx_f hf c4
      refine lv_iconst (v := 1) hx hb dX1_bringToUpper_88 (by decide) ?_
      exact w_X1_bringToUpper_b89 C0 hC r1.2 x1 1 _ _ _ hf hP hL (lv_sub hl [1, 2] rfl)
    · have hf := cx_t hf c4
      refine lv_iconst (v := 0) hx hb dX1_bringToUpper_84 (by decide) ?_
      refine lv_goto (tgt := 89) hx hb dX1_bringToUpper_85 (by decide) ?_
      exact w_X1_bringToUpper_b89 C0 hC r1.2 x1 0 _ _ _ hf hP hL (lv_sub hl [1, 2] rfl)
  · have hf := cx_f hf c3
    refine lv_aload_n hx hb dX1_bringToUpper_70 rfl (lv_at hl 1 rfl) ?_
    obtain ⟨r5, q6, hf⟩ := cx_b hf
    refine cx_callV (As := []) (rest := []) ⟨hx, hb, hml, hown, hts⟩ (c_X1_makeRoomInLower hC q6) (cwV 0 hts (gV mw_455 mw_456 mw_457 mw_29 mw_458) rfl rfl rfl hd_X1_makeRoomInLower ⟨Nat.le_of_ble_eq_true rfl, Nat.le_of_ble_eq_true rfl⟩) hK hP rfl (at_Cache hC hP) rfl hl.1 rfl (Nat.le_of_ble_eq_true rfl) dX1_bringToUpper_71 ⟨Nat.zero_le _, Nat.zero_le _⟩ hL (fun H locs hP hL => ?_)
    replace hP : P r5 H := by first | exact hP | (simpa only [va_up_id] using hP)
    refine lv_aload_n hx hb dX1_bringToUpper_74 rfl (lv_at hl 1 rfl) ?_
    refine lv_iload_n hx hb dX1_bringToUpper_75 rfl (lv_at hl 0 rfl) ?_
    obtain ⟨r7, q8, hf⟩ := cx_b hf
    refine cx_callV (As := [.int r1.1]) (rest := []) ⟨hx, hb, hml, hown, hts⟩ (c_X1_demote hC q8) (cwV 1 hts (gV mw_507 mw_508 mw_509 mw_29 mw_510) rfl rfl rfl hd_X1_demote ⟨Nat.le_of_ble_eq_true rfl, Nat.le_of_ble_eq_true rfl⟩) hK hP rfl (at_Cache hC hP) rfl hl.1 rfl (Nat.le_of_ble_eq_true rfl) dX1_bringToUpper_76 ⟨Nat.zero_le _, Nat.zero_le _⟩ hL (fun H locs hP hL => ?_)
    replace hP : P r7 H := by first | exact hP | (simpa only [va_up_id] using hP)
    refine lv_iload_n hx hb dX1_bringToUpper_79 rfl (lv_at hl 3 rfl) ?_
    refine lv_iconst (v := (-1)) hx hb dX1_bringToUpper_80 (by decide) ?_
    refine lv_icmp_ne (tgt := 88) hx hb dX1_bringToUpper_81 (by decide) (fun c9 => ?_) (fun c9 => ?_)
    · have hf := cx_f hf c9
      refine lv_iconst (v := 1) hx hb dX1_bringToUpper_88 (by decide) ?_
      exact w_X1_bringToUpper_b89 C0 hC r7 x1 1 _ _ _ hf hP hL (lv_sub hl [1, 2] rfl)
    · have hf := cx_t hf c9
      refine lv_iconst (v := 0) hx hb dX1_bringToUpper_84 (by decide) ?_
      refine lv_goto (tgt := 89) hx hb dX1_bringToUpper_85 (by decide) ?_
      exact w_X1_bringToUpper_b89 C0 hC r7 x1 0 _ _ _ hf hP hL (lv_sub hl [1, 2] rfl)
def f_X1_bringToUpper_b31 (N : Nat) (σ : CacS) (x1 : Int32) : Option (CacS) := (f_X0_ghostListOf (σ 1) x1).bind fun r1 => (f_X1_learnFrom σ r1).bind fun r3 => (f_X1_loseGhost N r3 x1).bind fun r5 => if r1 = 4 then f_X1_bringToUpper_b61 N r5 x1 r1 1 else f_X1_bringToUpper_b61 N r5 x1 r1 0
set_option maxHeartbeats 4000000 in
set_option maxRecDepth 100000 in
theorem w_X1_bringToUpper_b31 {p : Program} {l : Launch} {e : Env} {s : State} {m : MethodId} {args : Array Value} {below : List Frame} {meth : Method} {c : Code} {G : va_G} {cA : Nat → ClassId} (C0 : cB p s m args meth c RX1 cX1_bringToUpper 5 none G cA) {lo : Nat} {ad : Nat → Nat} {P : CacS → Heap → Prop} (hC : cx G lo 25 ad (ceCache cA ad) P) {N : Nat} {res : CacS} : ∀ (σ : CacS) (x1 : Int32) (H : Heap) (locs : List Loc) (ls : Array Slot), f_X1_bringToUpper_b31 N σ x1 = some res → P σ H → (∀ q ∈ locs, lo ≤ q.base) → lv_has ls 5 [(0, .ref (ad 0)), (1, .int x1)] → W p l e rm_X1_bringToUpper s m args below meth c H locs 0 0 (MQ below (cQ none (P res)) args s 0 0 (fun q => lo ≤ q)) (F0 m 31 ls []) := by
  obtain ⟨⟨hx, hb, hml, hown, hts⟩, hr, hlocks, hK⟩ := id C0
  intro σ x1 H locs ls hf hP hL hl
  unfold f_X1_bringToUpper_b31 at hf
  refine lv_aload_n hx hb dX1_bringToUpper_31 rfl (lv_at hl 0 rfl) ?_
  refine g_Cache_0 hC hP hx hb hts hown hK mw_59 dX1_bringToUpper_32 ?_
  refine lv_iload_n hx hb dX1_bringToUpper_35 rfl (lv_at hl 1 rfl) ?_
  obtain ⟨r1, q2, hf⟩ := cx_b hf
  refine cx_callV (As := [.int x1]) (rest := []) ⟨hx, hb, hml, hown, hts⟩ (c_X0_ghostListOf (cx_blk hC σ) q2) (cwV 1 hts (gV mw_384 mw_385 mw_386 mw_58 mw_387) rfl rfl rfl hd_X0_ghostListOf ⟨Nat.le_of_ble_eq_true rfl, Nat.le_of_ble_eq_true rfl⟩) hK (cx_id 1 hP) rfl (at_Blocks (cx_blk hC σ) (cx_id 1 hP)) rfl hl.1 rfl (Nat.le_of_ble_eq_true rfl) dX1_bringToUpper_36 ⟨Nat.zero_le _, Nat.zero_le _⟩ hL (fun H locs hP hL => ?_)
  replace hP : P σ H := by first | exact hP | (simpa only [va_up_id] using hP)
  refine lv_istore_n (lv' := [(2, .int r1), (0, .ref (ad 0)), (1, .int x1)]) hx hb dX1_bringToUpper_39 rfl hl (by decide) rfl (fun ls hl => ?_)
  refine lv_aload_n hx hb dX1_bringToUpper_40 rfl (lv_at hl 1 rfl) ?_
  refine lv_iload_n hx hb dX1_bringToUpper_41 rfl (lv_at hl 0 rfl) ?_
  obtain ⟨r3, q4, hf⟩ := cx_b hf
  refine cx_callV (As := [.int r1]) (rest := []) ⟨hx, hb, hml, hown, hts⟩ (c_X1_learnFrom hC q4) (cwV 1 hts (gV mw_479 mw_480 mw_481 mw_29 mw_482) rfl rfl rfl hd_X1_learnFrom ⟨Nat.le_of_ble_eq_true rfl, Nat.le_of_ble_eq_true rfl⟩) hK hP rfl (at_Cache hC hP) rfl hl.1 rfl (Nat.le_of_ble_eq_true rfl) dX1_bringToUpper_42 ⟨Nat.zero_le _, Nat.zero_le _⟩ hL (fun H locs hP hL => ?_)
  replace hP : P r3 H := by first | exact hP | (simpa only [va_up_id] using hP)
  refine lv_aload_n hx hb dX1_bringToUpper_45 rfl (lv_at hl 1 rfl) ?_
  refine lv_iload_n hx hb dX1_bringToUpper_46 rfl (lv_at hl 2 rfl) ?_
  obtain ⟨r5, q6, hf⟩ := cx_b hf
  refine cx_callV (As := [.int x1]) (rest := []) ⟨hx, hb, hml, hown, hts⟩ (c_X1_loseGhost hC q6) (cwV 1 hts (gV mw_487 mw_488 mw_489 mw_29 mw_490) rfl rfl rfl hd_X1_loseGhost ⟨Nat.le_of_ble_eq_true rfl, Nat.le_of_ble_eq_true rfl⟩) hK hP rfl (at_Cache hC hP) rfl hl.1 rfl (Nat.le_of_ble_eq_true rfl) dX1_bringToUpper_47 ⟨Nat.zero_le _, Nat.zero_le _⟩ hL (fun H locs hP hL => ?_)
  replace hP : P r5 H := by first | exact hP | (simpa only [va_up_id] using hP)
  refine lv_aload_n hx hb dX1_bringToUpper_50 rfl (lv_at hl 1 rfl) ?_
  refine lv_iload_n hx hb dX1_bringToUpper_51 rfl (lv_at hl 0 rfl) ?_
  refine lv_iconst (v := 4) hx hb dX1_bringToUpper_52 (by decide) ?_
  refine lv_icmp_ne (tgt := 60) hx hb dX1_bringToUpper_53 (by decide) (fun c7 => ?_) (fun c7 => ?_)
  · have hf := cx_f hf c7
    refine lv_iconst (v := 0) hx hb dX1_bringToUpper_60 (by decide) ?_
    exact w_X1_bringToUpper_b61 C0 hC r5 x1 r1 0 _ _ _ hf hP hL (lv_sub hl [1, 2, 0] rfl)
  · have hf := cx_t hf c7
    refine lv_iconst (v := 1) hx hb dX1_bringToUpper_56 (by decide) ?_
    refine lv_goto (tgt := 61) hx hb dX1_bringToUpper_57 (by decide) ?_
    exact w_X1_bringToUpper_b61 C0 hC r5 x1 r1 1 _ _ _ hf hP hL (lv_sub hl [1, 2, 0] rfl)
def f_X1_bringToUpper (N : Nat) (σ : CacS) (p0 : Int32) : Option (CacS) := (f_X0_listOf (σ 1) p0).bind fun r1 => if r1 = 2 then (f_X5_takeOut N (σ 5) p0).bind fun r7 => cx_let (va_up σ 5 r7) fun z9 => f_X1_bringToUpper_b31 N z9 p0 else (f_X0_makeCleanUnit (σ 1) p0).bind fun r4 => cx_let (va_up σ 1 r4) fun z6 => f_X1_bringToUpper_b31 N z6 p0
set_option maxHeartbeats 4000000 in
set_option maxRecDepth 100000 in
theorem c_X1_bringToUpper {l : Launch} {G : va_G} {cA : Nat → ClassId} {lo : Nat} {ad : Nat → Nat} {P : CacS → Heap → Prop} (hC : cx G lo 25 ad (ceCache cA ad) P) {N : Nat} {σ : CacS} {p0 : Int32} {res : CacS} (hf : f_X1_bringToUpper N σ p0 = some res) : Met l yX1_bringToUpper (cW yX1_bringToUpper cX1_bringToUpper 5 none) rm_X1_bringToUpper (cP [.ref (ad 0), .int p0] (P σ) G cA) (cQ none (P res)) 0 0 (fun q => lo ≤ q) := by
  refine cx_met (by decide) (Nat.le_of_ble_eq_true rfl) (fun p e s m args below meth c ls C0 hP hl => ?_)
  have hl : lv_has ls 5 [(0, .ref (ad 0)), (1, .int p0)] := hl
  obtain ⟨⟨hx, hb, hml, hown, hts⟩, hr, hlocks, hK⟩ := id C0
  have hL : ∀ q ∈ ([] : List Loc), lo ≤ q.base := fun q h => nomatch h
  unfold f_X1_bringToUpper at hf
  refine lv_aload_n hx hb dX1_bringToUpper_0 rfl (lv_at hl 0 rfl) ?_
  refine g_Cache_0 hC hP hx hb hts hown hK mw_59 dX1_bringToUpper_1 ?_
  refine lv_iload_n hx hb dX1_bringToUpper_4 rfl (lv_at hl 1 rfl) ?_
  obtain ⟨r1, q2, hf⟩ := cx_b hf
  refine cx_callV (As := [.int p0]) (rest := []) ⟨hx, hb, hml, hown, hts⟩ (c_X0_listOf (cx_blk hC σ) q2) (cwV 1 hts (gV mw_364 mw_365 mw_366 mw_58 mw_367) rfl rfl rfl hd_X0_listOf ⟨Nat.le_of_ble_eq_true rfl, Nat.le_of_ble_eq_true rfl⟩) hK (cx_id 1 hP) rfl (at_Blocks (cx_blk hC σ) (cx_id 1 hP)) rfl hl.1 rfl (Nat.le_of_ble_eq_true rfl) dX1_bringToUpper_5 ⟨Nat.zero_le _, Nat.zero_le _⟩ hL (fun H locs hP hL => ?_)
  replace hP : P σ H := by first | exact hP | (simpa only [va_up_id] using hP)
  refine lv_iconst (v := 2) hx hb dX1_bringToUpper_8 (by decide) ?_
  refine lv_icmp_ne (tgt := 23) hx hb dX1_bringToUpper_9 (by decide) (fun c3 => ?_) (fun c3 => ?_)
  · have hf := cx_f hf c3
    refine lv_aload_n hx hb dX1_bringToUpper_23 rfl (lv_at hl 0 rfl) ?_
    refine g_Cache_0 hC hP hx hb hts hown hK mw_59 dX1_bringToUpper_24 ?_
    refine lv_iload_n hx hb dX1_bringToUpper_27 rfl (lv_at hl 1 rfl) ?_
    obtain ⟨r4, q5, hf⟩ := cx_b hf
    refine cx_callV (As := [.int p0]) (rest := []) ⟨hx, hb, hml, hown, hts⟩ (c_X0_makeCleanUnit (cx_blk hC σ) q5) (cwV 1 hts (gV mw_471 mw_472 mw_473 mw_58 mw_474) rfl rfl rfl hd_X0_makeCleanUnit ⟨Nat.le_of_ble_eq_true rfl, Nat.le_of_ble_eq_true rfl⟩) hK (cx_id 1 hP) rfl (at_Blocks (cx_blk hC σ) (cx_id 1 hP)) rfl hl.1 rfl (Nat.le_of_ble_eq_true rfl) dX1_bringToUpper_28 ⟨Nat.zero_le _, Nat.zero_le _⟩ hL (fun H locs hP hL => ?_)
    obtain ⟨z6, ez6, hf⟩ := cx_letE hf
    replace hP : P z6 H := by rw [← ez6]; exact hP
    exact w_X1_bringToUpper_b31 C0 hC z6 p0 _ _ _ hf hP hL (lv_sub hl [0, 1] rfl)
  · have hf := cx_t hf c3
    refine lv_aload_n hx hb dX1_bringToUpper_12 rfl (lv_at hl 0 rfl) ?_
    refine g_Cache_4 hC hP hx hb hts hown hK mw_69 dX1_bringToUpper_13 ?_
    refine lv_iload_n hx hb dX1_bringToUpper_16 rfl (lv_at hl 1 rfl) ?_
    obtain ⟨r7, q8, hf⟩ := cx_b hf
    refine cx_callV (As := [.int p0]) (rest := []) ⟨hx, hb, hml, hown, hts⟩ (c_X5_takeOut (cx_row hC σ 2 5 (by decide) rfl) q8) (cwV 1 hts (gV mw_439 mw_440 mw_441 mw_66 mw_442) rfl rfl rfl hd_X5_takeOut ⟨Nat.le_of_ble_eq_true rfl, Nat.le_of_ble_eq_true rfl⟩) hK (cx_id 5 hP) rfl (at_Row (cx_row hC σ 2 5 (by decide) rfl) (cx_id 5 hP)) rfl hl.1 rfl (Nat.le_of_ble_eq_true rfl) dX1_bringToUpper_17 ⟨Nat.zero_le _, Nat.zero_le _⟩ hL (fun H locs hP hL => ?_)
    obtain ⟨z9, ez9, hf⟩ := cx_letE hf
    replace hP : P z9 H := by rw [← ez9]; exact hP
    refine lv_goto (tgt := 31) hx hb dX1_bringToUpper_20 (by decide) ?_
    exact w_X1_bringToUpper_b31 C0 hC z9 p0 _ _ _ hf hP hL (lv_sub hl [0, 1] rfl)
abbrev rm_X1_access : Room := { frames := 4, cells := 0, slots := 0, locals := 95 }
theorem hd_X1_access : yX1_access.cls = RX1 ∧ yX1_access.cls ≠ "java/lang/invoke/MethodHandle" ∧ yX1_access.cls ≠ "java/lang/invoke/VarHandle" ∧ (parseMethodDescriptor yX1_access.desc).map (fun d => d.parameters.length) = some 3 := by decide +kernel
def f_X1_access_b48 (N : Nat) (σ : CacS) (x1 : Int32) (x2 : Int32) (x3 : Int32) (x4 : Nat) (y0 : Int32) : Option (Int32 × CacS) := (f_X1_kindOf σ x2).bind fun r1 => (f_X2_countAccess (σ (8 + x4)) r1 x3).bind fun r3 => cx_let (va_up σ (8 + x4) r3) fun z5 => (f_X6_countAccess (z5 2) r1 y0).bind fun r6 => cx_let (va_up z5 2 r6) fun z8 => if r1 = 0 then if y0 = 0 then (f_X1_makeMostFrequent N z8 x2).bind fun r25 => (f_X0_giveTo (r25 1) x2 x1).bind fun r27 => cx_let (va_up r25 1 r27) fun z29 => some (r1, z29) else (f_X0_giveTo (z8 1) x2 x1).bind fun r22 => cx_let (va_up z8 1 r22) fun z24 => some (r1, z24) else if y0 = 0 then (f_X1_bringToUpper N z8 x2).bind fun r11 => (f_X0_giveTo (r11 1) x2 x1).bind fun r13 => cx_let (va_up r11 1 r13) fun z15 => some (r1, z15) else (f_X1_scanInLower N z8 x2).bind fun r16 => (f_X0_giveTo (r16 1) x2 x1).bind fun r18 => cx_let (va_up r16 1 r18) fun z20 => some (r1, z20)
set_option maxHeartbeats 4000000 in
set_option maxRecDepth 100000 in
theorem w_X1_access_b48 {p : Program} {l : Launch} {e : Env} {s : State} {m : MethodId} {args : Array Value} {below : List Frame} {meth : Method} {c : Code} {G : va_G} {cA : Nat → ClassId} (C0 : cB p s m args meth c RX1 cX1_access 7 (some .int) G cA) {lo : Nat} {ad : Nat → Nat} {P : CacS → Heap → Prop} (hC : cx G lo 25 ad (ceCache cA ad) P) {N : Nat} {res : Int32 × CacS} : ∀ (σ : CacS) (x1 : Int32) (x2 : Int32) (x3 : Int32) (x4 : Nat) (y0 : Int32) (hx4 : x4 < 4) (H : Heap) (locs : List Loc) (ls : Array Slot), f_X1_access_b48 N σ x1 x2 x3 x4 y0 = some res → P σ H → (∀ q ∈ locs, lo ≤ q.base) → lv_has ls 7 [(0, .ref (ad 0)), (1, .int x1), (2, .int x2), (3, .int x3), (4, .ref ((adCli ad x4) 0))] → W p l e rm_X1_access s m args below meth c H locs 0 0 (MQ below (cQ (some (.int res.1)) (P res.2)) args s 0 0 (fun q => lo ≤ q)) (F0 m 48 ls [.int y0]) := by
  obtain ⟨⟨hx, hb, hml, hown, hts⟩, hr, hlocks, hK⟩ := id C0
  intro σ x1 x2 x3 x4 y0 hx4 H locs ls hf hP hL hl
  unfold f_X1_access_b48 at hf
  refine lv_istore (lv' := [(5, .int y0), (0, .ref (ad 0)), (1, .int x1), (2, .int x2), (3, .int x3), (4, .ref ((adCli ad x4) 0))]) hx hb dX1_access_48 hl (by decide) rfl (fun ls hl => ?_)
  refine lv_aload_n hx hb dX1_access_50 rfl (lv_at hl 1 rfl) ?_
  refine lv_iload_n hx hb dX1_access_51 rfl (lv_at hl 3 rfl) ?_
  obtain ⟨r1, q2, hf⟩ := cx_b hf
  refine cx_callV (As := [.int x2]) (rest := []) ⟨hx, hb, hml, hown, hts⟩ (c_X1_kindOf hC q2) (cwV 1 hts (gV mw_423 mw_424 mw_425 mw_29 mw_426) rfl rfl rfl hd_X1_kindOf ⟨Nat.le_of_ble_eq_true rfl, Nat.le_of_ble_eq_true rfl⟩) hK hP rfl (at_Cache hC hP) rfl hl.1 rfl (Nat.le_of_ble_eq_true rfl) dX1_access_52 ⟨Nat.zero_le _, Nat.zero_le _⟩ hL (fun H locs hP hL => ?_)
  replace hP : P σ H := by first | exact hP | (simpa only [va_up_id] using hP)
  refine lv_istore (lv' := [(6, .int r1), (5, .int y0), (0, .ref (ad 0)), (1, .int x1), (2, .int x2), (3, .int x3), (4, .ref ((adCli ad x4) 0))]) hx hb dX1_access_55 hl (by decide) rfl (fun ls hl => ?_)
  refine lv_aload hx hb dX1_access_57 (lv_at hl 6 rfl) ?_
  refine lv_iload hx hb dX1_access_59 (lv_at hl 0 rfl) ?_
  refine lv_iload_n hx hb dX1_access_61 rfl (lv_at hl 5 rfl) ?_
  obtain ⟨r3, q4, hf⟩ := cx_b hf
  refine cx_callV (As := [.int r1, .int x3]) (rest := []) ⟨hx, hb, hml, hown, hts⟩ (c_X2_countAccess (cx_cli hC σ x4 (8 + x4) hx4 rfl) q4) (cwV 2 hts (gV mw_427 mw_428 mw_429 mw_76 mw_430) rfl rfl rfl hd_X2_countAccess ⟨Nat.le_of_ble_eq_true rfl, Nat.le_of_ble_eq_true rfl⟩) hK (cx_id (8 + x4) hP) rfl (at_Client (cx_cli hC σ x4 (8 + x4) hx4 rfl) (cx_id (8 + x4) hP)) rfl hl.1 rfl (Nat.le_of_ble_eq_true rfl) dX1_access_62 ⟨Nat.zero_le _, Nat.zero_le _⟩ hL (fun H locs hP hL => ?_)
  obtain ⟨z5, ez5, hf⟩ := cx_letE hf
  replace hP : P z5 H := by rw [← ez5]; exact hP
  refine lv_aload_n hx hb dX1_access_65 rfl (lv_at hl 2 rfl) ?_
  refine g_Cache_1 hC hP hx hb hts hown hK mw_63 dX1_access_66 ?_
  refine lv_iload hx hb dX1_access_69 (lv_at hl 0 rfl) ?_
  refine lv_iload hx hb dX1_access_71 (lv_at hl 1 rfl) ?_
  obtain ⟨r6, q7, hf⟩ := cx_b hf
  refine cx_callV (As := [.int r1, .int y0]) (rest := []) ⟨hx, hb, hml, hown, hts⟩ (c_X6_countAccess (cx_tal hC z5) q7) (cwV 2 hts (gV mw_431 mw_432 mw_433 mw_62 mw_434) rfl rfl rfl hd_X6_countAccess ⟨Nat.le_of_ble_eq_true rfl, Nat.le_of_ble_eq_true rfl⟩) hK (cx_id 2 hP) rfl (at_Tally (cx_tal hC z5) (cx_id 2 hP)) rfl hl.1 rfl (Nat.le_of_ble_eq_true rfl) dX1_access_73 ⟨Nat.zero_le _, Nat.zero_le _⟩ hL (fun H locs hP hL => ?_)
  obtain ⟨z8, ez8, hf⟩ := cx_letE hf
  replace hP : P z8 H := by rw [← ez8]; exact hP
  refine lv_iload hx hb dX1_access_76 (lv_at hl 0 rfl) ?_
  refine lv_if_ne (tgt := 94) hx hb dX1_access_78 (by decide) (fun c9 => ?_) (fun c9 => ?_)
  · have hf := cx_f hf c9
    refine lv_iload hx hb dX1_access_94 (lv_at hl 1 rfl) ?_
    refine lv_if_eq (tgt := 107) hx hb dX1_access_96 (by decide) (fun c10 => ?_) (fun c10 => ?_)
    · have hf := cx_t hf c10
      refine lv_aload_n hx hb dX1_access_107 rfl (lv_at hl 2 rfl) ?_
      refine lv_iload_n hx hb dX1_access_108 rfl (lv_at hl 4 rfl) ?_
      obtain ⟨r11, q12, hf⟩ := cx_b hf
      refine cx_callV (As := [.int x2]) (rest := []) ⟨hx, hb, hml, hown, hts⟩ (c_X1_bringToUpper hC q12) (cwV 1 hts (gV mw_475 mw_476 mw_477 mw_29 mw_478) rfl rfl rfl hd_X1_bringToUpper ⟨Nat.le_of_ble_eq_true rfl, Nat.le_of_ble_eq_true rfl⟩) hK hP rfl (at_Cache hC hP) rfl hl.1 rfl (Nat.le_of_ble_eq_true rfl) dX1_access_109 ⟨Nat.zero_le _, Nat.zero_le _⟩ hL (fun H locs hP hL => ?_)
      replace hP : P r11 H := by first | exact hP | (simpa only [va_up_id] using hP)
      refine lv_aload_n hx hb dX1_access_112 rfl (lv_at hl 2 rfl) ?_
      refine g_Cache_0 hC hP hx hb hts hown hK mw_59 dX1_access_113 ?_
      refine lv_iload_n hx hb dX1_access_116 rfl (lv_at hl 4 rfl) ?_
      refine lv_iload_n hx hb dX1_access_117 rfl (lv_at hl 3 rfl) ?_
      obtain ⟨r13, q14, hf⟩ := cx_b hf
      refine cx_callV (As := [.int x2, .int x1]) (rest := []) ⟨hx, hb, hml, hown, hts⟩ (c_X0_giveTo (cx_blk hC r11) q14) (cwV 2 hts (gV mw_513 mw_514 mw_515 mw_58 mw_516) rfl rfl rfl hd_X0_giveTo ⟨Nat.le_of_ble_eq_true rfl, Nat.le_of_ble_eq_true rfl⟩) hK (cx_id 1 hP) rfl (at_Blocks (cx_blk hC r11) (cx_id 1 hP)) rfl hl.1 rfl (Nat.le_of_ble_eq_true rfl) dX1_access_118 ⟨Nat.zero_le _, Nat.zero_le _⟩ hL (fun H locs hP hL => ?_)
      obtain ⟨z15, ez15, hf⟩ := cx_letE hf
      replace hP : P z15 H := by rw [← ez15]; exact hP
      refine lv_iload hx hb dX1_access_121 (lv_at hl 0 rfl) ?_
      cases hf
      exact cx_iret hx hb hr hlocks hP hL dX1_access_123
    · have hf := cx_f hf c10
      refine lv_aload_n hx hb dX1_access_99 rfl (lv_at hl 2 rfl) ?_
      refine lv_iload_n hx hb dX1_access_100 rfl (lv_at hl 4 rfl) ?_
      obtain ⟨r16, q17, hf⟩ := cx_b hf
      refine cx_callV (As := [.int x2]) (rest := []) ⟨hx, hb, hml, hown, hts⟩ (c_X1_scanInLower hC q17) (cwV 1 hts (gV mw_451 mw_452 mw_453 mw_29 mw_454) rfl rfl rfl hd_X1_scanInLower ⟨Nat.le_of_ble_eq_true rfl, Nat.le_of_ble_eq_true rfl⟩) hK hP rfl (at_Cache hC hP) rfl hl.1 rfl (Nat.le_of_ble_eq_true rfl) dX1_access_101 ⟨Nat.zero_le _, Nat.zero_le _⟩ hL (fun H locs hP hL => ?_)
      replace hP : P r16 H := by first | exact hP | (simpa only [va_up_id] using hP)
      refine lv_goto (tgt := 112) hx hb dX1_access_104 (by decide) ?_
      refine lv_aload_n hx hb dX1_access_112 rfl (lv_at hl 2 rfl) ?_
      refine g_Cache_0 hC hP hx hb hts hown hK mw_59 dX1_access_113 ?_
      refine lv_iload_n hx hb dX1_access_116 rfl (lv_at hl 4 rfl) ?_
      refine lv_iload_n hx hb dX1_access_117 rfl (lv_at hl 3 rfl) ?_
      obtain ⟨r18, q19, hf⟩ := cx_b hf
      refine cx_callV (As := [.int x2, .int x1]) (rest := []) ⟨hx, hb, hml, hown, hts⟩ (c_X0_giveTo (cx_blk hC r16) q19) (cwV 2 hts (gV mw_513 mw_514 mw_515 mw_58 mw_516) rfl rfl rfl hd_X0_giveTo ⟨Nat.le_of_ble_eq_true rfl, Nat.le_of_ble_eq_true rfl⟩) hK (cx_id 1 hP) rfl (at_Blocks (cx_blk hC r16) (cx_id 1 hP)) rfl hl.1 rfl (Nat.le_of_ble_eq_true rfl) dX1_access_118 ⟨Nat.zero_le _, Nat.zero_le _⟩ hL (fun H locs hP hL => ?_)
      obtain ⟨z20, ez20, hf⟩ := cx_letE hf
      replace hP : P z20 H := by rw [← ez20]; exact hP
      refine lv_iload hx hb dX1_access_121 (lv_at hl 0 rfl) ?_
      cases hf
      exact cx_iret hx hb hr hlocks hP hL dX1_access_123
  · have hf := cx_t hf c9
    refine lv_iload hx hb dX1_access_81 (lv_at hl 1 rfl) ?_
    refine lv_if_ne (tgt := 112) hx hb dX1_access_83 (by decide) (fun c21 => ?_) (fun c21 => ?_)
    · have hf := cx_f hf c21
      refine lv_aload_n hx hb dX1_access_112 rfl (lv_at hl 2 rfl) ?_
      refine g_Cache_0 hC hP hx hb hts hown hK mw_59 dX1_access_113 ?_
      refine lv_iload_n hx hb dX1_access_116 rfl (lv_at hl 4 rfl) ?_
      refine lv_iload_n hx hb dX1_access_117 rfl (lv_at hl 3 rfl) ?_
      obtain ⟨r22, q23, hf⟩ := cx_b hf
      refine cx_callV (As := [.int x2, .int x1]) (rest := []) ⟨hx, hb, hml, hown, hts⟩ (c_X0_giveTo (cx_blk hC z8) q23) (cwV 2 hts (gV mw_513 mw_514 mw_515 mw_58 mw_516) rfl rfl rfl hd_X0_giveTo ⟨Nat.le_of_ble_eq_true rfl, Nat.le_of_ble_eq_true rfl⟩) hK (cx_id 1 hP) rfl (at_Blocks (cx_blk hC z8) (cx_id 1 hP)) rfl hl.1 rfl (Nat.le_of_ble_eq_true rfl) dX1_access_118 ⟨Nat.zero_le _, Nat.zero_le _⟩ hL (fun H locs hP hL => ?_)
      obtain ⟨z24, ez24, hf⟩ := cx_letE hf
      replace hP : P z24 H := by rw [← ez24]; exact hP
      refine lv_iload hx hb dX1_access_121 (lv_at hl 0 rfl) ?_
      cases hf
      exact cx_iret hx hb hr hlocks hP hL dX1_access_123
    · have hf := cx_t hf c21
      refine lv_aload_n hx hb dX1_access_86 rfl (lv_at hl 2 rfl) ?_
      refine lv_iload_n hx hb dX1_access_87 rfl (lv_at hl 4 rfl) ?_
      obtain ⟨r25, q26, hf⟩ := cx_b hf
      refine cx_callV (As := [.int x2]) (rest := []) ⟨hx, hb, hml, hown, hts⟩ (c_X1_makeMostFrequent hC q26) (cwV 1 hts (gV mw_435 mw_436 mw_437 mw_29 mw_438) rfl rfl rfl hd_X1_makeMostFrequent ⟨Nat.le_of_ble_eq_true rfl, Nat.le_of_ble_eq_true rfl⟩) hK hP rfl (at_Cache hC hP) rfl hl.1 rfl (Nat.le_of_ble_eq_true rfl) dX1_access_88 ⟨Nat.zero_le _, Nat.zero_le _⟩ hL (fun H locs hP hL => ?_)
      replace hP : P r25 H := by first | exact hP | (simpa only [va_up_id] using hP)
      refine lv_goto (tgt := 112) hx hb dX1_access_91 (by decide) ?_
      refine lv_aload_n hx hb dX1_access_112 rfl (lv_at hl 2 rfl) ?_
      refine g_Cache_0 hC hP hx hb hts hown hK mw_59 dX1_access_113 ?_
      refine lv_iload_n hx hb dX1_access_116 rfl (lv_at hl 4 rfl) ?_
      refine lv_iload_n hx hb dX1_access_117 rfl (lv_at hl 3 rfl) ?_
      obtain ⟨r27, q28, hf⟩ := cx_b hf
      refine cx_callV (As := [.int x2, .int x1]) (rest := []) ⟨hx, hb, hml, hown, hts⟩ (c_X0_giveTo (cx_blk hC r25) q28) (cwV 2 hts (gV mw_513 mw_514 mw_515 mw_58 mw_516) rfl rfl rfl hd_X0_giveTo ⟨Nat.le_of_ble_eq_true rfl, Nat.le_of_ble_eq_true rfl⟩) hK (cx_id 1 hP) rfl (at_Blocks (cx_blk hC r25) (cx_id 1 hP)) rfl hl.1 rfl (Nat.le_of_ble_eq_true rfl) dX1_access_118 ⟨Nat.zero_le _, Nat.zero_le _⟩ hL (fun H locs hP hL => ?_)
      obtain ⟨z29, ez29, hf⟩ := cx_letE hf
      replace hP : P z29 H := by rw [← ez29]; exact hP
      refine lv_iload hx hb dX1_access_121 (lv_at hl 0 rfl) ?_
      cases hf
      exact cx_iret hx hb hr hlocks hP hL dX1_access_123
def f_X1_access (N : Nat) (σ : CacS) (p0 : Int32) (p1 : Int32) (p2 : Int32) : Option (Int32 × CacS) := (f_X1_clientOf σ p0).bind fun r1 => on_ r1 (some (2, σ)) (fun k3 => (f_X2_runWith (σ (8 + k3)) p1).bind fun r4 => cx_let (va_up σ (8 + k3) (oI (σ (8 + k3)) 1 r4)) fun z6 => cx_let (va_up z6 (8 + k3) (oI (z6 (8 + k3)) 2 p1)) fun z7 => if (z7 (8 + k3)).2 1 < (z7 0).2 10 then f_X1_access_b48 N z7 p0 p1 p2 k3 0 else f_X1_access_b48 N z7 p0 p1 p2 k3 1)
set_option maxHeartbeats 4000000 in
set_option maxRecDepth 100000 in
theorem c_X1_access {l : Launch} {G : va_G} {cA : Nat → ClassId} {lo : Nat} {ad : Nat → Nat} {P : CacS → Heap → Prop} (hC : cx G lo 25 ad (ceCache cA ad) P) {N : Nat} {σ : CacS} {p0 : Int32} {p1 : Int32} {p2 : Int32} {res : Int32 × CacS} (hf : f_X1_access N σ p0 p1 p2 = some res) : Met l yX1_access (cW yX1_access cX1_access 7 (some .int)) rm_X1_access (cP [.ref (ad 0), .int p0, .int p1, .int p2] (P σ) G cA) (cQ (some (.int res.1)) (P res.2)) 0 0 (fun q => lo ≤ q) := by
  refine cx_met (by decide) (Nat.le_of_ble_eq_true rfl) (fun p e s m args below meth c ls C0 hP hl => ?_)
  have hl : lv_has ls 7 [(0, .ref (ad 0)), (1, .int p0), (2, .int p1), (3, .int p2)] := hl
  obtain ⟨⟨hx, hb, hml, hown, hts⟩, hr, hlocks, hK⟩ := id C0
  have hL : ∀ q ∈ ([] : List Loc), lo ≤ q.base := fun q h => nomatch h
  unfold f_X1_access at hf
  refine lv_aload_n hx hb dX1_access_0 rfl (lv_at hl 0 rfl) ?_
  refine lv_iload_n hx hb dX1_access_1 rfl (lv_at hl 1 rfl) ?_
  obtain ⟨r1, q2, hf⟩ := cx_b hf
  refine cx_callV (As := [.int p0]) (rest := []) ⟨hx, hb, hml, hown, hts⟩ (c_X1_clientOf hC q2) (cwV 1 hts (gV mw_205 mw_206 mw_207 mw_29 mw_208) rfl rfl rfl hd_X1_clientOf ⟨Nat.le_of_ble_eq_true rfl, Nat.le_of_ble_eq_true rfl⟩) hK hP rfl (at_Cache hC hP) rfl hl.1 rfl (Nat.le_of_ble_eq_true rfl) dX1_access_2 ⟨Nat.zero_le _, Nat.zero_le _⟩ hL (fun H locs hP hL => ?_)
  replace hP : P σ H := by first | exact hP | (simpa only [va_up_id] using hP)
  cases r1 with
  | none =>
    have hf := on_N hf
    refine lv_astoreN (lv' := [(4, .null), (0, .ref (ad 0)), (1, .int p0), (2, .int p1), (3, .int p2)]) hx hb dX1_access_5 hl (by decide) rfl (fun ls hl => ?_)
    refine lv_aloadN hx hb dX1_access_7 (lv_at hl 0 rfl) ?_
    refine lv_ifnonnullN hx hb dX1_access_9 ?_
    refine lv_iconst (v := 2) hx hb dX1_access_12 (by decide) ?_
    cases hf
    exact cx_iret hx hb hr hlocks hP hL dX1_access_13
  | some k3 =>
    have hf := on_S hf
    have hk3 := f_X1_clientOf_lt q2
    refine lv_astore (lv' := [(4, .ref ((adCli ad k3) 0)), (0, .ref (ad 0)), (1, .int p0), (2, .int p1), (3, .int p2)]) hx hb dX1_access_5 hl (by decide) rfl (fun ls hl => ?_)
    refine lv_aload hx hb dX1_access_7 (lv_at hl 0 rfl) ?_
    refine lv_ifnonnull (tgt := 14) hx hb dX1_access_9 (by decide) ?_
    refine lv_aload hx hb dX1_access_14 (lv_at hl 0 rfl) ?_
    refine lv_aload hx hb dX1_access_16 (lv_at hl 0 rfl) ?_
    refine lv_iload_n hx hb dX1_access_18 rfl (lv_at hl 3 rfl) ?_
    obtain ⟨r4, q5, hf⟩ := cx_b hf
    refine cx_callV (As := [.int p1]) (rest := [.ref ((adCli ad k3) 0)]) ⟨hx, hb, hml, hown, hts⟩ (c_X2_runWith (cx_cli hC σ k3 (8 + k3) hk3 rfl) q5) (cwV 1 hts (gV mw_405 mw_406 mw_407 mw_76 mw_408) rfl rfl rfl hd_X2_runWith ⟨Nat.le_of_ble_eq_true rfl, Nat.le_of_ble_eq_true rfl⟩) hK (cx_id (8 + k3) hP) rfl (at_Client (cx_cli hC σ k3 (8 + k3) hk3 rfl) (cx_id (8 + k3) hP)) rfl hl.1 rfl (Nat.le_of_ble_eq_true rfl) dX1_access_19 ⟨Nat.zero_le _, Nat.zero_le _⟩ hL (fun H locs hP hL => ?_)
    replace hP : P σ H := by first | exact hP | (simpa only [va_up_id] using hP)
    obtain ⟨z6, ez6, hf⟩ := cx_letE hf
    refine p_Client_1 (cx_cli hC σ k3 (8 + k3) hk3 rfl) (cx_id (8 + k3) hP) hx hb hts hown hK mw_421 dX1_access_22 hL (fun H locs hP hL => ?_)
    replace hP : P z6 H := by rw [← ez6]; exact hP
    refine lv_aload hx hb dX1_access_25 (lv_at hl 0 rfl) ?_
    refine lv_iload_n hx hb dX1_access_27 rfl (lv_at hl 3 rfl) ?_
    obtain ⟨z7, ez7, hf⟩ := cx_letE hf
    refine p_Client_2 (cx_cli hC z6 k3 (8 + k3) hk3 rfl) (cx_id (8 + k3) hP) hx hb hts hown hK mw_422 dX1_access_28 hL (fun H locs hP hL => ?_)
    replace hP : P z7 H := by rw [← ez7]; exact hP
    refine lv_aload hx hb dX1_access_31 (lv_at hl 0 rfl) ?_
    refine g_Client_1 (cx_cli hC z7 k3 (8 + k3) hk3 rfl) (cx_id (8 + k3) hP) hx hb hts hown hK mw_421 dX1_access_33 ?_
    refine lv_aload_n hx hb dX1_access_36 rfl (lv_at hl 1 rfl) ?_
    refine g_Cache_10 hC hP hx hb hts hown hK mw_77 dX1_access_37 ?_
    refine lv_icmp_lt (tgt := 47) hx hb dX1_access_40 (by decide) (fun c8 => ?_) (fun c8 => ?_)
    · have hf := cx_t hf c8
      refine lv_iconst (v := 0) hx hb dX1_access_47 (by decide) ?_
      exact w_X1_access_b48 C0 hC z7 p0 p1 p2 k3 0 hk3 _ _ _ hf hP hL (lv_sub hl [1, 2, 3, 4, 0] rfl)
    · have hf := cx_f hf c8
      refine lv_iconst (v := 1) hx hb dX1_access_43 (by decide) ?_
      refine lv_goto (tgt := 48) hx hb dX1_access_44 (by decide) ?_
      exact w_X1_access_b48 C0 hC z7 p0 p1 p2 k3 1 hk3 _ _ _ hf hP hL (lv_sub hl [1, 2, 3, 4, 0] rfl)
abbrev rm_X1_finishWrite : Room := { frames := 3, cells := 0, slots := 0, locals := 68 }
theorem hd_X1_finishWrite : yX1_finishWrite.cls = RX1 ∧ yX1_finishWrite.cls ≠ "java/lang/invoke/MethodHandle" ∧ yX1_finishWrite.cls ≠ "java/lang/invoke/VarHandle" ∧ (parseMethodDescriptor yX1_finishWrite.desc).map (fun d => d.parameters.length) = some 2 := by decide +kernel
def f_X1_finishWrite (N : Nat) (σ : CacS) (p0 : Int32) (p1 : Int32) : Option (CacS) := (f_X0_changeValue (σ 1) p0 p1 ((σ 2).2 0)).bind fun r1 => cx_let (va_up σ 1 r1) fun z3 => (f_X0_howManyDirty N (z3 1)).bind fun r4 => if (r4 - (z3 0).2 11) ≤ 0 then some z3 else (f_X0_writeBackSome N (z3 1) (r4 - (z3 0).2 11)).bind fun r7 => cx_let (va_up z3 1 r7.2) fun z9 => some z9
set_option maxHeartbeats 4000000 in
set_option maxRecDepth 100000 in
theorem c_X1_finishWrite {l : Launch} {G : va_G} {cA : Nat → ClassId} {lo : Nat} {ad : Nat → Nat} {P : CacS → Heap → Prop} (hC : cx G lo 25 ad (ceCache cA ad) P) {N : Nat} {σ : CacS} {p0 : Int32} {p1 : Int32} {res : CacS} (hf : f_X1_finishWrite N σ p0 p1 = some res) : Met l yX1_finishWrite (cW yX1_finishWrite cX1_finishWrite 4 none) rm_X1_finishWrite (cP [.ref (ad 0), .int p0, .int p1] (P σ) G cA) (cQ none (P res)) 0 0 (fun q => lo ≤ q) := by
  refine cx_met (by decide) (Nat.le_of_ble_eq_true rfl) (fun p e s m args below meth c ls C0 hP hl => ?_)
  have hl : lv_has ls 4 [(0, .ref (ad 0)), (1, .int p0), (2, .int p1)] := hl
  obtain ⟨⟨hx, hb, hml, hown, hts⟩, hr, hlocks, hK⟩ := id C0
  have hL : ∀ q ∈ ([] : List Loc), lo ≤ q.base := fun q h => nomatch h
  unfold f_X1_finishWrite at hf
  refine lv_aload_n hx hb dX1_finishWrite_0 rfl (lv_at hl 0 rfl) ?_
  refine g_Cache_0 hC hP hx hb hts hown hK mw_59 dX1_finishWrite_1 ?_
  refine lv_iload_n hx hb dX1_finishWrite_4 rfl (lv_at hl 1 rfl) ?_
  refine lv_iload_n hx hb dX1_finishWrite_5 rfl (lv_at hl 2 rfl) ?_
  refine lv_aload_n hx hb dX1_finishWrite_6 rfl (lv_at hl 0 rfl) ?_
  refine g_Cache_1 hC hP hx hb hts hown hK mw_63 dX1_finishWrite_7 ?_
  refine g_Tally_0 (cx_tal hC σ) (cx_id 2 hP) hx hb hts hown hK mw_540 dX1_finishWrite_10 ?_
  obtain ⟨r1, q2, hf⟩ := cx_b hf
  refine cx_callV (As := [.int p0, .int p1, .int ((σ 2).2 0)]) (rest := []) ⟨hx, hb, hml, hown, hts⟩ (c_X0_changeValue (cx_blk hC σ) q2) (cwV 3 hts (gV mw_541 mw_542 mw_543 mw_58 mw_544) rfl rfl rfl hd_X0_changeValue ⟨Nat.le_of_ble_eq_true rfl, Nat.le_of_ble_eq_true rfl⟩) hK (cx_id 1 hP) rfl (at_Blocks (cx_blk hC σ) (cx_id 1 hP)) rfl hl.1 rfl (Nat.le_of_ble_eq_true rfl) dX1_finishWrite_13 ⟨Nat.zero_le _, Nat.zero_le _⟩ hL (fun H locs hP hL => ?_)
  obtain ⟨z3, ez3, hf⟩ := cx_letE hf
  replace hP : P z3 H := by rw [← ez3]; exact hP
  refine lv_aload_n hx hb dX1_finishWrite_16 rfl (lv_at hl 0 rfl) ?_
  refine g_Cache_0 hC hP hx hb hts hown hK mw_59 dX1_finishWrite_17 ?_
  obtain ⟨r4, q5, hf⟩ := cx_b hf
  refine cx_callV (As := []) (rest := []) ⟨hx, hb, hml, hown, hts⟩ (c_X0_howManyDirty (cx_blk hC z3) q5) (cwV 0 hts (gV mw_293 mw_294 mw_295 mw_58 mw_296) rfl rfl rfl hd_X0_howManyDirty ⟨Nat.le_of_ble_eq_true rfl, Nat.le_of_ble_eq_true rfl⟩) hK (cx_id 1 hP) rfl (at_Blocks (cx_blk hC z3) (cx_id 1 hP)) rfl hl.1 rfl (Nat.le_of_ble_eq_true rfl) dX1_finishWrite_20 ⟨Nat.zero_le _, Nat.zero_le _⟩ hL (fun H locs hP hL => ?_)
  replace hP : P z3 H := by first | exact hP | (simpa only [va_up_id] using hP)
  refine lv_aload_n hx hb dX1_finishWrite_23 rfl (lv_at hl 0 rfl) ?_
  refine g_Cache_11 hC hP hx hb hts hown hK mw_78 dX1_finishWrite_24 ?_
  refine lv_isub hx hb dX1_finishWrite_27 ?_
  refine lv_istore_n (lv' := [(3, .int (r4 - (z3 0).2 11)), (0, .ref (ad 0)), (1, .int p0), (2, .int p1)]) hx hb dX1_finishWrite_28 rfl hl (by decide) rfl (fun ls hl => ?_)
  refine lv_iload_n hx hb dX1_finishWrite_29 rfl (lv_at hl 0 rfl) ?_
  refine lv_if_le (tgt := 42) hx hb dX1_finishWrite_30 (by decide) (fun c6 => ?_) (fun c6 => ?_)
  · have hf := cx_t hf c6
    cases hf
    exact cx_vret hx hb hr hlocks hP hL dX1_finishWrite_42
  · have hf := cx_f hf c6
    refine lv_aload_n hx hb dX1_finishWrite_33 rfl (lv_at hl 1 rfl) ?_
    refine g_Cache_0 hC hP hx hb hts hown hK mw_59 dX1_finishWrite_34 ?_
    refine lv_iload_n hx hb dX1_finishWrite_37 rfl (lv_at hl 0 rfl) ?_
    obtain ⟨r7, q8, hf⟩ := cx_b hf
    refine cx_callV (As := [.int (r4 - (z3 0).2 11)]) (rest := []) ⟨hx, hb, hml, hown, hts⟩ (c_X0_writeBackSome (cx_blk hC z3) q8) (cwV 1 hts (gV mw_240 mw_241 mw_242 mw_58 mw_243) rfl rfl rfl hd_X0_writeBackSome ⟨Nat.le_of_ble_eq_true rfl, Nat.le_of_ble_eq_true rfl⟩) hK (cx_id 1 hP) rfl (at_Blocks (cx_blk hC z3) (cx_id 1 hP)) rfl hl.1 rfl (Nat.le_of_ble_eq_true rfl) dX1_finishWrite_38 ⟨Nat.zero_le _, Nat.zero_le _⟩ hL (fun H locs hP hL => ?_)
    obtain ⟨z9, ez9, hf⟩ := cx_letE hf
    replace hP : P z9 H := by rw [← ez9]; exact hP
    refine lv_pop hx hb dX1_finishWrite_41 rfl ?_
    cases hf
    exact cx_vret hx hb hr hlocks hP hL dX1_finishWrite_42
abbrev rm_X1_loseBlock : Room := { frames := 2, cells := 0, slots := 0, locals := 45 }
theorem hd_X1_loseBlock : yX1_loseBlock.cls = RX1 ∧ yX1_loseBlock.cls ≠ "java/lang/invoke/MethodHandle" ∧ yX1_loseBlock.cls ≠ "java/lang/invoke/VarHandle" ∧ (parseMethodDescriptor yX1_loseBlock.desc).map (fun d => d.parameters.length) = some 1 := by decide +kernel
def f_X1_loseBlock (N : Nat) (σ : CacS) (p0 : Int32) : Option (Int32 × CacS) := (f_X0_listOf (σ 1) p0).bind fun r1 => (f_X1_loseGhost N σ p0).bind fun r3 => if r1 = (-1) then some (0, r3) else (f_X1_rowOf r3 r1).bind fun r6 => (f_X5_takeOut N (r3 (3 + r6)) p0).bind fun r8 => cx_let (va_up r3 (3 + r6) r8) fun z10 => (f_X0_dropUnit (z10 1) p0).bind fun r11 => cx_let (va_up z10 1 r11) fun z13 => some (1, z13)
set_option maxHeartbeats 4000000 in
set_option maxRecDepth 100000 in
theorem c_X1_loseBlock {l : Launch} {G : va_G} {cA : Nat → ClassId} {lo : Nat} {ad : Nat → Nat} {P : CacS → Heap → Prop} (hC : cx G lo 25 ad (ceCache cA ad) P) {N : Nat} {σ : CacS} {p0 : Int32} {res : Int32 × CacS} (hf : f_X1_loseBlock N σ p0 = some res) : Met l yX1_loseBlock (cW yX1_loseBlock cX1_loseBlock 3 (some .boolean)) rm_X1_loseBlock (cP [.ref (ad 0), .int p0] (P σ) G cA) (cQ (some (.int res.1)) (P res.2)) 0 0 (fun q => lo ≤ q) := by
  refine cx_met (by decide) (Nat.le_of_ble_eq_true rfl) (fun p e s m args below meth c ls C0 hP hl => ?_)
  have hl : lv_has ls 3 [(0, .ref (ad 0)), (1, .int p0)] := hl
  obtain ⟨⟨hx, hb, hml, hown, hts⟩, hr, hlocks, hK⟩ := id C0
  have hL : ∀ q ∈ ([] : List Loc), lo ≤ q.base := fun q h => nomatch h
  unfold f_X1_loseBlock at hf
  refine lv_aload_n hx hb dX1_loseBlock_0 rfl (lv_at hl 0 rfl) ?_
  refine g_Cache_0 hC hP hx hb hts hown hK mw_59 dX1_loseBlock_1 ?_
  refine lv_iload_n hx hb dX1_loseBlock_4 rfl (lv_at hl 1 rfl) ?_
  obtain ⟨r1, q2, hf⟩ := cx_b hf
  refine cx_callV (As := [.int p0]) (rest := []) ⟨hx, hb, hml, hown, hts⟩ (c_X0_listOf (cx_blk hC σ) q2) (cwV 1 hts (gV mw_364 mw_365 mw_366 mw_58 mw_367) rfl rfl rfl hd_X0_listOf ⟨Nat.le_of_ble_eq_true rfl, Nat.le_of_ble_eq_true rfl⟩) hK (cx_id 1 hP) rfl (at_Blocks (cx_blk hC σ) (cx_id 1 hP)) rfl hl.1 rfl (Nat.le_of_ble_eq_true rfl) dX1_loseBlock_5 ⟨Nat.zero_le _, Nat.zero_le _⟩ hL (fun H locs hP hL => ?_)
  replace hP : P σ H := by first | exact hP | (simpa only [va_up_id] using hP)
  refine lv_istore_n (lv' := [(2, .int r1), (0, .ref (ad 0)), (1, .int p0)]) hx hb dX1_loseBlock_8 rfl hl (by decide) rfl (fun ls hl => ?_)
  refine lv_aload_n hx hb dX1_loseBlock_9 rfl (lv_at hl 1 rfl) ?_
  refine lv_iload_n hx hb dX1_loseBlock_10 rfl (lv_at hl 2 rfl) ?_
  obtain ⟨r3, q4, hf⟩ := cx_b hf
  refine cx_callV (As := [.int p0]) (rest := []) ⟨hx, hb, hml, hown, hts⟩ (c_X1_loseGhost hC q4) (cwV 1 hts (gV mw_487 mw_488 mw_489 mw_29 mw_490) rfl rfl rfl hd_X1_loseGhost ⟨Nat.le_of_ble_eq_true rfl, Nat.le_of_ble_eq_true rfl⟩) hK hP rfl (at_Cache hC hP) rfl hl.1 rfl (Nat.le_of_ble_eq_true rfl) dX1_loseBlock_11 ⟨Nat.zero_le _, Nat.zero_le _⟩ hL (fun H locs hP hL => ?_)
  replace hP : P r3 H := by first | exact hP | (simpa only [va_up_id] using hP)
  refine lv_iload_n hx hb dX1_loseBlock_14 rfl (lv_at hl 0 rfl) ?_
  refine lv_iconst (v := (-1)) hx hb dX1_loseBlock_15 (by decide) ?_
  refine lv_icmp_ne (tgt := 21) hx hb dX1_loseBlock_16 (by decide) (fun c5 => ?_) (fun c5 => ?_)
  · have hf := cx_f hf c5
    refine lv_aload_n hx hb dX1_loseBlock_21 rfl (lv_at hl 1 rfl) ?_
    refine lv_iload_n hx hb dX1_loseBlock_22 rfl (lv_at hl 0 rfl) ?_
    obtain ⟨r6, q7, hf⟩ := cx_b hf
    refine cx_callV (As := [.int r1]) (rest := []) ⟨hx, hb, hml, hown, hts⟩ (c_X1_rowOf hC q7) (cwV 1 hts (gV mw_289 mw_290 mw_291 mw_29 mw_292) rfl rfl rfl hd_X1_rowOf ⟨Nat.le_of_ble_eq_true rfl, Nat.le_of_ble_eq_true rfl⟩) hK hP rfl (at_Cache hC hP) rfl hl.1 rfl (Nat.le_of_ble_eq_true rfl) dX1_loseBlock_23 ⟨Nat.zero_le _, Nat.zero_le _⟩ hL (fun H locs hP hL => ?_)
    replace hP : P r3 H := by first | exact hP | (simpa only [va_up_id] using hP)
    have hr6 := f_X1_rowOf_lt q7
    refine lv_iload_n hx hb dX1_loseBlock_26 rfl (lv_at hl 2 rfl) ?_
    obtain ⟨r8, q9, hf⟩ := cx_b hf
    refine cx_callV (As := [.int p0]) (rest := []) ⟨hx, hb, hml, hown, hts⟩ (c_X5_takeOut (cx_row hC r3 r6 (3 + r6) hr6 rfl) q9) (cwV 1 hts (gV mw_439 mw_440 mw_441 mw_66 mw_442) rfl rfl rfl hd_X5_takeOut ⟨Nat.le_of_ble_eq_true rfl, Nat.le_of_ble_eq_true rfl⟩) hK (cx_id (3 + r6) hP) rfl (at_Row (cx_row hC r3 r6 (3 + r6) hr6 rfl) (cx_id (3 + r6) hP)) rfl hl.1 rfl (Nat.le_of_ble_eq_true rfl) dX1_loseBlock_27 ⟨Nat.zero_le _, Nat.zero_le _⟩ hL (fun H locs hP hL => ?_)
    obtain ⟨z10, ez10, hf⟩ := cx_letE hf
    replace hP : P z10 H := by rw [← ez10]; exact hP
    refine lv_aload_n hx hb dX1_loseBlock_30 rfl (lv_at hl 1 rfl) ?_
    refine g_Cache_0 hC hP hx hb hts hown hK mw_59 dX1_loseBlock_31 ?_
    refine lv_iload_n hx hb dX1_loseBlock_34 rfl (lv_at hl 2 rfl) ?_
    obtain ⟨r11, q12, hf⟩ := cx_b hf
    refine cx_callV (As := [.int p0]) (rest := []) ⟨hx, hb, hml, hown, hts⟩ (c_X0_dropUnit (cx_blk hC z10) q12) (cwV 1 hts (gV mw_467 mw_468 mw_469 mw_58 mw_470) rfl rfl rfl hd_X0_dropUnit ⟨Nat.le_of_ble_eq_true rfl, Nat.le_of_ble_eq_true rfl⟩) hK (cx_id 1 hP) rfl (at_Blocks (cx_blk hC z10) (cx_id 1 hP)) rfl hl.1 rfl (Nat.le_of_ble_eq_true rfl) dX1_loseBlock_35 ⟨Nat.zero_le _, Nat.zero_le _⟩ hL (fun H locs hP hL => ?_)
    obtain ⟨z13, ez13, hf⟩ := cx_letE hf
    replace hP : P z13 H := by rw [← ez13]; exact hP
    refine lv_iconst (v := 1) hx hb dX1_loseBlock_38 (by decide) ?_
    cases hf
    exact cx_zret hx hb hr hlocks (Or.inr rfl) hP hL dX1_loseBlock_39
  · have hf := cx_t hf c5
    refine lv_iconst (v := 0) hx hb dX1_loseBlock_19 (by decide) ?_
    cases hf
    exact cx_zret hx hb hr hlocks (Or.inl rfl) hP hL dX1_loseBlock_20
