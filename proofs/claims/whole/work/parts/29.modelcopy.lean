abbrev rm_X9_copy : Room := { frames := 0, cells := 0, slots := 0, locals := 0 }
theorem hd_X9_copy : yX9_copy.cls = RX9 ∧ yX9_copy.cls ≠ "java/lang/invoke/MethodHandle" ∧ yX9_copy.cls ≠ "java/lang/invoke/VarHandle" ∧ (parseMethodDescriptor yX9_copy.desc).map (fun d => d.parameters.length) = some 4 := by decide +kernel
def f_X9_copy_b3 (N : Nat) : Nat → Nat → Nat → (Nat → Int32) → (Nat → Int32) → Int32 → Int32 → Int32 → Option (((Nat → Int32)))
  | 0, _, _, _, _, _, _, _ => none
  | n + 1, nfrom, nto, f, g, x1, x3, x4 => if 1384 ≤ x4 then some g else gd (x1 + x4) nfrom (gd (x3 + x4) nto (cx_let (upd g (Int32.toNatClampNeg (x3 + x4)) (f (Int32.toNatClampNeg (x1 + x4)))) fun z4 => f_X9_copy_b3 N n nfrom nto f z4 x1 x3 (x4 + 1)))
set_option maxHeartbeats 4000000 in
set_option maxRecDepth 100000 in
theorem w_X9_copy_b3 {p : Program} {l : Launch} {e : Env} {s : State} {m : MethodId} {args : Array Value} {below : List Frame} {meth : Method} {c : Code} {G : va_G} {cA : Nat → ClassId} (C0 : cB p s m args meth c RX9 cX9_copy 5 none G cA) {lo : Nat} {ad : Nat → Nat} {adto : Nat → Nat} {nfrom : Nat} {nto : Nat} {P : ((Nat → Int32)) → ((Nat → Int32)) → Heap → Prop} (hC : ∀ z : (Nat → Int32), cx G lo 1 ad (ceArr nfrom cA ad) (fun x => P x z)) (hCto : ∀ z : (Nat → Int32), cx G lo 1 adto (ceArr nto cA adto) (fun x => P z x)) {N : Nat} {res : ((Nat → Int32))} : ∀ (n : Nat) (f : (Nat → Int32)) (g : (Nat → Int32)) (x1 : Int32) (x3 : Int32) (x4 : Int32) (H : Heap) (locs : List Loc) (ls : Array Slot), f_X9_copy_b3 N n nfrom nto f g x1 x3 x4 = some res → P f g H → (∀ q ∈ locs, lo ≤ q.base) → lv_has ls 5 [(0, .ref (ad 0)), (1, .int x1), (2, .ref (adto 0)), (3, .int x3), (4, .int x4)] → W p l e rm_X9_copy s m args below meth c H locs 0 0 (MQ below (cQ none (P f res)) args s 0 0 (fun q => lo ≤ q)) (F0 m 3 ls []) := by
  obtain ⟨⟨hx, hb, hml, hown, hts⟩, hr, hlocks, hK⟩ := id C0
  intro n
  induction n with
  | zero => intro f g x1 x3 x4 H locs ls
            exact fun hf => nomatch hf
  | succ n ih =>
    intro f g x1 x3 x4 H locs ls hf hP hL hl
    rw [f_X9_copy_b3] at hf
    refine lv_iload hx hb dX9_copy_3 (lv_at hl 4 rfl) ?_
    refine lv_sipush (v := 1384) hx hb dX9_copy_5 (by decide) ?_
    refine lv_icmp_ge (tgt := 29) hx hb dX9_copy_8 (by decide) (fun c1 => ?_) (fun c1 => ?_)
    · have hf := cx_t hf c1
      cases hf
      exact cx_vret hx hb hr hlocks hP hL dX9_copy_29
    · have hf := cx_f hf c1
      refine lv_aload_n hx hb dX9_copy_11 rfl (lv_at hl 2 rfl) ?_
      refine lv_iload_n hx hb dX9_copy_12 rfl (lv_at hl 3 rfl) ?_
      refine lv_iload hx hb dX9_copy_13 (lv_at hl 4 rfl) ?_
      refine lv_iadd hx hb dX9_copy_15 ?_
      refine lv_aload_n hx hb dX9_copy_16 rfl (lv_at hl 0 rfl) ?_
      refine lv_iload_n hx hb dX9_copy_17 rfl (lv_at hl 1 rfl) ?_
      refine lv_iload hx hb dX9_copy_18 (lv_at hl 4 rfl) ?_
      refine lv_iadd hx hb dX9_copy_20 ?_
      obtain ⟨hi2, hf⟩ := gdE hf
      refine ga_Arr_0 (hC g) hP hx hb hK hi2 dX9_copy_21 ?_
      obtain ⟨hi3, hf⟩ := gdE hf
      obtain ⟨z4, ez4, hf⟩ := cx_letE hf
      refine pa_Arr_0 (hCto f) hP hx hb hK hi3 dX9_copy_22 hL (fun H locs hP hL => ?_)
      replace hP : P f z4 H := by rw [← ez4]; exact hP
      refine lv_iinc (v := (x4 + 1)) (lv' := [(4, .int (x4 + 1)), (0, .ref (ad 0)), (1, .int x1), (2, .ref (adto 0)), (3, .int x3)]) hx hb dX9_copy_23 hl (k := 4) rfl rfl (by decide) rfl (fun ls hl => ?_)
      refine lv_goto (tgt := 3) hx hb dX9_copy_26 (by decide) ?_
      exact ih f z4 x1 x3 (x4 + 1) _ _ _ hf hP hL (lv_sub hl [1, 2, 3, 4, 0] rfl)
def f_X9_copy (N : Nat) (nfrom : Nat) (nto : Nat) (f : (Nat → Int32)) (g : (Nat → Int32)) (p1 : Int32) (p3 : Int32) : Option (((Nat → Int32))) := f_X9_copy_b3 N N nfrom nto f g p1 p3 0
set_option maxHeartbeats 4000000 in
set_option maxRecDepth 100000 in
theorem c_X9_copy {l : Launch} {G : va_G} {cA : Nat → ClassId} {lo : Nat} {ad : Nat → Nat} {adto : Nat → Nat} {nfrom : Nat} {nto : Nat} {P : ((Nat → Int32)) → ((Nat → Int32)) → Heap → Prop} (hC : ∀ z : (Nat → Int32), cx G lo 1 ad (ceArr nfrom cA ad) (fun x => P x z)) (hCto : ∀ z : (Nat → Int32), cx G lo 1 adto (ceArr nto cA adto) (fun x => P z x)) {N : Nat} {f : (Nat → Int32)} {g : (Nat → Int32)} {p1 : Int32} {p3 : Int32} {res : ((Nat → Int32))} (hf : f_X9_copy N nfrom nto f g p1 p3 = some res) : Met l yX9_copy (cW yX9_copy cX9_copy 5 none) rm_X9_copy (cP [.ref (ad 0), .int p1, .ref (adto 0), .int p3] (P f g) G cA) (cQ none (P f res)) 0 0 (fun q => lo ≤ q) := by
  refine cx_met (by decide) (Nat.le_of_ble_eq_true rfl) (fun p e s m args below meth c ls C0 hP hl => ?_)
  have hl : lv_has ls 5 [(0, .ref (ad 0)), (1, .int p1), (2, .ref (adto 0)), (3, .int p3)] := hl
  obtain ⟨⟨hx, hb, hml, hown, hts⟩, hr, hlocks, hK⟩ := id C0
  have hL : ∀ q ∈ ([] : List Loc), lo ≤ q.base := fun q h => nomatch h
  unfold f_X9_copy at hf
  refine lv_iconst (v := 0) hx hb dX9_copy_0 (by decide) ?_
  refine lv_istore (lv' := [(4, .int 0), (0, .ref (ad 0)), (1, .int p1), (2, .ref (adto 0)), (3, .int p3)]) hx hb dX9_copy_1 hl (by decide) rfl (fun ls hl => ?_)
  exact w_X9_copy_b3 C0 hC hCto N f g p1 p3 0 _ _ _ hf hP hL (lv_sub hl [1, 2, 3, 4, 0] rfl)
def f_X9_copyM_0_2 (N : Nat) (μ : MdlS) (p1 p3 : Int32) : Option MdlS := (f_X9_copy N 1384 11072 (μ.1.1 0) (μ.1.1 2) p1 p3).bind fun g => some (oS μ.1 2 g, μ.2)
abbrev rm_X9_copyM_0_2 : Room := rm_X9_copy
theorem c_X9_copyM_0_2 {l : Launch} {G : va_G} {cA : Nat → ClassId} {lo : Nat} {ad : Nat → Nat} {P : MdlS → Heap → Prop} (hC : cx G lo 9 ad (ceModel cA ad) P) {N : Nat} {μ : MdlS} {p1 p3 : Int32} {res : MdlS} (hf : f_X9_copyM_0_2 N μ p1 p3 = some res) : Met l yX9_copy (cW yX9_copy cX9_copy 5 none) rm_X9_copy (cP [.ref (ad 1), .int p1, .ref (ad 3), .int p3] (P μ) G cA) (cQ none (P res)) 0 0 (fun q => lo ≤ q) := by
  obtain ⟨g, hg, hf⟩ := cx_b hf
  cases hf
  have h := c_X9_copy (l := l) (P := fun f g => P (oS (oS μ.1 0 f) 2 g, μ.2)) (nfrom := 1384) (nto := 11072) (f := μ.1.1 0) (g := μ.1.1 2) (fun z => by
    have e : (fun f => P (oS (oS μ.1 2 z) 0 f, μ.2)) = (fun f => P (oS (oS μ.1 0 f) 2 z, μ.2)) := by funext f; rw [oS_comm _ (show (0 : Nat) ≠ 2 by decide)]
    exact e ▸ cx_arrM_0 hC (oS μ.1 2 z, μ.2)) (fun z => cx_arrM_2 hC (oS μ.1 0 z, μ.2)) hg
  simp only [oS_id] at h
  exact h
def f_X9_copyM_0_1 (N : Nat) (μ : MdlS) (p1 p3 : Int32) : Option MdlS := (f_X9_copy N 1384 1384 (μ.1.1 0) (μ.1.1 1) p1 p3).bind fun g => some (oS μ.1 1 g, μ.2)
abbrev rm_X9_copyM_0_1 : Room := rm_X9_copy
theorem c_X9_copyM_0_1 {l : Launch} {G : va_G} {cA : Nat → ClassId} {lo : Nat} {ad : Nat → Nat} {P : MdlS → Heap → Prop} (hC : cx G lo 9 ad (ceModel cA ad) P) {N : Nat} {μ : MdlS} {p1 p3 : Int32} {res : MdlS} (hf : f_X9_copyM_0_1 N μ p1 p3 = some res) : Met l yX9_copy (cW yX9_copy cX9_copy 5 none) rm_X9_copy (cP [.ref (ad 1), .int p1, .ref (ad 2), .int p3] (P μ) G cA) (cQ none (P res)) 0 0 (fun q => lo ≤ q) := by
  obtain ⟨g, hg, hf⟩ := cx_b hf
  cases hf
  have h := c_X9_copy (l := l) (P := fun f g => P (oS (oS μ.1 0 f) 1 g, μ.2)) (nfrom := 1384) (nto := 1384) (f := μ.1.1 0) (g := μ.1.1 1) (fun z => by
    have e : (fun f => P (oS (oS μ.1 1 z) 0 f, μ.2)) = (fun f => P (oS (oS μ.1 0 f) 1 z, μ.2)) := by funext f; rw [oS_comm _ (show (0 : Nat) ≠ 1 by decide)]
    exact e ▸ cx_arrM_0 hC (oS μ.1 1 z, μ.2)) (fun z => cx_arrM_1 hC (oS μ.1 0 z, μ.2)) hg
  simp only [oS_id] at h
  exact h
def f_X9_copyM_1_0 (N : Nat) (μ : MdlS) (p1 p3 : Int32) : Option MdlS := (f_X9_copy N 1384 1384 (μ.1.1 1) (μ.1.1 0) p1 p3).bind fun g => some (oS μ.1 0 g, μ.2)
abbrev rm_X9_copyM_1_0 : Room := rm_X9_copy
theorem c_X9_copyM_1_0 {l : Launch} {G : va_G} {cA : Nat → ClassId} {lo : Nat} {ad : Nat → Nat} {P : MdlS → Heap → Prop} (hC : cx G lo 9 ad (ceModel cA ad) P) {N : Nat} {μ : MdlS} {p1 p3 : Int32} {res : MdlS} (hf : f_X9_copyM_1_0 N μ p1 p3 = some res) : Met l yX9_copy (cW yX9_copy cX9_copy 5 none) rm_X9_copy (cP [.ref (ad 2), .int p1, .ref (ad 1), .int p3] (P μ) G cA) (cQ none (P res)) 0 0 (fun q => lo ≤ q) := by
  obtain ⟨g, hg, hf⟩ := cx_b hf
  cases hf
  have h := c_X9_copy (l := l) (P := fun f g => P (oS (oS μ.1 1 f) 0 g, μ.2)) (nfrom := 1384) (nto := 1384) (f := μ.1.1 1) (g := μ.1.1 0) (fun z => by
    have e : (fun f => P (oS (oS μ.1 0 z) 1 f, μ.2)) = (fun f => P (oS (oS μ.1 1 f) 0 z, μ.2)) := by funext f; rw [oS_comm _ (show (1 : Nat) ≠ 0 by decide)]
    exact e ▸ cx_arrM_1 hC (oS μ.1 0 z, μ.2)) (fun z => cx_arrM_0 hC (oS μ.1 1 z, μ.2)) hg
  simp only [oS_id] at h
  exact h
def f_X9_copyM_2_0 (N : Nat) (μ : MdlS) (p1 p3 : Int32) : Option MdlS := (f_X9_copy N 11072 1384 (μ.1.1 2) (μ.1.1 0) p1 p3).bind fun g => some (oS μ.1 0 g, μ.2)
abbrev rm_X9_copyM_2_0 : Room := rm_X9_copy
theorem c_X9_copyM_2_0 {l : Launch} {G : va_G} {cA : Nat → ClassId} {lo : Nat} {ad : Nat → Nat} {P : MdlS → Heap → Prop} (hC : cx G lo 9 ad (ceModel cA ad) P) {N : Nat} {μ : MdlS} {p1 p3 : Int32} {res : MdlS} (hf : f_X9_copyM_2_0 N μ p1 p3 = some res) : Met l yX9_copy (cW yX9_copy cX9_copy 5 none) rm_X9_copy (cP [.ref (ad 3), .int p1, .ref (ad 1), .int p3] (P μ) G cA) (cQ none (P res)) 0 0 (fun q => lo ≤ q) := by
  obtain ⟨g, hg, hf⟩ := cx_b hf
  cases hf
  have h := c_X9_copy (l := l) (P := fun f g => P (oS (oS μ.1 2 f) 0 g, μ.2)) (nfrom := 11072) (nto := 1384) (f := μ.1.1 2) (g := μ.1.1 0) (fun z => by
    have e : (fun f => P (oS (oS μ.1 0 z) 2 f, μ.2)) = (fun f => P (oS (oS μ.1 2 f) 0 z, μ.2)) := by funext f; rw [oS_comm _ (show (2 : Nat) ≠ 0 by decide)]
    exact e ▸ cx_arrM_2 hC (oS μ.1 0 z, μ.2)) (fun z => cx_arrM_0 hC (oS μ.1 2 z, μ.2)) hg
  simp only [oS_id] at h
  exact h
def f_X9_copyM_0_3 (N : Nat) (μ : MdlS) (p1 p3 : Int32) : Option MdlS := (f_X9_copy N 1384 2768 (μ.1.1 0) (μ.1.1 3) p1 p3).bind fun g => some (oS μ.1 3 g, μ.2)
abbrev rm_X9_copyM_0_3 : Room := rm_X9_copy
theorem c_X9_copyM_0_3 {l : Launch} {G : va_G} {cA : Nat → ClassId} {lo : Nat} {ad : Nat → Nat} {P : MdlS → Heap → Prop} (hC : cx G lo 9 ad (ceModel cA ad) P) {N : Nat} {μ : MdlS} {p1 p3 : Int32} {res : MdlS} (hf : f_X9_copyM_0_3 N μ p1 p3 = some res) : Met l yX9_copy (cW yX9_copy cX9_copy 5 none) rm_X9_copy (cP [.ref (ad 1), .int p1, .ref (ad 4), .int p3] (P μ) G cA) (cQ none (P res)) 0 0 (fun q => lo ≤ q) := by
  obtain ⟨g, hg, hf⟩ := cx_b hf
  cases hf
  have h := c_X9_copy (l := l) (P := fun f g => P (oS (oS μ.1 0 f) 3 g, μ.2)) (nfrom := 1384) (nto := 2768) (f := μ.1.1 0) (g := μ.1.1 3) (fun z => by
    have e : (fun f => P (oS (oS μ.1 3 z) 0 f, μ.2)) = (fun f => P (oS (oS μ.1 0 f) 3 z, μ.2)) := by funext f; rw [oS_comm _ (show (0 : Nat) ≠ 3 by decide)]
    exact e ▸ cx_arrM_0 hC (oS μ.1 3 z, μ.2)) (fun z => cx_arrM_3 hC (oS μ.1 0 z, μ.2)) hg
  simp only [oS_id] at h
  exact h
def f_X9_copyM_3_0 (N : Nat) (μ : MdlS) (p1 p3 : Int32) : Option MdlS := (f_X9_copy N 2768 1384 (μ.1.1 3) (μ.1.1 0) p1 p3).bind fun g => some (oS μ.1 0 g, μ.2)
abbrev rm_X9_copyM_3_0 : Room := rm_X9_copy
theorem c_X9_copyM_3_0 {l : Launch} {G : va_G} {cA : Nat → ClassId} {lo : Nat} {ad : Nat → Nat} {P : MdlS → Heap → Prop} (hC : cx G lo 9 ad (ceModel cA ad) P) {N : Nat} {μ : MdlS} {p1 p3 : Int32} {res : MdlS} (hf : f_X9_copyM_3_0 N μ p1 p3 = some res) : Met l yX9_copy (cW yX9_copy cX9_copy 5 none) rm_X9_copy (cP [.ref (ad 4), .int p1, .ref (ad 1), .int p3] (P μ) G cA) (cQ none (P res)) 0 0 (fun q => lo ≤ q) := by
  obtain ⟨g, hg, hf⟩ := cx_b hf
  cases hf
  have h := c_X9_copy (l := l) (P := fun f g => P (oS (oS μ.1 3 f) 0 g, μ.2)) (nfrom := 2768) (nto := 1384) (f := μ.1.1 3) (g := μ.1.1 0) (fun z => by
    have e : (fun f => P (oS (oS μ.1 0 z) 3 f, μ.2)) = (fun f => P (oS (oS μ.1 3 f) 0 z, μ.2)) := by funext f; rw [oS_comm _ (show (3 : Nat) ≠ 0 by decide)]
    exact e ▸ cx_arrM_3 hC (oS μ.1 0 z, μ.2)) (fun z => cx_arrM_0 hC (oS μ.1 3 z, μ.2)) hg
  simp only [oS_id] at h
  exact h
