/-! accesses() and foretells() of the law, out of their stages -/
def f_L_accesses (N : Nat) (z : ZS) (δ : LwS) : Option (Int32 × LwS) := f_L_accesses_b0 N (fun z δ x1 x2 x4 x5 x6 x7 x8 x9 x10 x11 => (f_L_accesses_b220 N 6 z δ (fun _ => 0) x1 x2 x4 x5 x6 x7 x8 x9 x10 x11).bind fun r => some (r.1, r.2.1)) z δ
set_option maxHeartbeats 8000000 in
set_option maxRecDepth 100000 in
theorem c_L_accesses {l : Launch} {G : va_G} {cA : Nat → ClassId} {lo : Nat} {z : ZS} {ad : Nat → Nat} {sv : Nat → Option Nat} {P : LwS → Heap → Prop} (hC : cx G lo 264 ad (ceLaw z.1 sv cA ad) P) (hA : locA1 P) {N : Nat} {δ : LwS} {res : Int32 × LwS} (hf : f_L_accesses N z δ = some res) : Met l yL_accesses (cW yL_accesses cL_accesses 17 (some .boolean)) rm_L_accesses (cPZ lo z [.ref (ad 0)] (P δ) G cA) (cQ (some (.int res.1)) (P res.2)) 1 6 (fun q => lo ≤ q) := by
  refine cx_metZ (by decide) (Nat.le_of_ble_eq_true rfl) (fun p e s m args below meth c ls C0 hZ hP hl => ?_)
  have hl : lv_has ls 17 [(0, .ref (ad 0))] := hl
  obtain ⟨⟨hx, hb, hml, hown, hts⟩, hr, hlocks, hK⟩ := id C0
  have hL : ∀ q ∈ ([] : List Loc), lo ≤ q.base := fun q h => nomatch h
  unfold f_L_accesses at hf
  refine w_L_accesses_b0 C0 hZ hC (fun δ x1 x2 x4 x5 x6 x7 x8 x9 x10 x11 H locs ls hf hP hL hl => ?_) δ s.heap [] ls hf hP hL hl
  obtain ⟨r, q, hf⟩ := cx_b hf
  cases hf
  obtain ⟨ho, hlo⟩ := cx_out hC hP (by decide)
  refine lv_bipush (v := 6) hx hb dL_accesses_216 (by decide) ?_
  refine cx_newi (PH := P δ) (N' := 6) hx hb hts mw_13 hK hP (fun H1 hz hq => hC.2.2.2 δ _ H1 hP hz hq) (by decide) rfl (by decide) (by decide) (by decide) dL_accesses_218 (fun H1 hP1 hz hat => ?_)
  exact W_post (w_L_accesses_b220 C0 hZ (P := P2 G cA P H.size 6) (adhad := fun _ => H.size) (nhad := 6) (fun f => cx_by hC ho f) (fun x => cx_row1 hlo (hA δ H hP x) (fun H H1 h a b => hC.2.2.2 x H H1 h a b)) δ (fun _ => 0) x1 x2 x4 x5 x6 x7 x8 x9 x10 x11 H1 locs ls q ⟨hP1, hat⟩ hL hl) (MQ_post (fun H h => h.1))
def cPZn (lo : Nat) (z : ZS) (av : List Value) (PH : Heap → Prop) (G : va_G) (cA : Nat → ClassId) : Array Value → State → Prop := va_Pc av (fun U => PH U.heap ∧ cKn G cA U ∧ Zt lo z U)
theorem zn_met {l : Launch} {y : MethodName} {rm : Room} {av : List Value} {PH : Heap → Prop} {G : va_G} {cA : Nat → ClassId} {z : ZS} {Qc : Array Value → State → Outcome → State → Prop} {mc ms lo : Nat} {cc : ByteArray} {maxL : Nat} {ret : Option FieldType} (hy : plainName y.cls = true) (hlen : (lg_sl av).length ≤ maxL)
    (body : ∀ (p : Program) (e : Env) (s : State) (m : MethodId) (args : Array Value) (below : List Frame) (meth : Method) (c : Code) (ls : Array Slot), cB p s m args meth c y.cls cc maxL ret G cA → cKn G cA s → Zt lo z s → PH s.heap → lv_has ls maxL (lv_args 0 av) →
      W p l e rm s m args below meth c s.heap [] 0 0 (MQ below Qc args s mc ms (fun q => lo ≤ q)) (F0 m 0 ls [])) : Met l y (cW y cc maxL ret) rm (cPZn lo z av PH G cA) Qc mc ms (fun q => lo ≤ q) := by
  refine Met.ofW (cc := cc) (maxL := maxL) (ret := ret) hy rfl ?_
  intro p e s m args below meth c s₁ B hml hv
  obtain ⟨rfl, hP, hK, hZ⟩ := hv
  have hts := atoms_spec (ws := cW y cc maxL ret) B.pre
  have hl := lv_entry av (n := maxL) hlen
  rw [lg_entry_eq]
  exact body p e s m _ below meth c _ ⟨⟨B.exec, B.bytes, hml, findClass_of_methodNamed B.named, fun w hw => hts w (List.mem_cons_of_mem _ hw)⟩, B.returns, B.notSynchronized, hK.1⟩ hK hZ hP hl
theorem cPZn_preV {lo : Nat} {z : ZS} {s : State} {H : Heap} {As : List Value} {PH : Heap → Prop} {G : va_G} {cA : Nat → ClassId} {locs : List Loc} {C : String} {T : u_T} {N ci b : Nat} {fs : List Value} (hK : cKn G cA s) (hZ : Zt lo z s) (hS : va_S (fun q => lo ≤ q) s.heap H locs) (hP : PH H) (hc : vwCl[ci]? = some (C, T, N)) (hat : va_at G vwCl (b, .inr (ci, fs)) H) : PreV s H C b (cPZn lo z (.ref b :: As) PH G cA) As := by
  refine ⟨fun a U g mk q => ?_, va_recv hK.1 (cx_one hat) hc (q0 := 0) rfl, fun U hU hW => ⟨rfl, by rw [hU]; exact hP, cKn.moved hW.alike hK, Zt.go hW (by rw [hU]; exact Nat.lt_of_lt_of_le hZ.2.1 hS.1) (by rw [hU]; exact hS.2.1) hZ⟩⟩
  obtain ⟨q0, q1, q2, q3⟩ := q
  exact ⟨q0, q1, cKn.moved (u := U) (U := U.calling g mk a) (Vm.Alike.refl U.vm) q2, Zt.eq (s := U) (U := U.calling g mk a) rfl rfl q3⟩
def f_L_foretells (N : Nat) (bs : Option Nat) (z : ZS) (δ : LwS) (κ : CacS) : Option (Int32 × LwS × CacS) :=
  f_L_foretells_b0 N (fun z δ x1 x2 x3 x4 x5 x6 x7 => f_L_foretells_b67 N (fun nits z δ h x1 x2 x3 x4 x5 x6 x7 => f_L_foretells_b73 N (fun nits nat z δ h g x1 x2 x3 x4 x5 x6 x7 => (f_X8_save N bs δ.2.2.2.1 κ 1).bind fun k => (f_L_foretells_b181 N nits nat z δ h g k x1 x2 x3 x4 x5 x6 x7).bind fun r => some (r.1, r.2.1, r.2.2.2.2)) nits 7 z δ h (fun _ => 0) x1 x2 x3 x4 x5 x6 x7) 7 z δ (fun _ => 0) x1 x2 x3 x4 x5 x6 x7) z δ
theorem BW_wr {G : va_G} {cA : Nat → ClassId} {H0 : Heap} {Fz Fy : Nat → Prop} {lo sa aL aN aG a : Nat} {bs : Option Nat} {β : BigS} (D : BD Fz lo aL aN aG bs) (ha : Fz a) (hy : ∀ q, Fy q → q ≠ a) {H H1 : Heap} (hP : BW G cA H0 Fy sa aL aN aG bs β H) (hz : H1.size = H.size) (hq : ∀ q : Nat, q ≠ a → H1[q]? = H[q]?) : BW G cA H0 Fy sa aL aN aG bs β H1 :=
  ⟨fun i hi => (hP.1 i hi).kept (hq _ (fun e => (D.1 i hi).2 (by rw [show adBig aL aN aG bs i = a from e]; exact ha))), fun q hf => ⟨by rw [hz]; exact (hP.2 q hf).1, (hq q (hy q hf)).trans (hP.2 q hf).2⟩⟩
set_option maxHeartbeats 16000000 in
set_option maxRecDepth 100000 in
theorem c_L_foretells {l : Launch} {G : va_G} {cA : Nat → ClassId} {H0 : Heap} {lo : Nat} {z : ZS} {aL aN aG : Nat} {bs : Option Nat} (D : BD (fun q => q < lo) lo aL aN aG bs) {N : Nat} {δ : LwS} {κ : CacS} {res : Int32 × LwS × CacS} (hf : f_L_foretells N bs z δ κ = some res) : Met l yL_foretells (cW yL_foretells cL_foretells 12 (some .boolean)) rm_L_foretells (cPZn lo z [.ref aL] (BW G cA H0 (fun q => q < lo) z.1 aL aN aG bs (δ, κ)) G cA) (cQ (some (.int res.1)) (fun H => ∃ b, BD (fun q => q < lo) lo aL aN aG (some b) ∧ BW G cA H0 (fun q => q < lo) z.1 aL aN aG (some b) res.2 H)) 27 1418 (fun q => lo ≤ q) := by
  refine zn_met (by decide) (Nat.le_of_ble_eq_true rfl) (fun p e s m args below meth c ls C0 hN hZ hP hl => ?_)
  have hl : lv_has ls 12 [(0, .ref aL)] := hl
  obtain ⟨⟨hx, hb, hml, hown, hts⟩, hr, hlocks, hK⟩ := id C0
  have hL : ∀ q ∈ ([] : List Loc), lo ≤ q.base := fun q h => nomatch h
  have hC := BW_L (G := G) (cA := cA) (H0 := H0) (sa := z.1) D κ
  have hA := BW_loc (G := G) (cA := cA) (H0 := H0) (Fz := fun q => q < lo) (sa := z.1) (aL := aL) (aN := aN) (aG := aG) (bs := bs) κ
  unfold f_L_foretells at hf
  refine w_L_foretells_b0 C0 hZ hC (fun δ x1 x2 x3 x4 x5 x6 x7 H locs ls hf hP hL hl => ?_) δ s.heap [] ls hf hP hL hl
  obtain ⟨ho1, -⟩ := cx_out (BW_cx D) hP (Nat.lt_of_lt_of_le (by decide) (nB_ge bs))
  obtain ⟨ho, hlo⟩ := cx_out hC hP (by decide)
  have hP0 := hP
  generalize ha1 : H.size = a1 at ho ho1 hlo
  refine lv_bipush (v := 7) hx hb dL_foretells_63 (by decide) ?_
  refine cx_newi (PH := BW G cA H0 (fun q => q < lo) z.1 aL aN aG bs (δ, κ)) (N' := 7) hx hb hts mw_13 hK hP (fun H1 hz hq => hC.2.2.2 δ _ H1 hP hz hq) (by decide) rfl (by decide) (by decide) (by decide) dL_foretells_65 (fun H1 hP1 hz1 hat => ?_)
  rw [ha1] at hat hz1 ⊢
  have hw1 : ∀ x H H1, BW G cA H0 (fun q => q < lo) z.1 aL aN aG bs (x, κ) H → H1.size = H.size → (∀ q : Nat, q ≠ a1 → H1[q]? = H[q]?) → BW G cA H0 (fun q => q < lo) z.1 aL aN aG bs (x, κ) H1 := fun x H9 H8 h hz hq => hA δ H hP0 x H9 H8 h hz (by rw [ha1]; exact hq)
  have hC2 : ∀ f : F1, cx G lo 264 (adLw aL aN aG) (ceLaw z.1 (svB bs) cA (adLw aL aN aG)) (fun x => P2 G cA (fun δ => BW G cA H0 (fun q => q < lo) z.1 aL aN aG bs (δ, κ)) a1 7 x f) := fun f => cx_by hC ho f
  have hI2 : ∀ x : LwS, cx G lo 1 (fun _ => a1) (ceArr 7 cA (fun _ => a1)) (fun f => P2 G cA (fun δ => BW G cA H0 (fun q => q < lo) z.1 aL aN aG bs (δ, κ)) a1 7 x f) := fun x => cx_row1 hlo (hw1 x) (fun H H1 h a b => hC.2.2.2 x H H1 h a b)
  have hA2 : locA2 (P2 G cA (fun δ => BW G cA H0 (fun q => q < lo) z.1 aL aN aG bs (δ, κ)) a1 7) := by rw [← ha1]; exact locA_2 hA hP0
  refine w_L_foretells_b67 C0 hZ (P := P2 G cA (fun δ => BW G cA H0 (fun q => q < lo) z.1 aL aN aG bs (δ, κ)) a1 7) (adits := fun _ => a1) hC2 hI2 (fun δ h x1 x2 x3 x4 x5 x6 x7 H locs ls hf hP hL hl => ?_) δ (fun _ => 0) x1 x2 x3 x4 x5 x6 x7 H1 locs ls hf ⟨hP1, hat⟩ hL hl
  obtain ⟨ho2, hlo2⟩ := cx_out (hC2 h) hP (by decide)
  have hne : a1 < H.size := at_lt hP.2
  obtain ⟨ho3, -⟩ := cx_out (BW_cx D) hP.1 (Nat.lt_of_lt_of_le (by decide) (nB_ge bs))
  have hPb := hP
  generalize ha2 : H.size = a2 at ho2 hlo2 hne ho3
  refine lv_bipush (v := 7) hx hb dL_foretells_69 (by decide) ?_
  refine cx_newi (PH := P2 G cA (fun δ => BW G cA H0 (fun q => q < lo) z.1 aL aN aG bs (δ, κ)) a1 7 δ h) (N' := 7) hx hb hts mw_13 hK hP (fun H1 hz hq => (hC2 h).2.2.2 δ _ H1 hP hz hq) (by decide) rfl (by decide) (by decide) (by decide) dL_foretells_71 (fun H1 hP1 hz2 hat => ?_)
  rw [ha2] at hat hz2 ⊢
  refine w_L_foretells_b73 C0 hZ (P := P3 G cA (P2 G cA (fun δ => BW G cA H0 (fun q => q < lo) z.1 aL aN aG bs (δ, κ)) a1 7) a2 7) (adits := fun _ => a1) (adat := fun _ => a2) (fun f g => cx_by (hC2 f) ho2 g) (fun x g => cx_by (hI2 x) (fun i hi => (by omega)) g) (fun x f => cx_row1 hlo2 (fun H9 H8 h9 hz hq => hA2 δ h H hPb x f H9 H8 h9 hz (by rw [ha2]; exact hq)) (fun H H1 h a b => (hC2 f).2.2.2 x H H1 h a b)) (fun δ h g x1 x2 x3 x4 x5 x6 x7 H locs ls hf hP hL hl => ?_) δ h (fun _ => 0) x1 x2 x3 x4 x5 x6 x7 H1 locs ls hf ⟨hP1, hat⟩ hL hl
  obtain ⟨k, hk, hf⟩ := cx_b hf
  obtain ⟨r, hrr, hf⟩ := cx_b hf
  cases hf
  obtain ⟨⟨hBW, hat1⟩, hat2⟩ := hP
  have hz1 : a1 < H.size := at_lt hat1
  have hz2 : a2 < H.size := at_lt hat2
  have D' : BD (fun q => q < lo ∨ q = a1 ∨ q = a2) lo aL aN aG bs := ⟨fun i hi => ⟨(D.1 i hi).1, fun q => q.elim (D.1 i hi).2 (fun q => q.elim (ho1 i hi) (ho3 i hi))⟩, D.2⟩
  have hBW' : BW G cA H (fun q => q < lo ∨ q = a1 ∨ q = a2) z.1 aL aN aG bs (δ, κ) H := ⟨hBW.1, fun q hq => ⟨by rcases hq with hq | hq | hq <;> omega, rfl⟩⟩
  refine lv_aload_n hx hb dL_foretells_168 rfl (lv_at hl 0 rfl) ?_
  refine g_Law_0 hC hBW hx hb hts hown hK mw_12 dL_foretells_169 ?_
  refine lv_iconst (v := 1) hx hb dL_foretells_172 (by decide) ?_
  refine cx_call (vx_runSW (As := [.ref aG, .int 1]) (rest := []) ⟨hx, hb, hml, hown, hts⟩ (c_L_save D' hk) (vx_cwSW 2 hts (gSWx mw_747 mw_748 mw_2 mw_749) rfl rfl rfl hd_L_save.2 ⟨Nat.le_of_ble_eq_true rfl, Nat.le_of_ble_eq_true rfl⟩) (cPn_preS hN hBW') rfl rfl hl.1 rfl (lv_room (Nat.le_of_ble_eq_true rfl)) dL_foretells_173 ⟨by decide, by decide⟩) hL (fun H9 locs hP hL => ?_)
  obtain ⟨b, D2, hB2⟩ := hP
  refine lv_if_eq (tgt := 181) hx hb dL_foretells_176 (by decide) (fun _ => ?_) (fun c9 => absurd rfl c9)
  have D3 : BD (fun q => q < lo) lo aL aN aG (some b) := ⟨fun i hi => ⟨(D2.1 i hi).1, fun q => (D2.1 i hi).2 (Or.inl q)⟩, D2.2⟩
  have hB3 : BW G cA H0 (fun q => q < lo) z.1 aL aN aG (some b) (δ, k) H9 := ⟨hB2.1, fun q hq => ⟨(hB2.2 q (Or.inl hq)).1, ((hB2.2 q (Or.inl hq)).2).trans (hBW.2 q hq).2⟩⟩
  have hat1' := at_keep hat1 (hB2.2 a1 (Or.inr (Or.inl rfl))).2
  have hat2' := at_keep hat2 (hB2.2 a2 (Or.inr (Or.inr rfl))).2
  have hn1 : ∀ i, i < nB (some b) → adBig aL aN aG (some b) i ≠ a1 := fun i hi q => (D2.1 i hi).2 (Or.inr (Or.inl q))
  have hn2 : ∀ i, i < nB (some b) → adBig aL aN aG (some b) i ≠ a2 := fun i hi q => (D2.1 i hi).2 (Or.inr (Or.inr q))
  have hm1 : ∀ i, i < 264 → adLw aL aN aG i ≠ a1 := fun i hi => by have := hn1 i (by show i < 289; omega); rwa [ad_L hi] at this
  have hm2 : ∀ i, i < 264 → adLw aL aN aG i ≠ a2 := fun i hi => by have := hn2 i (by show i < 289; omega); rwa [ad_L hi] at this
  have hk1 : ∀ i, i < 25 → b + i ≠ a1 := fun i hi => by have := hn1 (264 + i) (by show 264 + i < 289; omega); rwa [ad_S] at this
  have hk2 : ∀ i, i < 25 → b + i ≠ a2 := fun i hi => by have := hn2 (264 + i) (by show 264 + i < 289; omega); rwa [ad_S] at this
  have hCC (k : CacS) := BW_L (G := G) (cA := cA) (H0 := H0) (sa := z.1) D3 k
  refine W_post (w_L_foretells_b181 C0 hZ (P := fun x f g k H => (BW G cA H0 (fun q => q < lo) z.1 aL aN aG (some b) (x, k) H ∧ va_at G vwCl (a1, .inl (cA 0, (7, .inl f))) H) ∧ va_at G vwCl (a2, .inl (cA 0, (7, .inl g))) H) (adits := fun _ => a1) (adat := fun _ => a2) (adkept := fun j => b + j) (fun f g k => cx_by (cx_by (hCC k) hm1 f) hm2 g) (fun x g k => cx_by (cx_row1 hlo (fun H9 H8 h9 hz hq => BW_wr D2 (Or.inr (Or.inl rfl)) (fun q hq => by omega) h9 hz hq) (fun H H1 h a b => (hCC k).2.2.2 x H H1 h a b)) (fun i hi => by omega) g) (fun x f k => cx_row1 (PH := fun H => BW G cA H0 (fun q => q < lo) z.1 aL aN aG (some b) (x, k) H ∧ va_at G vwCl (a1, .inl (cA 0, (7, .inl f))) H) hlo2 (fun H9 H8 h9 hz hq => ⟨BW_wr D2 (Or.inr (Or.inr rfl)) (fun q hq => by omega) h9.1 hz hq, at_keep h9.2 (hq a1 (by omega))⟩) (fun H H1 h a b => ⟨(hCC k).2.2.2 x H H1 h.1 a b, at_keep h.2 (b a1 (at_lt h.2))⟩)) (fun x f g => cx_by (cx_by (BW_S D3 x) hk1 f) hk2 g) rfl δ h g k x1 x2 x3 x4 x5 x6 x7 H9 locs ls hrr ⟨⟨hB3, hat1'⟩, hat2'⟩ hL hl) (MQ_post (fun H h => ⟨b, D3, h.1.1⟩))
