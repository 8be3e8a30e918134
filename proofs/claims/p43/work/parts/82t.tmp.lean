/-! rows of ints that a method makes for itself: they stand beside the world -/
theorem W_post {p : Program} {l : Launch} {e : Env} {R : Room} {s : State} {m : MethodId} {args : Array Value} {below : List Frame} {meth : Method} {c : Code} {H : Heap} {locs : List Loc} {cells slots : Nat} {Q Q' : State → Prop} {g : JFrame} (h : W p l e R s m args below meth c H locs cells slots Q g) (hq : ∀ t, Q t → Q' t) : W p l e R s m args below meth c H locs cells slots Q' g := fun T hT X => by
  obtain ⟨t, a, b⟩ := h T hT X
  exact ⟨t, a, hq t b⟩
theorem MQ_post {below : List Frame} {v : Option Value} {PH PH' : Heap → Prop} {a : Array Value} {s : State} {mc ms : Nat} {free : Addr → Prop} (h : ∀ H, PH H → PH' H) : ∀ t, MQ below (cQ v PH) a s mc ms free t → MQ below (cQ v PH') a s mc ms free t := fun t ht => by
  obtain ⟨o, h1, h2, ⟨h3, h4⟩, L, h5, h6⟩ := ht
  exact ⟨o, h1, h2, ⟨h3, h _ h4⟩, L, h5, h6⟩
theorem cx_newi {p : Program} {l : Launch} {e : Env} {R : Room} {s : State} {m : MethodId} {args : Array Value} {below : List Frame} {meth : Method} {c : Code} {H : Heap} {locs : List Loc} {cells slots : Nat} {Q : State → Prop} {cc : ByteArray} {pc : Nat} {ls : Array Slot} {rest : List Value} {G : va_G} {cA : Nat → ClassId} {PH : Heap → Prop} (hx : p.tables.exec = Jvm.exec) (hb : c.code = cc) (hts : ∀ w ∈ WL, w.before args s = true) (harr : Cond.arrayClass .int ∈ WL) (hK : cK G cA s) (hP : PH H) (hG : ∀ H1 : Heap, H.size ≤ H1.size → (∀ q : Nat, q < H.size → H1[q]? = H[q]?) → PH H1) {x : Int32} {N' : Nat} (hx0 : ¬ x < 0) (hN : x.toNatClampNeg = N') (hbytes : N' * componentBytes .int ≤ 536870912) (hcells : cells + 1 ≤ R.cells) (hslots : slots + N' ≤ R.slots) (hdg : decode cc pc = .ok (.newarray .int, 2))
    (kk : ∀ H1 : Heap, PH H1 → H.size < H1.size → va_at G vwCl (H.size, .inl (cA 0, (N', .inl fun _ => 0))) H1 → W p l e R s m args below meth c H1 locs (cells + 1) (slots + N') Q (F0 m (pc + 2) ls (.ref H.size :: rest))) : W p l e R s m args below meth c H locs cells slots Q (F0 m pc ls (.int x :: rest)) := by
  refine va_newaK (atype := .int) hx hb (hts _ harr) rfl hdg rfl hx0 hN hbytes hcells hslots rfl fun H1 cB e1 z1 o1 hAr hNm => ?_
  have hB : cB = cA 0 := Option.some.inj (hNm.symm.trans (va_nm_int (hK.2 0 _ rfl).2))
  subst hB
  exact kk H1 (hG H1 (by omega) o1) (by omega) (show H1[H.size]? = some (vp_cell (cA 0) (N', .inl fun _ => 0)) from e1)
abbrev F1 : Type := Nat → Int32
/-- what is written at a place that is behind the world's end leaves the world as it is -/
def locA1 (P : LwS → Heap → Prop) : Prop := ∀ x0 H0, P x0 H0 → ∀ x H H1, P x H → H1.size = H.size → (∀ q : Nat, q ≠ H0.size → H1[q]? = H[q]?) → P x H1
def locA2 (P : LwS → F1 → Heap → Prop) : Prop := ∀ x0 f0 H0, P x0 f0 H0 → ∀ x f H H1, P x f H → H1.size = H.size → (∀ q : Nat, q ≠ H0.size → H1[q]? = H[q]?) → P x f H1
def P2 (G : va_G) (cA : Nat → ClassId) (P : LwS → Heap → Prop) (a n : Nat) : LwS → F1 → Heap → Prop := fun x f H => P x H ∧ va_at G vwCl (a, .inl (cA 0, (n, .inl f))) H
def P3 (G : va_G) (cA : Nat → ClassId) (P : LwS → F1 → Heap → Prop) (a n : Nat) : LwS → F1 → F1 → Heap → Prop := fun x f g H => P x f H ∧ va_at G vwCl (a, .inl (cA 0, (n, .inl g))) H
theorem at_keep {G : va_G} {cA : Nat → ClassId} {a n : Nat} {f : F1} {H H1 : Heap} (h : va_at G vwCl (a, .inl (cA 0, (n, .inl f))) H) (hq : H1[a]? = H[a]?) : va_at G vwCl (a, .inl (cA 0, (n, .inl f))) H1 := by
  show H1[a]? = _
  rw [hq]
  exact h
theorem at_lt {G : va_G} {cA : Nat → ClassId} {a n : Nat} {f : F1} {H : Heap} (h : va_at G vwCl (a, .inl (cA 0, (n, .inl f))) H) : a < H.size := (Array.getElem?_eq_some_iff.mp (show H[a]? = _ from h)).1
section TMP
variable {G : va_G} {cA : Nat → ClassId} {lo N : Nat} {ad : Nat → Nat} {a n : Nat}
/-- one context beside a row that stands behind the world's end -/
theorem cx_by {S : Type} {cell : S → Nat → va_E} {P : S → Heap → Prop} (h : cx G lo N ad cell P) (ha : ∀ i, i < N → ad i ≠ a) (f : F1) : cx G lo N ad cell (fun x H => P x H ∧ va_at G vwCl (a, .inl (cA 0, (n, .inl f))) H) :=
  ⟨fun x H hP i hi => h.1 x H hP.1 i hi, h.2.1, fun x x' H H1 i hi hP hz hq hat hc => ⟨h.2.2.1 x x' H H1 i hi hP.1 hz hq hat hc, at_keep hP.2 (hq a (fun e => ha i hi e.symm))⟩, fun x H H1 hP hz hq => ⟨h.2.2.2 x H H1 hP.1 hz hq, at_keep hP.2 (hq a (at_lt hP.2))⟩⟩
theorem cx_row1 {PH : Heap → Prop} (hlo : lo ≤ a) (hw : ∀ H H1, PH H → H1.size = H.size → (∀ q : Nat, q ≠ a → H1[q]? = H[q]?) → PH H1) (hg : ∀ H H1 : Heap, PH H → H.size ≤ H1.size → (∀ q : Nat, q < H.size → H1[q]? = H[q]?) → PH H1) : cx G lo 1 (fun _ => a) (ceArr n cA (fun _ => a)) (fun f H => PH H ∧ va_at G vwCl (a, .inl (cA 0, (n, .inl f))) H) :=
  ⟨fun f H hP i hi => hP.2, fun i hi => hlo, fun f f' H H1 i hi hP hz hq hat hc => ⟨hw H H1 hP.1 hz hq, hat⟩, fun f H H1 hP hz hq => ⟨hg H H1 hP.1 hz hq, at_keep hP.2 (hq a (at_lt hP.2))⟩⟩
theorem cx_out {S : Type} {cell : S → Nat → va_E} {P : S → Heap → Prop} (h : cx G lo N ad cell P) {x : S} {H : Heap} (hP : P x H) (hN : 0 < N) : (∀ i, i < N → ad i ≠ H.size) ∧ lo ≤ H.size := by
  refine ⟨fun i hi e => ?_, ?_⟩
  · have := (h.1 x H hP i hi).lt
    simp only at this
    omega
  · have h1 := (h.1 x H hP 0 hN).lt
    have h2 := h.2.1 0 hN
    simp only at h1
    omega
theorem locA_2 {P : LwS → Heap → Prop} (hA : locA1 P) {x : LwS} {H : Heap} (hP : P x H) {n : Nat} : locA2 (P2 G cA P H.size n) := fun x0 f0 H0 h0 x f H9 H1 hP9 hz hq =>
  ⟨hA x0 H0 h0.1 x H9 H1 hP9.1 hz hq, at_keep hP9.2 (hq _ (fun e => by have := at_lt h0.2; omega))⟩
end TMP
