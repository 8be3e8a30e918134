def o0 : ObjS := (fun _ _ => 0, fun _ => 0)
def iBlk : ObjS := (fun s => match s with
  | 0 => bIni 200 iSt
  | _ => bIni 200 iM1, fun _ => 0)
def iTal : ObjS := (fun _ _ => 0, fun k => match k with
  | 9 => -1
  | 10 => -1
  | _ => 0)
def iCli : ObjS := (fun _ _ => 0, fun k => match k with
  | 2 => -1
  | _ => 0)
def iOwn : ObjS := (fun _ _ => 0, fun k => match k with
  | 10 => 4
  | 11 => 8
  | 12 => 6
  | 13 => 10
  | _ => 0)
def iTra : ObjS := (fun _ _ => 0, fun k => match k with
  | 7 => -1
  | _ => 0)
/-- a new cache -/
def iCac : CacS := fun k => match k with
  | 0 => iOwn
  | 1 => iBlk
  | 2 => iTal
  | 3 => o0
  | 4 => o0
  | 5 => o0
  | 6 => o0
  | 7 => o0
  | _ => iCli
def iHis : HisS := (o0, fun _ => iCac)
def iGL : GLS := (iTra, o0, iCac, iCac, iHis)
set_option maxRecDepth 100000 in
theorem lsX1_at {cA : Nat → ClassId} {b : Nat} : ∀ i, i < 25 → (lsX1 cA b)[i]? = some (ceCache cA (fun j => b + j) iCac i) := by
  intro i hi
  rcases (show i = 0 ∨ i = 1 ∨ i = 2 ∨ i = 3 ∨ i = 4 ∨ i = 5 ∨ i = 6 ∨ i = 7 ∨ i = 8 ∨ i = 9 ∨ i = 10 ∨ i = 11 ∨ i = 12 ∨ i = 13 ∨ i = 14 ∨ i = 15 ∨ i = 16 ∨ i = 17 ∨ i = 18 ∨ i = 19 ∨ i = 20 ∨ i = 21 ∨ i = 22 ∨ i = 23 ∨ i = 24 by omega) with rfl | rfl | rfl | rfl | rfl | rfl | rfl | rfl | rfl | rfl | rfl | rfl | rfl | rfl | rfl | rfl | rfl | rfl | rfl | rfl | rfl | rfl | rfl | rfl | rfl <;> rfl
theorem lsX1_len (cA : Nat → ClassId) (b : Nat) : (lsX1 cA b).length = 25 := rfl
theorem lsX7_at {cA : Nat → ClassId} {b : Nat} : ∀ i, i < 6 → (lsX7 cA b)[i]? = some (ceTrace cA (fun j => b + j) iTra i) := by
  intro i hi
  rcases (show i = 0 ∨ i = 1 ∨ i = 2 ∨ i = 3 ∨ i = 4 ∨ i = 5 by omega) with rfl | rfl | rfl | rfl | rfl | rfl <;> rfl
theorem lsX4_at {cA : Nat → ClassId} {b : Nat} : ∀ i, i < 2 → (lsX4 cA b)[i]? = some (cePage cA (fun j => b + j) o0 i) := by
  intro i hi
  rcases (show i = 0 ∨ i = 1 by omega) with rfl | rfl <;> rfl
def apps (f : Nat → List va_E) : Nat → List va_E
  | 0 => f 0
  | n + 1 => apps f n ++ f (n + 1)
theorem apps_len {f : Nat → List va_E} (h : ∀ k, (f k).length = 25) : ∀ n, (apps f n).length = 25 * (n + 1) := by
  intro n
  induction n with
  | zero => exact h 0
  | succ n ih => show (apps f n ++ f (n + 1)).length = _; rw [List.length_append, ih, h]; omega
theorem apps_at {f : Nat → List va_E} (h : ∀ k, (f k).length = 25) {r : Nat} (hr : r < 25) : ∀ n k, k ≤ n → (apps f n)[25 * k + r]? = (f k)[r]? := by
  intro n
  induction n with
  | zero => intro k hk; rw [show k = 0 by omega, show 25 * 0 + r = r by omega]; rfl
  | succ n ih =>
    intro k hk
    show (apps f n ++ f (n + 1))[25 * k + r]? = _
    by_cases e : k = n + 1
    · rw [e, List.getElem?_append_right (by rw [apps_len h]; omega), apps_len h, show 25 * (n + 1) + r - 25 * (n + 1) = r by omega]
    · rw [List.getElem?_append_left (by rw [apps_len h]; omega)]
      exact ih k (by omega)
theorem lsX3_len (cA : Nat → ClassId) (b : Nat) : (lsX3 cA b).length = 202 := by
  have e : lsX3 cA b = .inr (3, [.ref (b + 1), .int 0, .int 0]) :: .inl (cA 4, (8, .inr (.inr (.inr (.inr (fun j => some (b + (2 + 25 * j)))))))) :: apps (fun k => lsX1 cA (b + (2 + 25 * k))) 7 := rfl
  rw [e, List.length_cons, List.length_cons, apps_len (fun k => lsX1_len cA _)]
theorem lsX3_at {cA : Nat → ClassId} {b : Nat} : ∀ i, i < 202 → (lsX3 cA b)[i]? = some (ceHistory cA (fun j => b + j) iHis i) := by
  intro i hi
  unfold ceHistory
  by_cases h0 : i = 0
  · subst h0; rfl
  · by_cases h1 : i = 1
    · subst h1; rfl
    · rw [if_neg h0, if_neg h1]
      obtain ⟨k, r, hk, hr, rfl⟩ : ∃ k r, k < 8 ∧ r < 25 ∧ i = 2 + (25 * k + r) := ⟨(i - 2) / 25, (i - 2) % 25, by omega, by omega, by omega⟩
      have e : lsX3 cA b = .inr (3, [.ref (b + 1), .int 0, .int 0]) :: .inl (cA 4, (8, .inr (.inr (.inr (.inr (fun j => some (b + (2 + 25 * j)))))))) :: apps (fun k => lsX1 cA (b + (2 + 25 * k))) 7 := rfl
      rw [e, Nat.add_comm 2, List.getElem?_cons_succ, List.getElem?_cons_succ, apps_at (fun k => lsX1_len cA _) hr 7 k (by omega), lsX1_at r hr, show (25 * k + r + 2 - 2) / 25 = k by omega, show (25 * k + r + 2 - 2) % 25 = r by omega]
      refine congrArg (fun q => some (ceCache cA q iCac r)) (funext fun j => ?_)
      show b + (2 + 25 * k) + j = b + (2 + 25 * k + j)
      omega
/-- the addresses of a new object of the class: its row of what is saved comes last -/
def adGL (a : Nat) : Nat → Nat := fun i => if i = 0 then a else if i = 1 then a + 261 else a + (i - 1)
theorem adGL_2 (a k : Nat) : (fun i => adGL a (k + 2 + i)) = fun i => a + (k + 1) + i := funext fun i => by
  unfold adGL
  rw [if_neg (by omega), if_neg (by omega)]
  omega
theorem adGL_at (a i : Nat) (h : 2 ≤ i) : adGL a i = a + (i - 1) := by
  unfold adGL
  rw [if_neg (by omega), if_neg (by omega)]
theorem gl_new {G : va_G} {cA : Nat → ClassId} {a : Nat} {H0 H : Heap} (h : gr G (lsX8 cA a) a H0 H) : ∀ i, i < 262 → va_at G vwCl (adGL a i, ceGL (fun _ => none) cA (adGL a) iGL i) H := by
  intro i hi
  have e : lsX8 cA a = .inr (8, [.ref (a + 1), .ref (a + 7), .ref (a + 9), .ref (a + 34), .ref (a + 59), .ref (a + 261)]) :: (lsX7 cA (a + 1) ++ lsX4 cA (a + 7) ++ lsX1 cA (a + 9) ++ lsX1 cA (a + 34) ++ lsX3 cA (a + 59) ++ [.inl (cA 4, (2, .inr (.inr (.inr (.inr fun _ => none)))))]) := rfl
  have l7 : (lsX7 cA (a + 1)).length = 6 := rfl
  have l4 : (lsX4 cA (a + 7)).length = 2 := rfl
  have l1 : (lsX1 cA (a + 9)).length = 25 := rfl
  have l2 : (lsX1 cA (a + 34)).length = 25 := rfl
  have l3 : (lsX3 cA (a + 59)).length = 202 := lsX3_len cA _
  have m1 := List.length_append (as := lsX7 cA (a + 1)) (bs := lsX4 cA (a + 7))
  have m2 := List.length_append (as := lsX7 cA (a + 1) ++ lsX4 cA (a + 7)) (bs := lsX1 cA (a + 9))
  have m3 := List.length_append (as := lsX7 cA (a + 1) ++ lsX4 cA (a + 7) ++ lsX1 cA (a + 9)) (bs := lsX1 cA (a + 34))
  have m4 := List.length_append (as := lsX7 cA (a + 1) ++ lsX4 cA (a + 7) ++ lsX1 cA (a + 9) ++ lsX1 cA (a + 34)) (bs := lsX3 cA (a + 59))
  have key : ∀ (j : Nat) (x : va_E), (lsX8 cA a)[j]? = some x → va_at G vwCl (a + j, x) H := h.2.1
  unfold ceGL
  by_cases h0 : i = 0
  · subst h0
    exact key 0 _ rfl
  · rw [if_neg h0]
    by_cases h1 : i = 1
    · subst h1
      rw [if_pos rfl]
      refine key 261 _ ?_
      rw [e, List.getElem?_cons_succ, List.getElem?_append_right (by omega), show 260 - (lsX7 cA (a + 1) ++ lsX4 cA (a + 7) ++ lsX1 cA (a + 9) ++ lsX1 cA (a + 34) ++ lsX3 cA (a + 59)).length = 0 by omega]
      rfl
    · rw [if_neg h1, adGL_at a i (by omega)]
      refine key (i - 1) _ ?_
      obtain ⟨j, rfl⟩ : ∃ j, i = j + 2 := ⟨i - 2, by omega⟩
      rw [e, show j + 2 - 1 = j + 1 by omega, List.getElem?_cons_succ]
      by_cases h2 : j + 2 < 8
      · rw [if_pos h2, List.getElem?_append_left (by omega), List.getElem?_append_left (by omega), List.getElem?_append_left (by omega), List.getElem?_append_left (by omega), List.getElem?_append_left (by omega), lsX7_at j (by omega), show j + 2 - 2 = j by omega]
        exact congrArg (fun q => some (ceTrace cA q iTra j)) (adGL_2 a 0).symm
      · rw [if_neg h2]
        by_cases h3 : j + 2 < 10
        · rw [if_pos h3, List.getElem?_append_left (by omega), List.getElem?_append_left (by omega), List.getElem?_append_left (by omega), List.getElem?_append_left (by omega), List.getElem?_append_right (by omega), l7, lsX4_at (j - 6) (by omega), show j + 2 - 8 = j - 6 by omega]
          exact congrArg (fun q => some (cePage cA q o0 (j - 6))) (adGL_2 a 6).symm
        · rw [if_neg h3]
          by_cases h4 : j + 2 < 35
          · rw [if_pos h4, List.getElem?_append_left (by omega), List.getElem?_append_left (by omega), List.getElem?_append_left (by omega), List.getElem?_append_right (by omega), m1, l7, l4, lsX1_at (j - (6 + 2)) (by omega), show j + 2 - 10 = j - (6 + 2) by omega]
            exact congrArg (fun q => some (ceCache cA q iCac (j - (6 + 2)))) (adGL_2 a 8).symm
          · rw [if_neg h4]
            by_cases h5 : j + 2 < 60
            · rw [if_pos h5, List.getElem?_append_left (by omega), List.getElem?_append_left (by omega), List.getElem?_append_right (by omega), m2, m1, l7, l4, l1, lsX1_at (j - (6 + 2 + 25)) (by omega), show j + 2 - 35 = j - (6 + 2 + 25) by omega]
              exact congrArg (fun q => some (ceCache cA q iCac (j - (6 + 2 + 25)))) (adGL_2 a 33).symm
            · rw [if_neg h5, List.getElem?_append_left (by omega), List.getElem?_append_right (by omega), m3, m2, m1, l7, l4, l1, l2, lsX3_at (j - (6 + 2 + 25 + 25)) (by omega), show j + 2 - 60 = j - (6 + 2 + 25 + 25) by omega]
              exact congrArg (fun q => some (ceHistory cA q iHis (j - (6 + 2 + 25 + 25)))) (adGL_2 a 58).symm
