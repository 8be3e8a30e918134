/-! THE TRACE: its commands run -/
theorem aN_self (S : AS) (k : Nat) (v : Int32) : aN (uN S k v) k = v := by rw [aN_uN, if_pos rfl]
theorem aN_accT {S : AS} {c b : Nat} {w : Int32} : aN (aAcc S c b w) 5 = aN S 5 + 1 ∧ aN (aAcc S c b w) 6 = aN S 6 := by
  have e : ∀ j, j = 5 ∨ j = 6 → aN (aAcc S c b w) j = aN (aT0 (aCc (aRL S c b) c w (aK S b)) (aSc S c b)) j := fun j hj => by
    show aN (aMd (aS2 S c b w) b (aSc S c b)) j = _
    rw [aN_md (by omega) (by omega) (by omega) (by omega) (by omega) (by omega) (by omega)]
    show aN (uN (aT0 (aCc (aRL S c b) c w (aK S b)) (aSc S c b)) (14 + aK S b) (aN (aCc (aRL S c b) c w (aK S b)) (14 + aK S b) + 1)) j = _
    exact aN_ne (by omega)
  rw [e 5 (Or.inl rfl), e 6 (Or.inr rfl)]
  unfold aT0
  split
  · exact ⟨(aN_self _ _ _).trans rfl, (aN_ne (by decide)).trans rfl⟩
  · exact ⟨((aN_ne (by decide)).trans (aN_self _ _ _)).trans rfl, ((aN_ne (by decide)).trans (aN_ne (by decide))).trans rfl⟩
def EF (ν0 ν : MdlS) : Prop := (∀ k, k ≠ 0 → ν.1.1 k = ν0.1.1 k) ∧ ∀ k, k ≠ 19 → k ≠ 20 → ν.1.2 k = ν0.1.2 k
theorem EF.rf (ν : MdlS) : EF ν ν := ⟨fun _ _ => rfl, fun _ _ _ => rfl⟩
theorem EF.tr {a b c : MdlS} (h : EF a b) (g : EF b c) : EF a c := ⟨fun k hk => (g.1 k hk).trans (h.1 k hk), fun k hk hr => (g.2 k hk hr).trans (h.2 k hk hr)⟩
theorem EF.m {ν : MdlS} {a : Nat → Int32} {d e : Int32} : EF ν (mM ν a d e) := ⟨fun k hk => va_up_ne ν.1.1 a hk, fun k h1 h2 => (va_up_ne (va_up ν.1.2 19 d) e h2).trans (va_up_ne ν.1.2 d h1)⟩
section RR
variable {N : Nat}
theorem x_reads (hN : 2000 ≤ N) {c a e i : Nat} (hi : i < 40) (hc : c < 4) (he : e < 200) : ∀ r n1 n2 b K (γ : GLS) (ν : MdlS) (S : AS), b + r = e + 1 → r < n1 → r < n2 → Snap K γ.2.2.1 (ν.1.1 0) S → nI c < aN S 6 → ν.1.1 8 (4 * i + 1) = nI c → ν.1.1 8 (4 * i + 2) = nI a → ν.1.1 8 (4 * i + 3) = nI e → ∃ (σ : CacS) (ν' : MdlS) (S' : AS), f_X8_perform_b131 N n1 γ (nI e) (nI c) (nI b) = some (1, ((γ.1, γ.2.1, σ, γ.2.2.2) : GLS)) ∧ f_X9_runCommand_b74 N n2 ν (nI (4 * i)) (nI b) = some (nI e - nI a + 1, ν') ∧ EF ν ν' ∧ Snap (K + r) σ (ν'.1.1 0) S' ∧ aN S' 5 = aN S 5 + nI r := by
  intro r
  induction r with
  | zero =>
    intro n1 n2 b K γ ν S hr h1 h2 hS hn r1 r2 r3
    obtain ⟨n1, rfl⟩ : ∃ j, n1 = j + 1 := ⟨n1 - 1, by omega⟩
    obtain ⟨n2, rfl⟩ : ∃ j, n2 = j + 1 := ⟨n2 - 1, by omega⟩
    have w2 : nI (4 * i) + 2 = nI (4 * i + 2) := nI_add _ 2
    have w3 : nI (4 * i) + 3 = nI (4 * i + 3) := nI_add _ 3
    have q2 : ν.1.1 8 (Int32.toNatClampNeg (nI (4 * i) + 2)) = nI a := by rw [w2, nI_clamp (by omega)]; exact r2
    have q3 : ν.1.1 8 (Int32.toNatClampNeg (nI (4 * i) + 3)) = nI e := by rw [w3, nI_clamp (by omega)]; exact r3
    have lt : nI e < nI b := nI_lt (by omega) (by omega)
    refine ⟨γ.2.2.1, ν, S, ?_, ?_, EF.rf _, hS, ?_⟩
    · rw [f_X8_perform_b131]
      exact e_t lt rfl
    · rw [f_X9_runCommand_b74]
      exact e_g (4 * i + 3) w3 (by omega) (by decide) (e_t (by rw [q3]; exact lt) (e_g (4 * i + 3) w3 (by omega) (by decide) (e_g (4 * i + 2) w2 (by omega) (by decide) (by rw [q3, q2]))))
    · exact (Int32.add_zero _).symm
  | succ r ih =>
    intro n1 n2 b K γ ν S hr h1 h2 hS hn r1 r2 r3
    obtain ⟨n1, rfl⟩ : ∃ j, n1 = j + 1 := ⟨n1 - 1, by omega⟩
    obtain ⟨n2, rfl⟩ : ∃ j, n2 = j + 1 := ⟨n2 - 1, by omega⟩
    obtain ⟨hI, hC, hM, hK⟩ := id hS
    have hb : b < 200 := by omega
    have w1 : nI (4 * i) + 1 = nI (4 * i + 1) := nI_add _ 1
    have w3 : nI (4 * i) + 3 = nI (4 * i + 3) := nI_add _ 3
    have q1 : ν.1.1 8 (Int32.toNatClampNeg (nI (4 * i) + 1)) = nI c := by rw [w1, nI_clamp (by omega)]; exact r1
    have q3 : ν.1.1 8 (Int32.toNatClampNeg (nI (4 * i) + 3)) = nI e := by rw [w3, nI_clamp (by omega)]; exact r3
    have nlt : ¬ nI e < nI b := nI_nlt (by omega) (by omega)
    obtain ⟨t, c1, c2, c3, -⟩ := c_access (N := N) (w := 0) (by omega) hC hI hb hc hn
    obtain ⟨a', m1, m2⟩ := mok_e (f := fun μ => f_X9_access N μ (nI c) (nI b) (-1)) (m_read (μ := ν) (by omega) hM hI hb hc hn)
    generalize aDm (aM4 S c b) b (aSc S c b) (ν.1.2 19) = d9 at m1
    generalize aLe (aM4 S c b) b (aSc S c b) (ν.1.2 20) = e9 at m1
    have hi' := Inv_acc (w := 0) hI hb hc hn
    have hT := aN_accT (S := S) (c := c) (b := b) (w := 0)
    have hF : EF ν (mM ν a' d9 e9) := EF.m
    obtain ⟨σ, ν', S', g1, g2, g3, g4, g5⟩ := ih n1 n2 (b + 1) (K + 1) (γ.1, γ.2.1, t.2, γ.2.2.2) (mM ν a' d9 e9) (aAcc S c b 0) (by omega) (by omega) (by omega) ⟨hi', c3, m2, cnt_acc hK⟩ (by rw [hT.2]; exact hn) (by rw [hF.1 8 (by decide)]; exact r1) (by rw [hF.1 8 (by decide)]; exact r2) (by rw [hF.1 8 (by decide)]; exact r3)
    refine ⟨σ, ν', S', ?_, ?_, hF.tr g3, g4.mono (by omega), ?_⟩
    · rw [f_X8_perform_b131]
      refine e_f nlt (e_b c1 (e_l ?_))
      rw [nI_1]
      exact g1
    · rw [f_X9_runCommand_b74]
      refine e_g (4 * i + 3) w3 (by omega) (by decide) (e_f (by rw [q3]; exact nlt) (e_g (4 * i + 1) w1 (by omega) (by decide) (e_b (by rw [q1]; exact m1) ?_)))
      rw [nI_1]
      exact g2
    · rw [g5, hT.1, Int32.add_assoc, Int32.add_comm 1 (nI r), nI_1]
/-- one command: done by both, or its client is missing for both -/
theorem x_perf (hN : 2000 ≤ N) {i K : Nat} {γ : GLS} {ν : MdlS} {S : AS} (hi : i < 40) (hS : Snap K γ.2.2.1 (ν.1.1 0) S) (hC : CR (γ.1.1 0 i) (γ.1.1 1 i) (γ.1.1 2 i) (γ.1.1 3 i) (ν.1.1 8 (4 * i)) (ν.1.1 8 (4 * i + 1)) (ν.1.1 8 (4 * i + 2)) (ν.1.1 8 (4 * i + 3))) : (f_X8_perform N γ (nI i) = some (0, γ) ∧ ν.1.1 8 (4 * i) ≠ 2 ∧ f_X9_isClient ν (ν.1.1 8 (4 * i + 1)) = some 0) ∨ ∃ (y : Int32) (σ : CacS) (ν' : MdlS) (S' : AS), f_X8_perform N γ (nI i) = some (1, ((γ.1, γ.2.1, σ, γ.2.2.2) : GLS)) ∧ (ν.1.1 8 (4 * i) ≠ 2 → f_X9_isClient ν (ν.1.1 8 (4 * i + 1)) = some 1) ∧ f_X9_runCommand N ν (nI (4 * i)) = some (y, ν') ∧ EF ν ν' ∧ Snap (K + 200) σ (ν'.1.1 0) S' ∧ aN S' 5 = aN S 5 + y := by
  obtain ⟨hI, hCC, hM, hK⟩ := id hS
  have pa : ∀ j, j < 4 → (if nI i < 0 then some (-1) else if (40 : Int32) ≤ nI i then some (-1) else gd (nI i) 40 (some (γ.1.1 j (Int32.toNatClampNeg (nI i))))) = some (γ.1.1 j i) := fun j _ => e_f (nI_pos (by omega)) (e_f (nI_ge (b := 40) hi (by decide)) (e_g i rfl hi (by decide) (by rw [nI_clamp (by omega)])))
  have p0 : f_X7_partOf_0 γ.1 (nI i) = some (γ.1.1 0 i) := pa 0 (by decide)
  have p1 : f_X7_partOf_1 γ.1 (nI i) = some (γ.1.1 1 i) := pa 1 (by decide)
  have p2 : f_X7_partOf_2 γ.1 (nI i) = some (γ.1.1 2 i) := pa 2 (by decide)
  have p3 : f_X7_partOf_3 γ.1 (nI i) = some (γ.1.1 3 i) := pa 3 (by decide)
  have w1 : nI (4 * i) + 1 = nI (4 * i + 1) := nI_add _ 1
  have w2 : nI (4 * i) + 2 = nI (4 * i + 2) := nI_add _ 2
  have w3 : nI (4 * i) + 3 = nI (4 * i + 3) := nI_add _ 3
  have q0 : ν.1.1 8 (Int32.toNatClampNeg (nI (4 * i))) = ν.1.1 8 (4 * i) := by rw [nI_clamp (by omega)]
  have q1 : ν.1.1 8 (Int32.toNatClampNeg (nI (4 * i) + 1)) = ν.1.1 8 (4 * i + 1) := by rw [w1, nI_clamp (by omega)]
  have q2 : ν.1.1 8 (Int32.toNatClampNeg (nI (4 * i) + 2)) = ν.1.1 8 (4 * i + 2) := by rw [w2, nI_clamp (by omega)]
  have q3 : ν.1.1 8 (Int32.toNatClampNeg (nI (4 * i) + 3)) = ν.1.1 8 (4 * i + 3) := by rw [w3, nI_clamp (by omega)]
  obtain ⟨k, k1, k2, k3⟩ := id hI.1.2.2.2.1
  have o9 : (γ.2.2.1 0).2 9 = nI k := hCC.1.1.trans k1
  have cli : ∀ c, c < 4 → (nI c < aN S 6 → f_X9_isClient ν (nI c) = some 1) ∧ (¬ nI c < aN S 6 → f_X9_isClient ν (nI c) = some 0) := fun c hc => by
    have e6 : ν.1.1 0 6 = nI k := (hM.1 6 (by omega)).trans k1
    rw [k1]
    rcases r_client (γ := γ) o9 k2 (nI c) with ⟨c', hc', ec, -, e2⟩ | ⟨e1, e2⟩
    · refine ⟨fun _ => e2 ν e6, fun q => absurd ?_ q⟩
      rw [ec]
      exact nI_lt hc' (by omega)
    · refine ⟨fun q => ?_, fun _ => e2 ν e6⟩
      exfalso
      have e1' : f_X8_needClient γ (nI c) = some (.inl 0) := e1
      unfold f_X8_needClient f_X8_needIndex at e1'
      rw [o9, if_neg (nI_pos (by omega)), if_pos q] at e1'
      exact absurd e1' (by intro z; cases z)
  rcases hC with ⟨m, hm, x1, y1, x3, y2⟩ | ⟨c, a, v, hc, ha, hv, x1, y1, x2, y2, x3, y3, x4, y4⟩ | ⟨c, a, e, hc, hae, he, x1, y1, x2, y2, x3, y3, x4, y4⟩
  · right
    obtain ⟨t, c1, c2, c3⟩ := p0_writeBackSome (N := N) (most := nI m) (by omega) hCC.2.1 hI.1.2.2.2.2.1
    have hmm := m_writeBack (N := N) (most := nI m) (μ := ν) (d := ν.1.2 19) (e := ν.1.2 20) (by omega) (nI_le (by omega) (by decide)) hM hI.nu (hUA_UA S) hI.1.2.2.2.2.1
    rw [mM_eta] at hmm
    obtain ⟨t9, m1, m2, a', m3, m4⟩ := hmm
    refine ⟨0, va_up γ.2.2.1 1 t.2, mM ν a' (ν.1.2 19) (ν.1.2 20), (aWB (nI m) 200 0 S).2, e_b p0 (e_b p2 (e_b p3 (e_t x1 (e_b (by rw [x3]; exact c1) (e_l rfl))))), fun q => absurd y1 q, e_g (4 * i) rfl (by omega) (by decide) (e_t (q0.trans y1) (e_g (4 * i + 1) w1 (by omega) (by decide) (e_b (by rw [q1, y2]; exact m1) (by rw [m3])))), EF.m, ⟨Inv_WB _ _ _ hI, hCC.b c3 (sB_WB _ _ _), m4.weak (fun f x _ q => (UA_wu (S := S) _ _ _ f x).mp q), (cnt_eq hK (fun j hj => (sB_WB (most := nI m) 200 0 S).1 j (by omega) (by omega))).mono (by omega)⟩, ((sB_WB (most := nI m) 200 0 S).1 5 (by decide) (by decide)).trans (Int32.add_zero _).symm⟩
  · have n3 : ¬ γ.1.1 0 i = 3 := fun q => by rw [x1] at q; exact absurd q (by decide)
    have n2 : ¬ ν.1.1 8 (4 * i) = 2 := fun q => by rw [y1] at q; exact absurd q (by decide)
    by_cases hn : nI c < aN S 6
    · right
      obtain ⟨t, c1, c2, c3, -⟩ := c_access (N := N) (w := 1) (by omega) hCC hI ha hc hn
      have hw := acc_w0 (c := c) (w := 1) hI ha
      have hi1 := Inv_acc (w := 1) hI ha hc hn
      obtain ⟨t2, f1, f2, -⟩ := c_finish (N := N) (v := nI v) (by omega) c3 hi1 ha hw
      obtain ⟨a', m1, m2⟩ := mok_e (f := fun μ => f_X9_access N μ (nI c) (nI a) (nI v)) (m_write (μ := ν) (by omega) hM hI ha hc hn hv)
      refine ⟨1, t2, mM ν a' _ _, aFin (aAcc S c a 1) a (nI v), e_b p0 (e_b p2 (e_b p3 (e_f n3 (e_b p1 (e_t (by rw [x2, o9, ← k1]; exact hn) (e_t x1 (e_b (by rw [x2, x3]; exact c1) (e_l (e_b (by rw [x3, x4]; exact f1) (e_l rfl)))))))))), fun _ => by rw [y2]; exact (cli c hc).1 hn, e_g (4 * i) rfl (by omega) (by decide) (e_f (by rw [q0]; exact n2) (e_g (4 * i) rfl (by omega) (by decide) (e_t (q0.trans y1) (e_g (4 * i + 1) w1 (by omega) (by decide) (e_g (4 * i + 2) w2 (by omega) (by decide) (e_g (4 * i + 3) w3 (by omega) (by decide) (e_b (by rw [q1, q2, q3, y2, y3, y4]; exact m1) rfl))))))), EF.m, ⟨Inv_fin hi1 hw, f2, m2, (cnt_eq (cnt_acc hK) (fun j hj => aN_fin (by omega) (by omega))).mono (by omega)⟩, ?_⟩
      rw [aN_fin (by decide) (by decide)]
      exact (aN_accT).1
    · left
      exact ⟨e_b p0 (e_b p2 (e_b p3 (e_f n3 (e_b p1 (e_f (by rw [x2, o9, ← k1]; exact hn) rfl))))), n2, by rw [y2]; exact (cli c hc).2 hn⟩
  · have n3 : ¬ γ.1.1 0 i = 3 := fun q => by rw [x1] at q; exact absurd q (by decide)
    have n2' : ¬ γ.1.1 0 i = 2 := fun q => by rw [x1] at q; exact absurd q (by decide)
    have n2 : ¬ ν.1.1 8 (4 * i) = 2 := fun q => by rw [y1] at q; exact absurd q (by decide)
    have n1 : ¬ ν.1.1 8 (4 * i) = 1 := fun q => by rw [y1] at q; exact absurd q (by decide)
    by_cases hn : nI c < aN S 6
    · right
      obtain ⟨σ, ν', S', g1, g2, g3, g4, g5⟩ := x_reads hN (c := c) (a := a) (e := e) (i := i) hi hc he (e + 1 - a) N N a K γ ν S (by omega) (by omega) (by omega) hS hn y2 y3 y4
      have hy : nI e - nI a + 1 = nI (e + 1 - a) := by
        rw [pk_sub hae, nI_1]
        exact congrArg nI (by omega)
      rw [hy] at g2
      refine ⟨nI (e + 1 - a), σ, ν', S', e_b p0 (e_b p2 (e_b p3 (e_f n3 (e_b p1 (e_t (by rw [x2, o9, ← k1]; exact hn) (e_f n2' (by rw [x4, x2, x3]; exact g1))))))), fun _ => by rw [y2]; exact (cli c hc).1 hn, e_g (4 * i) rfl (by omega) (by decide) (e_f (by rw [q0]; exact n2) (e_g (4 * i) rfl (by omega) (by decide) (e_f (by rw [q0]; exact n1) (e_g (4 * i + 2) w2 (by omega) (by decide) (by rw [q2, y3]; exact g2))))), g3, g4.mono (by omega), g5⟩
    · left
      exact ⟨e_b p0 (e_b p2 (e_b p3 (e_f n3 (e_b p1 (e_f (by rw [x2, o9, ← k1]; exact hn) rfl))))), n2, by rw [y2]; exact (cli c hc).2 hn⟩
theorem x_runs (hN : 2000 ≤ N) {x2 : Int32} {k : Nat} (hk : k ≤ 40) : ∀ r n1 n2 i K (γ : GLS) (ν : MdlS) (S : AS), i + r = k → r + 1 < n1 → r < n2 → γ.1.2 4 = nI k → ν.1.2 9 = nI k → CmdOk k γ.1.1 (ν.1.1 8) → Snap K γ.2.2.1 (ν.1.1 0) S → ∃ (v : Int32) (σ : CacS) (ν' : MdlS) (S' : AS), f_X8_runTrace_b49 N n1 γ x2 1 (nI i) = some (v, ((γ.1, γ.2.1, σ, γ.2.2.2) : GLS)) ∧ f_X9_runTrace_b72 N n2 ν (aN S 5 - x2) (nI i) = some (v, ν') ∧ EF ν ν' ∧ Snap (K + 200 * r) σ (ν'.1.1 0) S' := by
  intro r
  induction r with
  | zero =>
    intro n1 n2 i K γ ν S hr h1 h2 g4 m9 hC hS
    obtain ⟨n1, rfl⟩ : ∃ j, n1 = j + 1 := ⟨n1 - 1, by omega⟩
    obtain ⟨n2, rfl⟩ : ∃ j, n2 = j + 1 := ⟨n2 - 1, by omega⟩
    have t0 : (γ.2.2.1 2).2 0 = aN S 5 := hS.2.1.2.2.1.1
    have le : nI k ≤ nI i := nI_le (by omega) (by omega)
    refine ⟨aN S 5 - x2, γ.2.2.1, ν, S, ?_, ?_, EF.rf _, hS⟩
    · rw [f_X8_runTrace_b49]
      exact e_t (by rw [g4]; exact le) (by rw [t0])
    · rw [f_X9_runTrace_b72]
      exact e_t (by rw [m9]; exact le) rfl
  | succ r ih =>
    intro n1 n2 i K γ ν S hr h1 h2 g4 m9 hC hS
    obtain ⟨n1, rfl⟩ : ∃ j, n1 = j + 2 := ⟨n1 - 2, by omega⟩
    obtain ⟨n2, rfl⟩ : ∃ j, n2 = j + 1 := ⟨n2 - 1, by omega⟩
    have t0 : (γ.2.2.1 2).2 0 = aN S 5 := hS.2.1.2.2.1.1
    have nle : ¬ nI k ≤ nI i := nI_ge (by omega) (by omega)
    have w0 : 4 * nI i = nI (4 * i) := pk_mul 4 i
    have w1 : nI (4 * i) + 1 = nI (4 * i + 1) := nI_add _ 1
    have cls : ∀ {z q}, f_X8_perform N γ (nI i) = some z → f_X8_runTrace_b49 N (n1 + 1) z.2 x2 z.1 (nI (i + 1)) = q → f_X8_runTrace_b49 N (n1 + 2) γ x2 1 (nI i) = q := fun {z q} a b => by
      rw [f_X8_runTrace_b49]
      refine e_f (by rw [g4]; exact nle) (e_f (by decide) (e_b a ?_))
      rw [nI_1]
      exact b
    have mdl : ∀ {x q}, (if ν.1.1 8 (4 * i) = 2 then f_X9_runTrace_b111 N (f_X9_runTrace_b72 N n2) ν x (nI i) (nI (4 * i)) else (f_X9_isClient ν (ν.1.1 8 (4 * i + 1))).bind fun r5 => if r5 = 0 then some (x, ν) else f_X9_runTrace_b111 N (f_X9_runTrace_b72 N n2) ν x (nI i) (nI (4 * i))) = q → f_X9_runTrace_b72 N (n2 + 1) ν x (nI i) = q := fun {x q} b => by
      rw [f_X9_runTrace_b72]
      refine e_f (by rw [m9]; exact nle) ?_
      rw [w0, w1, pu_gd (4 * i) rfl (by omega) (by decide), nI_clamp (by omega), pu_gd (4 * i + 1) rfl (by omega) (by decide), nI_clamp (by omega)]
      exact b
    rcases x_perf hN (i := i) (by omega) hS (hC i (by omega)) with ⟨a1, a2, a3⟩ | ⟨y, σ, ν', S', a1, a2, a3, a4, a5, a6⟩
    · refine ⟨aN S 5 - x2, γ.2.2.1, ν, S, cls a1 ?_, mdl (e_f a2 (e_b a3 (e_t rfl rfl))), EF.rf _, hS.mono (by omega)⟩
      rw [f_X8_runTrace_b49]
      by_cases c : γ.1.2 4 ≤ nI (i + 1)
      · exact e_t c (by rw [t0])
      · exact e_f c (e_t rfl (by rw [t0]))
    · obtain ⟨v, σ', ν'', S'', b1, b2, b3, b4⟩ := ih (n1 + 1) n2 (i + 1) (K + 200) (γ.1, γ.2.1, σ, γ.2.2.2) ν' S' (by omega) (by omega) (by omega) g4 (by rw [a4.2 9 (by decide) (by decide)]; exact m9) (by rw [a4.1 8 (by decide)]; exact hC) a5
      have go : f_X9_runTrace_b111 N (f_X9_runTrace_b72 N n2) ν (aN S 5 - x2) (nI i) (nI (4 * i)) = some (v, ν'') := by
        refine e_b a3 ?_
        rw [nI_1, show aN S 5 - x2 + y = aN S' 5 - x2 by rw [a6, Int32.sub_eq_add_neg, Int32.sub_eq_add_neg, Int32.add_assoc, Int32.add_comm (-x2) y, ← Int32.add_assoc]]
        exact b2
      refine ⟨v, σ', ν'', S'', cls a1 b1, mdl ?_, a4.tr b3, b4.mono (by omega)⟩
      by_cases c : ν.1.1 8 (4 * i) = 2
      · exact e_t c go
      · exact e_f c (e_b (a2 c) (e_f (by decide) go))
end RR
theorem RestOk.run {K : Nat} {γ γ' : GLS} {μ ν : MdlS} {κ : Nat → CacS} {ix : Nat → Option Nat} {nb : Nat} (h : RestOk K γ μ κ ix nb) (hη : HisOk K γ'.2.2.2.2 (ν.1.1 2) (ν.1.2 5)) (e2 : γ'.2.1 = γ.2.1) (h1 : ∀ k, k = 3 ∨ k = 4 ∨ k = 21 → ν.1.1 k = μ.1.1 k) (h2 : ν.1.2 22 = μ.1.2 22) (t5 : γ'.1.2 5 = 0) (t10 : ν.1.2 10 = 0) (t6 : γ'.1.2 6 = ν.1.2 16) (t7 : γ'.1.2 7 = ν.1.2 17) : RestOk K γ' ν κ ix nb := by
  obtain ⟨-, hs, ht, hp⟩ := h
  refine ⟨hη, ?_, ⟨⟨0, by decide, t5, t10, fun i hi => absurd hi (Nat.not_lt_zero _)⟩, t6, t7⟩, ?_⟩
  · rw [h1 3 (by decide), h1 4 (by decide)]; exact hs
  · unfold PagOk
    rw [e2, h1 21 (by decide), h2]
    exact hp
theorem s_runTrace {N K L : Nat} (hN : 20000 ≤ N) (hL : K + 8000 ≤ L) : Sim_runTrace N (TopK K) (TopK L) := by
  intro γ μ κ ix nb h
  obtain ⟨⟨S, hS⟩, hR⟩ := id h
  obtain ⟨hH, hs, ⟨⟨n, n1, n2, n3, n4⟩, -, -⟩, hp⟩ := id hR
  have htx : TX n (fun i => (γ.1.1 8 i).toNatClampNeg) (oI (oI (oI (oI γ.1 4 0) 9 0) 6 0) 7 (-1)) ((oI (oI (oI (oI (oI μ.1 6 0) 16 0) 17 (-1)) 11 0) 9 0, μ.2) : MdlS) := by
    refine ⟨n1, n2, n3, fun i hi => ?_⟩
    obtain ⟨v, hv, v1, v2⟩ := n4 i hi
    show (γ.1.1 8 i).toNatClampNeg < 256 ∧ γ.1.1 8 i = nI (γ.1.1 8 i).toNatClampNeg ∧ μ.1.1 7 i = nI (γ.1.1 8 i).toNatClampNeg
    rw [v1, nI_clamp (by omega)]
    exact ⟨hv, rfl, v2⟩
  obtain ⟨τ1, ν1, x1, x2, x3, x4⟩ := x_next (N := N) (p := 0) (by omega) htx (Nat.zero_le _) rfl rfl
  have hP : PS N n (fun i => (γ.1.1 8 i).toNatClampNeg) 0 τ1 ν1 := ⟨x3.tx htx, x4, (x3.2.1 6 (by decide) (by decide) (by decide) (by decide)).trans rfl, (x3.2.2.2 16 (by decide) (by decide) (by decide) (by decide) (by decide)).trans rfl, (x3.2.1 7 (by decide) (by decide) (by decide) (by decide)).trans rfl, (x3.2.2.2 17 (by decide) (by decide) (by decide) (by decide) (by decide)).trans rfl, (x3.2.1 4 (by decide) (by decide) (by decide) (by decide)).trans rfl, (x3.2.2.2 9 (by decide) (by decide) (by decide) (by decide) (by decide)).trans rfl, fun i hi => absurd hi (Nat.not_lt_zero _)⟩
  obtain ⟨g, τ2, ν2, y1, y2, y3, y4⟩ := l_parse (by omega) 41 N N 0 τ1 ν1 rfl (by omega) (by omega) (by omega) hP
  have hF := x3.mf.tr y3
  have hparse : f_X7_parse N γ.1 = some (g, τ2) := e_l (e_l (e_l (e_l (e_b x1 y1))))
  have hmod : f_X9_runTrace N μ = f_X9_runTrace_b50 N ν2 := e_l (e_l (e_l (e_l (e_l (e_b x2 y2)))))
  have r0 : ν2.1.1 0 = μ.1.1 0 := hF.1 0 (by decide)
  have r2 : ν2.1.1 2 = μ.1.1 2 := hF.1 2 (by decide)
  have r3 : ν2.1.1 3 = μ.1.1 3 := hF.1 3 (by decide)
  have r4 : ν2.1.1 4 = μ.1.1 4 := hF.1 4 (by decide)
  have r21 : ν2.1.1 21 = μ.1.1 21 := hF.1 21 (by decide)
  have i5 : ν2.1.2 5 = μ.1.2 5 := (hF.2 5 (by decide) (by decide)).trans rfl
  have i22 : ν2.1.2 22 = μ.1.2 22 := (hF.2 22 (by decide) (by decide)).trans rfl
  have rows : ∀ k, k = 3 ∨ k = 4 ∨ k = 21 → ν2.1.1 k = μ.1.1 k := fun k hk => by
    rcases hk with rfl | rfl | rfl
    · exact r3
    · exact r4
    · exact r21
  rcases y4 with ⟨rfl, k, hk, hQ⟩ | ⟨rfl, hE⟩
  · obtain ⟨-, -, t6, t16, t7, t17, t4, t9, hC⟩ := hQ
    have hS2 : Snap K γ.2.2.1 (((oI ν2.1 10 0, ν2.2) : MdlS).1.1 0) S := by
      show Snap K γ.2.2.1 (ν2.1.1 0) S
      rw [r0]; exact hS
    have hH2 : HisOk K γ.2.2.2.2 (((oI ν2.1 10 0, ν2.2) : MdlS).1.1 2) (((oI ν2.1 10 0, ν2.2) : MdlS).1.2 5) := by
      show HisOk K γ.2.2.2.2 (ν2.1.1 2) (ν2.1.2 5)
      rw [r2, i5]; exact hH
    obtain ⟨η, ν3, g1, g2, g3, g4, g5, g6⟩ := top_begin hN hS2 hH2
    have hS3 : Snap K γ.2.2.1 (ν3.1.1 0) S := by rw [g4 0 (by decide)]; exact hS2
    have t0 : (γ.2.2.1 2).2 0 = aN S 5 := hS.2.1.2.2.1.1
    obtain ⟨v, σ, ν4, S4, b1, b2, b3, b4⟩ := x_runs (N := N) (x2 := aN S 5) (by omega) hk k N N 0 K ((oI τ2 5 0, γ.2.1, γ.2.2.1, γ.2.2.2.1, η) : GLS) ν3 S (by omega) (by omega) (by omega) t4 (by rw [g5 9 (by decide)]; exact t9) (by rw [g4 8 (by decide)]; exact hC) hS3
    rw [Int32.sub_self] at b2
    refine ⟨v, (oI τ2 5 0, γ.2.1, σ, γ.2.2.2.1, η), ν4, e_b hparse (e_l (e_l (e_f (show ¬ (1 : Int32) = 0 by decide) (e_b g1 (e_l ?_))))), hmod.trans (e_l (e_b (fn_t t16) (e_f (by decide) (e_b g2 b2)))), ⟨S4, b4.mono (by omega)⟩, ?_⟩
    · show f_X8_runTrace_b49 N N ((oI τ2 5 0, γ.2.1, γ.2.2.1, γ.2.2.2.1, η) : GLS) ((γ.2.2.1 2).2 0) 1 0 = _
      rw [t0]
      exact b1
    · refine (RestOk.run (γ' := (oI τ2 5 0, γ.2.1, σ, γ.2.2.2.1, η)) (ν := ν4) hR ?_ rfl (fun k hk => ?_) ?_ rfl ?_ ?_ ?_).mono (by omega)
      · rw [b3.1 2 (by decide), b3.2 5 (by decide) (by decide)]; exact g3
      · rw [b3.1 k (by omega), g4 k (by omega)]; exact rows k hk
      · rw [b3.2 22 (by decide) (by decide), g5 22 (by decide)]; exact i22
      · rw [b3.2 10 (by decide) (by decide), g5 10 (by decide)]; rfl
      · rw [b3.2 16 (by decide) (by decide), g5 16 (by decide)]; exact t6.trans t16.symm
      · rw [b3.2 17 (by decide) (by decide), g5 17 (by decide)]; exact t7.trans t17.symm
  · refine ⟨-1, (oI τ2 5 0, γ.2), (oI ν2.1 10 0, ν2.2), e_b hparse (e_l (e_l (e_t rfl rfl))), hmod.trans (e_l (e_b (fn_f (by have := hE.1; rw [← hE.2.1] at this; exact this)) (e_t rfl rfl))), ⟨S, ?_⟩, ?_⟩
    · show Snap L γ.2.2.1 (ν2.1.1 0) S
      rw [r0]; exact hS.mono (by omega)
    · refine (RestOk.run (γ' := (oI τ2 5 0, γ.2)) (ν := (oI ν2.1 10 0, ν2.2)) hR ?_ rfl rows i22 rfl rfl hE.2.1.symm hE.2.2).mono (by omega)
      show HisOk K γ.2.2.2.2 (ν2.1.1 2) (ν2.1.2 5)
      rw [r2, i5]; exact hH
