/-! BOTH SIDES AT THE START, all operations, the law's own start -/
def S0 : AS := (fun k => if k = 0 then 4 else if k = 1 then 8 else if k = 2 then 6 else if k = 3 then 10 else 0, fun _ => [], fun _ f => if f = 2 then -1 else 0, fun f b => if f = 5 then iSt b else -1)
theorem S0_6 : aN S0 6 = nI 0 := rfl
theorem S0_inv : Inv S0 := by
  refine ⟨⟨fun l _ => ⟨List.nodup_nil, fun x hx => nomatch hx⟩, ⟨10, rfl, by decide, by decide, Nat.zero_le _⟩, ⟨6, rfl, by decide, by decide, Nat.zero_le _, Nat.zero_le _, Nat.zero_le _, 0, rfl, by decide⟩, ⟨0, rfl, by decide, fun c hc => absurd hc (Nat.not_lt_zero _)⟩, ⟨rfl, (by decide : (0 : Nat) < 200)⟩, ⟨4, rfl, by decide, by decide⟩, ⟨8, rfl, by decide⟩⟩, fun x hx => ?_⟩
  have nn : ∀ {l : Nat}, l < 5 → ¬ (-1 : Int32) = nI l := fun {l} hl q => by
    rcases (show l = 0 ∨ l = 1 ∨ l = 2 ∨ l = 3 ∨ l = 4 by omega) with rfl | rfl | rfl | rfl | rfl <;> exact absurd q (by decide)
  refine ⟨fun l hl => ⟨fun q => (nomatch q), fun q => absurd q (nn (by omega))⟩, Or.inl rfl, fun l hl => ⟨fun q => (nomatch q), fun q => absurd q (nn (by omega))⟩, Or.inl rfl, fun _ => ⟨rfl, rfl, rfl⟩, fun _ => rfl, fun q => absurd rfl q⟩
theorem S0_nn {c : Nat} (hc : c < 4) : ¬ nI c < aN S0 6 := by
  rw [S0_6]
  exact nI_nlt (Nat.zero_le _) (by omega)
theorem S0_c : RepC iCac S0 E0 := by
  refine ⟨⟨rfl, rfl, rfl, rfl, rfl, rfl⟩, ⟨rfl, rfl, fun b hb => ⟨fun _ => if_pos hb, if_pos hb, if_pos hb, if_pos hb, if_pos hb, if_pos hb⟩⟩, ⟨rfl, rfl, rfl, rfl, rfl, rfl, rfl, rfl, rfl⟩, fun l hl => ?_, fun c hc hn => absurd hn (S0_nn hc)⟩
  rcases (show l = 0 ∨ l = 1 ∨ l = 2 ∨ l = 3 ∨ l = 4 by omega) with rfl | rfl | rfl | rfl | rfl <;> exact ⟨Nat.zero_le _, rfl, fun i hi => absurd hi (Nat.not_lt_zero _)⟩
theorem S0_m : RepM ((iMo (iMd 200)).1.1 0) S0 (UA S0) := by
  show RepM (iMd 200) S0 (UA S0)
  refine ⟨fun k hk => ?_, fun l hl => ⟨Nat.zero_le _, ?_, fun i hi => absurd hi (Nat.not_lt_zero _)⟩, fun c hc hn => absurd hn (S0_nn hc), fun b hb => ⟨?_, fun f hf q => ?_⟩⟩
  · show iMd 200 k = (if k = 0 then 4 else if k = 1 then 8 else if k = 2 then 6 else if k = 3 then 10 else 0)
    unfold iMd
    rw [if_neg (show ¬ (184 ≤ k ∧ k < 184 + 5 * 200) by omega), if_neg (show ¬ (1184 ≤ k ∧ k < 1184 + 200) by omega)]
  · unfold iMd
    rw [if_neg (show ¬ 7 + l = 0 by omega), if_neg (show ¬ 7 + l = 1 by omega), if_neg (show ¬ 7 + l = 2 by omega), if_neg (show ¬ 7 + l = 3 by omega), if_neg (show ¬ (184 ≤ 7 + l ∧ 7 + l < 184 + 5 * 200) by omega), if_neg (show ¬ (1184 ≤ 7 + l ∧ 7 + l < 1184 + 200) by omega)]
    rfl
  · unfold iMd
    rw [if_neg (show ¬ 1184 + b = 0 by omega), if_neg (show ¬ 1184 + b = 1 by omega), if_neg (show ¬ 1184 + b = 2 by omega), if_neg (show ¬ 1184 + b = 3 by omega), if_neg (show ¬ (184 ≤ 1184 + b ∧ 1184 + b < 184 + 5 * 200) by omega), if_pos (show 1184 ≤ 1184 + b ∧ 1184 + b < 1184 + 200 by omega), show 1184 + b - 1184 = b by omega]
    rfl
  · rcases q with rfl | rfl | q
    · unfold iMd
      rw [if_neg (show ¬ 184 + 5 * b + 0 = 0 by omega), if_neg (show ¬ 184 + 5 * b + 0 = 1 by omega), if_neg (show ¬ 184 + 5 * b + 0 = 2 by omega), if_neg (show ¬ 184 + 5 * b + 0 = 3 by omega), if_pos (show 184 ≤ 184 + 5 * b + 0 ∧ 184 + 5 * b + 0 < 184 + 5 * 200 by omega), if_neg (by omega)]
      rfl
    · unfold iMd
      rw [if_neg (show ¬ 184 + 5 * b + 4 = 0 by omega), if_neg (show ¬ 184 + 5 * b + 4 = 1 by omega), if_neg (show ¬ 184 + 5 * b + 4 = 2 by omega), if_neg (show ¬ 184 + 5 * b + 4 = 3 by omega), if_pos (show 184 ≤ 184 + 5 * b + 4 ∧ 184 + 5 * b + 4 < 184 + 5 * 200 by omega), if_neg (by omega)]
      rfl
    · exact absurd rfl q
theorem top_start : TopK 0 iGL (iMo (iMd 200)) (fun _ => iCac) (fun _ => none) 0 := by
  refine ⟨⟨S0, S0_inv, S0_c, S0_m, 0, 0, rfl, rfl, Nat.le_refl _⟩, ⟨0, 0, by decide, by decide, rfl, rfl, rfl, fun i hi => absurd hi (Nat.not_lt_zero _)⟩, ⟨fun s k h => (nomatch h), fun s t k h => (nomatch h), fun s hs => ⟨fun _ => rfl, fun k h => (nomatch h)⟩⟩, ⟨⟨0, by decide, rfl, rfl, fun i hi => absurd hi (Nat.not_lt_zero _)⟩, rfl, rfl⟩, ⟨0, by decide, rfl, rfl, fun i hi => absurd hi (Nat.not_lt_zero _)⟩⟩
theorem sim_all {K L : Nat} (hL : K + 8000 ≤ L) (hK : K + 1000 < 2 ^ 31) : SimAll 20000 (TopK K) (TopK L) :=
  ⟨s_appendText (by omega) (by omega), s_truncateText (by omega), s_runTrace (by omega) (by omega), s_errorCode (by omega), s_errorPosition (by omega), s_addClient (by omega) (by omega), s_setWeight (by omega) (by omega), s_set (by omega) (by omega), s_shape (by omega) (by omega), s_count (by omega) (by omega), s_client (by omega) (by omega), s_block (by omega) (by omega), s_at (by omega), s_read (by omega) (by omega), s_write (by omega) (by omega), s_flush (by omega) (by omega), s_forget (by omega) (by omega), s_share (by omega) (by omega), s_hitShare (by omega), s_order (by omega) (by omega), s_victim (by omega) (by omega), s_leaving (by omega) (by omega), s_oldest (by omega) (by omega), s_ages (by omega) (by omega), s_ownedAt (by omega) (by omega), s_excess (by omega) (by omega), s_toScan (by omega), s_rank (by omega) (by omega), s_between (by omega) (by omega), s_longest (by omega) (by omega), s_differing (by omega) (by omega), s_stale (by omega) (by omega), s_wouldBe (by omega) (by omega), s_ahead (by omega) (by omega), s_bestLength (by omega) (by omega) (by omega), s_show (by omega) (by omega), s_output (by omega), s_undo (by omega) (by omega), s_save (by omega) (by omega), s_restore (by omega) (by omega)⟩
theorem whole_start {p : Program} {e : Env} {s : State} {m : MethodId} {below : List Frame} {meth : Method} {c : Code} (l : Launch) (hflags : l.flags = flags0) {b L : Nat} {xs : Nat → Int32} (hL : L ≤ 3072) (C0 : lw_At p s m meth c b L xs) : W p l e room_1 s m #[Value.ref b] below meth c s.heap [] 0 0 (lw_Z below #[Value.ref b] s) (entryFrame m ([Value.ref b] : List Value).toArray 10) := by
  have hl0 : l.stackTraces = false := by
    unfold Launch.stackTraces
    rw [hflags]
    decide +kernel
  exact law_entry l hl0 hL C0 (N := 20000) (Tof := fun j => TopK (8000 * j)) (fun j hj => sim_all (by omega) (by omega)) (fun j γ μ κ ix nb h => h.mono (by omega)) top_start
