/-! THE START -/
def st_S : Sta := ((fun _ => 0, fun _ => 0, fun _ => 0, fun _ => 0, fun _ => 0), 0, 0, 0)
def st_A : Abs := ((0, fun _ => 0), ((0, 0, 0), (0, 0), fun _ => 0, fun _ => 0, fun _ => 0, fun _ => 0, fun _ => 0, fun _ => 0), (0, 0, fun _ => []), (0, fun _ => 0, fun _ _ => 0), (st_S, fun _ _ => 0), (0, fun _ => st_S, 0), (0, st_S, fun _ _ => 0), (0, fun _ => (0, 0, 0, 0)), 2, fun _ => 0)
theorem sC_z {j k : Nat} (h : ¬ (j = 21 ∧ k = 5)) (h2 : ¬ (j = 0 ∧ k = 14)) : lw_sC.1 j k = 0 := by
  unfold lw_sC
  rw [up_get, if_neg h2, up_get, if_neg h]
  rfl
theorem sM_z {j k : Nat} (h : ¬ (j = 0 ∧ (k = 36 ∨ k = 37))) : lw_sM.1 j k = 0 := by
  unfold lw_sM
  rw [up_get, if_neg (by omega), up_get, if_neg (by omega)]
  rfl
theorem st_ok' : okA st_A := ⟨⟨Nat.zero_le _, fun k hk => absurd hk (Nat.not_lt_zero _)⟩, ⟨Nat.zero_le _, Nat.zero_le _, Nat.zero_le _, fun _ => ⟨rfl, rfl⟩, fun h => absurd rfl h, fun k hk => absurd hk (Nat.not_lt_zero _), fun k hk => absurd hk (Nat.not_lt_zero _), fun k hk => absurd hk (Nat.not_lt_zero _)⟩, ⟨Nat.zero_le _, Nat.le_refl _, fun k hk => absurd hk (Nat.not_lt_zero _)⟩, ⟨Nat.zero_le _, fun k hk => absurd hk (Nat.not_lt_zero _)⟩, fun _ => ⟨rfl, rfl, rfl, rfl⟩, fun h => absurd rfl h, ⟨Nat.zero_le _, fun k hk => absurd hk (Nat.not_lt_zero _), fun k hk => absurd hk (Nat.not_lt_zero _), fun a _ => Or.inl rfl⟩, Nat.zero_le _, ⟨Nat.zero_le _, fun h => absurd rfl h⟩, ⟨Nat.zero_le _, fun k hk => absurd hk (Nat.not_lt_zero _)⟩, by decide⟩
theorem rw_start : Rel lw_sC lw_sM := by
  refine ⟨st_A, st_ok', ⟨⟨sC_z (by omega) (by omega), fun k hk => absurd hk (Nat.not_lt_zero _)⟩, ⟨sC_z (by omega) (by omega), sC_z (by omega) (by omega), sC_z (by omega) (by omega), fun h => absurd rfl h, fun k hk => absurd hk (Nat.not_lt_zero _), fun k hk => absurd hk (Nat.not_lt_zero _), fun k hk => absurd hk (Nat.not_lt_zero _)⟩, ⟨sC_z (by omega) (by omega), ?_, fun k hk => absurd hk (Nat.not_lt_zero _)⟩, ⟨sC_z (by omega) (by omega), fun k hk => absurd hk (Nat.not_lt_zero _)⟩, fun h => absurd rfl h, sC_z (by omega) (by omega), fun e h1 h2 => ?_, ⟨sC_z (by omega) (by omega), 0, by decide, sC_z (by omega) (by omega), fun k hk => absurd hk (Nat.not_lt_zero _)⟩, ⟨sC_z (by omega) (by omega), fun h => absurd rfl h⟩, ⟨sC_z (by omega) (by omega), fun k hk => absurd hk (Nat.not_lt_zero _)⟩, ?_, fun k hk => sC_z (by omega) (by omega)⟩, ⟨⟨sM_z (by omega), fun k hk => absurd hk (Nat.not_lt_zero _)⟩, ⟨sM_z (by omega), sM_z (by omega), sM_z (by omega), fun h => absurd rfl h, fun k hk => absurd hk (Nat.not_lt_zero _), fun k hk => absurd hk (Nat.not_lt_zero _), fun k hk => absurd hk (Nat.not_lt_zero _)⟩, ⟨sM_z (by omega), ?_, fun k hk => absurd hk (Nat.not_lt_zero _)⟩, ⟨sM_z (by omega), fun k hk => absurd hk (Nat.not_lt_zero _)⟩, fun h => absurd rfl h, sM_z (by omega), ⟨sM_z (by omega), fun k hk => absurd hk (Nat.not_lt_zero _)⟩, ⟨sM_z (by omega), fun k hk => absurd hk (Nat.not_lt_zero _)⟩, ⟨sM_z (by omega), fun h => absurd rfl h⟩, ⟨sM_z (by omega), fun k hk => absurd hk (Nat.not_lt_zero _)⟩, ?_, fun k hk => sM_z (by omega)⟩⟩
  · show lw_sC.1 21 5 = -1
    unfold lw_sC
    rw [up_ne (by decide), up_at]
  · exfalso
    have h1 : 0 < e := h1
    have h2 : e ≤ 0 := h2
    omega
  · show lw_sC.1 0 14 = 2
    unfold lw_sC
    rw [up_at]
  · show lw_sM.1 0 36 = -1
    unfold lw_sM
    rw [up_nk (by decide), up_at]
  · show lw_sM.1 0 37 = 2
    unfold lw_sM
    rw [up_at]
theorem rw_ops : lw_Ops Rel := ⟨lw_O0_ok, lw_O1_ok, lw_O2_ok, lw_O3_ok, lw_O4_ok, lw_O5_ok, lw_O6_ok, lw_O7_ok, lw_O8_ok, lw_O9_ok, lw_O10_ok, lw_O11_ok, lw_O12_ok, lw_O13_ok, lw_O14_ok, lw_O15_ok, lw_O16_ok, lw_O17_ok, lw_O18_ok, lw_O19_ok, lw_O20_ok, lw_O21_ok, lw_O22_ok, lw_O23_ok, lw_O24_ok, lw_O25_ok, lw_O26_ok, lw_O27_ok, lw_O28_ok, lw_O29_ok, lw_O30_ok, lw_O31_ok, lw_O32_ok, lw_O33_ok, lw_O34_ok, lw_O35_ok, lw_O36_ok, lw_O37_ok, lw_O38_ok, lw_O39_ok⟩
