/-! CLAUSES in a row -/
def clW (T : Nat × (Nat → Nat)) : Nat → Nat → (Nat → Nat → Nat) → Bool × Nat × (Nat → Nat → Nat)
  | 0, a, D => (false, a, D)
  | f + 1, a, D => if clK T a < 9 ∧ D 0 (ckI (clK T a)) < itX (clK T a) then (if (clR T a).1 = true then (if T.1 ≤ (clR T a).2.1 then (true, (clR T a).2.1, kpD (clK T a) (clR T a).2.2 D) else if T.2 (clR T a).2.1 = 59 then clW T f ((clR T a).2.1 + 1) (kpD (clK T a) (clR T a).2.2 D) else (false, (clR T a).2.1, D)) else (false, (clR T a).2.1, D)) else (false, skp T a, D)
theorem clW_n {T : Nat × (Nat → Nat)} {f a : Nat} {D : Nat → Nat → Nat} (h : ¬ clG T D a) : clW T (f + 1) a D = (false, skp T a, D) := if_neg h
theorem clW_f {T : Nat × (Nat → Nat)} {f a : Nat} {D : Nat → Nat → Nat} (h : clG T D a) (h2 : ¬ ((clR T a).1 = true ∧ (T.1 ≤ (clR T a).2.1 ∨ T.2 (clR T a).2.1 = 59))) : clW T (f + 1) a D = (false, (clR T a).2.1, D) := by
  unfold clW
  rw [if_pos (show clK T a < 9 ∧ D 0 (ckI (clK T a)) < itX (clK T a) from h)]
  by_cases c : (clR T a).1 = true
  · rw [if_pos c, if_neg (fun h => h2 ⟨c, Or.inl h⟩), if_neg (fun h => h2 ⟨c, Or.inr h⟩)]
  · rw [if_neg c]
theorem clW_e {T : Nat × (Nat → Nat)} {f a : Nat} {D : Nat → Nat → Nat} (h : clG T D a) (h2 : (clR T a).1 = true) (h3 : T.1 ≤ (clR T a).2.1) : clW T (f + 1) a D = (true, (clR T a).2.1, kpD (clK T a) (clR T a).2.2 D) := by
  unfold clW
  rw [if_pos (show clK T a < 9 ∧ D 0 (ckI (clK T a)) < itX (clK T a) from h), if_pos h2, if_pos h3]
theorem clW_s {T : Nat × (Nat → Nat)} {f a : Nat} {D : Nat → Nat → Nat} (h : clG T D a) (h2 : (clR T a).1 = true) (h3 : ¬ T.1 ≤ (clR T a).2.1) (h4 : T.2 (clR T a).2.1 = 59) : clW T (f + 1) a D = clW T f ((clR T a).2.1 + 1) (kpD (clK T a) (clR T a).2.2 D) := by
  rw [clW, if_pos (show clK T a < 9 ∧ D 0 (ckI (clK T a)) < itX (clK T a) from h), if_pos h2, if_neg h3, if_pos h4]
theorem clB {T : Nat × (Nat → Nat)} {a : Nat} {D : Nat → Nat → Nat} (o : okT T) (hB : dqB D) (h : clG T D a) (h2 : (clR T a).1 = true) : dqB (kpD (clK T a) (clR T a).2.2 D) := kpB (clK_bd o h.1).2.1 hB h.2 ((clR_bd o h.1).2 h2).2.2
theorem clW_bd {T : Nat × (Nat → Nat)} (o : okT T) : ∀ f a D, T.1 - a < f → a ≤ T.1 → dqB D → (clW T f a D).2.1 ≤ T.1 ∧ dqB (clW T f a D).2.2 := by
  intro f
  induction f with
  | zero => intro a D h; omega
  | succ f ih =>
    intro a D h1 ha hB
    by_cases cG : clG T D a
    · have hb := clR_bd o cG.1
      by_cases c : (clR T a).1 = true ∧ (T.1 ≤ (clR T a).2.1 ∨ T.2 (clR T a).2.1 = 59)
      · by_cases c2 : T.1 ≤ (clR T a).2.1
        · rw [clW_e cG c.1 c2]
          exact ⟨hb.1, clB o hB cG c.1⟩
        · have c3 := c.2.resolve_left c2
          have hp := (hb.2 c.1).1
          rw [clW_s cG c.1 c2 c3]
          exact ih _ _ (by omega) (by omega) (clB o hB cG c.1)
      · rw [clW_f cG c]
        exact ⟨hb.1, hB⟩
    · rw [clW_n cG]
      exact ⟨skp_le ha, hB⟩
theorem clC_lp {T : Nat × (Nat → Nat)} (o : okT T) : ∀ f a j D M σ, T.1 - a < f → f ≤ M → 2 * j ≤ a → a ≤ T.1 → tqC T σ → σ.1 1 2 = nI a → dqC D σ → dqB D → ∃ σ' z, sg_lp (fun x : sgS × Int32 => f_X0_readFrom_L45 10000 11 x.2 x.1) M ((σ, nI j)) = some (.inl (z, σ')) ∧ σ'.1 1 2 = nI (clW T f a D).2.1 ∧ tqC T σ' ∧ Fr pDc σ σ' ∧ ((((clW T f a D).1 = true ∧ whD (clW T f a D).2.2) ∧ z = 1 ∧ dqC (clW T f a D).2.2 σ') ∨ (¬ ((clW T f a D).1 = true ∧ whD (clW T f a D).2.2) ∧ z = 0)) := by
  have h240 := o.1
  intro f
  induction f with
  | zero => intro a j D M σ h; omega
  | succ f ih =>
    intro a j D M σ h1 hM hj ha hT e hD hB
    obtain ⟨M, rfl⟩ : ∃ m, M = m + 1 := ⟨M - 1, by omega⟩
    obtain ⟨σ1, z, q1, q2, q3, q4⟩ := clC o ha hT e hD hB
    have tn : ¬ (240 : Int32) ≤ nI j := by rw [nJ_Lle (by omega) (by decide)]; omega
    rcases q4 with ⟨g1, g2, g3⟩ | ⟨cG, g2, ⟨g3, g4⟩ | ⟨g3, g4, g5⟩⟩
    · rw [clW_n g1]
      refine ⟨σ1, 0, ?_, g3, q2, q3, Or.inr ⟨fun h => (by cases h.1), rfl⟩⟩
      apply lp_ret
      show f_X0_readFrom_L45 10000 11 (nI j) σ = _
      unfold f_X0_readFrom_L45
      rw [if_neg tn, q1, cl_some, g2, if_pos rfl]
      rfl
    · rw [clW_f cG g3]
      refine ⟨σ1, 0, ?_, g2, q2, q3, Or.inr ⟨fun h => (by cases h.1), rfl⟩⟩
      apply lp_ret
      show f_X0_readFrom_L45 10000 11 (nI j) σ = _
      unfold f_X0_readFrom_L45
      rw [if_neg tn, q1, cl_some, g4, if_pos rfl]
      rfl
    · have hb := clR_bd o cG.1
      have hb2 := hb.2 g3.1
      have hB2 := clB o hB cG g3.1
      obtain ⟨σ2, s1, s2, s3, s4⟩ := sign_ok o (by omega) q2 g2
      rw [hb2.2.1] at s1 s2
      have f2 : Fr pDc σ1 σ2 := s4.mono (fun j q h => Or.inl h)
      have hD2 := dqC_fr g5 s4 (fun j q h1 h2 => by unfold pt; omega)
      by_cases c2 : T.1 ≤ (clR T a).2.1
      · rw [clW_e cG g3.1 c2]
        have hw := whC hD2 hB2
        by_cases cw : whD (kpD (clK T a) (clR T a).2.2 D)
        · refine ⟨σ2, 1, ?_, s2, s3, q3.tr f2, Or.inl ⟨⟨rfl, cw⟩, rfl, hD2⟩⟩
          apply lp_ret
          show f_X0_readFrom_L45 10000 11 (nI j) σ = _
          unfold f_X0_readFrom_L45
          rw [if_neg tn, q1, cl_some, g4, if_neg nn10, s1, cl_some, if_pos ((chr_end o).mpr c2), hw.1 cw, cr_some]
          rfl
        · refine ⟨σ2, 0, ?_, s2, s3, q3.tr f2, Or.inr ⟨fun h => cw h.2, rfl⟩⟩
          apply lp_ret
          show f_X0_readFrom_L45 10000 11 (nI j) σ = _
          unfold f_X0_readFrom_L45
          rw [if_neg tn, q1, cl_some, g4, if_neg nn10, s1, cl_some, if_pos ((chr_end o).mpr c2), hw.2 cw, cr_some]
          rfl
      · have c3 := g3.2.resolve_left c2
        rw [clW_s cG g3.1 c2 c3]
        obtain ⟨σ3, t1, t2, t3, t4⟩ := takes_ok (c := 59) o (by omega) (by decide) s3 s2
        have t1 : f_X9_takes 10000 59 σ2 = _ := t1
        have hch : chr T (skp T (clR T a).2.1) = nI 59 := by rw [hb2.2.1]; exact (chr_is o (by decide)).mpr ⟨by omega, c3⟩
        rw [if_pos hch] at t1 t2
        rw [hb2.2.1] at t2
        obtain ⟨σ', z', r1, r2, r3, r4, r5⟩ := ih ((clR T a).2.1 + 1) (j + 1) (kpD (clK T a) (clR T a).2.2 D) M σ3 (by omega) (by omega) (by omega) (by omega) t3 t2 (dqC_fr hD2 t4 (fun j q h1 h2 => by unfold pt; omega)) hB2
        refine ⟨σ', z', ?_, r2, r3, ((q3.tr f2).tr (t4.mono (fun j q h => Or.inl h))).tr r4, r5⟩
        rw [lp_step (x' := (σ3, nI (j + 1))), r1]
        show f_X0_readFrom_L45 10000 11 (nI j) σ = _
        unfold f_X0_readFrom_L45
        rw [if_neg tn, q1, cl_some, g4, if_neg nn10, s1, cl_some, if_neg (fun h => c2 ((chr_end o).mp h)), t1, cl_some, if_neg nn10, nJ_addL]
def ctD : Nat → Nat → Nat := fun j q => if j = 0 ∧ q = 1 then 12 else if j = 0 ∧ q = 2 then 20 else 0
def ctR (T : Nat × (Nat → Nat)) : Bool × Nat × (Nat → Nat → Nat) := clW T (T.1 + 1) 0 ctD
def ctG (T : Nat × (Nat → Nat)) : Prop := (ctR T).1 = true ∧ whD (ctR T).2.2
theorem ctB : dqB ctD := ⟨by decide, by decide, by decide, by decide, by decide, by decide, fun q hq => absurd hq (Nat.not_lt_zero _), fun q hq => absurd hq (Nat.not_lt_zero _), fun q hq => absurd hq (Nat.not_lt_zero _)⟩
theorem ctR_bd {T : Nat × (Nat → Nat)} (o : okT T) : (ctR T).2.1 ≤ T.1 ∧ dqB (ctR T).2.2 := clW_bd o _ _ _ (by omega) (Nat.zero_le _) ctB
theorem ctC_ok {T : Nat × (Nat → Nat)} {σ : sgS} (o : okT T) (hT : tqC T σ) : ∃ σ' z, f_X0_readFrom 10000 11 σ = some (z, σ') ∧ σ'.1 1 2 = nI (ctR T).2.1 ∧ tqC T σ' ∧ Fr pDc σ σ' ∧ ((ctG T ∧ z = 1 ∧ dqC (ctR T).2.2 σ') ∨ (¬ ctG T ∧ z = 0)) := by
  have h240 := o.1
  have F : Fr pDc σ (sg_up (sg_up (sg_up (sg_up (sg_up (sg_up (sg_up σ 11 0 0) 11 1 12) 11 2 20) 11 3 0) 11 4 0) 11 5 0) 1 2 0) := Fr.tr (Fr.tr (Fr.tr (Fr.tr (Fr.tr (Fr.tr (Fr.up (Or.inr ⟨by decide, by decide⟩)) (Fr.up (Or.inr ⟨by decide, by decide⟩))) (Fr.up (Or.inr ⟨by decide, by decide⟩))) (Fr.up (Or.inr ⟨by decide, by decide⟩))) (Fr.up (Or.inr ⟨by decide, by decide⟩))) (Fr.up (Or.inr ⟨by decide, by decide⟩))) (Fr.up (Or.inl ⟨rfl, rfl⟩))
  have hD : dqC ctD (sg_up (sg_up (sg_up (sg_up (sg_up (sg_up (sg_up σ 11 0 0) 11 1 12) 11 2 20) 11 3 0) 11 4 0) 11 5 0) 1 2 0) := by
    refine ⟨fun q hq => ?_, fun q hq => absurd hq (Nat.not_lt_zero _), fun q hq => absurd hq (Nat.not_lt_zero _), fun q hq => absurd hq (Nat.not_lt_zero _)⟩
    rw [up_ne (by decide)]
    have h6 : q = 0 ∨ q = 1 ∨ q = 2 ∨ q = 3 ∨ q = 4 ∨ q = 5 := by omega
    rcases h6 with rfl | rfl | rfl | rfl | rfl | rfl
    · rw [up_nk (by decide), up_nk (by decide), up_nk (by decide), up_nk (by decide), up_nk (by decide), up_at]; rfl
    · rw [up_nk (by decide), up_nk (by decide), up_nk (by decide), up_nk (by decide), up_at]; rfl
    · rw [up_nk (by decide), up_nk (by decide), up_nk (by decide), up_at]; rfl
    · rw [up_nk (by decide), up_nk (by decide), up_at]; rfl
    · rw [up_nk (by decide), up_at]; rfl
    · rw [up_at]; rfl
  obtain ⟨σ', z, r1, r2, r3, r4, r5⟩ := clC_lp o (T.1 + 1) 0 0 ctD 10000 (sg_up (sg_up (sg_up (sg_up (sg_up (sg_up (sg_up σ 11 0 0) 11 1 12) 11 2 20) 11 3 0) 11 4 0) 11 5 0) 1 2 0) (by omega) (by omega) (by omega) (Nat.zero_le _) (tqC_fr hT F (by unfold pDc; omega) (fun q => by unfold pDc; omega)) (by rw [up_at]; rfl) hD ctB
  refine ⟨σ', z, ?_, r2, r3, F.tr r4, r5⟩
  have r1 : sg_lp (fun x : sgS × Int32 => f_X0_readFrom_L45 10000 11 x.2 x.1) 10000 ((sg_up (sg_up (sg_up (sg_up (sg_up (sg_up (sg_up σ 11 0 0) 11 1 12) 11 2 20) 11 3 0) 11 4 0) 11 5 0) 1 2 0, 0)) = _ := r1
  unfold f_X0_readFrom
  rw [pf_eq, show ∀ K : Int32 → Option (Int32 × sgS), sg_tb (sg_sv 2) 0 K = K 12 from fun K => rfl, pf_eq, show ∀ K : Int32 → Option (Int32 × sgS), sg_tb (sg_sv 2) 1 K = K 20 from fun K => rfl, pf_eq, pf_eq, pf_eq, pf_eq, pf_eq, r1, lb_inl]
/-! the reference -/
theorem clM_lp {T : Nat × (Nat → Nat)} (o : okT T) : ∀ f a D M τ, T.1 - a < f → f < M → a ≤ T.1 → tqM T τ → τ.1 0 3 = nI a → τ.1 0 4 = -1 → dqM D τ → dqB D → ∃ τ', sg_lp (fun x : sgS × Int32 × Int32 => f_X12_readCounty_L54 10000 x.2.1 x.2.2 x.1) M ((τ, nI (D 0 0), 1)) = some (.inr τ') ∧ tqM T τ' ∧ Fr pDm τ τ' ∧ (((clW T f a D).1 = true ∧ τ'.1 0 3 = nI (clW T f a D).2.1 ∧ τ'.1 0 4 = -1 ∧ dqM (clW T f a D).2.2 τ' ∧ T.1 ≤ (clW T f a D).2.1 ∧ skp T (clW T f a D).2.1 = (clW T f a D).2.1) ∨ ((clW T f a D).1 = false ∧ (τ'.1 0 4 = nI (clW T f a D).2.1 ∨ (τ'.1 0 4 = -1 ∧ τ'.1 0 3 = nI (clW T f a D).2.1 ∧ (clW T f a D).2.1 < T.1 ∧ skp T (clW T f a D).2.1 = (clW T f a D).2.1)))) := by
  have h240 := o.1
  have out : ∀ M s u, sg_lp (fun x : sgS × Int32 × Int32 => f_X12_readCounty_L54 10000 x.2.1 x.2.2 x.1) (M + 1) ((s, u, 0)) = some (.inr s) := by
    intro M s u
    apply lp_out
    show f_X12_readCounty_L54 10000 u 0 s = _
    unfold f_X12_readCounty_L54
    rw [if_pos rfl]
  intro f
  induction f with
  | zero => intro a D M τ h; omega
  | succ f ih =>
    intro a D M τ h1 hM ha hT e w hD hB
    obtain ⟨M, rfl⟩ : ∃ m, M = m + 1 := ⟨M - 1, by omega⟩
    obtain ⟨M, rfl⟩ : ∃ m, M = m + 1 := ⟨M - 1, by omega⟩
    have hs := skp_le ha
    by_cases cG : clG T D a
    · obtain ⟨τ3, k1, k2, k3, k4, k5⟩ := clM_k o ha hT e w hD hB cG
      have hb := clR_bd o cG.1
      by_cases cR : (clR T a).1 = true
      · obtain ⟨k6, k7, k8⟩ := k4 cR
        have hb2 := hb.2 cR
        have hB2 := clB o hB cG cR
        obtain ⟨τ4, s1, s2, s3, s4, s5⟩ := b268_ok (u := nI (kpD (clK T a) (clR T a).2.2 D 0 0)) o hb.1 hb2.2.1 k2 k6 k7
        have f5 : Fr pDm τ3 τ4 := s5.mono (fun j q h => Or.inl ⟨h.1, Or.inl h.2⟩)
        have hD4 := dqM_fr k8 s5 (by unfold pt; omega) (by unfold pt; omega) (by unfold pt; omega) (fun j q h1 h2 => by unfold pt; omega)
        by_cases c5 : (clR T a).2.1 < T.1 ∧ T.2 (clR T a).2.1 = 59
        · rw [if_pos c5] at s1 s2
          rw [clW_s cG cR (by omega) c5.2]
          obtain ⟨τ', r1, r2, r3, r4⟩ := ih ((clR T a).2.1 + 1) (kpD (clK T a) (clR T a).2.2 D) (M + 1) τ4 (by omega) (by omega) (by omega) s4 s2 s3 hD4 hB2
          refine ⟨τ', ?_, r2, (k3.tr f5).tr r3, r4⟩
          rw [lp_step (x' := (τ4, nI (kpD (clK T a) (clR T a).2.2 D 0 0), 1)), r1]
          show f_X12_readCounty_L54 10000 (nI (D 0 0)) 1 τ = _
          rw [k1, s1]
        · rw [if_neg c5] at s1 s2
          have st : sg_lp (fun x : sgS × Int32 × Int32 => f_X12_readCounty_L54 10000 x.2.1 x.2.2 x.1) (M + 1 + 1) ((τ, nI (D 0 0), 1)) = some (.inr τ4) := by
            rw [lp_step (x' := (τ4, nI (kpD (clK T a) (clR T a).2.2 D 0 0), 0)), out]
            show f_X12_readCounty_L54 10000 (nI (D 0 0)) 1 τ = _
            rw [k1, s1]
          by_cases c6 : T.1 ≤ (clR T a).2.1
          · rw [clW_e cG cR c6]
            exact ⟨τ4, st, s4, k3.tr f5, Or.inl ⟨rfl, s2, s3, hD4, c6, hb2.2.1⟩⟩
          · rw [clW_f cG (fun h => h.2.elim c6 (fun h => c5 ⟨by omega, h⟩))]
            exact ⟨τ4, st, s4, k3.tr f5, Or.inr ⟨rfl, Or.inr ⟨s3, s2, by show (clR T a).2.1 < T.1; omega, hb2.2.1⟩⟩⟩
      · rw [clW_f cG (fun h => cR h.1)]
        rw [Bool.not_eq_true] at cR
        have hb1 := hb.1
        obtain ⟨τ4, s1, s2, s3, s4⟩ := b268_bad (u := nI (kpD (clK T a) (clR T a).2.2 D 0 0)) k2 (by omega) (k5 cR)
        refine ⟨τ4, ?_, s3, k3.tr (s4.mono (fun j q h => Or.inl ⟨h.1, Or.inl h.2⟩)), Or.inr ⟨rfl, Or.inl s2⟩⟩
        rw [lp_step (x' := (τ4, nI (kpD (clK T a) (clR T a).2.2 D 0 0), 0)), out]
        show f_X12_readCounty_L54 10000 (nI (D 0 0)) 1 τ = _
        rw [k1, s1]
    · obtain ⟨τ3, k1, k2, k3, k4⟩ := clM_n o ha hT e w hD hB cG
      rw [clW_n cG]
      obtain ⟨τ4, s1, s2, s3, s4⟩ := b268_bad (u := nI (D 0 0)) k2 (by omega) k4
      refine ⟨τ4, ?_, s3, k3.tr (s4.mono (fun j q h => Or.inl ⟨h.1, Or.inl h.2⟩)), Or.inr ⟨rfl, Or.inl s2⟩⟩
      rw [lp_step (x' := (τ4, nI (D 0 0), 0)), out]
      show f_X12_readCounty_L54 10000 (nI (D 0 0)) 1 τ = _
      rw [k1, s1]
theorem ctM_ok {T : Nat × (Nat → Nat)} {τ : sgS} (o : okT T) (hT : tqM T τ) : ∃ τ' z, f_X12_readCounty 10000 τ = some (z, τ') ∧ tqM T τ' ∧ Fr pDm τ τ' ∧ ((ctG T ∧ z = -1 ∧ dqM (ctR T).2.2 τ') ∨ (¬ ctG T ∧ z = nI (ctR T).2.1)) := by
  have h240 := o.1
  have hbd := ctR_bd o
  have hB := hbd.2
  have F : Fr pDm τ (sg_up (sg_up (sg_up (sg_up (sg_up (sg_up (sg_up τ 0 3 0) 0 4 (-1)) 0 21 0) 0 22 0) 0 23 0) 11 0 12) 11 1 20) := Fr.tr (Fr.tr (Fr.tr (Fr.tr (Fr.tr (Fr.tr (Fr.up (Or.inl ⟨rfl, by decide⟩)) (Fr.up (Or.inl ⟨rfl, by decide⟩))) (Fr.up (Or.inl ⟨rfl, by decide⟩))) (Fr.up (Or.inl ⟨rfl, by decide⟩))) (Fr.up (Or.inl ⟨rfl, by decide⟩))) (Fr.up (Or.inr ⟨by decide, by decide⟩))) (Fr.up (Or.inr ⟨by decide, by decide⟩))
  have hD : dqM ctD (sg_up (sg_up (sg_up (sg_up (sg_up (sg_up (sg_up τ 0 3 0) 0 4 (-1)) 0 21 0) 0 22 0) 0 23 0) 11 0 12) 11 1 20) := by
    refine ⟨?_, ?_, ?_, ?_, ?_, fun q hq => absurd hq (Nat.not_lt_zero _), fun q hq => absurd hq (Nat.not_lt_zero _), fun q hq => absurd hq (Nat.not_lt_zero _)⟩
    · rw [up_ne (by decide), up_ne (by decide), up_nk (by decide), up_nk (by decide), up_at]; rfl
    · rw [up_ne (by decide), up_ne (by decide), up_nk (by decide), up_at]; rfl
    · rw [up_ne (by decide), up_ne (by decide), up_at]; rfl
    · rw [up_nk (by decide), up_at]; rfl
    · rw [up_at]; rfl
  obtain ⟨τ1, r1, r2, r3, r4⟩ := clM_lp o (T.1 + 1) 0 ctD 10000 (sg_up (sg_up (sg_up (sg_up (sg_up (sg_up (sg_up τ 0 3 0) 0 4 (-1)) 0 21 0) 0 22 0) 0 23 0) 11 0 12) 11 1 20) (by omega) (by omega) (Nat.zero_le _) (tqM_fr hT F (by unfold pDm; omega) (fun q => by unfold pDm; omega)) (by rw [up_ne (by decide), up_ne (by decide), up_nk (by decide), up_nk (by decide), up_nk (by decide), up_nk (by decide), up_at]; rfl) (by rw [up_ne (by decide), up_ne (by decide), up_nk (by decide), up_nk (by decide), up_nk (by decide), up_at]) hD ctB
  have r1 : sg_lp (fun x : sgS × Int32 × Int32 => f_X12_readCounty_L54 10000 x.2.1 x.2.2 x.1) 10000 ((sg_up (sg_up (sg_up (sg_up (sg_up (sg_up (sg_up τ 0 3 0) 0 4 (-1)) 0 21 0) 0 22 0) 0 23 0) 11 0 12) 11 1 20, 0, 1)) = _ := r1
  have r4 : ((ctR T).1 = true ∧ τ1.1 0 3 = nI (ctR T).2.1 ∧ τ1.1 0 4 = -1 ∧ dqM (ctR T).2.2 τ1 ∧ T.1 ≤ (ctR T).2.1 ∧ skp T (ctR T).2.1 = (ctR T).2.1) ∨ ((ctR T).1 = false ∧ (τ1.1 0 4 = nI (ctR T).2.1 ∨ (τ1.1 0 4 = -1 ∧ τ1.1 0 3 = nI (ctR T).2.1 ∧ (ctR T).2.1 < T.1 ∧ skp T (ctR T).2.1 = (ctR T).2.1))) := r4
  -- the usual rule
  have r0 : sg_lp (fun x : sgS × Int32 => f_X12_readCounty_L29 10000 0 x.2 x.1) 10000 ((sg_up (sg_up (sg_up (sg_up (sg_up τ 0 3 0) 0 4 (-1)) 0 21 0) 0 22 0) 0 23 0, 0)) = some (.inr (sg_up (sg_up (sg_up (sg_up (sg_up (sg_up (sg_up τ 0 3 0) 0 4 (-1)) 0 21 0) 0 22 0) 0 23 0) 11 0 12) 11 1 20)) := by
    rw [lp_step (x' := (sg_up (sg_up (sg_up (sg_up (sg_up (sg_up τ 0 3 0) 0 4 (-1)) 0 21 0) 0 22 0) 0 23 0) 11 0 12, 1)), lp_step (x' := (sg_up (sg_up (sg_up (sg_up (sg_up (sg_up (sg_up τ 0 3 0) 0 4 (-1)) 0 21 0) 0 22 0) 0 23 0) 11 0 12) 11 1 20, 2)), lp_out (y := sg_up (sg_up (sg_up (sg_up (sg_up (sg_up (sg_up τ 0 3 0) 0 4 (-1)) 0 21 0) 0 22 0) 0 23 0) 11 0 12) 11 1 20)]
    · rfl
    · rfl
    · rfl
  have hd : f_X12_readCounty 10000 τ = (if (τ1.1 0 4) = -1 then (sg_cl (f_X12_look 10000 τ1) fun v35 s36 => if v35 = -1 then (sg_cr (f_X12_isWhole 10000 s36) fun v39 => if v39 = 0 then (sg_cl (f_X12_bad 10000 s36) fun v40 s41 => some (s41.1 0 4, s41)) else some (s36.1 0 4, s36)) else (sg_cl (f_X12_bad 10000 s36) fun v37 s38 => some (s38.1 0 4, s38))) else some (τ1.1 0 4, τ1)) := by
    unfold f_X12_readCounty
    rw [pf_eq, pf_eq, pf_eq, pf_eq, pf_eq, r0, lb_inr, r1, lb_inr]
  rw [hd]
  rcases r4 with ⟨g1, g2, g3, g4, g5, g6⟩ | ⟨g1, g2 | ⟨g2, g3, g4, g5⟩⟩
  · obtain ⟨τ2, s1, s2, s3, s4⟩ := look_ok o (by omega) r2 g2
    rw [g6] at s1 s2
    have f4 : Fr pDm τ1 τ2 := s4.mono (fun j q h => Or.inl ⟨h.1, Or.inl h.2⟩)
    have w2 : τ2.1 0 4 = -1 := by rw [s4 0 4 (by unfold pt; omega)]; exact g3
    have hD2 := dqM_fr g4 s4 (by unfold pt; omega) (by unfold pt; omega) (by unfold pt; omega) (fun j q h1 h2 => by unfold pt; omega)
    have hw := whM hD2 hB
    rw [g3, if_pos rfl, s1, cl_some, if_pos ((chr_end o).mpr g5)]
    by_cases cw : whD (ctR T).2.2
    · rw [hw.1 cw, cr_some, if_neg nn10]
      exact ⟨τ2, _, rfl, s3, (F.tr r3).tr f4, Or.inl ⟨⟨g1, cw⟩, w2, hD2⟩⟩
    · rw [hw.2 cw, cr_some, if_pos rfl, bad_ok s2 w2, cl_some]
      exact ⟨_, _, rfl, ⟨by rw [up_nk (by decide)]; exact s3.1, fun q hq => by rw [up_ne (by decide)]; exact s3.2 q hq⟩, ((F.tr r3).tr f4).tr (Fr.up (Or.inl ⟨rfl, by decide⟩)), Or.inr ⟨fun h => cw h.2, up_at⟩⟩
  · rw [g2, if_neg (by rw [nJ_ne_neg (by omega)]; exact id)]
    exact ⟨τ1, _, rfl, r2, F.tr r3, Or.inr ⟨(fun h => by rw [h.1] at g1; cases g1), rfl⟩⟩
  · obtain ⟨τ2, s1, s2, s3, s4⟩ := look_ok o (by omega) r2 g3
    rw [g5] at s1 s2
    have f4 : Fr pDm τ1 τ2 := s4.mono (fun j q h => Or.inl ⟨h.1, Or.inl h.2⟩)
    have w2 : τ2.1 0 4 = -1 := by rw [s4 0 4 (by unfold pt; omega)]; exact g2
    rw [g2, if_pos rfl, s1, cl_some, if_neg (fun h => by have := (chr_end o).mp h; omega), bad_ok s2 w2, cl_some]
    exact ⟨_, _, rfl, ⟨by rw [up_nk (by decide)]; exact s3.1, fun q hq => by rw [up_ne (by decide)]; exact s3.2 q hq⟩, ((F.tr r3).tr f4).tr (Fr.up (Or.inl ⟨rfl, by decide⟩)), Or.inr ⟨(fun h => by rw [h.1] at g1; cases g1), up_at⟩⟩
