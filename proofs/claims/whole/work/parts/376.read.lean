/-! A CLAUSE READ -/
def clK (T : Nat × (Nat → Nat)) (a : Nat) : Nat := kdT T (skp T a)
def clR (T : Nat × (Nat → Nat)) (a : Nat) : Bool × Nat × (Nat → Nat) := itR T (clK T a) (skp T a + 1)
def clG (T : Nat × (Nat → Nat)) (D : Nat → Nat → Nat) (a : Nat) : Prop := clK T a < 9 ∧ D 0 (ckI (clK T a)) < itX (clK T a)
theorem clK_bd {T : Nat × (Nat → Nat)} {a : Nat} (o : okT T) (h : clK T a < 9) : skp T a < T.1 ∧ clK T a < 4 ∧ T.2 (skp T a) = itK (clK T a) := by
  unfold clK kdT at h ⊢
  by_cases c : skp T a < T.1
  · rw [if_pos c] at h ⊢
    have hb := o.2 _ c
    have := kdS_bd ⟨T.2 (skp T a), by omega⟩ h
    exact ⟨c, this.1, this.2⟩
  · rw [if_neg c] at h
    exact absurd h (by decide)
theorem us_bd : ∀ k : Fin 4, ∀ i : Fin 4, i.val < itN k.val → itA (itF k.val + i.val) ≤ itU (itF k.val + i.val) ∧ itU (itF k.val + i.val) ≤ itZ (itF k.val + i.val) := by decide +kernel
theorem clR_bd {T : Nat × (Nat → Nat)} {a : Nat} (o : okT T) (h : clK T a < 9) : (clR T a).2.1 ≤ T.1 ∧ ((clR T a).1 = true → a < (clR T a).2.1 ∧ skp T (clR T a).2.1 = (clR T a).2.1 ∧ ∀ i, i < itN (clK T a) → itA (itF (clK T a) + i) ≤ (clR T a).2.2 i ∧ (clR T a).2.2 i ≤ itZ (itF (clK T a) + i)) := by
  have hk := clK_bd o h
  have hg := skp_ge (T := T) (a := a)
  have hN := (itN_le ⟨clK T a, hk.2.1⟩).2.1
  have := itW_bd o hk.2.1 (itN (clK T a) + 1) (skp T a + 1) 0 (fun i => itU (itF (clK T a) + i)) (by show 0 + _ = _; omega) (Nat.two_pow_pos _) (by omega) (fun i hi => us_bd ⟨clK T a, hk.2.1⟩ ⟨i, Nat.lt_of_lt_of_le hi hN⟩ hi)
  refine ⟨this.1, fun h => ?_⟩
  have h3 := this.2 h
  exact ⟨Nat.lt_of_lt_of_le (by omega) h3.1, h3.2⟩
def pDc (j q : Nat) : Prop := (j = 1 ∧ q = 2) ∨ (11 ≤ j ∧ j ≤ 18)
theorem tb0_C : ∀ k : Fin 4, (sg_sv 0).getD k.val 0 = nI (itX k.val) ∧ (sg_sv 1).getD k.val 0 = nI (itF k.val) ∧ (sg_sv 1).getD (k.val + 1) 0 = nI (itF k.val + itN k.val) ∧ itX k.val < 100 := by decide +kernel
theorem clC {T : Nat × (Nat → Nat)} {D : Nat → Nat → Nat} {a : Nat} {σ : sgS} (o : okT T) (ha : a ≤ T.1) (hT : tqC T σ) (e : σ.1 1 2 = nI a) (hD : dqC D σ) (hB : dqB D) : ∃ σ' z, f_X0_readClause 10000 11 σ = some (z, σ') ∧ tqC T σ' ∧ Fr pDc σ σ' ∧ ((¬ clG T D a ∧ z = 0 ∧ σ'.1 1 2 = nI (skp T a)) ∨ (clG T D a ∧ σ'.1 1 2 = nI (clR T a).2.1 ∧ ((¬ ((clR T a).1 = true ∧ (T.1 ≤ (clR T a).2.1 ∨ T.2 (clR T a).2.1 = 59)) ∧ z = 0) ∨ (((clR T a).1 = true ∧ (T.1 ≤ (clR T a).2.1 ∨ T.2 (clR T a).2.1 = 59)) ∧ z = 1 ∧ dqC (kpD (clK T a) (clR T a).2.2 D) σ')))) := by
  have h240 := o.1
  have hs := skp_le ha
  obtain ⟨σ1, s1, s2, s3, s4⟩ := sign_ok o (by omega) hT e
  have f1 : Fr pDc σ σ1 := s4.mono (fun j q h => Or.inl h)
  have hD1 : dqC D σ1 := dqC_fr hD s4 (fun j q h1 h2 => by unfold pt; omega)
  have top : f_X0_readClause 10000 11 σ = f_X0_readClause_B21 10000 11 (if clK T a < 9 then nI (clK T a) else -1) σ1 := by
    unfold f_X0_readClause
    rw [s1, cl_some]
    unfold clK kdT
    by_cases c : skp T a < T.1
    · have hb := o.2 _ c
      have := kdS_C ⟨T.2 (skp T a), by omega⟩
      rw [if_neg (fun h => by have := (chr_end o).mp h; omega), chr_y c, kdS_C0, if_pos c, show f_J0_indexOf_0f7a4 10000 1 (((nI (T.2 (skp T a))).toUInt32 % 65536).toInt32) zS = _ from this, cr_some]
    · rw [if_pos ((chr_end o).mpr (by omega)), if_neg c, if_neg (show ¬ 9 < 9 by decide)]
  rw [top]
  by_cases c9 : clK T a < 9
  · have hk := clK_bd o c9
    rw [if_pos c9]
    have tb := tb0_C ⟨clK T a, hk.2.1⟩
    have t0 : (sg_sv 0).getD (clK T a) 0 = nI (itX (clK T a)) := tb.1
    have t1 : (sg_sv 1).getD (clK T a) 0 = nI (itF (clK T a)) := tb.2.1
    have t2 : (sg_sv 1).getD (clK T a + 1) 0 = nI (itF (clK T a) + itN (clK T a)) := tb.2.2.1
    have t3 : itX (clK T a) < 100 := tb.2.2.2
    have hcl : f_X0_clausesOf 10000 11 (nI (clK T a)) σ1 = some (nI (D 0 (ckI (clK T a)))) ∧ D 0 (ckI (clK T a)) < 100 := by
      obtain ⟨b1, b2, b3, b4, _⟩ := hB
      have hc : clK T a = 0 ∨ clK T a = 1 ∨ clK T a = 2 ∨ clK T a = 3 := by omega
      rcases hc with h | h | h | h <;> rw [h]
      · exact ⟨by rw [← show σ1.1 11 0 = nI (D 0 (ckI 0)) from hD1.1 0 (by decide)]; rfl, by show D 0 0 < 100; omega⟩
      · exact ⟨by rw [← show σ1.1 11 3 = nI (D 0 (ckI 1)) from hD1.1 3 (by decide)]; rfl, by show D 0 3 < 100; omega⟩
      · exact ⟨by rw [← show σ1.1 11 4 = nI (D 0 (ckI 2)) from hD1.1 4 (by decide)]; rfl, by show D 0 4 < 100; omega⟩
      · exact ⟨by rw [← show σ1.1 11 5 = nI (D 0 (ckI 3)) from hD1.1 5 (by decide)]; rfl, by show D 0 5 < 100; omega⟩
    unfold f_X0_readClause_B21
    rw [if_neg (show ¬ nI (clK T a) < 0 by rw [nJ_not_neg (by omega)]; exact id), hcl.1, cr_some, tb_ok (by show _ < 4; omega) (by decide), t0]
    by_cases cX : D 0 (ckI (clK T a)) < itX (clK T a)
    · have T6 : tqC T (sg_up σ1 1 2 (nI (skp T a + 1))) := ⟨by rw [up_nk (by decide)]; exact s3.1, fun q hq => by rw [up_ne (by decide)]; exact s3.2 q hq⟩
      obtain ⟨σ2, q1, q2, q3, q4, q5⟩ := itC_ok o hk.2.1 (by omega) T6 up_at
      have f2 : Fr pDc σ1 σ2 := Fr.tr (Fr.up (Or.inl ⟨rfl, rfl⟩)) (q5.mono (fun j q h => by unfold pIc at h; unfold pDc; omega))
      have hD2 : dqC D σ2 := dqC_fr (dqC_fr hD1 (Fr_pt (i := 1) (k := 2)) (fun j q h1 h2 => by unfold pt; omega)) q5 (fun j q h1 h2 => by unfold pIc; omega)
      rw [if_pos (by rw [nJ_lt (by omega) (by omega)]; exact cX), pf_eq, s2, nJ_addL, tb_ok (by show _ < 5; omega) (by decide), t1, nJ_addL, tb_ok (by show _ < 5; omega) (by decide), t2, q1, cl_some]
      by_cases cG : (itR T (clK T a) (skp T a + 1)).1 = true ∧ (T.1 ≤ (itR T (clK T a) (skp T a + 1)).2.1 ∨ T.2 (itR T (clK T a) (skp T a + 1)).2.1 = 59)
      · obtain ⟨σ3, k1, k2, k3⟩ := kpC hk.2.1 hD2 cX (q4 cG.1)
        rw [if_pos cG, if_neg nn10, k1, cl_some]
        exact ⟨σ3, _, rfl, tqC_fr q3 k3 (by omega) (fun q => by omega), (f1.tr f2).tr (k3.mono (fun j q h => by unfold pDc; omega)), Or.inr ⟨⟨c9, cX⟩, by rw [k3 1 2 (by omega)]; exact q2, Or.inr ⟨cG, rfl, k2⟩⟩⟩
      · rw [if_neg cG, if_pos rfl]
        exact ⟨σ2, _, rfl, q3, f1.tr f2, Or.inr ⟨⟨c9, cX⟩, q2, Or.inl ⟨cG, rfl⟩⟩⟩
    · rw [if_neg (by rw [nJ_lt (by omega) (by omega)]; exact cX)]
      exact ⟨σ1, _, rfl, s3, f1, Or.inl ⟨fun h => cX h.2, rfl, s2⟩⟩
  · rw [if_neg c9]
    exact ⟨σ1, 0, rfl, s3, f1, Or.inl ⟨fun h => c9 h.1, rfl, s2⟩⟩
/-! the reference -/
def pDm (j q : Nat) : Prop := (j = 0 ∧ (q = 3 ∨ q = 4 ∨ q = 21 ∨ q = 22 ∨ q = 23)) ∨ (11 ≤ j ∧ j ≤ 14)
theorem b268_bad {T : Nat × (Nat → Nat)} {p : Nat} {u : Int32} {τ : sgS} (hT : tqM T τ) (hp : p < 1000) (w : τ.1 0 4 = nI p) : ∃ τ', f_X12_readCounty_L54_B268 10000 u τ = some (.inr (.inl (τ', u, 0))) ∧ τ'.1 0 4 = nI p ∧ tqM T τ' ∧ Fr (pt 0 3) τ τ' := by
  unfold f_X12_readCounty_L54_B268 f_X12_readCounty_L54_B290
  rw [w, if_neg (by rw [nJ_ne_neg (by omega)]; exact id), if_pos rfl, pf_eq]
  exact ⟨_, rfl, by rw [up_nk (by decide)]; exact w, ⟨by rw [up_nk (by decide)]; exact hT.1, fun q hq => by rw [up_ne (by decide)]; exact hT.2 q hq⟩, Fr_pt⟩
theorem b268_ok {T : Nat × (Nat → Nat)} {s : Nat} {u : Int32} {τ : sgS} (o : okT T) (hs : s ≤ T.1) (hi : skp T s = s) (hT : tqM T τ) (e : τ.1 0 3 = nI s) (w : τ.1 0 4 = -1) : ∃ τ', f_X12_readCounty_L54_B268 10000 u τ = some (.inr (.inl (τ', u, (if s < T.1 ∧ T.2 s = 59 then 1 else 0)))) ∧ τ'.1 0 3 = nI (if s < T.1 ∧ T.2 s = 59 then s + 1 else s) ∧ τ'.1 0 4 = -1 ∧ tqM T τ' ∧ Fr (pt 0 3) τ τ' := by
  have h240 := o.1
  obtain ⟨τ1, s1, s2, s3, s4⟩ := look_ok o (by omega) hT e
  rw [hi] at s1 s2
  have w1 : τ1.1 0 4 = -1 := by rw [s4 0 4 (by unfold pt; omega)]; exact w
  unfold f_X12_readCounty_L54_B268
  rw [w, if_pos rfl, s1, cl_some]
  by_cases c : s < T.1 ∧ T.2 s = 59
  · rw [if_pos (show chr T s = 59 from (chr_is (c := 59) o (by decide)).mpr c)]
    unfold f_X12_readCounty_L54_B290
    rw [if_neg nn10, pf_eq, s2, nJ_addL, if_pos c, if_pos c]
    exact ⟨_, rfl, up_at, by rw [up_nk (by decide)]; exact w1, ⟨by rw [up_nk (by decide)]; exact s3.1, fun q hq => by rw [up_ne (by decide)]; exact s3.2 q hq⟩, s4.tr Fr_pt⟩
  · rw [if_neg (show ¬ chr T s = 59 from fun h => c ((chr_is (c := 59) o (by decide)).mp h))]
    unfold f_X12_readCounty_L54_B290
    rw [if_pos rfl, pf_eq, s2, show (0 : Int32) = nI 0 from rfl, nJ_add, if_neg c, if_neg c]
    exact ⟨_, rfl, up_at, by rw [up_nk (by decide)]; exact w1, ⟨by rw [up_nk (by decide)]; exact s3.1, fun q hq => by rw [up_ne (by decide)]; exact s3.2 q hq⟩, s4.tr Fr_pt⟩
