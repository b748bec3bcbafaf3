/-! FEED -/
theorem nI_bvN (x : Int32) : nI x.toBitVec.toNat = x := by
  apply Int32.toBitVec_inj.mp
  rw [nI_bv]
  apply BitVec.eq_of_toNat_eq
  rw [BitVec.toNat_ofNat, Nat.mod_eq_of_lt x.toBitVec.isLt]
def shN (j : Nat) : Nat := 24 - 8 * j
def byN (x : Int32) (j : Nat) : Nat := (sg_ushr x (nI (shN j))).toBitVec.toNat &&& 255
theorem byN_le {x : Int32} {j : Nat} : byN x j ≤ 255 := Nat.and_le_right
theorem byN_ok {x : Int32} {j : Nat} : sg_ushr x (nI (shN j)) &&& 255 = nI (byN x j) := by
  unfold byN
  rw [← nI_and, nI_bvN]
  rfl
theorem ushr_bv {x : Int32} {j : Nat} (h : j < 4) : (sg_ushr x (nI (shN j))).toBitVec = x.toBitVec >>> (shN j) := by
  have hj : j = 0 ∨ j = 1 ∨ j = 2 ∨ j = 3 := by omega
  rcases hj with rfl | rfl | rfl | rfl
  · rfl
  · rfl
  · rfl
  · rfl
theorem bt255 {k : Nat} (h : k < 32) : bt 255 k = decide (k < 8) := by
  have key : ∀ k : Fin 32, bt 255 k.val = decide (k.val < 8) := by decide
  exact key ⟨k, h⟩
theorem shr_by {x : Int32} {j : Nat} (h : j < 4) : (x >>> (nI (shN j) &&& 31)) &&& 255 = nI (byN x j) := by
  rw [← byN_ok]
  refine bt_ext (fun k hk => ?_)
  rw [bt_and, bt_and, bt255 hk]
  by_cases c : k < 8
  · have hs : shN j + k < 32 := by unfold shN; omega
    have hs2 : shN j < 31 := by unfold shN; omega
    congr 1
    unfold bt
    rw [ushr_bv h, sh31 hs2, Int32.toBitVec_shiftRight, BitVec.sshiftRight', smod_k hs2, BitVec.getLsbD_sshiftRight, BitVec.getLsbD_ushiftRight]
    simp [hs, hk]
  · rw [decide_eq_false c, Bool.and_false, Bool.and_false]
def pick (a b c d e : Int32) (i : Nat) : Int32 := if i = 0 then a else if i = 1 then b else if i = 2 then c else if i = 3 then d else e
def fdB (a b c d e : Int32) (k : Nat) : Nat := byN (pick a b c d e (k / 4)) (k % 4)
/-- the tape behind k bytes -/
def tpe (T : Nat × (Nat → Nat)) (B : Nat → Nat) : Nat → Nat × (Nat → Nat)
  | 0 => T
  | k + 1 => if B k = 0 then tpe T B k else ((tpe T B k).1 + 1, fun i => if i = (tpe T B k).1 then B k else (tpe T B k).2 i)
def nzB (B : Nat → Nat) : Nat → Nat
  | 0 => 0
  | k + 1 => if B k = 0 then nzB B k else nzB B k + 1
theorem tpe_len {T : Nat × (Nat → Nat)} {B : Nat → Nat} : ∀ k, (tpe T B k).1 = T.1 + nzB B k := by
  intro k
  induction k with
  | zero => rfl
  | succ k ih =>
    show (if B k = 0 then tpe T B k else _).1 = T.1 + (if B k = 0 then nzB B k else nzB B k + 1)
    by_cases c : B k = 0
    · rw [if_pos c, if_pos c, ih]
    · rw [if_neg c, if_neg c]
      show (tpe T B k).1 + 1 = _
      rw [ih]; omega
theorem nzB_le {B : Nat → Nat} : ∀ k, nzB B k ≤ k := by
  intro k
  induction k with
  | zero => exact Nat.le_refl _
  | succ k ih =>
    show (if B k = 0 then nzB B k else nzB B k + 1) ≤ k + 1
    split <;> omega
theorem nzB_mono {B : Nat → Nat} {m : Nat} : ∀ k, m ≤ k → nzB B m ≤ nzB B k := by
  intro k
  induction k with
  | zero => intro h; rw [show m = 0 by omega]; exact Nat.le_refl _
  | succ k ih =>
    intro h
    by_cases c : m = k + 1
    · rw [c]; exact Nat.le_refl _
    · have := ih (by omega)
      show nzB B m ≤ (if B k = 0 then nzB B k else nzB B k + 1)
      split <;> omega
theorem tpe_ok {T : Nat × (Nat → Nat)} {B : Nat → Nat} (hT : ∀ k, k < T.1 → 1 ≤ T.2 k ∧ T.2 k ≤ 255) (hB : ∀ k, B k ≤ 255) : ∀ n k, k < (tpe T B n).1 → 1 ≤ (tpe T B n).2 k ∧ (tpe T B n).2 k ≤ 255 := by
  intro n
  induction n with
  | zero => exact hT
  | succ n ih =>
    intro k
    show k < (if B n = 0 then tpe T B n else ((tpe T B n).1 + 1, fun i => if i = (tpe T B n).1 then B n else (tpe T B n).2 i)).1 → 1 ≤ (if B n = 0 then tpe T B n else ((tpe T B n).1 + 1, fun i => if i = (tpe T B n).1 then B n else (tpe T B n).2 i)).2 k ∧ (if B n = 0 then tpe T B n else ((tpe T B n).1 + 1, fun i => if i = (tpe T B n).1 then B n else (tpe T B n).2 i)).2 k ≤ 255
    by_cases c : B n = 0
    · rw [if_pos c]; exact ih k
    · rw [if_neg c]
      intro hk
      have hk : k < (tpe T B n).1 + 1 := hk
      show 1 ≤ (if k = (tpe T B n).1 then B n else (tpe T B n).2 k) ∧ (if k = (tpe T B n).1 then B n else (tpe T B n).2 k) ≤ 255
      by_cases c2 : k = (tpe T B n).1
      · rw [if_pos c2]; exact ⟨by omega, hB n⟩
      · rw [if_neg c2]; exact ih k (by omega)
def shI (j : Nat) : Int32 := if j < 4 then nI (shN j) else -8
theorem shI_s {j : Nat} (h : j < 4) : ¬ shI j < 0 ∧ shI j + (-8) = shI (j + 1) ∧ shI j = nI (shN j) := by
  have hj : j = 0 ∨ j = 1 ∨ j = 2 ∨ j = 3 := by omega
  rcases hj with rfl | rfl | rfl | rfl <;> decide
theorem bytesOf_ok {N i : Nat} {x : Int32} {B : Nat → Nat} {σ : sgS} (hN : 10000 ≤ N) (hB : ∀ j, j < 4 → B (4 * i + j) = byN x j) : ∃ v, f_X9_bytesOf N x σ = some (nI v) ∧ nzB B (4 * i + 4) = nzB B (4 * i) + v := by
  have hm := nzB_mono (B := B) (m := 4 * i) (4 * i + 4) (by omega)
  refine ⟨nzB B (4 * i + 4) - nzB B (4 * i), ?_, by omega⟩
  have key := lp_for (b := fun z : Int32 × Int32 => f_X9_bytesOf_L5 N x z.1 z.2 σ) (fun j => (nI (nzB B (4 * i + j) - nzB B (4 * i)), shI j)) 4 (nI (nzB B (4 * i + 4) - nzB B (4 * i))) (fun j hj => by
    show f_X9_bytesOf_L5 N x (nI (nzB B (4 * i + j) - nzB B (4 * i))) (shI j) σ = some (.inr (.inl (nI ((if B (4 * i + j) = 0 then nzB B (4 * i + j) else nzB B (4 * i + j) + 1) - nzB B (4 * i)), shI (j + 1))))
    obtain ⟨s1, s2, s3⟩ := shI_s hj
    have hm := nzB_mono (B := B) (m := 4 * i) (4 * i + j) (by omega)
    have hb := byN_le (x := x) (j := j)
    unfold f_X9_bytesOf_L5
    rw [if_neg s1, s2, s3, byN_ok, hB j hj]
    by_cases c : byN x j = 0
    · rw [if_pos (by rw [c]; rfl), if_pos c]
    · rw [if_neg (by rw [eq0_F (by omega) (by omega)]; exact id), if_neg c, nJ_addL]
      congr 5
      omega) (by
    show f_X9_bytesOf_L5 N x _ (shI 4) σ = _
    unfold f_X9_bytesOf_L5
    rw [if_pos (by decide)]) N 0 (by omega) (by omega)
  have key : sg_lp (fun z : Int32 × Int32 => f_X9_bytesOf_L5 N x z.1 z.2 σ) N ((nI (nzB B (4 * i) - nzB B (4 * i)), 24)) = _ := key
  rw [Nat.sub_self] at key
  unfold f_X9_bytesOf
  rw [show sg_lp (fun z : Int32 × Int32 => f_X9_bytesOf_L5 N x z.1 z.2 σ) N ((0, 24)) = _ from key, lb_inr]
def tqC (T : Nat × (Nat → Nat)) (σ : sgS) : Prop := σ.1 1 1 = nI T.1 ∧ ∀ k, k < T.1 → σ.1 2 k = nI (T.2 k)
def tqM (T : Nat × (Nat → Nat)) (σ : sgS) : Prop := σ.1 0 2 = nI T.1 ∧ ∀ k, k < T.1 → σ.1 1 k = nI (T.2 k)
def pTc (j k : Nat) : Prop := (j = 1 ∧ k = 1) ∨ j = 2
def pTm (j k : Nat) : Prop := (j = 0 ∧ k = 2) ∨ j = 1
theorem append_ok {N i : Nat} {x : Int32} {B : Nat → Nat} {T : Nat × (Nat → Nat)} {σ0 σ : sgS} (hN : 10000 ≤ N) (hB : ∀ j, j < 4 → B (4 * i + j) = byN x j) (hr : T.1 + nzB B (4 * i + 4) ≤ 240) (h : tqC (tpe T B (4 * i)) σ) (f : Fr pTc σ0 σ) : ∃ σ', f_X9_append N x σ = some (0, σ') ∧ tqC (tpe T B (4 * i + 4)) σ' ∧ Fr pTc σ0 σ' := by
  obtain ⟨σ', e, q1, q2⟩ := lp_cnt (b := fun z : sgS × Int32 => f_X9_append_L3 N x z.2 z.1) (n := 4) (fun j z => z.2 = shI j ∧ tqC (tpe T B (4 * i + j)) z.1 ∧ Fr pTc σ0 z.1) (fun s => tqC (tpe T B (4 * i + 4)) s ∧ Fr pTc σ0 s) (by
    rintro j ⟨s, z⟩ hj ⟨g1, g2, g3⟩
    have g1 : z = shI j := g1
    have g2 : tqC (tpe T B (4 * i + j)) s := g2
    have g3 : Fr pTc σ0 s := g3
    subst g1
    obtain ⟨s1, s2, s3⟩ := shI_s hj
    have hm := nzB_mono (B := B) (m := 4 * i + (j + 1)) (4 * i + 4) (by omega)
    have hl := tpe_len (T := T) (B := B) (4 * i + j)
    have hb := byN_le (x := x) (j := j)
    have en : nzB B (4 * i + (j + 1)) = if B (4 * i + j) = 0 then nzB B (4 * i + j) else nzB B (4 * i + j) + 1 := rfl
    show ∃ x', f_X9_append_L3 N x (shI j) s = some (.inr (.inl x')) ∧ x'.2 = shI (j + 1) ∧ tqC (if B (4 * i + j) = 0 then tpe T B (4 * i + j) else ((tpe T B (4 * i + j)).1 + 1, fun q => if q = (tpe T B (4 * i + j)).1 then B (4 * i + j) else (tpe T B (4 * i + j)).2 q)) x'.1 ∧ Fr pTc σ0 x'.1
    unfold f_X9_append_L3
    rw [if_neg s1, s2, s3, byN_ok, hB j hj]
    rw [hB j hj] at en
    by_cases c : byN x j = 0
    · rw [if_pos (by rw [c]; rfl), if_pos c]
      exact ⟨_, rfl, rfl, g2, g3⟩
    · rw [if_neg c] at en
      rw [if_neg (by rw [eq0_F (by omega) (by omega)]; exact id), g2.1, if_neg (by rw [nJ_Lle (by omega) (by decide)]; omega), st_ok (by omega) (by decide), pf_eq, up_ne (by decide), g2.1, nJ_addL, if_neg c]
      refine ⟨_, rfl, rfl, ⟨up_at, fun q hq => ?_⟩, (g3.tr (Fr.up (Or.inr rfl))).tr (Fr.up (Or.inl ⟨rfl, rfl⟩))⟩
      have hq : q < (tpe T B (4 * i + j)).1 + 1 := hq
      show (sg_up (sg_up s 2 (tpe T B (4 * i + j)).1 (nI (byN x j))) 1 1 _).1 2 q = nI (if q = (tpe T B (4 * i + j)).1 then byN x j else (tpe T B (4 * i + j)).2 q)
      rw [up_ne (by decide)]
      by_cases c2 : q = (tpe T B (4 * i + j)).1
      · rw [if_pos c2, c2, up_at]
      · rw [if_neg c2, up_nk c2]; exact g2.2 q (by omega)) (by
    rintro ⟨s, z⟩ ⟨g1, g2, g3⟩
    have g1 : z = shI 4 := g1
    subst g1
    refine ⟨s, ?_, g2, g3⟩
    show f_X9_append_L3 N x (shI 4) s = _
    unfold f_X9_append_L3
    rw [if_pos (by decide)]) N 0 ((σ, 24)) (by omega) (by omega) ⟨rfl, h, f⟩
  refine ⟨σ', ?_, q1, q2⟩
  unfold f_X9_append
  rw [e, lb_inr]
theorem byteOf_ok {N k : Nat} {a b c d e : Int32} {τ : sgS} (hk : k < 20) : f_X12_byteOf N a b c d e (nI k) τ = some (nI (fdB a b c d e k)) := by
  have hm : k % 4 < 4 := Nat.mod_lt _ (by decide)
  have b45 : ∀ w, f_X12_byteOf_B45 N a b c d e (nI k) w τ = some (nI (byN w (k % 4))) := by
    intro w
    unfold f_X12_byteOf_B45
    rw [nz_4, nJ_modL (by omega) (by decide), nJ_Lmul, show (24 : Int32) = nI 24 from rfl, nJ_sub (by omega)]
    have := shr_by (x := w) (j := k % 4) hm
    unfold shN at this
    rw [this]
  unfold f_X12_byteOf fdB
  rw [b45, b45, b45, b45, b45]
  have hq : k / 4 = 0 ∨ k / 4 = 1 ∨ k / 4 = 2 ∨ k / 4 = 3 ∨ k / 4 = 4 := by omega
  rcases hq with hq | hq | hq | hq | hq
  · rw [show pick a b c d e (k / 4) = a from by rw [hq]; rfl]
    simp (disch := omega) only [lt_T, lt_F, le_T, le_F, eq_T, eq_F, ltL_T, ltL_F, leL_T, leL_F, eqL_T, eqL_F, Llt_T, Llt_F, Lle_T, Lle_F, Leq_T, Leq_F, n10_F, n01_F, le0_F, lt0_T, le0_T, eq0_F, lt1_F, nJ_not_neg, nJ_ne_neg, nJ_neg_lt, nJ_neg_le, nJ_le_neg, ↓reduceIte]
  · rw [show pick a b c d e (k / 4) = b from by rw [hq]; rfl]
    simp (disch := omega) only [lt_T, lt_F, le_T, le_F, eq_T, eq_F, ltL_T, ltL_F, leL_T, leL_F, eqL_T, eqL_F, Llt_T, Llt_F, Lle_T, Lle_F, Leq_T, Leq_F, n10_F, n01_F, le0_F, lt0_T, le0_T, eq0_F, lt1_F, nJ_not_neg, nJ_ne_neg, nJ_neg_lt, nJ_neg_le, nJ_le_neg, ↓reduceIte]
  · rw [show pick a b c d e (k / 4) = c from by rw [hq]; rfl]
    simp (disch := omega) only [lt_T, lt_F, le_T, le_F, eq_T, eq_F, ltL_T, ltL_F, leL_T, leL_F, eqL_T, eqL_F, Llt_T, Llt_F, Lle_T, Lle_F, Leq_T, Leq_F, n10_F, n01_F, le0_F, lt0_T, le0_T, eq0_F, lt1_F, nJ_not_neg, nJ_ne_neg, nJ_neg_lt, nJ_neg_le, nJ_le_neg, ↓reduceIte]
  · rw [show pick a b c d e (k / 4) = d from by rw [hq]; rfl]
    simp (disch := omega) only [lt_T, lt_F, le_T, le_F, eq_T, eq_F, ltL_T, ltL_F, leL_T, leL_F, eqL_T, eqL_F, Llt_T, Llt_F, Lle_T, Lle_F, Leq_T, Leq_F, n10_F, n01_F, le0_F, lt0_T, le0_T, eq0_F, lt1_F, nJ_not_neg, nJ_ne_neg, nJ_neg_lt, nJ_neg_le, nJ_le_neg, ↓reduceIte]
  · rw [show pick a b c d e (k / 4) = e from by rw [hq]; rfl]
    simp (disch := omega) only [lt_T, lt_F, le_T, le_F, eq_T, eq_F, ltL_T, ltL_F, leL_T, leL_F, eqL_T, eqL_F, Llt_T, Llt_F, Lle_T, Lle_F, Leq_T, Leq_F, n10_F, n01_F, le0_F, lt0_T, le0_T, eq0_F, lt1_F, nJ_not_neg, nJ_ne_neg, nJ_neg_lt, nJ_neg_le, nJ_le_neg, ↓reduceIte]
theorem fdB_at {a b c d e : Int32} {i j : Nat} (h : j < 4) : fdB a b c d e (4 * i + j) = byN (pick a b c d e i) j := by
  unfold fdB
  rw [show (4 * i + j) / 4 = i by omega, show (4 * i + j) % 4 = j by omega]
theorem lw_O0_ok : lw_O0 Rel := by
  intro a1 a2 a3 a4 a5
  refine rw_eq (fun A σ τ ok C M => ⟨10000, 10000, ?_⟩)
  have okL4 : (aL A).1 ≤ 4 := ok.2.2.1.1
  have okY4 : wN (aY A) ≤ 4 := ok.2.2.2.1.1
  have gC := RelC_iff.mp C
  have gM := RelM_iff.mp M
  have h240 := ok.1.1
  have tC0 : tqC (aT A) σ := gC.1
  have tM0 : tqM (aT A) τ := gM.1
  have hB : ∀ k, fdB a1 a2 a3 a4 a5 k ≤ 255 := fun k => byN_le
  have hat : ∀ i j, j < 4 → fdB a1 a2 a3 a4 a5 (4 * i + j) = byN (pick a1 a2 a3 a4 a5 i) j := fun i j hj => fdB_at hj
  have bM : ∀ k s, k < 20 → f_X12_byteOf 10000 a1 a2 a3 a4 a5 (nI k) s = some (nI (fdB a1 a2 a3 a4 a5 k)) := fun k s hk => byteOf_ok hk
  generalize fdB a1 a2 a3 a4 a5 = B at hB hat bM
  have hn20 := nzB_le (B := B) 20
  obtain ⟨v1, p1, r1⟩ := bytesOf_ok (N := 10000) (i := 0) (x := a1) (σ := σ) (by decide) (hat 0)
  obtain ⟨v2, p2, r2⟩ := bytesOf_ok (N := 10000) (i := 1) (x := a2) (σ := σ) (by decide) (hat 1)
  obtain ⟨v3, p3, r3⟩ := bytesOf_ok (N := 10000) (i := 2) (x := a3) (σ := σ) (by decide) (hat 2)
  obtain ⟨v4, p4, r4⟩ := bytesOf_ok (N := 10000) (i := 3) (x := a4) (σ := σ) (by decide) (hat 3)
  obtain ⟨v5, p5, r5⟩ := bytesOf_ok (N := 10000) (i := 4) (x := a5) (σ := σ) (by decide) (hat 4)
  have hz : nzB B (4 * 0) = 0 := rfl
  have hsum : v1 + v2 + v3 + v4 + v5 = nzB B 20 := by
    have e1 : nzB B (4 * 1) = nzB B (4 * 0 + 4) := rfl
    have e2 : nzB B (4 * 2) = nzB B (4 * 1 + 4) := rfl
    have e3 : nzB B (4 * 3) = nzB B (4 * 2 + 4) := rfl
    have e4 : nzB B (4 * 4) = nzB B (4 * 3 + 4) := rfl
    have e5 : nzB B 20 = nzB B (4 * 4 + 4) := rfl
    omega
  have mM := lp_for (b := fun z : Int32 × Int32 => f_X12_feed_L6 10000 a1 a2 a3 a4 a5 z.1 z.2 τ) (fun k => (nI (nzB B k), nI k)) 20 (nI (nzB B 20)) (fun k hk => by
    show f_X12_feed_L6 10000 a1 a2 a3 a4 a5 (nI (nzB B k)) (nI k) τ = some (.inr (.inl (nI (if B k = 0 then nzB B k else nzB B k + 1), nI (k + 1))))
    have := hB k
    unfold f_X12_feed_L6
    rw [if_neg (by rw [nJ_Lle (by omega) (by decide)]; omega), bM k τ hk, cr_some, nJ_addL, nJ_addL, nJ_addL, Nat.add_zero]
    by_cases c : B k = 0
    · rw [if_pos (by rw [c]; rfl), if_pos c]
    · rw [if_neg (by rw [eq0_F (by omega) (by omega)]; exact id), if_neg c]) (by
    show f_X12_feed_L6 10000 a1 a2 a3 a4 a5 _ (nI 20) τ = _
    unfold f_X12_feed_L6
    rw [if_pos (by decide)]) 10000 0 (by omega) (by omega)
  have mM : sg_lp (fun z : Int32 × Int32 => f_X12_feed_L6 10000 a1 a2 a3 a4 a5 z.1 z.2 τ) 10000 ((0, 0)) = _ := mM
  unfold f_X11_feed f_X12_feed
  rw [p1, p2, p3, p4, p5]
  simp only [cr_some]
  rw [mM, lb_inr, gC.1.1, gM.1.1, nJ_add, nJ_add, nJ_add, nJ_add, nJ_add, nJ_add, hsum]
  by_cases hr : (aT A).1 + nzB B 20 ≤ 240
  · rw [if_pos (by rw [nJ_leL (by omega) (by decide)]; exact hr), if_pos (by rw [nJ_leL (by omega) (by decide)]; exact hr)]
    have mono : ∀ i, i ≤ 4 → (aT A).1 + nzB B (4 * i + 4) ≤ 240 := fun i hi => by
      have := nzB_mono (B := B) (m := 4 * i + 4) 20 (by omega)
      omega
    obtain ⟨σ1, e1, t1, f1⟩ := append_ok (N := 10000) (i := 0) (x := a1) (B := B) (T := aT A) (σ0 := σ) (by decide) (hat 0) (mono 0 (by decide)) tC0 Fr.rf
    obtain ⟨σ2, e2, t2, f2⟩ := append_ok (N := 10000) (i := 1) (x := a2) (B := B) (T := aT A) (σ0 := σ) (by decide) (hat 1) (mono 1 (by decide)) t1 f1
    obtain ⟨σ3, e3, t3, f3⟩ := append_ok (N := 10000) (i := 2) (x := a3) (B := B) (T := aT A) (σ0 := σ) (by decide) (hat 2) (mono 2 (by decide)) t2 f2
    obtain ⟨σ4, e4, t4, f4⟩ := append_ok (N := 10000) (i := 3) (x := a4) (B := B) (T := aT A) (σ0 := σ) (by decide) (hat 3) (mono 3 (by decide)) t3 f3
    obtain ⟨σ5, e5, t5, f5⟩ := append_ok (N := 10000) (i := 4) (x := a5) (B := B) (T := aT A) (σ0 := σ) (by decide) (hat 4) (mono 4 (by decide)) t4 f4
    obtain ⟨τ5, e6, t6, f6⟩ := lp_st (b := fun x : sgS × Int32 => f_X12_feed_L62 10000 a1 a2 a3 a4 a5 x.2 x.1) (n := 20) (fun k s => tqM (tpe (aT A) B k) s ∧ Fr pTm τ s) (by
      rintro k s hk ⟨g2, g3⟩
      have hb := hB k
      have hl := tpe_len (T := aT A) (B := B) k
      have hm := nzB_mono (B := B) (m := k + 1) 20 (by omega)
      have en : nzB B (k + 1) = if B k = 0 then nzB B k else nzB B k + 1 := rfl
      show ∃ s', f_X12_feed_L62 10000 a1 a2 a3 a4 a5 (nI k) s = some (.inr (.inl (s', nI (k + 1)))) ∧ tqM (if B k = 0 then tpe (aT A) B k else ((tpe (aT A) B k).1 + 1, fun q => if q = (tpe (aT A) B k).1 then B k else (tpe (aT A) B k).2 q)) s' ∧ Fr pTm τ s'
      unfold f_X12_feed_L62
      rw [if_neg (by rw [nJ_Lle (by omega) (by decide)]; omega), bM k s hk, cr_some, nJ_addL]
      by_cases c : B k = 0
      · rw [if_pos (by rw [c]; rfl), if_pos c]
        exact ⟨_, rfl, g2, g3⟩
      · rw [if_neg c] at en
        rw [if_neg (by rw [eq0_F (by omega) (by omega)]; exact id), g2.1, st_ok (by omega) (by decide), pf_eq, up_ne (by decide), g2.1, nJ_addL, if_neg c]
        refine ⟨_, rfl, ⟨up_at, fun q hq => ?_⟩, (g3.tr (Fr.up (Or.inr rfl))).tr (Fr.up (Or.inl ⟨rfl, rfl⟩))⟩
        have hq : q < (tpe (aT A) B k).1 + 1 := hq
        show (sg_up (sg_up s 1 (tpe (aT A) B k).1 (nI (B k))) 0 2 _).1 1 q = nI (if q = (tpe (aT A) B k).1 then B k else (tpe (aT A) B k).2 q)
        rw [up_ne (by decide)]
        by_cases c2 : q = (tpe (aT A) B k).1
        · rw [if_pos c2, c2, up_at]
        · rw [if_neg c2, up_nk c2]; exact g2.2 q (by omega)) (by
      intro s _
      show f_X12_feed_L62 10000 a1 a2 a3 a4 a5 (nI 20) s = _
      unfold f_X12_feed_L62
      rw [if_pos (by decide)]) 10000 0 τ (by omega) (by omega) ⟨tM0, Fr.rf⟩
    have e6 : sg_lp (fun x : sgS × Int32 => f_X12_feed_L62 10000 a1 a2 a3 a4 a5 x.2 x.1) 10000 ((τ, 0)) = _ := e6
    rw [e1, cl_some, e2, cl_some, e3, cl_some, e4, cl_some, e5, cl_some, e6, lb_inr, t5.1, t6.1]
    have fC : Fr (fun j k => (j = 1 ∧ k = 1) ∨ j = 2) σ σ5 := f5
    have fM : Fr (fun j k => (j = 0 ∧ k = 2) ∨ j = 1) τ τ5 := f6
    have hl := tpe_len (T := aT A) (B := B) 20
    refine ⟨_, _, _, uT A (tpe (aT A) B 20), rfl, rfl, ⟨⟨by show (tpe (aT A) B 20).1 ≤ 240; omega, tpe_ok ok.1.2 hB 20⟩, ok.2⟩, RelC_iff.mpr ⟨t5, (gCK_fr fC (fun j k hx => by unfold xCK at hx; (try unfold pt); (try unfold pb); (try unfold p21); (try unfold scC); (try unfold scM); omega) rfl gC.2.1), (gCL_fr fC (fun j k hx => by unfold xCL at hx; (try unfold pt); (try unfold pb); (try unfold p21); (try unfold scC); (try unfold scM); omega) rfl okL4 gC.2.2.1), (gCY_fr fC (fun j k hx => by unfold xCY at hx; (try unfold pt); (try unfold pb); (try unfold p21); (try unfold scC); (try unfold scM); omega) rfl okY4 gC.2.2.2.1), (gCN_fr fC (fun j k hx => by unfold xCN at hx; (try unfold pt); (try unfold pb); (try unfold p21); (try unfold scC); (try unfold scM); omega) rfl rfl rfl rfl gC.2.2.2.2.1), (gCP_fr fC (fun j k hx => by unfold xCP at hx; (try unfold pt); (try unfold pb); (try unfold p21); (try unfold scC); (try unfold scM); omega) rfl rfl rfl gC.2.2.2.2.2.1), (gCI_fr fC (fun j k hx => by unfold xCI at hx; (try unfold pt); (try unfold pb); (try unfold p21); (try unfold scC); (try unfold scM); omega) rfl rfl gC.2.2.2.2.2.2.1), (gCV_fr fC (fun j k hx => by unfold xCV at hx; (try unfold pt); (try unfold pb); (try unfold p21); (try unfold scC); (try unfold scM); omega) rfl gC.2.2.2.2.2.2.2.1), (gCF_fr fC (fun j k hx => by unfold xCF at hx; (try unfold pt); (try unfold pb); (try unfold p21); (try unfold scC); (try unfold scM); omega) rfl gC.2.2.2.2.2.2.2.2.1), (gCR_fr fC (fun j k hx => by unfold xCR at hx; (try unfold pt); (try unfold pb); (try unfold p21); (try unfold scC); (try unfold scM); omega) rfl gC.2.2.2.2.2.2.2.2.2)⟩, RelM_iff.mpr ⟨t6, (gMK_fr fM (fun j k hx => by unfold xMK at hx; (try unfold pt); (try unfold pb); (try unfold p21); (try unfold scC); (try unfold scM); omega) rfl gM.2.1), (gML_fr fM (fun j k hx => by unfold xML at hx; (try unfold pt); (try unfold pb); (try unfold p21); (try unfold scC); (try unfold scM); omega) rfl gM.2.2.1), (gMY_fr fM (fun j k hx => by unfold xMY at hx; (try unfold pt); (try unfold pb); (try unfold p21); (try unfold scC); (try unfold scM); omega) rfl gM.2.2.2.1), (gMN_fr fM (fun j k hx => by unfold xMN at hx; (try unfold pt); (try unfold pb); (try unfold p21); (try unfold scC); (try unfold scM); omega) rfl rfl rfl gM.2.2.2.2.1), (gMP_fr fM (fun j k hx => by unfold xMP at hx; (try unfold pt); (try unfold pb); (try unfold p21); (try unfold scC); (try unfold scM); omega) rfl rfl rfl rfl gM.2.2.2.2.2.1), (gMI_fr fM (fun j k hx => by unfold xMI at hx; (try unfold pt); (try unfold pb); (try unfold p21); (try unfold scC); (try unfold scM); omega) rfl rfl gM.2.2.2.2.2.2.1), (gMV_fr fM (fun j k hx => by unfold xMV at hx; (try unfold pt); (try unfold pb); (try unfold p21); (try unfold scC); (try unfold scM); omega) rfl gM.2.2.2.2.2.2.2.1), (gMF_fr fM (fun j k hx => by unfold xMF at hx; (try unfold pt); (try unfold pb); (try unfold p21); (try unfold scC); (try unfold scM); omega) rfl gM.2.2.2.2.2.2.2.2.1), (gMR_fr fM (fun j k hx => by unfold xMR at hx; (try unfold pt); (try unfold pb); (try unfold p21); (try unfold scC); (try unfold scM); omega) rfl gM.2.2.2.2.2.2.2.2.2)⟩⟩
  · rw [if_neg (by rw [nJ_leL (by omega) (by decide)]; exact hr), if_neg (by rw [nJ_leL (by omega) (by decide)]; exact hr)]
    exact ⟨_, _, _, A, rfl, rfl, ok, C, M⟩
