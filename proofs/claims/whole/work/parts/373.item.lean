/-! ITEMS of a clause of kind k: s, p, r, w -/
def itF (k : Nat) : Nat := [0, 2, 3, 7].getD k 0
def itN (k : Nat) : Nat := [2, 1, 4, 1].getD k 0
def itU (g : Nat) : Nat := [12, 20, 3, 0, 1, 4, 2, 0].getD g 0
def itA (g : Nat) : Nat := [1, 0, 0, 0, 0, 1, 0, 0].getD g 0
def itZ (g : Nat) : Nat := [24, 99, 9, 6, 6, 9, 9, 6].getD g 0
def itK (k : Nat) : Nat := [115, 112, 114, 119].getD k 0
def itX (k : Nat) : Nat := [1, 7, 12, 4].getD k 0
def itC (g : Nat) : Nat := [104, 107, 99, 97, 98, 108, 100, 115].getD g 0
def itS (k c : Nat) : Nat := if itC (itF k) = c then 0 else if 1 < itN k ∧ itC (itF k + 1) = c then 1 else if 2 < itN k ∧ itC (itF k + 2) = c then 2 else if 3 < itN k ∧ itC (itF k + 3) = c then 3 else 9
def kdS (c : Nat) : Nat := if c = 115 then 0 else if c = 112 then 1 else if c = 114 then 2 else if c = 119 then 3 else 9
def itT (T : Nat × (Nat → Nat)) (k s : Nat) : Nat := if s < T.1 then itS k (T.2 s) else 9
def kdT (T : Nat × (Nat → Nat)) (s : Nat) : Nat := if s < T.1 then kdS (T.2 s) else 9
def zS : sgS := (fun _ _ => 0, fun _ => 0)
theorem itS_C : ∀ c : Fin 256, ∀ k : Fin 4, f_X0_itemOf 10000 (nI c.val) (nI (itF k.val)) (nI (itF k.val + itN k.val)) zS = some (if itS k.val c.val < 9 then nI (itF k.val + itS k.val c.val) else -1) := by decide +kernel
theorem itS_C0 {x y z : Int32} {σ : sgS} : f_X0_itemOf 10000 x y z σ = f_X0_itemOf 10000 x y z zS := rfl
theorem itS_M : ∀ c : Fin 256, ∀ k : Fin 4, f_X12_itemOf 10000 (nI (itK k.val)) (nI c.val) zS = some (if itS k.val c.val < 9 then nI (itS k.val c.val) else -1) := by decide +kernel
theorem itS_M0 {x y : Int32} {σ : sgS} : f_X12_itemOf 10000 x y σ = f_X12_itemOf 10000 x y zS := rfl
theorem itS_Me : ∀ k : Fin 4, f_X12_itemOf 10000 (nI (itK k.val)) (-1) zS = some (-1) := by decide +kernel
theorem kdS_C : ∀ c : Fin 256, f_J0_indexOf_0f7a4 10000 1 (((nI c.val).toUInt32 % 65536).toInt32) zS = some (if kdS c.val < 9 then nI (kdS c.val) else -1) := by decide +kernel
theorem kdS_C0 {x : Int32} {σ : sgS} : f_J0_indexOf_0f7a4 10000 1 x σ = f_J0_indexOf_0f7a4 10000 1 x zS := rfl
theorem itS_bd : ∀ c : Fin 256, ∀ k : Fin 4, itS k.val c.val < 9 → itS k.val c.val < itN k.val := by decide +kernel
theorem kdS_bd : ∀ c : Fin 256, kdS c.val < 9 → kdS c.val < 4 ∧ c.val = itK (kdS c.val) := by decide +kernel
def pcN (b : Nat) : Nat := b % 2 + b / 2 % 2 + b / 4 % 2 + b / 8 % 2
theorem pc_C : ∀ k : Fin 4, ∀ i : Fin 4, ∀ b : Fin 16, i.val < itN k.val → b.val < 2 ^ itN k.val → (((nI (b.val * 2 ^ itF k.val) >>> (nI (itF k.val + i.val) &&& 31)) &&& 1) = (if b.val.testBit i.val then 1 else 0)) ∧ (nI (b.val * 2 ^ itF k.val) ||| (1 <<< (nI (itF k.val + i.val) &&& 31))) = nI ((b.val ||| 2 ^ i.val) * 2 ^ itF k.val) ∧ (nI b.val ||| (1 <<< (nI i.val &&& 31))) = nI (b.val ||| 2 ^ i.val) ∧ (b.val ||| 2 ^ i.val) < 2 ^ itN k.val ∧ (b.val.testBit i.val = false → pcN (b.val ||| 2 ^ i.val) = pcN b.val + 1 ∧ pcN b.val < itN k.val) := by decide +kernel
theorem tb_C : ∀ k : Fin 4, ∀ i : Fin 4, i.val < itN k.val → (sg_sv 2).getD (itF k.val + i.val) 0 = nI (itU (itF k.val + i.val)) ∧ (sg_sv 3).getD (itF k.val + i.val) 0 = nI (itA (itF k.val + i.val)) ∧ (sg_sv 4).getD (itF k.val + i.val) 0 = nI (itZ (itF k.val + i.val)) ∧ f_X12_usual 10000 (nI (itK k.val)) (nI i.val) zS = some (nI (itU (itF k.val + i.val))) ∧ f_X12_lowest 10000 (nI (itK k.val)) (nI i.val) zS = some (nI (itA (itF k.val + i.val))) ∧ f_X12_highest 10000 (nI (itK k.val)) (nI i.val) zS = some (nI (itZ (itF k.val + i.val))) ∧ itF k.val + i.val < 8 ∧ itZ (itF k.val + i.val) < 100 ∧ itA (itF k.val + i.val) ≤ itU (itF k.val + i.val) ∧ itU (itF k.val + i.val) ≤ itZ (itF k.val + i.val) ∧ itA (itF k.val + i.val) < 100 := by decide +kernel
theorem us_0 {x y : Int32} {σ : sgS} : f_X12_usual 10000 x y σ = f_X12_usual 10000 x y zS := rfl
theorem lo_0 {x y : Int32} {σ : sgS} : f_X12_lowest 10000 x y σ = f_X12_lowest 10000 x y zS := rfl
theorem hi_0 {x y : Int32} {σ : sgS} : f_X12_highest 10000 x y σ = f_X12_highest 10000 x y zS := rfl
theorem pc_le : ∀ k : Fin 4, ∀ b : Fin 16, b.val < 2 ^ itN k.val → pcN b.val ≤ itN k.val := by decide +kernel
theorem itN_le : ∀ k : Fin 4, 2 ^ itN k.val ≤ 16 ∧ itN k.val ≤ 4 ∧ itF k.val ≤ 7 := by decide +kernel
def itW (T : Nat × (Nat → Nat)) (k : Nat) : Nat → Nat → Nat → (Nat → Nat) → Bool × Nat × (Nat → Nat)
  | 0, a, _, v => (false, a, v)
  | f + 1, a, b, v => if itT T k (skp T a) < 9 ∧ b.testBit (itT T k (skp T a)) = false then (if (numR T (skp T a + 1) (itA (itF k + itT T k (skp T a))) (itZ (itF k + itT T k (skp T a)))).1 = true then itW T k f (numR T (skp T a + 1) (itA (itF k + itT T k (skp T a))) (itZ (itF k + itT T k (skp T a)))).2.1 (b ||| 2 ^ itT T k (skp T a)) (fun j => if j = itT T k (skp T a) then (numR T (skp T a + 1) (itA (itF k + itT T k (skp T a))) (itZ (itF k + itT T k (skp T a)))).2.2 else v j) else (false, (numR T (skp T a + 1) (itA (itF k + itT T k (skp T a))) (itZ (itF k + itT T k (skp T a)))).2.1, v)) else (true, skp T a, v)
theorem itT_bd {T : Nat × (Nat → Nat)} {k s : Nat} (o : okT T) (hk : k < 4) (h : itT T k s < 9) : s < T.1 ∧ itT T k s < itN k ∧ itT T k s < 4 ∧ T.2 s < 256 ∧ itT T k s = itS k (T.2 s) := by
  unfold itT at h ⊢
  by_cases c : s < T.1
  · rw [if_pos c] at h ⊢
    have hb := o.2 s c
    have := itS_bd ⟨T.2 s, by omega⟩ ⟨k, hk⟩ h
    have h4 := (itN_le ⟨k, hk⟩).2.1
    exact ⟨c, this, Nat.lt_of_lt_of_le this h4, by omega, rfl⟩
  · rw [if_neg c] at h
    exact absurd h (by decide)
theorem itW_bd {T : Nat × (Nat → Nat)} {k : Nat} (o : okT T) (hk : k < 4) : ∀ f a b v, pcN b + f = itN k + 1 → b < 2 ^ itN k → a ≤ T.1 → (∀ i, i < itN k → itA (itF k + i) ≤ v i ∧ v i ≤ itZ (itF k + i)) → (itW T k f a b v).2.1 ≤ T.1 ∧ ((itW T k f a b v).1 = true → a ≤ (itW T k f a b v).2.1 ∧ skp T (itW T k f a b v).2.1 = (itW T k f a b v).2.1 ∧ ∀ i, i < itN k → itA (itF k + i) ≤ (itW T k f a b v).2.2 i ∧ (itW T k f a b v).2.2 i ≤ itZ (itF k + i)) := by
  have hN := itN_le ⟨k, hk⟩
  intro f
  induction f with
  | zero =>
    intro a b v h1 h2
    have := pc_le ⟨k, hk⟩ ⟨b, Nat.lt_of_lt_of_le h2 hN.1⟩ h2
    have : pcN b ≤ itN k := this
    omega
  | succ f ih =>
    intro a b v h1 h2 ha hv
    have hs := skp_le ha
    have hg := skp_ge (T := T) (a := a)
    unfold itW
    by_cases c : itT T k (skp T a) < 9 ∧ b.testBit (itT T k (skp T a)) = false
    · rw [if_pos c]
      have hi := itT_bd o hk c.1
      have hp := pc_C ⟨k, hk⟩ ⟨itT T k (skp T a), hi.2.2.1⟩ ⟨b, Nat.lt_of_lt_of_le h2 hN.1⟩ hi.2.1 h2
      have hpb : pcN (b ||| 2 ^ itT T k (skp T a)) = pcN b + 1 := (hp.2.2.2.2 c.2).1
      have hn := numR_bd (T := T) (a := skp T a + 1) (lo := itA (itF k + itT T k (skp T a))) (hi := itZ (itF k + itT T k (skp T a))) (by omega)
      by_cases c2 : (numR T (skp T a + 1) (itA (itF k + itT T k (skp T a))) (itZ (itF k + itT T k (skp T a)))).1 = true
      · rw [if_pos c2]
        have := ih (numR T (skp T a + 1) (itA (itF k + itT T k (skp T a))) (itZ (itF k + itT T k (skp T a)))).2.1 (b ||| 2 ^ itT T k (skp T a)) (fun j => if j = itT T k (skp T a) then (numR T (skp T a + 1) (itA (itF k + itT T k (skp T a))) (itZ (itF k + itT T k (skp T a)))).2.2 else v j) (by omega) hp.2.2.2.1 hn.1 (fun i hi2 => by
          show itA (itF k + i) ≤ (if i = itT T k (skp T a) then _ else v i) ∧ (if i = itT T k (skp T a) then _ else v i) ≤ itZ (itF k + i)
          by_cases ci : i = itT T k (skp T a)
          · rw [if_pos ci, ci]; exact (hn.2 c2).2
          · rw [if_neg ci]; exact hv i hi2)
        refine ⟨this.1, fun h => ?_⟩
        have h3 := this.2 h
        have h4 := (hn.2 c2).1
        exact ⟨by omega, h3.2⟩
      · rw [if_neg c2]
        exact ⟨hn.1, (fun h => by cases h)⟩
    · rw [if_neg c]
      exact ⟨hs, fun _ => ⟨hg, skp_id, hv⟩⟩
/-! the class -/
theorem rdN_C {T : Nat × (Nat → Nat)} {k i a : Nat} {σ : sgS} (o : okT T) (hk : k < 4) (hi : i < itN k) (ha : a ≤ T.1) (hT : tqC T σ) (e : σ.1 1 2 = nI a) : ∃ σ', f_X0_readNumber 10000 11 (nI (itF k + i)) σ = some ((if (numR T a (itA (itF k + i)) (itZ (itF k + i))).1 = true then 1 else 0), σ') ∧ σ'.1 1 2 = nI (numR T a (itA (itF k + i)) (itZ (itF k + i))).2.1 ∧ tqC T σ' ∧ ((numR T a (itA (itF k + i)) (itZ (itF k + i))).1 = true → σ'.1 18 (itF k + i) = nI (numR T a (itA (itF k + i)) (itZ (itF k + i))).2.2) ∧ Fr (fun j q => (j = 1 ∧ q = 2) ∨ (j = 18 ∧ q = itF k + i)) σ σ' := by
  have h240 := o.1
  have h4 := (itN_le ⟨k, hk⟩).2.1
  have tb := tb_C ⟨k, hk⟩ ⟨i, Nat.lt_of_lt_of_le hi h4⟩ hi
  obtain ⟨_, t3, t4, _, _, _, t8, t9, _, _, t10⟩ := tb
  have t3 : (sg_sv 3).getD (itF k + i) 0 = nI (itA (itF k + i)) := t3
  have t4 : (sg_sv 4).getD (itF k + i) 0 = nI (itZ (itF k + i)) := t4
  have t8 : itF k + i < 8 := t8
  have t9 : itZ (itF k + i) < 100 := t9
  have t10 : itA (itF k + i) < 100 := t10
  have hs := skp_le ha
  have frm : ∀ {s s' : sgS}, Fr (pt 1 2) s s' → Fr (fun j q => (j = 1 ∧ q = 2) ∨ (j = 18 ∧ q = itF k + i)) s s' := fun f => f.mono (fun j q h => Or.inl h)
  obtain ⟨σ1, s1, s2, s3, s4⟩ := sign_ok o (by omega) hT e
  unfold f_X0_readNumber numR
  rw [s1, cl_some, dig_C o, cr_some]
  cases hd : dgt T (skp T a) with
  | false =>
    rw [show (if false = true then (1 : Int32) else 0) = 0 from rfl, if_pos rfl, if_neg (show ¬ false = true by decide)]
    exact ⟨σ1, rfl, s2, s3, (fun h => by cases h), frm s4⟩
  | true =>
    have hl := dgt_lt hd
    rw [show (if true = true then (1 : Int32) else 0) = 1 from rfl, if_neg nn10, if_pos (show true = true from rfl)]
    obtain ⟨σ2, q1, q2, q3, q4⟩ := num_C (m := 2) o (by decide) (by decide) hd s3 s2
    have hb := nmF_bd (T := T) 2 (skp T a) 0 (by omega)
    have q1 : f_X9_number 10000 2 σ1 = _ := q1
    have e12 : nmF T 2 (skp T a) 0 = nmF T 1 (skp T a + 1) (10 * 0 + (T.2 (skp T a) - 48)) := nmF_dig (f := 1) hd
    have hb2 := (nmF_bd (T := T) 1 (skp T a + 1) (10 * 0 + (T.2 (skp T a) - 48)) (by omega)).1
    rw [← e12] at hb2
    rw [q1, cl_some]
    by_cases c : (nmF T 2 (skp T a) 0).1 = true
    · rw [if_pos c, if_pos c, if_neg (by rw [nJ_ne_neg (by omega)]; exact id), tb_ok (by exact t8) (by decide), t3]
      by_cases c1 : (nmF T 2 (skp T a) 0).2.2 < itA (itF k + i)
      · rw [if_pos (by rw [nJ_lt (by omega) (by omega)]; exact c1), if_neg (show ¬ (itA (itF k + i) ≤ (nmF T 2 (skp T a) 0).2.2 ∧ (nmF T 2 (skp T a) 0).2.2 ≤ itZ (itF k + i)) by omega), pf_eq, q2, nJ_subL (by omega)]
        exact ⟨_, rfl, up_at, ⟨by rw [up_nk (by decide)]; exact q3.1, fun q hq => by rw [up_ne (by decide)]; exact q3.2 q hq⟩, (fun h => by cases h), frm ((s4.tr q4).tr Fr_pt)⟩
      · rw [if_neg (by rw [nJ_lt (by omega) (by omega)]; exact c1), tb_ok (by exact t8) (by decide), t4]
        by_cases c2 : (nmF T 2 (skp T a) 0).2.2 ≤ itZ (itF k + i)
        · rw [if_pos (by rw [nJ_le (by omega) (by omega)]; exact c2), if_pos (show (itA (itF k + i) ≤ (nmF T 2 (skp T a) 0).2.2 ∧ (nmF T 2 (skp T a) 0).2.2 ≤ itZ (itF k + i)) by omega), st_ok t8 (by decide)]
          exact ⟨_, rfl, by rw [up_ne (by decide)]; exact q2, ⟨by rw [up_ne (by decide)]; exact q3.1, fun q hq => by rw [up_ne (by decide)]; exact q3.2 q hq⟩, fun _ => up_at, (frm (s4.tr q4)).tr (Fr.up (Or.inr ⟨rfl, rfl⟩))⟩
        · rw [if_neg (by rw [nJ_le (by omega) (by omega)]; exact c2), if_neg (show ¬ (itA (itF k + i) ≤ (nmF T 2 (skp T a) 0).2.2 ∧ (nmF T 2 (skp T a) 0).2.2 ≤ itZ (itF k + i)) by omega), pf_eq, q2, nJ_subL (by omega)]
          exact ⟨_, rfl, up_at, ⟨by rw [up_nk (by decide)]; exact q3.1, fun q hq => by rw [up_ne (by decide)]; exact q3.2 q hq⟩, (fun h => by cases h), frm ((s4.tr q4).tr Fr_pt)⟩
    · rw [if_neg c, if_neg c, if_pos rfl]
      exact ⟨σ2, rfl, q2, q3, (fun h => by cases h), frm (s4.tr q4)⟩
def pIc (j q : Nat) : Prop := (j = 1 ∧ q = 2) ∨ j = 18
theorem itm_C {T : Nat × (Nat → Nat)} {k s : Nat} {σ : sgS} (o : okT T) (hk : k < 4) (h : s < T.1) : f_X0_itemOf 10000 (nI (T.2 s)) (nI (itF k)) (nI (itF k + itN k)) σ = some (if itT T k s < 9 then nI (itF k + itT T k s) else -1) := by
  have hb := o.2 s h
  rw [itS_C0]
  have := itS_C ⟨T.2 s, by omega⟩ ⟨k, hk⟩
  unfold itT
  rw [if_pos h]
  exact this
theorem itC_lp {T : Nat × (Nat → Nat)} {k : Nat} (o : okT T) (hk : k < 4) : ∀ f a b v M σ, pcN b + f = itN k + 1 → b < 2 ^ itN k → f ≤ M → a ≤ T.1 → tqC T σ → σ.1 1 2 = nI a → (∀ i, i < itN k → σ.1 18 (itF k + i) = nI (v i)) → ∃ σ', sg_lp (fun x : sgS × Int32 × Int32 => f_X0_readItems_L34 10000 11 (nI (itF k)) (nI (itF k + itN k)) x.2.1 x.2.2 x.1) M ((σ, nI (b * 2 ^ itF k), nI (itF k + pcN b))) = some (.inl ((if (itW T k f a b v).1 = true ∧ (T.1 ≤ (itW T k f a b v).2.1 ∨ T.2 (itW T k f a b v).2.1 = 59) then 1 else 0), σ')) ∧ σ'.1 1 2 = nI (itW T k f a b v).2.1 ∧ tqC T σ' ∧ ((itW T k f a b v).1 = true → ∀ i, i < itN k → σ'.1 18 (itF k + i) = nI ((itW T k f a b v).2.2 i)) ∧ Fr pIc σ σ' := by
  have h240 := o.1
  have hN := itN_le ⟨k, hk⟩
  have hN1 : 2 ^ itN k ≤ 16 := hN.1
  have hN2 : itN k ≤ 4 := hN.2.1
  have hN3 : itF k ≤ 7 := hN.2.2
  intro f
  induction f with
  | zero =>
    intro a b v M σ h1 h2
    have := pc_le ⟨k, hk⟩ ⟨b, Nat.lt_of_lt_of_le h2 hN.1⟩ h2
    have : pcN b ≤ itN k := this
    omega
  | succ f ih =>
    intro a b v M σ h1 h2 hM ha hT e hv
    obtain ⟨M, rfl⟩ : ∃ m, M = m + 1 := ⟨M - 1, by omega⟩
    have hs := skp_le ha
    obtain ⟨σ1, s1, s2, s3, s4⟩ := sign_ok o (by omega) hT e
    have f1 : Fr pIc σ σ1 := s4.mono (fun j q h => Or.inl h)
    have hv1 : ∀ i, i < itN k → σ1.1 18 (itF k + i) = nI (v i) := fun i hi => by rw [s4 18 _ (by unfold pt; omega)]; exact hv i hi
    have tn : ¬ nI (itF k + itN k) < nI (itF k + pcN b) := by rw [nJ_lt (by omega) (by omega)]; omega
    unfold itW
    by_cases cE : skp T a < T.1
    · have hb := o.2 _ cE
      have hne : ¬ chr T (skp T a) = -1 := fun h => by have := (chr_end o).mp h; omega
      by_cases c : itT T k (skp T a) < 9 ∧ b.testBit (itT T k (skp T a)) = false
      · have hi := itT_bd o hk c.1
        have hp := pc_C ⟨k, hk⟩ ⟨itT T k (skp T a), hi.2.2.1⟩ ⟨b, Nat.lt_of_lt_of_le h2 hN.1⟩ hi.2.1 h2
        have hpb : pcN (b ||| 2 ^ itT T k (skp T a)) = pcN b + 1 := (hp.2.2.2.2 c.2).1
        have n59 : ¬ chr T (skp T a) = 59 := by
          intro h
          have h5 := ((chr_is (c := 59) o (by decide)).mp h).2
          have : itS k 59 < 9 := by rw [← h5, ← hi.2.2.2.2]; exact c.1
          have n : ∀ k : Fin 4, ¬ itS k.val 59 < 9 := by decide +kernel
          exact n ⟨k, hk⟩ this
        have T7 : tqC T (sg_up σ1 1 2 (nI (skp T a + 1))) := ⟨by rw [up_nk (by decide)]; exact s3.1, fun q hq => by rw [up_ne (by decide)]; exact s3.2 q hq⟩
        obtain ⟨σ2, q1, q2, q3, q4, q5⟩ := rdN_C (i := itT T k (skp T a)) o hk hi.2.1 (by omega) T7 up_at
        have f2 : Fr pIc σ1 σ2 := Fr.tr (Fr.up (Or.inl ⟨rfl, rfl⟩)) (q5.mono (fun j q h => h.elim Or.inl (fun h => Or.inr h.1)))
        have hn := numR_bd (T := T) (a := skp T a + 1) (lo := itA (itF k + itT T k (skp T a))) (hi := itZ (itF k + itT T k (skp T a))) (by omega)
        have top : f_X0_readItems_L34 10000 11 (nI (itF k)) (nI (itF k + itN k)) (nI (b * 2 ^ itF k)) (nI (itF k + pcN b)) σ = (if (if (numR T (skp T a + 1) (itA (itF k + itT T k (skp T a))) (itZ (itF k + itT T k (skp T a)))).1 = true then (1 : Int32) else 0) = 0 then some (.inl (vp_nar .boolean 0, σ2)) else some (.inr (.inl (σ2, nI ((b ||| 2 ^ itT T k (skp T a)) * 2 ^ itF k), nI (itF k + pcN b + 1))))) := by
          have hb1 : ((nI (b * 2 ^ itF k) >>> (nI (itF k + itT T k (skp T a)) &&& 31)) &&& 1) = (if b.testBit (itT T k (skp T a)) then 1 else 0) := hp.1
          have hb2 : (nI (b * 2 ^ itF k) ||| (1 <<< (nI (itF k + itT T k (skp T a)) &&& 31))) = nI ((b ||| 2 ^ itT T k (skp T a)) * 2 ^ itF k) := hp.2.1
          unfold f_X0_readItems_L34
          rw [if_neg tn, s1, cl_some, if_neg hne, if_neg n59, chr_y cE, itm_C o hk cE, cr_some, if_pos c.1, if_neg (by rw [nJ_ne_neg (by omega)]; exact id), hb1, hb2, c.2, if_pos (show (if false = true then (1 : Int32) else 0) = 0 from rfl), pf_eq, s2, nJ_addL, q1, cl_some, nJ_addL]
        rw [if_pos c]
        by_cases c2 : (numR T (skp T a + 1) (itA (itF k + itT T k (skp T a))) (itZ (itF k + itT T k (skp T a)))).1 = true
        · rw [if_pos c2, if_neg nn10] at top
          obtain ⟨σ3, w1, w2, w3, w4, w5⟩ := ih (numR T (skp T a + 1) (itA (itF k + itT T k (skp T a))) (itZ (itF k + itT T k (skp T a)))).2.1 (b ||| 2 ^ itT T k (skp T a)) (fun j => if j = itT T k (skp T a) then (numR T (skp T a + 1) (itA (itF k + itT T k (skp T a))) (itZ (itF k + itT T k (skp T a)))).2.2 else v j) M σ2 (by omega) hp.2.2.2.1 (by omega) hn.1 q3 q2 (fun i hi2 => by
            show _ = nI (if i = itT T k (skp T a) then _ else v i)
            by_cases ci : i = itT T k (skp T a)
            · rw [if_pos ci, ci]; exact q4 c2
            · rw [if_neg ci, q5 18 _ (by omega), up_ne (by decide)]; exact hv1 i hi2)
          rw [if_pos c2]
          refine ⟨σ3, ?_, w2, w3, w4, (f1.tr f2).tr w5⟩
          rw [hpb, ← Nat.add_assoc] at w1
          rw [lp_step top]
          exact w1
        · rw [if_neg c2, if_pos rfl] at top
          rw [if_neg c2]
          refine ⟨σ2, ?_, q2, q3, (fun h => by cases h), f1.tr f2⟩
          rw [lp_ret top, if_neg (fun h => by cases h.1)]
          rfl
      · rw [if_neg c]
        refine ⟨σ1, ?_, s2, s3, fun _ => hv1, f1⟩
        by_cases c5 : T.2 (skp T a) = 59
        · rw [if_pos ⟨rfl, Or.inr c5⟩]
          apply lp_ret
          show f_X0_readItems_L34 10000 11 (nI (itF k)) (nI (itF k + itN k)) (nI (b * 2 ^ itF k)) (nI (itF k + pcN b)) σ = _
          unfold f_X0_readItems_L34
          rw [if_neg tn, s1, cl_some, if_neg hne, if_pos (show chr T (skp T a) = 59 from (chr_is (c := 59) o (by decide)).mpr ⟨cE, c5⟩)]
          rfl
        · rw [if_neg (show ¬ (true = true ∧ (T.1 ≤ skp T a ∨ T.2 (skp T a) = 59)) by omega)]
          apply lp_ret
          show f_X0_readItems_L34 10000 11 (nI (itF k)) (nI (itF k + itN k)) (nI (b * 2 ^ itF k)) (nI (itF k + pcN b)) σ = _
          unfold f_X0_readItems_L34
          rw [if_neg tn, s1, cl_some, if_neg hne, if_neg (show ¬ chr T (skp T a) = 59 from fun h => c5 ((chr_is (c := 59) o (by decide)).mp h).2), chr_y cE, itm_C o hk cE, cr_some]
          by_cases c9 : itT T k (skp T a) < 9
          · have hi := itT_bd o hk c9
            have hp := pc_C ⟨k, hk⟩ ⟨itT T k (skp T a), hi.2.2.1⟩ ⟨b, Nat.lt_of_lt_of_le h2 hN.1⟩ hi.2.1 h2
            have hb1 : ((nI (b * 2 ^ itF k) >>> (nI (itF k + itT T k (skp T a)) &&& 31)) &&& 1) = (if b.testBit (itT T k (skp T a)) then 1 else 0) := hp.1
            have ht : b.testBit (itT T k (skp T a)) = true := by
              cases h : b.testBit (itT T k (skp T a)) with
              | true => rfl
              | false => exact absurd ⟨c9, h⟩ c
            rw [if_pos c9, if_neg (by rw [nJ_ne_neg (by omega)]; exact id), hb1, ht, if_neg (show ¬ (if true = true then (1 : Int32) else 0) = 0 from nn10)]
            rfl
          · rw [if_neg c9, if_pos rfl]
            rfl
    · have n9 : ¬ itT T k (skp T a) < 9 := by unfold itT; rw [if_neg cE]; decide
      rw [if_neg (show ¬ (itT T k (skp T a) < 9 ∧ b.testBit (itT T k (skp T a)) = false) from fun h => n9 h.1), if_pos (show true = true ∧ (T.1 ≤ skp T a ∨ T.2 (skp T a) = 59) from ⟨rfl, Or.inl (by omega)⟩)]
      refine ⟨σ1, ?_, s2, s3, fun _ => hv1, f1⟩
      apply lp_ret
      show f_X0_readItems_L34 10000 11 (nI (itF k)) (nI (itF k + itN k)) (nI (b * 2 ^ itF k)) (nI (itF k + pcN b)) σ = _
      unfold f_X0_readItems_L34
      rw [if_neg tn, s1, cl_some, if_pos ((chr_end o).mpr (by omega))]
      rfl
/-- from where the letter ends -/
def itR (T : Nat × (Nat → Nat)) (k a : Nat) : Bool × Nat × (Nat → Nat) := itW T k (itN k + 1) a 0 (fun i => itU (itF k + i))
theorem itC_ok {T : Nat × (Nat → Nat)} {k a : Nat} {σ : sgS} (o : okT T) (hk : k < 4) (ha : a ≤ T.1) (hT : tqC T σ) (e : σ.1 1 2 = nI a) : ∃ σ', f_X0_readItems 10000 11 (nI (itF k)) (nI (itF k + itN k)) σ = some ((if (itR T k a).1 = true ∧ (T.1 ≤ (itR T k a).2.1 ∨ T.2 (itR T k a).2.1 = 59) then 1 else 0), σ') ∧ σ'.1 1 2 = nI (itR T k a).2.1 ∧ tqC T σ' ∧ ((itR T k a).1 = true → ∀ i, i < itN k → σ'.1 18 (itF k + i) = nI ((itR T k a).2.2 i)) ∧ Fr pIc σ σ' := by
  have h240 := o.1
  have hN := itN_le ⟨k, hk⟩
  have hN2 : itN k ≤ 4 := hN.2.1
  have hN3 : itF k ≤ 7 := hN.2.2
  -- the usual ones are laid
  obtain ⟨σ1, p1, p2⟩ : ∃ σ1, sg_lp (fun x : sgS × Int32 => f_X0_readItems_L3 10000 11 (nI (itF k)) (nI (itF k + itN k)) x.2 x.1) 10000 ((σ, nI (itF k + 0))) = some (.inr σ1) ∧ ((∀ i, i < itN k → σ1.1 18 (itF k + i) = nI (itU (itF k + i))) ∧ Fr (fun j q => j = 18) σ σ1) := by
    have := lp_cnt (b := fun x : sgS × Int32 => f_X0_readItems_L3 10000 11 (nI (itF k)) (nI (itF k + itN k)) x.2 x.1) (n := itN k) (fun n x => x.2 = nI (itF k + n) ∧ (∀ i, i < n → x.1.1 18 (itF k + i) = nI (itU (itF k + i))) ∧ Fr (fun j q => j = 18) σ x.1) (fun y => (∀ i, i < itN k → y.1 18 (itF k + i) = nI (itU (itF k + i))) ∧ Fr (fun j q => j = 18) σ y) (by
      rintro n ⟨s, x⟩ hn ⟨e1, e2, e3⟩
      have e1 : x = nI (itF k + n) := e1
      have tb := tb_C ⟨k, hk⟩ ⟨n, Nat.lt_of_lt_of_le hn hN2⟩ hn
      have t2 : (sg_sv 2).getD (itF k + n) 0 = nI (itU (itF k + n)) := tb.1
      have t8 : itF k + n < 8 := tb.2.2.2.2.2.2.1
      refine ⟨(sg_up s 18 (itF k + n) (nI (itU (itF k + n))), nI (itF k + n + 1)), ?_, by rw [Nat.add_assoc], ?_, e3.tr (Fr.up rfl)⟩
      · show f_X0_readItems_L3 10000 11 (nI (itF k)) (nI (itF k + itN k)) x s = _
        unfold f_X0_readItems_L3
        rw [e1, if_neg (by rw [nJ_le (by omega) (by omega)]; omega), tb_ok (by exact t8) (by decide), t2, st_ok t8 (by decide), nJ_addL]
      · intro i hi
        show (sg_up s 18 (itF k + n) (nI (itU (itF k + n)))).1 18 (itF k + i) = _
        by_cases ci : i = n
        · rw [ci, up_at]
        · rw [up_nk (by omega)]; exact e2 i (by omega)) (by
      rintro ⟨s, x⟩ ⟨e1, e2, e3⟩
      have e1 : x = nI (itF k + itN k) := e1
      refine ⟨s, ?_, e2, e3⟩
      show f_X0_readItems_L3 10000 11 (nI (itF k)) (nI (itF k + itN k)) x s = _
      unfold f_X0_readItems_L3
      rw [e1, if_pos (by rw [nJ_le (by omega) (by omega)]; omega)])
    exact this 10000 0 ((σ, nI (itF k + 0))) (Nat.zero_le _) (by omega) ⟨rfl, fun i h => absurd h (Nat.not_lt_zero _), Fr.rf⟩
  have f1 : Fr pIc σ σ1 := p2.2.mono (fun j q h => Or.inr h)
  obtain ⟨σ2, q1, q2, q3, q4, q5⟩ := itC_lp o hk (itN k + 1) a 0 (fun i => itU (itF k + i)) 10000 σ1 (by show 0 + _ = _; omega) (Nat.two_pow_pos _) (by omega) ha (tqC_fr hT p2.2 (by decide) (fun q => by decide)) (by rw [p2.2 1 2 (by decide)]; exact e) p2.1
  refine ⟨σ2, ?_, q2, q3, q4, f1.tr q5⟩
  unfold f_X0_readItems
  rw [show nI (0 * 2 ^ itF k) = 0 by rw [Nat.zero_mul]; rfl, show itF k + pcN 0 = itF k from rfl] at q1
  rw [Nat.add_zero] at p1
  rw [p1, lb_inr, q1, lb_inl]
  rfl
