/-! ITEMS, the reference -/
def pIm (k A q0 j q : Nat) : Prop := (j = 0 ∧ (q = 3 ∨ q = 4)) ∨ (j = A ∧ q0 ≤ q ∧ q < q0 + itN k)
theorem itm_M {T : Nat × (Nat → Nat)} {k s : Nat} {τ : sgS} (o : okT T) (hk : k < 4) : f_X12_itemOf 10000 (nI (itK k)) (chr T s) τ = some (if itT T k s < 9 then nI (itT T k s) else -1) := by
  unfold itT
  rw [itS_M0]
  by_cases h : s < T.1
  · have hb := o.2 s h
    rw [if_pos h, chr_y h]
    exact itS_M ⟨T.2 s, by omega⟩ ⟨k, hk⟩
  · rw [if_neg h, chr_n (by omega), if_neg (by decide)]
    exact itS_Me ⟨k, hk⟩
theorem itM_lp {T : Nat × (Nat → Nat)} {k A n q0 : Nat} (o : okT T) (hk : k < 4) (hA : 11 ≤ A) (hq : q0 + itN k ≤ n) (hn : n < 100) : ∀ f a b v M τ, pcN b + f = itN k + 1 → b < 2 ^ itN k → f < M → a ≤ T.1 → tqM T τ → τ.1 0 3 = nI (skp T a) → τ.1 0 4 = -1 → (∀ i, i < itN k → τ.1 A (q0 + i) = nI (v i)) → ∃ τ', sg_lp (fun x : sgS × Int32 × Int32 => f_X12_items_L41 10000 (nI (itK k)) A n (nI q0) (nI (itN k)) x.2.1 x.2.2 x.1) M ((τ, nI b, (if itT T k (skp T a) < 9 then nI (itT T k (skp T a)) else -1))) = some (.inr τ') ∧ tqM T τ' ∧ ((itW T k f a b v).1 = true → τ'.1 0 3 = nI (itW T k f a b v).2.1 ∧ τ'.1 0 4 = -1 ∧ ∀ i, i < itN k → τ'.1 A (q0 + i) = nI ((itW T k f a b v).2.2 i)) ∧ ((itW T k f a b v).1 = false → τ'.1 0 4 = nI (itW T k f a b v).2.1) ∧ Fr (pIm k A q0) τ τ' := by
  have h240 := o.1
  have hN := itN_le ⟨k, hk⟩
  have hN1 : 2 ^ itN k ≤ 16 := hN.1
  have hN2 : itN k ≤ 4 := hN.2.1
  intro f
  induction f with
  | zero =>
    intro a b v M τ h1 h2
    have := pc_le ⟨k, hk⟩ ⟨b, Nat.lt_of_lt_of_le h2 hN.1⟩ h2
    have : pcN b ≤ itN k := this
    omega
  | succ f ih =>
    intro a b v M τ h1 h2 hM ha hT e e4 hv
    obtain ⟨M, rfl⟩ : ∃ m, M = m + 1 := ⟨M - 1, by omega⟩
    have hs := skp_le ha
    unfold itW
    by_cases c9 : itT T k (skp T a) < 9
    · have hi := itT_bd o hk c9
      rw [if_pos c9]
      have nm : ¬ nI (itT T k (skp T a)) = -1 := by rw [nJ_ne_neg (by omega)]; exact id
      cases hbt : b.testBit (itT T k (skp T a)) with
      | true =>
        rw [if_neg (show ¬ (itT T k (skp T a) < 9 ∧ true = false) from fun h => by cases h.2)]
        refine ⟨τ, ?_, hT, fun _ => ⟨e, e4, hv⟩, (fun h => by cases h), Fr.rf⟩
        apply lp_out
        show f_X12_items_L41 10000 (nI (itK k)) A n (nI q0) (nI (itN k)) (nI b) (nI (itT T k (skp T a))) τ = _
        unfold f_X12_items_L41
        rw [e4, if_pos rfl, if_neg nm, has_nI (by omega), hbt, cr_some, if_neg (show ¬ (if true = true then (1 : Int32) else 0) = 0 from nn10)]
      | false =>
        rw [if_pos (show itT T k (skp T a) < 9 ∧ false = false from ⟨c9, rfl⟩)]
        have hp := pc_C ⟨k, hk⟩ ⟨itT T k (skp T a), hi.2.2.1⟩ ⟨b, Nat.lt_of_lt_of_le h2 hN.1⟩ hi.2.1 h2
        have hpb : pcN (b ||| 2 ^ itT T k (skp T a)) = pcN b + 1 := (hp.2.2.2.2 hbt).1
        have hb3 : (nI b ||| (1 <<< (nI (itT T k (skp T a)) &&& 31))) = nI (b ||| 2 ^ itT T k (skp T a)) := hp.2.2.1
        obtain ⟨_, _, _, _, t5, t6, _, t9, _, _, t10⟩ := tb_C ⟨k, hk⟩ ⟨itT T k (skp T a), hi.2.2.1⟩ hi.2.1
        have t5 : f_X12_lowest 10000 (nI (itK k)) (nI (itT T k (skp T a))) zS = some (nI (itA (itF k + itT T k (skp T a)))) := t5
        have t6 : f_X12_highest 10000 (nI (itK k)) (nI (itT T k (skp T a))) zS = some (nI (itZ (itF k + itT T k (skp T a)))) := t6
        have t9 : itZ (itF k + itT T k (skp T a)) < 100 := t9
        have t10 : itA (itF k + itT T k (skp T a)) < 100 := t10
        have hn2 := numR_bd (T := T) (a := skp T a + 1) (lo := itA (itF k + itT T k (skp T a))) (hi := itZ (itF k + itT T k (skp T a))) (by omega)
        have T8 : tqM T (sg_up τ 0 3 (nI (skp T a + 1))) := ⟨by rw [up_nk (by decide)]; exact hT.1, fun q hq => by rw [up_ne (by decide)]; exact hT.2 q hq⟩
        obtain ⟨τ1, u, n1, n2, n3, n4, n5⟩ := num2_M (lo := itA (itF k + itT T k (skp T a))) (hi := itZ (itF k + itT T k (skp T a))) o (by omega) (by omega) (by omega) T8 up_at (by rw [up_nk (by decide)]; exact e4)
        have F1 : Fr (pIm k A q0) τ (sg_up τ1 A (q0 + itT T k (skp T a)) u) := Fr.tr (Fr.tr (Fr.up (Or.inl ⟨rfl, Or.inl rfl⟩)) (n5.mono (fun j q h => Or.inl h))) (Fr.up (Or.inr ⟨rfl, by omega, by omega⟩))
        have T13 : tqM T (sg_up τ1 A (q0 + itT T k (skp T a)) u) := ⟨by rw [up_ne (by omega)]; exact n4.1, fun q hq => by rw [up_ne (by omega)]; exact n4.2 q hq⟩
        have e13 : (sg_up τ1 A (q0 + itT T k (skp T a)) u).1 0 4 = τ1.1 0 4 := by rw [up_ne (by omega)]
        have top : f_X12_items_L41 10000 (nI (itK k)) A n (nI q0) (nI (itN k)) (nI b) (nI (itT T k (skp T a))) τ = (if τ1.1 0 4 = -1 then (sg_cl (f_X12_look 10000 (sg_up τ1 A (q0 + itT T k (skp T a)) u)) fun v14 s15 => sg_cr (f_X12_itemOf 10000 (nI (itK k)) v14 s15) fun v16 => some (.inr (.inl (s15, nI (b ||| 2 ^ itT T k (skp T a)), v16)))) else some (.inr (.inl (sg_up τ1 A (q0 + itT T k (skp T a)) u, nI (b ||| 2 ^ itT T k (skp T a)), -1)))) := by
          unfold f_X12_items_L41
          rw [e4, if_pos rfl, if_neg nm, has_nI (by omega), hbt, cr_some, if_pos (show (if false = true then (1 : Int32) else 0) = 0 from rfl), pf_eq, e, nJ_addL, lo_0, t5, cr_some, hi_0, t6, cr_some, n1, cl_some, nJ_add, st_ok (by omega) (by omega), e13, hb3]
        by_cases c2 : (numR T (skp T a + 1) (itA (itF k + itT T k (skp T a))) (itZ (itF k + itT T k (skp T a)))).1 = true
        · have n2 := n2 c2
          obtain ⟨τ2, s1, s2, s3, s4⟩ := look_ok o (by omega) T13 (show (sg_up τ1 A (q0 + itT T k (skp T a)) u).1 0 3 = nI (numR T (skp T a + 1) (itA (itF k + itT T k (skp T a))) (itZ (itF k + itT T k (skp T a)))).2.1 by rw [up_ne (by omega)]; exact n2.2.1)
          rw [n2.2.2, if_pos rfl, s1, cl_some, itm_M o hk, cr_some] at top
          have w4 : τ2.1 0 4 = -1 := by rw [s4 0 4 (by unfold pt; omega), e13]; exact n2.2.2
          obtain ⟨τ', q1, q2, q3, q4, q5⟩ := ih (numR T (skp T a + 1) (itA (itF k + itT T k (skp T a))) (itZ (itF k + itT T k (skp T a)))).2.1 (b ||| 2 ^ itT T k (skp T a)) (fun j => if j = itT T k (skp T a) then (numR T (skp T a + 1) (itA (itF k + itT T k (skp T a))) (itZ (itF k + itT T k (skp T a)))).2.2 else v j) M τ2 (by omega) hp.2.2.2.1 (by omega) hn2.1 s3 s2 w4 (fun i hi2 => by
            show _ = nI (if i = itT T k (skp T a) then _ else v i)
            rw [s4 A _ (by unfold pt; omega)]
            by_cases ci : i = itT T k (skp T a)
            · rw [if_pos ci, ci, up_at]; exact n2.1
            · rw [if_neg ci, up_nk (by omega), n5 A _ (by omega), up_ne (by omega)]; exact hv i hi2)
          rw [if_pos c2]
          refine ⟨τ', ?_, q2, q3, q4, (F1.tr (s4.mono (fun j q h => Or.inl ⟨h.1, Or.inl h.2⟩))).tr q5⟩
          rw [lp_step top]
          exact q1
        · have n3 := n3 (by rw [Bool.not_eq_true] at c2; exact c2)
          have nn : ¬ τ1.1 0 4 = -1 := by rw [n3, nJ_ne_neg (by omega)]; exact id
          rw [if_neg nn] at top
          rw [if_neg c2]
          refine ⟨sg_up τ1 A (q0 + itT T k (skp T a)) u, ?_, T13, (fun h => by cases h), fun _ => by rw [e13]; exact n3, F1⟩
          obtain ⟨M, rfl⟩ : ∃ m, M = m + 1 := ⟨M - 1, by omega⟩
          rw [lp_step top]
          apply lp_out
          show f_X12_items_L41 10000 (nI (itK k)) A n (nI q0) (nI (itN k)) (nI (b ||| 2 ^ itT T k (skp T a))) (-1) (sg_up τ1 A (q0 + itT T k (skp T a)) u) = _
          unfold f_X12_items_L41
          rw [e13, if_neg nn]
    · rw [if_neg c9, if_neg (show ¬ (itT T k (skp T a) < 9 ∧ b.testBit (itT T k (skp T a)) = false) from fun h => c9 h.1)]
      refine ⟨τ, ?_, hT, fun _ => ⟨e, e4, hv⟩, (fun h => by cases h), Fr.rf⟩
      apply lp_out
      show f_X12_items_L41 10000 (nI (itK k)) A n (nI q0) (nI (itN k)) (nI b) (-1) τ = _
      unfold f_X12_items_L41
      rw [e4, if_pos rfl, if_pos rfl]
theorem itM_ok {T : Nat × (Nat → Nat)} {k A n q0 a : Nat} {τ : sgS} (o : okT T) (hk : k < 4) (hA : 11 ≤ A) (hq : q0 + itN k ≤ n) (hn : n < 100) (ha : a ≤ T.1) (hT : tqM T τ) (e : τ.1 0 3 = nI a) (e4 : τ.1 0 4 = -1) : ∃ τ', f_X12_items 10000 (nI (itK k)) A n (nI q0) (nI (itN k)) τ = some (0, τ') ∧ tqM T τ' ∧ ((itR T k a).1 = true → τ'.1 0 3 = nI (itR T k a).2.1 ∧ τ'.1 0 4 = -1 ∧ ∀ i, i < itN k → τ'.1 A (q0 + i) = nI ((itR T k a).2.2 i)) ∧ ((itR T k a).1 = false → τ'.1 0 4 = nI (itR T k a).2.1) ∧ Fr (pIm k A q0) τ τ' := by
  have h240 := o.1
  have hN := itN_le ⟨k, hk⟩
  have hN2 : itN k ≤ 4 := hN.2.1
  obtain ⟨τ1, p1, p2⟩ : ∃ τ1, sg_lp (fun x : sgS × Int32 => f_X12_items_L3 10000 (nI (itK k)) A n (nI q0) (nI (itN k)) x.2 x.1) 10000 ((τ, nI 0)) = some (.inr τ1) ∧ ((∀ i, i < itN k → τ1.1 A (q0 + i) = nI (itU (itF k + i))) ∧ Fr (fun j q => j = A ∧ q0 ≤ q ∧ q < q0 + itN k) τ τ1) := by
    have := lp_cnt (b := fun x : sgS × Int32 => f_X12_items_L3 10000 (nI (itK k)) A n (nI q0) (nI (itN k)) x.2 x.1) (n := itN k) (fun m x => x.2 = nI m ∧ (∀ i, i < m → x.1.1 A (q0 + i) = nI (itU (itF k + i))) ∧ Fr (fun j q => j = A ∧ q0 ≤ q ∧ q < q0 + itN k) τ x.1) (fun y => (∀ i, i < itN k → y.1 A (q0 + i) = nI (itU (itF k + i))) ∧ Fr (fun j q => j = A ∧ q0 ≤ q ∧ q < q0 + itN k) τ y) (by
      rintro m ⟨s, x⟩ hm ⟨e1, e2, e3⟩
      have e1 : x = nI m := e1
      have tb := tb_C ⟨k, hk⟩ ⟨m, Nat.lt_of_lt_of_le hm hN2⟩ hm
      have t2 : f_X12_usual 10000 (nI (itK k)) (nI m) zS = some (nI (itU (itF k + m))) := tb.2.2.2.1
      refine ⟨(sg_up s A (q0 + m) (nI (itU (itF k + m))), nI (m + 1)), ?_, rfl, ?_, e3.tr (Fr.up ⟨rfl, by omega, by omega⟩)⟩
      · show f_X12_items_L3 10000 (nI (itK k)) A n (nI q0) (nI (itN k)) x s = _
        unfold f_X12_items_L3
        rw [e1, if_neg (by rw [nJ_le (by omega) (by omega)]; omega), us_0, t2, cr_some, nJ_add, st_ok (by omega) (by omega), nJ_addL]
      · intro i hi
        show (sg_up s A (q0 + m) (nI (itU (itF k + m)))).1 A (q0 + i) = _
        by_cases ci : i = m
        · rw [ci, up_at]
        · rw [up_nk (by omega)]; exact e2 i (by omega)) (by
      rintro ⟨s, x⟩ ⟨e1, e2, e3⟩
      have e1 : x = nI (itN k) := e1
      refine ⟨s, ?_, e2, e3⟩
      show f_X12_items_L3 10000 (nI (itK k)) A n (nI q0) (nI (itN k)) x s = _
      unfold f_X12_items_L3
      rw [e1, if_pos (by rw [nJ_le (by omega) (by omega)]; omega)])
    exact this 10000 0 ((τ, nI 0)) (Nat.zero_le _) (by omega) ⟨rfl, fun i h => absurd h (Nat.not_lt_zero _), Fr.rf⟩
  have T1 : tqM T τ1 := tqM_fr hT p2.2 (by omega) (fun q => by omega)
  obtain ⟨τ2, s1, s2, s3, s4⟩ := look_ok (a := a) o (by omega) T1 (by rw [p2.2 0 3 (by omega)]; exact e)
  obtain ⟨τ3, q1, q2, q3, q4, q5⟩ := itM_lp o hk hA hq hn (itN k + 1) a 0 (fun i => itU (itF k + i)) 10000 τ2 (by show 0 + _ = _; omega) (Nat.two_pow_pos _) (by omega) ha s3 s2 (by rw [s4 0 4 (by unfold pt; omega), p2.2 0 4 (by omega)]; exact e4) (fun i hi => by rw [s4 A _ (by unfold pt; omega)]; exact p2.1 i hi)
  refine ⟨τ3, ?_, q2, q3, q4, ((p2.2.mono (fun j q h => Or.inr h)).tr (s4.mono (fun j q h => Or.inl ⟨h.1, Or.inl h.2⟩))).tr q5⟩
  unfold f_X12_items
  have p1 : sg_lp (fun x : sgS × Int32 => f_X12_items_L3 10000 (nI (itK k)) A n (nI q0) (nI (itN k)) x.2 x.1) 10000 ((τ, 0)) = _ := p1
  have q1 : sg_lp (fun x : sgS × Int32 × Int32 => f_X12_items_L41 10000 (nI (itK k)) A n (nI q0) (nI (itN k)) x.2.1 x.2.2 x.1) 10000 ((τ2, 0, (if itT T k (skp T a) < 9 then nI (itT T k (skp T a)) else -1))) = _ := q1
  rw [p1, lb_inr, s1, cl_some, itm_M o hk, cr_some, q1, lb_inr]
