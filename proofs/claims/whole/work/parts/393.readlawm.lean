/-! A CLAUSE, the reference -/
theorem puC_skp {T : Nat × (Nat → Nat)} {w a : Nat} {q : Nat → PR} : puB (puC T w) q (skp T a) = puB (puC T w) q a := by
  have ep : puC T w (skp T a) = puC T w a := by unfold puC; rw [skp_id]
  unfold puB
  rw [ep]
theorem b128M {T : Nat × (Nat → Nat)} {n c b : Nat} {L : List (Int32 × Int32)} {τ : sgS} (o : okT T) (hn : n < 5) (hc : c < 140) (hb : b ≤ T.1) (hT : tqM T τ) (e : τ.1 0 3 = nI b) (w4 : τ.1 0 4 = -1) (w5 : τ.1 0 5 = nI 0) (hL : mqM n L τ) (h5 : τ.1 5 n = nI c) (h6 : τ.1 6 (140 * n + c) = nI L.length) (hl : L.length ≤ b) : ∃ τ', f_X12_clause_B128 10000 (nI (140 * n + c)) 0 τ = some (0, τ') ∧ tqM T τ' ∧ Fr (pLk n c) τ τ' ∧ (((puS T 40 0 b).1 = true ∧ opT opC T (skp T (puS T 40 0 b).2.1) = 0 ∧ τ'.1 0 3 = nI (skp T (puS T 40 0 b).2.1) ∧ τ'.1 0 4 = -1 ∧ τ'.1 0 5 = nI 0 ∧ cuM n c L ([], (puS T 40 0 b).2.2) τ') ∨ (¬ ((puS T 40 0 b).1 = true ∧ opT opC T (skp T (puS T 40 0 b).2.1) = 0) ∧ (((puZ T (puT2 T) b).1 = true ∧ τ'.1 0 3 = nI (puZ T (puT2 T) b).2.1 ∧ τ'.1 0 4 = -1 ∧ τ'.1 0 5 = nI 0 ∧ cuM n c L (puZ T (puT2 T) b).2.2 τ') ∨ ((puZ T (puT2 T) b).1 = false ∧ τ'.1 0 4 = nI (puZ T (puT2 T) b).2.1)))) := by
  have h240 := o.1
  have gU := pgl_U (T := T) 40 0 (by decide)
  have uM : ImM T n 0 (fun τ => f_X12_unit 40 10000 τ) (puU T 40 0) := unM o hn 40 0 (by decide) (by decide)
  obtain ⟨τ1, q1, q2, q3, q4⟩ := smM o hn 40 0 (by decide) (by decide) b τ L hb hT e w4 w5 hL hl
  have q1 : f_X12_sum 40 10000 τ = some (0, τ1) := q1
  have g := pgl_S (T := T) 40 0 (by decide) b hb
  have g1 := g.1
  have h51 : τ1.1 5 n = nI c := by rw [q3 5 n (by unfold pLm; omega)]; exact h5
  have h61 : τ1.1 6 (140 * n + c) = nI L.length := by rw [q3 6 _ (by unfold pLm; omega)]; exact h6
  unfold f_X12_clause_B128 f_X12_clause_B167
  rw [if_pos rfl, q1, cl_some]
  rcases q4 with ⟨cc, d3, d4, d5, d6⟩ | ⟨cc, d4⟩
  · have g2 := g.2 cc
    have hlen : (L ++ (puS T 40 0 b).2.2).length = L.length + (puS T 40 0 b).2.2.length := List.length_append
    have hs0 := skp_le g1
    have hg0 := skp_ge (T := T) (a := (puS T 40 0 b).2.1)
    obtain ⟨τ2, s1, s2, s3, s4⟩ := look_ok o (by omega) q2 d3
    have z4 := pLz_p s4
    have hm2 := mqM_fr d6 z4
    have w42 : τ2.1 0 4 = -1 := by rw [s4 0 4 (by unfold pt; omega)]; exact d4
    have w52 : τ2.1 0 5 = nI 0 := by rw [s4 0 5 (by unfold pt; omega)]; exact d5
    have h52 : τ2.1 5 n = nI c := by rw [s4 5 n (by unfold pt; omega)]; exact h51
    have h62 : τ2.1 6 (140 * n + c) = nI L.length := by rw [s4 6 _ (by unfold pt; omega)]; exact h61
    have F2 : Fr (pLk n c) τ τ2 := (pLk_m q3).tr (pLk_z z4)
    rw [d4, if_pos rfl, s1, cl_some, isC_M o, cr_some]
    by_cases co : opT opC T (skp T (puS T 40 0 b).2.1) = 0
    · rw [if_pos co, if_pos rfl, if_pos rfl]
      obtain ⟨τ', r1, r2, r3, r4, r5, r6, r7, r8, r9⟩ := w0M hn hc s3 hm2 h52 h62
      refine ⟨τ', r1, r2, F2.tr r3, Or.inl ⟨cc, co, by rw [r7]; exact s2, by rw [r7]; exact w42, by rw [r7]; exact w52, r5, r8, r9, ?_, r4⟩⟩
      rw [r6, hlen]; rfl
    · rw [if_neg co, if_neg nn10, if_neg nn10]
      have hch := ImM_B o (cmM (w := 0) o hn (by decide)) (ImM_B o (agM o hn uM gU) (ogM o hn uM gU) (pgl_R opA_ok gU) sk_O) pgl_C sk_AO
      obtain ⟨τ3, p1, p2, p3, p4⟩ := hch (skp T (puS T 40 0 b).2.1) τ2 _ hs0 s3 s2 w42 w52 hm2 (by omega)
      have p1 : (sg_cl (f_X12_compare 10000 τ2) fun _ s => sg_cl (f_X12_goOnAnd 10000 (f_X12_unit 40 10000) s) fun _ s => f_X12_goOnOr 10000 (f_X12_unit 40 10000) s) = some (0, τ3) := p1
      have p4 : ((puB (puC T 0) (puG T (puU T 40 0)) (skp T (puS T 40 0 b).2.1)).1 = true ∧ τ3.1 0 3 = nI (puB (puC T 0) (puG T (puU T 40 0)) (skp T (puS T 40 0 b).2.1)).2.1 ∧ τ3.1 0 4 = -1 ∧ τ3.1 0 5 = nI 0 ∧ mqM n (L ++ (puS T 40 0 b).2.2 ++ (puB (puC T 0) (puG T (puU T 40 0)) (skp T (puS T 40 0 b).2.1)).2.2) τ3) ∨ ((puB (puC T 0) (puG T (puU T 40 0)) (skp T (puS T 40 0 b).2.1)).1 = false ∧ bdM n ((L ++ (puS T 40 0 b).2.2).length + (T.1 - skp T (puS T 40 0 b).2.1)) (puB (puC T 0) (puG T (puU T 40 0)) (skp T (puS T 40 0 b).2.1)).2.1 τ3) := p4
      rw [puC_skp] at p4
      have e2 : puT2 T b = ((puB (puC T 0) (puG T (puU T 40 0)) (puS T 40 0 b).2.1).1, (puB (puC T 0) (puG T (puU T 40 0)) (puS T 40 0 b).2.1).2.1, (puS T 40 0 b).2.2 ++ (puB (puC T 0) (puG T (puU T 40 0)) (puS T 40 0 b).2.1).2.2) := if_pos cc
      have h53 : τ3.1 5 n = nI c := by rw [p3 5 n (by unfold pLm; omega)]; exact h52
      have h63 : τ3.1 6 (140 * n + c) = nI L.length := by rw [p3 6 _ (by unfold pLm; omega)]; exact h62
      obtain ⟨τ', r1, r2, r3, r4⟩ := zM (t := puT2 T) (b := b) (L := L) o hn hc hb pgl_T2 p2 h53 h63 hl (by
        rw [e2]
        rcases p4 with ⟨x1, x3, x4, x5, x6⟩ | ⟨x1, x2⟩
        · rw [List.append_assoc] at x6
          exact Or.inl ⟨x1, x3, x4, x5, x6⟩
        · exact Or.inr ⟨x1, bdM_le x2 (by omega)⟩)
      refine ⟨τ', ?_, r2, (F2.tr (pLk_m p3)).tr r3, Or.inr ⟨fun h => co h.2, r4⟩⟩
      have := cl_assoc (x := f_X12_compare 10000 τ2) (f := fun _ s => sg_cl (f_X12_goOnAnd 10000 (f_X12_unit 40 10000) s) fun _ s => f_X12_goOnOr 10000 (f_X12_unit 40 10000) s) (g := fun _ s => f_X12_clause_B184 10000 (nI (140 * n + c)) 1 s)
      rw [p1, cl_some, r1] at this
      rw [this]
      congr 1
      funext v s
      rw [cl_assoc]
  · obtain ⟨L2, m1, m2⟩ := d4.2
    rw [d4.1, if_neg (by rw [nJ_ne_neg (by omega)]; exact id), if_pos rfl]
    obtain ⟨τ', r1, r2, r3, r4, r5, r6, r7, r8, r9⟩ := w0M hn hc q2 m1 h51 h61
    have e2 : puT2 T b = (false, (puS T 40 0 b).2.1, []) := if_neg (by rw [cc]; decide)
    refine ⟨τ', r1, r2, (pLk_m q3).tr r3, Or.inr ⟨(fun h => by rw [cc] at h; cases h.1), Or.inr ?_⟩⟩
    unfold puZ
    rw [e2, if_neg (fun h => by cases h)]
    exact ⟨rfl, by rw [r7]; exact d4.1⟩
theorem puE_y {T : Nat × (Nat → Nat)} {c a : Nat} (h : isT c T (skp T a) = true) : puE T c a = (true, skp T a + 1, []) := if_pos h
theorem puE_n {T : Nat × (Nat → Nat)} {c a : Nat} (h : ¬ isT c T (skp T a) = true) : puE T c a = (false, skp T a, []) := if_neg h
def puQi (T : Nat × (Nat → Nat)) (p : Nat) : PQ := if isT 33 T (skp T p) = true ∨ isT 40 T (skp T p) = true then puZ T (puT1 T) (skp T p) else if (puS T 40 0 (skp T p)).1 = true ∧ opT opC T (skp T (puS T 40 0 (skp T p)).2.1) = 0 then (true, skp T (puS T 40 0 (skp T p)).2.1, ([], (puS T 40 0 (skp T p)).2.2)) else puZ T (puT2 T) (skp T p)
theorem puQ_y {T : Nat × (Nat → Nat)} {a p : Nat} (h : puY T a = (true, p, [])) : puQ T a = puQi T p := by
  unfold puQ
  rw [h]
  rfl
theorem puQ_n {T : Nat × (Nat → Nat)} {a p : Nat} (h : puY T a = (false, p, [])) : puQ T a = (false, p, ([], [])) := by
  unfold puQ
  rw [h]
  rfl
theorem clauM {T : Nat × (Nat → Nat)} {n c a : Nat} {L : List (Int32 × Int32)} {τ : sgS} (o : okT T) (hn : n < 5) (hc : c < 140) (ha : a ≤ T.1) (hT : tqM T τ) (e : τ.1 0 3 = nI a) (w4 : τ.1 0 4 = -1) (w5 : τ.1 0 5 = nI 0) (hL : mqM n L τ) (h5 : τ.1 5 n = nI c) (hl : L.length ≤ a) : ∃ τ', f_X12_clause 10000 τ = some (0, τ') ∧ tqM T τ' ∧ Fr (pLk n c) τ τ' ∧ (((puQ T a).1 = true ∧ τ'.1 0 3 = nI (puQ T a).2.1 ∧ τ'.1 0 4 = -1 ∧ τ'.1 0 5 = nI 0 ∧ cuM n c L (puQ T a).2.2 τ') ∨ ((puQ T a).1 = false ∧ τ'.1 0 4 = nI (puQ T a).2.1)) := by
  have h240 := o.1
  have hY := puY_ok ha
  have gU := pgl_U (T := T) 40 0 (by decide)
  have uM : ImM T n 0 (fun τ => f_X12_unit 40 10000 τ) (puU T 40 0) := unM o hn 40 0 (by decide) (by decide)
  have hs0 := skp_le ha
  have hg0 := skp_ge (T := T) (a := a)
  have notis : ∀ c s, c < 1000 → ¬ isT c T s = true → ¬ chr T s = nI c := fun c s hc h h2 => h (by unfold isT; exact decide_eq_true ((chr_is o (by omega)).mp h2))
  have isis : ∀ c s, c < 1000 → isT c T s = true → chr T s = nI c := fun c s hc h => (chr_is o (by omega)).mpr (isT_lt h)
  obtain ⟨τ1, s1, s2, s3, s4⟩ := look_ok o (by omega) hT e
  have z1 := pLz_p s4
  have w41 : τ1.1 0 4 = -1 := by rw [s4 0 4 (by unfold pt; omega)]; exact w4
  unfold f_X12_clause
  rw [hL.1, ld_ok hn (by decide), h5, w4, if_pos rfl, s1, cl_some, nJ_Lmul, nJ_add]
  by_cases c1 : isT 121 T (skp T a) = true
  · have hi1 := isT_lt c1
    rw [if_pos (show chr T (skp T a) = 121 from isis 121 _ (by decide) c1)]
    unfold f_X12_clause_B40
    rw [pf_eq, s2, nJ_addL]
    have F2 : Fr pLz τ1 (sg_up τ1 0 3 (nI (skp T a + 1))) := Fr.up ⟨rfl, Or.inl rfl⟩
    rw [up_nk (by decide), w41, if_pos rfl]
    obtain ⟨τ3, t1, t2, t3, t4⟩ := look_ok (a := skp T a + 1) o (by omega) (tqM_z s3 F2) up_at
    have z3 := pLz_p t4
    have w43 : τ3.1 0 4 = -1 := by rw [t4 0 4 (by unfold pt; omega), up_nk (by decide)]; exact w41
    have Z3 : Fr pLz τ τ3 := (z1.tr F2).tr z3
    have hs1 := skp_le (T := T) (a := skp T a + 1) (by omega)
    have hg1 := skp_ge (T := T) (a := skp T a + 1)
    rw [t1, cl_some]
    by_cases c2 : isT 58 T (skp T (skp T a + 1)) = true
    · have hi2 := isT_lt c2
      have eY : puY T a = (true, skp T (skp T a + 1) + 1, []) := by
        unfold puY puB
        rw [puE_y c1, if_pos rfl, puE_y c2]
        rfl
      obtain ⟨p, hp⟩ : ∃ p, skp T (skp T a + 1) + 1 = p := ⟨_, rfl⟩
      rw [hp] at eY
      rw [if_pos (show chr T (skp T (skp T a + 1)) = 58 from isis 58 _ (by decide) c2), puQ_y eY]
      unfold puQi
      have hp0 : p ≤ T.1 := by omega
      have hpa : a + 2 ≤ p := by omega
      unfold f_X12_clause_B71
      rw [pf_eq, t2, nJ_addL, hp, up_nk (by decide), w43, if_pos rfl]
      have F4 : Fr pLz τ3 (sg_up τ3 0 3 (nI p)) := Fr.up ⟨rfl, Or.inl rfl⟩
      have hm4 := mqM_fr (mqM_fr hL Z3) F4
      have F5 : Fr (pLk n c) (sg_up τ3 0 3 (nI p)) (sg_up (sg_up τ3 0 3 (nI p)) 6 (140 * n + c) (nI L.length)) := Fr.up (Or.inr (Or.inr ⟨Or.inl rfl, rfl⟩))
      have G5 : Fr (fun j _ => 5 ≤ j ∧ j ≤ 8) (sg_up τ3 0 3 (nI p)) (sg_up (sg_up τ3 0 3 (nI p)) 6 (140 * n + c) (nI L.length)) := Fr.up ⟨by decide, by decide⟩
      rw [hm4.1, ld_ok hn (by decide), hm4.2.1, st_ok (by omega) (by decide)]
      have hT5 := tqM_k (tqM_z t3 F4) F5
      have hm5 := mqM_q hm4 G5
      have e03 : (sg_up (sg_up τ3 0 3 (nI p)) 6 (140 * n + c) (nI L.length)).1 0 3 = nI p := by rw [up_ne (by decide), up_at]
      have e04 : (sg_up (sg_up τ3 0 3 (nI p)) 6 (140 * n + c) (nI L.length)).1 0 4 = -1 := by rw [up_ne (by decide), up_nk (by decide)]; exact w43
      have e05 : (sg_up (sg_up τ3 0 3 (nI p)) 6 (140 * n + c) (nI L.length)).1 0 5 = nI 0 := by rw [up_ne (by decide), up_nk (by decide), t4 0 5 (by unfold pt; omega), up_nk (by decide), s4 0 5 (by unfold pt; omega)]; exact w5
      have e55 : (sg_up (sg_up τ3 0 3 (nI p)) 6 (140 * n + c) (nI L.length)).1 5 n = nI c := by rw [up_ne (by decide), up_ne (by decide), Z3 5 n (by unfold pLz; omega)]; exact h5
      have e66 : (sg_up (sg_up τ3 0 3 (nI p)) 6 (140 * n + c) (nI L.length)).1 6 (140 * n + c) = nI L.length := up_at
      have FF : Fr (pLk n c) τ (sg_up (sg_up τ3 0 3 (nI p)) 6 (140 * n + c) (nI L.length)) := ((pLk_z Z3).tr (pLk_z F4)).tr F5
      generalize sg_up (sg_up τ3 0 3 (nI p)) 6 (140 * n + c) (nI L.length) = τ5 at hT5 hm5 e03 e04 e05 e55 e66 FF ⊢
      obtain ⟨τ6, u1, u2, u3, u4⟩ := look_ok (a := p) o (by omega) hT5 e03
      have z6 := pLz_p u4
      have hs2 := skp_le hp0
      have hg2 := skp_ge (T := T) (a := p)
      have hm6 := mqM_fr hm5 z6
      have w46 : τ6.1 0 4 = -1 := by rw [u4 0 4 (by unfold pt; omega)]; exact e04
      have w56 : τ6.1 0 5 = nI 0 := by rw [u4 0 5 (by unfold pt; omega)]; exact e05
      have h56 : τ6.1 5 n = nI c := by rw [u4 5 n (by unfold pt; omega)]; exact e55
      have h66 : τ6.1 6 (140 * n + c) = nI L.length := by rw [u4 6 _ (by unfold pt; omega)]; exact e66
      have F6 : Fr (pLk n c) τ τ6 := FF.tr (pLk_z z6)
      have caseA : ∀ τ, tqM T τ → τ.1 0 3 = nI (skp T p) → τ.1 0 4 = -1 → τ.1 0 5 = nI 0 → mqM n L τ → τ.1 5 n = nI c → τ.1 6 (140 * n + c) = nI L.length → ∃ τ', f_X12_clause_B128 10000 (nI (140 * n + c)) 1 τ = some (0, τ') ∧ tqM T τ' ∧ Fr (pLk n c) τ τ' ∧ (((puZ T (puT1 T) (skp T p)).1 = true ∧ τ'.1 0 3 = nI (puZ T (puT1 T) (skp T p)).2.1 ∧ τ'.1 0 4 = -1 ∧ τ'.1 0 5 = nI 0 ∧ cuM n c L (puZ T (puT1 T) (skp T p)).2.2 τ') ∨ ((puZ T (puT1 T) (skp T p)).1 = false ∧ τ'.1 0 4 = nI (puZ T (puT1 T) (skp T p)).2.1)) := by
        intro τ a1 a2 a3 a4 a5 a6 a7
        obtain ⟨τ1, q1, q2, q3, q4⟩ := cdM (rec := f_X12_unit 40 10000) o hn uM gU (skp T p) τ L hs2 a1 a2 a3 a4 a5 (by omega)
        have q1 : f_X12_condition 10000 (f_X12_unit 40 10000) τ = some (0, τ1) := q1
        obtain ⟨τ', r1, r2, r3, r4⟩ := zM (t := puT1 T) (b := skp T p) (L := L) o hn hc hs2 pgl_T1 q2 (by rw [q3 5 n (by unfold pLm; omega)]; exact a6) (by rw [q3 6 _ (by unfold pLm; omega)]; exact a7) (by omega) q4
        refine ⟨τ', ?_, r2, (pLk_m q3).tr r3, r4⟩
        unfold f_X12_clause_B128
        rw [if_neg nn10, q1, cl_some, r1]
      rw [u1, cl_some]
      by_cases c3 : isT 33 T (skp T p) = true
      · rw [if_pos (show chr T (skp T p) = 33 from isis 33 _ (by decide) c3), if_pos (Or.inl c3)]
        obtain ⟨τ', r1, r2, r3, r4⟩ := caseA τ6 u3 u2 w46 w56 hm6 h56 h66
        exact ⟨τ', r1, r2, F6.tr r3, r4⟩
      · rw [if_neg (show ¬ chr T (skp T p) = 33 from notis 33 _ (by decide) c3)]
        obtain ⟨τ7, v1, v2, v3, v4⟩ := look_ok (a := skp T p) o (by omega) u3 u2
        rw [skp_id] at v1 v2
        have z7 := pLz_p v4
        have hm7 := mqM_fr hm6 z7
        have w47 : τ7.1 0 4 = -1 := by rw [v4 0 4 (by unfold pt; omega)]; exact w46
        have w57 : τ7.1 0 5 = nI 0 := by rw [v4 0 5 (by unfold pt; omega)]; exact w56
        have h57 : τ7.1 5 n = nI c := by rw [v4 5 n (by unfold pt; omega)]; exact h56
        have h67 : τ7.1 6 (140 * n + c) = nI L.length := by rw [v4 6 _ (by unfold pt; omega)]; exact h66
        have F7 : Fr (pLk n c) τ τ7 := F6.tr (pLk_z z7)
        rw [v1, cl_some]
        by_cases c4 : isT 40 T (skp T p) = true
        · rw [if_pos (show chr T (skp T p) = 40 from isis 40 _ (by decide) c4), if_pos (Or.inr c4)]
          obtain ⟨τ', r1, r2, r3, r4⟩ := caseA τ7 v3 v2 w47 w57 hm7 h57 h67
          exact ⟨τ', r1, r2, F7.tr r3, r4⟩
        · rw [if_neg (show ¬ chr T (skp T p) = 40 from notis 40 _ (by decide) c4), if_neg (show ¬ (isT 33 T (skp T p) = true ∨ isT 40 T (skp T p) = true) from fun h => h.elim c3 c4)]
          obtain ⟨τ', r1, r2, r3, r4⟩ := b128M o hn hc hs2 v3 v2 w47 w57 hm7 h57 h67 (by omega)
          refine ⟨τ', r1, r2, F7.tr r3, ?_⟩
          rcases r4 with ⟨x1, x2, x3⟩ | ⟨x1, x2⟩
          · rw [if_pos ⟨x1, x2⟩]
            exact Or.inl ⟨rfl, x3⟩
          · rw [if_neg x1]
            exact x2
    · have eY : puY T a = (false, skp T (skp T a + 1), []) := by
        unfold puY puB
        rw [puE_y c1, if_pos rfl, puE_n c2]
        rfl
      rw [if_neg (show ¬ chr T (skp T (skp T a + 1)) = 58 from notis 58 _ (by decide) c2), bad_ok t2 w43, cl_some, puQ_n eY]
      unfold f_X12_clause_B71
      have F4 : ∀ x, Fr pLz τ3 (sg_up (sg_up τ3 0 4 (nI (skp T (skp T a + 1)))) 0 3 x) := fun x => Fr.tr (Fr.up ⟨rfl, Or.inr (Or.inl rfl)⟩) (Fr.up ⟨rfl, Or.inl rfl⟩)
      rw [pf_eq, up_nk (by decide), up_at, if_neg (by rw [nJ_ne_neg (by omega)]; exact id)]
      exact ⟨_, rfl, tqM_z t3 (F4 _), (pLk_z Z3).tr (pLk_z (F4 _)), Or.inr ⟨rfl, by rw [up_nk (by decide), up_at]⟩⟩
  · have eY : puY T a = (false, skp T a, []) := by
      unfold puY puB
      rw [puE_n c1, if_neg (fun h => by cases h)]
    rw [if_neg (show ¬ chr T (skp T a) = 121 from notis 121 _ (by decide) c1), bad_ok s2 w41, cl_some, puQ_n eY]
    unfold f_X12_clause_B40 f_X12_clause_B71
    have F4 : ∀ x y, Fr pLz τ1 (sg_up (sg_up (sg_up τ1 0 4 (nI (skp T a))) 0 3 x) 0 3 y) := fun x y => Fr.tr (Fr.tr (Fr.up ⟨rfl, Or.inr (Or.inl rfl)⟩) (Fr.up ⟨rfl, Or.inl rfl⟩)) (Fr.up ⟨rfl, Or.inl rfl⟩)
    have e4 : ∀ x, (sg_up (sg_up τ1 0 4 (nI (skp T a))) 0 3 x).1 0 4 = nI (skp T a) := fun x => by rw [up_nk (by decide), up_at]
    have e4' : ∀ x y, (sg_up (sg_up (sg_up τ1 0 4 (nI (skp T a))) 0 3 x) 0 3 y).1 0 4 = nI (skp T a) := fun x y => by rw [up_nk (by decide), e4]
    rw [pf_eq, e4, if_neg (by rw [nJ_ne_neg (by omega)]; exact id), pf_eq, e4', if_neg (by rw [nJ_ne_neg (by omega)]; exact id)]
    exact ⟨_, rfl, tqM_z s3 (F4 _ _), (pLk_z z1).tr (pLk_z (F4 _ _)), Or.inr ⟨rfl, e4' _ _⟩⟩
