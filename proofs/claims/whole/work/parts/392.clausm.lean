/-! CLAUSES OF A LAW, the reference -/
def pLk (n c j q : Nat) : Prop := pLm n j q ∨ (j = 5 ∧ q = n) ∨ ((j = 6 ∨ j = 7 ∨ j = 8) ∧ q = 140 * n + c)
def cuM (n c : Nat) (L : List (Int32 × Int32)) (q : List (Int32 × Int32) × List (Int32 × Int32)) (τ : sgS) : Prop := τ.1 5 n = nI (c + 1) ∧ τ.1 6 (140 * n + c) = nI L.length ∧ τ.1 7 (140 * n + c) = nI (L.length + q.1.length) ∧ τ.1 8 (140 * n + c) = nI (L.length + q.1.length + q.2.length) ∧ mqM n (L ++ (q.1 ++ q.2)) τ
theorem pLk_m {n c : Nat} {τ τ' : sgS} (f : Fr (pLm n) τ τ') : Fr (pLk n c) τ τ' := f.mono (fun j q h => Or.inl h)
theorem pLk_z {n c : Nat} {τ τ' : sgS} (f : Fr pLz τ τ') : Fr (pLk n c) τ τ' := pLk_m (pLm_z f)
theorem tqM_k {T : Nat × (Nat → Nat)} {n c : Nat} {τ τ' : sgS} (h : tqM T τ) (f : Fr (pLk n c) τ τ') : tqM T τ' := tqM_fr h f (by unfold pLk pLm; omega) (fun q => by unfold pLk pLm; omega)
theorem mqM_q {n : Nat} {L : List (Int32 × Int32)} {τ τ' : sgS} (h : mqM n L τ) (f : Fr (fun j _ => 5 ≤ j ∧ j ≤ 8) τ τ') : mqM n L τ' := ⟨by rw [f 0 14 (by omega)]; exact h.1, by rw [f 4 n (by omega)]; exact h.2.1, fun i hi => by rw [f 2 _ (by omega), f 3 _ (by omega)]; exact h.2.2 i hi⟩
theorem edM {T : Nat × (Nat → Nat)} {n c : Nat} {L : List (Int32 × Int32)} {τ : sgS} (hn : n < 5) (hc : c < 140) (hT : tqM T τ) (h : mqM n L τ) (h5 : τ.1 5 n = nI c) : ∃ τ', f_X12_clause_B251 10000 (nI (140 * n + c)) τ = some (0, τ') ∧ tqM T τ' ∧ Fr (pLk n c) τ τ' ∧ mqM n L τ' ∧ τ'.1 5 n = nI (c + 1) ∧ τ'.1 8 (140 * n + c) = nI L.length ∧ (∀ k, τ'.1 0 k = τ.1 0 k) ∧ (∀ k, τ'.1 6 k = τ.1 6 k) ∧ ∀ k, τ'.1 7 k = τ.1 7 k := by
  have F : Fr (pLk n c) τ (sg_up (sg_up τ 8 (140 * n + c) (nI L.length)) 5 n (nI (c + 1))) := Fr.tr (Fr.up (Or.inr (Or.inr ⟨Or.inr (Or.inr rfl), rfl⟩))) (Fr.up (Or.inr (Or.inl ⟨rfl, rfl⟩)))
  have G : Fr (fun j _ => 5 ≤ j ∧ j ≤ 8) τ (sg_up (sg_up τ 8 (140 * n + c) (nI L.length)) 5 n (nI (c + 1))) := Fr.tr (Fr.up ⟨by decide, by decide⟩) (Fr.up ⟨by decide, by decide⟩)
  refine ⟨_, ?_, tqM_k hT F, F, mqM_q h G, up_at, by rw [up_ne (by decide), up_at], fun k => G 0 k (by omega), fun k => by rw [up_ne (by decide), up_ne (by decide)], fun k => by rw [up_ne (by decide), up_ne (by decide)]⟩
  unfold f_X12_clause_B251
  rw [h.1, ld_ok hn (by decide), st_ok (by omega) (by decide), up_ne (by decide), h.1, ld_ok hn (by decide), up_ne (by decide), st_ok hn (by decide), h.2.1, h5, nJ_addL]
/-- where there is no test -/
theorem w0M {T : Nat × (Nat → Nat)} {n c : Nat} {L L' : List (Int32 × Int32)} {τ : sgS} (hn : n < 5) (hc : c < 140) (hT : tqM T τ) (h : mqM n L' τ) (h5 : τ.1 5 n = nI c) (h6 : τ.1 6 (140 * n + c) = nI L.length) : ∃ τ', f_X12_clause_B184 10000 (nI (140 * n + c)) 0 τ = some (0, τ') ∧ tqM T τ' ∧ Fr (pLk n c) τ τ' ∧ mqM n L' τ' ∧ τ'.1 5 n = nI (c + 1) ∧ τ'.1 8 (140 * n + c) = nI L'.length ∧ (∀ k, τ'.1 0 k = τ.1 0 k) ∧ τ'.1 6 (140 * n + c) = nI L.length ∧ τ'.1 7 (140 * n + c) = nI L.length := by
  have F : Fr (pLk n c) τ (sg_up τ 7 (140 * n + c) (nI L.length)) := Fr.up (Or.inr (Or.inr ⟨Or.inr (Or.inl rfl), rfl⟩))
  have G : Fr (fun j _ => 5 ≤ j ∧ j ≤ 8) τ (sg_up τ 7 (140 * n + c) (nI L.length)) := Fr.up ⟨by decide, by decide⟩
  obtain ⟨τ', q1, q2, q3, q4, q5, q6, q7, q8, q9⟩ := edM hn hc (tqM_k hT F) (mqM_q h G) (show (sg_up τ 7 (140 * n + c) (nI L.length)).1 5 n = nI c by rw [up_ne (by decide)]; exact h5)
  refine ⟨τ', ?_, q2, F.tr q3, q4, q5, q6, fun k => by rw [q7, up_ne (by decide)], by rw [q8, up_ne (by decide)]; exact h6, by rw [q9, up_at]⟩
  unfold f_X12_clause_B184
  rw [ld_ok (by omega) (by decide), h6, st_ok (by omega) (by decide), if_pos rfl, q1]
/-- behind a test: what it is worth -/
theorem zM {T : Nat × (Nat → Nat)} {t : Nat → PR} {n c b : Nat} {L : List (Int32 × Int32)} {τ : sgS} (o : okT T) (hn : n < 5) (hc : c < 140) (hb : b ≤ T.1) (gt : pgl T 1 t) (hT : tqM T τ) (h5 : τ.1 5 n = nI c) (h6 : τ.1 6 (140 * n + c) = nI L.length) (hl : L.length ≤ b) (h : ((t b).1 = true ∧ τ.1 0 3 = nI (t b).2.1 ∧ τ.1 0 4 = -1 ∧ τ.1 0 5 = nI 0 ∧ mqM n (L ++ (t b).2.2) τ) ∨ ((t b).1 = false ∧ bdM n (L.length + (T.1 - b)) (t b).2.1 τ)) : ∃ τ', f_X12_clause_B184 10000 (nI (140 * n + c)) 1 τ = some (0, τ') ∧ tqM T τ' ∧ Fr (pLk n c) τ τ' ∧ (((puZ T t b).1 = true ∧ τ'.1 0 3 = nI (puZ T t b).2.1 ∧ τ'.1 0 4 = -1 ∧ τ'.1 0 5 = nI 0 ∧ cuM n c L (puZ T t b).2.2 τ') ∨ ((puZ T t b).1 = false ∧ τ'.1 0 4 = nI (puZ T t b).2.1)) := by
  have h240 := o.1
  have g := gt b hb
  have g1 := g.1
  have F : Fr (pLk n c) τ (sg_up τ 7 (140 * n + c) (nI L.length)) := Fr.up (Or.inr (Or.inr ⟨Or.inr (Or.inl rfl), rfl⟩))
  have G : Fr (fun j _ => 5 ≤ j ∧ j ≤ 8) τ (sg_up τ 7 (140 * n + c) (nI L.length)) := Fr.up ⟨by decide, by decide⟩
  have hT1 := tqM_k hT F
  have h51 : (sg_up τ 7 (140 * n + c) (nI L.length)).1 5 n = nI c := by rw [up_ne (by decide)]; exact h5
  have h61 : (sg_up τ 7 (140 * n + c) (nI L.length)).1 6 (140 * n + c) = nI L.length := by rw [up_ne (by decide)]; exact h6
  have h0 : ∀ k, (sg_up τ 7 (140 * n + c) (nI L.length)).1 0 k = τ.1 0 k := fun k => G 0 k (by omega)
  unfold f_X12_clause_B184 puZ
  rw [ld_ok (by omega) (by decide), h6, st_ok (by omega) (by decide), if_neg nn10]
  generalize sg_up τ 7 (140 * n + c) (nI L.length) = τ1 at F G hT1 h51 h61 h0 ⊢
  rw [h0]
  rcases h with ⟨cc, d3, d4, d5, d6⟩ | ⟨cc, d4⟩
  · have g2 := g.2 cc
    have hm1 := mqM_q d6 G
    have hlen : (L ++ (t b).2.2).length = L.length + (t b).2.2.length := List.length_append
    have hE := pgl_E (c := 63) (t b).2.1 g1
    have hg0 := skp_ge (T := T) (a := (t b).2.1)
    rw [d4, if_pos rfl, if_pos cc]
    obtain ⟨τ2, s1, s2, s3, s4⟩ := look_ok o (by omega) hT1 (show τ1.1 0 3 = nI (t b).2.1 by rw [h0]; exact d3)
    have z4 := pLz_p s4
    have hm2 := mqM_fr hm1 z4
    have w42 : τ2.1 0 4 = -1 := by rw [s4 0 4 (by unfold pt; omega), h0]; exact d4
    have w52 : τ2.1 0 5 = nI 0 := by rw [s4 0 5 (by unfold pt; omega), h0]; exact d5
    rw [s1, cl_some]
    unfold puV puB puE
    by_cases ci : isT 63 T (skp T (t b).2.1) = true
    · have hi := isT_lt ci
      rw [if_pos ci]
      rw [if_pos (show chr T (skp T (t b).2.1) = 63 from (chr_is (c := 63) o (by decide)).mpr hi), pf_eq, s2, nJ_addL]
      have F3 : Fr pLz τ2 (sg_up τ2 0 3 (nI (skp T (t b).2.1 + 1))) := Fr.up ⟨rfl, Or.inl rfl⟩
      have hm3 := mqM_fr hm2 F3
      have F4 : Fr (pLk n c) (sg_up τ2 0 3 (nI (skp T (t b).2.1 + 1))) (sg_up (sg_up τ2 0 3 (nI (skp T (t b).2.1 + 1))) 7 (140 * n + c) (nI (L ++ (t b).2.2).length)) := Fr.up (Or.inr (Or.inr ⟨Or.inr (Or.inl rfl), rfl⟩))
      have G4 : Fr (fun j _ => 5 ≤ j ∧ j ≤ 8) (sg_up τ2 0 3 (nI (skp T (t b).2.1 + 1))) (sg_up (sg_up τ2 0 3 (nI (skp T (t b).2.1 + 1))) 7 (140 * n + c) (nI (L ++ (t b).2.2).length)) := Fr.up ⟨by decide, by decide⟩
      rw [hm3.1, ld_ok hn (by decide), hm3.2.1, st_ok (by omega) (by decide)]
      have hT4 := tqM_k (tqM_z s3 F3) F4
      have hm4 := mqM_q hm3 G4
      have A4 : ∀ k, (sg_up (sg_up τ2 0 3 (nI (skp T (t b).2.1 + 1))) 7 (140 * n + c) (nI (L ++ (t b).2.2).length)).1 0 k = (sg_up τ2 0 3 (nI (skp T (t b).2.1 + 1))).1 0 k := fun k => G4 0 k (by omega)
      have e54 : (sg_up (sg_up τ2 0 3 (nI (skp T (t b).2.1 + 1))) 7 (140 * n + c) (nI (L ++ (t b).2.2).length)).1 5 n = nI c := by rw [up_ne (by decide), up_ne (by decide), s4 5 n (by unfold pt; omega)]; exact h51
      have e64 : (sg_up (sg_up τ2 0 3 (nI (skp T (t b).2.1 + 1))) 7 (140 * n + c) (nI (L ++ (t b).2.2).length)).1 6 (140 * n + c) = nI L.length := by rw [up_ne (by decide), up_ne (by decide), s4 6 _ (by unfold pt; omega)]; exact h61
      have e74 : (sg_up (sg_up τ2 0 3 (nI (skp T (t b).2.1 + 1))) 7 (140 * n + c) (nI (L ++ (t b).2.2).length)).1 7 (140 * n + c) = nI (L ++ (t b).2.2).length := up_at
      have e03 : (sg_up (sg_up τ2 0 3 (nI (skp T (t b).2.1 + 1))) 7 (140 * n + c) (nI (L ++ (t b).2.2).length)).1 0 3 = nI (skp T (t b).2.1 + 1) := by rw [A4, up_at]
      have e04 : (sg_up (sg_up τ2 0 3 (nI (skp T (t b).2.1 + 1))) 7 (140 * n + c) (nI (L ++ (t b).2.2).length)).1 0 4 = -1 := by rw [A4, up_nk (by decide)]; exact w42
      have e05 : (sg_up (sg_up τ2 0 3 (nI (skp T (t b).2.1 + 1))) 7 (140 * n + c) (nI (L ++ (t b).2.2).length)).1 0 5 = nI 0 := by rw [A4, up_nk (by decide)]; exact w52
      have FF : Fr (pLk n c) τ (sg_up (sg_up τ2 0 3 (nI (skp T (t b).2.1 + 1))) 7 (140 * n + c) (nI (L ++ (t b).2.2).length)) := ((F.tr (pLk_z z4)).tr (pLk_z F3)).tr F4
      generalize sg_up (sg_up τ2 0 3 (nI (skp T (t b).2.1 + 1))) 7 (140 * n + c) (nI (L ++ (t b).2.2).length) = τ4 at hT4 hm4 e54 e64 e74 e03 e04 e05 FF ⊢
      obtain ⟨τ5, q1, q2, q3, q4⟩ := smM o hn 40 0 (by decide) (by decide) (skp T (t b).2.1 + 1) τ4 _ (by omega) hT4 e03 e04 e05 hm4 (by omega)
      have q1 : f_X12_sum 40 10000 τ4 = some (0, τ5) := q1
      have gS := pgl_S (T := T) 40 0 (by decide) (skp T (t b).2.1 + 1) (by omega)
      have e55 : τ5.1 5 n = nI c := by rw [q3 5 n (by unfold pLm; omega)]; exact e54
      have e65 : τ5.1 6 (140 * n + c) = nI L.length := by rw [q3 6 _ (by unfold pLm; omega)]; exact e64
      have e75 : τ5.1 7 (140 * n + c) = nI (L ++ (t b).2.2).length := by rw [q3 7 _ (by unfold pLm; omega)]; exact e74
      rw [q1, cl_some]
      rcases q4 with ⟨x1, x3, x4, x5, x6⟩ | ⟨x1, x4⟩
      · obtain ⟨τ', r1, r2, r3, r4, r5, r6, r7, r8, r9⟩ := edM hn hc q2 x6 e55
        refine ⟨τ', r1, r2, (FF.tr (pLk_m q3)).tr r3, Or.inl ⟨x1, by rw [r7]; exact x3, by rw [r7]; exact x4, by rw [r7]; exact x5, r5, by rw [r8]; exact e65, by rw [r9, e75, hlen], ?_, ?_⟩⟩
        · rw [r6, List.length_append, hlen]; rfl
        · rw [List.append_assoc] at r4
          exact r4
      · obtain ⟨L2, m1, m2⟩ := x4.2
        obtain ⟨τ', r1, r2, r3, r4, r5, r6, r7, r8, r9⟩ := edM hn hc q2 m1 e55
        exact ⟨τ', r1, r2, (FF.tr (pLk_m q3)).tr r3, Or.inr ⟨x1, by rw [r7]; exact x4.1⟩⟩
    · have hne : ¬ chr T (skp T (t b).2.1) = 63 := fun h => ci (by unfold isT; exact decide_eq_true ((chr_is (c := 63) o (by decide)).mp h))
      rw [if_neg ci, if_neg hne, bad_ok s2 w42, cl_some]
      have F3 : Fr pLz τ2 (sg_up τ2 0 4 (nI (skp T (t b).2.1))) := Fr.up ⟨rfl, Or.inr (Or.inl rfl)⟩
      exact ⟨_, rfl, tqM_z s3 F3, (F.tr (pLk_z z4)).tr (pLk_z F3), Or.inr ⟨rfl, up_at⟩⟩
  · obtain ⟨L2, m1, m2⟩ := d4.2
    have hm1 := mqM_q m1 G
    obtain ⟨τ', r1, r2, r3, r4, r5, r6, r7, r8, r9⟩ := edM hn hc hT1 hm1 h51
    rw [d4.1, if_neg (by rw [nJ_ne_neg (by omega)]; exact id), if_neg (show ¬ (t b).1 = true by rw [cc]; decide)]
    exact ⟨τ', r1, r2, F.tr r3, Or.inr ⟨rfl, by rw [r7, h0]; exact d4.1⟩⟩
theorem cl_assoc {x : Option (Int32 × sgS)} {f g : Int32 → sgS → Option (Int32 × sgS)} : (sg_cl (sg_cl x f) g) = (sg_cl x fun v s => sg_cl (f v s) g) := by
  cases x with
  | none => rfl
  | some y => rfl
theorem sk_AO {rec : sgS → Option (Int32 × sgS)} : skM (fun τ => sg_cl (f_X12_goOnAnd 10000 rec τ) fun _ s => f_X12_goOnOr 10000 rec s) := by
  intro τ x hx h
  have h1 : f_X12_goOnAnd 10000 rec τ = some (0, τ) := sk_A τ x hx h
  have h2 : f_X12_goOnOr 10000 rec τ = some (0, τ) := sk_O τ x hx h
  show (sg_cl (f_X12_goOnAnd 10000 rec τ) fun _ s => f_X12_goOnOr 10000 rec s) = _
  rw [h1, cl_some, h2]
