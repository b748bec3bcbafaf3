/-! A LAW READ, the reference -/
def pLr (n j q : Nat) : Prop := pLm n j q ∨ (j = 5 ∧ q = n) ∨ ((j = 6 ∨ j = 7 ∨ j = 8) ∧ 140 * n ≤ q ∧ q < 140 * n + 140)
theorem pLr_k {n c : Nat} {τ τ' : sgS} (hc : c < 140) (f : Fr (pLk n c) τ τ') : Fr (pLr n) τ τ' := f.mono (fun j q h => by
  unfold pLk at h
  unfold pLr
  rcases h with h | h | h
  · exact Or.inl h
  · exact Or.inr (Or.inl h)
  · exact Or.inr (Or.inr ⟨h.1, by omega, by omega⟩))
theorem pLr_z {n : Nat} {τ τ' : sgS} (f : Fr pLz τ τ') : Fr (pLr n) τ τ' := f.mono (fun j q h => Or.inl (Or.inl h))
theorem lwItems_snoc {l : List (List (Int32 × Int32) × List (Int32 × Int32))} {q : List (Int32 × Int32) × List (Int32 × Int32)} : lwItems (l ++ [q]) = lwItems l ++ (q.1 ++ q.2) := by
  unfold lwItems
  rw [List.flatMap_append]
  show _ ++ ((q.1 ++ q.2) ++ []) = _
  rw [List.append_nil]
theorem MLaw_snoc {l : List (List (Int32 × Int32) × List (Int32 × Int32))} {q : List (Int32 × Int32) × List (Int32 × Int32)} {n : Nat} {τ τ' : sgS} (h : MLaw l n τ) (hl : l.length < 140) (F : Fr (pLk n l.length) τ τ') (hm : mqM n (lwItems l) τ) (k : cuM n l.length (lwItems l) q τ') : MLaw (l ++ [q]) n τ' := by
  obtain ⟨k5, k6, k7, k8, k9⟩ := k
  obtain ⟨m1, m2, m3⟩ := h
  have el : (l ++ [q]).length = l.length + 1 := by rw [List.length_append, List.length_singleton]
  refine ⟨by rw [el]; exact k5, fun i hi => ?_, fun c hc => ?_⟩
  · rw [lwItems_snoc] at hi ⊢
    exact k9.2.2 i hi
  · rw [el] at hc
    by_cases cc : c = l.length
    · rw [cc]
      have e1 : (l ++ [q]).take l.length = l := by rw [List.take_append_of_le_length (Nat.le_refl _), List.take_length]
      have e2 : (l ++ [q]).take (l.length + 1) = l ++ [q] := by rw [← el, List.take_length]
      have e3 : (l ++ [q]).getD l.length ([], []) = q := by rw [List.getD_eq_getElem?_getD, List.getElem?_append_right (Nat.le_refl _), Nat.sub_self]; rfl
      rw [e1, e2, e3, lwItems_snoc, List.length_append, List.length_append, ← Nat.add_assoc]
      exact ⟨k6, k7, k8⟩
    · have hc2 : c < l.length := by omega
      have e1 : (l ++ [q]).take c = l.take c := List.take_append_of_le_length (by omega)
      have e2 : (l ++ [q]).take (c + 1) = l.take (c + 1) := List.take_append_of_le_length (by omega)
      have e3 : (l ++ [q]).getD c ([], []) = l.getD c ([], []) := by rw [List.getD_eq_getElem?_getD, List.getElem?_append_left hc2, ← List.getD_eq_getElem?_getD]
      have := m3 c hc2
      rw [e1, e2, e3, F 6 _ (by unfold pLk pLm; omega), F 7 _ (by unfold pLk pLm; omega), F 8 _ (by unfold pLk pLm; omega)]
      exact this
theorem MLaw_z {l : List (List (Int32 × Int32) × List (Int32 × Int32))} {n : Nat} {τ τ' : sgS} (h : MLaw l n τ) (F : Fr pLz τ τ') : MLaw l n τ' := by
  obtain ⟨m1, m2, m3⟩ := h
  exact ⟨by rw [F 5 n (by unfold pLz; omega)]; exact m1, fun k hk => by rw [F 2 _ (by unfold pLz; omega), F 3 _ (by unfold pLz; omega)]; exact m2 k hk, fun c hc => by rw [F 6 _ (by unfold pLz; omega), F 7 _ (by unfold pLz; omega), F 8 _ (by unfold pLz; omega)]; exact m3 c hc⟩
theorem lwItems_le {x y : List (Int32 × Int32)} : (x ++ y).length ≤ (lwCl (x, y)).length := by
  unfold lwCl
  by_cases c : x = []
  · rw [if_pos c, c]
    simp only [List.nil_append, List.length_append, List.length_map, List.length_singleton]
    omega
  · rw [if_neg c]
    simp only [List.length_append, List.length_map, List.length_singleton]
    omega
def lwE3 (p1 : Int32) (M : Nat) (s : sgS) : Option (Int32 × sgS) := sg_lb (sg_lp (fun x => f_X12_readLaw_L9 10000 p1 x) M s) (fun r => some r) fun y => sg_cl (f_X12_atEnd 10000 y) fun v s => some (v, s)
theorem lwM_lp {T : Nat × (Nat → Nat)} {n : Nat} {p1 : Int32} (o : okT T) (hn : n < 5) : ∀ f a l M τ, T.1 - a < f → f < M → 3 * l.length ≤ a → a ≤ T.1 → tqM T τ → τ.1 0 3 = nI a → τ.1 0 4 = -1 → τ.1 0 5 = nI 0 → mqM n (lwItems l) τ → (lwItems l).length ≤ a → MLaw l n τ → ∃ τ' z, (sg_cl (f_X12_clause 10000 τ) fun _ s => lwE3 p1 M s) = some (z, τ') ∧ tqM T τ' ∧ Fr (pLr n) τ τ' ∧ (((lwW T f a).1 = true ∧ z = -1 ∧ MLaw (l ++ (lwW T f a).2.2) n τ') ∨ ((lwW T f a).1 = false ∧ z = nI (lwW T f a).2.1)) := by
  have h240 := o.1
  intro f
  induction f with
  | zero => intro a l M τ h; omega
  | succ f ih =>
    intro a l M τ h1 hM hc ha hT e w4 w5 hm hl hW
    obtain ⟨M, rfl⟩ : ∃ m, M = m + 1 := ⟨M - 1, by omega⟩
    have hQ := puQ_ok ha
    have hQ1 := hQ.1
    obtain ⟨τ1, q1, q2, q3, q4⟩ := clauM o hn (show l.length < 140 by omega) ha hT e w4 w5 hm hW.1 hl
    have R1 : Fr (pLr n) τ τ1 := pLr_k (by omega) q3
    rw [q1, cl_some]
    unfold lwW
    rcases q4 with ⟨c, d3, d4, d5, d6⟩ | ⟨c, d4⟩
    · rw [if_pos c]
      have h2 := hQ.2 c
      have hl2 := skp_le hQ.1
      have hg := skp_ge (T := T) (a := (puQ T a).2.1)
      have hW1 := MLaw_snoc hW (show l.length < 140 by omega) q3 hm d6
      obtain ⟨τ2, s1, s2, s3, s4⟩ := look_ok o (by omega) q2 d3
      have z2 := pLz_p s4
      have w42 : τ2.1 0 4 = -1 := by rw [s4 0 4 (by unfold pt; omega)]; exact d4
      have w52 : τ2.1 0 5 = nI 0 := by rw [s4 0 5 (by unfold pt; omega)]; exact d5
      have hm2 := mqM_fr d6.2.2.2.2 z2
      rw [← lwItems_snoc] at hm2
      have hil : (lwItems (l ++ [(puQ T a).2.2])).length ≤ (puQ T a).2.1 := by
        rw [lwItems_snoc, List.length_append]
        have := lwItems_le (x := (puQ T a).2.2.1) (y := (puQ T a).2.2.2)
        have h3 : (lwCl ((puQ T a).2.2.1, (puQ T a).2.2.2)).length + a ≤ (puQ T a).2.1 := h2.2.1
        omega
      have out : ¬ chr T (skp T (puQ T a).2.1) = 59 → lwE3 p1 (M + 1) τ1 = (sg_cl (f_X12_atEnd 10000 τ2) fun v s => some (v, s)) := by
        intro hne
        unfold lwE3
        rw [lp_out (y := τ2), lb_inr]
        show f_X12_readLaw_L9 10000 p1 τ1 = _
        unfold f_X12_readLaw_L9
        rw [d4, if_pos rfl, s1, cl_some, if_neg hne]
      obtain ⟨τ3, t1, t2, t3, t4⟩ := look_ok (a := skp T (puQ T a).2.1) o (by omega) s3 s2
      rw [skp_id] at t1 t2
      have z3 := pLz_p t4
      have w43 : τ3.1 0 4 = -1 := by rw [t4 0 4 (by unfold pt; omega)]; exact w42
      by_cases c1 : T.1 ≤ skp T (puQ T a).2.1
      · rw [if_pos c1]
        have hend : chr T (skp T (puQ T a).2.1) = -1 := (chr_end o).mpr c1
        rw [out (by rw [hend]; decide)]
        unfold f_X12_atEnd
        rw [w42, if_pos rfl, t1, cl_some, if_pos hend, w43, cl_some]
        exact ⟨τ3, -1, rfl, t3, R1.tr (pLr_z (z2.tr z3)), Or.inl ⟨rfl, rfl, MLaw_z hW1 (z2.tr z3)⟩⟩
      · rw [if_neg c1]
        have hne1 : ¬ chr T (skp T (puQ T a).2.1) = -1 := fun h => c1 ((chr_end o).mp h)
        by_cases c2 : T.2 (skp T (puQ T a).2.1) = 59
        · rw [if_pos c2]
          have hch : chr T (skp T (puQ T a).2.1) = 59 := (chr_is (c := 59) o (by decide)).mpr ⟨by omega, c2⟩
          have F4 : Fr pLz τ2 (sg_up τ2 0 3 (nI (skp T (puQ T a).2.1 + 1))) := Fr.up ⟨rfl, Or.inl rfl⟩
          obtain ⟨τ', z, r1, r2, r3, r4⟩ := ih (skp T (puQ T a).2.1 + 1) (l ++ [(puQ T a).2.2]) M (sg_up τ2 0 3 (nI (skp T (puQ T a).2.1 + 1))) (by omega) (by omega) (by rw [List.length_append, List.length_singleton]; omega) (by omega) (tqM_z s3 F4) up_at (by rw [up_nk (by decide)]; exact w42) (by rw [up_nk (by decide)]; exact w52) (mqM_fr hm2 F4) (by omega) (MLaw_z hW1 (z2.tr F4))
          refine ⟨τ', z, ?_, r2, (R1.tr (pLr_z (z2.tr F4))).tr r3, ?_⟩
          · rw [← r1]
            cases hr : f_X12_clause 10000 (sg_up τ2 0 3 (nI (skp T (puQ T a).2.1 + 1))) with
            | none => rw [hr] at r1; cases r1
            | some x =>
              obtain ⟨v, s⟩ := x
              rw [cl_some]
              unfold lwE3
              rw [lp_step (x' := s)]
              show f_X12_readLaw_L9 10000 p1 τ1 = _
              unfold f_X12_readLaw_L9
              rw [d4, if_pos rfl, s1, cl_some, if_pos hch, pf_eq, s2, nJ_addL, hr, cl_some]
          · rcases r4 with ⟨x1, x2, x3⟩ | ⟨x1, x2⟩
            · refine Or.inl ⟨x1, x2, ?_⟩
              rw [List.append_assoc] at x3
              exact x3
            · exact Or.inr ⟨x1, x2⟩
        · rw [if_neg c2]
          have hne : ¬ chr T (skp T (puQ T a).2.1) = 59 := fun h => c2 ((chr_is (c := 59) o (by decide)).mp h).2
          rw [out hne]
          unfold f_X12_atEnd
          rw [w42, if_pos rfl, t1, cl_some, if_neg hne1, bad_ok t2 w43, cl_some, up_at, cl_some]
          have F4 : Fr pLz τ3 (sg_up τ3 0 4 (nI (skp T (puQ T a).2.1))) := Fr.up ⟨rfl, Or.inr (Or.inl rfl)⟩
          exact ⟨_, _, rfl, tqM_z t3 F4, R1.tr (pLr_z ((z2.tr z3).tr F4)), Or.inr ⟨rfl, rfl⟩⟩
    · rw [if_neg (show ¬ (puQ T a).1 = true by rw [c]; decide)]
      have hne : ¬ τ1.1 0 4 = -1 := by rw [d4, nJ_ne_neg (by omega)]; exact id
      unfold lwE3
      rw [lp_out (y := τ1), lb_inr]
      · unfold f_X12_atEnd
        rw [if_neg hne, cl_some, d4]
        exact ⟨τ1, _, rfl, q2, R1, Or.inr ⟨rfl, rfl⟩⟩
      · show f_X12_readLaw_L9 10000 p1 τ1 = _
        unfold f_X12_readLaw_L9
        rw [if_neg hne]
def pLo (n j q : Nat) : Prop := pLr n j q ∨ (j = 0 ∧ q = 14)
theorem lwM_ok {T : Nat × (Nat → Nat)} {n : Nat} {τ : sgS} (o : okT T) (hn : n < 5) (hT : tqM T τ) : ∃ τ' z, f_X12_readLaw 10000 (nI n) τ = some (z, τ') ∧ tqM T τ' ∧ Fr (pLo n) τ τ' ∧ (((lwRd T).1 = true ∧ z = -1 ∧ MLaw (lwRd T).2.2 n τ') ∨ ((lwRd T).1 = false ∧ z = nI (lwRd T).2.1)) := by
  have h240 := o.1
  have hop : f_X12_open 10000 (nI n) τ = some (0, sg_up (sg_up (sg_up (sg_up (sg_up (sg_up τ 0 14 (nI n)) 0 3 0) 0 4 (-1)) 0 5 0) 4 n 0) 5 n 0) := by
    unfold f_X12_open
    rw [pf_eq, pf_eq, pf_eq, pf_eq, st_ok hn (by decide), st_ok hn (by decide)]
  have F : Fr (pLo n) τ (sg_up (sg_up (sg_up (sg_up (sg_up (sg_up τ 0 14 (nI n)) 0 3 0) 0 4 (-1)) 0 5 0) 4 n 0) 5 n 0) := by
    refine Fr.tr (Fr.tr (Fr.tr (Fr.tr (Fr.tr (Fr.up ?_) (Fr.up ?_)) (Fr.up ?_)) (Fr.up ?_)) (Fr.up ?_)) (Fr.up ?_) <;> (unfold pLo pLr pLm; omega)
  have hT1 : tqM T (sg_up (sg_up (sg_up (sg_up (sg_up (sg_up τ 0 14 (nI n)) 0 3 0) 0 4 (-1)) 0 5 0) 4 n 0) 5 n 0) := tqM_fr hT F (by unfold pLo pLr pLm; omega) (fun q => by unfold pLo pLr pLm; omega)
  obtain ⟨τ', z, r1, r2, r3, r4⟩ := lwM_lp (p1 := nI n) o hn (T.1 + 1) 0 [] 10000 (sg_up (sg_up (sg_up (sg_up (sg_up (sg_up τ 0 14 (nI n)) 0 3 0) 0 4 (-1)) 0 5 0) 4 n 0) 5 n 0) (by omega) (by omega) (Nat.le_refl _) (Nat.zero_le _) hT1
    (by rw [up_ne (by decide), up_ne (by decide), up_nk (by decide), up_nk (by decide), up_at]; rfl)
    (by rw [up_ne (by decide), up_ne (by decide), up_nk (by decide), up_at])
    (by rw [up_ne (by decide), up_ne (by decide), up_at]; rfl)
    ⟨by rw [up_ne (by decide), up_ne (by decide), up_nk (by decide), up_nk (by decide), up_nk (by decide), up_at], by rw [up_ne (by decide), up_at]; rfl, fun i hi => absurd hi (Nat.not_lt_zero _)⟩ (Nat.le_refl _)
    ⟨by rw [up_at]; rfl, fun k hk => absurd hk (Nat.not_lt_zero _), fun c hc => absurd hc (Nat.not_lt_zero _)⟩
  refine ⟨τ', z, ?_, r2, F.tr (r3.mono (fun j q h => Or.inl h)), r4⟩
  unfold f_X12_readLaw
  rw [hop, cl_some]
  exact r1
