/-! A LAW READ, the class -/
def cqC (L : List Int32) (σ : sgS) : Prop := σ.1 19 2 = nI L.length ∧ ∀ i, i < L.length → σ.1 20 i = L.getD i 0
def pLc (j q : Nat) : Prop := (j = 1 ∧ q = 2) ∨ (j = 19 ∧ q = 2) ∨ j = 20
def ImC (T : Nat × (Nat → Nat)) (f : sgS → Option (Int32 × sgS)) (p : Nat → PR) : Prop := ∀ a σ L, a ≤ T.1 → tqC T σ → σ.1 1 2 = nI a → cqC L σ → L.length ≤ a → ∃ σ' z, f σ = some (z, σ') ∧ tqC T σ' ∧ σ'.1 1 2 = nI (p a).2.1 ∧ Fr pLc σ σ' ∧ (((p a).1 = true ∧ z = 1 ∧ cqC (L ++ (p a).2.2.map lwE) σ') ∨ ((p a).1 = false ∧ z = 0))
theorem pLc_p {σ σ' : sgS} (f : Fr (pt 1 2) σ σ') : Fr pLc σ σ' := f.mono (fun j q h => Or.inl h)
theorem cqC_fr {L : List Int32} {σ σ' : sgS} (h : cqC L σ) (f : Fr (pt 1 2) σ σ') : cqC L σ' := ⟨by rw [f 19 2 (by unfold pt; omega)]; exact h.1, fun i hi => by rw [f 20 i (by unfold pt; omega)]; exact h.2 i hi⟩
theorem tqC_up {T : Nat × (Nat → Nat)} {σ : sgS} {x : Int32} (h : tqC T σ) : tqC T (sg_up σ 1 2 x) := ⟨by rw [up_nk (by decide)]; exact h.1, fun q hq => by rw [up_ne (by decide)]; exact h.2 q hq⟩
theorem emit_C {T : Nat × (Nat → Nat)} {L : List Int32} {x : Int32} {a : Nat} {σ : sgS} (hT : tqC T σ) (e : σ.1 1 2 = nI a) (h : cqC L σ) (hl : L.length < 240) : ∃ σ', f_X3_emit 10000 x σ = some (1, σ') ∧ tqC T σ' ∧ σ'.1 1 2 = nI a ∧ Fr pLc σ σ' ∧ cqC (L ++ [x]) σ' := by
  unfold f_X3_emit
  rw [h.1, if_pos (by rw [nJ_ltL (by omega) (by decide)]; exact hl), st_ok hl (by decide), pf_eq, up_ne (by decide), h.1, nJ_addL]
  refine ⟨_, rfl, ⟨by rw [up_ne (by decide), up_ne (by decide)]; exact hT.1, fun q hq => by rw [up_ne (by decide), up_ne (by decide)]; exact hT.2 q hq⟩, by rw [up_ne (by decide), up_ne (by decide)]; exact e, Fr.tr (Fr.up (Or.inr (Or.inr rfl))) (Fr.up (Or.inr (Or.inl ⟨rfl, rfl⟩))), ?_, ?_⟩
  · rw [up_at, List.length_append, List.length_singleton]
  · intro i hi
    rw [List.length_append, List.length_singleton] at hi
    rw [up_ne (by decide)]
    by_cases c : i = L.length
    · rw [c, up_at, List.getD_eq_getElem?_getD, List.getElem?_append_right (Nat.le_refl _), Nat.sub_self]
      rfl
    · rw [up_nk c, h.2 i (by omega), List.getD_eq_getElem?_getD, List.getD_eq_getElem?_getD, List.getElem?_append_left (by omega)]
theorem ImC_B {T : Nat × (Nat → Nat)} {f g : sgS → Option (Int32 × sgS)} {p q : Nat → PR} {e : Nat} (hf : ImC T f p) (hg : ImC T g q) (gp : pgl T e p) : ImC T (fun σ => sg_cl (f σ) fun v s => if v = 0 then some (vp_nar .boolean 0, s) else g s) (puB p q) := by
  intro a σ L ha hT e hL hl
  obtain ⟨σ1, z, q1, q2, q3, q4, q5⟩ := hf a σ L ha hT e hL hl
  have hp := gp a ha
  show ∃ σ' z, (sg_cl (f σ) fun v s => if v = 0 then some (vp_nar .boolean 0, s) else g s) = some (z, σ') ∧ _
  rw [q1, cl_some]
  unfold puB
  rcases q5 with ⟨c, hz, hL1⟩ | ⟨c, hz⟩
  · rw [hz, if_neg nn10, if_pos c]
    have h2 := hp.2 c
    obtain ⟨σ2, z2, r1, r2, r3, r4, r5⟩ := hg (p a).2.1 σ1 _ hp.1 q2 q3 hL1 (by rw [List.length_append, List.length_map]; omega)
    refine ⟨σ2, z2, r1, r2, r3, q4.tr r4, ?_⟩
    rcases r5 with ⟨d, d2, d3⟩ | d
    · refine Or.inl ⟨d, d2, ?_⟩
      rw [List.append_assoc, ← List.map_append] at d3
      exact d3
    · exact Or.inr d
  · rw [hz, if_pos rfl, if_neg (by rw [c]; decide)]
    exact ⟨σ1, _, rfl, q2, q3, q4, Or.inr ⟨rfl, rfl⟩⟩
theorem ImC_1 {T : Nat × (Nat → Nat)} {f : sgS → Option (Int32 × sgS)} {p : Nat → PR} (hf : ImC T f p) : ImC T (fun σ => sg_cl (f σ) fun v s => if v = 0 then some (vp_nar .boolean 0, s) else some (vp_nar .boolean 1, s)) p := by
  intro a σ L ha hT e hL hl
  obtain ⟨σ1, z, q1, q2, q3, q4, q5⟩ := hf a σ L ha hT e hL hl
  show ∃ σ' z, (sg_cl (f σ) fun v s => if v = 0 then some (vp_nar .boolean 0, s) else some (vp_nar .boolean 1, s)) = some (z, σ') ∧ _
  rw [q1, cl_some]
  rcases q5 with ⟨c, hz, hL1⟩ | ⟨c, hz⟩
  · rw [hz, if_neg nn10]
    exact ⟨σ1, _, rfl, q2, q3, q4, Or.inl ⟨c, rfl, hL1⟩⟩
  · rw [hz, if_pos rfl]
    exact ⟨σ1, _, rfl, q2, q3, q4, Or.inr ⟨c, rfl⟩⟩
/-- what closes: takes -/
theorem ImC_E {T : Nat × (Nat → Nat)} {c : Nat} (o : okT T) (hc : c < 1000) : ImC T (fun σ => f_X9_takes 10000 (nI c) σ) (puE T c) := by
  intro a σ L ha hT e hL hl
  have h240 := o.1
  obtain ⟨σ1, q1, q2, q3, q4⟩ := takes_ok o (by omega) hc hT e
  unfold puE
  by_cases h : isT c T (skp T a) = true
  · have h2 := isT_lt h
    rw [if_pos h]
    rw [if_pos ((chr_is o (by omega)).mpr h2)] at q1 q2
    exact ⟨σ1, 1, q1, q3, q2, pLc_p q4, Or.inl ⟨rfl, rfl, by show cqC (L ++ []) σ1; rw [List.append_nil]; exact cqC_fr hL q4⟩⟩
  · have h2 : ¬ chr T (skp T a) = nI c := fun h3 => h (by unfold isT; exact decide_eq_true ((chr_is o (by omega)).mp h3))
    rw [if_neg h]
    rw [if_neg h2] at q1 q2
    exact ⟨σ1, 0, q1, q3, q2, pLc_p q4, Or.inr ⟨rfl, rfl⟩⟩
theorem ltS_C : ∀ c : Fin 256, f_J0_indexOf_0f7a4 10000 2 (((nI c.val).toUInt32 % 65536).toInt32) zS = some (if ltS c.val < 9 then nI (ltS c.val) else -1) := by decide +kernel
theorem ltS_C0 {x : Int32} {σ : sgS} : f_J0_indexOf_0f7a4 10000 2 x σ = f_J0_indexOf_0f7a4 10000 2 x zS := rfl
theorem lt91 {T : Nat × (Nat → Nat)} {s : Nat} (h : isT 91 T s = true) : ¬ ltT T s < 9 := by
  have := isT_lt h
  unfold ltT
  rw [if_pos this.1, this.2]
  decide
theorem atC {T : Nat × (Nat → Nat)} {rec : Int32 → sgS → Option (Int32 × sgS)} {r : Nat → PR} {w : Nat} (o : okT T) (hw : w ≤ 6) (hr : w < 6 → ImC T (rec (nI (w + 1))) r) (gr : w < 6 → pgl T 1 r) : ImC T (fun σ => f_X3_readAtom 10000 rec (nI w) σ) (puA T r w) := by
  intro a σ L ha hT e hL hl
  have h240 := o.1
  have hs := skp_le ha
  have hg := skp_ge (T := T) (a := a)
  obtain ⟨σ1, s1, s2, s3, s4⟩ := sign_ok o (by omega) hT e
  have hL1 := cqC_fr hL s4
  show ∃ σ' z, f_X3_readAtom 10000 rec (nI w) σ = some (z, σ') ∧ _
  unfold f_X3_readAtom puA
  rw [s1, cl_some, dig_C o, cr_some]
  by_cases c1 : dgt T (skp T a) = true
  · have hd := dgt_lt c1
    rw [if_pos c1, if_pos c1, if_neg nn10]
    obtain ⟨σ2, q1, q2, q3, q4⟩ := num_C (m := 4) o (by decide) (by decide) c1 s3 s2
    have q1 : f_X9_number 10000 4 σ1 = _ := q1
    have hb := nmF_bd (T := T) 4 (skp T a) 0 (by omega)
    rw [q1, cl_some]
    by_cases c2 : (nmF T 4 (skp T a) 0).1 = true
    · obtain ⟨σ3, e1, e2, e3, e4, e5⟩ := emit_C (x := nI (nmF T 4 (skp T a) 0).2.2) q3 q2 (cqC_fr hL1 q4) (by omega)
      rw [if_pos c2, if_pos c2, if_neg (by rw [nJ_ne_neg (by omega)]; exact id), e1, cl_some, if_neg nn10]
      exact ⟨σ3, _, rfl, e2, e3, (pLc_p (s4.tr q4)).tr e4, Or.inl ⟨rfl, rfl, e5⟩⟩
    · rw [if_neg c2, if_neg c2, if_pos rfl]
      exact ⟨σ2, _, rfl, q3, q2, pLc_p (s4.tr q4), Or.inr ⟨rfl, rfl⟩⟩
  · rw [if_neg c1, if_neg c1, if_pos rfl]
    by_cases c91 : isT 91 T (skp T a) = true
    · have h91 := isT_lt c91
      rw [if_pos (show chr T (skp T a) = 91 from (chr_is (c := 91) o (by decide)).mpr h91), if_neg (lt91 c91)]
      by_cases c6 : w < 6
      · rw [if_pos (by rw [nJ_ltL (by omega) (by decide)]; exact c6), if_pos ⟨c91, c6⟩, pf_eq, s2, nJ_addL, nJ_addL]
        have U := Fr_pt (σ := σ1) (i := 1) (k := 2) (v := nI (skp T a + 1))
        obtain ⟨σ2, z, q1, q2, q3, q4, q5⟩ := hr c6 (skp T a + 1) (sg_up σ1 1 2 (nI (skp T a + 1))) L (by omega) (tqC_up s3) up_at (cqC_fr hL1 U) (by omega)
        have g := gr c6 (skp T a + 1) (by omega)
        rw [q1, cl_some]
        unfold puB
        rcases q5 with ⟨c, hz, hL2⟩ | ⟨c, hz⟩
        · rw [hz, if_neg nn10, if_pos c]
          have g2 := g.2 c
          obtain ⟨σ3, t1, t2, t3, t4⟩ := sign_ok o (by omega) q2 q3
          rw [t1, cl_some]
          unfold puE
          by_cases c93 : isT 93 T (skp T (r (skp T a + 1)).2.1) = true
          · rw [if_pos (show chr T (skp T (r (skp T a + 1)).2.1) = 93 from (chr_is (c := 93) o (by decide)).mpr (isT_lt c93)), if_pos c93, pf_eq, t2, nJ_addL]
            refine ⟨_, _, rfl, tqC_up t3, up_at, (((pLc_p (s4.tr U)).tr q4).tr (pLc_p t4)).tr (pLc_p Fr_pt), Or.inl ⟨rfl, rfl, ?_⟩⟩
            show cqC (L ++ ((r (skp T a + 1)).2.2 ++ []).map lwE) _
            rw [List.append_nil]
            exact cqC_fr (cqC_fr hL2 t4) Fr_pt
          · rw [if_neg (show ¬ chr T (skp T (r (skp T a + 1)).2.1) = 93 from fun h => c93 (by unfold isT; exact decide_eq_true ((chr_is (c := 93) o (by decide)).mp h))), if_neg c93]
            exact ⟨σ3, _, rfl, t3, t2, ((pLc_p (s4.tr U)).tr q4).tr (pLc_p t4), Or.inr ⟨rfl, rfl⟩⟩
        · rw [hz, if_pos rfl, if_neg (by rw [c]; decide)]
          exact ⟨σ2, _, rfl, q2, q3, (pLc_p (s4.tr U)).tr q4, Or.inr ⟨rfl, rfl⟩⟩
      · rw [if_neg (by rw [nJ_ltL (by omega) (by decide)]; exact c6), if_neg (fun h => c6 h.2)]
        exact ⟨σ1, _, rfl, s3, s2, pLc_p s4, Or.inr ⟨rfl, rfl⟩⟩
    · rw [if_neg (show ¬ chr T (skp T a) = 91 from fun h => c91 (by unfold isT; exact decide_eq_true ((chr_is (c := 91) o (by decide)).mp h)))]
      rw [if_neg (show ¬ (isT 91 T (skp T a) = true ∧ w < 6) from fun h => c91 h.1)]
      by_cases cE : skp T a < T.1
      · have hb := o.2 _ cE
        have hx := ltS_C ⟨T.2 (skp T a), by omega⟩
        have hx : f_J0_indexOf_0f7a4 10000 2 (((nI (T.2 (skp T a))).toUInt32 % 65536).toInt32) zS = some (if ltT T (skp T a) < 9 then nI (ltT T (skp T a)) else -1) := by unfold ltT; rw [if_pos cE]; exact hx
        rw [chr_y cE, if_pos (show (0 : Int32) ≤ nI (T.2 (skp T a)) by rw [nJ_Lle (by omega) (by decide)]; omega), ltS_C0, hx, cr_some]
        unfold f_X3_readAtom_B124
        by_cases c9 : ltT T (skp T a) < 9
        · rw [if_pos c9, if_pos c9, if_pos (show (0 : Int32) ≤ nI (ltT T (skp T a)) by rw [nJ_Lle (by omega) (by decide)]; omega), pf_eq, s2, nJ_addL]
          have U := Fr_pt (σ := σ1) (i := 1) (k := 2) (v := nI (skp T a + 1))
          obtain ⟨σ3, e1, e2, e3, e4, e5⟩ := emit_C (x := 10000 + nI (ltT T (skp T a))) (tqC_up s3) (up_at (σ := σ1) (v := nI (skp T a + 1))) (cqC_fr hL1 U) (by omega)
          rw [e1, cl_some]
          exact ⟨σ3, _, rfl, e2, e3, (pLc_p (s4.tr U)).tr e4, Or.inl ⟨rfl, rfl, e5⟩⟩
        · rw [if_neg c9, if_neg c9, if_neg (by decide)]
          exact ⟨σ1, _, rfl, s3, s2, pLc_p s4, Or.inr ⟨rfl, rfl⟩⟩
      · have n9 : ¬ ltT T (skp T a) < 9 := by unfold ltT; rw [if_neg cE]; decide
        rw [chr_n (by omega), if_neg (by decide), if_neg n9]
        unfold f_X3_readAtom_B124
        rw [if_neg (by decide)]
        exact ⟨σ1, _, rfl, s3, s2, pLc_p s4, Or.inr ⟨rfl, rfl⟩⟩
theorem tmC_lp {T : Nat × (Nat → Nat)} {rec : Int32 → sgS → Option (Int32 × sgS)} {p1 : Int32} {sub : Nat → PR} (o : okT T) (hs : ImC T (fun σ => f_X3_readAtom 10000 rec p1 σ) sub) (hg : pgl T 1 sub) : ∀ f a j M σ L, T.1 - a < f → f ≤ M → 2 * j ≤ a → a ≤ T.1 → tqC T σ → σ.1 1 2 = nI a → cqC L σ → L.length ≤ a → ∃ σ' z, sg_lp (fun x : sgS × Int32 => f_X3_readTerm_L12 10000 rec p1 x.2 x.1) M ((σ, nI j)) = some (.inl (z, σ')) ∧ tqC T σ' ∧ σ'.1 1 2 = nI (puL T opM sub f a).2.1 ∧ Fr pLc σ σ' ∧ (((puL T opM sub f a).1 = true ∧ z = 1 ∧ cqC (L ++ (puL T opM sub f a).2.2.map lwE) σ') ∨ ((puL T opM sub f a).1 = false ∧ z = 0)) := by
  have h240 := o.1
  intro f
  induction f with
  | zero => intro a j M σ L h; omega
  | succ f ih =>
    intro a j M σ L h1 hM hj ha hT e hL hl
    obtain ⟨M, rfl⟩ : ∃ m, M = m + 1 := ⟨M - 1, by omega⟩
    have hs0 := skp_le ha
    have hg0 := skp_ge (T := T) (a := a)
    have tn : ¬ (240 : Int32) ≤ nI j := by rw [nJ_Lle (by omega) (by decide)]; omega
    obtain ⟨σ1, s1, s2, s3, s4⟩ := sign_ok o (by omega) hT e
    have hL1 := cqC_fr hL s4
    unfold puL
    by_cases c : opT opM T (skp T a) = 0
    · rw [if_pos c]
      have n1 : ¬ chr T (skp T a) = 42 := fun h => by
        have h := (chr_is (c := 42) o (by decide)).mp h
        unfold opT at c
        rw [if_pos h.1, h.2] at c
        exact absurd c (by decide)
      have n2 : ¬ chr T (skp T a) = 47 := fun h => by
        have h := (chr_is (c := 47) o (by decide)).mp h
        unfold opT at c
        rw [if_pos h.1, h.2] at c
        exact absurd c (by decide)
      refine ⟨σ1, 1, ?_, s3, s2, pLc_p s4, Or.inl ⟨rfl, rfl, by show cqC (L ++ []) σ1; rw [List.append_nil]; exact hL1⟩⟩
      apply lp_ret
      show f_X3_readTerm_L12 10000 rec p1 (nI j) σ = _
      unfold f_X3_readTerm_L12
      rw [if_neg tn, s1, cl_some, if_neg n1, if_neg n2]
      rfl
    · rw [if_neg c]
      have hlt := opT_lt c
      have hop : T.2 (skp T a) = 42 ∨ T.2 (skp T a) = 47 := by
        rw [hlt.2] at c
        unfold opM at c
        by_cases h1 : T.2 (skp T a) = 42
        · exact Or.inl h1
        · rw [if_neg h1] at c
          by_cases h2 : T.2 (skp T a) = 47
          · exact Or.inr h2
          · rw [if_neg h2] at c; exact absurd rfl c
      have hcode : (20000 : Int32) + nI (T.2 (skp T a)) = lwE (nI (opT opM T (skp T a)), 0) := by
        rw [hlt.2]
        rcases hop with h | h <;> rw [h] <;> rfl
      have U := Fr_pt (σ := σ1) (i := 1) (k := 2) (v := nI (skp T a + 1))
      obtain ⟨σ2, z, q1, q2, q3, q4, q5⟩ := hs (skp T a + 1) (sg_up σ1 1 2 (nI (skp T a + 1))) L (by omega) (tqC_up s3) up_at (cqC_fr hL1 U) (by omega)
      have q1 : f_X3_readAtom 10000 rec p1 (sg_up σ1 1 2 (nI (skp T a + 1))) = some (z, σ2) := q1
      have g := hg (skp T a + 1) (by omega)
      have F2 : Fr pLc σ σ2 := (pLc_p (s4.tr U)).tr q4
      have top : f_X3_readTerm_L12 10000 rec p1 (nI j) σ = f_X3_readTerm_L12_B41 10000 rec p1 (nI j) (nI (T.2 (skp T a))) σ1 := by
        unfold f_X3_readTerm_L12
        rw [if_neg tn, s1, cl_some, chr_y hlt.1]
        rcases hop with h | h
        · rw [h, if_pos (show nI 42 = 42 from rfl)]
        · rw [h, if_neg (show ¬ nI 47 = 42 by decide), if_pos (show nI 47 = 47 from rfl)]
      unfold f_X3_readTerm_L12_B41 at top
      rw [pf_eq, s2, nJ_addL, q1, cl_some, hcode] at top
      rcases q5 with ⟨cc, hz, hL2⟩ | ⟨cc, hz⟩
      · have g2 := g.2 cc
        rw [if_pos cc]
        have hlen : (L ++ (sub (skp T a + 1)).2.2.map lwE).length + 1 ≤ (sub (skp T a + 1)).2.1 := by rw [List.length_append, List.length_map]; omega
        obtain ⟨σ3, e1, e2, e3, e4, e5⟩ := emit_C (x := lwE (nI (opT opM T (skp T a)), 0)) q2 q3 hL2 (by omega)
        rw [hz, if_neg nn10, e1, cl_some, if_neg nn10, nJ_addL] at top
        obtain ⟨σ', z', r1, r2, r3, r4, r5⟩ := ih (sub (skp T a + 1)).2.1 (j + 1) M σ3 _ (by omega) (by omega) (by omega) g.1 e2 e3 e5 (by rw [List.length_append, List.length_singleton]; omega)
        refine ⟨σ', z', ?_, r2, r3, (F2.tr e4).tr r4, ?_⟩
        · rw [lp_step (x' := (σ3, nI (j + 1))) top, r1]
        · rcases r5 with ⟨d, d2, d3⟩ | d
          · refine Or.inl ⟨d, d2, ?_⟩
            show cqC (L ++ ((sub (skp T a + 1)).2.2 ++ ((nI (opT opM T (skp T a)), 0) :: (puL T opM sub f (sub (skp T a + 1)).2.1).2.2)).map lwE) σ'
            rw [List.map_append, List.map_cons]
            rw [List.append_assoc, List.append_assoc] at d3
            exact d3
          · exact Or.inr d
      · rw [if_neg (show ¬ (sub (skp T a + 1)).1 = true by rw [cc]; decide)]
        rw [hz, if_pos rfl] at top
        refine ⟨σ2, 0, ?_, q2, q3, F2, Or.inr ⟨rfl, rfl⟩⟩
        rw [lp_ret top]
        rfl
theorem tmC {T : Nat × (Nat → Nat)} {rec : Int32 → sgS → Option (Int32 × sgS)} {p1 : Int32} {sub : Nat → PR} (o : okT T) (hs : ImC T (fun σ => f_X3_readAtom 10000 rec p1 σ) sub) (hg : pgl T 1 sub) : ImC T (fun σ => f_X3_readTerm 10000 rec p1 σ) (puX T opM sub) := by
  have h240 := o.1
  have hR : ImC T (fun s2 => sg_lb (sg_lp (fun x : sgS × Int32 => f_X3_readTerm_L12 10000 rec p1 x.2 x.1) 10000 ((s2, 0))) (fun r => some r) fun y10 => some (vp_nar .boolean 0, y10)) (puR T opM sub) := by
    intro a σ L ha hT e hL hl
    obtain ⟨σ', z, r1, r2, r3, r4, r5⟩ := tmC_lp o hs hg (T.1 + 1) a 0 10000 σ L (by omega) (by omega) (by omega) ha hT e hL hl
    refine ⟨σ', z, ?_, r2, r3, r4, r5⟩
    have r1 : sg_lp (fun x : sgS × Int32 => f_X3_readTerm_L12 10000 rec p1 x.2 x.1) 10000 ((σ, 0)) = _ := r1
    show (sg_lb (sg_lp (fun x : sgS × Int32 => f_X3_readTerm_L12 10000 rec p1 x.2 x.1) 10000 ((σ, 0))) (fun r => some r) fun y10 => some (vp_nar .boolean 0, y10)) = _
    rw [r1, lb_inl]
  exact ImC_B hs hR hg
theorem suC_lp {T : Nat × (Nat → Nat)} {rec : Int32 → sgS → Option (Int32 × sgS)} {p1 : Int32} {sub : Nat → PR} (o : okT T) (hs : ImC T (fun σ => f_X3_readTerm 10000 rec p1 σ) sub) (hg : pgl T 1 sub) : ∀ f a j M σ L, T.1 - a < f → f ≤ M → 2 * j ≤ a → a ≤ T.1 → tqC T σ → σ.1 1 2 = nI a → cqC L σ → L.length ≤ a → ∃ σ' z, sg_lp (fun x : sgS × Int32 => f_X3_readSum_b_L12 10000 rec p1 x.2 x.1) M ((σ, nI j)) = some (.inl (z, σ')) ∧ tqC T σ' ∧ σ'.1 1 2 = nI (puL T opS sub f a).2.1 ∧ Fr pLc σ σ' ∧ (((puL T opS sub f a).1 = true ∧ z = 1 ∧ cqC (L ++ (puL T opS sub f a).2.2.map lwE) σ') ∨ ((puL T opS sub f a).1 = false ∧ z = 0)) := by
  have h240 := o.1
  intro f
  induction f with
  | zero => intro a j M σ L h; omega
  | succ f ih =>
    intro a j M σ L h1 hM hj ha hT e hL hl
    obtain ⟨M, rfl⟩ : ∃ m, M = m + 1 := ⟨M - 1, by omega⟩
    have hs0 := skp_le ha
    have hg0 := skp_ge (T := T) (a := a)
    have tn : ¬ (240 : Int32) ≤ nI j := by rw [nJ_Lle (by omega) (by decide)]; omega
    obtain ⟨σ1, s1, s2, s3, s4⟩ := sign_ok o (by omega) hT e
    have hL1 := cqC_fr hL s4
    unfold puL
    by_cases c : opT opS T (skp T a) = 0
    · rw [if_pos c]
      have n1 : ¬ chr T (skp T a) = 43 := fun h => by
        have h := (chr_is (c := 43) o (by decide)).mp h
        unfold opT at c
        rw [if_pos h.1, h.2] at c
        exact absurd c (by decide)
      have n2 : ¬ chr T (skp T a) = 45 := fun h => by
        have h := (chr_is (c := 45) o (by decide)).mp h
        unfold opT at c
        rw [if_pos h.1, h.2] at c
        exact absurd c (by decide)
      refine ⟨σ1, 1, ?_, s3, s2, pLc_p s4, Or.inl ⟨rfl, rfl, by show cqC (L ++ []) σ1; rw [List.append_nil]; exact hL1⟩⟩
      apply lp_ret
      show f_X3_readSum_b_L12 10000 rec p1 (nI j) σ = _
      unfold f_X3_readSum_b_L12
      rw [if_neg tn, s1, cl_some, if_neg n1, if_neg n2]
      rfl
    · rw [if_neg c]
      have hlt := opT_lt c
      have hop : T.2 (skp T a) = 43 ∨ T.2 (skp T a) = 45 := by
        rw [hlt.2] at c
        unfold opS at c
        by_cases h1 : T.2 (skp T a) = 43
        · exact Or.inl h1
        · rw [if_neg h1] at c
          by_cases h2 : T.2 (skp T a) = 45
          · exact Or.inr h2
          · rw [if_neg h2] at c; exact absurd rfl c
      have hcode : (20000 : Int32) + nI (T.2 (skp T a)) = lwE (nI (opT opS T (skp T a)), 0) := by
        rw [hlt.2]
        rcases hop with h | h <;> rw [h] <;> rfl
      have U := Fr_pt (σ := σ1) (i := 1) (k := 2) (v := nI (skp T a + 1))
      obtain ⟨σ2, z, q1, q2, q3, q4, q5⟩ := hs (skp T a + 1) (sg_up σ1 1 2 (nI (skp T a + 1))) L (by omega) (tqC_up s3) up_at (cqC_fr hL1 U) (by omega)
      have q1 : f_X3_readTerm 10000 rec p1 (sg_up σ1 1 2 (nI (skp T a + 1))) = some (z, σ2) := q1
      have g := hg (skp T a + 1) (by omega)
      have F2 : Fr pLc σ σ2 := (pLc_p (s4.tr U)).tr q4
      have top : f_X3_readSum_b_L12 10000 rec p1 (nI j) σ = f_X3_readSum_b_L12_B41 10000 rec p1 (nI j) (nI (T.2 (skp T a))) σ1 := by
        unfold f_X3_readSum_b_L12
        rw [if_neg tn, s1, cl_some, chr_y hlt.1]
        rcases hop with h | h
        · rw [h, if_pos (show nI 43 = 43 from rfl)]
        · rw [h, if_neg (show ¬ nI 45 = 43 by decide), if_pos (show nI 45 = 45 from rfl)]
      unfold f_X3_readSum_b_L12_B41 at top
      rw [pf_eq, s2, nJ_addL, q1, cl_some, hcode] at top
      rcases q5 with ⟨cc, hz, hL2⟩ | ⟨cc, hz⟩
      · have g2 := g.2 cc
        rw [if_pos cc]
        have hlen : (L ++ (sub (skp T a + 1)).2.2.map lwE).length + 1 ≤ (sub (skp T a + 1)).2.1 := by rw [List.length_append, List.length_map]; omega
        obtain ⟨σ3, e1, e2, e3, e4, e5⟩ := emit_C (x := lwE (nI (opT opS T (skp T a)), 0)) q2 q3 hL2 (by omega)
        rw [hz, if_neg nn10, e1, cl_some, if_neg nn10, nJ_addL] at top
        obtain ⟨σ', z', r1, r2, r3, r4, r5⟩ := ih (sub (skp T a + 1)).2.1 (j + 1) M σ3 _ (by omega) (by omega) (by omega) g.1 e2 e3 e5 (by rw [List.length_append, List.length_singleton]; omega)
        refine ⟨σ', z', ?_, r2, r3, (F2.tr e4).tr r4, ?_⟩
        · rw [lp_step (x' := (σ3, nI (j + 1))) top, r1]
        · rcases r5 with ⟨d, d2, d3⟩ | d
          · refine Or.inl ⟨d, d2, ?_⟩
            show cqC (L ++ ((sub (skp T a + 1)).2.2 ++ ((nI (opT opS T (skp T a)), 0) :: (puL T opS sub f (sub (skp T a + 1)).2.1).2.2)).map lwE) σ'
            rw [List.map_append, List.map_cons]
            rw [List.append_assoc, List.append_assoc] at d3
            exact d3
          · exact Or.inr d
      · rw [if_neg (show ¬ (sub (skp T a + 1)).1 = true by rw [cc]; decide)]
        rw [hz, if_pos rfl] at top
        refine ⟨σ2, 0, ?_, q2, q3, F2, Or.inr ⟨rfl, rfl⟩⟩
        rw [lp_ret top]
        rfl
theorem suC {T : Nat × (Nat → Nat)} {rec : Int32 → sgS → Option (Int32 × sgS)} {p1 : Int32} {sub : Nat → PR} (o : okT T) (hs : ImC T (fun σ => f_X3_readTerm 10000 rec p1 σ) sub) (hg : pgl T 1 sub) : ImC T (fun σ => f_X3_readSum_b 10000 rec p1 σ) (puX T opS sub) := by
  have h240 := o.1
  have hR : ImC T (fun s2 => sg_lb (sg_lp (fun x : sgS × Int32 => f_X3_readSum_b_L12 10000 rec p1 x.2 x.1) 10000 ((s2, 0))) (fun r => some r) fun y10 => some (vp_nar .boolean 0, y10)) (puR T opS sub) := by
    intro a σ L ha hT e hL hl
    obtain ⟨σ', z, r1, r2, r3, r4, r5⟩ := suC_lp o hs hg (T.1 + 1) a 0 10000 σ L (by omega) (by omega) (by omega) ha hT e hL hl
    refine ⟨σ', z, ?_, r2, r3, r4, r5⟩
    have r1 : sg_lp (fun x : sgS × Int32 => f_X3_readSum_b_L12 10000 rec p1 x.2 x.1) 10000 ((σ, 0)) = _ := r1
    show (sg_lb (sg_lp (fun x : sgS × Int32 => f_X3_readSum_b_L12 10000 rec p1 x.2 x.1) 10000 ((σ, 0))) (fun r => some r) fun y10 => some (vp_nar .boolean 0, y10)) = _
    rw [r1, lb_inl]
  exact ImC_B hs hR hg
theorem smC {T : Nat × (Nat → Nat)} (o : okT T) : ∀ d w, w ≤ 6 → 6 < d + w → ImC T (fun σ => f_X3_readSum d 10000 (nI w) σ) (puS T d w) := by
  intro d
  induction d with
  | zero => intro w h1 h2; omega
  | succ d ih =>
    intro w h1 h2
    have gA : pgl T 1 (puA T (puS T d (w + 1)) w) := pgl_A (fun hw => pgl_S d (w + 1) (by omega))
    have hA := atC (rec := f_X3_readSum d 10000) (r := puS T d (w + 1)) o h1 (fun hw => ih (w + 1) (by omega) (by omega)) (fun hw => pgl_S d (w + 1) (by omega))
    exact suC o (tmC o hA gA) (pgl_X opM_ok gA)
