theorem lw_and63 (x : Int32) : 0 ≤ (x &&& 63).toInt ∧ (x &&& 63).toInt < 64 := by
  have h : ∀ v : BitVec 32, (v &&& 63#32).toNat < 64 := fun v => by rw [BitVec.toNat_and]; exact Nat.lt_of_le_of_lt Nat.and_le_right (by decide)
  have h2 := h x.toBitVec
  have h3 : (x &&& 63).toInt = ((x.toBitVec &&& 63#32).toNat : Int) := by
    show (x.toBitVec &&& 63#32).toInt = _
    rw [BitVec.toInt_eq_toNat_of_lt (by omega)]
  omega
section LAWC
variable {p : Program} {l : Launch} {e : Env} {s : State} {m : MethodId} {below : List Frame} {meth : Method} {c : Code} {H : Heap} {locs : List Loc} {cells slots : Nat} {Q : State → Prop}
variable {b L : Nat} {xs : Nat → Int32} {P Pm : sgP} {cL : ClassId} {σ τ : sgS} {f : Nat → Int64} {ls : Array Slot} {Rel : sgS → sgS → Prop}

theorem lw_switch (X : lw_X p s m c b L xs P Pm cL) (hl9 : l.stackTraces = false) (hL : L ≤ 3072) {n : Nat} (hi : n + 6 ≤ L) (O : lw_Ops Rel) (HR : Rel σ τ) (I : lw_I s P Pm cL σ τ f H locs) (hl : lv_has ls 7 (lw_lv s P Pm b (nI n))) (hcel : cells + 1 ≤ room_1.cells) (hslo : slots + 6 ≤ room_1.slots)
    (kk : lw_Wt Rel p l e s m b below meth c Q P Pm cL n (cells + 1) (slots + 6) 1643) {v : Int32} (hv0 : 0 ≤ v.toInt) : W p l e room_1 s m #[Value.ref b] below meth c H locs cells slots Q (F0 m 40 ls [.int v]) := by
  have hx := X.1.1.1
  have hb := X.1.1.2.1
  by_cases hv : 39 < v.toInt
  · refine lv_tableOut (tgt := 1643) hx hb dL_law_40 (Or.inr hv) (by decide) ?_
    exact W.widen (Nat.le_add_right _ _) (Nat.le_add_right _ _) (kk σ τ f H locs ls HR I hl)
  obtain ⟨q0, q1, q2, q3, q4, q5, q6, q7, q8, q9, q10, q11, q12, q13, q14, q15, q16, q17, q18, q19, q20, q21, q22, q23, q24, q25, q26, q27, q28, q29, q30, q31, q32, q33, q34, q35, q36, q37, q38, q39⟩ := O
  obtain ⟨w, hw⟩ : ∃ w : Nat, v.toInt = (w : Int) := ⟨v.toInt.toNat, by omega⟩
  have hw2 : w < 40 := by omega
  by_cases h0 : w = 0
  · subst h0
    refine lv_tableIn (off := 176) (tgt := 216) hx hb dL_law_40 (by omega) (by omega) (by rw [hw]; rfl) (by decide) ?_
    exact lw_k0 X hL hi (q0 (xs (n + 1)) (xs (n + 2)) (xs (n + 3)) (xs (n + 4)) (xs (n + 5))) HR I hl hcel hslo kk
  by_cases h1 : w = 1
  · subst h1
    refine lv_tableIn (off := 249) (tgt := 289) hx hb dL_law_40 (by omega) (by omega) (by rw [hw]; rfl) (by decide) ?_
    exact lw_k1 X hL hi (q1 (xs (n + 1))) HR I hl hcel hslo kk
  by_cases h2 : w = 2
  · subst h2
    refine lv_tableIn (off := 274) (tgt := 314) hx hb dL_law_40 (by omega) (by omega) (by rw [hw]; rfl) (by decide) ?_
    exact lw_k2 X hL hi (q2 (xs (n + 1))) HR I hl hcel hslo kk
  by_cases h3 : w = 3
  · subst h3
    refine lv_tableIn (off := 299) (tgt := 339) hx hb dL_law_40 (by omega) (by omega) (by rw [hw]; rfl) (by decide) ?_
    exact lw_k3 X hL hi (q3 (xs (n + 1))) HR I hl hcel hslo kk
  by_cases h4 : w = 4
  · subst h4
    refine lv_tableIn (off := 324) (tgt := 364) hx hb dL_law_40 (by omega) (by omega) (by rw [hw]; rfl) (by decide) ?_
    exact lw_k4 X hL hi (q4 (xs (n + 1))) HR I hl hcel hslo kk
  by_cases h5 : w = 5
  · subst h5
    refine lv_tableIn (off := 349) (tgt := 389) hx hb dL_law_40 (by omega) (by omega) (by rw [hw]; rfl) (by decide) ?_
    exact lw_k5 X hL hi (q5 (xs (n + 1)) (xs (n + 2))) HR I hl hcel hslo kk
  by_cases h6 : w = 6
  · subst h6
    refine lv_tableIn (off := 386) (tgt := 426) hx hb dL_law_40 (by omega) (by omega) (by rw [hw]; rfl) (by decide) ?_
    exact lw_k6 X hl9 hL hi (q6 (xs (n + 1)) (xs (n + 2))) HR I hl hcel hslo kk
  by_cases h7 : w = 7
  · subst h7
    refine lv_tableIn (off := 454) (tgt := 494) hx hb dL_law_40 (by omega) (by omega) (by rw [hw]; rfl) (by decide) ?_
    exact lw_k7 X hL hi (q7 (xs (n + 1)) (xs (n + 2))) HR I hl hcel hslo kk
  by_cases h8 : w = 8
  · subst h8
    refine lv_tableIn (off := 491) (tgt := 531) hx hb dL_law_40 (by omega) (by omega) (by rw [hw]; rfl) (by decide) ?_
    exact lw_k8 X hL hi (q8 (xs (n + 1))) HR I hl hcel hslo kk
  by_cases h9 : w = 9
  · subst h9
    refine lv_tableIn (off := 516) (tgt := 556) hx hb dL_law_40 (by omega) (by omega) (by rw [hw]; rfl) (by decide) ?_
    exact lw_k9 X hL hi (q9 (xs (n + 1)) (xs (n + 2))) HR I hl hcel hslo kk
  by_cases h10 : w = 10
  · subst h10
    refine lv_tableIn (off := 553) (tgt := 593) hx hb dL_law_40 (by omega) (by omega) (by rw [hw]; rfl) (by decide) ?_
    exact lw_k10 X hL hi (q10 (xs (n + 1))) HR I hl hcel hslo kk
  by_cases h11 : w = 11
  · subst h11
    refine lv_tableIn (off := 578) (tgt := 618) hx hb dL_law_40 (by omega) (by omega) (by rw [hw]; rfl) (by decide) ?_
    exact lw_k11 X hL hi (q11 (xs (n + 1)) (xs (n + 2))) HR I hl hcel hslo kk
  by_cases h12 : w = 12
  · subst h12
    refine lv_tableIn (off := 615) (tgt := 655) hx hb dL_law_40 (by omega) (by omega) (by rw [hw]; rfl) (by decide) ?_
    exact lw_k12 X hL hi (q12 (xs (n + 1)) (xs (n + 2))) HR I hl hcel hslo kk
  by_cases h13 : w = 13
  · subst h13
    refine lv_tableIn (off := 652) (tgt := 692) hx hb dL_law_40 (by omega) (by omega) (by rw [hw]; rfl) (by decide) ?_
    exact lw_k13 X hL hi (q13 (xs (n + 1))) HR I hl hcel hslo kk
  by_cases h14 : w = 14
  · subst h14
    refine lv_tableIn (off := 677) (tgt := 717) hx hb dL_law_40 (by omega) (by omega) (by rw [hw]; rfl) (by decide) ?_
    exact lw_k14 X hL hi (q14 (xs (n + 1))) HR I hl hcel hslo kk
  by_cases h15 : w = 15
  · subst h15
    refine lv_tableIn (off := 702) (tgt := 742) hx hb dL_law_40 (by omega) (by omega) (by rw [hw]; rfl) (by decide) ?_
    exact lw_k15 X hL hi (q15 (xs (n + 1))) HR I hl hcel hslo kk
  by_cases h16 : w = 16
  · subst h16
    refine lv_tableIn (off := 727) (tgt := 767) hx hb dL_law_40 (by omega) (by omega) (by rw [hw]; rfl) (by decide) ?_
    exact lw_k16 X hL hi (q16 (xs (n + 1)) (xs (n + 2)) (xs (n + 3))) HR I hl hcel hslo kk
  by_cases h17 : w = 17
  · subst h17
    refine lv_tableIn (off := 796) (tgt := 836) hx hb dL_law_40 (by omega) (by omega) (by rw [hw]; rfl) (by decide) ?_
    exact lw_k17 X hL hi (q17 (xs (n + 1))) HR I hl hcel hslo kk
  by_cases h18 : w = 18
  · subst h18
    refine lv_tableIn (off := 821) (tgt := 861) hx hb dL_law_40 (by omega) (by omega) (by rw [hw]; rfl) (by decide) ?_
    exact lw_k18 X hL hi q18 HR I hl hcel hslo kk
  by_cases h19 : w = 19
  · subst h19
    refine lv_tableIn (off := 834) (tgt := 874) hx hb dL_law_40 (by omega) (by omega) (by rw [hw]; rfl) (by decide) ?_
    exact lw_k19 X hL hi (q19 (xs (n + 1)) (xs (n + 2))) HR I hl hcel hslo kk
  by_cases h20 : w = 20
  · subst h20
    refine lv_tableIn (off := 871) (tgt := 911) hx hb dL_law_40 (by omega) (by omega) (by rw [hw]; rfl) (by decide) ?_
    exact lw_k20 X hL hi (q20 (xs (n + 1)) (xs (n + 2))) HR I hl hcel hslo kk
  by_cases h21 : w = 21
  · subst h21
    refine lv_tableIn (off := 908) (tgt := 948) hx hb dL_law_40 (by omega) (by omega) (by rw [hw]; rfl) (by decide) ?_
    exact lw_k21 X hL hi (q21 (xs (n + 1)) (xs (n + 2))) HR I hl hcel hslo kk
  by_cases h22 : w = 22
  · subst h22
    refine lv_tableIn (off := 945) (tgt := 985) hx hb dL_law_40 (by omega) (by omega) (by rw [hw]; rfl) (by decide) ?_
    exact lw_k22 X hL hi (q22 (xs (n + 1)) (xs (n + 2))) HR I hl hcel hslo kk
  by_cases h23 : w = 23
  · subst h23
    refine lv_tableIn (off := 982) (tgt := 1022) hx hb dL_law_40 (by omega) (by omega) (by rw [hw]; rfl) (by decide) ?_
    exact lw_k23 X hL hi (q23 (xs (n + 1))) HR I hl hcel hslo kk
  by_cases h24 : w = 24
  · subst h24
    refine lv_tableIn (off := 1007) (tgt := 1047) hx hb dL_law_40 (by omega) (by omega) (by rw [hw]; rfl) (by decide) ?_
    exact lw_k24 X hL hi (q24 (xs (n + 1)) (xs (n + 2))) HR I hl hcel hslo kk
  by_cases h25 : w = 25
  · subst h25
    refine lv_tableIn (off := 1044) (tgt := 1084) hx hb dL_law_40 (by omega) (by omega) (by rw [hw]; rfl) (by decide) ?_
    exact lw_k25 X hL hi (q25 (xs (n + 1)) (xs (n + 2))) HR I hl hcel hslo kk
  by_cases h26 : w = 26
  · subst h26
    refine lv_tableIn (off := 1081) (tgt := 1121) hx hb dL_law_40 (by omega) (by omega) (by rw [hw]; rfl) (by decide) ?_
    exact lw_k26 X hL hi (q26 (xs (n + 1)) (xs (n + 2)) (xs (n + 3)) (xs (n + 4))) HR I hl hcel hslo kk
  by_cases h27 : w = 27
  · subst h27
    refine lv_tableIn (off := 1158) (tgt := 1198) hx hb dL_law_40 (by omega) (by omega) (by rw [hw]; rfl) (by decide) ?_
    exact lw_k27 X hL hi (q27 (xs (n + 1))) HR I hl hcel hslo kk
  by_cases h28 : w = 28
  · subst h28
    refine lv_tableIn (off := 1183) (tgt := 1223) hx hb dL_law_40 (by omega) (by omega) (by rw [hw]; rfl) (by decide) ?_
    exact lw_k28 X hL hi (q28 (xs (n + 1))) HR I hl hcel hslo kk
  by_cases h29 : w = 29
  · subst h29
    refine lv_tableIn (off := 1208) (tgt := 1248) hx hb dL_law_40 (by omega) (by omega) (by rw [hw]; rfl) (by decide) ?_
    exact lw_k29 X hL hi (q29 (xs (n + 1)) (xs (n + 2)) (xs (n + 3))) HR I hl hcel hslo kk
  by_cases h30 : w = 30
  · subst h30
    refine lv_tableIn (off := 1257) (tgt := 1297) hx hb dL_law_40 (by omega) (by omega) (by rw [hw]; rfl) (by decide) ?_
    exact lw_k30 X hL hi (q30 (xs (n + 1)) (xs (n + 2))) HR I hl hcel hslo kk
  by_cases h31 : w = 31
  · subst h31
    refine lv_tableIn (off := 1294) (tgt := 1334) hx hb dL_law_40 (by omega) (by omega) (by rw [hw]; rfl) (by decide) ?_
    exact lw_k31 X hL hi (q31 (xs (n + 1)) (xs (n + 2)) (xs (n + 3)) (xs (n + 4)) (xs (n + 5))) HR I hl hcel hslo kk
  by_cases h32 : w = 32
  · subst h32
    refine lv_tableIn (off := 1367) (tgt := 1407) hx hb dL_law_40 (by omega) (by omega) (by rw [hw]; rfl) (by decide) ?_
    exact lw_k32 X hL hi (q32 (xs (n + 1)) (xs (n + 2)) (xs (n + 3))) HR I hl hcel hslo kk
  by_cases h33 : w = 33
  · subst h33
    refine lv_tableIn (off := 1416) (tgt := 1456) hx hb dL_law_40 (by omega) (by omega) (by rw [hw]; rfl) (by decide) ?_
    exact lw_k33 X hL hi (q33 (xs (n + 1)) (xs (n + 2)) (xs (n + 3))) HR I hl hcel hslo kk
  by_cases h34 : w = 34
  · subst h34
    refine lv_tableIn (off := 1465) (tgt := 1505) hx hb dL_law_40 (by omega) (by omega) (by rw [hw]; rfl) (by decide) ?_
    exact lw_k34 X hL hi (q34 (xs (n + 1))) HR I hl hcel hslo kk
  by_cases h35 : w = 35
  · subst h35
    refine lv_tableIn (off := 1490) (tgt := 1530) hx hb dL_law_40 (by omega) (by omega) (by rw [hw]; rfl) (by decide) ?_
    exact lw_k35 X hL hi (q35 (xs (n + 1)) (xs (n + 2))) HR I hl hcel hslo kk
  by_cases h36 : w = 36
  · subst h36
    refine lv_tableIn (off := 1527) (tgt := 1567) hx hb dL_law_40 (by omega) (by omega) (by rw [hw]; rfl) (by decide) ?_
    exact lw_k36 X hL hi (q36 (xs (n + 1))) HR I hl hcel hslo kk
  by_cases h37 : w = 37
  · subst h37
    refine lv_tableIn (off := 1552) (tgt := 1592) hx hb dL_law_40 (by omega) (by omega) (by rw [hw]; rfl) (by decide) ?_
    exact lw_k37 X hL hi q37 HR I hl hcel hslo kk
  by_cases h38 : w = 38
  · subst h38
    refine lv_tableIn (off := 1565) (tgt := 1605) hx hb dL_law_40 (by omega) (by omega) (by rw [hw]; rfl) (by decide) ?_
    exact lw_k38 X hL hi q38 HR I hl hcel hslo kk
  by_cases h39 : w = 39
  · subst h39
    refine lv_tableIn (off := 1578) (tgt := 1618) hx hb dL_law_40 (by omega) (by omega) (by rw [hw]; rfl) (by decide) ?_
    exact lw_k39 X hL hi (q39 (xs (n + 1))) HR I hl hcel hslo kk
  omega
end LAWC
