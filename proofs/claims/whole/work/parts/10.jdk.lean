/-! String.checkIndex, by hand: its third argument is a static of which only 'a reference or null' is known -/
def f_J0_checkIndex_df160 (N : Nat) (p0 : Int32) (p1 : Int32) (σ : sgS) : Option Int32 :=
  if p0 < 0 then none else if p0 < p1 then some 0 else none
section CHK
variable {p : Program} {l : Launch} {e : Env} {R : Room} {s : State} {m : MethodId} {args : Array Value} {below : List Frame} {meth : Method} {c : Code} {Q : State → Prop} {P : sgP} {A : Nat → Prop} {sh : Nat → sgE} {n : Nat}
theorem b_J3_checkIndex {p0 p1 : Int32} {v : Value} {σ : sgS} (X : sg_C P A 1 p R s m args c cJ3_checkIndex_8e157 3 RJ3) {H : Heap} {locs : List Loc} (I : sg_I P sh n A s.heap σ H locs) {ls : Array Slot} (hl : lv_has ls 3 [(0, .int p0), (1, .int p1), (2, v)]) (h0 : ¬ p0 < 0) (h1 : p0 < p1) (hk : sg_Ri p l e R s m args below meth c Q P sh n A cJ3_checkIndex_8e157 (some .int) (p0, σ)) : W p l e R s m args below meth c H locs 0 0 Q (F0 m 0 ls []) := by
  have hx := X.1.1
  have hb := X.1.2.1
  refine lv_iload_n hx hb dJ3_checkIndex_8e157_0 rfl (lv_at hl 0 rfl) ?_
  refine lv_if_lt (tgt := 9) hx hb dJ3_checkIndex_8e157_1 (by decide) (fun c => absurd c h0) (fun c => ?_)
  refine lv_iload_n hx hb dJ3_checkIndex_8e157_4 rfl (lv_at hl 0 rfl) ?_
  refine lv_iload_n hx hb dJ3_checkIndex_8e157_5 rfl (lv_at hl 1 rfl) ?_
  refine lv_icmp_lt (tgt := 16) hx hb dJ3_checkIndex_8e157_6 (by decide) (fun c => ?_) (fun c => absurd h1 c)
  refine lv_iload_n hx hb dJ3_checkIndex_8e157_16 rfl (lv_at hl 0 rfl) ?_
  exact hk _ _ _ _ _ I ⟨_, rfl, rfl⟩ dJ3_checkIndex_8e157_17
theorem c_J3_checkIndex {p0 p1 : Int32} {v : Value} {σ : sgS} (hv : v = .null ∨ ∃ t, v = .ref t) (h0 : ¬ p0 < 0) (h1 : p0 < p1) : sg_Mi P sh n l yJ3_checkIndex_8e157 cJ3_checkIndex_8e157 3 (some .int) 1 [.int p0, .int p1, v] σ (p0, σ) := by
  rcases hv with rfl | ⟨t, rfl⟩
  · refine sg_mki (plainFor_of_name (by decide +kernel)) (Nat.le_of_ble_eq_true rfl) ?_
    intro p e R s m args below meth c Q A ls H locs X I hl hk
    exact b_J3_checkIndex X I hl h0 h1 hk
  · refine sg_mki (plainFor_of_name (by decide +kernel)) (Nat.le_of_ble_eq_true rfl) ?_
    intro p e R s m args below meth c Q A ls H locs X I hl hk
    exact b_J3_checkIndex X I hl h0 h1 hk
end CHK
theorem c_J0_checkIndex_df160 {l : Launch} {P : sgP} {sh : Nat → sgE} {n : Nat} {N : Nat} {p0 : Int32} {p1 : Int32} {σ : sgS} {q : Int32} (h : f_J0_checkIndex_df160 N p0 p1 σ = some q) : sg_Mv P sh n l yJ0_checkIndex_df160 cJ0_checkIndex_df160 2 none 2 [.int p0, .int p1] σ (q, σ) := by
  have h0 : ¬ p0 < 0 := fun c => by rw [f_J0_checkIndex_df160, if_pos c] at h; cases h
  have h1 : p0 < p1 := Decidable.byContradiction fun c => by rw [f_J0_checkIndex_df160, if_neg h0, if_neg c] at h; cases h
  rw [f_J0_checkIndex_df160, if_neg h0, if_pos h1] at h
  obtain rfl := Option.some.inj h
  refine sg_mkv (plainFor_of_name (by decide +kernel)) (Nat.le_of_ble_eq_true rfl) ?_
  intro p e R s m args below meth c Q A ls H locs X I hl hk
  have hx := X.1.1
  have hb := X.1.2.1
  refine lv_iload_n hx hb dJ0_checkIndex_df160_0 rfl (lv_at hl 0 rfl) ?_
  refine lv_iload_n hx hb dJ0_checkIndex_df160_1 rfl (lv_at hl 1 rfl) ?_
  refine sg_gfo X I qw_316 dJ0_checkIndex_df160_2 (fun v hv => ?_)
  refine sg_callSr (lev := 1) (st := ()) (As := [.int p0, .int p1, v]) (r := some p0) (K := fun v => if v = p0 then some () else none) X I mk_J0_1059 (by decide) (fun q e => (Option.some.inj e) ▸ c_J3_checkIndex hv h0 h1) (by simp [sg_cr]) hl.1 rfl rfl (Nat.le_of_ble_eq_true rfl) dJ0_checkIndex_df160_5 (fun v H locs h I => ?_)
  refine lv_pop hx hb dJ0_checkIndex_df160_8 rfl ?_
  exact hk _ _ _ _ I dJ0_checkIndex_df160_9
section MTL
variable {p : Program} {l : Launch} {e : Env} {R : Room} {s : State} {m : MethodId} {args : Array Value} {below : List Frame} {meth : Method} {c : Code} {H : Heap} {locs : List Loc} {Q : State → Prop}
variable {cc : ByteArray} {pc nL kk0 : Nat} {own : String} {ls : Array Slot} {rest : List Value} {P : sgP} {A : Nat → Prop}
theorem sg_mminl (X : sg_C P A kk0 p R s m args c cc nL own) (hls : ls.size = nL) (hk : 0 < kk0) {index : Nat} (h1 : Cond.methodLink own index Lib.MathLoose.min_long.x ∈ wsL_law) (h2 : Cond.static Lib.MathLoose.min_long.x ∈ wsL_law) (h3 : Cond.initialized "java/lang/Math" ∈ wsL_law) (h4 : Cond.code Lib.MathLoose.min_long.x Lib.MathLoose.min_long.code 4 (some .long) ∈ wsL_law) (hrest : (rest.map fun v => v.category).sum ≤ 8) {x y : Int64} (hdg : decode cc pc = .ok (.invokestatic index, 3))
    (kk : W p l e R s m args below meth c H locs 0 0 Q (F0 m (pc + 3) ls (.long (if y < x then y else x) :: rest))) : W p l e R s m args below meth c H locs 0 0 Q (F0 m pc ls (.long y :: .long x :: rest)) := by
  obtain ⟨⟨hx, hb, hml, hown, hts⟩, -, -, -, -, hr1, hr2⟩ := X
  exact va_mmin_long hx hb (hml.trans hls.symm) hown (hts _ h1) (hts _ h2) (hts _ h3) (hts _ h4) (Nat.le_trans hk hr1) (by omega) (Nat.zero_le _) (Nat.zero_le _) hdg kk
theorem sg_mmaxl (X : sg_C P A kk0 p R s m args c cc nL own) (hls : ls.size = nL) (hk : 0 < kk0) {index : Nat} (h1 : Cond.methodLink own index Lib.MathLoose.max_long.x ∈ wsL_law) (h2 : Cond.static Lib.MathLoose.max_long.x ∈ wsL_law) (h3 : Cond.initialized "java/lang/Math" ∈ wsL_law) (h4 : Cond.code Lib.MathLoose.max_long.x Lib.MathLoose.max_long.code 4 (some .long) ∈ wsL_law) (hrest : (rest.map fun v => v.category).sum ≤ 8) {x y : Int64} (hdg : decode cc pc = .ok (.invokestatic index, 3))
    (kk : W p l e R s m args below meth c H locs 0 0 Q (F0 m (pc + 3) ls (.long (if y < x then x else y) :: rest))) : W p l e R s m args below meth c H locs 0 0 Q (F0 m pc ls (.long y :: .long x :: rest)) := by
  obtain ⟨⟨hx, hb, hml, hown, hts⟩, -, -, -, -, hr1, hr2⟩ := X
  exact va_mmax_long hx hb (hml.trans hls.symm) hown (hts _ h1) (hts _ h2) (hts _ h3) (hts _ h4) (Nat.le_trans hk hr1) (by omega) (Nat.zero_le _) (Nat.zero_le _) hdg kk
end MTL
