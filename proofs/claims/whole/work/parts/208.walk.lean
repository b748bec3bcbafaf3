def f_X12_here (N : Nat) (σ : sgS) : Option (Int32) :=
  if (σ.1 0 2) ≤ (σ.1 0 3) then
  (some ((-1)))
else
  (sg_ld σ 1 240 (σ.1 0 3) fun v1 =>
  some v1)
set_option maxHeartbeats 4000000 in
set_option maxRecDepth 100000 in
theorem b_X12_here {p : Program} {l : Launch} {e : Env} {R : Room} {s : State} {m : MethodId} {args : Array Value} {below : List Frame} {meth : Method} {c : Code} {Q : State → Prop} {P : sgP} {A : Nat → Prop} {N : Nat} {σ : sgS} (X : sg_C P A 1 p R s m args c cX12_here 1 RX12) {H : Heap} {locs : List Loc} (I : sg_I P shM 35 A s.heap σ H locs) {ls : Array Slot} (hl : lv_has ls 1 [(0, .ref (sgA P 0))]) {st : Int32} (h : f_X12_here N σ = some st) (hk : sg_Ri p l e R s m args below meth c Q P shM 35 A cX12_here (some .int) (st, σ)) : W p l e R s m args below meth c H locs 0 0 Q (F0 m 0 ls []) := by
  unfold f_X12_here at h
  have hx := X.1.1
  have hb := X.1.2.1
  have hown := X.1.2.2.2.1
  have hts := X.1.2.2.2.2
  refine lv_aload_n hx hb dX12_here_0 rfl (lv_at hl 0 rfl) ?_
  refine sg_geti X I fk_X12_130 (by decide) shM_0 rfl dX12_here_1 ?_
  refine lv_aload_n hx hb dX12_here_4 rfl (lv_at hl 0 rfl) ?_
  refine sg_geti X I fk_X12_127 (by decide) shM_0 rfl dX12_here_5 ?_
  refine lv_icmp_ge (tgt := 23) hx hb dX12_here_8 (by decide) (fun z => ?_) (fun z => ?_)
  · have h := sg_ift h z
    refine lv_iconst (v := -1) hx hb dX12_here_23 (by decide) ?_
    obtain rfl := Option.some.inj h
    exact hk _ _ _ _ _ I ⟨_, rfl, rfl⟩ dX12_here_24
  · have h := sg_iff h z
    refine lv_aload_n hx hb dX12_here_11 rfl (lv_at hl 0 rfl) ?_
    refine sg_getr X I fk_X12_9 (j := 1) (by decide) shM_0 rfl dX12_here_12 ?_
    refine lv_aload_n hx hb dX12_here_15 rfl (lv_at hl 0 rfl) ?_
    refine sg_geti X I fk_X12_130 (by decide) shM_0 rfl dX12_here_16 ?_
    refine sg_iald X I (by decide) shM_1 h dX12_here_19 (fun v1 h => ?_)
    refine lv_goto (tgt := 24) hx hb dX12_here_20 (by decide) ?_
    obtain rfl := Option.some.inj h
    exact hk _ _ _ _ _ I ⟨_, rfl, rfl⟩ dX12_here_24
set_option maxHeartbeats 4000000 in
set_option maxRecDepth 100000 in
theorem c_X12_here {l : Launch} {P : sgP} {N : Nat} {σ : sgS} {q : Int32} (h : f_X12_here N σ = some q) : sg_Mi P shM 35 l yX12_here cX12_here 1 (some .int) 1 [.ref (sgA P 0)] σ (q, σ) := by
  refine sg_mki (plainFor_of_name (by decide +kernel)) (Nat.le_of_ble_eq_true rfl) ?_
  intro p e R s m args below meth c Q A ls H locs X I hl hk
  exact b_X12_here X I hl h hk
def f_X12_look_L0 (N : Nat) (σ : sgS) : Option ((Int32 × sgS) ⊕ ((sgS) ⊕ (sgS))) :=
  sg_cr (f_X12_here N σ) fun v1 =>
if v1 = 32 then
  (sg_pf σ 0 3 ((σ.1 0 3) + 1) fun s2 =>
  some (.inr (.inl s2)))
else
  (some (.inr (.inr σ)))
set_option maxHeartbeats 4000000 in
set_option maxRecDepth 100000 in
theorem b_X12_look_L0 {p : Program} {l : Launch} {e : Env} {R : Room} {s : State} {m : MethodId} {args : Array Value} {below : List Frame} {meth : Method} {c : Code} {Q : State → Prop} {P : sgP} {A : Nat → Prop} {N : Nat} {σ : sgS} (X : sg_C P A 2 p R s m args c cX12_look 1 RX12) {H : Heap} {locs : List Loc} (I : sg_I P shM 35 A s.heap σ H locs) {ls : Array Slot} (hl : lv_has ls 1 [(0, .ref (sgA P 0))]) {st : (Int32 × sgS) ⊕ ((sgS) ⊕ (sgS))} (h : f_X12_look_L0 N σ = some st) (hk : sg_k3 (sg_Ri p l e R s m args below meth c Q P shM 35 A cX12_look (some .int)) (fun x => sg_Wt p l e R s m args below meth c Q P shM 35 A 1 0 x [(0, .ref (sgA P 0))]) (fun y => sg_Wt p l e R s m args below meth c Q P shM 35 A 1 22 y [(0, .ref (sgA P 0))]) st) : W p l e R s m args below meth c H locs 0 0 Q (F0 m 0 ls []) := by
  unfold f_X12_look_L0 at h
  have hx := X.1.1
  have hb := X.1.2.1
  have hown := X.1.2.2.2.1
  have hts := X.1.2.2.2.2
  refine lv_aload_n hx hb dX12_look_0 rfl (lv_at hl 0 rfl) ?_
  refine sg_callVr (As := []) X I mk_X12_133 (by decide) (by decide) shM_0 rfl (fun q9 e9 => c_X12_here e9) h hl.1 rfl rfl (Nat.le_of_ble_eq_true rfl) dX12_look_1 (fun v1 H locs h I => ?_)
  refine lv_bipush (v := 32) hx hb dX12_look_4 (by decide) ?_
  refine lv_icmp_ne (tgt := 22) hx hb dX12_look_6 (by decide) (fun z => ?_) (fun z => ?_)
  · have h := sg_iff h z
    obtain rfl := Option.some.inj h
    exact sg_go hk I (lv_sub hl [0] rfl)
  · have h := sg_ift h z
    refine lv_aload_n hx hb dX12_look_9 rfl (lv_at hl 0 rfl) ?_
    refine lv_dup hx hb dX12_look_10 rfl ?_
    refine sg_geti X I fk_X12_130 (by decide) shM_0 rfl dX12_look_11 ?_
    refine lv_iconst (v := 1) hx hb dX12_look_14 (by decide) ?_
    refine lv_iadd hx hb dX12_look_15 ?_
    refine sg_puti X I fk_X12_130 wk_12_3 rfl rfl (by decide) shM_0 rfl h dX12_look_16 (fun s2 H locs h I => ?_)
    refine lv_goto (tgt := 0) hx hb dX12_look_19 (by decide) ?_
    obtain rfl := Option.some.inj h
    exact sg_go hk I (lv_sub hl [0] rfl)
def f_X12_look (N : Nat) (σ : sgS) : Option (Int32 × sgS) :=
  sg_lb (sg_lp (fun x => f_X12_look_L0 N x) N σ) (fun r => some r) fun y3 =>
sg_cr (f_X12_here N y3) fun v4 =>
some (v4, y3)
set_option maxHeartbeats 4000000 in
set_option maxRecDepth 100000 in
theorem b_X12_look {p : Program} {l : Launch} {e : Env} {R : Room} {s : State} {m : MethodId} {args : Array Value} {below : List Frame} {meth : Method} {c : Code} {Q : State → Prop} {P : sgP} {A : Nat → Prop} {N : Nat} {σ : sgS} (X : sg_C P A 2 p R s m args c cX12_look 1 RX12) {H : Heap} {locs : List Loc} (I : sg_I P shM 35 A s.heap σ H locs) {ls : Array Slot} (hl : lv_has ls 1 [(0, .ref (sgA P 0))]) {st : Int32 × sgS} (h : f_X12_look N σ = some st) (hk : sg_Ri p l e R s m args below meth c Q P shM 35 A cX12_look (some .int) st) : W p l e R s m args below meth c H locs 0 0 Q (F0 m 0 ls []) := by
  unfold f_X12_look at h
  have hx := X.1.1
  have hb := X.1.2.1
  have hown := X.1.2.2.2.1
  have hts := X.1.2.2.2.2
  obtain ⟨res, e9, k9⟩ := sg_lb_some h
  refine sg_go (sg_lp_W (a := (sg_Ri p l e R s m args below meth c Q P shM 35 A cX12_look (some .int))) (w := (fun x => sg_Wt p l e R s m args below meth c Q P shM 35 A 1 0 x [(0, .ref (sgA P 0))])) (c := (fun y => sg_Wt p l e R s m args below meth c Q P shM 35 A 1 22 y [(0, .ref (sgA P 0))])) (fun x st hb9 hk9 => ?_) N σ res e9 (sg_k2_mono k9 (fun r h => ?_) (fun y3 h => ?_))) I (lv_sub hl [0] rfl)
  · intro H locs ls I hl
    exact b_X12_look_L0 X I hl hb9 hk9
  · obtain rfl := Option.some.inj h
    exact hk
  · intro H locs ls I hl
    refine lv_aload_n hx hb dX12_look_22 rfl (lv_at hl 0 rfl) ?_
    refine sg_callVr (As := []) X I mk_X12_133 (by decide) (by decide) shM_0 rfl (fun q9 e9 => c_X12_here e9) h hl.1 rfl rfl (Nat.le_of_ble_eq_true rfl) dX12_look_23 (fun v4 H locs h I => ?_)
    obtain rfl := Option.some.inj h
    exact hk _ _ _ _ _ I ⟨_, rfl, rfl⟩ dX12_look_26
set_option maxHeartbeats 4000000 in
set_option maxRecDepth 100000 in
theorem c_X12_look {l : Launch} {P : sgP} {N : Nat} {σ : sgS} {q : Int32 × sgS} (h : f_X12_look N σ = some q) : sg_Mi P shM 35 l yX12_look cX12_look 1 (some .int) 2 [.ref (sgA P 0)] σ q := by
  refine sg_mki (plainFor_of_name (by decide +kernel)) (Nat.le_of_ble_eq_true rfl) ?_
  intro p e R s m args below meth c Q A ls H locs X I hl hk
  exact b_X12_look X I hl h hk
def f_X12_bad (N : Nat) (σ : sgS) : Option (Int32 × sgS) :=
  if (σ.1 0 4) = ((-1)) then
  (sg_pf σ 0 4 (σ.1 0 3) fun s2 =>
  some (0, s2))
else
  (sg_pf σ 0 4 (σ.1 0 4) fun s1 =>
  some (0, s1))
set_option maxHeartbeats 4000000 in
set_option maxRecDepth 100000 in
theorem b_X12_bad {p : Program} {l : Launch} {e : Env} {R : Room} {s : State} {m : MethodId} {args : Array Value} {below : List Frame} {meth : Method} {c : Code} {Q : State → Prop} {P : sgP} {A : Nat → Prop} {N : Nat} {σ : sgS} (X : sg_C P A 1 p R s m args c cX12_bad 1 RX12) {H : Heap} {locs : List Loc} (I : sg_I P shM 35 A s.heap σ H locs) {ls : Array Slot} (hl : lv_has ls 1 [(0, .ref (sgA P 0))]) {st : Int32 × sgS} (h : f_X12_bad N σ = some st) (hk : sg_Rv p l e R s m args below meth c Q P shM 35 A cX12_bad st) : W p l e R s m args below meth c H locs 0 0 Q (F0 m 0 ls []) := by
  unfold f_X12_bad at h
  have hx := X.1.1
  have hb := X.1.2.1
  have hown := X.1.2.2.2.1
  have hts := X.1.2.2.2.2
  refine lv_aload_n hx hb dX12_bad_0 rfl (lv_at hl 0 rfl) ?_
  refine lv_aload_n hx hb dX12_bad_1 rfl (lv_at hl 0 rfl) ?_
  refine sg_geti X I fk_X12_137 (by decide) shM_0 rfl dX12_bad_2 ?_
  refine lv_iconst (v := -1) hx hb dX12_bad_5 (by decide) ?_
  refine lv_icmp_ne (tgt := 16) hx hb dX12_bad_6 (by decide) (fun z => ?_) (fun z => ?_)
  · have h := sg_iff h z
    refine lv_aload_n hx hb dX12_bad_16 rfl (lv_at hl 0 rfl) ?_
    refine sg_geti X I fk_X12_137 (by decide) shM_0 rfl dX12_bad_17 ?_
    refine sg_puti X I fk_X12_137 wk_12_4 rfl rfl (by decide) shM_0 rfl h dX12_bad_20 (fun s1 H locs h I => ?_)
    obtain rfl := Option.some.inj h
    exact hk _ _ _ _ I dX12_bad_23
  · have h := sg_ift h z
    refine lv_aload_n hx hb dX12_bad_9 rfl (lv_at hl 0 rfl) ?_
    refine sg_geti X I fk_X12_130 (by decide) shM_0 rfl dX12_bad_10 ?_
    refine lv_goto (tgt := 20) hx hb dX12_bad_13 (by decide) ?_
    refine sg_puti X I fk_X12_137 wk_12_4 rfl rfl (by decide) shM_0 rfl h dX12_bad_20 (fun s2 H locs h I => ?_)
    obtain rfl := Option.some.inj h
    exact hk _ _ _ _ I dX12_bad_23
set_option maxHeartbeats 4000000 in
set_option maxRecDepth 100000 in
theorem c_X12_bad {l : Launch} {P : sgP} {N : Nat} {σ : sgS} {q : Int32 × sgS} (h : f_X12_bad N σ = some q) : sg_Mv P shM 35 l yX12_bad cX12_bad 1 none 1 [.ref (sgA P 0)] σ q := by
  refine sg_mkv (plainFor_of_name (by decide +kernel)) (Nat.le_of_ble_eq_true rfl) ?_
  intro p e R s m args below meth c Q A ls H locs X I hl hk
  exact b_X12_bad X I hl h hk
def f_X12_isDigit (N : Nat) (p0 : Int32) (σ : sgS) : Option (Int32) :=
  if p0 < 48 then
  (some (vp_nar .boolean 0))
else
  (if 57 < p0 then
    (some (vp_nar .boolean 0))
  else
    (some (vp_nar .boolean 1)))
set_option maxHeartbeats 4000000 in
set_option maxRecDepth 100000 in
theorem b_X12_isDigit {p : Program} {l : Launch} {e : Env} {R : Room} {s : State} {m : MethodId} {args : Array Value} {below : List Frame} {meth : Method} {c : Code} {Q : State → Prop} {P : sgP} {A : Nat → Prop} {N : Nat} {p0 : Int32} {σ : sgS} (X : sg_C P A 1 p R s m args c cX12_isDigit 1 RX12) {H : Heap} {locs : List Loc} (I : sg_I P shM 35 A s.heap σ H locs) {ls : Array Slot} (hl : lv_has ls 1 [(0, .int p0)]) {st : Int32} (h : f_X12_isDigit N p0 σ = some st) (hk : sg_Ri p l e R s m args below meth c Q P shM 35 A cX12_isDigit (some .boolean) (st, σ)) : W p l e R s m args below meth c H locs 0 0 Q (F0 m 0 ls []) := by
  unfold f_X12_isDigit at h
  have hx := X.1.1
  have hb := X.1.2.1
  have hown := X.1.2.2.2.1
  have hts := X.1.2.2.2.2
  refine lv_iload_n hx hb dX12_isDigit_0 rfl (lv_at hl 0 rfl) ?_
  refine lv_bipush (v := 48) hx hb dX12_isDigit_1 (by decide) ?_
  refine lv_icmp_lt (tgt := 16) hx hb dX12_isDigit_3 (by decide) (fun z => ?_) (fun z => ?_)
  · have h := sg_ift h z
    refine lv_iconst (v := 0) hx hb dX12_isDigit_16 (by decide) ?_
    obtain rfl := Option.some.inj h
    exact hk _ _ _ _ _ I ⟨_, rfl, rfl⟩ dX12_isDigit_17
  · have h := sg_iff h z
    refine lv_iload_n hx hb dX12_isDigit_6 rfl (lv_at hl 0 rfl) ?_
    refine lv_bipush (v := 57) hx hb dX12_isDigit_7 (by decide) ?_
    refine lv_icmp_gt (tgt := 16) hx hb dX12_isDigit_9 (by decide) (fun z => ?_) (fun z => ?_)
    · have h := sg_ift h z
      refine lv_iconst (v := 0) hx hb dX12_isDigit_16 (by decide) ?_
      obtain rfl := Option.some.inj h
      exact hk _ _ _ _ _ I ⟨_, rfl, rfl⟩ dX12_isDigit_17
    · have h := sg_iff h z
      refine lv_iconst (v := 1) hx hb dX12_isDigit_12 (by decide) ?_
      refine lv_goto (tgt := 17) hx hb dX12_isDigit_13 (by decide) ?_
      obtain rfl := Option.some.inj h
      exact hk _ _ _ _ _ I ⟨_, rfl, rfl⟩ dX12_isDigit_17
set_option maxHeartbeats 4000000 in
set_option maxRecDepth 100000 in
theorem c_X12_isDigit {l : Launch} {P : sgP} {N : Nat} {p0 : Int32} {σ : sgS} {q : Int32} (h : f_X12_isDigit N p0 σ = some q) : sg_Mi P shM 35 l yX12_isDigit cX12_isDigit 1 (some .boolean) 1 [.int p0] σ (q, σ) := by
  refine sg_mki (plainFor_of_name (by decide +kernel)) (Nat.le_of_ble_eq_true rfl) ?_
  intro p e R s m args below meth c Q A ls H locs X I hl hk
  exact b_X12_isDigit X I hl h hk
def f_X12_put (N : Nat) (p1 : Int32) (p2 : Int32) (σ : sgS) : Option (Int32 × sgS) :=
  sg_ld σ 4 5 (σ.1 0 14) fun v1 =>
sg_st σ 2 2600 ((520 * (σ.1 0 14)) + v1) p1 fun s2 =>
sg_ld s2 4 5 (s2.1 0 14) fun v3 =>
sg_st s2 3 2600 ((520 * (s2.1 0 14)) + v3) p2 fun s4 =>
sg_ld s4 4 5 (s4.1 0 14) fun v5 =>
sg_st s4 4 5 (s4.1 0 14) (v5 + 1) fun s6 =>
some (0, s6)
set_option maxHeartbeats 4000000 in
set_option maxRecDepth 100000 in
theorem b_X12_put {p : Program} {l : Launch} {e : Env} {R : Room} {s : State} {m : MethodId} {args : Array Value} {below : List Frame} {meth : Method} {c : Code} {Q : State → Prop} {P : sgP} {A : Nat → Prop} {N : Nat} {p1 : Int32} {p2 : Int32} {σ : sgS} (X : sg_C P A 1 p R s m args c cX12_put 3 RX12) {H : Heap} {locs : List Loc} (I : sg_I P shM 35 A s.heap σ H locs) {ls : Array Slot} (hl : lv_has ls 3 [(0, .ref (sgA P 0)), (1, .int p1), (2, .int p2)]) {st : Int32 × sgS} (h : f_X12_put N p1 p2 σ = some st) (hk : sg_Rv p l e R s m args below meth c Q P shM 35 A cX12_put st) : W p l e R s m args below meth c H locs 0 0 Q (F0 m 0 ls []) := by
  unfold f_X12_put at h
  have hx := X.1.1
  have hb := X.1.2.1
  have hown := X.1.2.2.2.1
  have hts := X.1.2.2.2.2
  refine lv_aload_n hx hb dX12_put_0 rfl (lv_at hl 0 rfl) ?_
  refine sg_getr X I fk_X12_13 (j := 2) (by decide) shM_0 rfl dX12_put_1 ?_
  refine lv_sipush (v := 520) hx hb dX12_put_4 (by decide) ?_
  refine lv_aload_n hx hb dX12_put_7 rfl (lv_at hl 0 rfl) ?_
  refine sg_geti X I fk_X12_140 (by decide) shM_0 rfl dX12_put_8 ?_
  refine lv_imul hx hb dX12_put_11 ?_
  refine lv_aload_n hx hb dX12_put_12 rfl (lv_at hl 0 rfl) ?_
  refine sg_getr X I fk_X12_19 (j := 4) (by decide) shM_0 rfl dX12_put_13 ?_
  refine lv_aload_n hx hb dX12_put_16 rfl (lv_at hl 0 rfl) ?_
  refine sg_geti X I fk_X12_140 (by decide) shM_0 rfl dX12_put_17 ?_
  refine sg_iald X I (by decide) shM_4 h dX12_put_20 (fun v1 h => ?_)
  refine lv_iadd hx hb dX12_put_21 ?_
  refine lv_iload_n hx hb dX12_put_22 rfl (lv_at hl 1 rfl) ?_
  refine sg_iast X I (by decide) shM_2 h dX12_put_23 (fun s2 H locs h I => ?_)
  refine lv_aload_n hx hb dX12_put_24 rfl (lv_at hl 0 rfl) ?_
  refine sg_getr X I fk_X12_16 (j := 3) (by decide) shM_0 rfl dX12_put_25 ?_
  refine lv_sipush (v := 520) hx hb dX12_put_28 (by decide) ?_
  refine lv_aload_n hx hb dX12_put_31 rfl (lv_at hl 0 rfl) ?_
  refine sg_geti X I fk_X12_140 (by decide) shM_0 rfl dX12_put_32 ?_
  refine lv_imul hx hb dX12_put_35 ?_
  refine lv_aload_n hx hb dX12_put_36 rfl (lv_at hl 0 rfl) ?_
  refine sg_getr X I fk_X12_19 (j := 4) (by decide) shM_0 rfl dX12_put_37 ?_
  refine lv_aload_n hx hb dX12_put_40 rfl (lv_at hl 0 rfl) ?_
  refine sg_geti X I fk_X12_140 (by decide) shM_0 rfl dX12_put_41 ?_
  refine sg_iald X I (by decide) shM_4 h dX12_put_44 (fun v3 h => ?_)
  refine lv_iadd hx hb dX12_put_45 ?_
  refine lv_iload_n hx hb dX12_put_46 rfl (lv_at hl 2 rfl) ?_
  refine sg_iast X I (by decide) shM_3 h dX12_put_47 (fun s4 H locs h I => ?_)
  refine lv_aload_n hx hb dX12_put_48 rfl (lv_at hl 0 rfl) ?_
  refine sg_getr X I fk_X12_19 (j := 4) (by decide) shM_0 rfl dX12_put_49 ?_
  refine lv_aload_n hx hb dX12_put_52 rfl (lv_at hl 0 rfl) ?_
  refine sg_geti X I fk_X12_140 (by decide) shM_0 rfl dX12_put_53 ?_
  refine lv_dup2_11 hx hb dX12_put_56 rfl rfl ?_
  refine sg_iald X I (by decide) shM_4 h dX12_put_57 (fun v5 h => ?_)
  refine lv_iconst (v := 1) hx hb dX12_put_58 (by decide) ?_
  refine lv_iadd hx hb dX12_put_59 ?_
  refine sg_iast X I (by decide) shM_4 h dX12_put_60 (fun s6 H locs h I => ?_)
  obtain rfl := Option.some.inj h
  exact hk _ _ _ _ I dX12_put_61
set_option maxHeartbeats 4000000 in
set_option maxRecDepth 100000 in
theorem c_X12_put {l : Launch} {P : sgP} {N : Nat} {p1 : Int32} {p2 : Int32} {σ : sgS} {q : Int32 × sgS} (h : f_X12_put N p1 p2 σ = some q) : sg_Mv P shM 35 l yX12_put cX12_put 3 none 1 [.ref (sgA P 0), .int p1, .int p2] σ q := by
  refine sg_mkv (plainFor_of_name (by decide +kernel)) (Nat.le_of_ble_eq_true rfl) ?_
  intro p e R s m args below meth c Q A ls H locs X I hl hk
  exact b_X12_put X I hl h hk
def f_X12_letterOf (N : Nat) (p0 : Int32) (σ : sgS) : Option (Int32) :=
  if p0 = 108 then
  (some 0)
else
  (if p0 = 100 then
    (some 1)
  else
    (if p0 = 110 then
      (some 2)
    else
      (if p0 = 99 then
        (some 3)
      else
        (if p0 = 114 then
          (some 4)
        else
          (if p0 = 121 then
            (some 5)
          else
            (some ((-1))))))))
set_option maxHeartbeats 4000000 in
set_option maxRecDepth 100000 in
theorem b_X12_letterOf {p : Program} {l : Launch} {e : Env} {R : Room} {s : State} {m : MethodId} {args : Array Value} {below : List Frame} {meth : Method} {c : Code} {Q : State → Prop} {P : sgP} {A : Nat → Prop} {N : Nat} {p0 : Int32} {σ : sgS} (X : sg_C P A 1 p R s m args c cX12_letterOf 1 RX12) {H : Heap} {locs : List Loc} (I : sg_I P shM 35 A s.heap σ H locs) {ls : Array Slot} (hl : lv_has ls 1 [(0, .int p0)]) {st : Int32} (h : f_X12_letterOf N p0 σ = some st) (hk : sg_Ri p l e R s m args below meth c Q P shM 35 A cX12_letterOf (some .int) (st, σ)) : W p l e R s m args below meth c H locs 0 0 Q (F0 m 0 ls []) := by
  unfold f_X12_letterOf at h
  have hx := X.1.1
  have hb := X.1.2.1
  have hown := X.1.2.2.2.1
  have hts := X.1.2.2.2.2
  refine lv_iload_n hx hb dX12_letterOf_0 rfl (lv_at hl 0 rfl) ?_
  refine lv_bipush (v := 108) hx hb dX12_letterOf_1 (by decide) ?_
  refine lv_icmp_ne (tgt := 10) hx hb dX12_letterOf_3 (by decide) (fun z => ?_) (fun z => ?_)
  · have h := sg_iff h z
    refine lv_iload_n hx hb dX12_letterOf_10 rfl (lv_at hl 0 rfl) ?_
    refine lv_bipush (v := 100) hx hb dX12_letterOf_11 (by decide) ?_
    refine lv_icmp_ne (tgt := 20) hx hb dX12_letterOf_13 (by decide) (fun z => ?_) (fun z => ?_)
    · have h := sg_iff h z
      refine lv_iload_n hx hb dX12_letterOf_20 rfl (lv_at hl 0 rfl) ?_
      refine lv_bipush (v := 110) hx hb dX12_letterOf_21 (by decide) ?_
      refine lv_icmp_ne (tgt := 30) hx hb dX12_letterOf_23 (by decide) (fun z => ?_) (fun z => ?_)
      · have h := sg_iff h z
        refine lv_iload_n hx hb dX12_letterOf_30 rfl (lv_at hl 0 rfl) ?_
        refine lv_bipush (v := 99) hx hb dX12_letterOf_31 (by decide) ?_
        refine lv_icmp_ne (tgt := 40) hx hb dX12_letterOf_33 (by decide) (fun z => ?_) (fun z => ?_)
        · have h := sg_iff h z
          refine lv_iload_n hx hb dX12_letterOf_40 rfl (lv_at hl 0 rfl) ?_
          refine lv_bipush (v := 114) hx hb dX12_letterOf_41 (by decide) ?_
          refine lv_icmp_ne (tgt := 50) hx hb dX12_letterOf_43 (by decide) (fun z => ?_) (fun z => ?_)
          · have h := sg_iff h z
            refine lv_iload_n hx hb dX12_letterOf_50 rfl (lv_at hl 0 rfl) ?_
            refine lv_bipush (v := 121) hx hb dX12_letterOf_51 (by decide) ?_
            refine lv_icmp_ne (tgt := 60) hx hb dX12_letterOf_53 (by decide) (fun z => ?_) (fun z => ?_)
            · have h := sg_iff h z
              refine lv_iconst (v := -1) hx hb dX12_letterOf_60 (by decide) ?_
              obtain rfl := Option.some.inj h
              exact hk _ _ _ _ _ I ⟨_, rfl, rfl⟩ dX12_letterOf_61
            · have h := sg_ift h z
              refine lv_iconst (v := 5) hx hb dX12_letterOf_56 (by decide) ?_
              refine lv_goto (tgt := 61) hx hb dX12_letterOf_57 (by decide) ?_
              obtain rfl := Option.some.inj h
              exact hk _ _ _ _ _ I ⟨_, rfl, rfl⟩ dX12_letterOf_61
          · have h := sg_ift h z
            refine lv_iconst (v := 4) hx hb dX12_letterOf_46 (by decide) ?_
            refine lv_goto (tgt := 61) hx hb dX12_letterOf_47 (by decide) ?_
            obtain rfl := Option.some.inj h
            exact hk _ _ _ _ _ I ⟨_, rfl, rfl⟩ dX12_letterOf_61
        · have h := sg_ift h z
          refine lv_iconst (v := 3) hx hb dX12_letterOf_36 (by decide) ?_
          refine lv_goto (tgt := 61) hx hb dX12_letterOf_37 (by decide) ?_
          obtain rfl := Option.some.inj h
          exact hk _ _ _ _ _ I ⟨_, rfl, rfl⟩ dX12_letterOf_61
      · have h := sg_ift h z
        refine lv_iconst (v := 2) hx hb dX12_letterOf_26 (by decide) ?_
        refine lv_goto (tgt := 61) hx hb dX12_letterOf_27 (by decide) ?_
        obtain rfl := Option.some.inj h
        exact hk _ _ _ _ _ I ⟨_, rfl, rfl⟩ dX12_letterOf_61
    · have h := sg_ift h z
      refine lv_iconst (v := 1) hx hb dX12_letterOf_16 (by decide) ?_
      refine lv_goto (tgt := 61) hx hb dX12_letterOf_17 (by decide) ?_
      obtain rfl := Option.some.inj h
      exact hk _ _ _ _ _ I ⟨_, rfl, rfl⟩ dX12_letterOf_61
  · have h := sg_ift h z
    refine lv_iconst (v := 0) hx hb dX12_letterOf_6 (by decide) ?_
    refine lv_goto (tgt := 61) hx hb dX12_letterOf_7 (by decide) ?_
    obtain rfl := Option.some.inj h
    exact hk _ _ _ _ _ I ⟨_, rfl, rfl⟩ dX12_letterOf_61
set_option maxHeartbeats 4000000 in
set_option maxRecDepth 100000 in
theorem c_X12_letterOf {l : Launch} {P : sgP} {N : Nat} {p0 : Int32} {σ : sgS} {q : Int32} (h : f_X12_letterOf N p0 σ = some q) : sg_Mi P shM 35 l yX12_letterOf cX12_letterOf 1 (some .int) 1 [.int p0] σ (q, σ) := by
  refine sg_mki (plainFor_of_name (by decide +kernel)) (Nat.le_of_ble_eq_true rfl) ?_
  intro p e R s m args below meth c Q A ls H locs X I hl hk
  exact b_X12_letterOf X I hl h hk
def f_X12_opens_B13 (N : Nat) (σ : sgS) : Option (Int32 × sgS) :=
  sg_pf σ 0 5 ((σ.1 0 5) + 1) fun s1 =>
sg_pf s1 0 3 ((s1.1 0 3) + 1) fun s2 =>
some (0, s2)
set_option maxHeartbeats 4000000 in
set_option maxRecDepth 100000 in
theorem b_X12_opens_B13 {p : Program} {l : Launch} {e : Env} {R : Room} {s : State} {m : MethodId} {args : Array Value} {below : List Frame} {meth : Method} {c : Code} {Q : State → Prop} {P : sgP} {A : Nat → Prop} {N : Nat} {σ : sgS} (X : sg_C P A 2 p R s m args c cX12_opens 1 RX12) {H : Heap} {locs : List Loc} (I : sg_I P shM 35 A s.heap σ H locs) {ls : Array Slot} (hl : lv_has ls 1 [(0, .ref (sgA P 0))]) {st : Int32 × sgS} (h : f_X12_opens_B13 N σ = some st) (hk : sg_Rv p l e R s m args below meth c Q P shM 35 A cX12_opens st) : W p l e R s m args below meth c H locs 0 0 Q (F0 m 13 ls []) := by
  unfold f_X12_opens_B13 at h
  have hx := X.1.1
  have hb := X.1.2.1
  have hown := X.1.2.2.2.1
  have hts := X.1.2.2.2.2
  refine lv_aload_n hx hb dX12_opens_13 rfl (lv_at hl 0 rfl) ?_
  refine lv_dup hx hb dX12_opens_14 rfl ?_
  refine sg_geti X I fk_X12_143 (by decide) shM_0 rfl dX12_opens_15 ?_
  refine lv_iconst (v := 1) hx hb dX12_opens_18 (by decide) ?_
  refine lv_iadd hx hb dX12_opens_19 ?_
  refine sg_puti X I fk_X12_143 wk_12_5 rfl rfl (by decide) shM_0 rfl h dX12_opens_20 (fun s1 H locs h I => ?_)
  refine lv_aload_n hx hb dX12_opens_23 rfl (lv_at hl 0 rfl) ?_
  refine lv_dup hx hb dX12_opens_24 rfl ?_
  refine sg_geti X I fk_X12_130 (by decide) shM_0 rfl dX12_opens_25 ?_
  refine lv_iconst (v := 1) hx hb dX12_opens_28 (by decide) ?_
  refine lv_iadd hx hb dX12_opens_29 ?_
  refine sg_puti X I fk_X12_130 wk_12_3 rfl rfl (by decide) shM_0 rfl h dX12_opens_30 (fun s2 H locs h I => ?_)
  obtain rfl := Option.some.inj h
  exact hk _ _ _ _ I dX12_opens_33
def f_X12_opens (N : Nat) (σ : sgS) : Option (Int32 × sgS) :=
  if (σ.1 0 5) = 6 then
  (sg_cl (f_X12_bad N σ) fun v3 s4 =>
  f_X12_opens_B13 N s4)
else
  (f_X12_opens_B13 N σ)
set_option maxHeartbeats 4000000 in
set_option maxRecDepth 100000 in
theorem b_X12_opens {p : Program} {l : Launch} {e : Env} {R : Room} {s : State} {m : MethodId} {args : Array Value} {below : List Frame} {meth : Method} {c : Code} {Q : State → Prop} {P : sgP} {A : Nat → Prop} {N : Nat} {σ : sgS} (X : sg_C P A 2 p R s m args c cX12_opens 1 RX12) {H : Heap} {locs : List Loc} (I : sg_I P shM 35 A s.heap σ H locs) {ls : Array Slot} (hl : lv_has ls 1 [(0, .ref (sgA P 0))]) {st : Int32 × sgS} (h : f_X12_opens N σ = some st) (hk : sg_Rv p l e R s m args below meth c Q P shM 35 A cX12_opens st) : W p l e R s m args below meth c H locs 0 0 Q (F0 m 0 ls []) := by
  unfold f_X12_opens at h
  have hx := X.1.1
  have hb := X.1.2.1
  have hown := X.1.2.2.2.1
  have hts := X.1.2.2.2.2
  refine lv_aload_n hx hb dX12_opens_0 rfl (lv_at hl 0 rfl) ?_
  refine sg_geti X I fk_X12_143 (by decide) shM_0 rfl dX12_opens_1 ?_
  refine lv_bipush (v := 6) hx hb dX12_opens_4 (by decide) ?_
  refine lv_icmp_ne (tgt := 13) hx hb dX12_opens_6 (by decide) (fun z => ?_) (fun z => ?_)
  · have h := sg_iff h z
    exact b_X12_opens_B13 X I (lv_sub hl [0] rfl) h hk
  · have h := sg_ift h z
    refine lv_aload_n hx hb dX12_opens_9 rfl (lv_at hl 0 rfl) ?_
    refine sg_callVv (As := []) X I mk_X12_146 (by decide) (by decide) shM_0 rfl (fun q9 e9 => c_X12_bad e9) h hl.1 rfl rfl (Nat.le_of_ble_eq_true rfl) dX12_opens_10 (fun v3 s4 H locs h I => ?_)
    exact b_X12_opens_B13 X I (lv_sub hl [0] rfl) h hk
set_option maxHeartbeats 4000000 in
set_option maxRecDepth 100000 in
theorem c_X12_opens {l : Launch} {P : sgP} {N : Nat} {σ : sgS} {q : Int32 × sgS} (h : f_X12_opens N σ = some q) : sg_Mv P shM 35 l yX12_opens cX12_opens 1 none 2 [.ref (sgA P 0)] σ q := by
  refine sg_mkv (plainFor_of_name (by decide +kernel)) (Nat.le_of_ble_eq_true rfl) ?_
  intro p e R s m args below meth c Q A ls H locs X I hl hk
  exact b_X12_opens X I hl h hk
def f_X12_closes_B20 (N : Nat) (p1 : Int32) (σ : sgS) : Option (Int32 × sgS) :=
  sg_pf σ 0 3 ((σ.1 0 3) + 1) fun s1 =>
sg_pf s1 0 5 ((s1.1 0 5) - 1) fun s2 =>
some (0, s2)
set_option maxHeartbeats 4000000 in
set_option maxRecDepth 100000 in
theorem b_X12_closes_B20 {p : Program} {l : Launch} {e : Env} {R : Room} {s : State} {m : MethodId} {args : Array Value} {below : List Frame} {meth : Method} {c : Code} {Q : State → Prop} {P : sgP} {A : Nat → Prop} {N : Nat} {p1 : Int32} {σ : sgS} (X : sg_C P A 3 p R s m args c cX12_closes 2 RX12) {H : Heap} {locs : List Loc} (I : sg_I P shM 35 A s.heap σ H locs) {ls : Array Slot} (hl : lv_has ls 2 [(0, .ref (sgA P 0))]) {st : Int32 × sgS} (h : f_X12_closes_B20 N p1 σ = some st) (hk : sg_Rv p l e R s m args below meth c Q P shM 35 A cX12_closes st) : W p l e R s m args below meth c H locs 0 0 Q (F0 m 20 ls []) := by
  unfold f_X12_closes_B20 at h
  have hx := X.1.1
  have hb := X.1.2.1
  have hown := X.1.2.2.2.1
  have hts := X.1.2.2.2.2
  refine lv_aload_n hx hb dX12_closes_20 rfl (lv_at hl 0 rfl) ?_
  refine lv_dup hx hb dX12_closes_21 rfl ?_
  refine sg_geti X I fk_X12_130 (by decide) shM_0 rfl dX12_closes_22 ?_
  refine lv_iconst (v := 1) hx hb dX12_closes_25 (by decide) ?_
  refine lv_iadd hx hb dX12_closes_26 ?_
  refine sg_puti X I fk_X12_130 wk_12_3 rfl rfl (by decide) shM_0 rfl h dX12_closes_27 (fun s1 H locs h I => ?_)
  refine lv_aload_n hx hb dX12_closes_30 rfl (lv_at hl 0 rfl) ?_
  refine lv_dup hx hb dX12_closes_31 rfl ?_
  refine sg_geti X I fk_X12_143 (by decide) shM_0 rfl dX12_closes_32 ?_
  refine lv_iconst (v := 1) hx hb dX12_closes_35 (by decide) ?_
  refine lv_isub hx hb dX12_closes_36 ?_
  refine sg_puti X I fk_X12_143 wk_12_5 rfl rfl (by decide) shM_0 rfl h dX12_closes_37 (fun s2 H locs h I => ?_)
  obtain rfl := Option.some.inj h
  exact hk _ _ _ _ I dX12_closes_40
def f_X12_closes (N : Nat) (p1 : Int32) (σ : sgS) : Option (Int32 × sgS) :=
  if (σ.1 0 4) = ((-1)) then
  (sg_cl (f_X12_look N σ) fun v3 s4 =>
  if v3 = p1 then
    (f_X12_closes_B20 N p1 s4)
  else
    (sg_cl (f_X12_bad N s4) fun v5 s6 =>
    f_X12_closes_B20 N p1 s6))
else
  (f_X12_closes_B20 N p1 σ)
set_option maxHeartbeats 4000000 in
set_option maxRecDepth 100000 in
theorem b_X12_closes {p : Program} {l : Launch} {e : Env} {R : Room} {s : State} {m : MethodId} {args : Array Value} {below : List Frame} {meth : Method} {c : Code} {Q : State → Prop} {P : sgP} {A : Nat → Prop} {N : Nat} {p1 : Int32} {σ : sgS} (X : sg_C P A 3 p R s m args c cX12_closes 2 RX12) {H : Heap} {locs : List Loc} (I : sg_I P shM 35 A s.heap σ H locs) {ls : Array Slot} (hl : lv_has ls 2 [(0, .ref (sgA P 0)), (1, .int p1)]) {st : Int32 × sgS} (h : f_X12_closes N p1 σ = some st) (hk : sg_Rv p l e R s m args below meth c Q P shM 35 A cX12_closes st) : W p l e R s m args below meth c H locs 0 0 Q (F0 m 0 ls []) := by
  unfold f_X12_closes at h
  have hx := X.1.1
  have hb := X.1.2.1
  have hown := X.1.2.2.2.1
  have hts := X.1.2.2.2.2
  refine lv_aload_n hx hb dX12_closes_0 rfl (lv_at hl 0 rfl) ?_
  refine sg_geti X I fk_X12_137 (by decide) shM_0 rfl dX12_closes_1 ?_
  refine lv_iconst (v := -1) hx hb dX12_closes_4 (by decide) ?_
  refine lv_icmp_ne (tgt := 20) hx hb dX12_closes_5 (by decide) (fun z => ?_) (fun z => ?_)
  · have h := sg_iff h z
    exact b_X12_closes_B20 X I (lv_sub hl [0] rfl) h hk
  · have h := sg_ift h z
    refine lv_aload_n hx hb dX12_closes_8 rfl (lv_at hl 0 rfl) ?_
    refine sg_callV (As := []) X I mk_X12_149 (by decide) (by decide) shM_0 rfl (fun q9 e9 => c_X12_look e9) h hl.1 rfl rfl (Nat.le_of_ble_eq_true rfl) dX12_closes_9 (fun v3 s4 H locs h I => ?_)
    refine lv_iload_n hx hb dX12_closes_12 rfl (lv_at hl 1 rfl) ?_
    refine lv_icmp_eq (tgt := 20) hx hb dX12_closes_13 (by decide) (fun z => ?_) (fun z => ?_)
    · have h := sg_ift h z
      exact b_X12_closes_B20 X I (lv_sub hl [0] rfl) h hk
    · have h := sg_iff h z
      refine lv_aload_n hx hb dX12_closes_16 rfl (lv_at hl 0 rfl) ?_
      refine sg_callVv (As := []) X I mk_X12_146 (by decide) (by decide) shM_0 rfl (fun q9 e9 => c_X12_bad e9) h hl.1 rfl rfl (Nat.le_of_ble_eq_true rfl) dX12_closes_17 (fun v5 s6 H locs h I => ?_)
      exact b_X12_closes_B20 X I (lv_sub hl [0] rfl) h hk
set_option maxHeartbeats 4000000 in
set_option maxRecDepth 100000 in
theorem c_X12_closes {l : Launch} {P : sgP} {N : Nat} {p1 : Int32} {σ : sgS} {q : Int32 × sgS} (h : f_X12_closes N p1 σ = some q) : sg_Mv P shM 35 l yX12_closes cX12_closes 2 none 3 [.ref (sgA P 0), .int p1] σ q := by
  refine sg_mkv (plainFor_of_name (by decide +kernel)) (Nat.le_of_ble_eq_true rfl) ?_
  intro p e R s m args below meth c Q A ls H locs X I hl hk
  exact b_X12_closes X I hl h hk
def f_X12_plainNumber_L4 (N : Nat) (x1 : Int32) (x2 : Int32) (σ : sgS) : Option ((Int32 × sgS) ⊕ ((sgS × Int32 × Int32) ⊕ (sgS × Int32))) :=
  if 4 ≤ x2 then
  (some (.inr (.inr (σ, x1))))
else
  (sg_cr (f_X12_here N σ) fun v1 =>
  sg_cr (f_X12_isDigit N v1 σ) fun v2 =>
  if v2 = 0 then
    (some (.inr (.inr (σ, x1))))
  else
    (sg_cr (f_X12_here N σ) fun v3 =>
    sg_pf σ 0 3 ((σ.1 0 3) + 1) fun s4 =>
    some (.inr (.inl (s4, ((10 * x1) + v3) - 48, x2 + 1)))))
set_option maxHeartbeats 4000000 in
set_option maxRecDepth 100000 in
theorem b_X12_plainNumber_L4 {p : Program} {l : Launch} {e : Env} {R : Room} {s : State} {m : MethodId} {args : Array Value} {below : List Frame} {meth : Method} {c : Code} {Q : State → Prop} {P : sgP} {A : Nat → Prop} {N : Nat} {x1 : Int32} {x2 : Int32} {σ : sgS} (X : sg_C P A 2 p R s m args c cX12_plainNumber 3 RX12) {H : Heap} {locs : List Loc} (I : sg_I P shM 35 A s.heap σ H locs) {ls : Array Slot} (hl : lv_has ls 3 [(0, .ref (sgA P 0)), (1, .int x1), (2, .int x2)]) {st : (Int32 × sgS) ⊕ ((sgS × Int32 × Int32) ⊕ (sgS × Int32))} (h : f_X12_plainNumber_L4 N x1 x2 σ = some st) (hk : sg_k3 (sg_Ri p l e R s m args below meth c Q P shM 35 A cX12_plainNumber (some .int)) (fun x => sg_Wt p l e R s m args below meth c Q P shM 35 A 3 4 x.1 [(0, .ref (sgA P 0)), (1, .int x.2.1), (2, .int x.2.2)]) (fun y => sg_Wt p l e R s m args below meth c Q P shM 35 A 3 48 y.1 [(0, .ref (sgA P 0)), (1, .int y.2)]) st) : W p l e R s m args below meth c H locs 0 0 Q (F0 m 4 ls []) := by
  unfold f_X12_plainNumber_L4 at h
  have hx := X.1.1
  have hb := X.1.2.1
  have hown := X.1.2.2.2.1
  have hts := X.1.2.2.2.2
  refine lv_iload_n hx hb dX12_plainNumber_4 rfl (lv_at hl 2 rfl) ?_
  refine lv_iconst (v := 4) hx hb dX12_plainNumber_5 (by decide) ?_
  refine lv_icmp_ge (tgt := 48) hx hb dX12_plainNumber_6 (by decide) (fun z => ?_) (fun z => ?_)
  · have h := sg_ift h z
    obtain rfl := Option.some.inj h
    exact sg_go hk I (lv_sub hl [0, 1] rfl)
  · have h := sg_iff h z
    refine lv_aload_n hx hb dX12_plainNumber_9 rfl (lv_at hl 0 rfl) ?_
    refine sg_callVr (As := []) X I mk_X12_133 (by decide) (by decide) shM_0 rfl (fun q9 e9 => c_X12_here e9) h hl.1 rfl rfl (Nat.le_of_ble_eq_true rfl) dX12_plainNumber_10 (fun v1 H locs h I => ?_)
    refine sg_callSr (As := [.int v1]) X I mk_X12_152 (by decide) (fun q9 e9 => c_X12_isDigit e9) h hl.1 rfl rfl (Nat.le_of_ble_eq_true rfl) dX12_plainNumber_13 (fun v2 H locs h I => ?_)
    refine lv_if_eq (tgt := 48) hx hb dX12_plainNumber_16 (by decide) (fun z => ?_) (fun z => ?_)
    · have h := sg_ift h z
      obtain rfl := Option.some.inj h
      exact sg_go hk I (lv_sub hl [0, 1] rfl)
    · have h := sg_iff h z
      refine lv_bipush (v := 10) hx hb dX12_plainNumber_19 (by decide) ?_
      refine lv_iload_n hx hb dX12_plainNumber_21 rfl (lv_at hl 1 rfl) ?_
      refine lv_imul hx hb dX12_plainNumber_22 ?_
      refine lv_aload_n hx hb dX12_plainNumber_23 rfl (lv_at hl 0 rfl) ?_
      refine sg_callVr (As := []) X I mk_X12_133 (by decide) (by decide) shM_0 rfl (fun q9 e9 => c_X12_here e9) h hl.1 rfl rfl (Nat.le_of_ble_eq_true rfl) dX12_plainNumber_24 (fun v3 H locs h I => ?_)
      refine lv_iadd hx hb dX12_plainNumber_27 ?_
      refine lv_bipush (v := 48) hx hb dX12_plainNumber_28 (by decide) ?_
      refine lv_isub hx hb dX12_plainNumber_30 ?_
      refine lv_istore_n (lv' := [(1, .int (((10 * x1) + v3) - 48)), (0, .ref (sgA P 0)), (2, .int x2)]) hx hb dX12_plainNumber_31 rfl hl (by decide) rfl (fun ls hl => ?_)
      refine lv_aload_n hx hb dX12_plainNumber_32 rfl (lv_at hl 1 rfl) ?_
      refine lv_dup hx hb dX12_plainNumber_33 rfl ?_
      refine sg_geti X I fk_X12_130 (by decide) shM_0 rfl dX12_plainNumber_34 ?_
      refine lv_iconst (v := 1) hx hb dX12_plainNumber_37 (by decide) ?_
      refine lv_iadd hx hb dX12_plainNumber_38 ?_
      refine sg_puti X I fk_X12_130 wk_12_3 rfl rfl (by decide) shM_0 rfl h dX12_plainNumber_39 (fun s4 H locs h I => ?_)
      refine lv_iinc (v := x2 + 1) (lv' := [(2, .int (x2 + 1)), (1, .int (((10 * x1) + v3) - 48)), (0, .ref (sgA P 0))]) hx hb dX12_plainNumber_42 hl (k := 2) rfl rfl (by decide) rfl (fun ls hl => ?_)
      refine lv_goto (tgt := 4) hx hb dX12_plainNumber_45 (by decide) ?_
      obtain rfl := Option.some.inj h
      exact sg_go hk I (lv_sub hl [2, 1, 0] rfl)
def f_X12_plainNumber (N : Nat) (σ : sgS) : Option (Int32 × sgS) :=
  sg_lb (sg_lp (fun x => f_X12_plainNumber_L4 N x.2.1 x.2.2 x.1) N ((σ, 0, 0))) (fun r => some r) fun y5 =>
sg_cr (f_X12_here N y5.1) fun v6 =>
sg_cr (f_X12_isDigit N v6 y5.1) fun v7 =>
if v7 = 0 then
  (some (y5.2, y5.1))
else
  (sg_cl (f_X12_bad N y5.1) fun v8 s9 =>
  some (y5.2, s9))
set_option maxHeartbeats 4000000 in
set_option maxRecDepth 100000 in
theorem b_X12_plainNumber {p : Program} {l : Launch} {e : Env} {R : Room} {s : State} {m : MethodId} {args : Array Value} {below : List Frame} {meth : Method} {c : Code} {Q : State → Prop} {P : sgP} {A : Nat → Prop} {N : Nat} {σ : sgS} (X : sg_C P A 2 p R s m args c cX12_plainNumber 3 RX12) {H : Heap} {locs : List Loc} (I : sg_I P shM 35 A s.heap σ H locs) {ls : Array Slot} (hl : lv_has ls 3 [(0, .ref (sgA P 0))]) {st : Int32 × sgS} (h : f_X12_plainNumber N σ = some st) (hk : sg_Ri p l e R s m args below meth c Q P shM 35 A cX12_plainNumber (some .int) st) : W p l e R s m args below meth c H locs 0 0 Q (F0 m 0 ls []) := by
  unfold f_X12_plainNumber at h
  have hx := X.1.1
  have hb := X.1.2.1
  have hown := X.1.2.2.2.1
  have hts := X.1.2.2.2.2
  refine lv_iconst (v := 0) hx hb dX12_plainNumber_0 (by decide) ?_
  refine lv_istore_n (lv' := [(1, .int 0), (0, .ref (sgA P 0))]) hx hb dX12_plainNumber_1 rfl hl (by decide) rfl (fun ls hl => ?_)
  refine lv_iconst (v := 0) hx hb dX12_plainNumber_2 (by decide) ?_
  refine lv_istore_n (lv' := [(2, .int 0), (1, .int 0), (0, .ref (sgA P 0))]) hx hb dX12_plainNumber_3 rfl hl (by decide) rfl (fun ls hl => ?_)
  obtain ⟨res, e9, k9⟩ := sg_lb_some h
  refine sg_go (sg_lp_W (a := (sg_Ri p l e R s m args below meth c Q P shM 35 A cX12_plainNumber (some .int))) (w := (fun x => sg_Wt p l e R s m args below meth c Q P shM 35 A 3 4 x.1 [(0, .ref (sgA P 0)), (1, .int x.2.1), (2, .int x.2.2)])) (c := (fun y => sg_Wt p l e R s m args below meth c Q P shM 35 A 3 48 y.1 [(0, .ref (sgA P 0)), (1, .int y.2)])) (fun x st hb9 hk9 => ?_) N ((σ, 0, 0)) res e9 (sg_k2_mono k9 (fun r h => ?_) (fun y5 h => ?_))) I (lv_sub hl [2, 1, 0] rfl)
  · intro H locs ls I hl
    exact b_X12_plainNumber_L4 X I hl hb9 hk9
  · obtain rfl := Option.some.inj h
    exact hk
  · intro H locs ls I hl
    refine lv_aload_n hx hb dX12_plainNumber_48 rfl (lv_at hl 0 rfl) ?_
    refine sg_callVr (As := []) X I mk_X12_133 (by decide) (by decide) shM_0 rfl (fun q9 e9 => c_X12_here e9) h hl.1 rfl rfl (Nat.le_of_ble_eq_true rfl) dX12_plainNumber_49 (fun v6 H locs h I => ?_)
    refine sg_callSr (As := [.int v6]) X I mk_X12_152 (by decide) (fun q9 e9 => c_X12_isDigit e9) h hl.1 rfl rfl (Nat.le_of_ble_eq_true rfl) dX12_plainNumber_52 (fun v7 H locs h I => ?_)
    refine lv_if_eq (tgt := 62) hx hb dX12_plainNumber_55 (by decide) (fun z => ?_) (fun z => ?_)
    · have h := sg_ift h z
      refine lv_iload_n hx hb dX12_plainNumber_62 rfl (lv_at hl 1 rfl) ?_
      obtain rfl := Option.some.inj h
      exact hk _ _ _ _ _ I ⟨_, rfl, rfl⟩ dX12_plainNumber_63
    · have h := sg_iff h z
      refine lv_aload_n hx hb dX12_plainNumber_58 rfl (lv_at hl 0 rfl) ?_
      refine sg_callVv (As := []) X I mk_X12_146 (by decide) (by decide) shM_0 rfl (fun q9 e9 => c_X12_bad e9) h hl.1 rfl rfl (Nat.le_of_ble_eq_true rfl) dX12_plainNumber_59 (fun v8 s9 H locs h I => ?_)
      refine lv_iload_n hx hb dX12_plainNumber_62 rfl (lv_at hl 1 rfl) ?_
      obtain rfl := Option.some.inj h
      exact hk _ _ _ _ _ I ⟨_, rfl, rfl⟩ dX12_plainNumber_63
set_option maxHeartbeats 4000000 in
set_option maxRecDepth 100000 in
theorem c_X12_plainNumber {l : Launch} {P : sgP} {N : Nat} {σ : sgS} {q : Int32 × sgS} (h : f_X12_plainNumber N σ = some q) : sg_Mi P shM 35 l yX12_plainNumber cX12_plainNumber 3 (some .int) 2 [.ref (sgA P 0)] σ q := by
  refine sg_mki (plainFor_of_name (by decide +kernel)) (Nat.le_of_ble_eq_true rfl) ?_
  intro p e R s m args below meth c Q A ls H locs X I hl hk
  exact b_X12_plainNumber X I hl h hk
def f_X12_atom (N : Nat) (rec : sgS → Option (Int32 × sgS)) (σ : sgS) : Option (Int32 × sgS) :=
  sg_cl (f_X12_look N σ) fun v1 s2 =>
sg_cr (f_X12_isDigit N v1 s2) fun v3 =>
if v3 = 0 then
  (sg_cr (f_X12_letterOf N v1 s2) fun v4 =>
  if v4 = ((-1)) then
    (if v1 = 91 then
      (sg_cl (f_X12_opens N s2) fun v7 s8 =>
      if (s8.1 0 4) = ((-1)) then
        (sg_cl (rec s8) fun v9 s10 =>
        sg_cl (f_X12_closes N 93 s10) fun v11 s12 =>
        some (0, s12))
      else
        (some (0, s8)))
    else
      (sg_cl (f_X12_bad N s2) fun v5 s6 =>
      some (0, s6)))
  else
    (sg_pf s2 0 3 ((s2.1 0 3) + 1) fun s13 =>
    sg_cr (f_X12_letterOf N v1 s13) fun v14 =>
    sg_cl (f_X12_put N 1 v14 s13) fun v15 s16 =>
    some (0, s16)))
else
  (sg_cl (f_X12_plainNumber N s2) fun v17 s18 =>
  sg_cl (f_X12_put N 0 v17 s18) fun v19 s20 =>
  some (0, s20))
set_option maxHeartbeats 4000000 in
set_option maxRecDepth 100000 in
theorem b_X12_atom {p : Program} {l : Launch} {e : Env} {R : Room} {s : State} {m : MethodId} {args : Array Value} {below : List Frame} {meth : Method} {c : Code} {Q : State → Prop} {P : sgP} {A : Nat → Prop} {lv : Nat} {N : Nat} {rec : sgS → Option (Int32 × sgS)} {σ : sgS} (X : sg_C P A (lv + 1) p R s m args c cX12_atom 2 RX12) (hlv : 4 ≤ lv) (hrec : ∀ (σ : sgS) (q : Int32 × sgS), rec σ = some q → sg_Mv P shM 35 l yX12_sum cX12_sum 2 none lv [.ref (sgA P 0)] σ q) {H : Heap} {locs : List Loc} (I : sg_I P shM 35 A s.heap σ H locs) {ls : Array Slot} (hl : lv_has ls 2 [(0, .ref (sgA P 0))]) {st : Int32 × sgS} (h : f_X12_atom N rec σ = some st) (hk : sg_Rv p l e R s m args below meth c Q P shM 35 A cX12_atom st) : W p l e R s m args below meth c H locs 0 0 Q (F0 m 0 ls []) := by
  unfold f_X12_atom at h
  have hx := X.1.1
  have hb := X.1.2.1
  have hown := X.1.2.2.2.1
  have hts := X.1.2.2.2.2
  refine lv_aload_n hx hb dX12_atom_0 rfl (lv_at hl 0 rfl) ?_
  refine sg_callV (As := []) X I mk_X12_149 (by omega) (by decide) shM_0 rfl (fun q9 e9 => c_X12_look e9) h hl.1 rfl rfl (Nat.le_of_ble_eq_true rfl) dX12_atom_1 (fun v1 s2 H locs h I => ?_)
  refine lv_istore_n (lv' := [(1, .int v1), (0, .ref (sgA P 0))]) hx hb dX12_atom_4 rfl hl (by decide) rfl (fun ls hl => ?_)
  refine lv_iload_n hx hb dX12_atom_5 rfl (lv_at hl 0 rfl) ?_
  refine sg_callSr (As := [.int v1]) X I mk_X12_152 (by omega) (fun q9 e9 => c_X12_isDigit e9) h hl.1 rfl rfl (Nat.le_of_ble_eq_true rfl) dX12_atom_6 (fun v3 H locs h I => ?_)
  refine lv_if_eq (tgt := 24) hx hb dX12_atom_9 (by decide) (fun z => ?_) (fun z => ?_)
  · have h := sg_ift h z
    refine lv_iload_n hx hb dX12_atom_24 rfl (lv_at hl 0 rfl) ?_
    refine sg_callSr (As := [.int v1]) X I mk_X12_163 (by omega) (fun q9 e9 => c_X12_letterOf e9) h hl.1 rfl rfl (Nat.le_of_ble_eq_true rfl) dX12_atom_25 (fun v4 H locs h I => ?_)
    refine lv_iconst (v := -1) hx hb dX12_atom_28 (by decide) ?_
    refine lv_icmp_eq (tgt := 54) hx hb dX12_atom_29 (by decide) (fun z => ?_) (fun z => ?_)
    · have h := sg_ift h z
      refine lv_iload_n hx hb dX12_atom_54 rfl (lv_at hl 0 rfl) ?_
      refine lv_bipush (v := 91) hx hb dX12_atom_55 (by decide) ?_
      refine lv_icmp_ne (tgt := 85) hx hb dX12_atom_57 (by decide) (fun z => ?_) (fun z => ?_)
      · have h := sg_iff h z
        refine lv_aload_n hx hb dX12_atom_85 rfl (lv_at hl 1 rfl) ?_
        refine sg_callVv (As := []) X I mk_X12_146 (by omega) (by decide) shM_0 rfl (fun q9 e9 => c_X12_bad e9) h hl.1 rfl rfl (Nat.le_of_ble_eq_true rfl) dX12_atom_86 (fun v5 s6 H locs h I => ?_)
        obtain rfl := Option.some.inj h
        exact hk _ _ _ _ I dX12_atom_89
      · have h := sg_ift h z
        refine lv_aload_n hx hb dX12_atom_60 rfl (lv_at hl 1 rfl) ?_
        refine sg_callVv (As := []) X I mk_X12_167 (by omega) (by decide) shM_0 rfl (fun q9 e9 => c_X12_opens e9) h hl.1 rfl rfl (Nat.le_of_ble_eq_true rfl) dX12_atom_61 (fun v7 s8 H locs h I => ?_)
        refine lv_aload_n hx hb dX12_atom_64 rfl (lv_at hl 1 rfl) ?_
        refine sg_geti X I fk_X12_137 (by decide) shM_0 rfl dX12_atom_65 ?_
        refine lv_iconst (v := -1) hx hb dX12_atom_68 (by decide) ?_
        refine lv_icmp_ne (tgt := 89) hx hb dX12_atom_69 (by decide) (fun z => ?_) (fun z => ?_)
        · have h := sg_iff h z
          obtain rfl := Option.some.inj h
          exact hk _ _ _ _ I dX12_atom_89
        · have h := sg_ift h z
          refine lv_aload_n hx hb dX12_atom_72 rfl (lv_at hl 1 rfl) ?_
          refine sg_callVv (As := []) X I mk_X12_170 (by omega) (by decide) shM_0 rfl (fun q9 e9 => hrec _ _ e9) h hl.1 rfl rfl (Nat.le_of_ble_eq_true rfl) dX12_atom_73 (fun v9 s10 H locs h I => ?_)
          refine lv_aload_n hx hb dX12_atom_76 rfl (lv_at hl 1 rfl) ?_
          refine lv_bipush (v := 93) hx hb dX12_atom_77 (by decide) ?_
          refine sg_callVv (As := [.int 93]) X I mk_X12_173 (by omega) (by decide) shM_0 rfl (fun q9 e9 => c_X12_closes e9) h hl.1 rfl rfl (Nat.le_of_ble_eq_true rfl) dX12_atom_79 (fun v11 s12 H locs h I => ?_)
          refine lv_goto (tgt := 89) hx hb dX12_atom_82 (by decide) ?_
          obtain rfl := Option.some.inj h
          exact hk _ _ _ _ I dX12_atom_89
    · have h := sg_iff h z
      refine lv_aload_n hx hb dX12_atom_32 rfl (lv_at hl 1 rfl) ?_
      refine lv_dup hx hb dX12_atom_33 rfl ?_
      refine sg_geti X I fk_X12_130 (by decide) shM_0 rfl dX12_atom_34 ?_
      refine lv_iconst (v := 1) hx hb dX12_atom_37 (by decide) ?_
      refine lv_iadd hx hb dX12_atom_38 ?_
      refine sg_puti X I fk_X12_130 wk_12_3 rfl rfl (by decide) shM_0 rfl h dX12_atom_39 (fun s13 H locs h I => ?_)
      refine lv_aload_n hx hb dX12_atom_42 rfl (lv_at hl 1 rfl) ?_
      refine lv_iconst (v := 1) hx hb dX12_atom_43 (by decide) ?_
      refine lv_iload_n hx hb dX12_atom_44 rfl (lv_at hl 0 rfl) ?_
      refine sg_callSr (As := [.int v1]) X I mk_X12_163 (by omega) (fun q9 e9 => c_X12_letterOf e9) h hl.1 rfl rfl (Nat.le_of_ble_eq_true rfl) dX12_atom_45 (fun v14 H locs h I => ?_)
      refine sg_callVv (As := [.int 1, .int v14]) X I mk_X12_159 (by omega) (by decide) shM_0 rfl (fun q9 e9 => c_X12_put e9) h hl.1 rfl rfl (Nat.le_of_ble_eq_true rfl) dX12_atom_48 (fun v15 s16 H locs h I => ?_)
      refine lv_goto (tgt := 89) hx hb dX12_atom_51 (by decide) ?_
      obtain rfl := Option.some.inj h
      exact hk _ _ _ _ I dX12_atom_89
  · have h := sg_iff h z
    refine lv_aload_n hx hb dX12_atom_12 rfl (lv_at hl 1 rfl) ?_
    refine lv_iconst (v := 0) hx hb dX12_atom_13 (by decide) ?_
    refine lv_aload_n hx hb dX12_atom_14 rfl (lv_at hl 1 rfl) ?_
    refine sg_callV (As := []) X I mk_X12_156 (by omega) (by decide) shM_0 rfl (fun q9 e9 => c_X12_plainNumber e9) h hl.1 rfl rfl (Nat.le_of_ble_eq_true rfl) dX12_atom_15 (fun v17 s18 H locs h I => ?_)
    refine sg_callVv (As := [.int 0, .int v17]) X I mk_X12_159 (by omega) (by decide) shM_0 rfl (fun q9 e9 => c_X12_put e9) h hl.1 rfl rfl (Nat.le_of_ble_eq_true rfl) dX12_atom_18 (fun v19 s20 H locs h I => ?_)
    refine lv_goto (tgt := 89) hx hb dX12_atom_21 (by decide) ?_
    obtain rfl := Option.some.inj h
    exact hk _ _ _ _ I dX12_atom_89
set_option maxHeartbeats 4000000 in
set_option maxRecDepth 100000 in
theorem c_X12_atom {l : Launch} {P : sgP} {lv : Nat} {N : Nat} {rec : sgS → Option (Int32 × sgS)} {σ : sgS} (hlv : 4 ≤ lv) (hrec : ∀ (σ : sgS) (q : Int32 × sgS), rec σ = some q → sg_Mv P shM 35 l yX12_sum cX12_sum 2 none lv [.ref (sgA P 0)] σ q) {q : Int32 × sgS} (h : f_X12_atom N rec σ = some q) : sg_Mv P shM 35 l yX12_atom cX12_atom 2 none (lv + 1) [.ref (sgA P 0)] σ q := by
  refine sg_mkv (plainFor_of_name (by decide +kernel)) (Nat.le_of_ble_eq_true rfl) ?_
  intro p e R s m args below meth c Q A ls H locs X I hl hk
  exact b_X12_atom X hlv hrec I hl h hk
def f_X12_term_L21_B59 (N : Nat) (rec : sgS → Option (Int32 × sgS)) (k1 : Int32) (σ : sgS) : Option ((Int32 × sgS) ⊕ ((sgS × Int32) ⊕ (sgS))) :=
  sg_cl (f_X12_put N k1 0 σ) fun v6 s7 =>
if (s7.1 0 4) = ((-1)) then
  (sg_cl (f_X12_look N s7) fun v8 s9 =>
  some (.inr (.inl (s9, v8))))
else
  (some (.inr (.inl (s7, (-1)))))
set_option maxHeartbeats 4000000 in
set_option maxRecDepth 100000 in
theorem b_X12_term_L21_B59 {p : Program} {l : Launch} {e : Env} {R : Room} {s : State} {m : MethodId} {args : Array Value} {below : List Frame} {meth : Method} {c : Code} {Q : State → Prop} {P : sgP} {A : Nat → Prop} {lv : Nat} {N : Nat} {rec : sgS → Option (Int32 × sgS)} {k1 : Int32} {σ : sgS} (X : sg_C P A (lv + 2) p R s m args c cX12_term 2 RX12) (hlv : 4 ≤ lv) (hrec : ∀ (σ : sgS) (q : Int32 × sgS), rec σ = some q → sg_Mv P shM 35 l yX12_sum cX12_sum 2 none lv [.ref (sgA P 0)] σ q) {H : Heap} {locs : List Loc} (I : sg_I P shM 35 A s.heap σ H locs) {ls : Array Slot} (hl : lv_has ls 2 [(0, .ref (sgA P 0))]) {st : (Int32 × sgS) ⊕ ((sgS × Int32) ⊕ (sgS))} (h : f_X12_term_L21_B59 N rec k1 σ = some st) (hk : sg_k3 (sg_Rv p l e R s m args below meth c Q P shM 35 A cX12_term) (fun x => sg_Wt p l e R s m args below meth c Q P shM 35 A 2 21 x.1 [(0, .ref (sgA P 0)), (1, .int x.2)]) (fun y => sg_Wt p l e R s m args below meth c Q P shM 35 A 2 83 y []) st) : W p l e R s m args below meth c H locs 0 0 Q (F0 m 59 ls [.int k1, .ref (sgA P 0)]) := by
  unfold f_X12_term_L21_B59 at h
  have hx := X.1.1
  have hb := X.1.2.1
  have hown := X.1.2.2.2.1
  have hts := X.1.2.2.2.2
  refine lv_iconst (v := 0) hx hb dX12_term_59 (by decide) ?_
  refine sg_callVv (As := [.int k1, .int 0]) X I mk_X12_159 (by omega) (by decide) shM_0 rfl (fun q9 e9 => c_X12_put e9) h hl.1 rfl rfl (Nat.le_of_ble_eq_true rfl) dX12_term_60 (fun v6 s7 H locs h I => ?_)
  refine lv_aload_n hx hb dX12_term_63 rfl (lv_at hl 0 rfl) ?_
  refine sg_geti X I fk_X12_137 (by decide) shM_0 rfl dX12_term_64 ?_
  refine lv_iconst (v := -1) hx hb dX12_term_67 (by decide) ?_
  refine lv_icmp_ne (tgt := 78) hx hb dX12_term_68 (by decide) (fun z => ?_) (fun z => ?_)
  · have h := sg_iff h z
    refine lv_iconst (v := -1) hx hb dX12_term_78 (by decide) ?_
    refine lv_istore_n (lv' := [(1, .int ((-1))), (0, .ref (sgA P 0))]) hx hb dX12_term_79 rfl hl (by decide) rfl (fun ls hl => ?_)
    refine lv_goto (tgt := 21) hx hb dX12_term_80 (by decide) ?_
    obtain rfl := Option.some.inj h
    exact sg_go hk I (lv_sub hl [1, 0] rfl)
  · have h := sg_ift h z
    refine lv_aload_n hx hb dX12_term_71 rfl (lv_at hl 0 rfl) ?_
    refine sg_callV (As := []) X I mk_X12_149 (by omega) (by decide) shM_0 rfl (fun q9 e9 => c_X12_look e9) h hl.1 rfl rfl (Nat.le_of_ble_eq_true rfl) dX12_term_72 (fun v8 s9 H locs h I => ?_)
    refine lv_goto (tgt := 79) hx hb dX12_term_75 (by decide) ?_
    refine lv_istore_n (lv' := [(1, .int v8), (0, .ref (sgA P 0))]) hx hb dX12_term_79 rfl hl (by decide) rfl (fun ls hl => ?_)
    refine lv_goto (tgt := 21) hx hb dX12_term_80 (by decide) ?_
    obtain rfl := Option.some.inj h
    exact sg_go hk I (lv_sub hl [1, 0] rfl)
def f_X12_term_L21_B33 (N : Nat) (rec : sgS → Option (Int32 × sgS)) (u1 : Int32) (σ : sgS) : Option ((Int32 × sgS) ⊕ ((sgS × Int32) ⊕ (sgS))) :=
  sg_pf σ 0 3 ((σ.1 0 3) + 1) fun s3 =>
sg_cl (f_X12_atom N rec s3) fun v4 s5 =>
if u1 = 42 then
  (f_X12_term_L21_B59 N rec 4 s5)
else
  (f_X12_term_L21_B59 N rec 5 s5)
set_option maxHeartbeats 4000000 in
set_option maxRecDepth 100000 in
theorem b_X12_term_L21_B33 {p : Program} {l : Launch} {e : Env} {R : Room} {s : State} {m : MethodId} {args : Array Value} {below : List Frame} {meth : Method} {c : Code} {Q : State → Prop} {P : sgP} {A : Nat → Prop} {lv : Nat} {N : Nat} {rec : sgS → Option (Int32 × sgS)} {u1 : Int32} {σ : sgS} (X : sg_C P A (lv + 2) p R s m args c cX12_term 2 RX12) (hlv : 4 ≤ lv) (hrec : ∀ (σ : sgS) (q : Int32 × sgS), rec σ = some q → sg_Mv P shM 35 l yX12_sum cX12_sum 2 none lv [.ref (sgA P 0)] σ q) {H : Heap} {locs : List Loc} (I : sg_I P shM 35 A s.heap σ H locs) {ls : Array Slot} (hl : lv_has ls 2 [(0, .ref (sgA P 0)), (1, .int u1)]) {st : (Int32 × sgS) ⊕ ((sgS × Int32) ⊕ (sgS))} (h : f_X12_term_L21_B33 N rec u1 σ = some st) (hk : sg_k3 (sg_Rv p l e R s m args below meth c Q P shM 35 A cX12_term) (fun x => sg_Wt p l e R s m args below meth c Q P shM 35 A 2 21 x.1 [(0, .ref (sgA P 0)), (1, .int x.2)]) (fun y => sg_Wt p l e R s m args below meth c Q P shM 35 A 2 83 y []) st) : W p l e R s m args below meth c H locs 0 0 Q (F0 m 33 ls []) := by
  unfold f_X12_term_L21_B33 at h
  have hx := X.1.1
  have hb := X.1.2.1
  have hown := X.1.2.2.2.1
  have hts := X.1.2.2.2.2
  refine lv_aload_n hx hb dX12_term_33 rfl (lv_at hl 0 rfl) ?_
  refine lv_dup hx hb dX12_term_34 rfl ?_
  refine sg_geti X I fk_X12_130 (by decide) shM_0 rfl dX12_term_35 ?_
  refine lv_iconst (v := 1) hx hb dX12_term_38 (by decide) ?_
  refine lv_iadd hx hb dX12_term_39 ?_
  refine sg_puti X I fk_X12_130 wk_12_3 rfl rfl (by decide) shM_0 rfl h dX12_term_40 (fun s3 H locs h I => ?_)
  refine lv_aload_n hx hb dX12_term_43 rfl (lv_at hl 0 rfl) ?_
  refine sg_callVv (As := []) X I mk_X12_177 (by omega) (by decide) shM_0 rfl (fun q9 e9 => c_X12_atom hlv hrec e9) h hl.1 rfl rfl (Nat.le_of_ble_eq_true rfl) dX12_term_44 (fun v4 s5 H locs h I => ?_)
  refine lv_aload_n hx hb dX12_term_47 rfl (lv_at hl 0 rfl) ?_
  refine lv_iload_n hx hb dX12_term_48 rfl (lv_at hl 1 rfl) ?_
  refine lv_bipush (v := 42) hx hb dX12_term_49 (by decide) ?_
  refine lv_icmp_ne (tgt := 58) hx hb dX12_term_51 (by decide) (fun z => ?_) (fun z => ?_)
  · have h := sg_iff h z
    refine lv_iconst (v := 5) hx hb dX12_term_58 (by decide) ?_
    exact b_X12_term_L21_B59 X hlv hrec I (lv_sub hl [0] rfl) h hk
  · have h := sg_ift h z
    refine lv_iconst (v := 4) hx hb dX12_term_54 (by decide) ?_
    refine lv_goto (tgt := 59) hx hb dX12_term_55 (by decide) ?_
    exact b_X12_term_L21_B59 X hlv hrec I (lv_sub hl [0] rfl) h hk
def f_X12_term_L21 (N : Nat) (rec : sgS → Option (Int32 × sgS)) (x1 : Int32) (σ : sgS) : Option ((Int32 × sgS) ⊕ ((sgS × Int32) ⊕ (sgS))) :=
  if x1 = 42 then
  (f_X12_term_L21_B33 N rec x1 σ)
else
  (if x1 = 47 then
    (f_X12_term_L21_B33 N rec x1 σ)
  else
    (some (.inr (.inr σ))))
set_option maxHeartbeats 4000000 in
set_option maxRecDepth 100000 in
theorem b_X12_term_L21 {p : Program} {l : Launch} {e : Env} {R : Room} {s : State} {m : MethodId} {args : Array Value} {below : List Frame} {meth : Method} {c : Code} {Q : State → Prop} {P : sgP} {A : Nat → Prop} {lv : Nat} {N : Nat} {rec : sgS → Option (Int32 × sgS)} {x1 : Int32} {σ : sgS} (X : sg_C P A (lv + 2) p R s m args c cX12_term 2 RX12) (hlv : 4 ≤ lv) (hrec : ∀ (σ : sgS) (q : Int32 × sgS), rec σ = some q → sg_Mv P shM 35 l yX12_sum cX12_sum 2 none lv [.ref (sgA P 0)] σ q) {H : Heap} {locs : List Loc} (I : sg_I P shM 35 A s.heap σ H locs) {ls : Array Slot} (hl : lv_has ls 2 [(0, .ref (sgA P 0)), (1, .int x1)]) {st : (Int32 × sgS) ⊕ ((sgS × Int32) ⊕ (sgS))} (h : f_X12_term_L21 N rec x1 σ = some st) (hk : sg_k3 (sg_Rv p l e R s m args below meth c Q P shM 35 A cX12_term) (fun x => sg_Wt p l e R s m args below meth c Q P shM 35 A 2 21 x.1 [(0, .ref (sgA P 0)), (1, .int x.2)]) (fun y => sg_Wt p l e R s m args below meth c Q P shM 35 A 2 83 y []) st) : W p l e R s m args below meth c H locs 0 0 Q (F0 m 21 ls []) := by
  unfold f_X12_term_L21 at h
  have hx := X.1.1
  have hb := X.1.2.1
  have hown := X.1.2.2.2.1
  have hts := X.1.2.2.2.2
  refine lv_iload_n hx hb dX12_term_21 rfl (lv_at hl 1 rfl) ?_
  refine lv_bipush (v := 42) hx hb dX12_term_22 (by decide) ?_
  refine lv_icmp_eq (tgt := 33) hx hb dX12_term_24 (by decide) (fun z => ?_) (fun z => ?_)
  · have h := sg_ift h z
    exact b_X12_term_L21_B33 X hlv hrec I (lv_sub hl [0, 1] rfl) h hk
  · have h := sg_iff h z
    refine lv_iload_n hx hb dX12_term_27 rfl (lv_at hl 1 rfl) ?_
    refine lv_bipush (v := 47) hx hb dX12_term_28 (by decide) ?_
    refine lv_icmp_ne (tgt := 83) hx hb dX12_term_30 (by decide) (fun z => ?_) (fun z => ?_)
    · have h := sg_iff h z
      obtain rfl := Option.some.inj h
      exact sg_go hk I (lv_sub hl [] rfl)
    · have h := sg_ift h z
      exact b_X12_term_L21_B33 X hlv hrec I (lv_sub hl [0, 1] rfl) h hk
def f_X12_term_B20 (N : Nat) (rec : sgS → Option (Int32 × sgS)) (k0 : Int32) (σ : sgS) : Option (Int32 × sgS) :=
  sg_lb (sg_lp (fun x => f_X12_term_L21 N rec x.2 x.1) N ((σ, k0))) (fun r => some r) fun y10 =>
some (0, y10)
set_option maxHeartbeats 4000000 in
set_option maxRecDepth 100000 in
theorem b_X12_term_B20 {p : Program} {l : Launch} {e : Env} {R : Room} {s : State} {m : MethodId} {args : Array Value} {below : List Frame} {meth : Method} {c : Code} {Q : State → Prop} {P : sgP} {A : Nat → Prop} {lv : Nat} {N : Nat} {rec : sgS → Option (Int32 × sgS)} {k0 : Int32} {σ : sgS} (X : sg_C P A (lv + 2) p R s m args c cX12_term 2 RX12) (hlv : 4 ≤ lv) (hrec : ∀ (σ : sgS) (q : Int32 × sgS), rec σ = some q → sg_Mv P shM 35 l yX12_sum cX12_sum 2 none lv [.ref (sgA P 0)] σ q) {H : Heap} {locs : List Loc} (I : sg_I P shM 35 A s.heap σ H locs) {ls : Array Slot} (hl : lv_has ls 2 [(0, .ref (sgA P 0))]) {st : Int32 × sgS} (h : f_X12_term_B20 N rec k0 σ = some st) (hk : sg_Rv p l e R s m args below meth c Q P shM 35 A cX12_term st) : W p l e R s m args below meth c H locs 0 0 Q (F0 m 20 ls [.int k0]) := by
  unfold f_X12_term_B20 at h
  have hx := X.1.1
  have hb := X.1.2.1
  have hown := X.1.2.2.2.1
  have hts := X.1.2.2.2.2
  refine lv_istore_n (lv' := [(1, .int k0), (0, .ref (sgA P 0))]) hx hb dX12_term_20 rfl hl (by decide) rfl (fun ls hl => ?_)
  obtain ⟨res, e9, k9⟩ := sg_lb_some h
  refine sg_go (sg_lp_W (a := (sg_Rv p l e R s m args below meth c Q P shM 35 A cX12_term)) (w := (fun x => sg_Wt p l e R s m args below meth c Q P shM 35 A 2 21 x.1 [(0, .ref (sgA P 0)), (1, .int x.2)])) (c := (fun y => sg_Wt p l e R s m args below meth c Q P shM 35 A 2 83 y [])) (fun x st hb9 hk9 => ?_) N ((σ, k0)) res e9 (sg_k2_mono k9 (fun r h => ?_) (fun y10 h => ?_))) I (lv_sub hl [1, 0] rfl)
  · intro H locs ls I hl
    exact b_X12_term_L21 X hlv hrec I hl hb9 hk9
  · obtain rfl := Option.some.inj h
    exact hk
  · intro H locs ls I hl
    obtain rfl := Option.some.inj h
    exact hk _ _ _ _ I dX12_term_83
def f_X12_term (N : Nat) (rec : sgS → Option (Int32 × sgS)) (σ : sgS) : Option (Int32 × sgS) :=
  sg_cl (f_X12_atom N rec σ) fun v1 s2 =>
if (s2.1 0 4) = ((-1)) then
  (sg_cl (f_X12_look N s2) fun v11 s12 =>
  f_X12_term_B20 N rec v11 s12)
else
  (f_X12_term_B20 N rec ((-1)) s2)
set_option maxHeartbeats 4000000 in
set_option maxRecDepth 100000 in
theorem b_X12_term {p : Program} {l : Launch} {e : Env} {R : Room} {s : State} {m : MethodId} {args : Array Value} {below : List Frame} {meth : Method} {c : Code} {Q : State → Prop} {P : sgP} {A : Nat → Prop} {lv : Nat} {N : Nat} {rec : sgS → Option (Int32 × sgS)} {σ : sgS} (X : sg_C P A (lv + 2) p R s m args c cX12_term 2 RX12) (hlv : 4 ≤ lv) (hrec : ∀ (σ : sgS) (q : Int32 × sgS), rec σ = some q → sg_Mv P shM 35 l yX12_sum cX12_sum 2 none lv [.ref (sgA P 0)] σ q) {H : Heap} {locs : List Loc} (I : sg_I P shM 35 A s.heap σ H locs) {ls : Array Slot} (hl : lv_has ls 2 [(0, .ref (sgA P 0))]) {st : Int32 × sgS} (h : f_X12_term N rec σ = some st) (hk : sg_Rv p l e R s m args below meth c Q P shM 35 A cX12_term st) : W p l e R s m args below meth c H locs 0 0 Q (F0 m 0 ls []) := by
  unfold f_X12_term at h
  have hx := X.1.1
  have hb := X.1.2.1
  have hown := X.1.2.2.2.1
  have hts := X.1.2.2.2.2
  refine lv_aload_n hx hb dX12_term_0 rfl (lv_at hl 0 rfl) ?_
  refine sg_callVv (As := []) X I mk_X12_177 (by omega) (by decide) shM_0 rfl (fun q9 e9 => c_X12_atom hlv hrec e9) h hl.1 rfl rfl (Nat.le_of_ble_eq_true rfl) dX12_term_1 (fun v1 s2 H locs h I => ?_)
  refine lv_aload_n hx hb dX12_term_4 rfl (lv_at hl 0 rfl) ?_
  refine sg_geti X I fk_X12_137 (by decide) shM_0 rfl dX12_term_5 ?_
  refine lv_iconst (v := -1) hx hb dX12_term_8 (by decide) ?_
  refine lv_icmp_ne (tgt := 19) hx hb dX12_term_9 (by decide) (fun z => ?_) (fun z => ?_)
  · have h := sg_iff h z
    refine lv_iconst (v := -1) hx hb dX12_term_19 (by decide) ?_
    exact b_X12_term_B20 X hlv hrec I (lv_sub hl [0] rfl) h hk
  · have h := sg_ift h z
    refine lv_aload_n hx hb dX12_term_12 rfl (lv_at hl 0 rfl) ?_
    refine sg_callV (As := []) X I mk_X12_149 (by omega) (by decide) shM_0 rfl (fun q9 e9 => c_X12_look e9) h hl.1 rfl rfl (Nat.le_of_ble_eq_true rfl) dX12_term_13 (fun v11 s12 H locs h I => ?_)
    refine lv_goto (tgt := 20) hx hb dX12_term_16 (by decide) ?_
    exact b_X12_term_B20 X hlv hrec I (lv_sub hl [0] rfl) h hk
set_option maxHeartbeats 4000000 in
set_option maxRecDepth 100000 in
theorem c_X12_term {l : Launch} {P : sgP} {lv : Nat} {N : Nat} {rec : sgS → Option (Int32 × sgS)} {σ : sgS} (hlv : 4 ≤ lv) (hrec : ∀ (σ : sgS) (q : Int32 × sgS), rec σ = some q → sg_Mv P shM 35 l yX12_sum cX12_sum 2 none lv [.ref (sgA P 0)] σ q) {q : Int32 × sgS} (h : f_X12_term N rec σ = some q) : sg_Mv P shM 35 l yX12_term cX12_term 2 none (lv + 2) [.ref (sgA P 0)] σ q := by
  refine sg_mkv (plainFor_of_name (by decide +kernel)) (Nat.le_of_ble_eq_true rfl) ?_
  intro p e R s m args below meth c Q A ls H locs X I hl hk
  exact b_X12_term X hlv hrec I hl h hk
def f_X12_sum_b_L21_B59 (N : Nat) (rec : sgS → Option (Int32 × sgS)) (k1 : Int32) (σ : sgS) : Option ((Int32 × sgS) ⊕ ((sgS × Int32) ⊕ (sgS))) :=
  sg_cl (f_X12_put N k1 0 σ) fun v6 s7 =>
if (s7.1 0 4) = ((-1)) then
  (sg_cl (f_X12_look N s7) fun v8 s9 =>
  some (.inr (.inl (s9, v8))))
else
  (some (.inr (.inl (s7, (-1)))))
set_option maxHeartbeats 4000000 in
set_option maxRecDepth 100000 in
theorem b_X12_sum_b_L21_B59 {p : Program} {l : Launch} {e : Env} {R : Room} {s : State} {m : MethodId} {args : Array Value} {below : List Frame} {meth : Method} {c : Code} {Q : State → Prop} {P : sgP} {A : Nat → Prop} {lv : Nat} {N : Nat} {rec : sgS → Option (Int32 × sgS)} {k1 : Int32} {σ : sgS} (X : sg_C P A (lv + 3) p R s m args c cX12_sum 2 RX12) (hlv : 4 ≤ lv) (hrec : ∀ (σ : sgS) (q : Int32 × sgS), rec σ = some q → sg_Mv P shM 35 l yX12_sum cX12_sum 2 none lv [.ref (sgA P 0)] σ q) {H : Heap} {locs : List Loc} (I : sg_I P shM 35 A s.heap σ H locs) {ls : Array Slot} (hl : lv_has ls 2 [(0, .ref (sgA P 0))]) {st : (Int32 × sgS) ⊕ ((sgS × Int32) ⊕ (sgS))} (h : f_X12_sum_b_L21_B59 N rec k1 σ = some st) (hk : sg_k3 (sg_Rv p l e R s m args below meth c Q P shM 35 A cX12_sum) (fun x => sg_Wt p l e R s m args below meth c Q P shM 35 A 2 21 x.1 [(0, .ref (sgA P 0)), (1, .int x.2)]) (fun y => sg_Wt p l e R s m args below meth c Q P shM 35 A 2 83 y []) st) : W p l e R s m args below meth c H locs 0 0 Q (F0 m 59 ls [.int k1, .ref (sgA P 0)]) := by
  unfold f_X12_sum_b_L21_B59 at h
  have hx := X.1.1
  have hb := X.1.2.1
  have hown := X.1.2.2.2.1
  have hts := X.1.2.2.2.2
  refine lv_iconst (v := 0) hx hb dX12_sum_59 (by decide) ?_
  refine sg_callVv (As := [.int k1, .int 0]) X I mk_X12_159 (by omega) (by decide) shM_0 rfl (fun q9 e9 => c_X12_put e9) h hl.1 rfl rfl (Nat.le_of_ble_eq_true rfl) dX12_sum_60 (fun v6 s7 H locs h I => ?_)
  refine lv_aload_n hx hb dX12_sum_63 rfl (lv_at hl 0 rfl) ?_
  refine sg_geti X I fk_X12_137 (by decide) shM_0 rfl dX12_sum_64 ?_
  refine lv_iconst (v := -1) hx hb dX12_sum_67 (by decide) ?_
  refine lv_icmp_ne (tgt := 78) hx hb dX12_sum_68 (by decide) (fun z => ?_) (fun z => ?_)
  · have h := sg_iff h z
    refine lv_iconst (v := -1) hx hb dX12_sum_78 (by decide) ?_
    refine lv_istore_n (lv' := [(1, .int ((-1))), (0, .ref (sgA P 0))]) hx hb dX12_sum_79 rfl hl (by decide) rfl (fun ls hl => ?_)
    refine lv_goto (tgt := 21) hx hb dX12_sum_80 (by decide) ?_
    obtain rfl := Option.some.inj h
    exact sg_go hk I (lv_sub hl [1, 0] rfl)
  · have h := sg_ift h z
    refine lv_aload_n hx hb dX12_sum_71 rfl (lv_at hl 0 rfl) ?_
    refine sg_callV (As := []) X I mk_X12_149 (by omega) (by decide) shM_0 rfl (fun q9 e9 => c_X12_look e9) h hl.1 rfl rfl (Nat.le_of_ble_eq_true rfl) dX12_sum_72 (fun v8 s9 H locs h I => ?_)
    refine lv_goto (tgt := 79) hx hb dX12_sum_75 (by decide) ?_
    refine lv_istore_n (lv' := [(1, .int v8), (0, .ref (sgA P 0))]) hx hb dX12_sum_79 rfl hl (by decide) rfl (fun ls hl => ?_)
    refine lv_goto (tgt := 21) hx hb dX12_sum_80 (by decide) ?_
    obtain rfl := Option.some.inj h
    exact sg_go hk I (lv_sub hl [1, 0] rfl)
def f_X12_sum_b_L21_B33 (N : Nat) (rec : sgS → Option (Int32 × sgS)) (u1 : Int32) (σ : sgS) : Option ((Int32 × sgS) ⊕ ((sgS × Int32) ⊕ (sgS))) :=
  sg_pf σ 0 3 ((σ.1 0 3) + 1) fun s3 =>
sg_cl (f_X12_term N rec s3) fun v4 s5 =>
if u1 = 43 then
  (f_X12_sum_b_L21_B59 N rec 2 s5)
else
  (f_X12_sum_b_L21_B59 N rec 3 s5)
set_option maxHeartbeats 4000000 in
set_option maxRecDepth 100000 in
theorem b_X12_sum_b_L21_B33 {p : Program} {l : Launch} {e : Env} {R : Room} {s : State} {m : MethodId} {args : Array Value} {below : List Frame} {meth : Method} {c : Code} {Q : State → Prop} {P : sgP} {A : Nat → Prop} {lv : Nat} {N : Nat} {rec : sgS → Option (Int32 × sgS)} {u1 : Int32} {σ : sgS} (X : sg_C P A (lv + 3) p R s m args c cX12_sum 2 RX12) (hlv : 4 ≤ lv) (hrec : ∀ (σ : sgS) (q : Int32 × sgS), rec σ = some q → sg_Mv P shM 35 l yX12_sum cX12_sum 2 none lv [.ref (sgA P 0)] σ q) {H : Heap} {locs : List Loc} (I : sg_I P shM 35 A s.heap σ H locs) {ls : Array Slot} (hl : lv_has ls 2 [(0, .ref (sgA P 0)), (1, .int u1)]) {st : (Int32 × sgS) ⊕ ((sgS × Int32) ⊕ (sgS))} (h : f_X12_sum_b_L21_B33 N rec u1 σ = some st) (hk : sg_k3 (sg_Rv p l e R s m args below meth c Q P shM 35 A cX12_sum) (fun x => sg_Wt p l e R s m args below meth c Q P shM 35 A 2 21 x.1 [(0, .ref (sgA P 0)), (1, .int x.2)]) (fun y => sg_Wt p l e R s m args below meth c Q P shM 35 A 2 83 y []) st) : W p l e R s m args below meth c H locs 0 0 Q (F0 m 33 ls []) := by
  unfold f_X12_sum_b_L21_B33 at h
  have hx := X.1.1
  have hb := X.1.2.1
  have hown := X.1.2.2.2.1
  have hts := X.1.2.2.2.2
  refine lv_aload_n hx hb dX12_sum_33 rfl (lv_at hl 0 rfl) ?_
  refine lv_dup hx hb dX12_sum_34 rfl ?_
  refine sg_geti X I fk_X12_130 (by decide) shM_0 rfl dX12_sum_35 ?_
  refine lv_iconst (v := 1) hx hb dX12_sum_38 (by decide) ?_
  refine lv_iadd hx hb dX12_sum_39 ?_
  refine sg_puti X I fk_X12_130 wk_12_3 rfl rfl (by decide) shM_0 rfl h dX12_sum_40 (fun s3 H locs h I => ?_)
  refine lv_aload_n hx hb dX12_sum_43 rfl (lv_at hl 0 rfl) ?_
  refine sg_callVv (As := []) X I mk_X12_180 (by omega) (by decide) shM_0 rfl (fun q9 e9 => c_X12_term hlv hrec e9) h hl.1 rfl rfl (Nat.le_of_ble_eq_true rfl) dX12_sum_44 (fun v4 s5 H locs h I => ?_)
  refine lv_aload_n hx hb dX12_sum_47 rfl (lv_at hl 0 rfl) ?_
  refine lv_iload_n hx hb dX12_sum_48 rfl (lv_at hl 1 rfl) ?_
  refine lv_bipush (v := 43) hx hb dX12_sum_49 (by decide) ?_
  refine lv_icmp_ne (tgt := 58) hx hb dX12_sum_51 (by decide) (fun z => ?_) (fun z => ?_)
  · have h := sg_iff h z
    refine lv_iconst (v := 3) hx hb dX12_sum_58 (by decide) ?_
    exact b_X12_sum_b_L21_B59 X hlv hrec I (lv_sub hl [0] rfl) h hk
  · have h := sg_ift h z
    refine lv_iconst (v := 2) hx hb dX12_sum_54 (by decide) ?_
    refine lv_goto (tgt := 59) hx hb dX12_sum_55 (by decide) ?_
    exact b_X12_sum_b_L21_B59 X hlv hrec I (lv_sub hl [0] rfl) h hk
def f_X12_sum_b_L21 (N : Nat) (rec : sgS → Option (Int32 × sgS)) (x1 : Int32) (σ : sgS) : Option ((Int32 × sgS) ⊕ ((sgS × Int32) ⊕ (sgS))) :=
  if x1 = 43 then
  (f_X12_sum_b_L21_B33 N rec x1 σ)
else
  (if x1 = 45 then
    (f_X12_sum_b_L21_B33 N rec x1 σ)
  else
    (some (.inr (.inr σ))))
set_option maxHeartbeats 4000000 in
set_option maxRecDepth 100000 in
theorem b_X12_sum_b_L21 {p : Program} {l : Launch} {e : Env} {R : Room} {s : State} {m : MethodId} {args : Array Value} {below : List Frame} {meth : Method} {c : Code} {Q : State → Prop} {P : sgP} {A : Nat → Prop} {lv : Nat} {N : Nat} {rec : sgS → Option (Int32 × sgS)} {x1 : Int32} {σ : sgS} (X : sg_C P A (lv + 3) p R s m args c cX12_sum 2 RX12) (hlv : 4 ≤ lv) (hrec : ∀ (σ : sgS) (q : Int32 × sgS), rec σ = some q → sg_Mv P shM 35 l yX12_sum cX12_sum 2 none lv [.ref (sgA P 0)] σ q) {H : Heap} {locs : List Loc} (I : sg_I P shM 35 A s.heap σ H locs) {ls : Array Slot} (hl : lv_has ls 2 [(0, .ref (sgA P 0)), (1, .int x1)]) {st : (Int32 × sgS) ⊕ ((sgS × Int32) ⊕ (sgS))} (h : f_X12_sum_b_L21 N rec x1 σ = some st) (hk : sg_k3 (sg_Rv p l e R s m args below meth c Q P shM 35 A cX12_sum) (fun x => sg_Wt p l e R s m args below meth c Q P shM 35 A 2 21 x.1 [(0, .ref (sgA P 0)), (1, .int x.2)]) (fun y => sg_Wt p l e R s m args below meth c Q P shM 35 A 2 83 y []) st) : W p l e R s m args below meth c H locs 0 0 Q (F0 m 21 ls []) := by
  unfold f_X12_sum_b_L21 at h
  have hx := X.1.1
  have hb := X.1.2.1
  have hown := X.1.2.2.2.1
  have hts := X.1.2.2.2.2
  refine lv_iload_n hx hb dX12_sum_21 rfl (lv_at hl 1 rfl) ?_
  refine lv_bipush (v := 43) hx hb dX12_sum_22 (by decide) ?_
  refine lv_icmp_eq (tgt := 33) hx hb dX12_sum_24 (by decide) (fun z => ?_) (fun z => ?_)
  · have h := sg_ift h z
    exact b_X12_sum_b_L21_B33 X hlv hrec I (lv_sub hl [0, 1] rfl) h hk
  · have h := sg_iff h z
    refine lv_iload_n hx hb dX12_sum_27 rfl (lv_at hl 1 rfl) ?_
    refine lv_bipush (v := 45) hx hb dX12_sum_28 (by decide) ?_
    refine lv_icmp_ne (tgt := 83) hx hb dX12_sum_30 (by decide) (fun z => ?_) (fun z => ?_)
    · have h := sg_iff h z
      obtain rfl := Option.some.inj h
      exact sg_go hk I (lv_sub hl [] rfl)
    · have h := sg_ift h z
      exact b_X12_sum_b_L21_B33 X hlv hrec I (lv_sub hl [0, 1] rfl) h hk
def f_X12_sum_b_B20 (N : Nat) (rec : sgS → Option (Int32 × sgS)) (k0 : Int32) (σ : sgS) : Option (Int32 × sgS) :=
  sg_lb (sg_lp (fun x => f_X12_sum_b_L21 N rec x.2 x.1) N ((σ, k0))) (fun r => some r) fun y10 =>
some (0, y10)
set_option maxHeartbeats 4000000 in
set_option maxRecDepth 100000 in
theorem b_X12_sum_b_B20 {p : Program} {l : Launch} {e : Env} {R : Room} {s : State} {m : MethodId} {args : Array Value} {below : List Frame} {meth : Method} {c : Code} {Q : State → Prop} {P : sgP} {A : Nat → Prop} {lv : Nat} {N : Nat} {rec : sgS → Option (Int32 × sgS)} {k0 : Int32} {σ : sgS} (X : sg_C P A (lv + 3) p R s m args c cX12_sum 2 RX12) (hlv : 4 ≤ lv) (hrec : ∀ (σ : sgS) (q : Int32 × sgS), rec σ = some q → sg_Mv P shM 35 l yX12_sum cX12_sum 2 none lv [.ref (sgA P 0)] σ q) {H : Heap} {locs : List Loc} (I : sg_I P shM 35 A s.heap σ H locs) {ls : Array Slot} (hl : lv_has ls 2 [(0, .ref (sgA P 0))]) {st : Int32 × sgS} (h : f_X12_sum_b_B20 N rec k0 σ = some st) (hk : sg_Rv p l e R s m args below meth c Q P shM 35 A cX12_sum st) : W p l e R s m args below meth c H locs 0 0 Q (F0 m 20 ls [.int k0]) := by
  unfold f_X12_sum_b_B20 at h
  have hx := X.1.1
  have hb := X.1.2.1
  have hown := X.1.2.2.2.1
  have hts := X.1.2.2.2.2
  refine lv_istore_n (lv' := [(1, .int k0), (0, .ref (sgA P 0))]) hx hb dX12_sum_20 rfl hl (by decide) rfl (fun ls hl => ?_)
  obtain ⟨res, e9, k9⟩ := sg_lb_some h
  refine sg_go (sg_lp_W (a := (sg_Rv p l e R s m args below meth c Q P shM 35 A cX12_sum)) (w := (fun x => sg_Wt p l e R s m args below meth c Q P shM 35 A 2 21 x.1 [(0, .ref (sgA P 0)), (1, .int x.2)])) (c := (fun y => sg_Wt p l e R s m args below meth c Q P shM 35 A 2 83 y [])) (fun x st hb9 hk9 => ?_) N ((σ, k0)) res e9 (sg_k2_mono k9 (fun r h => ?_) (fun y10 h => ?_))) I (lv_sub hl [1, 0] rfl)
  · intro H locs ls I hl
    exact b_X12_sum_b_L21 X hlv hrec I hl hb9 hk9
  · obtain rfl := Option.some.inj h
    exact hk
  · intro H locs ls I hl
    obtain rfl := Option.some.inj h
    exact hk _ _ _ _ I dX12_sum_83
def f_X12_sum_b (N : Nat) (rec : sgS → Option (Int32 × sgS)) (σ : sgS) : Option (Int32 × sgS) :=
  sg_cl (f_X12_term N rec σ) fun v1 s2 =>
if (s2.1 0 4) = ((-1)) then
  (sg_cl (f_X12_look N s2) fun v11 s12 =>
  f_X12_sum_b_B20 N rec v11 s12)
else
  (f_X12_sum_b_B20 N rec ((-1)) s2)
set_option maxHeartbeats 4000000 in
set_option maxRecDepth 100000 in
theorem b_X12_sum_b {p : Program} {l : Launch} {e : Env} {R : Room} {s : State} {m : MethodId} {args : Array Value} {below : List Frame} {meth : Method} {c : Code} {Q : State → Prop} {P : sgP} {A : Nat → Prop} {lv : Nat} {N : Nat} {rec : sgS → Option (Int32 × sgS)} {σ : sgS} (X : sg_C P A (lv + 3) p R s m args c cX12_sum 2 RX12) (hlv : 4 ≤ lv) (hrec : ∀ (σ : sgS) (q : Int32 × sgS), rec σ = some q → sg_Mv P shM 35 l yX12_sum cX12_sum 2 none lv [.ref (sgA P 0)] σ q) {H : Heap} {locs : List Loc} (I : sg_I P shM 35 A s.heap σ H locs) {ls : Array Slot} (hl : lv_has ls 2 [(0, .ref (sgA P 0))]) {st : Int32 × sgS} (h : f_X12_sum_b N rec σ = some st) (hk : sg_Rv p l e R s m args below meth c Q P shM 35 A cX12_sum st) : W p l e R s m args below meth c H locs 0 0 Q (F0 m 0 ls []) := by
  unfold f_X12_sum_b at h
  have hx := X.1.1
  have hb := X.1.2.1
  have hown := X.1.2.2.2.1
  have hts := X.1.2.2.2.2
  refine lv_aload_n hx hb dX12_sum_0 rfl (lv_at hl 0 rfl) ?_
  refine sg_callVv (As := []) X I mk_X12_180 (by omega) (by decide) shM_0 rfl (fun q9 e9 => c_X12_term hlv hrec e9) h hl.1 rfl rfl (Nat.le_of_ble_eq_true rfl) dX12_sum_1 (fun v1 s2 H locs h I => ?_)
  refine lv_aload_n hx hb dX12_sum_4 rfl (lv_at hl 0 rfl) ?_
  refine sg_geti X I fk_X12_137 (by decide) shM_0 rfl dX12_sum_5 ?_
  refine lv_iconst (v := -1) hx hb dX12_sum_8 (by decide) ?_
  refine lv_icmp_ne (tgt := 19) hx hb dX12_sum_9 (by decide) (fun z => ?_) (fun z => ?_)
  · have h := sg_iff h z
    refine lv_iconst (v := -1) hx hb dX12_sum_19 (by decide) ?_
    exact b_X12_sum_b_B20 X hlv hrec I (lv_sub hl [0] rfl) h hk
  · have h := sg_ift h z
    refine lv_aload_n hx hb dX12_sum_12 rfl (lv_at hl 0 rfl) ?_
    refine sg_callV (As := []) X I mk_X12_149 (by omega) (by decide) shM_0 rfl (fun q9 e9 => c_X12_look e9) h hl.1 rfl rfl (Nat.le_of_ble_eq_true rfl) dX12_sum_13 (fun v11 s12 H locs h I => ?_)
    refine lv_goto (tgt := 20) hx hb dX12_sum_16 (by decide) ?_
    exact b_X12_sum_b_B20 X hlv hrec I (lv_sub hl [0] rfl) h hk
set_option maxHeartbeats 4000000 in
set_option maxRecDepth 100000 in
theorem c_X12_sum_b {l : Launch} {P : sgP} {lv : Nat} {N : Nat} {rec : sgS → Option (Int32 × sgS)} {σ : sgS} (hlv : 4 ≤ lv) (hrec : ∀ (σ : sgS) (q : Int32 × sgS), rec σ = some q → sg_Mv P shM 35 l yX12_sum cX12_sum 2 none lv [.ref (sgA P 0)] σ q) {q : Int32 × sgS} (h : f_X12_sum_b N rec σ = some q) : sg_Mv P shM 35 l yX12_sum cX12_sum 2 none (lv + 3) [.ref (sgA P 0)] σ q := by
  refine sg_mkv (plainFor_of_name (by decide +kernel)) (Nat.le_of_ble_eq_true rfl) ?_
  intro p e R s m args below meth c Q A ls H locs X I hl hk
  exact b_X12_sum_b X hlv hrec I hl h hk
def f_X12_sum : Nat → Nat → sgS → Option (Int32 × sgS)
  | 0, _, _ => none
  | d + 1, N, σ => f_X12_sum_b N (f_X12_sum d N) σ
set_option maxHeartbeats 4000000 in
set_option maxRecDepth 100000 in
theorem cd_X12_sum {l : Launch} {P : sgP} {N : Nat} : ∀ (d : Nat) (σ : sgS) (q : Int32 × sgS), f_X12_sum d N σ = some q → sg_Mv P shM 35 l yX12_sum cX12_sum 2 none (4 + 3 * d) [.ref (sgA P 0)] σ q := by
  intro d
  induction d with
  | zero => intro σ q h; cases h
  | succ d ih =>
    intro σ q h
    have e : 4 + 3 * (d + 1) = 4 + 3 * d + 3 := by omega
    rw [e]
    exact c_X12_sum_b (by omega) ih h
set_option maxHeartbeats 4000000 in
set_option maxRecDepth 100000 in
theorem c_X12_sum {l : Launch} {P : sgP} {N : Nat} {σ : sgS} {q : Int32 × sgS} (h : f_X12_sum 40 N σ = some q) : sg_Mv P shM 35 l yX12_sum cX12_sum 2 none 124 [.ref (sgA P 0)] σ q := cd_X12_sum 40 σ q h
def f_X12_isSign (N : Nat) (p0 : Int32) (σ : sgS) : Option (Int32) :=
  if p0 = 61 then
  (some (vp_nar .boolean 1))
else
  (if p0 = 60 then
    (some (vp_nar .boolean 1))
  else
    (if p0 = 62 then
      (some (vp_nar .boolean 1))
    else
      (some (vp_nar .boolean 0))))
set_option maxHeartbeats 4000000 in
set_option maxRecDepth 100000 in
theorem b_X12_isSign {p : Program} {l : Launch} {e : Env} {R : Room} {s : State} {m : MethodId} {args : Array Value} {below : List Frame} {meth : Method} {c : Code} {Q : State → Prop} {P : sgP} {A : Nat → Prop} {N : Nat} {p0 : Int32} {σ : sgS} (X : sg_C P A 1 p R s m args c cX12_isSign 1 RX12) {H : Heap} {locs : List Loc} (I : sg_I P shM 35 A s.heap σ H locs) {ls : Array Slot} (hl : lv_has ls 1 [(0, .int p0)]) {st : Int32} (h : f_X12_isSign N p0 σ = some st) (hk : sg_Ri p l e R s m args below meth c Q P shM 35 A cX12_isSign (some .boolean) (st, σ)) : W p l e R s m args below meth c H locs 0 0 Q (F0 m 0 ls []) := by
  unfold f_X12_isSign at h
  have hx := X.1.1
  have hb := X.1.2.1
  have hown := X.1.2.2.2.1
  have hts := X.1.2.2.2.2
  refine lv_iload_n hx hb dX12_isSign_0 rfl (lv_at hl 0 rfl) ?_
  refine lv_bipush (v := 61) hx hb dX12_isSign_1 (by decide) ?_
  refine lv_icmp_eq (tgt := 18) hx hb dX12_isSign_3 (by decide) (fun z => ?_) (fun z => ?_)
  · have h := sg_ift h z
    refine lv_iconst (v := 1) hx hb dX12_isSign_18 (by decide) ?_
    refine lv_goto (tgt := 23) hx hb dX12_isSign_19 (by decide) ?_
    obtain rfl := Option.some.inj h
    exact hk _ _ _ _ _ I ⟨_, rfl, rfl⟩ dX12_isSign_23
  · have h := sg_iff h z
    refine lv_iload_n hx hb dX12_isSign_6 rfl (lv_at hl 0 rfl) ?_
    refine lv_bipush (v := 60) hx hb dX12_isSign_7 (by decide) ?_
    refine lv_icmp_eq (tgt := 18) hx hb dX12_isSign_9 (by decide) (fun z => ?_) (fun z => ?_)
    · have h := sg_ift h z
      refine lv_iconst (v := 1) hx hb dX12_isSign_18 (by decide) ?_
      refine lv_goto (tgt := 23) hx hb dX12_isSign_19 (by decide) ?_
      obtain rfl := Option.some.inj h
      exact hk _ _ _ _ _ I ⟨_, rfl, rfl⟩ dX12_isSign_23
    · have h := sg_iff h z
      refine lv_iload_n hx hb dX12_isSign_12 rfl (lv_at hl 0 rfl) ?_
      refine lv_bipush (v := 62) hx hb dX12_isSign_13 (by decide) ?_
      refine lv_icmp_ne (tgt := 22) hx hb dX12_isSign_15 (by decide) (fun z => ?_) (fun z => ?_)
      · have h := sg_iff h z
        refine lv_iconst (v := 0) hx hb dX12_isSign_22 (by decide) ?_
        obtain rfl := Option.some.inj h
        exact hk _ _ _ _ _ I ⟨_, rfl, rfl⟩ dX12_isSign_23
      · have h := sg_ift h z
        refine lv_iconst (v := 1) hx hb dX12_isSign_18 (by decide) ?_
        refine lv_goto (tgt := 23) hx hb dX12_isSign_19 (by decide) ?_
        obtain rfl := Option.some.inj h
        exact hk _ _ _ _ _ I ⟨_, rfl, rfl⟩ dX12_isSign_23
set_option maxHeartbeats 4000000 in
set_option maxRecDepth 100000 in
theorem c_X12_isSign {l : Launch} {P : sgP} {N : Nat} {p0 : Int32} {σ : sgS} {q : Int32} (h : f_X12_isSign N p0 σ = some q) : sg_Mi P shM 35 l yX12_isSign cX12_isSign 1 (some .boolean) 1 [.int p0] σ (q, σ) := by
  refine sg_mki (plainFor_of_name (by decide +kernel)) (Nat.le_of_ble_eq_true rfl) ?_
  intro p e R s m args below meth c Q A ls H locs X I hl hk
  exact b_X12_isSign X I hl h hk
def f_X12_compare_B16 (N : Nat) (k0 : Int32) (σ : sgS) : Option (Int32 × sgS) :=
  sg_cr (f_X12_isSign N k0 σ) fun v1 =>
if v1 = 0 then
  (sg_cl (f_X12_bad N σ) fun v11 s12 =>
  some (0, s12))
else
  (sg_pf σ 0 3 ((σ.1 0 3) + 1) fun s2 =>
  sg_cl (f_X12_sum 40 N s2) fun v3 s4 =>
  if k0 = 61 then
    (sg_cl (f_X12_put N 6 0 s4) fun v9 s10 =>
    some (0, s10))
  else
    (if k0 = 60 then
      (sg_cl (f_X12_put N 7 0 s4) fun v7 s8 =>
      some (0, s8))
    else
      (sg_cl (f_X12_put N 8 0 s4) fun v5 s6 =>
      some (0, s6))))
set_option maxHeartbeats 4000000 in
set_option maxRecDepth 100000 in
theorem b_X12_compare_B16 {p : Program} {l : Launch} {e : Env} {R : Room} {s : State} {m : MethodId} {args : Array Value} {below : List Frame} {meth : Method} {c : Code} {Q : State → Prop} {P : sgP} {A : Nat → Prop} {N : Nat} {k0 : Int32} {σ : sgS} (X : sg_C P A 125 p R s m args c cX12_compare 2 RX12) {H : Heap} {locs : List Loc} (I : sg_I P shM 35 A s.heap σ H locs) {ls : Array Slot} (hl : lv_has ls 2 [(0, .ref (sgA P 0))]) {st : Int32 × sgS} (h : f_X12_compare_B16 N k0 σ = some st) (hk : sg_Rv p l e R s m args below meth c Q P shM 35 A cX12_compare st) : W p l e R s m args below meth c H locs 0 0 Q (F0 m 16 ls [.int k0]) := by
  unfold f_X12_compare_B16 at h
  have hx := X.1.1
  have hb := X.1.2.1
  have hown := X.1.2.2.2.1
  have hts := X.1.2.2.2.2
  refine lv_istore_n (lv' := [(1, .int k0), (0, .ref (sgA P 0))]) hx hb dX12_compare_16 rfl hl (by decide) rfl (fun ls hl => ?_)
  refine lv_iload_n hx hb dX12_compare_17 rfl (lv_at hl 0 rfl) ?_
  refine sg_callSr (As := [.int k0]) X I mk_X12_183 (by decide) (fun q9 e9 => c_X12_isSign e9) h hl.1 rfl rfl (Nat.le_of_ble_eq_true rfl) dX12_compare_18 (fun v1 H locs h I => ?_)
  refine lv_if_ne (tgt := 29) hx hb dX12_compare_21 (by decide) (fun z => ?_) (fun z => ?_)
  · have h := sg_iff h z
    refine lv_aload_n hx hb dX12_compare_29 rfl (lv_at hl 1 rfl) ?_
    refine lv_dup hx hb dX12_compare_30 rfl ?_
    refine sg_geti X I fk_X12_130 (by decide) shM_0 rfl dX12_compare_31 ?_
    refine lv_iconst (v := 1) hx hb dX12_compare_34 (by decide) ?_
    refine lv_iadd hx hb dX12_compare_35 ?_
    refine sg_puti X I fk_X12_130 wk_12_3 rfl rfl (by decide) shM_0 rfl h dX12_compare_36 (fun s2 H locs h I => ?_)
    refine lv_aload_n hx hb dX12_compare_39 rfl (lv_at hl 1 rfl) ?_
    refine sg_callVv (As := []) X I mk_X12_170 (by decide) (by decide) shM_0 rfl (fun q9 e9 => c_X12_sum e9) h hl.1 rfl rfl (Nat.le_of_ble_eq_true rfl) dX12_compare_40 (fun v3 s4 H locs h I => ?_)
    refine lv_aload_n hx hb dX12_compare_43 rfl (lv_at hl 1 rfl) ?_
    refine lv_iload_n hx hb dX12_compare_44 rfl (lv_at hl 0 rfl) ?_
    refine lv_bipush (v := 61) hx hb dX12_compare_45 (by decide) ?_
    refine lv_icmp_ne (tgt := 55) hx hb dX12_compare_47 (by decide) (fun z => ?_) (fun z => ?_)
    · have h := sg_iff h z
      refine lv_iload_n hx hb dX12_compare_55 rfl (lv_at hl 0 rfl) ?_
      refine lv_bipush (v := 60) hx hb dX12_compare_56 (by decide) ?_
      refine lv_icmp_ne (tgt := 66) hx hb dX12_compare_58 (by decide) (fun z => ?_) (fun z => ?_)
      · have h := sg_iff h z
        refine lv_bipush (v := 8) hx hb dX12_compare_66 (by decide) ?_
        refine lv_iconst (v := 0) hx hb dX12_compare_68 (by decide) ?_
        refine sg_callVv (As := [.int 8, .int 0]) X I mk_X12_159 (by decide) (by decide) shM_0 rfl (fun q9 e9 => c_X12_put e9) h hl.1 rfl rfl (Nat.le_of_ble_eq_true rfl) dX12_compare_69 (fun v5 s6 H locs h I => ?_)
        obtain rfl := Option.some.inj h
        exact hk _ _ _ _ I dX12_compare_72
      · have h := sg_ift h z
        refine lv_bipush (v := 7) hx hb dX12_compare_61 (by decide) ?_
        refine lv_goto (tgt := 68) hx hb dX12_compare_63 (by decide) ?_
        refine lv_iconst (v := 0) hx hb dX12_compare_68 (by decide) ?_
        refine sg_callVv (As := [.int 7, .int 0]) X I mk_X12_159 (by decide) (by decide) shM_0 rfl (fun q9 e9 => c_X12_put e9) h hl.1 rfl rfl (Nat.le_of_ble_eq_true rfl) dX12_compare_69 (fun v7 s8 H locs h I => ?_)
        obtain rfl := Option.some.inj h
        exact hk _ _ _ _ I dX12_compare_72
    · have h := sg_ift h z
      refine lv_bipush (v := 6) hx hb dX12_compare_50 (by decide) ?_
      refine lv_goto (tgt := 68) hx hb dX12_compare_52 (by decide) ?_
      refine lv_iconst (v := 0) hx hb dX12_compare_68 (by decide) ?_
      refine sg_callVv (As := [.int 6, .int 0]) X I mk_X12_159 (by decide) (by decide) shM_0 rfl (fun q9 e9 => c_X12_put e9) h hl.1 rfl rfl (Nat.le_of_ble_eq_true rfl) dX12_compare_69 (fun v9 s10 H locs h I => ?_)
      obtain rfl := Option.some.inj h
      exact hk _ _ _ _ I dX12_compare_72
  · have h := sg_ift h z
    refine lv_aload_n hx hb dX12_compare_24 rfl (lv_at hl 1 rfl) ?_
    refine sg_callVv (As := []) X I mk_X12_146 (by decide) (by decide) shM_0 rfl (fun q9 e9 => c_X12_bad e9) h hl.1 rfl rfl (Nat.le_of_ble_eq_true rfl) dX12_compare_25 (fun v11 s12 H locs h I => ?_)
    obtain rfl := Option.some.inj h
    exact hk _ _ _ _ I dX12_compare_28
def f_X12_compare (N : Nat) (σ : sgS) : Option (Int32 × sgS) :=
  if (σ.1 0 4) = ((-1)) then
  (sg_cl (f_X12_look N σ) fun v13 s14 =>
  f_X12_compare_B16 N v13 s14)
else
  (f_X12_compare_B16 N ((-1)) σ)
set_option maxHeartbeats 4000000 in
set_option maxRecDepth 100000 in
theorem b_X12_compare {p : Program} {l : Launch} {e : Env} {R : Room} {s : State} {m : MethodId} {args : Array Value} {below : List Frame} {meth : Method} {c : Code} {Q : State → Prop} {P : sgP} {A : Nat → Prop} {N : Nat} {σ : sgS} (X : sg_C P A 125 p R s m args c cX12_compare 2 RX12) {H : Heap} {locs : List Loc} (I : sg_I P shM 35 A s.heap σ H locs) {ls : Array Slot} (hl : lv_has ls 2 [(0, .ref (sgA P 0))]) {st : Int32 × sgS} (h : f_X12_compare N σ = some st) (hk : sg_Rv p l e R s m args below meth c Q P shM 35 A cX12_compare st) : W p l e R s m args below meth c H locs 0 0 Q (F0 m 0 ls []) := by
  unfold f_X12_compare at h
  have hx := X.1.1
  have hb := X.1.2.1
  have hown := X.1.2.2.2.1
  have hts := X.1.2.2.2.2
  refine lv_aload_n hx hb dX12_compare_0 rfl (lv_at hl 0 rfl) ?_
  refine sg_geti X I fk_X12_137 (by decide) shM_0 rfl dX12_compare_1 ?_
  refine lv_iconst (v := -1) hx hb dX12_compare_4 (by decide) ?_
  refine lv_icmp_ne (tgt := 15) hx hb dX12_compare_5 (by decide) (fun z => ?_) (fun z => ?_)
  · have h := sg_iff h z
    refine lv_iconst (v := -1) hx hb dX12_compare_15 (by decide) ?_
    exact b_X12_compare_B16 X I (lv_sub hl [0] rfl) h hk
  · have h := sg_ift h z
    refine lv_aload_n hx hb dX12_compare_8 rfl (lv_at hl 0 rfl) ?_
    refine sg_callV (As := []) X I mk_X12_149 (by decide) (by decide) shM_0 rfl (fun q9 e9 => c_X12_look e9) h hl.1 rfl rfl (Nat.le_of_ble_eq_true rfl) dX12_compare_9 (fun v13 s14 H locs h I => ?_)
    refine lv_goto (tgt := 16) hx hb dX12_compare_12 (by decide) ?_
    exact b_X12_compare_B16 X I (lv_sub hl [0] rfl) h hk
set_option maxHeartbeats 4000000 in
set_option maxRecDepth 100000 in
theorem c_X12_compare {l : Launch} {P : sgP} {N : Nat} {σ : sgS} {q : Int32 × sgS} (h : f_X12_compare N σ = some q) : sg_Mv P shM 35 l yX12_compare cX12_compare 2 none 125 [.ref (sgA P 0)] σ q := by
  refine sg_mkv (plainFor_of_name (by decide +kernel)) (Nat.le_of_ble_eq_true rfl) ?_
  intro p e R s m args below meth c Q A ls H locs X I hl hk
  exact b_X12_compare X I hl h hk
def f_X12_goOnAnd_L0 (N : Nat) (rec : sgS → Option (Int32 × sgS)) (σ : sgS) : Option ((Int32 × sgS) ⊕ ((sgS) ⊕ (sgS))) :=
  if (σ.1 0 4) = ((-1)) then
  (sg_cl (f_X12_look N σ) fun v1 s2 =>
  if v1 = 38 then
    (sg_pf s2 0 3 ((s2.1 0 3) + 1) fun s3 =>
    sg_cl (rec s3) fun v4 s5 =>
    sg_cl (f_X12_put N 10 0 s5) fun v6 s7 =>
    some (.inr (.inl s7)))
  else
    (some (.inr (.inr s2))))
else
  (some (.inr (.inr σ)))
set_option maxHeartbeats 4000000 in
set_option maxRecDepth 100000 in
theorem b_X12_goOnAnd_L0 {p : Program} {l : Launch} {e : Env} {R : Room} {s : State} {m : MethodId} {args : Array Value} {below : List Frame} {meth : Method} {c : Code} {Q : State → Prop} {P : sgP} {A : Nat → Prop} {lv : Nat} {N : Nat} {rec : sgS → Option (Int32 × sgS)} {σ : sgS} (X : sg_C P A (lv + 1) p R s m args c cX12_goOnAnd 1 RX12) (hlv : 126 ≤ lv) (hrec : ∀ (σ : sgS) (q : Int32 × sgS), rec σ = some q → sg_Mv P shM 35 l yX12_unit cX12_unit 2 none lv [.ref (sgA P 0)] σ q) {H : Heap} {locs : List Loc} (I : sg_I P shM 35 A s.heap σ H locs) {ls : Array Slot} (hl : lv_has ls 1 [(0, .ref (sgA P 0))]) {st : (Int32 × sgS) ⊕ ((sgS) ⊕ (sgS))} (h : f_X12_goOnAnd_L0 N rec σ = some st) (hk : sg_k3 (sg_Rv p l e R s m args below meth c Q P shM 35 A cX12_goOnAnd) (fun x => sg_Wt p l e R s m args below meth c Q P shM 35 A 1 0 x [(0, .ref (sgA P 0))]) (fun y => sg_Wt p l e R s m args below meth c Q P shM 35 A 1 41 y []) st) : W p l e R s m args below meth c H locs 0 0 Q (F0 m 0 ls []) := by
  unfold f_X12_goOnAnd_L0 at h
  have hx := X.1.1
  have hb := X.1.2.1
  have hown := X.1.2.2.2.1
  have hts := X.1.2.2.2.2
  refine lv_aload_n hx hb dX12_goOnAnd_0 rfl (lv_at hl 0 rfl) ?_
  refine sg_geti X I fk_X12_137 (by decide) shM_0 rfl dX12_goOnAnd_1 ?_
  refine lv_iconst (v := -1) hx hb dX12_goOnAnd_4 (by decide) ?_
  refine lv_icmp_ne (tgt := 41) hx hb dX12_goOnAnd_5 (by decide) (fun z => ?_) (fun z => ?_)
  · have h := sg_iff h z
    obtain rfl := Option.some.inj h
    exact sg_go hk I (lv_sub hl [] rfl)
  · have h := sg_ift h z
    refine lv_aload_n hx hb dX12_goOnAnd_8 rfl (lv_at hl 0 rfl) ?_
    refine sg_callV (As := []) X I mk_X12_149 (by omega) (by decide) shM_0 rfl (fun q9 e9 => c_X12_look e9) h hl.1 rfl rfl (Nat.le_of_ble_eq_true rfl) dX12_goOnAnd_9 (fun v1 s2 H locs h I => ?_)
    refine lv_bipush (v := 38) hx hb dX12_goOnAnd_12 (by decide) ?_
    refine lv_icmp_ne (tgt := 41) hx hb dX12_goOnAnd_14 (by decide) (fun z => ?_) (fun z => ?_)
    · have h := sg_iff h z
      obtain rfl := Option.some.inj h
      exact sg_go hk I (lv_sub hl [] rfl)
    · have h := sg_ift h z
      refine lv_aload_n hx hb dX12_goOnAnd_17 rfl (lv_at hl 0 rfl) ?_
      refine lv_dup hx hb dX12_goOnAnd_18 rfl ?_
      refine sg_geti X I fk_X12_130 (by decide) shM_0 rfl dX12_goOnAnd_19 ?_
      refine lv_iconst (v := 1) hx hb dX12_goOnAnd_22 (by decide) ?_
      refine lv_iadd hx hb dX12_goOnAnd_23 ?_
      refine sg_puti X I fk_X12_130 wk_12_3 rfl rfl (by decide) shM_0 rfl h dX12_goOnAnd_24 (fun s3 H locs h I => ?_)
      refine lv_aload_n hx hb dX12_goOnAnd_27 rfl (lv_at hl 0 rfl) ?_
      refine sg_callVv (As := []) X I mk_X12_186 (by omega) (by decide) shM_0 rfl (fun q9 e9 => hrec _ _ e9) h hl.1 rfl rfl (Nat.le_of_ble_eq_true rfl) dX12_goOnAnd_28 (fun v4 s5 H locs h I => ?_)
      refine lv_aload_n hx hb dX12_goOnAnd_31 rfl (lv_at hl 0 rfl) ?_
      refine lv_bipush (v := 10) hx hb dX12_goOnAnd_32 (by decide) ?_
      refine lv_iconst (v := 0) hx hb dX12_goOnAnd_34 (by decide) ?_
      refine sg_callVv (As := [.int 10, .int 0]) X I mk_X12_159 (by omega) (by decide) shM_0 rfl (fun q9 e9 => c_X12_put e9) h hl.1 rfl rfl (Nat.le_of_ble_eq_true rfl) dX12_goOnAnd_35 (fun v6 s7 H locs h I => ?_)
      refine lv_goto (tgt := 0) hx hb dX12_goOnAnd_38 (by decide) ?_
      obtain rfl := Option.some.inj h
      exact sg_go hk I (lv_sub hl [0] rfl)
def f_X12_goOnAnd (N : Nat) (rec : sgS → Option (Int32 × sgS)) (σ : sgS) : Option (Int32 × sgS) :=
  sg_lb (sg_lp (fun x => f_X12_goOnAnd_L0 N rec x) N σ) (fun r => some r) fun y8 =>
some (0, y8)
set_option maxHeartbeats 4000000 in
set_option maxRecDepth 100000 in
theorem b_X12_goOnAnd {p : Program} {l : Launch} {e : Env} {R : Room} {s : State} {m : MethodId} {args : Array Value} {below : List Frame} {meth : Method} {c : Code} {Q : State → Prop} {P : sgP} {A : Nat → Prop} {lv : Nat} {N : Nat} {rec : sgS → Option (Int32 × sgS)} {σ : sgS} (X : sg_C P A (lv + 1) p R s m args c cX12_goOnAnd 1 RX12) (hlv : 126 ≤ lv) (hrec : ∀ (σ : sgS) (q : Int32 × sgS), rec σ = some q → sg_Mv P shM 35 l yX12_unit cX12_unit 2 none lv [.ref (sgA P 0)] σ q) {H : Heap} {locs : List Loc} (I : sg_I P shM 35 A s.heap σ H locs) {ls : Array Slot} (hl : lv_has ls 1 [(0, .ref (sgA P 0))]) {st : Int32 × sgS} (h : f_X12_goOnAnd N rec σ = some st) (hk : sg_Rv p l e R s m args below meth c Q P shM 35 A cX12_goOnAnd st) : W p l e R s m args below meth c H locs 0 0 Q (F0 m 0 ls []) := by
  unfold f_X12_goOnAnd at h
  have hx := X.1.1
  have hb := X.1.2.1
  have hown := X.1.2.2.2.1
  have hts := X.1.2.2.2.2
  obtain ⟨res, e9, k9⟩ := sg_lb_some h
  refine sg_go (sg_lp_W (a := (sg_Rv p l e R s m args below meth c Q P shM 35 A cX12_goOnAnd)) (w := (fun x => sg_Wt p l e R s m args below meth c Q P shM 35 A 1 0 x [(0, .ref (sgA P 0))])) (c := (fun y => sg_Wt p l e R s m args below meth c Q P shM 35 A 1 41 y [])) (fun x st hb9 hk9 => ?_) N σ res e9 (sg_k2_mono k9 (fun r h => ?_) (fun y8 h => ?_))) I (lv_sub hl [0] rfl)
  · intro H locs ls I hl
    exact b_X12_goOnAnd_L0 X hlv hrec I hl hb9 hk9
  · obtain rfl := Option.some.inj h
    exact hk
  · intro H locs ls I hl
    obtain rfl := Option.some.inj h
    exact hk _ _ _ _ I dX12_goOnAnd_41
set_option maxHeartbeats 4000000 in
set_option maxRecDepth 100000 in
theorem c_X12_goOnAnd {l : Launch} {P : sgP} {lv : Nat} {N : Nat} {rec : sgS → Option (Int32 × sgS)} {σ : sgS} (hlv : 126 ≤ lv) (hrec : ∀ (σ : sgS) (q : Int32 × sgS), rec σ = some q → sg_Mv P shM 35 l yX12_unit cX12_unit 2 none lv [.ref (sgA P 0)] σ q) {q : Int32 × sgS} (h : f_X12_goOnAnd N rec σ = some q) : sg_Mv P shM 35 l yX12_goOnAnd cX12_goOnAnd 1 none (lv + 1) [.ref (sgA P 0)] σ q := by
  refine sg_mkv (plainFor_of_name (by decide +kernel)) (Nat.le_of_ble_eq_true rfl) ?_
  intro p e R s m args below meth c Q A ls H locs X I hl hk
  exact b_X12_goOnAnd X hlv hrec I hl h hk
def f_X12_goOnOr_L0 (N : Nat) (rec : sgS → Option (Int32 × sgS)) (σ : sgS) : Option ((Int32 × sgS) ⊕ ((sgS) ⊕ (sgS))) :=
  if (σ.1 0 4) = ((-1)) then
  (sg_cl (f_X12_look N σ) fun v1 s2 =>
  if v1 = 124 then
    (sg_pf s2 0 3 ((s2.1 0 3) + 1) fun s3 =>
    sg_cl (rec s3) fun v4 s5 =>
    sg_cl (f_X12_goOnAnd N rec s5) fun v6 s7 =>
    sg_cl (f_X12_put N 11 0 s7) fun v8 s9 =>
    some (.inr (.inl s9)))
  else
    (some (.inr (.inr s2))))
else
  (some (.inr (.inr σ)))
set_option maxHeartbeats 4000000 in
set_option maxRecDepth 100000 in
theorem b_X12_goOnOr_L0 {p : Program} {l : Launch} {e : Env} {R : Room} {s : State} {m : MethodId} {args : Array Value} {below : List Frame} {meth : Method} {c : Code} {Q : State → Prop} {P : sgP} {A : Nat → Prop} {lv : Nat} {N : Nat} {rec : sgS → Option (Int32 × sgS)} {σ : sgS} (X : sg_C P A (lv + 2) p R s m args c cX12_goOnOr 1 RX12) (hlv : 126 ≤ lv) (hrec : ∀ (σ : sgS) (q : Int32 × sgS), rec σ = some q → sg_Mv P shM 35 l yX12_unit cX12_unit 2 none lv [.ref (sgA P 0)] σ q) {H : Heap} {locs : List Loc} (I : sg_I P shM 35 A s.heap σ H locs) {ls : Array Slot} (hl : lv_has ls 1 [(0, .ref (sgA P 0))]) {st : (Int32 × sgS) ⊕ ((sgS) ⊕ (sgS))} (h : f_X12_goOnOr_L0 N rec σ = some st) (hk : sg_k3 (sg_Rv p l e R s m args below meth c Q P shM 35 A cX12_goOnOr) (fun x => sg_Wt p l e R s m args below meth c Q P shM 35 A 1 0 x [(0, .ref (sgA P 0))]) (fun y => sg_Wt p l e R s m args below meth c Q P shM 35 A 1 45 y []) st) : W p l e R s m args below meth c H locs 0 0 Q (F0 m 0 ls []) := by
  unfold f_X12_goOnOr_L0 at h
  have hx := X.1.1
  have hb := X.1.2.1
  have hown := X.1.2.2.2.1
  have hts := X.1.2.2.2.2
  refine lv_aload_n hx hb dX12_goOnOr_0 rfl (lv_at hl 0 rfl) ?_
  refine sg_geti X I fk_X12_137 (by decide) shM_0 rfl dX12_goOnOr_1 ?_
  refine lv_iconst (v := -1) hx hb dX12_goOnOr_4 (by decide) ?_
  refine lv_icmp_ne (tgt := 45) hx hb dX12_goOnOr_5 (by decide) (fun z => ?_) (fun z => ?_)
  · have h := sg_iff h z
    obtain rfl := Option.some.inj h
    exact sg_go hk I (lv_sub hl [] rfl)
  · have h := sg_ift h z
    refine lv_aload_n hx hb dX12_goOnOr_8 rfl (lv_at hl 0 rfl) ?_
    refine sg_callV (As := []) X I mk_X12_149 (by omega) (by decide) shM_0 rfl (fun q9 e9 => c_X12_look e9) h hl.1 rfl rfl (Nat.le_of_ble_eq_true rfl) dX12_goOnOr_9 (fun v1 s2 H locs h I => ?_)
    refine lv_bipush (v := 124) hx hb dX12_goOnOr_12 (by decide) ?_
    refine lv_icmp_ne (tgt := 45) hx hb dX12_goOnOr_14 (by decide) (fun z => ?_) (fun z => ?_)
    · have h := sg_iff h z
      obtain rfl := Option.some.inj h
      exact sg_go hk I (lv_sub hl [] rfl)
    · have h := sg_ift h z
      refine lv_aload_n hx hb dX12_goOnOr_17 rfl (lv_at hl 0 rfl) ?_
      refine lv_dup hx hb dX12_goOnOr_18 rfl ?_
      refine sg_geti X I fk_X12_130 (by decide) shM_0 rfl dX12_goOnOr_19 ?_
      refine lv_iconst (v := 1) hx hb dX12_goOnOr_22 (by decide) ?_
      refine lv_iadd hx hb dX12_goOnOr_23 ?_
      refine sg_puti X I fk_X12_130 wk_12_3 rfl rfl (by decide) shM_0 rfl h dX12_goOnOr_24 (fun s3 H locs h I => ?_)
      refine lv_aload_n hx hb dX12_goOnOr_27 rfl (lv_at hl 0 rfl) ?_
      refine sg_callVv (As := []) X I mk_X12_186 (by omega) (by decide) shM_0 rfl (fun q9 e9 => hrec _ _ e9) h hl.1 rfl rfl (Nat.le_of_ble_eq_true rfl) dX12_goOnOr_28 (fun v4 s5 H locs h I => ?_)
      refine lv_aload_n hx hb dX12_goOnOr_31 rfl (lv_at hl 0 rfl) ?_
      refine sg_callVv (As := []) X I mk_X12_195 (by omega) (by decide) shM_0 rfl (fun q9 e9 => c_X12_goOnAnd hlv hrec e9) h hl.1 rfl rfl (Nat.le_of_ble_eq_true rfl) dX12_goOnOr_32 (fun v6 s7 H locs h I => ?_)
      refine lv_aload_n hx hb dX12_goOnOr_35 rfl (lv_at hl 0 rfl) ?_
      refine lv_bipush (v := 11) hx hb dX12_goOnOr_36 (by decide) ?_
      refine lv_iconst (v := 0) hx hb dX12_goOnOr_38 (by decide) ?_
      refine sg_callVv (As := [.int 11, .int 0]) X I mk_X12_159 (by omega) (by decide) shM_0 rfl (fun q9 e9 => c_X12_put e9) h hl.1 rfl rfl (Nat.le_of_ble_eq_true rfl) dX12_goOnOr_39 (fun v8 s9 H locs h I => ?_)
      refine lv_goto (tgt := 0) hx hb dX12_goOnOr_42 (by decide) ?_
      obtain rfl := Option.some.inj h
      exact sg_go hk I (lv_sub hl [0] rfl)
def f_X12_goOnOr (N : Nat) (rec : sgS → Option (Int32 × sgS)) (σ : sgS) : Option (Int32 × sgS) :=
  sg_lb (sg_lp (fun x => f_X12_goOnOr_L0 N rec x) N σ) (fun r => some r) fun y10 =>
some (0, y10)
set_option maxHeartbeats 4000000 in
set_option maxRecDepth 100000 in
theorem b_X12_goOnOr {p : Program} {l : Launch} {e : Env} {R : Room} {s : State} {m : MethodId} {args : Array Value} {below : List Frame} {meth : Method} {c : Code} {Q : State → Prop} {P : sgP} {A : Nat → Prop} {lv : Nat} {N : Nat} {rec : sgS → Option (Int32 × sgS)} {σ : sgS} (X : sg_C P A (lv + 2) p R s m args c cX12_goOnOr 1 RX12) (hlv : 126 ≤ lv) (hrec : ∀ (σ : sgS) (q : Int32 × sgS), rec σ = some q → sg_Mv P shM 35 l yX12_unit cX12_unit 2 none lv [.ref (sgA P 0)] σ q) {H : Heap} {locs : List Loc} (I : sg_I P shM 35 A s.heap σ H locs) {ls : Array Slot} (hl : lv_has ls 1 [(0, .ref (sgA P 0))]) {st : Int32 × sgS} (h : f_X12_goOnOr N rec σ = some st) (hk : sg_Rv p l e R s m args below meth c Q P shM 35 A cX12_goOnOr st) : W p l e R s m args below meth c H locs 0 0 Q (F0 m 0 ls []) := by
  unfold f_X12_goOnOr at h
  have hx := X.1.1
  have hb := X.1.2.1
  have hown := X.1.2.2.2.1
  have hts := X.1.2.2.2.2
  obtain ⟨res, e9, k9⟩ := sg_lb_some h
  refine sg_go (sg_lp_W (a := (sg_Rv p l e R s m args below meth c Q P shM 35 A cX12_goOnOr)) (w := (fun x => sg_Wt p l e R s m args below meth c Q P shM 35 A 1 0 x [(0, .ref (sgA P 0))])) (c := (fun y => sg_Wt p l e R s m args below meth c Q P shM 35 A 1 45 y [])) (fun x st hb9 hk9 => ?_) N σ res e9 (sg_k2_mono k9 (fun r h => ?_) (fun y10 h => ?_))) I (lv_sub hl [0] rfl)
  · intro H locs ls I hl
    exact b_X12_goOnOr_L0 X hlv hrec I hl hb9 hk9
  · obtain rfl := Option.some.inj h
    exact hk
  · intro H locs ls I hl
    obtain rfl := Option.some.inj h
    exact hk _ _ _ _ I dX12_goOnOr_45
set_option maxHeartbeats 4000000 in
set_option maxRecDepth 100000 in
theorem c_X12_goOnOr {l : Launch} {P : sgP} {lv : Nat} {N : Nat} {rec : sgS → Option (Int32 × sgS)} {σ : sgS} (hlv : 126 ≤ lv) (hrec : ∀ (σ : sgS) (q : Int32 × sgS), rec σ = some q → sg_Mv P shM 35 l yX12_unit cX12_unit 2 none lv [.ref (sgA P 0)] σ q) {q : Int32 × sgS} (h : f_X12_goOnOr N rec σ = some q) : sg_Mv P shM 35 l yX12_goOnOr cX12_goOnOr 1 none (lv + 2) [.ref (sgA P 0)] σ q := by
  refine sg_mkv (plainFor_of_name (by decide +kernel)) (Nat.le_of_ble_eq_true rfl) ?_
  intro p e R s m args below meth c Q A ls H locs X I hl hk
  exact b_X12_goOnOr X hlv hrec I hl h hk
def f_X12_condition (N : Nat) (rec : sgS → Option (Int32 × sgS)) (σ : sgS) : Option (Int32 × sgS) :=
  sg_cl (rec σ) fun v1 s2 =>
sg_cl (f_X12_goOnAnd N rec s2) fun v3 s4 =>
sg_cl (f_X12_goOnOr N rec s4) fun v5 s6 =>
some (0, s6)
set_option maxHeartbeats 4000000 in
set_option maxRecDepth 100000 in
theorem b_X12_condition {p : Program} {l : Launch} {e : Env} {R : Room} {s : State} {m : MethodId} {args : Array Value} {below : List Frame} {meth : Method} {c : Code} {Q : State → Prop} {P : sgP} {A : Nat → Prop} {lv : Nat} {N : Nat} {rec : sgS → Option (Int32 × sgS)} {σ : sgS} (X : sg_C P A (lv + 3) p R s m args c cX12_condition 1 RX12) (hlv : 126 ≤ lv) (hrec : ∀ (σ : sgS) (q : Int32 × sgS), rec σ = some q → sg_Mv P shM 35 l yX12_unit cX12_unit 2 none lv [.ref (sgA P 0)] σ q) {H : Heap} {locs : List Loc} (I : sg_I P shM 35 A s.heap σ H locs) {ls : Array Slot} (hl : lv_has ls 1 [(0, .ref (sgA P 0))]) {st : Int32 × sgS} (h : f_X12_condition N rec σ = some st) (hk : sg_Rv p l e R s m args below meth c Q P shM 35 A cX12_condition st) : W p l e R s m args below meth c H locs 0 0 Q (F0 m 0 ls []) := by
  unfold f_X12_condition at h
  have hx := X.1.1
  have hb := X.1.2.1
  have hown := X.1.2.2.2.1
  have hts := X.1.2.2.2.2
  refine lv_aload_n hx hb dX12_condition_0 rfl (lv_at hl 0 rfl) ?_
  refine sg_callVv (As := []) X I mk_X12_186 (by omega) (by decide) shM_0 rfl (fun q9 e9 => hrec _ _ e9) h hl.1 rfl rfl (Nat.le_of_ble_eq_true rfl) dX12_condition_1 (fun v1 s2 H locs h I => ?_)
  refine lv_aload_n hx hb dX12_condition_4 rfl (lv_at hl 0 rfl) ?_
  refine sg_callVv (As := []) X I mk_X12_195 (by omega) (by decide) shM_0 rfl (fun q9 e9 => c_X12_goOnAnd hlv hrec e9) h hl.1 rfl rfl (Nat.le_of_ble_eq_true rfl) dX12_condition_5 (fun v3 s4 H locs h I => ?_)
  refine lv_aload_n hx hb dX12_condition_8 rfl (lv_at hl 0 rfl) ?_
  refine sg_callVv (As := []) X I mk_X12_198 (by omega) (by decide) shM_0 rfl (fun q9 e9 => c_X12_goOnOr hlv hrec e9) h hl.1 rfl rfl (Nat.le_of_ble_eq_true rfl) dX12_condition_9 (fun v5 s6 H locs h I => ?_)
  obtain rfl := Option.some.inj h
  exact hk _ _ _ _ I dX12_condition_12
set_option maxHeartbeats 4000000 in
set_option maxRecDepth 100000 in
theorem c_X12_condition {l : Launch} {P : sgP} {lv : Nat} {N : Nat} {rec : sgS → Option (Int32 × sgS)} {σ : sgS} (hlv : 126 ≤ lv) (hrec : ∀ (σ : sgS) (q : Int32 × sgS), rec σ = some q → sg_Mv P shM 35 l yX12_unit cX12_unit 2 none lv [.ref (sgA P 0)] σ q) {q : Int32 × sgS} (h : f_X12_condition N rec σ = some q) : sg_Mv P shM 35 l yX12_condition cX12_condition 1 none (lv + 3) [.ref (sgA P 0)] σ q := by
  refine sg_mkv (plainFor_of_name (by decide +kernel)) (Nat.le_of_ble_eq_true rfl) ?_
  intro p e R s m args below meth c Q A ls H locs X I hl hk
  exact b_X12_condition X hlv hrec I hl h hk
def f_X12_unit_b (N : Nat) (rec : sgS → Option (Int32 × sgS)) (σ : sgS) : Option (Int32 × sgS) :=
  sg_cl (f_X12_look N σ) fun v1 s2 =>
if v1 = 33 then
  (sg_cl (f_X12_opens N s2) fun v13 s14 =>
  if (s14.1 0 4) = ((-1)) then
    (sg_cl (rec s14) fun v15 s16 =>
    sg_cl (f_X12_put N 9 0 s16) fun v17 s18 =>
    sg_pf s18 0 5 ((s18.1 0 5) - 1) fun s19 =>
    some (0, s19))
  else
    (some (0, s14)))
else
  (if v1 = 40 then
    (sg_cl (f_X12_opens N s2) fun v7 s8 =>
    if (s8.1 0 4) = ((-1)) then
      (sg_cl (f_X12_condition N rec s8) fun v9 s10 =>
      sg_cl (f_X12_closes N 41 s10) fun v11 s12 =>
      some (0, s12))
    else
      (some (0, s8)))
  else
    (sg_cl (f_X12_sum 40 N s2) fun v3 s4 =>
    if (s4.1 0 4) = ((-1)) then
      (sg_cl (f_X12_compare N s4) fun v5 s6 =>
      some (0, s6))
    else
      (some (0, s4))))
set_option maxHeartbeats 4000000 in
set_option maxRecDepth 100000 in
theorem b_X12_unit_b {p : Program} {l : Launch} {e : Env} {R : Room} {s : State} {m : MethodId} {args : Array Value} {below : List Frame} {meth : Method} {c : Code} {Q : State → Prop} {P : sgP} {A : Nat → Prop} {lv : Nat} {N : Nat} {rec : sgS → Option (Int32 × sgS)} {σ : sgS} (X : sg_C P A (lv + 4) p R s m args c cX12_unit 2 RX12) (hlv : 126 ≤ lv) (hrec : ∀ (σ : sgS) (q : Int32 × sgS), rec σ = some q → sg_Mv P shM 35 l yX12_unit cX12_unit 2 none lv [.ref (sgA P 0)] σ q) {H : Heap} {locs : List Loc} (I : sg_I P shM 35 A s.heap σ H locs) {ls : Array Slot} (hl : lv_has ls 2 [(0, .ref (sgA P 0))]) {st : Int32 × sgS} (h : f_X12_unit_b N rec σ = some st) (hk : sg_Rv p l e R s m args below meth c Q P shM 35 A cX12_unit st) : W p l e R s m args below meth c H locs 0 0 Q (F0 m 0 ls []) := by
  unfold f_X12_unit_b at h
  have hx := X.1.1
  have hb := X.1.2.1
  have hown := X.1.2.2.2.1
  have hts := X.1.2.2.2.2
  refine lv_aload_n hx hb dX12_unit_0 rfl (lv_at hl 0 rfl) ?_
  refine sg_callV (As := []) X I mk_X12_149 (by omega) (by decide) shM_0 rfl (fun q9 e9 => c_X12_look e9) h hl.1 rfl rfl (Nat.le_of_ble_eq_true rfl) dX12_unit_1 (fun v1 s2 H locs h I => ?_)
  refine lv_istore_n (lv' := [(1, .int v1), (0, .ref (sgA P 0))]) hx hb dX12_unit_4 rfl hl (by decide) rfl (fun ls hl => ?_)
  refine lv_iload_n hx hb dX12_unit_5 rfl (lv_at hl 0 rfl) ?_
  refine lv_bipush (v := 33) hx hb dX12_unit_6 (by decide) ?_
  refine lv_icmp_ne (tgt := 47) hx hb dX12_unit_8 (by decide) (fun z => ?_) (fun z => ?_)
  · have h := sg_iff h z
    refine lv_iload_n hx hb dX12_unit_47 rfl (lv_at hl 0 rfl) ?_
    refine lv_bipush (v := 40) hx hb dX12_unit_48 (by decide) ?_
    refine lv_icmp_ne (tgt := 78) hx hb dX12_unit_50 (by decide) (fun z => ?_) (fun z => ?_)
    · have h := sg_iff h z
      refine lv_aload_n hx hb dX12_unit_78 rfl (lv_at hl 1 rfl) ?_
      refine sg_callVv (As := []) X I mk_X12_170 (by omega) (by decide) shM_0 rfl (fun q9 e9 => c_X12_sum e9) h hl.1 rfl rfl (Nat.le_of_ble_eq_true rfl) dX12_unit_79 (fun v3 s4 H locs h I => ?_)
      refine lv_aload_n hx hb dX12_unit_82 rfl (lv_at hl 1 rfl) ?_
      refine sg_geti X I fk_X12_137 (by decide) shM_0 rfl dX12_unit_83 ?_
      refine lv_iconst (v := -1) hx hb dX12_unit_86 (by decide) ?_
      refine lv_icmp_ne (tgt := 94) hx hb dX12_unit_87 (by decide) (fun z => ?_) (fun z => ?_)
      · have h := sg_iff h z
        obtain rfl := Option.some.inj h
        exact hk _ _ _ _ I dX12_unit_94
      · have h := sg_ift h z
        refine lv_aload_n hx hb dX12_unit_90 rfl (lv_at hl 1 rfl) ?_
        refine sg_callVv (As := []) X I mk_X12_192 (by omega) (by decide) shM_0 rfl (fun q9 e9 => c_X12_compare e9) h hl.1 rfl rfl (Nat.le_of_ble_eq_true rfl) dX12_unit_91 (fun v5 s6 H locs h I => ?_)
        obtain rfl := Option.some.inj h
        exact hk _ _ _ _ I dX12_unit_94
    · have h := sg_ift h z
      refine lv_aload_n hx hb dX12_unit_53 rfl (lv_at hl 1 rfl) ?_
      refine sg_callVv (As := []) X I mk_X12_167 (by omega) (by decide) shM_0 rfl (fun q9 e9 => c_X12_opens e9) h hl.1 rfl rfl (Nat.le_of_ble_eq_true rfl) dX12_unit_54 (fun v7 s8 H locs h I => ?_)
      refine lv_aload_n hx hb dX12_unit_57 rfl (lv_at hl 1 rfl) ?_
      refine sg_geti X I fk_X12_137 (by decide) shM_0 rfl dX12_unit_58 ?_
      refine lv_iconst (v := -1) hx hb dX12_unit_61 (by decide) ?_
      refine lv_icmp_ne (tgt := 94) hx hb dX12_unit_62 (by decide) (fun z => ?_) (fun z => ?_)
      · have h := sg_iff h z
        obtain rfl := Option.some.inj h
        exact hk _ _ _ _ I dX12_unit_94
      · have h := sg_ift h z
        refine lv_aload_n hx hb dX12_unit_65 rfl (lv_at hl 1 rfl) ?_
        refine sg_callVv (As := []) X I mk_X12_189 (by omega) (by decide) shM_0 rfl (fun q9 e9 => c_X12_condition hlv hrec e9) h hl.1 rfl rfl (Nat.le_of_ble_eq_true rfl) dX12_unit_66 (fun v9 s10 H locs h I => ?_)
        refine lv_aload_n hx hb dX12_unit_69 rfl (lv_at hl 1 rfl) ?_
        refine lv_bipush (v := 41) hx hb dX12_unit_70 (by decide) ?_
        refine sg_callVv (As := [.int 41]) X I mk_X12_173 (by omega) (by decide) shM_0 rfl (fun q9 e9 => c_X12_closes e9) h hl.1 rfl rfl (Nat.le_of_ble_eq_true rfl) dX12_unit_72 (fun v11 s12 H locs h I => ?_)
        refine lv_goto (tgt := 94) hx hb dX12_unit_75 (by decide) ?_
        obtain rfl := Option.some.inj h
        exact hk _ _ _ _ I dX12_unit_94
  · have h := sg_ift h z
    refine lv_aload_n hx hb dX12_unit_11 rfl (lv_at hl 1 rfl) ?_
    refine sg_callVv (As := []) X I mk_X12_167 (by omega) (by decide) shM_0 rfl (fun q9 e9 => c_X12_opens e9) h hl.1 rfl rfl (Nat.le_of_ble_eq_true rfl) dX12_unit_12 (fun v13 s14 H locs h I => ?_)
    refine lv_aload_n hx hb dX12_unit_15 rfl (lv_at hl 1 rfl) ?_
    refine sg_geti X I fk_X12_137 (by decide) shM_0 rfl dX12_unit_16 ?_
    refine lv_iconst (v := -1) hx hb dX12_unit_19 (by decide) ?_
    refine lv_icmp_ne (tgt := 94) hx hb dX12_unit_20 (by decide) (fun z => ?_) (fun z => ?_)
    · have h := sg_iff h z
      obtain rfl := Option.some.inj h
      exact hk _ _ _ _ I dX12_unit_94
    · have h := sg_ift h z
      refine lv_aload_n hx hb dX12_unit_23 rfl (lv_at hl 1 rfl) ?_
      refine sg_callVv (As := []) X I mk_X12_186 (by omega) (by decide) shM_0 rfl (fun q9 e9 => hrec _ _ e9) h hl.1 rfl rfl (Nat.le_of_ble_eq_true rfl) dX12_unit_24 (fun v15 s16 H locs h I => ?_)
      refine lv_aload_n hx hb dX12_unit_27 rfl (lv_at hl 1 rfl) ?_
      refine lv_bipush (v := 9) hx hb dX12_unit_28 (by decide) ?_
      refine lv_iconst (v := 0) hx hb dX12_unit_30 (by decide) ?_
      refine sg_callVv (As := [.int 9, .int 0]) X I mk_X12_159 (by omega) (by decide) shM_0 rfl (fun q9 e9 => c_X12_put e9) h hl.1 rfl rfl (Nat.le_of_ble_eq_true rfl) dX12_unit_31 (fun v17 s18 H locs h I => ?_)
      refine lv_aload_n hx hb dX12_unit_34 rfl (lv_at hl 1 rfl) ?_
      refine lv_dup hx hb dX12_unit_35 rfl ?_
      refine sg_geti X I fk_X12_143 (by decide) shM_0 rfl dX12_unit_36 ?_
      refine lv_iconst (v := 1) hx hb dX12_unit_39 (by decide) ?_
      refine lv_isub hx hb dX12_unit_40 ?_
      refine sg_puti X I fk_X12_143 wk_12_5 rfl rfl (by decide) shM_0 rfl h dX12_unit_41 (fun s19 H locs h I => ?_)
      refine lv_goto (tgt := 94) hx hb dX12_unit_44 (by decide) ?_
      obtain rfl := Option.some.inj h
      exact hk _ _ _ _ I dX12_unit_94
set_option maxHeartbeats 4000000 in
set_option maxRecDepth 100000 in
theorem c_X12_unit_b {l : Launch} {P : sgP} {lv : Nat} {N : Nat} {rec : sgS → Option (Int32 × sgS)} {σ : sgS} (hlv : 126 ≤ lv) (hrec : ∀ (σ : sgS) (q : Int32 × sgS), rec σ = some q → sg_Mv P shM 35 l yX12_unit cX12_unit 2 none lv [.ref (sgA P 0)] σ q) {q : Int32 × sgS} (h : f_X12_unit_b N rec σ = some q) : sg_Mv P shM 35 l yX12_unit cX12_unit 2 none (lv + 4) [.ref (sgA P 0)] σ q := by
  refine sg_mkv (plainFor_of_name (by decide +kernel)) (Nat.le_of_ble_eq_true rfl) ?_
  intro p e R s m args below meth c Q A ls H locs X I hl hk
  exact b_X12_unit_b X hlv hrec I hl h hk
def f_X12_unit : Nat → Nat → sgS → Option (Int32 × sgS)
  | 0, _, _ => none
  | d + 1, N, σ => f_X12_unit_b N (f_X12_unit d N) σ
set_option maxHeartbeats 4000000 in
set_option maxRecDepth 100000 in
theorem cd_X12_unit {l : Launch} {P : sgP} {N : Nat} : ∀ (d : Nat) (σ : sgS) (q : Int32 × sgS), f_X12_unit d N σ = some q → sg_Mv P shM 35 l yX12_unit cX12_unit 2 none (126 + 4 * d) [.ref (sgA P 0)] σ q := by
  intro d
  induction d with
  | zero => intro σ q h; cases h
  | succ d ih =>
    intro σ q h
    have e : 126 + 4 * (d + 1) = 126 + 4 * d + 4 := by omega
    rw [e]
    exact c_X12_unit_b (by omega) ih h
set_option maxHeartbeats 4000000 in
set_option maxRecDepth 100000 in
theorem c_X12_unit {l : Launch} {P : sgP} {N : Nat} {σ : sgS} {q : Int32 × sgS} (h : f_X12_unit 40 N σ = some q) : sg_Mv P shM 35 l yX12_unit cX12_unit 2 none 286 [.ref (sgA P 0)] σ q := cd_X12_unit 40 σ q h
def f_X12_clause_B251 (N : Nat) (u1 : Int32) (σ : sgS) : Option (Int32 × sgS) :=
  sg_ld σ 4 5 (σ.1 0 14) fun v12 =>
sg_st σ 8 700 u1 v12 fun s13 =>
sg_ld s13 5 5 (s13.1 0 14) fun v14 =>
sg_st s13 5 5 (s13.1 0 14) (v14 + 1) fun s15 =>
some (0, s15)
set_option maxHeartbeats 4000000 in
set_option maxRecDepth 100000 in
theorem b_X12_clause_B251 {p : Program} {l : Launch} {e : Env} {R : Room} {s : State} {m : MethodId} {args : Array Value} {below : List Frame} {meth : Method} {c : Code} {Q : State → Prop} {P : sgP} {A : Nat → Prop} {N : Nat} {u1 : Int32} {σ : sgS} (X : sg_C P A 290 p R s m args c cX12_clause 3 RX12) {H : Heap} {locs : List Loc} (I : sg_I P shM 35 A s.heap σ H locs) {ls : Array Slot} (hl : lv_has ls 3 [(0, .ref (sgA P 0)), (1, .int u1)]) {st : Int32 × sgS} (h : f_X12_clause_B251 N u1 σ = some st) (hk : sg_Rv p l e R s m args below meth c Q P shM 35 A cX12_clause st) : W p l e R s m args below meth c H locs 0 0 Q (F0 m 251 ls []) := by
  unfold f_X12_clause_B251 at h
  have hx := X.1.1
  have hb := X.1.2.1
  have hown := X.1.2.2.2.1
  have hts := X.1.2.2.2.2
  refine lv_aload_n hx hb dX12_clause_251 rfl (lv_at hl 0 rfl) ?_
  refine sg_getr X I fk_X12_31 (j := 8) (by decide) shM_0 rfl dX12_clause_252 ?_
  refine lv_iload_n hx hb dX12_clause_255 rfl (lv_at hl 1 rfl) ?_
  refine lv_aload_n hx hb dX12_clause_256 rfl (lv_at hl 0 rfl) ?_
  refine sg_getr X I fk_X12_19 (j := 4) (by decide) shM_0 rfl dX12_clause_257 ?_
  refine lv_aload_n hx hb dX12_clause_260 rfl (lv_at hl 0 rfl) ?_
  refine sg_geti X I fk_X12_140 (by decide) shM_0 rfl dX12_clause_261 ?_
  refine sg_iald X I (by decide) shM_4 h dX12_clause_264 (fun v12 h => ?_)
  refine sg_iast X I (by decide) shM_8 h dX12_clause_265 (fun s13 H locs h I => ?_)
  refine lv_aload_n hx hb dX12_clause_266 rfl (lv_at hl 0 rfl) ?_
  refine sg_getr X I fk_X12_22 (j := 5) (by decide) shM_0 rfl dX12_clause_267 ?_
  refine lv_aload_n hx hb dX12_clause_270 rfl (lv_at hl 0 rfl) ?_
  refine sg_geti X I fk_X12_140 (by decide) shM_0 rfl dX12_clause_271 ?_
  refine lv_dup2_11 hx hb dX12_clause_274 rfl rfl ?_
  refine sg_iald X I (by decide) shM_5 h dX12_clause_275 (fun v14 h => ?_)
  refine lv_iconst (v := 1) hx hb dX12_clause_276 (by decide) ?_
  refine lv_iadd hx hb dX12_clause_277 ?_
  refine sg_iast X I (by decide) shM_5 h dX12_clause_278 (fun s15 H locs h I => ?_)
  obtain rfl := Option.some.inj h
  exact hk _ _ _ _ I dX12_clause_279
def f_X12_clause_B184 (N : Nat) (u1 : Int32) (u2 : Int32) (σ : sgS) : Option (Int32 × sgS) :=
  sg_ld σ 6 700 u1 fun v10 =>
sg_st σ 7 700 u1 v10 fun s11 =>
if u2 = 0 then
  (f_X12_clause_B251 N u1 s11)
else
  (if (s11.1 0 4) = ((-1)) then
    (sg_cl (f_X12_look N s11) fun v16 s17 =>
    if v16 = 63 then
      (sg_pf s17 0 3 ((s17.1 0 3) + 1) fun s18 =>
      sg_ld s18 4 5 (s18.1 0 14) fun v19 =>
      sg_st s18 7 700 u1 v19 fun s20 =>
      sg_cl (f_X12_sum 40 N s20) fun v21 s22 =>
      f_X12_clause_B251 N u1 s22)
    else
      (sg_cl (f_X12_bad N s17) fun v23 s24 =>
      some (0, s24)))
  else
    (f_X12_clause_B251 N u1 s11))
set_option maxHeartbeats 4000000 in
set_option maxRecDepth 100000 in
theorem b_X12_clause_B184 {p : Program} {l : Launch} {e : Env} {R : Room} {s : State} {m : MethodId} {args : Array Value} {below : List Frame} {meth : Method} {c : Code} {Q : State → Prop} {P : sgP} {A : Nat → Prop} {N : Nat} {u1 : Int32} {u2 : Int32} {σ : sgS} (X : sg_C P A 290 p R s m args c cX12_clause 3 RX12) {H : Heap} {locs : List Loc} (I : sg_I P shM 35 A s.heap σ H locs) {ls : Array Slot} (hl : lv_has ls 3 [(0, .ref (sgA P 0)), (1, .int u1), (2, .int u2)]) {st : Int32 × sgS} (h : f_X12_clause_B184 N u1 u2 σ = some st) (hk : sg_Rv p l e R s m args below meth c Q P shM 35 A cX12_clause st) : W p l e R s m args below meth c H locs 0 0 Q (F0 m 184 ls []) := by
  unfold f_X12_clause_B184 at h
  have hx := X.1.1
  have hb := X.1.2.1
  have hown := X.1.2.2.2.1
  have hts := X.1.2.2.2.2
  refine lv_aload_n hx hb dX12_clause_184 rfl (lv_at hl 0 rfl) ?_
  refine sg_getr X I fk_X12_28 (j := 7) (by decide) shM_0 rfl dX12_clause_185 ?_
  refine lv_iload_n hx hb dX12_clause_188 rfl (lv_at hl 1 rfl) ?_
  refine lv_aload_n hx hb dX12_clause_189 rfl (lv_at hl 0 rfl) ?_
  refine sg_getr X I fk_X12_25 (j := 6) (by decide) shM_0 rfl dX12_clause_190 ?_
  refine lv_iload_n hx hb dX12_clause_193 rfl (lv_at hl 1 rfl) ?_
  refine sg_iald X I (by decide) shM_6 h dX12_clause_194 (fun v10 h => ?_)
  refine sg_iast X I (by decide) shM_7 h dX12_clause_195 (fun s11 H locs h I => ?_)
  refine lv_iload_n hx hb dX12_clause_196 rfl (lv_at hl 2 rfl) ?_
  refine lv_if_eq (tgt := 251) hx hb dX12_clause_197 (by decide) (fun z => ?_) (fun z => ?_)
  · have h := sg_ift h z
    exact b_X12_clause_B251 X I (lv_sub hl [0, 1] rfl) h hk
  · have h := sg_iff h z
    refine lv_aload_n hx hb dX12_clause_200 rfl (lv_at hl 0 rfl) ?_
    refine sg_geti X I fk_X12_137 (by decide) shM_0 rfl dX12_clause_201 ?_
    refine lv_iconst (v := -1) hx hb dX12_clause_204 (by decide) ?_
    refine lv_icmp_ne (tgt := 251) hx hb dX12_clause_205 (by decide) (fun z => ?_) (fun z => ?_)
    · have h := sg_iff h z
      exact b_X12_clause_B251 X I (lv_sub hl [0, 1] rfl) h hk
    · have h := sg_ift h z
      refine lv_aload_n hx hb dX12_clause_208 rfl (lv_at hl 0 rfl) ?_
      refine sg_callV (As := []) X I mk_X12_149 (by decide) (by decide) shM_0 rfl (fun q9 e9 => c_X12_look e9) h hl.1 rfl rfl (Nat.le_of_ble_eq_true rfl) dX12_clause_209 (fun v16 s17 H locs h I => ?_)
      refine lv_bipush (v := 63) hx hb dX12_clause_212 (by decide) ?_
      refine lv_icmp_eq (tgt := 222) hx hb dX12_clause_214 (by decide) (fun z => ?_) (fun z => ?_)
      · have h := sg_ift h z
        refine lv_aload_n hx hb dX12_clause_222 rfl (lv_at hl 0 rfl) ?_
        refine lv_dup hx hb dX12_clause_223 rfl ?_
        refine sg_geti X I fk_X12_130 (by decide) shM_0 rfl dX12_clause_224 ?_
        refine lv_iconst (v := 1) hx hb dX12_clause_227 (by decide) ?_
        refine lv_iadd hx hb dX12_clause_228 ?_
        refine sg_puti X I fk_X12_130 wk_12_3 rfl rfl (by decide) shM_0 rfl h dX12_clause_229 (fun s18 H locs h I => ?_)
        refine lv_aload_n hx hb dX12_clause_232 rfl (lv_at hl 0 rfl) ?_
        refine sg_getr X I fk_X12_28 (j := 7) (by decide) shM_0 rfl dX12_clause_233 ?_
        refine lv_iload_n hx hb dX12_clause_236 rfl (lv_at hl 1 rfl) ?_
        refine lv_aload_n hx hb dX12_clause_237 rfl (lv_at hl 0 rfl) ?_
        refine sg_getr X I fk_X12_19 (j := 4) (by decide) shM_0 rfl dX12_clause_238 ?_
        refine lv_aload_n hx hb dX12_clause_241 rfl (lv_at hl 0 rfl) ?_
        refine sg_geti X I fk_X12_140 (by decide) shM_0 rfl dX12_clause_242 ?_
        refine sg_iald X I (by decide) shM_4 h dX12_clause_245 (fun v19 h => ?_)
        refine sg_iast X I (by decide) shM_7 h dX12_clause_246 (fun s20 H locs h I => ?_)
        refine lv_aload_n hx hb dX12_clause_247 rfl (lv_at hl 0 rfl) ?_
        refine sg_callVv (As := []) X I mk_X12_170 (by decide) (by decide) shM_0 rfl (fun q9 e9 => c_X12_sum e9) h hl.1 rfl rfl (Nat.le_of_ble_eq_true rfl) dX12_clause_248 (fun v21 s22 H locs h I => ?_)
        exact b_X12_clause_B251 X I (lv_sub hl [0, 1] rfl) h hk
      · have h := sg_iff h z
        refine lv_aload_n hx hb dX12_clause_217 rfl (lv_at hl 0 rfl) ?_
        refine sg_callVv (As := []) X I mk_X12_146 (by decide) (by decide) shM_0 rfl (fun q9 e9 => c_X12_bad e9) h hl.1 rfl rfl (Nat.le_of_ble_eq_true rfl) dX12_clause_218 (fun v23 s24 H locs h I => ?_)
        obtain rfl := Option.some.inj h
        exact hk _ _ _ _ I dX12_clause_221
def f_X12_clause_B167 (N : Nat) (u1 : Int32) (k0 : Int32) (σ : sgS) : Option (Int32 × sgS) :=
  if k0 = 0 then
  (f_X12_clause_B184 N u1 k0 σ)
else
  (sg_cl (f_X12_compare N σ) fun v25 s26 =>
  sg_cl (f_X12_goOnAnd N (f_X12_unit 40 N) s26) fun v27 s28 =>
  sg_cl (f_X12_goOnOr N (f_X12_unit 40 N) s28) fun v29 s30 =>
  f_X12_clause_B184 N u1 k0 s30)
set_option maxHeartbeats 4000000 in
set_option maxRecDepth 100000 in
theorem b_X12_clause_B167 {p : Program} {l : Launch} {e : Env} {R : Room} {s : State} {m : MethodId} {args : Array Value} {below : List Frame} {meth : Method} {c : Code} {Q : State → Prop} {P : sgP} {A : Nat → Prop} {N : Nat} {u1 : Int32} {k0 : Int32} {σ : sgS} (X : sg_C P A 290 p R s m args c cX12_clause 3 RX12) {H : Heap} {locs : List Loc} (I : sg_I P shM 35 A s.heap σ H locs) {ls : Array Slot} (hl : lv_has ls 3 [(0, .ref (sgA P 0)), (1, .int u1)]) {st : Int32 × sgS} (h : f_X12_clause_B167 N u1 k0 σ = some st) (hk : sg_Rv p l e R s m args below meth c Q P shM 35 A cX12_clause st) : W p l e R s m args below meth c H locs 0 0 Q (F0 m 167 ls [.int k0]) := by
  unfold f_X12_clause_B167 at h
  have hx := X.1.1
  have hb := X.1.2.1
  have hown := X.1.2.2.2.1
  have hts := X.1.2.2.2.2
  refine lv_istore_n (lv' := [(2, .int k0), (0, .ref (sgA P 0)), (1, .int u1)]) hx hb dX12_clause_167 rfl hl (by decide) rfl (fun ls hl => ?_)
  refine lv_iload_n hx hb dX12_clause_168 rfl (lv_at hl 0 rfl) ?_
  refine lv_if_eq (tgt := 184) hx hb dX12_clause_169 (by decide) (fun z => ?_) (fun z => ?_)
  · have h := sg_ift h z
    exact b_X12_clause_B184 X I (lv_sub hl [1, 2, 0] rfl) h hk
  · have h := sg_iff h z
    refine lv_aload_n hx hb dX12_clause_172 rfl (lv_at hl 1 rfl) ?_
    refine sg_callVv (As := []) X I mk_X12_192 (by decide) (by decide) shM_0 rfl (fun q9 e9 => c_X12_compare e9) h hl.1 rfl rfl (Nat.le_of_ble_eq_true rfl) dX12_clause_173 (fun v25 s26 H locs h I => ?_)
    refine lv_aload_n hx hb dX12_clause_176 rfl (lv_at hl 1 rfl) ?_
    refine sg_callVv (As := []) X I mk_X12_195 (by decide) (by decide) shM_0 rfl (fun q9 e9 => c_X12_goOnAnd (lv := 286) (by decide) (fun _ _ => c_X12_unit) e9) h hl.1 rfl rfl (Nat.le_of_ble_eq_true rfl) dX12_clause_177 (fun v27 s28 H locs h I => ?_)
    refine lv_aload_n hx hb dX12_clause_180 rfl (lv_at hl 1 rfl) ?_
    refine sg_callVv (As := []) X I mk_X12_198 (by decide) (by decide) shM_0 rfl (fun q9 e9 => c_X12_goOnOr (lv := 286) (by decide) (fun _ _ => c_X12_unit) e9) h hl.1 rfl rfl (Nat.le_of_ble_eq_true rfl) dX12_clause_181 (fun v29 s30 H locs h I => ?_)
    exact b_X12_clause_B184 X I (lv_sub hl [1, 2, 0] rfl) h hk
def f_X12_clause_B128 (N : Nat) (u1 : Int32) (k0 : Int32) (σ : sgS) : Option (Int32 × sgS) :=
  if k0 = 0 then
  (sg_cl (f_X12_sum 40 N σ) fun v8 s9 =>
  if (s9.1 0 4) = ((-1)) then
    (sg_cl (f_X12_look N s9) fun v31 s32 =>
    sg_cr (f_X12_isSign N v31 s32) fun v33 =>
    if v33 = 0 then
      (f_X12_clause_B167 N u1 0 s32)
    else
      (f_X12_clause_B167 N u1 1 s32))
  else
    (f_X12_clause_B167 N u1 0 s9))
else
  (sg_cl (f_X12_condition N (f_X12_unit 40 N) σ) fun v34 s35 =>
  f_X12_clause_B184 N u1 k0 s35)
set_option maxHeartbeats 4000000 in
set_option maxRecDepth 100000 in
theorem b_X12_clause_B128 {p : Program} {l : Launch} {e : Env} {R : Room} {s : State} {m : MethodId} {args : Array Value} {below : List Frame} {meth : Method} {c : Code} {Q : State → Prop} {P : sgP} {A : Nat → Prop} {N : Nat} {u1 : Int32} {k0 : Int32} {σ : sgS} (X : sg_C P A 290 p R s m args c cX12_clause 3 RX12) {H : Heap} {locs : List Loc} (I : sg_I P shM 35 A s.heap σ H locs) {ls : Array Slot} (hl : lv_has ls 3 [(0, .ref (sgA P 0)), (1, .int u1)]) {st : Int32 × sgS} (h : f_X12_clause_B128 N u1 k0 σ = some st) (hk : sg_Rv p l e R s m args below meth c Q P shM 35 A cX12_clause st) : W p l e R s m args below meth c H locs 0 0 Q (F0 m 128 ls [.int k0]) := by
  unfold f_X12_clause_B128 at h
  have hx := X.1.1
  have hb := X.1.2.1
  have hown := X.1.2.2.2.1
  have hts := X.1.2.2.2.2
  refine lv_istore_n (lv' := [(2, .int k0), (0, .ref (sgA P 0)), (1, .int u1)]) hx hb dX12_clause_128 rfl hl (by decide) rfl (fun ls hl => ?_)
  refine lv_iload_n hx hb dX12_clause_129 rfl (lv_at hl 0 rfl) ?_
  refine lv_if_eq (tgt := 140) hx hb dX12_clause_130 (by decide) (fun z => ?_) (fun z => ?_)
  · have h := sg_ift h z
    refine lv_aload_n hx hb dX12_clause_140 rfl (lv_at hl 1 rfl) ?_
    refine sg_callVv (As := []) X I mk_X12_170 (by decide) (by decide) shM_0 rfl (fun q9 e9 => c_X12_sum e9) h hl.1 rfl rfl (Nat.le_of_ble_eq_true rfl) dX12_clause_141 (fun v8 s9 H locs h I => ?_)
    refine lv_aload_n hx hb dX12_clause_144 rfl (lv_at hl 1 rfl) ?_
    refine sg_geti X I fk_X12_137 (by decide) shM_0 rfl dX12_clause_145 ?_
    refine lv_iconst (v := -1) hx hb dX12_clause_148 (by decide) ?_
    refine lv_icmp_ne (tgt := 166) hx hb dX12_clause_149 (by decide) (fun z => ?_) (fun z => ?_)
    · have h := sg_iff h z
      refine lv_iconst (v := 0) hx hb dX12_clause_166 (by decide) ?_
      exact b_X12_clause_B167 X I (lv_sub hl [1, 2] rfl) h hk
    · have h := sg_ift h z
      refine lv_aload_n hx hb dX12_clause_152 rfl (lv_at hl 1 rfl) ?_
      refine sg_callV (As := []) X I mk_X12_149 (by decide) (by decide) shM_0 rfl (fun q9 e9 => c_X12_look e9) h hl.1 rfl rfl (Nat.le_of_ble_eq_true rfl) dX12_clause_153 (fun v31 s32 H locs h I => ?_)
      refine sg_callSr (As := [.int v31]) X I mk_X12_183 (by decide) (fun q9 e9 => c_X12_isSign e9) h hl.1 rfl rfl (Nat.le_of_ble_eq_true rfl) dX12_clause_156 (fun v33 H locs h I => ?_)
      refine lv_if_eq (tgt := 166) hx hb dX12_clause_159 (by decide) (fun z => ?_) (fun z => ?_)
      · have h := sg_ift h z
        refine lv_iconst (v := 0) hx hb dX12_clause_166 (by decide) ?_
        exact b_X12_clause_B167 X I (lv_sub hl [1, 2] rfl) h hk
      · have h := sg_iff h z
        refine lv_iconst (v := 1) hx hb dX12_clause_162 (by decide) ?_
        refine lv_goto (tgt := 167) hx hb dX12_clause_163 (by decide) ?_
        exact b_X12_clause_B167 X I (lv_sub hl [1, 2] rfl) h hk
  · have h := sg_iff h z
    refine lv_aload_n hx hb dX12_clause_133 rfl (lv_at hl 1 rfl) ?_
    refine sg_callVv (As := []) X I mk_X12_189 (by decide) (by decide) shM_0 rfl (fun q9 e9 => c_X12_condition (lv := 286) (by decide) (fun _ _ => c_X12_unit) e9) h hl.1 rfl rfl (Nat.le_of_ble_eq_true rfl) dX12_clause_134 (fun v34 s35 H locs h I => ?_)
    refine lv_goto (tgt := 184) hx hb dX12_clause_137 (by decide) ?_
    exact b_X12_clause_B184 X I (lv_sub hl [1, 2, 0] rfl) h hk
def f_X12_clause_B71 (N : Nat) (u1 : Int32) (σ : sgS) : Option (Int32 × sgS) :=
  sg_pf σ 0 3 ((σ.1 0 3) + 1) fun s3 =>
if (s3.1 0 4) = ((-1)) then
  (sg_ld s3 4 5 (s3.1 0 14) fun v4 =>
  sg_st s3 6 700 u1 v4 fun s5 =>
  sg_cl (f_X12_look N s5) fun v6 s7 =>
  if v6 = 33 then
    (f_X12_clause_B128 N u1 1 s7)
  else
    (sg_cl (f_X12_look N s7) fun v36 s37 =>
    if v36 = 40 then
      (f_X12_clause_B128 N u1 1 s37)
    else
      (f_X12_clause_B128 N u1 0 s37)))
else
  (some (0, s3))
set_option maxHeartbeats 4000000 in
set_option maxRecDepth 100000 in
theorem b_X12_clause_B71 {p : Program} {l : Launch} {e : Env} {R : Room} {s : State} {m : MethodId} {args : Array Value} {below : List Frame} {meth : Method} {c : Code} {Q : State → Prop} {P : sgP} {A : Nat → Prop} {N : Nat} {u1 : Int32} {σ : sgS} (X : sg_C P A 290 p R s m args c cX12_clause 3 RX12) {H : Heap} {locs : List Loc} (I : sg_I P shM 35 A s.heap σ H locs) {ls : Array Slot} (hl : lv_has ls 3 [(0, .ref (sgA P 0)), (1, .int u1)]) {st : Int32 × sgS} (h : f_X12_clause_B71 N u1 σ = some st) (hk : sg_Rv p l e R s m args below meth c Q P shM 35 A cX12_clause st) : W p l e R s m args below meth c H locs 0 0 Q (F0 m 71 ls []) := by
  unfold f_X12_clause_B71 at h
  have hx := X.1.1
  have hb := X.1.2.1
  have hown := X.1.2.2.2.1
  have hts := X.1.2.2.2.2
  refine lv_aload_n hx hb dX12_clause_71 rfl (lv_at hl 0 rfl) ?_
  refine lv_dup hx hb dX12_clause_72 rfl ?_
  refine sg_geti X I fk_X12_130 (by decide) shM_0 rfl dX12_clause_73 ?_
  refine lv_iconst (v := 1) hx hb dX12_clause_76 (by decide) ?_
  refine lv_iadd hx hb dX12_clause_77 ?_
  refine sg_puti X I fk_X12_130 wk_12_3 rfl rfl (by decide) shM_0 rfl h dX12_clause_78 (fun s3 H locs h I => ?_)
  refine lv_aload_n hx hb dX12_clause_81 rfl (lv_at hl 0 rfl) ?_
  refine sg_geti X I fk_X12_137 (by decide) shM_0 rfl dX12_clause_82 ?_
  refine lv_iconst (v := -1) hx hb dX12_clause_85 (by decide) ?_
  refine lv_icmp_eq (tgt := 90) hx hb dX12_clause_86 (by decide) (fun z => ?_) (fun z => ?_)
  · have h := sg_ift h z
    refine lv_aload_n hx hb dX12_clause_90 rfl (lv_at hl 0 rfl) ?_
    refine sg_getr X I fk_X12_25 (j := 6) (by decide) shM_0 rfl dX12_clause_91 ?_
    refine lv_iload_n hx hb dX12_clause_94 rfl (lv_at hl 1 rfl) ?_
    refine lv_aload_n hx hb dX12_clause_95 rfl (lv_at hl 0 rfl) ?_
    refine sg_getr X I fk_X12_19 (j := 4) (by decide) shM_0 rfl dX12_clause_96 ?_
    refine lv_aload_n hx hb dX12_clause_99 rfl (lv_at hl 0 rfl) ?_
    refine sg_geti X I fk_X12_140 (by decide) shM_0 rfl dX12_clause_100 ?_
    refine sg_iald X I (by decide) shM_4 h dX12_clause_103 (fun v4 h => ?_)
    refine sg_iast X I (by decide) shM_6 h dX12_clause_104 (fun s5 H locs h I => ?_)
    refine lv_aload_n hx hb dX12_clause_105 rfl (lv_at hl 0 rfl) ?_
    refine sg_callV (As := []) X I mk_X12_149 (by decide) (by decide) shM_0 rfl (fun q9 e9 => c_X12_look e9) h hl.1 rfl rfl (Nat.le_of_ble_eq_true rfl) dX12_clause_106 (fun v6 s7 H locs h I => ?_)
    refine lv_bipush (v := 33) hx hb dX12_clause_109 (by decide) ?_
    refine lv_icmp_eq (tgt := 123) hx hb dX12_clause_111 (by decide) (fun z => ?_) (fun z => ?_)
    · have h := sg_ift h z
      refine lv_iconst (v := 1) hx hb dX12_clause_123 (by decide) ?_
      refine lv_goto (tgt := 128) hx hb dX12_clause_124 (by decide) ?_
      exact b_X12_clause_B128 X I (lv_sub hl [0, 1] rfl) h hk
    · have h := sg_iff h z
      refine lv_aload_n hx hb dX12_clause_114 rfl (lv_at hl 0 rfl) ?_
      refine sg_callV (As := []) X I mk_X12_149 (by decide) (by decide) shM_0 rfl (fun q9 e9 => c_X12_look e9) h hl.1 rfl rfl (Nat.le_of_ble_eq_true rfl) dX12_clause_115 (fun v36 s37 H locs h I => ?_)
      refine lv_bipush (v := 40) hx hb dX12_clause_118 (by decide) ?_
      refine lv_icmp_ne (tgt := 127) hx hb dX12_clause_120 (by decide) (fun z => ?_) (fun z => ?_)
      · have h := sg_iff h z
        refine lv_iconst (v := 0) hx hb dX12_clause_127 (by decide) ?_
        exact b_X12_clause_B128 X I (lv_sub hl [0, 1] rfl) h hk
      · have h := sg_ift h z
        refine lv_iconst (v := 1) hx hb dX12_clause_123 (by decide) ?_
        refine lv_goto (tgt := 128) hx hb dX12_clause_124 (by decide) ?_
        exact b_X12_clause_B128 X I (lv_sub hl [0, 1] rfl) h hk
  · have h := sg_iff h z
    obtain rfl := Option.some.inj h
    exact hk _ _ _ _ I dX12_clause_89
def f_X12_clause_B40 (N : Nat) (u1 : Int32) (σ : sgS) : Option (Int32 × sgS) :=
  sg_pf σ 0 3 ((σ.1 0 3) + 1) fun s2 =>
if (s2.1 0 4) = ((-1)) then
  (sg_cl (f_X12_look N s2) fun v38 s39 =>
  if v38 = 58 then
    (f_X12_clause_B71 N u1 s39)
  else
    (sg_cl (f_X12_bad N s39) fun v40 s41 =>
    f_X12_clause_B71 N u1 s41))
else
  (f_X12_clause_B71 N u1 s2)
set_option maxHeartbeats 4000000 in
set_option maxRecDepth 100000 in
theorem b_X12_clause_B40 {p : Program} {l : Launch} {e : Env} {R : Room} {s : State} {m : MethodId} {args : Array Value} {below : List Frame} {meth : Method} {c : Code} {Q : State → Prop} {P : sgP} {A : Nat → Prop} {N : Nat} {u1 : Int32} {σ : sgS} (X : sg_C P A 290 p R s m args c cX12_clause 3 RX12) {H : Heap} {locs : List Loc} (I : sg_I P shM 35 A s.heap σ H locs) {ls : Array Slot} (hl : lv_has ls 3 [(0, .ref (sgA P 0)), (1, .int u1)]) {st : Int32 × sgS} (h : f_X12_clause_B40 N u1 σ = some st) (hk : sg_Rv p l e R s m args below meth c Q P shM 35 A cX12_clause st) : W p l e R s m args below meth c H locs 0 0 Q (F0 m 40 ls []) := by
  unfold f_X12_clause_B40 at h
  have hx := X.1.1
  have hb := X.1.2.1
  have hown := X.1.2.2.2.1
  have hts := X.1.2.2.2.2
  refine lv_aload_n hx hb dX12_clause_40 rfl (lv_at hl 0 rfl) ?_
  refine lv_dup hx hb dX12_clause_41 rfl ?_
  refine sg_geti X I fk_X12_130 (by decide) shM_0 rfl dX12_clause_42 ?_
  refine lv_iconst (v := 1) hx hb dX12_clause_45 (by decide) ?_
  refine lv_iadd hx hb dX12_clause_46 ?_
  refine sg_puti X I fk_X12_130 wk_12_3 rfl rfl (by decide) shM_0 rfl h dX12_clause_47 (fun s2 H locs h I => ?_)
  refine lv_aload_n hx hb dX12_clause_50 rfl (lv_at hl 0 rfl) ?_
  refine sg_geti X I fk_X12_137 (by decide) shM_0 rfl dX12_clause_51 ?_
  refine lv_iconst (v := -1) hx hb dX12_clause_54 (by decide) ?_
  refine lv_icmp_ne (tgt := 71) hx hb dX12_clause_55 (by decide) (fun z => ?_) (fun z => ?_)
  · have h := sg_iff h z
    exact b_X12_clause_B71 X I (lv_sub hl [0, 1] rfl) h hk
  · have h := sg_ift h z
    refine lv_aload_n hx hb dX12_clause_58 rfl (lv_at hl 0 rfl) ?_
    refine sg_callV (As := []) X I mk_X12_149 (by decide) (by decide) shM_0 rfl (fun q9 e9 => c_X12_look e9) h hl.1 rfl rfl (Nat.le_of_ble_eq_true rfl) dX12_clause_59 (fun v38 s39 H locs h I => ?_)
    refine lv_bipush (v := 58) hx hb dX12_clause_62 (by decide) ?_
    refine lv_icmp_eq (tgt := 71) hx hb dX12_clause_64 (by decide) (fun z => ?_) (fun z => ?_)
    · have h := sg_ift h z
      exact b_X12_clause_B71 X I (lv_sub hl [0, 1] rfl) h hk
    · have h := sg_iff h z
      refine lv_aload_n hx hb dX12_clause_67 rfl (lv_at hl 0 rfl) ?_
      refine sg_callVv (As := []) X I mk_X12_146 (by decide) (by decide) shM_0 rfl (fun q9 e9 => c_X12_bad e9) h hl.1 rfl rfl (Nat.le_of_ble_eq_true rfl) dX12_clause_68 (fun v40 s41 H locs h I => ?_)
      exact b_X12_clause_B71 X I (lv_sub hl [0, 1] rfl) h hk
def f_X12_clause (N : Nat) (σ : sgS) : Option (Int32 × sgS) :=
  sg_ld σ 5 5 (σ.1 0 14) fun v1 =>
if (σ.1 0 4) = ((-1)) then
  (sg_cl (f_X12_look N σ) fun v42 s43 =>
  if v42 = 121 then
    (f_X12_clause_B40 N ((140 * (σ.1 0 14)) + v1) s43)
  else
    (sg_cl (f_X12_bad N s43) fun v44 s45 =>
    f_X12_clause_B40 N ((140 * (σ.1 0 14)) + v1) s45))
else
  (f_X12_clause_B40 N ((140 * (σ.1 0 14)) + v1) σ)
set_option maxHeartbeats 4000000 in
set_option maxRecDepth 100000 in
theorem b_X12_clause {p : Program} {l : Launch} {e : Env} {R : Room} {s : State} {m : MethodId} {args : Array Value} {below : List Frame} {meth : Method} {c : Code} {Q : State → Prop} {P : sgP} {A : Nat → Prop} {N : Nat} {σ : sgS} (X : sg_C P A 290 p R s m args c cX12_clause 3 RX12) {H : Heap} {locs : List Loc} (I : sg_I P shM 35 A s.heap σ H locs) {ls : Array Slot} (hl : lv_has ls 3 [(0, .ref (sgA P 0))]) {st : Int32 × sgS} (h : f_X12_clause N σ = some st) (hk : sg_Rv p l e R s m args below meth c Q P shM 35 A cX12_clause st) : W p l e R s m args below meth c H locs 0 0 Q (F0 m 0 ls []) := by
  unfold f_X12_clause at h
  have hx := X.1.1
  have hb := X.1.2.1
  have hown := X.1.2.2.2.1
  have hts := X.1.2.2.2.2
  refine lv_sipush (v := 140) hx hb dX12_clause_0 (by decide) ?_
  refine lv_aload_n hx hb dX12_clause_3 rfl (lv_at hl 0 rfl) ?_
  refine sg_geti X I fk_X12_140 (by decide) shM_0 rfl dX12_clause_4 ?_
  refine lv_imul hx hb dX12_clause_7 ?_
  refine lv_aload_n hx hb dX12_clause_8 rfl (lv_at hl 0 rfl) ?_
  refine sg_getr X I fk_X12_22 (j := 5) (by decide) shM_0 rfl dX12_clause_9 ?_
  refine lv_aload_n hx hb dX12_clause_12 rfl (lv_at hl 0 rfl) ?_
  refine sg_geti X I fk_X12_140 (by decide) shM_0 rfl dX12_clause_13 ?_
  refine sg_iald X I (by decide) shM_5 h dX12_clause_16 (fun v1 h => ?_)
  refine lv_iadd hx hb dX12_clause_17 ?_
  refine lv_istore_n (lv' := [(1, .int ((140 * (σ.1 0 14)) + v1)), (0, .ref (sgA P 0))]) hx hb dX12_clause_18 rfl hl (by decide) rfl (fun ls hl => ?_)
  refine lv_aload_n hx hb dX12_clause_19 rfl (lv_at hl 1 rfl) ?_
  refine sg_geti X I fk_X12_137 (by decide) shM_0 rfl dX12_clause_20 ?_
  refine lv_iconst (v := -1) hx hb dX12_clause_23 (by decide) ?_
  refine lv_icmp_ne (tgt := 40) hx hb dX12_clause_24 (by decide) (fun z => ?_) (fun z => ?_)
  · have h := sg_iff h z
    exact b_X12_clause_B40 X I (lv_sub hl [1, 0] rfl) h hk
  · have h := sg_ift h z
    refine lv_aload_n hx hb dX12_clause_27 rfl (lv_at hl 1 rfl) ?_
    refine sg_callV (As := []) X I mk_X12_149 (by decide) (by decide) shM_0 rfl (fun q9 e9 => c_X12_look e9) h hl.1 rfl rfl (Nat.le_of_ble_eq_true rfl) dX12_clause_28 (fun v42 s43 H locs h I => ?_)
    refine lv_bipush (v := 121) hx hb dX12_clause_31 (by decide) ?_
    refine lv_icmp_eq (tgt := 40) hx hb dX12_clause_33 (by decide) (fun z => ?_) (fun z => ?_)
    · have h := sg_ift h z
      exact b_X12_clause_B40 X I (lv_sub hl [1, 0] rfl) h hk
    · have h := sg_iff h z
      refine lv_aload_n hx hb dX12_clause_36 rfl (lv_at hl 1 rfl) ?_
      refine sg_callVv (As := []) X I mk_X12_146 (by decide) (by decide) shM_0 rfl (fun q9 e9 => c_X12_bad e9) h hl.1 rfl rfl (Nat.le_of_ble_eq_true rfl) dX12_clause_37 (fun v44 s45 H locs h I => ?_)
      exact b_X12_clause_B40 X I (lv_sub hl [1, 0] rfl) h hk
set_option maxHeartbeats 4000000 in
set_option maxRecDepth 100000 in
theorem c_X12_clause {l : Launch} {P : sgP} {N : Nat} {σ : sgS} {q : Int32 × sgS} (h : f_X12_clause N σ = some q) : sg_Mv P shM 35 l yX12_clause cX12_clause 3 none 290 [.ref (sgA P 0)] σ q := by
  refine sg_mkv (plainFor_of_name (by decide +kernel)) (Nat.le_of_ble_eq_true rfl) ?_
  intro p e R s m args below meth c Q A ls H locs X I hl hk
  exact b_X12_clause X I hl h hk
def f_X12_open (N : Nat) (p1 : Int32) (σ : sgS) : Option (Int32 × sgS) :=
  sg_pf σ 0 14 p1 fun s1 =>
sg_pf s1 0 3 0 fun s2 =>
sg_pf s2 0 4 ((-1)) fun s3 =>
sg_pf s3 0 5 0 fun s4 =>
sg_st s4 4 5 p1 0 fun s5 =>
sg_st s5 5 5 p1 0 fun s6 =>
some (0, s6)
set_option maxHeartbeats 4000000 in
set_option maxRecDepth 100000 in
theorem b_X12_open {p : Program} {l : Launch} {e : Env} {R : Room} {s : State} {m : MethodId} {args : Array Value} {below : List Frame} {meth : Method} {c : Code} {Q : State → Prop} {P : sgP} {A : Nat → Prop} {N : Nat} {p1 : Int32} {σ : sgS} (X : sg_C P A 1 p R s m args c cX12_open 2 RX12) {H : Heap} {locs : List Loc} (I : sg_I P shM 35 A s.heap σ H locs) {ls : Array Slot} (hl : lv_has ls 2 [(0, .ref (sgA P 0)), (1, .int p1)]) {st : Int32 × sgS} (h : f_X12_open N p1 σ = some st) (hk : sg_Rv p l e R s m args below meth c Q P shM 35 A cX12_open st) : W p l e R s m args below meth c H locs 0 0 Q (F0 m 0 ls []) := by
  unfold f_X12_open at h
  have hx := X.1.1
  have hb := X.1.2.1
  have hown := X.1.2.2.2.1
  have hts := X.1.2.2.2.2
  refine lv_aload_n hx hb dX12_open_0 rfl (lv_at hl 0 rfl) ?_
  refine lv_iload_n hx hb dX12_open_1 rfl (lv_at hl 1 rfl) ?_
  refine sg_puti X I fk_X12_140 wk_12_14 rfl rfl (by decide) shM_0 rfl h dX12_open_2 (fun s1 H locs h I => ?_)
  refine lv_aload_n hx hb dX12_open_5 rfl (lv_at hl 0 rfl) ?_
  refine lv_iconst (v := 0) hx hb dX12_open_6 (by decide) ?_
  refine sg_puti X I fk_X12_130 wk_12_3 rfl rfl (by decide) shM_0 rfl h dX12_open_7 (fun s2 H locs h I => ?_)
  refine lv_aload_n hx hb dX12_open_10 rfl (lv_at hl 0 rfl) ?_
  refine lv_iconst (v := -1) hx hb dX12_open_11 (by decide) ?_
  refine sg_puti X I fk_X12_137 wk_12_4 rfl rfl (by decide) shM_0 rfl h dX12_open_12 (fun s3 H locs h I => ?_)
  refine lv_aload_n hx hb dX12_open_15 rfl (lv_at hl 0 rfl) ?_
  refine lv_iconst (v := 0) hx hb dX12_open_16 (by decide) ?_
  refine sg_puti X I fk_X12_143 wk_12_5 rfl rfl (by decide) shM_0 rfl h dX12_open_17 (fun s4 H locs h I => ?_)
  refine lv_aload_n hx hb dX12_open_20 rfl (lv_at hl 0 rfl) ?_
  refine sg_getr X I fk_X12_19 (j := 4) (by decide) shM_0 rfl dX12_open_21 ?_
  refine lv_iload_n hx hb dX12_open_24 rfl (lv_at hl 1 rfl) ?_
  refine lv_iconst (v := 0) hx hb dX12_open_25 (by decide) ?_
  refine sg_iast X I (by decide) shM_4 h dX12_open_26 (fun s5 H locs h I => ?_)
  refine lv_aload_n hx hb dX12_open_27 rfl (lv_at hl 0 rfl) ?_
  refine sg_getr X I fk_X12_22 (j := 5) (by decide) shM_0 rfl dX12_open_28 ?_
  refine lv_iload_n hx hb dX12_open_31 rfl (lv_at hl 1 rfl) ?_
  refine lv_iconst (v := 0) hx hb dX12_open_32 (by decide) ?_
  refine sg_iast X I (by decide) shM_5 h dX12_open_33 (fun s6 H locs h I => ?_)
  obtain rfl := Option.some.inj h
  exact hk _ _ _ _ I dX12_open_34
set_option maxHeartbeats 4000000 in
set_option maxRecDepth 100000 in
theorem c_X12_open {l : Launch} {P : sgP} {N : Nat} {p1 : Int32} {σ : sgS} {q : Int32 × sgS} (h : f_X12_open N p1 σ = some q) : sg_Mv P shM 35 l yX12_open cX12_open 2 none 1 [.ref (sgA P 0), .int p1] σ q := by
  refine sg_mkv (plainFor_of_name (by decide +kernel)) (Nat.le_of_ble_eq_true rfl) ?_
  intro p e R s m args below meth c Q A ls H locs X I hl hk
  exact b_X12_open X I hl h hk
def f_X12_atEnd (N : Nat) (σ : sgS) : Option (Int32 × sgS) :=
  if (σ.1 0 4) = ((-1)) then
  (sg_cl (f_X12_look N σ) fun v1 s2 =>
  if v1 = ((-1)) then
    (some (s2.1 0 4, s2))
  else
    (sg_cl (f_X12_bad N s2) fun v3 s4 =>
    some (s4.1 0 4, s4)))
else
  (some (σ.1 0 4, σ))
set_option maxHeartbeats 4000000 in
set_option maxRecDepth 100000 in
theorem b_X12_atEnd {p : Program} {l : Launch} {e : Env} {R : Room} {s : State} {m : MethodId} {args : Array Value} {below : List Frame} {meth : Method} {c : Code} {Q : State → Prop} {P : sgP} {A : Nat → Prop} {N : Nat} {σ : sgS} (X : sg_C P A 3 p R s m args c cX12_atEnd 1 RX12) {H : Heap} {locs : List Loc} (I : sg_I P shM 35 A s.heap σ H locs) {ls : Array Slot} (hl : lv_has ls 1 [(0, .ref (sgA P 0))]) {st : Int32 × sgS} (h : f_X12_atEnd N σ = some st) (hk : sg_Ri p l e R s m args below meth c Q P shM 35 A cX12_atEnd (some .int) st) : W p l e R s m args below meth c H locs 0 0 Q (F0 m 0 ls []) := by
  unfold f_X12_atEnd at h
  have hx := X.1.1
  have hb := X.1.2.1
  have hown := X.1.2.2.2.1
  have hts := X.1.2.2.2.2
  refine lv_aload_n hx hb dX12_atEnd_0 rfl (lv_at hl 0 rfl) ?_
  refine sg_geti X I fk_X12_137 (by decide) shM_0 rfl dX12_atEnd_1 ?_
  refine lv_iconst (v := -1) hx hb dX12_atEnd_4 (by decide) ?_
  refine lv_icmp_ne (tgt := 20) hx hb dX12_atEnd_5 (by decide) (fun z => ?_) (fun z => ?_)
  · have h := sg_iff h z
    refine lv_aload_n hx hb dX12_atEnd_20 rfl (lv_at hl 0 rfl) ?_
    refine sg_geti X I fk_X12_137 (by decide) shM_0 rfl dX12_atEnd_21 ?_
    obtain rfl := Option.some.inj h
    exact hk _ _ _ _ _ I ⟨_, rfl, rfl⟩ dX12_atEnd_24
  · have h := sg_ift h z
    refine lv_aload_n hx hb dX12_atEnd_8 rfl (lv_at hl 0 rfl) ?_
    refine sg_callV (As := []) X I mk_X12_149 (by decide) (by decide) shM_0 rfl (fun q9 e9 => c_X12_look e9) h hl.1 rfl rfl (Nat.le_of_ble_eq_true rfl) dX12_atEnd_9 (fun v1 s2 H locs h I => ?_)
    refine lv_iconst (v := -1) hx hb dX12_atEnd_12 (by decide) ?_
    refine lv_icmp_eq (tgt := 20) hx hb dX12_atEnd_13 (by decide) (fun z => ?_) (fun z => ?_)
    · have h := sg_ift h z
      refine lv_aload_n hx hb dX12_atEnd_20 rfl (lv_at hl 0 rfl) ?_
      refine sg_geti X I fk_X12_137 (by decide) shM_0 rfl dX12_atEnd_21 ?_
      obtain rfl := Option.some.inj h
      exact hk _ _ _ _ _ I ⟨_, rfl, rfl⟩ dX12_atEnd_24
    · have h := sg_iff h z
      refine lv_aload_n hx hb dX12_atEnd_16 rfl (lv_at hl 0 rfl) ?_
      refine sg_callVv (As := []) X I mk_X12_146 (by decide) (by decide) shM_0 rfl (fun q9 e9 => c_X12_bad e9) h hl.1 rfl rfl (Nat.le_of_ble_eq_true rfl) dX12_atEnd_17 (fun v3 s4 H locs h I => ?_)
      refine lv_aload_n hx hb dX12_atEnd_20 rfl (lv_at hl 0 rfl) ?_
      refine sg_geti X I fk_X12_137 (by decide) shM_0 rfl dX12_atEnd_21 ?_
      obtain rfl := Option.some.inj h
      exact hk _ _ _ _ _ I ⟨_, rfl, rfl⟩ dX12_atEnd_24
set_option maxHeartbeats 4000000 in
set_option maxRecDepth 100000 in
theorem c_X12_atEnd {l : Launch} {P : sgP} {N : Nat} {σ : sgS} {q : Int32 × sgS} (h : f_X12_atEnd N σ = some q) : sg_Mi P shM 35 l yX12_atEnd cX12_atEnd 1 (some .int) 3 [.ref (sgA P 0)] σ q := by
  refine sg_mki (plainFor_of_name (by decide +kernel)) (Nat.le_of_ble_eq_true rfl) ?_
  intro p e R s m args below meth c Q A ls H locs X I hl hk
  exact b_X12_atEnd X I hl h hk
