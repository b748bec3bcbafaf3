def f_X6_undoOne (N : Nat) (p1 : Nat) (σ : sgS) : Option (Int32 × sgS) :=
  if (σ.1 52 1) = 0 then
  (some ((-1), σ))
else
  (sg_nz 40 (
    sg_pf σ 52 2 ((((σ.1 52 2) + 40) - 1) - (((σ.1 52 2) + 40) - 1) / 40 * 40) fun s1 =>
    sg_pf s1 52 1 ((s1.1 52 1) - 1) fun s2 =>
    sg_rf 40 (s2.1 52 2) fun j4 =>
    sg_cl (f_X8_copyFrom N p1 (62 + 6 * j4) s2) fun v5 s6 =>
    some (s6.1 52 1, s6)))
set_option maxHeartbeats 4000000 in
set_option maxRecDepth 100000 in
theorem b_X6_undoOne {p : Program} {l : Launch} {e : Env} {R : Room} {s : State} {m : MethodId} {args : Array Value} {below : List Frame} {meth : Method} {c : Code} {Q : State → Prop} {P : sgP} {A : Nat → Prop} {N : Nat} {p1 : Nat} {σ : sgS} (X : sg_C P A 3 p R s m args c cX6_undoOne 2 RX6) (hp1 : isSt p1) {H : Heap} {locs : List Loc} (I : sg_I P shC 332 A s.heap σ H locs) {ls : Array Slot} (hl : lv_has ls 2 [(0, .ref (sgA P 52)), (1, .ref (sgA P p1))]) {st : Int32 × sgS} (h : f_X6_undoOne N p1 σ = some st) (hk : sg_Ri p l e R s m args below meth c Q P shC 332 A cX6_undoOne (some .int) st) : W p l e R s m args below meth c H locs 0 0 Q (F0 m 0 ls []) := by
  unfold f_X6_undoOne at h
  have hx := X.1.1
  have hb := X.1.2.1
  have hown := X.1.2.2.2.1
  have hts := X.1.2.2.2.2
  refine lv_aload_n hx hb dX6_undoOne_0 rfl (lv_at hl 0 rfl) ?_
  refine sg_geti X I fk_X6_29 (by decide) shC_52 rfl dX6_undoOne_1 ?_
  refine lv_if_ne (tgt := 9) hx hb dX6_undoOne_4 (by decide) (fun z => ?_) (fun z => ?_)
  · have h := sg_iff h z
    refine lv_aload_n hx hb dX6_undoOne_9 rfl (lv_at hl 0 rfl) ?_
    refine lv_aload_n hx hb dX6_undoOne_10 rfl (lv_at hl 0 rfl) ?_
    refine sg_geti X I fk_X6_37 (by decide) shC_52 rfl dX6_undoOne_11 ?_
    refine lv_bipush (v := 40) hx hb dX6_undoOne_14 (by decide) ?_
    refine lv_iadd hx hb dX6_undoOne_16 ?_
    refine lv_iconst (v := 1) hx hb dX6_undoOne_17 (by decide) ?_
    refine lv_isub hx hb dX6_undoOne_18 ?_
    refine lv_bipush (v := 40) hx hb dX6_undoOne_19 (by decide) ?_
    refine sg_nzW (h := h) (fun z h => ?_)
    refine lv_irem hx hb dX6_undoOne_21 z ?_
    refine sg_puti X I fk_X6_37 wk_6_2 rfl rfl (by decide) shC_52 rfl h dX6_undoOne_22 (fun s1 H locs h I => ?_)
    refine lv_aload_n hx hb dX6_undoOne_25 rfl (lv_at hl 0 rfl) ?_
    refine lv_dup hx hb dX6_undoOne_26 rfl ?_
    refine sg_geti X I fk_X6_29 (by decide) shC_52 rfl dX6_undoOne_27 ?_
    refine lv_iconst (v := 1) hx hb dX6_undoOne_30 (by decide) ?_
    refine lv_isub hx hb dX6_undoOne_31 ?_
    refine sg_puti X I fk_X6_29 wk_6_1 rfl rfl (by decide) shC_52 rfl h dX6_undoOne_32 (fun s2 H locs h I => ?_)
    refine lv_aload_n hx hb dX6_undoOne_35 rfl (lv_at hl 1 rfl) ?_
    refine lv_aload_n hx hb dX6_undoOne_36 rfl (lv_at hl 0 rfl) ?_
    refine sg_getr X I fk_X6_11 (j := 53) (by decide) shC_52 rfl dX6_undoOne_37 ?_
    refine lv_aload_n hx hb dX6_undoOne_40 rfl (lv_at hl 0 rfl) ?_
    refine sg_geti X I fk_X6_37 (by decide) shC_52 rfl dX6_undoOne_41 ?_
    refine sg_aald X I (by decide) shC_53 (r := fun k => 62 + 6 * k) (fun _ h => if_pos h) h dX6_undoOne_44 (fun j4 hj4 h => ?_)
    refine sg_callVv (As := [.ref (sgA P (62 + 6 * j4))]) X I mk_X6_40 (by decide) (isSt_i0 hp1) (isSt_s0 hp1) rfl (fun q9 e9 => c_X8_copyFrom hp1 (isSt_ah hj4) e9) h hl.1 rfl rfl (Nat.le_of_ble_eq_true rfl) dX6_undoOne_45 (fun v5 s6 H locs h I => ?_)
    refine lv_aload_n hx hb dX6_undoOne_48 rfl (lv_at hl 0 rfl) ?_
    refine sg_geti X I fk_X6_29 (by decide) shC_52 rfl dX6_undoOne_49 ?_
    obtain rfl := Option.some.inj h
    exact hk _ _ _ _ _ I ⟨_, rfl, rfl⟩ dX6_undoOne_52
  · have h := sg_ift h z
    refine lv_iconst (v := -1) hx hb dX6_undoOne_7 (by decide) ?_
    obtain rfl := Option.some.inj h
    exact hk _ _ _ _ _ I ⟨_, rfl, rfl⟩ dX6_undoOne_8
set_option maxHeartbeats 4000000 in
set_option maxRecDepth 100000 in
theorem c_X6_undoOne {l : Launch} {P : sgP} {N : Nat} {p1 : Nat} {σ : sgS} (hp1 : isSt p1) {q : Int32 × sgS} (h : f_X6_undoOne N p1 σ = some q) : sg_Mi P shC 332 l yX6_undoOne cX6_undoOne 2 (some .int) 3 [.ref (sgA P 52), .ref (sgA P p1)] σ q := by
  refine sg_mki (plainFor_of_name (by decide +kernel)) (Nat.le_of_ble_eq_true rfl) ?_
  intro p e R s m args below meth c Q A ls H locs X I hl hk
  exact b_X6_undoOne X hp1 I hl h hk
def f_X6_logSize (N : Nat) (p0 : Int32) (σ : sgS) : Option (Int32) :=
  some ((if p0 < 60 then p0 else 60))
set_option maxHeartbeats 4000000 in
set_option maxRecDepth 100000 in
theorem b_X6_logSize {p : Program} {l : Launch} {e : Env} {R : Room} {s : State} {m : MethodId} {args : Array Value} {below : List Frame} {meth : Method} {c : Code} {Q : State → Prop} {P : sgP} {A : Nat → Prop} {N : Nat} {p0 : Int32} {σ : sgS} (X : sg_C P A 2 p R s m args c cX6_logSize 1 RX6) {H : Heap} {locs : List Loc} (I : sg_I P shC 332 A s.heap σ H locs) {ls : Array Slot} (hl : lv_has ls 1 [(0, .int p0)]) {st : Int32} (h : f_X6_logSize N p0 σ = some st) (hk : sg_Ri p l e R s m args below meth c Q P shC 332 A cX6_logSize (some .int) (st, σ)) : W p l e R s m args below meth c H locs 0 0 Q (F0 m 0 ls []) := by
  unfold f_X6_logSize at h
  have hx := X.1.1
  have hb := X.1.2.1
  have hown := X.1.2.2.2.1
  have hts := X.1.2.2.2.2
  refine lv_bipush (v := 60) hx hb dX6_logSize_0 (by decide) ?_
  refine lv_iload_n hx hb dX6_logSize_2 rfl (lv_at hl 0 rfl) ?_
  refine sg_mmin X hl.1 (by first | decide | omega) qw_870 qw_289 qw_286 qw_290 (Nat.le_of_ble_eq_true rfl) dX6_logSize_3 ?_
  obtain rfl := Option.some.inj h
  exact hk _ _ _ _ _ I ⟨_, rfl, rfl⟩ dX6_logSize_6
set_option maxHeartbeats 4000000 in
set_option maxRecDepth 100000 in
theorem c_X6_logSize {l : Launch} {P : sgP} {N : Nat} {p0 : Int32} {σ : sgS} {q : Int32} (h : f_X6_logSize N p0 σ = some q) : sg_Mi P shC 332 l yX6_logSize cX6_logSize 1 (some .int) 2 [.int p0] σ (q, σ) := by
  refine sg_mki (plainFor_of_name (by decide +kernel)) (Nat.le_of_ble_eq_true rfl) ?_
  intro p e R s m args below meth c Q A ls H locs X I hl hk
  exact b_X6_logSize X I hl h hk
def f_J9_floorMod_7cf53 (N : Nat) (p0 : Int32) (p1 : Int32) (σ : sgS) : Option (Int32) :=
  sg_nz p1 (
  if 0 ≤ (p0 ^^^ p1) then
    (some (p0 - p0 / p1 * p1))
  else
    (if (p0 - p0 / p1 * p1) = 0 then
      (some (p0 - p0 / p1 * p1))
    else
      (some ((p0 - p0 / p1 * p1) + p1))))
set_option maxHeartbeats 4000000 in
set_option maxRecDepth 100000 in
theorem b_J9_floorMod_7cf53 {p : Program} {l : Launch} {e : Env} {R : Room} {s : State} {m : MethodId} {args : Array Value} {below : List Frame} {meth : Method} {c : Code} {Q : State → Prop} {P : sgP} {A : Nat → Prop} {sh : Nat → sgE} {n : Nat} {N : Nat} {p0 : Int32} {p1 : Int32} {σ : sgS} (X : sg_C P A 1 p R s m args c cJ9_floorMod_7cf53 3 RJ9) {H : Heap} {locs : List Loc} (I : sg_I P sh n A s.heap σ H locs) {ls : Array Slot} (hl : lv_has ls 3 [(0, .int p0), (1, .int p1)]) {st : Int32} (h : f_J9_floorMod_7cf53 N p0 p1 σ = some st) (hk : sg_Ri p l e R s m args below meth c Q P sh n A cJ9_floorMod_7cf53 (some .int) (st, σ)) : W p l e R s m args below meth c H locs 0 0 Q (F0 m 0 ls []) := by
  unfold f_J9_floorMod_7cf53 at h
  have hx := X.1.1
  have hb := X.1.2.1
  have hown := X.1.2.2.2.1
  have hts := X.1.2.2.2.2
  refine lv_iload_n hx hb dJ9_floorMod_7cf53_0 rfl (lv_at hl 0 rfl) ?_
  refine lv_iload_n hx hb dJ9_floorMod_7cf53_1 rfl (lv_at hl 1 rfl) ?_
  refine sg_nzW (h := h) (fun z h => ?_)
  refine lv_irem hx hb dJ9_floorMod_7cf53_2 z ?_
  refine lv_istore_n (lv' := [(2, .int (p0 - p0 / p1 * p1)), (0, .int p0), (1, .int p1)]) hx hb dJ9_floorMod_7cf53_3 rfl hl (by decide) rfl (fun ls hl => ?_)
  refine lv_iload_n hx hb dJ9_floorMod_7cf53_4 rfl (lv_at hl 1 rfl) ?_
  refine lv_iload_n hx hb dJ9_floorMod_7cf53_5 rfl (lv_at hl 2 rfl) ?_
  refine lv_ixor hx hb dJ9_floorMod_7cf53_6 ?_
  refine lv_if_ge (tgt := 18) hx hb dJ9_floorMod_7cf53_7 (by decide) (fun z => ?_) (fun z => ?_)
  · have h := sg_ift h z
    refine lv_iload_n hx hb dJ9_floorMod_7cf53_18 rfl (lv_at hl 0 rfl) ?_
    obtain rfl := Option.some.inj h
    exact hk _ _ _ _ _ I ⟨_, rfl, rfl⟩ dJ9_floorMod_7cf53_19
  · have h := sg_iff h z
    refine lv_iload_n hx hb dJ9_floorMod_7cf53_10 rfl (lv_at hl 0 rfl) ?_
    refine lv_if_eq (tgt := 18) hx hb dJ9_floorMod_7cf53_11 (by decide) (fun z => ?_) (fun z => ?_)
    · have h := sg_ift h z
      refine lv_iload_n hx hb dJ9_floorMod_7cf53_18 rfl (lv_at hl 0 rfl) ?_
      obtain rfl := Option.some.inj h
      exact hk _ _ _ _ _ I ⟨_, rfl, rfl⟩ dJ9_floorMod_7cf53_19
    · have h := sg_iff h z
      refine lv_iload_n hx hb dJ9_floorMod_7cf53_14 rfl (lv_at hl 0 rfl) ?_
      refine lv_iload_n hx hb dJ9_floorMod_7cf53_15 rfl (lv_at hl 2 rfl) ?_
      refine lv_iadd hx hb dJ9_floorMod_7cf53_16 ?_
      obtain rfl := Option.some.inj h
      exact hk _ _ _ _ _ I ⟨_, rfl, rfl⟩ dJ9_floorMod_7cf53_17
set_option maxHeartbeats 4000000 in
set_option maxRecDepth 100000 in
theorem c_J9_floorMod_7cf53 {l : Launch} {P : sgP} {sh : Nat → sgE} {n : Nat} {N : Nat} {p0 : Int32} {p1 : Int32} {σ : sgS} {q : Int32} (h : f_J9_floorMod_7cf53 N p0 p1 σ = some q) : sg_Mi P sh n l yJ9_floorMod_7cf53 cJ9_floorMod_7cf53 3 (some .int) 1 [.int p0, .int p1] σ (q, σ) := by
  refine sg_mki (by decide +kernel) (Nat.le_of_ble_eq_true rfl) ?_
  intro p e R s m args below meth c Q A ls H locs X I hl hk
  exact b_J9_floorMod_7cf53 X I hl h hk
def f_X6_rowOf (N : Nat) (p0 : Int32) (σ : sgS) : Option (Int32) :=
  sg_cr (f_J9_floorMod_7cf53 N p0 100 σ) fun v1 =>
some (v1 * 3)
set_option maxHeartbeats 4000000 in
set_option maxRecDepth 100000 in
theorem b_X6_rowOf {p : Program} {l : Launch} {e : Env} {R : Room} {s : State} {m : MethodId} {args : Array Value} {below : List Frame} {meth : Method} {c : Code} {Q : State → Prop} {P : sgP} {A : Nat → Prop} {N : Nat} {p0 : Int32} {σ : sgS} (X : sg_C P A 2 p R s m args c cX6_rowOf 1 RX6) {H : Heap} {locs : List Loc} (I : sg_I P shC 332 A s.heap σ H locs) {ls : Array Slot} (hl : lv_has ls 1 [(0, .int p0)]) {st : Int32} (h : f_X6_rowOf N p0 σ = some st) (hk : sg_Ri p l e R s m args below meth c Q P shC 332 A cX6_rowOf (some .int) (st, σ)) : W p l e R s m args below meth c H locs 0 0 Q (F0 m 0 ls []) := by
  unfold f_X6_rowOf at h
  have hx := X.1.1
  have hb := X.1.2.1
  have hown := X.1.2.2.2.1
  have hts := X.1.2.2.2.2
  refine lv_iload_n hx hb dX6_rowOf_0 rfl (lv_at hl 0 rfl) ?_
  refine lv_bipush (v := 100) hx hb dX6_rowOf_1 (by decide) ?_
  refine sg_callSr (As := [.int p0, .int 100]) X I mk_X6_50 (by decide) (fun q9 e9 => c_J9_floorMod_7cf53 e9) h hl.1 rfl rfl (Nat.le_of_ble_eq_true rfl) dX6_rowOf_3 (fun v1 H locs h I => ?_)
  refine lv_iconst (v := 3) hx hb dX6_rowOf_6 (by decide) ?_
  refine lv_imul hx hb dX6_rowOf_7 ?_
  obtain rfl := Option.some.inj h
  exact hk _ _ _ _ _ I ⟨_, rfl, rfl⟩ dX6_rowOf_8
set_option maxHeartbeats 4000000 in
set_option maxRecDepth 100000 in
theorem c_X6_rowOf {l : Launch} {P : sgP} {N : Nat} {p0 : Int32} {σ : sgS} {q : Int32} (h : f_X6_rowOf N p0 σ = some q) : sg_Mi P shC 332 l yX6_rowOf cX6_rowOf 1 (some .int) 2 [.int p0] σ (q, σ) := by
  refine sg_mki (plainFor_of_name (by decide +kernel)) (Nat.le_of_ble_eq_true rfl) ?_
  intro p e R s m args below meth c Q A ls H locs X I hl hk
  exact b_X6_rowOf X I hl h hk
def f_X6_note (N : Nat) (p1 : Int32) (p2 : Int32) (p3 : Int32) (p4 : Int32) (σ : sgS) : Option (Int32 × sgS) :=
  sg_cr (f_X6_rowOf N p1 σ) fun v1 =>
sg_st σ 54 300 v1 p2 fun s2 =>
sg_st s2 54 300 (v1 + 1) p3 fun s3 =>
sg_st s3 54 300 (v1 + 2) p4 fun s4 =>
some (0, s4)
set_option maxHeartbeats 4000000 in
set_option maxRecDepth 100000 in
theorem b_X6_note {p : Program} {l : Launch} {e : Env} {R : Room} {s : State} {m : MethodId} {args : Array Value} {below : List Frame} {meth : Method} {c : Code} {Q : State → Prop} {P : sgP} {A : Nat → Prop} {N : Nat} {p1 : Int32} {p2 : Int32} {p3 : Int32} {p4 : Int32} {σ : sgS} (X : sg_C P A 3 p R s m args c cX6_note 6 RX6) {H : Heap} {locs : List Loc} (I : sg_I P shC 332 A s.heap σ H locs) {ls : Array Slot} (hl : lv_has ls 6 [(0, .ref (sgA P 52)), (1, .int p1), (2, .int p2), (3, .int p3), (4, .int p4)]) {st : Int32 × sgS} (h : f_X6_note N p1 p2 p3 p4 σ = some st) (hk : sg_Rv p l e R s m args below meth c Q P shC 332 A cX6_note st) : W p l e R s m args below meth c H locs 0 0 Q (F0 m 0 ls []) := by
  unfold f_X6_note at h
  have hx := X.1.1
  have hb := X.1.2.1
  have hown := X.1.2.2.2.1
  have hts := X.1.2.2.2.2
  refine lv_iload_n hx hb dX6_note_0 rfl (lv_at hl 1 rfl) ?_
  refine sg_callSr (As := [.int p1]) X I mk_X6_53 (by decide) (fun q9 e9 => c_X6_rowOf e9) h hl.1 rfl rfl (Nat.le_of_ble_eq_true rfl) dX6_note_1 (fun v1 H locs h I => ?_)
  refine lv_istore (lv' := [(5, .int v1), (0, .ref (sgA P 52)), (1, .int p1), (2, .int p2), (3, .int p3), (4, .int p4)]) hx hb dX6_note_4 hl (by decide) rfl (fun ls hl => ?_)
  refine lv_aload_n hx hb dX6_note_6 rfl (lv_at hl 1 rfl) ?_
  refine sg_getr X I fk_X6_17 (j := 54) (by decide) shC_52 rfl dX6_note_7 ?_
  refine lv_iload hx hb dX6_note_10 (lv_at hl 0 rfl) ?_
  refine lv_iload_n hx hb dX6_note_12 rfl (lv_at hl 3 rfl) ?_
  refine sg_iast X I (by decide) shC_54 h dX6_note_13 (fun s2 H locs h I => ?_)
  refine lv_aload_n hx hb dX6_note_14 rfl (lv_at hl 1 rfl) ?_
  refine sg_getr X I fk_X6_17 (j := 54) (by decide) shC_52 rfl dX6_note_15 ?_
  refine lv_iload hx hb dX6_note_18 (lv_at hl 0 rfl) ?_
  refine lv_iconst (v := 1) hx hb dX6_note_20 (by decide) ?_
  refine lv_iadd hx hb dX6_note_21 ?_
  refine lv_iload_n hx hb dX6_note_22 rfl (lv_at hl 4 rfl) ?_
  refine sg_iast X I (by decide) shC_54 h dX6_note_23 (fun s3 H locs h I => ?_)
  refine lv_aload_n hx hb dX6_note_24 rfl (lv_at hl 1 rfl) ?_
  refine sg_getr X I fk_X6_17 (j := 54) (by decide) shC_52 rfl dX6_note_25 ?_
  refine lv_iload hx hb dX6_note_28 (lv_at hl 0 rfl) ?_
  refine lv_iconst (v := 2) hx hb dX6_note_30 (by decide) ?_
  refine lv_iadd hx hb dX6_note_31 ?_
  refine lv_iload hx hb dX6_note_32 (lv_at hl 5 rfl) ?_
  refine sg_iast X I (by decide) shC_54 h dX6_note_34 (fun s4 H locs h I => ?_)
  obtain rfl := Option.some.inj h
  exact hk _ _ _ _ I dX6_note_35
set_option maxHeartbeats 4000000 in
set_option maxRecDepth 100000 in
theorem c_X6_note {l : Launch} {P : sgP} {N : Nat} {p1 : Int32} {p2 : Int32} {p3 : Int32} {p4 : Int32} {σ : sgS} {q : Int32 × sgS} (h : f_X6_note N p1 p2 p3 p4 σ = some q) : sg_Mv P shC 332 l yX6_note cX6_note 6 none 3 [.ref (sgA P 52), .int p1, .int p2, .int p3, .int p4] σ q := by
  refine sg_mkv (plainFor_of_name (by decide +kernel)) (Nat.le_of_ble_eq_true rfl) ?_
  intro p e R s m args below meth c Q A ls H locs X I hl hk
  exact b_X6_note X I hl h hk
def f_X6_noted (N : Nat) (p1 : Int32) (p2 : Int32) (σ : sgS) : Option (Int32) :=
  if p2 < 0 then
  (some ((-1)))
else
  (if p2 < 3 then
    (sg_cr (f_X6_rowOf N p1 σ) fun v1 =>
    sg_ld σ 54 300 (v1 + p2) fun v2 =>
    some v2)
  else
    (some ((-1))))
set_option maxHeartbeats 4000000 in
set_option maxRecDepth 100000 in
theorem b_X6_noted {p : Program} {l : Launch} {e : Env} {R : Room} {s : State} {m : MethodId} {args : Array Value} {below : List Frame} {meth : Method} {c : Code} {Q : State → Prop} {P : sgP} {A : Nat → Prop} {N : Nat} {p1 : Int32} {p2 : Int32} {σ : sgS} (X : sg_C P A 3 p R s m args c cX6_noted 3 RX6) {H : Heap} {locs : List Loc} (I : sg_I P shC 332 A s.heap σ H locs) {ls : Array Slot} (hl : lv_has ls 3 [(0, .ref (sgA P 52)), (1, .int p1), (2, .int p2)]) {st : Int32} (h : f_X6_noted N p1 p2 σ = some st) (hk : sg_Ri p l e R s m args below meth c Q P shC 332 A cX6_noted (some .int) (st, σ)) : W p l e R s m args below meth c H locs 0 0 Q (F0 m 0 ls []) := by
  unfold f_X6_noted at h
  have hx := X.1.1
  have hb := X.1.2.1
  have hown := X.1.2.2.2.1
  have hts := X.1.2.2.2.2
  refine lv_iload_n hx hb dX6_noted_0 rfl (lv_at hl 2 rfl) ?_
  refine lv_if_lt (tgt := 9) hx hb dX6_noted_1 (by decide) (fun z => ?_) (fun z => ?_)
  · have h := sg_ift h z
    refine lv_iconst (v := -1) hx hb dX6_noted_9 (by decide) ?_
    refine lv_goto (tgt := 24) hx hb dX6_noted_10 (by decide) ?_
    obtain rfl := Option.some.inj h
    exact hk _ _ _ _ _ I ⟨_, rfl, rfl⟩ dX6_noted_24
  · have h := sg_iff h z
    refine lv_iload_n hx hb dX6_noted_4 rfl (lv_at hl 2 rfl) ?_
    refine lv_iconst (v := 3) hx hb dX6_noted_5 (by decide) ?_
    refine lv_icmp_lt (tgt := 13) hx hb dX6_noted_6 (by decide) (fun z => ?_) (fun z => ?_)
    · have h := sg_ift h z
      refine lv_aload_n hx hb dX6_noted_13 rfl (lv_at hl 0 rfl) ?_
      refine sg_getr X I fk_X6_17 (j := 54) (by decide) shC_52 rfl dX6_noted_14 ?_
      refine lv_iload_n hx hb dX6_noted_17 rfl (lv_at hl 1 rfl) ?_
      refine sg_callSr (As := [.int p1]) X I mk_X6_53 (by decide) (fun q9 e9 => c_X6_rowOf e9) h hl.1 rfl rfl (Nat.le_of_ble_eq_true rfl) dX6_noted_18 (fun v1 H locs h I => ?_)
      refine lv_iload_n hx hb dX6_noted_21 rfl (lv_at hl 2 rfl) ?_
      refine lv_iadd hx hb dX6_noted_22 ?_
      refine sg_iald X I (by decide) shC_54 h dX6_noted_23 (fun v2 h => ?_)
      obtain rfl := Option.some.inj h
      exact hk _ _ _ _ _ I ⟨_, rfl, rfl⟩ dX6_noted_24
    · have h := sg_iff h z
      refine lv_iconst (v := -1) hx hb dX6_noted_9 (by decide) ?_
      refine lv_goto (tgt := 24) hx hb dX6_noted_10 (by decide) ?_
      obtain rfl := Option.some.inj h
      exact hk _ _ _ _ _ I ⟨_, rfl, rfl⟩ dX6_noted_24
set_option maxHeartbeats 4000000 in
set_option maxRecDepth 100000 in
theorem c_X6_noted {l : Launch} {P : sgP} {N : Nat} {p1 : Int32} {p2 : Int32} {σ : sgS} {q : Int32} (h : f_X6_noted N p1 p2 σ = some q) : sg_Mi P shC 332 l yX6_noted cX6_noted 3 (some .int) 3 [.ref (sgA P 52), .int p1, .int p2] σ (q, σ) := by
  refine sg_mki (plainFor_of_name (by decide +kernel)) (Nat.le_of_ble_eq_true rfl) ?_
  intro p e R s m args below meth c Q A ls H locs X I hl hk
  exact b_X6_noted X I hl h hk
def f_X6_keepImage (N : Nat) (p1 : Nat) (σ : sgS) : Option (Int32 × sgS) :=
  sg_cl (f_X8_copyFrom N 55 p1 σ) fun v1 s2 =>
sg_cp s2 54 300 61 300 0 0 300 fun s3 =>
sg_pf s3 52 6 1 fun s4 =>
some (0, s4)
set_option maxHeartbeats 4000000 in
set_option maxRecDepth 100000 in
theorem b_X6_keepImage {p : Program} {l : Launch} {e : Env} {R : Room} {s : State} {m : MethodId} {args : Array Value} {below : List Frame} {meth : Method} {c : Code} {Q : State → Prop} {P : sgP} {A : Nat → Prop} {N : Nat} {p1 : Nat} {σ : sgS} (X : sg_C P A 3 p R s m args c cX6_keepImage 2 RX6) (hp1 : isSt p1) {H : Heap} {locs : List Loc} (I : sg_I P shC 332 A s.heap σ H locs) {ls : Array Slot} (hl : lv_has ls 2 [(0, .ref (sgA P 52)), (1, .ref (sgA P p1))]) {st : Int32 × sgS} (h : f_X6_keepImage N p1 σ = some st) (hk : sg_Rv p l e R s m args below meth c Q P shC 332 A cX6_keepImage st) : W p l e R s m args below meth c H locs 0 0 Q (F0 m 0 ls []) := by
  unfold f_X6_keepImage at h
  have hx := X.1.1
  have hb := X.1.2.1
  have hown := X.1.2.2.2.1
  have hts := X.1.2.2.2.2
  refine lv_aload_n hx hb dX6_keepImage_0 rfl (lv_at hl 0 rfl) ?_
  refine sg_getr X I fk_X6_22 (j := 55) (by decide) shC_52 rfl dX6_keepImage_1 ?_
  refine lv_aload_n hx hb dX6_keepImage_4 rfl (lv_at hl 1 rfl) ?_
  refine sg_callVv (As := [.ref (sgA P p1)]) X I mk_X6_40 (by decide) (isSt_i0 isSt_55) (isSt_s0 isSt_55) rfl (fun q9 e9 => c_X8_copyFrom isSt_55 hp1 e9) h hl.1 rfl rfl (Nat.le_of_ble_eq_true rfl) dX6_keepImage_5 (fun v1 s2 H locs h I => ?_)
  refine lv_aload_n hx hb dX6_keepImage_8 rfl (lv_at hl 0 rfl) ?_
  refine sg_getr X I fk_X6_17 (j := 54) (by decide) shC_52 rfl dX6_keepImage_9 ?_
  refine lv_iconst (v := 0) hx hb dX6_keepImage_12 (by decide) ?_
  refine lv_aload_n hx hb dX6_keepImage_13 rfl (lv_at hl 0 rfl) ?_
  refine sg_getr X I fk_X6_26 (j := 61) (by decide) shC_52 rfl dX6_keepImage_14 ?_
  refine lv_iconst (v := 0) hx hb dX6_keepImage_17 (by decide) ?_
  refine lv_aload_n hx hb dX6_keepImage_18 rfl (lv_at hl 0 rfl) ?_
  refine sg_getr X I fk_X6_17 (j := 54) (by decide) shC_52 rfl dX6_keepImage_19 ?_
  refine sg_alen X I (v := 300) (by decide) shC_54 rfl dX6_keepImage_22 ?_
  refine sg_copy X I hl.1 (by first | decide | omega) qw_1533 ⟨qw_622, qw_623, qw_624⟩ (by decide) (by decide) shC_54 shC_61 h (Nat.le_of_ble_eq_true rfl) dX6_keepImage_23 (fun s3 H locs h I => ?_)
  refine lv_aload_n hx hb dX6_keepImage_26 rfl (lv_at hl 0 rfl) ?_
  refine lv_iconst (v := 1) hx hb dX6_keepImage_27 (by decide) ?_
  refine sg_puti X I fk_X6_33 wk_6_6 (by decide) (by decide) (by decide) shC_52 rfl h dX6_keepImage_28 (fun s4 H locs h I => ?_)
  obtain rfl := Option.some.inj h
  exact hk _ _ _ _ I dX6_keepImage_31
set_option maxHeartbeats 4000000 in
set_option maxRecDepth 100000 in
theorem c_X6_keepImage {l : Launch} {P : sgP} {N : Nat} {p1 : Nat} {σ : sgS} (hp1 : isSt p1) {q : Int32 × sgS} (h : f_X6_keepImage N p1 σ = some q) : sg_Mv P shC 332 l yX6_keepImage cX6_keepImage 2 none 3 [.ref (sgA P 52), .ref (sgA P p1)] σ q := by
  refine sg_mkv (plainFor_of_name (by decide +kernel)) (Nat.le_of_ble_eq_true rfl) ?_
  intro p e R s m args below meth c Q A ls H locs X I hl hk
  exact b_X6_keepImage X hp1 I hl h hk
def f_X6_goBack (N : Nat) (p1 : Nat) (σ : sgS) : Option (Int32 × sgS) :=
  if (σ.1 52 6) = 0 then
  (some (vp_nar .boolean 0, σ))
else
  (sg_cl (f_X8_copyFrom N p1 55 σ) fun v1 s2 =>
  sg_cp s2 61 300 54 300 0 0 300 fun s3 =>
  sg_pf s3 52 1 0 fun s4 =>
  some (vp_nar .boolean 1, s4))
set_option maxHeartbeats 4000000 in
set_option maxRecDepth 100000 in
theorem b_X6_goBack {p : Program} {l : Launch} {e : Env} {R : Room} {s : State} {m : MethodId} {args : Array Value} {below : List Frame} {meth : Method} {c : Code} {Q : State → Prop} {P : sgP} {A : Nat → Prop} {N : Nat} {p1 : Nat} {σ : sgS} (X : sg_C P A 3 p R s m args c cX6_goBack 2 RX6) (hp1 : isSt p1) {H : Heap} {locs : List Loc} (I : sg_I P shC 332 A s.heap σ H locs) {ls : Array Slot} (hl : lv_has ls 2 [(0, .ref (sgA P 52)), (1, .ref (sgA P p1))]) {st : Int32 × sgS} (h : f_X6_goBack N p1 σ = some st) (hk : sg_Ri p l e R s m args below meth c Q P shC 332 A cX6_goBack (some .boolean) st) : W p l e R s m args below meth c H locs 0 0 Q (F0 m 0 ls []) := by
  unfold f_X6_goBack at h
  have hx := X.1.1
  have hb := X.1.2.1
  have hown := X.1.2.2.2.1
  have hts := X.1.2.2.2.2
  refine lv_aload_n hx hb dX6_goBack_0 rfl (lv_at hl 0 rfl) ?_
  refine sg_geti X I fk_X6_33 (by decide) shC_52 rfl dX6_goBack_1 ?_
  refine lv_if_ne (tgt := 9) hx hb dX6_goBack_4 (by decide) (fun z => ?_) (fun z => ?_)
  · have h := sg_iff h z
    refine lv_aload_n hx hb dX6_goBack_9 rfl (lv_at hl 1 rfl) ?_
    refine lv_aload_n hx hb dX6_goBack_10 rfl (lv_at hl 0 rfl) ?_
    refine sg_getr X I fk_X6_22 (j := 55) (by decide) shC_52 rfl dX6_goBack_11 ?_
    refine sg_callVv (As := [.ref (sgA P 55)]) X I mk_X6_40 (by decide) (isSt_i0 hp1) (isSt_s0 hp1) rfl (fun q9 e9 => c_X8_copyFrom hp1 isSt_55 e9) h hl.1 rfl rfl (Nat.le_of_ble_eq_true rfl) dX6_goBack_14 (fun v1 s2 H locs h I => ?_)
    refine lv_aload_n hx hb dX6_goBack_17 rfl (lv_at hl 0 rfl) ?_
    refine sg_getr X I fk_X6_26 (j := 61) (by decide) shC_52 rfl dX6_goBack_18 ?_
    refine lv_iconst (v := 0) hx hb dX6_goBack_21 (by decide) ?_
    refine lv_aload_n hx hb dX6_goBack_22 rfl (lv_at hl 0 rfl) ?_
    refine sg_getr X I fk_X6_17 (j := 54) (by decide) shC_52 rfl dX6_goBack_23 ?_
    refine lv_iconst (v := 0) hx hb dX6_goBack_26 (by decide) ?_
    refine lv_aload_n hx hb dX6_goBack_27 rfl (lv_at hl 0 rfl) ?_
    refine sg_getr X I fk_X6_17 (j := 54) (by decide) shC_52 rfl dX6_goBack_28 ?_
    refine sg_alen X I (v := 300) (by decide) shC_54 rfl dX6_goBack_31 ?_
    refine sg_copy X I hl.1 (by first | decide | omega) qw_1533 ⟨qw_622, qw_623, qw_624⟩ (by decide) (by decide) shC_61 shC_54 h (Nat.le_of_ble_eq_true rfl) dX6_goBack_32 (fun s3 H locs h I => ?_)
    refine lv_aload_n hx hb dX6_goBack_35 rfl (lv_at hl 0 rfl) ?_
    refine lv_iconst (v := 0) hx hb dX6_goBack_36 (by decide) ?_
    refine sg_puti X I fk_X6_29 wk_6_1 rfl rfl (by decide) shC_52 rfl h dX6_goBack_37 (fun s4 H locs h I => ?_)
    refine lv_iconst (v := 1) hx hb dX6_goBack_40 (by decide) ?_
    obtain rfl := Option.some.inj h
    exact hk _ _ _ _ _ I ⟨_, rfl, rfl⟩ dX6_goBack_41
  · have h := sg_ift h z
    refine lv_iconst (v := 0) hx hb dX6_goBack_7 (by decide) ?_
    obtain rfl := Option.some.inj h
    exact hk _ _ _ _ _ I ⟨_, rfl, rfl⟩ dX6_goBack_8
set_option maxHeartbeats 4000000 in
set_option maxRecDepth 100000 in
theorem c_X6_goBack {l : Launch} {P : sgP} {N : Nat} {p1 : Nat} {σ : sgS} (hp1 : isSt p1) {q : Int32 × sgS} (h : f_X6_goBack N p1 σ = some q) : sg_Mi P shC 332 l yX6_goBack cX6_goBack 2 (some .boolean) 3 [.ref (sgA P 52), .ref (sgA P p1)] σ q := by
  refine sg_mki (plainFor_of_name (by decide +kernel)) (Nat.le_of_ble_eq_true rfl) ?_
  intro p e R s m args below meth c Q A ls H locs X I hl hk
  exact b_X6_goBack X hp1 I hl h hk
def f_X7_keep (N : Nat) (p1 : Int32) (p2 : Int32) (p3 : Int32) (p4 : Int32) (σ : sgS) : Option (Int32 × sgS) :=
  if (σ.1 320 9) < 10 then
  (sg_st σ 321 10 (σ.1 320 9) p1 fun s1 =>
  sg_st s1 322 10 (s1.1 320 9) p2 fun s2 =>
  sg_st s2 323 10 (s2.1 320 9) p3 fun s3 =>
  sg_st s3 324 10 (s3.1 320 9) (vp_nar .boolean p4) fun s4 =>
  sg_pf s4 320 9 ((s4.1 320 9) + 1) fun s5 =>
  some (s5.1 320 9, s5))
else
  (some ((-1), σ))
set_option maxHeartbeats 4000000 in
set_option maxRecDepth 100000 in
theorem b_X7_keep {p : Program} {l : Launch} {e : Env} {R : Room} {s : State} {m : MethodId} {args : Array Value} {below : List Frame} {meth : Method} {c : Code} {Q : State → Prop} {P : sgP} {A : Nat → Prop} {N : Nat} {p1 : Int32} {p2 : Int32} {p3 : Int32} {p4 : Int32} {σ : sgS} (X : sg_C P A 1 p R s m args c cX7_keep 5 RX7) {H : Heap} {locs : List Loc} (I : sg_I P shC 332 A s.heap σ H locs) {ls : Array Slot} (hl : lv_has ls 5 [(0, .ref (sgA P 320)), (1, .int p1), (2, .int p2), (3, .int p3), (4, .int p4)]) {st : Int32 × sgS} (h : f_X7_keep N p1 p2 p3 p4 σ = some st) (hk : sg_Ri p l e R s m args below meth c Q P shC 332 A cX7_keep (some .int) st) : W p l e R s m args below meth c H locs 0 0 Q (F0 m 0 ls []) := by
  unfold f_X7_keep at h
  have hx := X.1.1
  have hb := X.1.2.1
  have hown := X.1.2.2.2.1
  have hts := X.1.2.2.2.2
  refine lv_aload_n hx hb dX7_keep_0 rfl (lv_at hl 0 rfl) ?_
  refine sg_geti X I fk_X7_46 (by decide) shC_320 rfl dX7_keep_1 ?_
  refine lv_bipush (v := 10) hx hb dX7_keep_4 (by decide) ?_
  refine lv_icmp_lt (tgt := 11) hx hb dX7_keep_6 (by decide) (fun z => ?_) (fun z => ?_)
  · have h := sg_ift h z
    refine lv_aload_n hx hb dX7_keep_11 rfl (lv_at hl 0 rfl) ?_
    refine sg_getr X I fk_X7_9 (j := 321) (by decide) shC_320 rfl dX7_keep_12 ?_
    refine lv_aload_n hx hb dX7_keep_15 rfl (lv_at hl 0 rfl) ?_
    refine sg_geti X I fk_X7_46 (by decide) shC_320 rfl dX7_keep_16 ?_
    refine lv_iload_n hx hb dX7_keep_19 rfl (lv_at hl 1 rfl) ?_
    refine sg_iast X I (by decide) shC_321 h dX7_keep_20 (fun s1 H locs h I => ?_)
    refine lv_aload_n hx hb dX7_keep_21 rfl (lv_at hl 0 rfl) ?_
    refine sg_getr X I fk_X7_15 (j := 322) (by decide) shC_320 rfl dX7_keep_22 ?_
    refine lv_aload_n hx hb dX7_keep_25 rfl (lv_at hl 0 rfl) ?_
    refine sg_geti X I fk_X7_46 (by decide) shC_320 rfl dX7_keep_26 ?_
    refine lv_iload_n hx hb dX7_keep_29 rfl (lv_at hl 2 rfl) ?_
    refine sg_iast X I (by decide) shC_322 h dX7_keep_30 (fun s2 H locs h I => ?_)
    refine lv_aload_n hx hb dX7_keep_31 rfl (lv_at hl 0 rfl) ?_
    refine sg_getr X I fk_X7_18 (j := 323) (by decide) shC_320 rfl dX7_keep_32 ?_
    refine lv_aload_n hx hb dX7_keep_35 rfl (lv_at hl 0 rfl) ?_
    refine sg_geti X I fk_X7_46 (by decide) shC_320 rfl dX7_keep_36 ?_
    refine lv_iload_n hx hb dX7_keep_39 rfl (lv_at hl 3 rfl) ?_
    refine sg_iast X I (by decide) shC_323 h dX7_keep_40 (fun s3 H locs h I => ?_)
    refine lv_aload_n hx hb dX7_keep_41 rfl (lv_at hl 0 rfl) ?_
    refine sg_getr X I fk_X7_21 (j := 324) (by decide) shC_320 rfl dX7_keep_42 ?_
    refine lv_aload_n hx hb dX7_keep_45 rfl (lv_at hl 0 rfl) ?_
    refine sg_geti X I fk_X7_46 (by decide) shC_320 rfl dX7_keep_46 ?_
    refine lv_iload hx hb dX7_keep_49 (lv_at hl 4 rfl) ?_
    refine sg_zast X I (by decide) shC_324 h dX7_keep_51 (fun s4 H locs h I => ?_)
    refine lv_aload_n hx hb dX7_keep_52 rfl (lv_at hl 0 rfl) ?_
    refine lv_dup hx hb dX7_keep_53 rfl ?_
    refine sg_geti X I fk_X7_46 (by decide) shC_320 rfl dX7_keep_54 ?_
    refine lv_iconst (v := 1) hx hb dX7_keep_57 (by decide) ?_
    refine lv_iadd hx hb dX7_keep_58 ?_
    refine sg_puti X I fk_X7_46 wk_7_9 rfl rfl (by decide) shC_320 rfl h dX7_keep_59 (fun s5 H locs h I => ?_)
    refine lv_aload_n hx hb dX7_keep_62 rfl (lv_at hl 0 rfl) ?_
    refine sg_geti X I fk_X7_46 (by decide) shC_320 rfl dX7_keep_63 ?_
    obtain rfl := Option.some.inj h
    exact hk _ _ _ _ _ I ⟨_, rfl, rfl⟩ dX7_keep_66
  · have h := sg_iff h z
    refine lv_iconst (v := -1) hx hb dX7_keep_9 (by decide) ?_
    obtain rfl := Option.some.inj h
    exact hk _ _ _ _ _ I ⟨_, rfl, rfl⟩ dX7_keep_10
set_option maxHeartbeats 4000000 in
set_option maxRecDepth 100000 in
theorem c_X7_keep {l : Launch} {P : sgP} {N : Nat} {p1 : Int32} {p2 : Int32} {p3 : Int32} {p4 : Int32} {σ : sgS} {q : Int32 × sgS} (h : f_X7_keep N p1 p2 p3 p4 σ = some q) : sg_Mi P shC 332 l yX7_keep cX7_keep 5 (some .int) 1 [.ref (sgA P 320), .int p1, .int p2, .int p3, .int p4] σ q := by
  refine sg_mki (plainFor_of_name (by decide +kernel)) (Nat.le_of_ble_eq_true rfl) ?_
  intro p e R s m args below meth c Q A ls H locs X I hl hk
  exact b_X7_keep X I hl h hk
def f_X8_begin_L2 (N : Nat) (o : Nat) (p1 : Nat) (x2 : Int32) (σ : sgS) : Option ((Int32 × sgS) ⊕ ((sgS × Int32) ⊕ (sgS))) :=
  if 4 ≤ x2 then
  (some (.inr (.inr σ)))
else
  (sg_ld σ (p1 + 6) 4 x2 fun v1 =>
  sg_st σ (o + 1) 4 x2 v1 fun s2 =>
  sg_cl (f_X8_takeWay N o x2 s2) fun v3 s4 =>
  some (.inr (.inl (s4, x2 + 1))))
set_option maxHeartbeats 4000000 in
set_option maxRecDepth 100000 in
theorem b_X8_begin_L2 {p : Program} {l : Launch} {e : Env} {R : Room} {s : State} {m : MethodId} {args : Array Value} {below : List Frame} {meth : Method} {c : Code} {Q : State → Prop} {P : sgP} {A : Nat → Prop} {N : Nat} {o : Nat} {p1 : Nat} {x2 : Int32} {σ : sgS} (X : sg_C P A 2 p R s m args c cX8_begin 3 RX8) (ho : isSt o) (hp1 : isCo p1) {H : Heap} {locs : List Loc} (I : sg_I P shC 332 A s.heap σ H locs) {ls : Array Slot} (hl : lv_has ls 3 [(0, .ref (sgA P o)), (1, .ref (sgA P p1)), (2, .int x2)]) {st : (Int32 × sgS) ⊕ ((sgS × Int32) ⊕ (sgS))} (h : f_X8_begin_L2 N o p1 x2 σ = some st) (hk : sg_k3 (sg_Rv p l e R s m args below meth c Q P shC 332 A cX8_begin) (fun x => sg_Wt p l e R s m args below meth c Q P shC 332 A 3 2 x.1 [(0, .ref (sgA P o)), (1, .ref (sgA P p1)), (2, .int x.2)]) (fun y => sg_Wt p l e R s m args below meth c Q P shC 332 A 3 30 y [(0, .ref (sgA P o)), (1, .ref (sgA P p1))]) st) : W p l e R s m args below meth c H locs 0 0 Q (F0 m 2 ls []) := by
  unfold f_X8_begin_L2 at h
  have hx := X.1.1
  have hb := X.1.2.1
  have hown := X.1.2.2.2.1
  have hts := X.1.2.2.2.2
  refine lv_iload_n hx hb dX8_begin_2 rfl (lv_at hl 2 rfl) ?_
  refine lv_iconst (v := 4) hx hb dX8_begin_3 (by decide) ?_
  refine lv_icmp_ge (tgt := 30) hx hb dX8_begin_4 (by decide) (fun z => ?_) (fun z => ?_)
  · have h := sg_ift h z
    obtain rfl := Option.some.inj h
    exact sg_go hk I (lv_sub hl [0, 1] rfl)
  · have h := sg_iff h z
    refine lv_aload_n hx hb dX8_begin_7 rfl (lv_at hl 0 rfl) ?_
    refine sg_getr X I fk_X8_9 (j := o + 1) (isSt_i0 ho) (isSt_s0 ho) rfl dX8_begin_8 ?_
    refine lv_iload_n hx hb dX8_begin_11 rfl (lv_at hl 2 rfl) ?_
    refine lv_aload_n hx hb dX8_begin_12 rfl (lv_at hl 1 rfl) ?_
    refine sg_getrN X I fn_X8_27 (j := p1 + 6) (isCo_i0 hp1) (isCo_s0 hp1) rfl dX8_begin_13 ?_
    refine lv_iload_n hx hb dX8_begin_16 rfl (lv_at hl 2 rfl) ?_
    refine sg_iald X I (isCo_i6 hp1) (isCo_s6 hp1) h dX8_begin_17 (fun v1 h => ?_)
    refine sg_iast X I (isSt_i1 ho) (isSt_s1 ho) h dX8_begin_18 (fun s2 H locs h I => ?_)
    refine lv_aload_n hx hb dX8_begin_19 rfl (lv_at hl 0 rfl) ?_
    refine lv_iload_n hx hb dX8_begin_20 rfl (lv_at hl 2 rfl) ?_
    refine sg_callVv (As := [.int x2]) X I mk_X8_32 (by decide) (isSt_i0 ho) (isSt_s0 ho) rfl (fun q9 e9 => c_X8_takeWay ho e9) h hl.1 rfl rfl (Nat.le_of_ble_eq_true rfl) dX8_begin_21 (fun v3 s4 H locs h I => ?_)
    refine lv_iinc (v := x2 + 1) (lv' := [(2, .int (x2 + 1)), (0, .ref (sgA P o)), (1, .ref (sgA P p1))]) hx hb dX8_begin_24 hl (k := 2) rfl rfl (by decide) rfl (fun ls hl => ?_)
    refine lv_goto (tgt := 2) hx hb dX8_begin_27 (by decide) ?_
    obtain rfl := Option.some.inj h
    exact sg_go hk I (lv_sub hl [1, 2, 0] rfl)
def f_X8_begin_L32 (N : Nat) (o : Nat) (p1 : Nat) (x2 : Int32) (σ : sgS) : Option ((Int32 × sgS) ⊕ ((sgS × Int32) ⊕ (sgS))) :=
  if 12 ≤ x2 then
  (some (.inr (.inr σ)))
else
  (sg_st σ (o + 4) 12 x2 0 fun s6 =>
  some (.inr (.inl (s6, x2 + 1))))
set_option maxHeartbeats 4000000 in
set_option maxRecDepth 100000 in
theorem b_X8_begin_L32 {p : Program} {l : Launch} {e : Env} {R : Room} {s : State} {m : MethodId} {args : Array Value} {below : List Frame} {meth : Method} {c : Code} {Q : State → Prop} {P : sgP} {A : Nat → Prop} {N : Nat} {o : Nat} {p1 : Nat} {x2 : Int32} {σ : sgS} (X : sg_C P A 2 p R s m args c cX8_begin 3 RX8) (ho : isSt o) (hp1 : isCo p1) {H : Heap} {locs : List Loc} (I : sg_I P shC 332 A s.heap σ H locs) {ls : Array Slot} (hl : lv_has ls 3 [(0, .ref (sgA P o)), (1, .ref (sgA P p1)), (2, .int x2)]) {st : (Int32 × sgS) ⊕ ((sgS × Int32) ⊕ (sgS))} (h : f_X8_begin_L32 N o p1 x2 σ = some st) (hk : sg_k3 (sg_Rv p l e R s m args below meth c Q P shC 332 A cX8_begin) (fun x => sg_Wt p l e R s m args below meth c Q P shC 332 A 3 32 x.1 [(0, .ref (sgA P o)), (1, .ref (sgA P p1)), (2, .int x.2)]) (fun y => sg_Wt p l e R s m args below meth c Q P shC 332 A 3 51 y [(0, .ref (sgA P o)), (1, .ref (sgA P p1))]) st) : W p l e R s m args below meth c H locs 0 0 Q (F0 m 32 ls []) := by
  unfold f_X8_begin_L32 at h
  have hx := X.1.1
  have hb := X.1.2.1
  have hown := X.1.2.2.2.1
  have hts := X.1.2.2.2.2
  refine lv_iload_n hx hb dX8_begin_32 rfl (lv_at hl 2 rfl) ?_
  refine lv_bipush (v := 12) hx hb dX8_begin_33 (by decide) ?_
  refine lv_icmp_ge (tgt := 51) hx hb dX8_begin_35 (by decide) (fun z => ?_) (fun z => ?_)
  · have h := sg_ift h z
    obtain rfl := Option.some.inj h
    exact sg_go hk I (lv_sub hl [0, 1] rfl)
  · have h := sg_iff h z
    refine lv_aload_n hx hb dX8_begin_38 rfl (lv_at hl 0 rfl) ?_
    refine sg_getr X I fk_X8_21 (j := o + 4) (isSt_i0 ho) (isSt_s0 ho) rfl dX8_begin_39 ?_
    refine lv_iload_n hx hb dX8_begin_42 rfl (lv_at hl 2 rfl) ?_
    refine lv_iconst (v := 0) hx hb dX8_begin_43 (by decide) ?_
    refine sg_iast X I (isSt_i4 ho) (isSt_s4 ho) h dX8_begin_44 (fun s6 H locs h I => ?_)
    refine lv_iinc (v := x2 + 1) (lv' := [(2, .int (x2 + 1)), (0, .ref (sgA P o)), (1, .ref (sgA P p1))]) hx hb dX8_begin_45 hl (k := 2) rfl rfl (by decide) rfl (fun ls hl => ?_)
    refine lv_goto (tgt := 32) hx hb dX8_begin_48 (by decide) ?_
    obtain rfl := Option.some.inj h
    exact sg_go hk I (lv_sub hl [1, 2, 0] rfl)
def f_X8_begin_L53 (N : Nat) (o : Nat) (p1 : Nat) (x2 : Int32) (σ : sgS) : Option ((Int32 × sgS) ⊕ ((sgS × Int32) ⊕ (sgS))) :=
  if 7 ≤ x2 then
  (some (.inr (.inr σ)))
else
  (sg_st σ (o + 5) 7 x2 0 fun s8 =>
  some (.inr (.inl (s8, x2 + 1))))
set_option maxHeartbeats 4000000 in
set_option maxRecDepth 100000 in
theorem b_X8_begin_L53 {p : Program} {l : Launch} {e : Env} {R : Room} {s : State} {m : MethodId} {args : Array Value} {below : List Frame} {meth : Method} {c : Code} {Q : State → Prop} {P : sgP} {A : Nat → Prop} {N : Nat} {o : Nat} {p1 : Nat} {x2 : Int32} {σ : sgS} (X : sg_C P A 2 p R s m args c cX8_begin 3 RX8) (ho : isSt o) (hp1 : isCo p1) {H : Heap} {locs : List Loc} (I : sg_I P shC 332 A s.heap σ H locs) {ls : Array Slot} (hl : lv_has ls 3 [(0, .ref (sgA P o)), (1, .ref (sgA P p1)), (2, .int x2)]) {st : (Int32 × sgS) ⊕ ((sgS × Int32) ⊕ (sgS))} (h : f_X8_begin_L53 N o p1 x2 σ = some st) (hk : sg_k3 (sg_Rv p l e R s m args below meth c Q P shC 332 A cX8_begin) (fun x => sg_Wt p l e R s m args below meth c Q P shC 332 A 3 53 x.1 [(0, .ref (sgA P o)), (1, .ref (sgA P p1)), (2, .int x.2)]) (fun y => sg_Wt p l e R s m args below meth c Q P shC 332 A 3 72 y [(0, .ref (sgA P o)), (1, .ref (sgA P p1))]) st) : W p l e R s m args below meth c H locs 0 0 Q (F0 m 53 ls []) := by
  unfold f_X8_begin_L53 at h
  have hx := X.1.1
  have hb := X.1.2.1
  have hown := X.1.2.2.2.1
  have hts := X.1.2.2.2.2
  refine lv_iload_n hx hb dX8_begin_53 rfl (lv_at hl 2 rfl) ?_
  refine lv_bipush (v := 7) hx hb dX8_begin_54 (by decide) ?_
  refine lv_icmp_ge (tgt := 72) hx hb dX8_begin_56 (by decide) (fun z => ?_) (fun z => ?_)
  · have h := sg_ift h z
    obtain rfl := Option.some.inj h
    exact sg_go hk I (lv_sub hl [0, 1] rfl)
  · have h := sg_iff h z
    refine lv_aload_n hx hb dX8_begin_59 rfl (lv_at hl 0 rfl) ?_
    refine sg_getr X I fk_X8_24 (j := o + 5) (isSt_i0 ho) (isSt_s0 ho) rfl dX8_begin_60 ?_
    refine lv_iload_n hx hb dX8_begin_63 rfl (lv_at hl 2 rfl) ?_
    refine lv_iconst (v := 0) hx hb dX8_begin_64 (by decide) ?_
    refine sg_iast X I (isSt_i5 ho) (isSt_s5 ho) h dX8_begin_65 (fun s8 H locs h I => ?_)
    refine lv_iinc (v := x2 + 1) (lv' := [(2, .int (x2 + 1)), (0, .ref (sgA P o)), (1, .ref (sgA P p1))]) hx hb dX8_begin_66 hl (k := 2) rfl rfl (by decide) rfl (fun ls hl => ?_)
    refine lv_goto (tgt := 53) hx hb dX8_begin_69 (by decide) ?_
    obtain rfl := Option.some.inj h
    exact sg_go hk I (lv_sub hl [1, 2, 0] rfl)
def f_X8_begin (N : Nat) (o : Nat) (p1 : Nat) (σ : sgS) : Option (Int32 × sgS) :=
  sg_lb (sg_lp (fun x => f_X8_begin_L2 N o p1 x.2 x.1) N ((σ, 0))) (fun r => some r) fun y5 =>
sg_lb (sg_lp (fun x => f_X8_begin_L32 N o p1 x.2 x.1) N ((y5, 0))) (fun r => some r) fun y7 =>
sg_lb (sg_lp (fun x => f_X8_begin_L53 N o p1 x.2 x.1) N ((y7, 0))) (fun r => some r) fun y9 =>
sg_pf y9 o 5 0 fun s10 =>
sg_pf s10 o 6 (s10.1 p1 2) fun s11 =>
sg_pf s11 o 7 0 fun s12 =>
some (0, s12)
set_option maxHeartbeats 4000000 in
set_option maxRecDepth 100000 in
theorem b_X8_begin {p : Program} {l : Launch} {e : Env} {R : Room} {s : State} {m : MethodId} {args : Array Value} {below : List Frame} {meth : Method} {c : Code} {Q : State → Prop} {P : sgP} {A : Nat → Prop} {N : Nat} {o : Nat} {p1 : Nat} {σ : sgS} (X : sg_C P A 2 p R s m args c cX8_begin 3 RX8) (ho : isSt o) (hp1 : isCo p1) {H : Heap} {locs : List Loc} (I : sg_I P shC 332 A s.heap σ H locs) {ls : Array Slot} (hl : lv_has ls 3 [(0, .ref (sgA P o)), (1, .ref (sgA P p1))]) {st : Int32 × sgS} (h : f_X8_begin N o p1 σ = some st) (hk : sg_Rv p l e R s m args below meth c Q P shC 332 A cX8_begin st) : W p l e R s m args below meth c H locs 0 0 Q (F0 m 0 ls []) := by
  unfold f_X8_begin at h
  have hx := X.1.1
  have hb := X.1.2.1
  have hown := X.1.2.2.2.1
  have hts := X.1.2.2.2.2
  refine lv_iconst (v := 0) hx hb dX8_begin_0 (by decide) ?_
  refine lv_istore_n (lv' := [(2, .int 0), (0, .ref (sgA P o)), (1, .ref (sgA P p1))]) hx hb dX8_begin_1 rfl hl (by decide) rfl (fun ls hl => ?_)
  obtain ⟨res, e9, k9⟩ := sg_lb_some h
  refine sg_go (sg_lp_W (a := (sg_Rv p l e R s m args below meth c Q P shC 332 A cX8_begin)) (w := (fun x => sg_Wt p l e R s m args below meth c Q P shC 332 A 3 2 x.1 [(0, .ref (sgA P o)), (1, .ref (sgA P p1)), (2, .int x.2)])) (c := (fun y => sg_Wt p l e R s m args below meth c Q P shC 332 A 3 30 y [(0, .ref (sgA P o)), (1, .ref (sgA P p1))])) (fun x st hb9 hk9 => ?_) N ((σ, 0)) res e9 (sg_k2_mono k9 (fun r h => ?_) (fun y5 h => ?_))) I (lv_sub hl [1, 2, 0] rfl)
  · intro H locs ls I hl
    exact b_X8_begin_L2 X ho hp1 I hl hb9 hk9
  · obtain rfl := Option.some.inj h
    exact hk
  · intro H locs ls I hl
    refine lv_iconst (v := 0) hx hb dX8_begin_30 (by decide) ?_
    refine lv_istore_n (lv' := [(2, .int 0), (0, .ref (sgA P o)), (1, .ref (sgA P p1))]) hx hb dX8_begin_31 rfl hl (by decide) rfl (fun ls hl => ?_)
    obtain ⟨res, e9, k9⟩ := sg_lb_some h
    refine sg_go (sg_lp_W (a := (sg_Rv p l e R s m args below meth c Q P shC 332 A cX8_begin)) (w := (fun x => sg_Wt p l e R s m args below meth c Q P shC 332 A 3 32 x.1 [(0, .ref (sgA P o)), (1, .ref (sgA P p1)), (2, .int x.2)])) (c := (fun y => sg_Wt p l e R s m args below meth c Q P shC 332 A 3 51 y [(0, .ref (sgA P o)), (1, .ref (sgA P p1))])) (fun x st hb9 hk9 => ?_) N ((y5, 0)) res e9 (sg_k2_mono k9 (fun r h => ?_) (fun y7 h => ?_))) I (lv_sub hl [1, 2, 0] rfl)
    · intro H locs ls I hl
      exact b_X8_begin_L32 X ho hp1 I hl hb9 hk9
    · obtain rfl := Option.some.inj h
      exact hk
    · intro H locs ls I hl
      refine lv_iconst (v := 0) hx hb dX8_begin_51 (by decide) ?_
      refine lv_istore_n (lv' := [(2, .int 0), (0, .ref (sgA P o)), (1, .ref (sgA P p1))]) hx hb dX8_begin_52 rfl hl (by decide) rfl (fun ls hl => ?_)
      obtain ⟨res, e9, k9⟩ := sg_lb_some h
      refine sg_go (sg_lp_W (a := (sg_Rv p l e R s m args below meth c Q P shC 332 A cX8_begin)) (w := (fun x => sg_Wt p l e R s m args below meth c Q P shC 332 A 3 53 x.1 [(0, .ref (sgA P o)), (1, .ref (sgA P p1)), (2, .int x.2)])) (c := (fun y => sg_Wt p l e R s m args below meth c Q P shC 332 A 3 72 y [(0, .ref (sgA P o)), (1, .ref (sgA P p1))])) (fun x st hb9 hk9 => ?_) N ((y7, 0)) res e9 (sg_k2_mono k9 (fun r h => ?_) (fun y9 h => ?_))) I (lv_sub hl [1, 2, 0] rfl)
      · intro H locs ls I hl
        exact b_X8_begin_L53 X ho hp1 I hl hb9 hk9
      · obtain rfl := Option.some.inj h
        exact hk
      · intro H locs ls I hl
        refine lv_aload_n hx hb dX8_begin_72 rfl (lv_at hl 0 rfl) ?_
        refine lv_iconst (v := 0) hx hb dX8_begin_73 (by decide) ?_
        refine sg_puti X I fk_X8_36 wk_8_5 rfl rfl (isSt_i0 ho) (isSt_s0 ho) rfl h dX8_begin_74 (fun s10 H locs h I => ?_)
        refine lv_aload_n hx hb dX8_begin_77 rfl (lv_at hl 0 rfl) ?_
        refine lv_aload_n hx hb dX8_begin_78 rfl (lv_at hl 1 rfl) ?_
        refine sg_getiN X I fn_X8_40 (isCo_i0 hp1) (isCo_s0 hp1) rfl dX8_begin_79 ?_
        refine sg_puti X I fk_X8_43 wk_8_6 rfl rfl (isSt_i0 ho) (isSt_s0 ho) rfl h dX8_begin_82 (fun s11 H locs h I => ?_)
        refine lv_aload_n hx hb dX8_begin_85 rfl (lv_at hl 0 rfl) ?_
        refine lv_iconst (v := 0) hx hb dX8_begin_86 (by decide) ?_
        refine sg_puti X I fk_X8_44 wk_8_7 rfl rfl (isSt_i0 ho) (isSt_s0 ho) rfl h dX8_begin_87 (fun s12 H locs h I => ?_)
        obtain rfl := Option.some.inj h
        exact hk _ _ _ _ I dX8_begin_90
set_option maxHeartbeats 4000000 in
set_option maxRecDepth 100000 in
theorem c_X8_begin {l : Launch} {P : sgP} {N : Nat} {o : Nat} {p1 : Nat} {σ : sgS} (ho : isSt o) (hp1 : isCo p1) {q : Int32 × sgS} (h : f_X8_begin N o p1 σ = some q) : sg_Mv P shC 332 l yX8_begin cX8_begin 3 none 2 [.ref (sgA P o), .ref (sgA P p1)] σ q := by
  refine sg_mkv (plainFor_of_name (by decide +kernel)) (Nat.le_of_ble_eq_true rfl) ?_
  intro p e R s m args below meth c Q A ls H locs X I hl hk
  exact b_X8_begin X ho hp1 I hl h hk
def f_X8_putTo (N : Nat) (o : Nat) (p1 : Int32) (p2 : Int32) (σ : sgS) : Option (Int32 × sgS) :=
  sg_st σ (o + 2) 4 p1 p2 fun s1 =>
sg_st s1 (o + 3) 4 p1 1 fun s2 =>
some (0, s2)
set_option maxHeartbeats 4000000 in
set_option maxRecDepth 100000 in
theorem b_X8_putTo {p : Program} {l : Launch} {e : Env} {R : Room} {s : State} {m : MethodId} {args : Array Value} {below : List Frame} {meth : Method} {c : Code} {Q : State → Prop} {P : sgP} {A : Nat → Prop} {N : Nat} {o : Nat} {p1 : Int32} {p2 : Int32} {σ : sgS} (X : sg_C P A 1 p R s m args c cX8_putTo 3 RX8) (ho : isSt o) {H : Heap} {locs : List Loc} (I : sg_I P shC 332 A s.heap σ H locs) {ls : Array Slot} (hl : lv_has ls 3 [(0, .ref (sgA P o)), (1, .int p1), (2, .int p2)]) {st : Int32 × sgS} (h : f_X8_putTo N o p1 p2 σ = some st) (hk : sg_Rv p l e R s m args below meth c Q P shC 332 A cX8_putTo st) : W p l e R s m args below meth c H locs 0 0 Q (F0 m 0 ls []) := by
  unfold f_X8_putTo at h
  have hx := X.1.1
  have hb := X.1.2.1
  have hown := X.1.2.2.2.1
  have hts := X.1.2.2.2.2
  refine lv_aload_n hx hb dX8_putTo_0 rfl (lv_at hl 0 rfl) ?_
  refine sg_getr X I fk_X8_15 (j := o + 2) (isSt_i0 ho) (isSt_s0 ho) rfl dX8_putTo_1 ?_
  refine lv_iload_n hx hb dX8_putTo_4 rfl (lv_at hl 1 rfl) ?_
  refine lv_iload_n hx hb dX8_putTo_5 rfl (lv_at hl 2 rfl) ?_
  refine sg_iast X I (isSt_i2 ho) (isSt_s2 ho) h dX8_putTo_6 (fun s1 H locs h I => ?_)
  refine lv_aload_n hx hb dX8_putTo_7 rfl (lv_at hl 0 rfl) ?_
  refine sg_getr X I fk_X8_18 (j := o + 3) (isSt_i0 ho) (isSt_s0 ho) rfl dX8_putTo_8 ?_
  refine lv_iload_n hx hb dX8_putTo_11 rfl (lv_at hl 1 rfl) ?_
  refine lv_iconst (v := 1) hx hb dX8_putTo_12 (by decide) ?_
  refine sg_iast X I (isSt_i3 ho) (isSt_s3 ho) h dX8_putTo_13 (fun s2 H locs h I => ?_)
  obtain rfl := Option.some.inj h
  exact hk _ _ _ _ I dX8_putTo_14
set_option maxHeartbeats 4000000 in
set_option maxRecDepth 100000 in
theorem c_X8_putTo {l : Launch} {P : sgP} {N : Nat} {o : Nat} {p1 : Int32} {p2 : Int32} {σ : sgS} (ho : isSt o) {q : Int32 × sgS} (h : f_X8_putTo N o p1 p2 σ = some q) : sg_Mv P shC 332 l yX8_putTo cX8_putTo 3 none 1 [.ref (sgA P o), .int p1, .int p2] σ q := by
  refine sg_mkv (plainFor_of_name (by decide +kernel)) (Nat.le_of_ble_eq_true rfl) ?_
  intro p e R s m args below meth c Q A ls H locs X I hl hk
  exact b_X8_putTo X ho I hl h hk
def f_X7_follow_L22 (N : Nat) (p1 : Int32) (p2 : Int32) (x3 : Int32) (σ : sgS) : Option ((Int32 × sgS) ⊕ ((sgS × Int32) ⊕ (sgS))) :=
  if 9 < x3 then
  (some (.inr (.inr σ)))
else
  (sg_cl (f_X1_pass N 43 σ) fun v5 s6 =>
  sg_rf 4 p2 fun j8 =>
  sg_ld s6 (43 + 1) 4 p1 fun v9 =>
  sg_st s6 (326 + j8) 10 x3 v9 fun s10 =>
  some (.inr (.inl (s10, x3 + 1))))
set_option maxHeartbeats 4000000 in
set_option maxRecDepth 100000 in
theorem b_X7_follow_L22 {p : Program} {l : Launch} {e : Env} {R : Room} {s : State} {m : MethodId} {args : Array Value} {below : List Frame} {meth : Method} {c : Code} {Q : State → Prop} {P : sgP} {A : Nat → Prop} {N : Nat} {p1 : Int32} {p2 : Int32} {x3 : Int32} {σ : sgS} (X : sg_C P A 6 p R s m args c cX7_follow 4 RX7) {H : Heap} {locs : List Loc} (I : sg_I P shC 332 A s.heap σ H locs) {ls : Array Slot} (hl : lv_has ls 4 [(0, .ref (sgA P 320)), (1, .int p1), (2, .int p2), (3, .int x3)]) {st : (Int32 × sgS) ⊕ ((sgS × Int32) ⊕ (sgS))} (h : f_X7_follow_L22 N p1 p2 x3 σ = some st) (hk : sg_k3 (sg_Rv p l e R s m args below meth c Q P shC 332 A cX7_follow) (fun x => sg_Wt p l e R s m args below meth c Q P shC 332 A 4 22 x.1 [(0, .ref (sgA P 320)), (1, .int p1), (2, .int p2), (3, .int x.2)]) (fun y => sg_Wt p l e R s m args below meth c Q P shC 332 A 4 63 y []) st) : W p l e R s m args below meth c H locs 0 0 Q (F0 m 22 ls []) := by
  unfold f_X7_follow_L22 at h
  have hx := X.1.1
  have hb := X.1.2.1
  have hown := X.1.2.2.2.1
  have hts := X.1.2.2.2.2
  refine lv_iload_n hx hb dX7_follow_22 rfl (lv_at hl 3 rfl) ?_
  refine lv_bipush (v := 9) hx hb dX7_follow_23 (by decide) ?_
  refine lv_icmp_gt (tgt := 63) hx hb dX7_follow_25 (by decide) (fun z => ?_) (fun z => ?_)
  · have h := sg_ift h z
    obtain rfl := Option.some.inj h
    exact sg_go hk I (lv_sub hl [] rfl)
  · have h := sg_iff h z
    refine lv_aload_n hx hb dX7_follow_28 rfl (lv_at hl 0 rfl) ?_
    refine sg_getr X I fk_X7_38 (j := 49) (by decide) shC_320 rfl dX7_follow_29 ?_
    refine lv_aload_n hx hb dX7_follow_32 rfl (lv_at hl 0 rfl) ?_
    refine sg_getr X I fk_X7_42 (j := 43) (by decide) shC_320 rfl dX7_follow_33 ?_
    refine sg_callV (As := [.ref (sgA P 43)]) X I mk_X7_79 (by decide) (by decide) shC_49 rfl (fun q9 e9 => c_X1_pass isSt_43 e9) h hl.1 rfl rfl (Nat.le_of_ble_eq_true rfl) dX7_follow_36 (fun v5 s6 H locs h I => ?_)
    refine lv_pop hx hb dX7_follow_39 rfl ?_
    refine lv_aload_n hx hb dX7_follow_40 rfl (lv_at hl 0 rfl) ?_
    refine sg_getr X I fk_X7_27 (j := 325) (by decide) shC_320 rfl dX7_follow_41 ?_
    refine lv_iload_n hx hb dX7_follow_44 rfl (lv_at hl 2 rfl) ?_
    refine sg_aalda X I (by decide) shC_325 (r := fun k => 326 + k) (fun _ _ => rfl) h dX7_follow_45 (fun j8 hj8 h => ?_)
    refine lv_iload_n hx hb dX7_follow_46 rfl (lv_at hl 3 rfl) ?_
    refine lv_aload_n hx hb dX7_follow_47 rfl (lv_at hl 0 rfl) ?_
    refine sg_getr X I fk_X7_42 (j := 43) (by decide) shC_320 rfl dX7_follow_48 ?_
    refine sg_getrN X I fn_X7_85 (j := 43 + 1) (isSt_i0 isSt_43) (isSt_s0 isSt_43) rfl dX7_follow_51 ?_
    refine lv_iload_n hx hb dX7_follow_54 rfl (lv_at hl 1 rfl) ?_
    refine sg_iald X I (isSt_i1 isSt_43) (isSt_s1 isSt_43) h dX7_follow_55 (fun v9 h => ?_)
    refine sg_iast X I (shC_325i hj8) (shC_325s hj8) h dX7_follow_56 (fun s10 H locs h I => ?_)
    refine lv_iinc (v := x3 + 1) (lv' := [(3, .int (x3 + 1)), (0, .ref (sgA P 320)), (1, .int p1), (2, .int p2)]) hx hb dX7_follow_57 hl (k := 3) rfl rfl (by decide) rfl (fun ls hl => ?_)
    refine lv_goto (tgt := 22) hx hb dX7_follow_60 (by decide) ?_
    obtain rfl := Option.some.inj h
    exact sg_go hk I (lv_sub hl [1, 2, 3, 0] rfl)
def f_X7_follow (N : Nat) (p1 : Int32) (p2 : Int32) (σ : sgS) : Option (Int32 × sgS) :=
  sg_cl (f_X8_begin N 43 3 σ) fun v1 s2 =>
sg_cl (f_X8_putTo N 43 p1 p2 s2) fun v3 s4 =>
sg_lb (sg_lp (fun x => f_X7_follow_L22 N p1 p2 x.2 x.1) N ((s4, 1))) (fun r => some r) fun y11 =>
some (0, y11)
set_option maxHeartbeats 4000000 in
set_option maxRecDepth 100000 in
theorem b_X7_follow {p : Program} {l : Launch} {e : Env} {R : Room} {s : State} {m : MethodId} {args : Array Value} {below : List Frame} {meth : Method} {c : Code} {Q : State → Prop} {P : sgP} {A : Nat → Prop} {N : Nat} {p1 : Int32} {p2 : Int32} {σ : sgS} (X : sg_C P A 6 p R s m args c cX7_follow 4 RX7) {H : Heap} {locs : List Loc} (I : sg_I P shC 332 A s.heap σ H locs) {ls : Array Slot} (hl : lv_has ls 4 [(0, .ref (sgA P 320)), (1, .int p1), (2, .int p2)]) {st : Int32 × sgS} (h : f_X7_follow N p1 p2 σ = some st) (hk : sg_Rv p l e R s m args below meth c Q P shC 332 A cX7_follow st) : W p l e R s m args below meth c H locs 0 0 Q (F0 m 0 ls []) := by
  unfold f_X7_follow at h
  have hx := X.1.1
  have hb := X.1.2.1
  have hown := X.1.2.2.2.1
  have hts := X.1.2.2.2.2
  refine lv_aload_n hx hb dX7_follow_0 rfl (lv_at hl 0 rfl) ?_
  refine sg_getr X I fk_X7_42 (j := 43) (by decide) shC_320 rfl dX7_follow_1 ?_
  refine lv_aload_n hx hb dX7_follow_4 rfl (lv_at hl 0 rfl) ?_
  refine sg_getr X I fk_X7_30 (j := 3) (by decide) shC_320 rfl dX7_follow_5 ?_
  refine sg_callVv (As := [.ref (sgA P 3)]) X I mk_X7_70 (by decide) (isSt_i0 isSt_43) (isSt_s0 isSt_43) rfl (fun q9 e9 => c_X8_begin isSt_43 isCo_3 e9) h hl.1 rfl rfl (Nat.le_of_ble_eq_true rfl) dX7_follow_8 (fun v1 s2 H locs h I => ?_)
  refine lv_aload_n hx hb dX7_follow_11 rfl (lv_at hl 0 rfl) ?_
  refine sg_getr X I fk_X7_42 (j := 43) (by decide) shC_320 rfl dX7_follow_12 ?_
  refine lv_iload_n hx hb dX7_follow_15 rfl (lv_at hl 1 rfl) ?_
  refine lv_iload_n hx hb dX7_follow_16 rfl (lv_at hl 2 rfl) ?_
  refine sg_callVv (As := [.int p1, .int p2]) X I mk_X7_76 (by decide) (isSt_i0 isSt_43) (isSt_s0 isSt_43) rfl (fun q9 e9 => c_X8_putTo isSt_43 e9) h hl.1 rfl rfl (Nat.le_of_ble_eq_true rfl) dX7_follow_17 (fun v3 s4 H locs h I => ?_)
  refine lv_iconst (v := 1) hx hb dX7_follow_20 (by decide) ?_
  refine lv_istore_n (lv' := [(3, .int 1), (0, .ref (sgA P 320)), (1, .int p1), (2, .int p2)]) hx hb dX7_follow_21 rfl hl (by decide) rfl (fun ls hl => ?_)
  obtain ⟨res, e9, k9⟩ := sg_lb_some h
  refine sg_go (sg_lp_W (a := (sg_Rv p l e R s m args below meth c Q P shC 332 A cX7_follow)) (w := (fun x => sg_Wt p l e R s m args below meth c Q P shC 332 A 4 22 x.1 [(0, .ref (sgA P 320)), (1, .int p1), (2, .int p2), (3, .int x.2)])) (c := (fun y => sg_Wt p l e R s m args below meth c Q P shC 332 A 4 63 y [])) (fun x st hb9 hk9 => ?_) N ((s4, 1)) res e9 (sg_k2_mono k9 (fun r h => ?_) (fun y11 h => ?_))) I (lv_sub hl [1, 2, 3, 0] rfl)
  · intro H locs ls I hl
    exact b_X7_follow_L22 X I hl hb9 hk9
  · obtain rfl := Option.some.inj h
    exact hk
  · intro H locs ls I hl
    obtain rfl := Option.some.inj h
    exact hk _ _ _ _ I dX7_follow_63
set_option maxHeartbeats 4000000 in
set_option maxRecDepth 100000 in
theorem c_X7_follow {l : Launch} {P : sgP} {N : Nat} {p1 : Int32} {p2 : Int32} {σ : sgS} {q : Int32 × sgS} (h : f_X7_follow N p1 p2 σ = some q) : sg_Mv P shC 332 l yX7_follow cX7_follow 4 none 6 [.ref (sgA P 320), .int p1, .int p2] σ q := by
  refine sg_mkv (plainFor_of_name (by decide +kernel)) (Nat.le_of_ble_eq_true rfl) ?_
  intro p e R s m args below meth c Q A ls H locs X I hl hk
  exact b_X7_follow X I hl h hk
def f_X7_agrees_L2_B47 (N : Nat) (p1 : Int32) (p2 : Int32) (u3 : Int32) (k0 : Int32) (σ : sgS) : Option ((Int32) ⊕ ((Int32) ⊕ (Unit))) :=
  sg_ld σ 324 10 u3 fun v7 =>
if k0 = v7 then
  (some (.inr (.inl (u3 + 1))))
else
  (some (.inl (vp_nar .boolean 0)))
set_option maxHeartbeats 4000000 in
set_option maxRecDepth 100000 in
theorem b_X7_agrees_L2_B47 {p : Program} {l : Launch} {e : Env} {R : Room} {s : State} {m : MethodId} {args : Array Value} {below : List Frame} {meth : Method} {c : Code} {Q : State → Prop} {P : sgP} {A : Nat → Prop} {N : Nat} {p1 : Int32} {p2 : Int32} {u3 : Int32} {k0 : Int32} {σ : sgS} (X : sg_C P A 1 p R s m args c cX7_agrees 4 RX7) {H : Heap} {locs : List Loc} (I : sg_I P shC 332 A s.heap σ H locs) {ls : Array Slot} (hl : lv_has ls 4 [(0, .ref (sgA P 320)), (1, .int p1), (2, .int p2), (3, .int u3)]) {st : (Int32) ⊕ ((Int32) ⊕ (Unit))} (h : f_X7_agrees_L2_B47 N p1 p2 u3 k0 σ = some st) (hk : sg_k3 (fun r => sg_Ri p l e R s m args below meth c Q P shC 332 A cX7_agrees (some .boolean) (r, σ)) (fun x => sg_Wt p l e R s m args below meth c Q P shC 332 A 4 2 σ [(0, .ref (sgA P 320)), (1, .int p1), (2, .int p2), (3, .int x)]) (fun y => sg_Wt p l e R s m args below meth c Q P shC 332 A 4 64 σ []) st) : W p l e R s m args below meth c H locs 0 0 Q (F0 m 47 ls [.int k0]) := by
  unfold f_X7_agrees_L2_B47 at h
  have hx := X.1.1
  have hb := X.1.2.1
  have hown := X.1.2.2.2.1
  have hts := X.1.2.2.2.2
  refine lv_aload_n hx hb dX7_agrees_47 rfl (lv_at hl 0 rfl) ?_
  refine sg_getr X I fk_X7_21 (j := 324) (by decide) shC_320 rfl dX7_agrees_48 ?_
  refine lv_iload_n hx hb dX7_agrees_51 rfl (lv_at hl 3 rfl) ?_
  refine sg_zald X I (by decide) shC_324 h dX7_agrees_52 (fun v7 h => ?_)
  refine lv_icmp_eq (tgt := 58) hx hb dX7_agrees_53 (by decide) (fun z => ?_) (fun z => ?_)
  · have h := sg_ift h z
    refine lv_iinc (v := u3 + 1) (lv' := [(3, .int (u3 + 1)), (0, .ref (sgA P 320)), (1, .int p1), (2, .int p2)]) hx hb dX7_agrees_58 hl (k := 3) rfl rfl (by decide) rfl (fun ls hl => ?_)
    refine lv_goto (tgt := 2) hx hb dX7_agrees_61 (by decide) ?_
    obtain rfl := Option.some.inj h
    exact sg_go hk I (lv_sub hl [1, 2, 3, 0] rfl)
  · have h := sg_iff h z
    refine lv_iconst (v := 0) hx hb dX7_agrees_56 (by decide) ?_
    obtain rfl := Option.some.inj h
    exact hk _ _ _ _ _ I ⟨_, rfl, rfl⟩ dX7_agrees_57
def f_X7_agrees_L2 (N : Nat) (p1 : Int32) (p2 : Int32) (x3 : Int32) (σ : sgS) : Option ((Int32) ⊕ ((Int32) ⊕ (Unit))) :=
  if (σ.1 320 9) ≤ x3 then
  (some (.inr (.inr ())))
else
  (sg_ld σ 321 10 x3 fun v1 =>
  if v1 = p1 then
    (sg_rf 4 p2 fun j3 =>
    sg_ld σ 323 10 x3 fun v4 =>
    sg_ld σ (326 + j3) 10 v4 fun v5 =>
    sg_ld σ 322 10 x3 fun v6 =>
    if v5 = v6 then
      (f_X7_agrees_L2_B47 N p1 p2 x3 1 σ)
    else
      (f_X7_agrees_L2_B47 N p1 p2 x3 0 σ))
  else
    (some (.inr (.inl (x3 + 1)))))
set_option maxHeartbeats 4000000 in
set_option maxRecDepth 100000 in
theorem b_X7_agrees_L2 {p : Program} {l : Launch} {e : Env} {R : Room} {s : State} {m : MethodId} {args : Array Value} {below : List Frame} {meth : Method} {c : Code} {Q : State → Prop} {P : sgP} {A : Nat → Prop} {N : Nat} {p1 : Int32} {p2 : Int32} {x3 : Int32} {σ : sgS} (X : sg_C P A 1 p R s m args c cX7_agrees 4 RX7) {H : Heap} {locs : List Loc} (I : sg_I P shC 332 A s.heap σ H locs) {ls : Array Slot} (hl : lv_has ls 4 [(0, .ref (sgA P 320)), (1, .int p1), (2, .int p2), (3, .int x3)]) {st : (Int32) ⊕ ((Int32) ⊕ (Unit))} (h : f_X7_agrees_L2 N p1 p2 x3 σ = some st) (hk : sg_k3 (fun r => sg_Ri p l e R s m args below meth c Q P shC 332 A cX7_agrees (some .boolean) (r, σ)) (fun x => sg_Wt p l e R s m args below meth c Q P shC 332 A 4 2 σ [(0, .ref (sgA P 320)), (1, .int p1), (2, .int p2), (3, .int x)]) (fun y => sg_Wt p l e R s m args below meth c Q P shC 332 A 4 64 σ []) st) : W p l e R s m args below meth c H locs 0 0 Q (F0 m 2 ls []) := by
  unfold f_X7_agrees_L2 at h
  have hx := X.1.1
  have hb := X.1.2.1
  have hown := X.1.2.2.2.1
  have hts := X.1.2.2.2.2
  refine lv_iload_n hx hb dX7_agrees_2 rfl (lv_at hl 3 rfl) ?_
  refine lv_aload_n hx hb dX7_agrees_3 rfl (lv_at hl 0 rfl) ?_
  refine sg_geti X I fk_X7_46 (by decide) shC_320 rfl dX7_agrees_4 ?_
  refine lv_icmp_ge (tgt := 64) hx hb dX7_agrees_7 (by decide) (fun z => ?_) (fun z => ?_)
  · have h := sg_ift h z
    obtain rfl := Option.some.inj h
    exact sg_go hk I (lv_sub hl [] rfl)
  · have h := sg_iff h z
    refine lv_aload_n hx hb dX7_agrees_10 rfl (lv_at hl 0 rfl) ?_
    refine sg_getr X I fk_X7_9 (j := 321) (by decide) shC_320 rfl dX7_agrees_11 ?_
    refine lv_iload_n hx hb dX7_agrees_14 rfl (lv_at hl 3 rfl) ?_
    refine sg_iald X I (by decide) shC_321 h dX7_agrees_15 (fun v1 h => ?_)
    refine lv_iload_n hx hb dX7_agrees_16 rfl (lv_at hl 1 rfl) ?_
    refine lv_icmp_ne (tgt := 58) hx hb dX7_agrees_17 (by decide) (fun z => ?_) (fun z => ?_)
    · have h := sg_iff h z
      refine lv_iinc (v := x3 + 1) (lv' := [(3, .int (x3 + 1)), (0, .ref (sgA P 320)), (1, .int p1), (2, .int p2)]) hx hb dX7_agrees_58 hl (k := 3) rfl rfl (by decide) rfl (fun ls hl => ?_)
      refine lv_goto (tgt := 2) hx hb dX7_agrees_61 (by decide) ?_
      obtain rfl := Option.some.inj h
      exact sg_go hk I (lv_sub hl [1, 2, 3, 0] rfl)
    · have h := sg_ift h z
      refine lv_aload_n hx hb dX7_agrees_20 rfl (lv_at hl 0 rfl) ?_
      refine sg_getr X I fk_X7_27 (j := 325) (by decide) shC_320 rfl dX7_agrees_21 ?_
      refine lv_iload_n hx hb dX7_agrees_24 rfl (lv_at hl 2 rfl) ?_
      refine sg_aalda X I (by decide) shC_325 (r := fun k => 326 + k) (fun _ _ => rfl) h dX7_agrees_25 (fun j3 hj3 h => ?_)
      refine lv_aload_n hx hb dX7_agrees_26 rfl (lv_at hl 0 rfl) ?_
      refine sg_getr X I fk_X7_18 (j := 323) (by decide) shC_320 rfl dX7_agrees_27 ?_
      refine lv_iload_n hx hb dX7_agrees_30 rfl (lv_at hl 3 rfl) ?_
      refine sg_iald X I (by decide) shC_323 h dX7_agrees_31 (fun v4 h => ?_)
      refine sg_iald X I (shC_325i hj3) (shC_325s hj3) h dX7_agrees_32 (fun v5 h => ?_)
      refine lv_aload_n hx hb dX7_agrees_33 rfl (lv_at hl 0 rfl) ?_
      refine sg_getr X I fk_X7_15 (j := 322) (by decide) shC_320 rfl dX7_agrees_34 ?_
      refine lv_iload_n hx hb dX7_agrees_37 rfl (lv_at hl 3 rfl) ?_
      refine sg_iald X I (by decide) shC_322 h dX7_agrees_38 (fun v6 h => ?_)
      refine lv_icmp_ne (tgt := 46) hx hb dX7_agrees_39 (by decide) (fun z => ?_) (fun z => ?_)
      · have h := sg_iff h z
        refine lv_iconst (v := 0) hx hb dX7_agrees_46 (by decide) ?_
        exact b_X7_agrees_L2_B47 X I (lv_sub hl [0, 1, 2, 3] rfl) h hk
      · have h := sg_ift h z
        refine lv_iconst (v := 1) hx hb dX7_agrees_42 (by decide) ?_
        refine lv_goto (tgt := 47) hx hb dX7_agrees_43 (by decide) ?_
        exact b_X7_agrees_L2_B47 X I (lv_sub hl [0, 1, 2, 3] rfl) h hk
def f_X7_agrees (N : Nat) (p1 : Int32) (p2 : Int32) (σ : sgS) : Option (Int32) :=
  sg_lb (sg_lp (fun x => f_X7_agrees_L2 N p1 p2 x σ) N 0) (fun r => some r) fun y8 =>
some (vp_nar .boolean 1)
set_option maxHeartbeats 4000000 in
set_option maxRecDepth 100000 in
theorem b_X7_agrees {p : Program} {l : Launch} {e : Env} {R : Room} {s : State} {m : MethodId} {args : Array Value} {below : List Frame} {meth : Method} {c : Code} {Q : State → Prop} {P : sgP} {A : Nat → Prop} {N : Nat} {p1 : Int32} {p2 : Int32} {σ : sgS} (X : sg_C P A 1 p R s m args c cX7_agrees 4 RX7) {H : Heap} {locs : List Loc} (I : sg_I P shC 332 A s.heap σ H locs) {ls : Array Slot} (hl : lv_has ls 4 [(0, .ref (sgA P 320)), (1, .int p1), (2, .int p2)]) {st : Int32} (h : f_X7_agrees N p1 p2 σ = some st) (hk : sg_Ri p l e R s m args below meth c Q P shC 332 A cX7_agrees (some .boolean) (st, σ)) : W p l e R s m args below meth c H locs 0 0 Q (F0 m 0 ls []) := by
  unfold f_X7_agrees at h
  have hx := X.1.1
  have hb := X.1.2.1
  have hown := X.1.2.2.2.1
  have hts := X.1.2.2.2.2
  refine lv_iconst (v := 0) hx hb dX7_agrees_0 (by decide) ?_
  refine lv_istore_n (lv' := [(3, .int 0), (0, .ref (sgA P 320)), (1, .int p1), (2, .int p2)]) hx hb dX7_agrees_1 rfl hl (by decide) rfl (fun ls hl => ?_)
  obtain ⟨res, e9, k9⟩ := sg_lb_some h
  refine sg_go (sg_lp_W (a := (fun r => sg_Ri p l e R s m args below meth c Q P shC 332 A cX7_agrees (some .boolean) (r, σ))) (w := (fun x => sg_Wt p l e R s m args below meth c Q P shC 332 A 4 2 σ [(0, .ref (sgA P 320)), (1, .int p1), (2, .int p2), (3, .int x)])) (c := (fun y => sg_Wt p l e R s m args below meth c Q P shC 332 A 4 64 σ [])) (fun x st hb9 hk9 => ?_) N 0 res e9 (sg_k2_mono k9 (fun r h => ?_) (fun y8 h => ?_))) I (lv_sub hl [1, 2, 3, 0] rfl)
  · intro H locs ls I hl
    exact b_X7_agrees_L2 X I hl hb9 hk9
  · obtain rfl := Option.some.inj h
    exact hk
  · intro H locs ls I hl
    refine lv_iconst (v := 1) hx hb dX7_agrees_64 (by decide) ?_
    obtain rfl := Option.some.inj h
    exact hk _ _ _ _ _ I ⟨_, rfl, rfl⟩ dX7_agrees_65
set_option maxHeartbeats 4000000 in
set_option maxRecDepth 100000 in
theorem c_X7_agrees {l : Launch} {P : sgP} {N : Nat} {p1 : Int32} {p2 : Int32} {σ : sgS} {q : Int32} (h : f_X7_agrees N p1 p2 σ = some q) : sg_Mi P shC 332 l yX7_agrees cX7_agrees 4 (some .boolean) 1 [.ref (sgA P 320), .int p1, .int p2] σ (q, σ) := by
  refine sg_mki (plainFor_of_name (by decide +kernel)) (Nat.le_of_ble_eq_true rfl) ?_
  intro p e R s m args below meth c Q A ls H locs X I hl hk
  exact b_X7_agrees X I hl h hk
def f_X7_fittingWays_L4 (N : Nat) (p1 : Int32) (x2 : Int32) (x3 : Int32) (σ : sgS) : Option ((Int32 × sgS) ⊕ ((sgS × Int32 × Int32) ⊕ (sgS × Int32))) :=
  if (σ.1 29 4) ≤ x3 then
  (some (.inr (.inr (σ, x2))))
else
  (sg_cr (f_X10_placeAt N x3 0 σ) fun v1 =>
  sg_ld σ 9 4 p1 fun v2 =>
  if v1 = v2 then
    (sg_cl (f_X7_follow N p1 x3 σ) fun v3 s4 =>
    sg_cr (f_X7_agrees N p1 x3 s4) fun v5 =>
    if v5 = 0 then
      (some (.inr (.inl (s4, x2 ||| 0, x3 + 1))))
    else
      (some (.inr (.inl (s4, x2 ||| (1 <<< (x3 &&& 31)), x3 + 1)))))
  else
    (some (.inr (.inl (σ, x2, x3 + 1)))))
set_option maxHeartbeats 4000000 in
set_option maxRecDepth 100000 in
theorem b_X7_fittingWays_L4 {p : Program} {l : Launch} {e : Env} {R : Room} {s : State} {m : MethodId} {args : Array Value} {below : List Frame} {meth : Method} {c : Code} {Q : State → Prop} {P : sgP} {A : Nat → Prop} {N : Nat} {p1 : Int32} {x2 : Int32} {x3 : Int32} {σ : sgS} (X : sg_C P A 7 p R s m args c cX7_fittingWays 4 RX7) {H : Heap} {locs : List Loc} (I : sg_I P shC 332 A s.heap σ H locs) {ls : Array Slot} (hl : lv_has ls 4 [(0, .ref (sgA P 320)), (1, .int p1), (2, .int x2), (3, .int x3)]) {st : (Int32 × sgS) ⊕ ((sgS × Int32 × Int32) ⊕ (sgS × Int32))} (h : f_X7_fittingWays_L4 N p1 x2 x3 σ = some st) (hk : sg_k3 (sg_Ri p l e R s m args below meth c Q P shC 332 A cX7_fittingWays (some .int)) (fun x => sg_Wt p l e R s m args below meth c Q P shC 332 A 4 4 x.1 [(0, .ref (sgA P 320)), (1, .int p1), (2, .int x.2.1), (3, .int x.2.2)]) (fun y => sg_Wt p l e R s m args below meth c Q P shC 332 A 4 67 y.1 [(2, .int y.2)]) st) : W p l e R s m args below meth c H locs 0 0 Q (F0 m 4 ls []) := by
  unfold f_X7_fittingWays_L4 at h
  have hx := X.1.1
  have hb := X.1.2.1
  have hown := X.1.2.2.2.1
  have hts := X.1.2.2.2.2
  refine lv_iload_n hx hb dX7_fittingWays_4 rfl (lv_at hl 3 rfl) ?_
  refine lv_aload_n hx hb dX7_fittingWays_5 rfl (lv_at hl 0 rfl) ?_
  refine sg_getr X I fk_X7_34 (j := 29) (by decide) shC_320 rfl dX7_fittingWays_6 ?_
  refine sg_getiN X I fn_X7_50 (by decide) shC_29 rfl dX7_fittingWays_9 ?_
  refine lv_icmp_ge (tgt := 67) hx hb dX7_fittingWays_12 (by decide) (fun z => ?_) (fun z => ?_)
  · have h := sg_ift h z
    obtain rfl := Option.some.inj h
    exact sg_go hk I (lv_sub hl [2] rfl)
  · have h := sg_iff h z
    refine lv_aload_n hx hb dX7_fittingWays_15 rfl (lv_at hl 0 rfl) ?_
    refine sg_getr X I fk_X7_34 (j := 29) (by decide) shC_320 rfl dX7_fittingWays_16 ?_
    refine lv_iload_n hx hb dX7_fittingWays_19 rfl (lv_at hl 3 rfl) ?_
    refine lv_iconst (v := 0) hx hb dX7_fittingWays_20 (by decide) ?_
    refine sg_callVr (As := [.int x3, .int 0]) X I mk_X7_53 (by decide) (by decide) shC_29 rfl (fun q9 e9 => c_X10_placeAt e9) h hl.1 rfl rfl (Nat.le_of_ble_eq_true rfl) dX7_fittingWays_21 (fun v1 H locs h I => ?_)
    refine lv_aload_n hx hb dX7_fittingWays_24 rfl (lv_at hl 0 rfl) ?_
    refine sg_getr X I fk_X7_30 (j := 3) (by decide) shC_320 rfl dX7_fittingWays_25 ?_
    refine sg_getrN X I fn_X7_57 (j := 9) (by decide) shC_3 rfl dX7_fittingWays_28 ?_
    refine lv_iload_n hx hb dX7_fittingWays_31 rfl (lv_at hl 1 rfl) ?_
    refine sg_iald X I (by decide) shC_9 h dX7_fittingWays_32 (fun v2 h => ?_)
    refine lv_icmp_ne (tgt := 61) hx hb dX7_fittingWays_33 (by decide) (fun z => ?_) (fun z => ?_)
    · have h := sg_iff h z
      refine lv_iinc (v := x3 + 1) (lv' := [(3, .int (x3 + 1)), (0, .ref (sgA P 320)), (1, .int p1), (2, .int x2)]) hx hb dX7_fittingWays_61 hl (k := 3) rfl rfl (by decide) rfl (fun ls hl => ?_)
      refine lv_goto (tgt := 4) hx hb dX7_fittingWays_64 (by decide) ?_
      obtain rfl := Option.some.inj h
      exact sg_go hk I (lv_sub hl [1, 2, 3, 0] rfl)
    · have h := sg_ift h z
      refine lv_aload_n hx hb dX7_fittingWays_36 rfl (lv_at hl 0 rfl) ?_
      refine lv_iload_n hx hb dX7_fittingWays_37 rfl (lv_at hl 1 rfl) ?_
      refine lv_iload_n hx hb dX7_fittingWays_38 rfl (lv_at hl 3 rfl) ?_
      refine sg_callVv (As := [.int p1, .int x3]) X I mk_X7_62 (by decide) (by decide) shC_320 rfl (fun q9 e9 => c_X7_follow e9) h hl.1 rfl rfl (Nat.le_of_ble_eq_true rfl) dX7_fittingWays_39 (fun v3 s4 H locs h I => ?_)
      refine lv_iload_n hx hb dX7_fittingWays_42 rfl (lv_at hl 2 rfl) ?_
      refine lv_aload_n hx hb dX7_fittingWays_43 rfl (lv_at hl 0 rfl) ?_
      refine lv_iload_n hx hb dX7_fittingWays_44 rfl (lv_at hl 1 rfl) ?_
      refine lv_iload_n hx hb dX7_fittingWays_45 rfl (lv_at hl 3 rfl) ?_
      refine sg_callVr (As := [.int p1, .int x3]) X I mk_X7_66 (by decide) (by decide) shC_320 rfl (fun q9 e9 => c_X7_agrees e9) h hl.1 rfl rfl (Nat.le_of_ble_eq_true rfl) dX7_fittingWays_46 (fun v5 H locs h I => ?_)
      refine lv_if_eq (tgt := 58) hx hb dX7_fittingWays_49 (by decide) (fun z => ?_) (fun z => ?_)
      · have h := sg_ift h z
        refine lv_iconst (v := 0) hx hb dX7_fittingWays_58 (by decide) ?_
        refine lv_ior hx hb dX7_fittingWays_59 ?_
        refine lv_istore_n (lv' := [(2, .int (x2 ||| 0)), (0, .ref (sgA P 320)), (1, .int p1), (3, .int x3)]) hx hb dX7_fittingWays_60 rfl hl (by decide) rfl (fun ls hl => ?_)
        refine lv_iinc (v := x3 + 1) (lv' := [(3, .int (x3 + 1)), (2, .int (x2 ||| 0)), (0, .ref (sgA P 320)), (1, .int p1)]) hx hb dX7_fittingWays_61 hl (k := 3) rfl rfl (by decide) rfl (fun ls hl => ?_)
        refine lv_goto (tgt := 4) hx hb dX7_fittingWays_64 (by decide) ?_
        obtain rfl := Option.some.inj h
        exact sg_go hk I (lv_sub hl [2, 3, 1, 0] rfl)
      · have h := sg_iff h z
        refine lv_iconst (v := 1) hx hb dX7_fittingWays_52 (by decide) ?_
        refine lv_iload_n hx hb dX7_fittingWays_53 rfl (lv_at hl 3 rfl) ?_
        refine lv_ishl hx hb dX7_fittingWays_54 ?_
        refine lv_goto (tgt := 59) hx hb dX7_fittingWays_55 (by decide) ?_
        refine lv_ior hx hb dX7_fittingWays_59 ?_
        refine lv_istore_n (lv' := [(2, .int (x2 ||| (1 <<< (x3 &&& 31)))), (0, .ref (sgA P 320)), (1, .int p1), (3, .int x3)]) hx hb dX7_fittingWays_60 rfl hl (by decide) rfl (fun ls hl => ?_)
        refine lv_iinc (v := x3 + 1) (lv' := [(3, .int (x3 + 1)), (2, .int (x2 ||| (1 <<< (x3 &&& 31)))), (0, .ref (sgA P 320)), (1, .int p1)]) hx hb dX7_fittingWays_61 hl (k := 3) rfl rfl (by decide) rfl (fun ls hl => ?_)
        refine lv_goto (tgt := 4) hx hb dX7_fittingWays_64 (by decide) ?_
        obtain rfl := Option.some.inj h
        exact sg_go hk I (lv_sub hl [2, 3, 1, 0] rfl)
def f_X7_fittingWays (N : Nat) (p1 : Int32) (σ : sgS) : Option (Int32 × sgS) :=
  sg_lb (sg_lp (fun x => f_X7_fittingWays_L4 N p1 x.2.1 x.2.2 x.1) N ((σ, 0, 0))) (fun r => some r) fun y6 =>
some (y6.2, y6.1)
set_option maxHeartbeats 4000000 in
set_option maxRecDepth 100000 in
theorem b_X7_fittingWays {p : Program} {l : Launch} {e : Env} {R : Room} {s : State} {m : MethodId} {args : Array Value} {below : List Frame} {meth : Method} {c : Code} {Q : State → Prop} {P : sgP} {A : Nat → Prop} {N : Nat} {p1 : Int32} {σ : sgS} (X : sg_C P A 7 p R s m args c cX7_fittingWays 4 RX7) {H : Heap} {locs : List Loc} (I : sg_I P shC 332 A s.heap σ H locs) {ls : Array Slot} (hl : lv_has ls 4 [(0, .ref (sgA P 320)), (1, .int p1)]) {st : Int32 × sgS} (h : f_X7_fittingWays N p1 σ = some st) (hk : sg_Ri p l e R s m args below meth c Q P shC 332 A cX7_fittingWays (some .int) st) : W p l e R s m args below meth c H locs 0 0 Q (F0 m 0 ls []) := by
  unfold f_X7_fittingWays at h
  have hx := X.1.1
  have hb := X.1.2.1
  have hown := X.1.2.2.2.1
  have hts := X.1.2.2.2.2
  refine lv_iconst (v := 0) hx hb dX7_fittingWays_0 (by decide) ?_
  refine lv_istore_n (lv' := [(2, .int 0), (0, .ref (sgA P 320)), (1, .int p1)]) hx hb dX7_fittingWays_1 rfl hl (by decide) rfl (fun ls hl => ?_)
  refine lv_iconst (v := 0) hx hb dX7_fittingWays_2 (by decide) ?_
  refine lv_istore_n (lv' := [(3, .int 0), (2, .int 0), (0, .ref (sgA P 320)), (1, .int p1)]) hx hb dX7_fittingWays_3 rfl hl (by decide) rfl (fun ls hl => ?_)
  obtain ⟨res, e9, k9⟩ := sg_lb_some h
  refine sg_go (sg_lp_W (a := (sg_Ri p l e R s m args below meth c Q P shC 332 A cX7_fittingWays (some .int))) (w := (fun x => sg_Wt p l e R s m args below meth c Q P shC 332 A 4 4 x.1 [(0, .ref (sgA P 320)), (1, .int p1), (2, .int x.2.1), (3, .int x.2.2)])) (c := (fun y => sg_Wt p l e R s m args below meth c Q P shC 332 A 4 67 y.1 [(2, .int y.2)])) (fun x st hb9 hk9 => ?_) N ((σ, 0, 0)) res e9 (sg_k2_mono k9 (fun r h => ?_) (fun y6 h => ?_))) I (lv_sub hl [2, 3, 1, 0] rfl)
  · intro H locs ls I hl
    exact b_X7_fittingWays_L4 X I hl hb9 hk9
  · obtain rfl := Option.some.inj h
    exact hk
  · intro H locs ls I hl
    refine lv_iload_n hx hb dX7_fittingWays_67 rfl (lv_at hl 0 rfl) ?_
    obtain rfl := Option.some.inj h
    exact hk _ _ _ _ _ I ⟨_, rfl, rfl⟩ dX7_fittingWays_68
set_option maxHeartbeats 4000000 in
set_option maxRecDepth 100000 in
theorem c_X7_fittingWays {l : Launch} {P : sgP} {N : Nat} {p1 : Int32} {σ : sgS} {q : Int32 × sgS} (h : f_X7_fittingWays N p1 σ = some q) : sg_Mi P shC 332 l yX7_fittingWays cX7_fittingWays 4 (some .int) 7 [.ref (sgA P 320), .int p1] σ q := by
  refine sg_mki (plainFor_of_name (by decide +kernel)) (Nat.le_of_ble_eq_true rfl) ?_
  intro p e R s m args below meth c Q A ls H locs X I hl hk
  exact b_X7_fittingWays X I hl h hk
def f_X7_mostAlike_L23 (N : Nat) (p1 : Int32) (p2 : Int32) (w3 : Int32) (w4 : Int32) (x5 : Int32) (x6 : Int32) (σ : sgS) : Option ((Int32) ⊕ ((Int32 × Int32) ⊕ (Int32))) :=
  if (σ.1 29 4) ≤ x6 then
  (some (.inr (.inr x5)))
else
  (if ((p1 >>> (x6 &&& 31)) &&& 1) = 0 then
    (some (.inr (.inl (x5, x6 + 1))))
  else
    (sg_rf 4 x6 fun j2 =>
    sg_ld σ (326 + j2) 10 p2 fun v3 =>
    if v3 = w4 then
      (some (.inr (.inl (x5 + 1, x6 + 1))))
    else
      (some (.inr (.inl (x5, x6 + 1))))))
set_option maxHeartbeats 4000000 in
set_option maxRecDepth 100000 in
theorem b_X7_mostAlike_L23 {p : Program} {l : Launch} {e : Env} {R : Room} {s : State} {m : MethodId} {args : Array Value} {below : List Frame} {meth : Method} {c : Code} {Q : State → Prop} {P : sgP} {A : Nat → Prop} {N : Nat} {p1 : Int32} {p2 : Int32} {w3 : Int32} {w4 : Int32} {x5 : Int32} {x6 : Int32} {σ : sgS} (X : sg_C P A 2 p R s m args c cX7_mostAlike 7 RX7) {H : Heap} {locs : List Loc} (I : sg_I P shC 332 A s.heap σ H locs) {ls : Array Slot} (hl : lv_has ls 7 [(0, .ref (sgA P 320)), (1, .int p1), (2, .int p2), (3, .int w3), (4, .int w4), (5, .int x5), (6, .int x6)]) {st : (Int32) ⊕ ((Int32 × Int32) ⊕ (Int32))} (h : f_X7_mostAlike_L23 N p1 p2 w3 w4 x5 x6 σ = some st) (hk : sg_k3 (fun r => sg_Ri p l e R s m args below meth c Q P shC 332 A cX7_mostAlike (some .int) (r, σ)) (fun x => sg_Wt p l e R s m args below meth c Q P shC 332 A 7 23 σ [(0, .ref (sgA P 320)), (1, .int p1), (2, .int p2), (3, .int w3), (4, .int w4), (5, .int x.1), (6, .int x.2)]) (fun y => sg_Wt p l e R s m args below meth c Q P shC 332 A 7 67 σ [(0, .ref (sgA P 320)), (1, .int p1), (2, .int p2), (3, .int w3), (4, .int w4), (5, .int y)]) st) : W p l e R s m args below meth c H locs 0 0 Q (F0 m 23 ls []) := by
  unfold f_X7_mostAlike_L23 at h
  have hx := X.1.1
  have hb := X.1.2.1
  have hown := X.1.2.2.2.1
  have hts := X.1.2.2.2.2
  refine lv_iload hx hb dX7_mostAlike_23 (lv_at hl 6 rfl) ?_
  refine lv_aload_n hx hb dX7_mostAlike_25 rfl (lv_at hl 0 rfl) ?_
  refine sg_getr X I fk_X7_34 (j := 29) (by decide) shC_320 rfl dX7_mostAlike_26 ?_
  refine sg_getiN X I fn_X7_50 (by decide) shC_29 rfl dX7_mostAlike_29 ?_
  refine lv_icmp_ge (tgt := 67) hx hb dX7_mostAlike_32 (by decide) (fun z => ?_) (fun z => ?_)
  · have h := sg_ift h z
    obtain rfl := Option.some.inj h
    exact sg_go hk I (lv_sub hl [0, 1, 2, 3, 4, 5] rfl)
  · have h := sg_iff h z
    refine lv_iload_n hx hb dX7_mostAlike_35 rfl (lv_at hl 1 rfl) ?_
    refine lv_iload hx hb dX7_mostAlike_36 (lv_at hl 6 rfl) ?_
    refine lv_ishr hx hb dX7_mostAlike_38 ?_
    refine lv_iconst (v := 1) hx hb dX7_mostAlike_39 (by decide) ?_
    refine lv_iand hx hb dX7_mostAlike_40 ?_
    refine lv_if_eq (tgt := 61) hx hb dX7_mostAlike_41 (by decide) (fun z => ?_) (fun z => ?_)
    · have h := sg_ift h z
      refine lv_iinc (v := x6 + 1) (lv' := [(6, .int (x6 + 1)), (0, .ref (sgA P 320)), (1, .int p1), (2, .int p2), (3, .int w3), (4, .int w4), (5, .int x5)]) hx hb dX7_mostAlike_61 hl (k := 6) rfl rfl (by decide) rfl (fun ls hl => ?_)
      refine lv_goto (tgt := 23) hx hb dX7_mostAlike_64 (by decide) ?_
      obtain rfl := Option.some.inj h
      exact sg_go hk I (lv_sub hl [1, 2, 3, 4, 5, 6, 0] rfl)
    · have h := sg_iff h z
      refine lv_aload_n hx hb dX7_mostAlike_44 rfl (lv_at hl 0 rfl) ?_
      refine sg_getr X I fk_X7_27 (j := 325) (by decide) shC_320 rfl dX7_mostAlike_45 ?_
      refine lv_iload hx hb dX7_mostAlike_48 (lv_at hl 6 rfl) ?_
      refine sg_aalda X I (by decide) shC_325 (r := fun k => 326 + k) (fun _ _ => rfl) h dX7_mostAlike_50 (fun j2 hj2 h => ?_)
      refine lv_iload_n hx hb dX7_mostAlike_51 rfl (lv_at hl 2 rfl) ?_
      refine sg_iald X I (shC_325i hj2) (shC_325s hj2) h dX7_mostAlike_52 (fun v3 h => ?_)
      refine lv_iload hx hb dX7_mostAlike_53 (lv_at hl 4 rfl) ?_
      refine lv_icmp_ne (tgt := 61) hx hb dX7_mostAlike_55 (by decide) (fun z => ?_) (fun z => ?_)
      · have h := sg_iff h z
        refine lv_iinc (v := x6 + 1) (lv' := [(6, .int (x6 + 1)), (0, .ref (sgA P 320)), (1, .int p1), (2, .int p2), (3, .int w3), (4, .int w4), (5, .int x5)]) hx hb dX7_mostAlike_61 hl (k := 6) rfl rfl (by decide) rfl (fun ls hl => ?_)
        refine lv_goto (tgt := 23) hx hb dX7_mostAlike_64 (by decide) ?_
        obtain rfl := Option.some.inj h
        exact sg_go hk I (lv_sub hl [1, 2, 3, 4, 5, 6, 0] rfl)
      · have h := sg_ift h z
        refine lv_iinc (v := x5 + 1) (lv' := [(5, .int (x5 + 1)), (0, .ref (sgA P 320)), (1, .int p1), (2, .int p2), (3, .int w3), (4, .int w4), (6, .int x6)]) hx hb dX7_mostAlike_58 hl (k := 5) rfl rfl (by decide) rfl (fun ls hl => ?_)
        refine lv_iinc (v := x6 + 1) (lv' := [(6, .int (x6 + 1)), (5, .int (x5 + 1)), (0, .ref (sgA P 320)), (1, .int p1), (2, .int p2), (3, .int w3), (4, .int w4)]) hx hb dX7_mostAlike_61 hl (k := 6) rfl rfl (by decide) rfl (fun ls hl => ?_)
        refine lv_goto (tgt := 23) hx hb dX7_mostAlike_64 (by decide) ?_
        obtain rfl := Option.some.inj h
        exact sg_go hk I (lv_sub hl [2, 3, 4, 5, 6, 1, 0] rfl)
def f_X7_mostAlike_L5 (N : Nat) (p1 : Int32) (p2 : Int32) (x3 : Int32) (x4 : Int32) (σ : sgS) : Option ((Int32) ⊕ ((Int32 × Int32) ⊕ (Int32))) :=
  if (σ.1 3 3) ≤ x4 then
  (some (.inr (.inr x3)))
else
  (sg_lb (sg_lp (fun x => f_X7_mostAlike_L23 N p1 p2 x3 x4 x.1 x.2 σ) N ((0, 0))) (fun r => some (.inl r)) fun y4 =>
  some (.inr (.inl ((if x3 < y4 then y4 else x3), x4 + 1))))
set_option maxHeartbeats 4000000 in
set_option maxRecDepth 100000 in
theorem b_X7_mostAlike_L5 {p : Program} {l : Launch} {e : Env} {R : Room} {s : State} {m : MethodId} {args : Array Value} {below : List Frame} {meth : Method} {c : Code} {Q : State → Prop} {P : sgP} {A : Nat → Prop} {N : Nat} {p1 : Int32} {p2 : Int32} {x3 : Int32} {x4 : Int32} {σ : sgS} (X : sg_C P A 2 p R s m args c cX7_mostAlike 7 RX7) {H : Heap} {locs : List Loc} (I : sg_I P shC 332 A s.heap σ H locs) {ls : Array Slot} (hl : lv_has ls 7 [(0, .ref (sgA P 320)), (1, .int p1), (2, .int p2), (3, .int x3), (4, .int x4)]) {st : (Int32) ⊕ ((Int32 × Int32) ⊕ (Int32))} (h : f_X7_mostAlike_L5 N p1 p2 x3 x4 σ = some st) (hk : sg_k3 (fun r => sg_Ri p l e R s m args below meth c Q P shC 332 A cX7_mostAlike (some .int) (r, σ)) (fun x => sg_Wt p l e R s m args below meth c Q P shC 332 A 7 5 σ [(0, .ref (sgA P 320)), (1, .int p1), (2, .int p2), (3, .int x.1), (4, .int x.2)]) (fun y => sg_Wt p l e R s m args below meth c Q P shC 332 A 7 80 σ [(3, .int y)]) st) : W p l e R s m args below meth c H locs 0 0 Q (F0 m 5 ls []) := by
  unfold f_X7_mostAlike_L5 at h
  have hx := X.1.1
  have hb := X.1.2.1
  have hown := X.1.2.2.2.1
  have hts := X.1.2.2.2.2
  refine lv_iload hx hb dX7_mostAlike_5 (lv_at hl 4 rfl) ?_
  refine lv_aload_n hx hb dX7_mostAlike_7 rfl (lv_at hl 0 rfl) ?_
  refine sg_getr X I fk_X7_30 (j := 3) (by decide) shC_320 rfl dX7_mostAlike_8 ?_
  refine sg_getiN X I fn_X7_91 (by decide) shC_3 rfl dX7_mostAlike_11 ?_
  refine lv_icmp_ge (tgt := 80) hx hb dX7_mostAlike_14 (by decide) (fun z => ?_) (fun z => ?_)
  · have h := sg_ift h z
    obtain rfl := Option.some.inj h
    exact sg_go hk I (lv_sub hl [3] rfl)
  · have h := sg_iff h z
    refine lv_iconst (v := 0) hx hb dX7_mostAlike_17 (by decide) ?_
    refine lv_istore (lv' := [(5, .int 0), (0, .ref (sgA P 320)), (1, .int p1), (2, .int p2), (3, .int x3), (4, .int x4)]) hx hb dX7_mostAlike_18 hl (by decide) rfl (fun ls hl => ?_)
    refine lv_iconst (v := 0) hx hb dX7_mostAlike_20 (by decide) ?_
    refine lv_istore (lv' := [(6, .int 0), (5, .int 0), (0, .ref (sgA P 320)), (1, .int p1), (2, .int p2), (3, .int x3), (4, .int x4)]) hx hb dX7_mostAlike_21 hl (by decide) rfl (fun ls hl => ?_)
    obtain ⟨res, e9, k9⟩ := sg_lb_some h
    refine sg_go (sg_lp_W (a := (fun r => sg_Ri p l e R s m args below meth c Q P shC 332 A cX7_mostAlike (some .int) (r, σ))) (w := (fun x => sg_Wt p l e R s m args below meth c Q P shC 332 A 7 23 σ [(0, .ref (sgA P 320)), (1, .int p1), (2, .int p2), (3, .int x3), (4, .int x4), (5, .int x.1), (6, .int x.2)])) (c := (fun y => sg_Wt p l e R s m args below meth c Q P shC 332 A 7 67 σ [(0, .ref (sgA P 320)), (1, .int p1), (2, .int p2), (3, .int x3), (4, .int x4), (5, .int y)])) (fun x st hb9 hk9 => ?_) N ((0, 0)) res e9 (sg_k2_mono k9 (fun r h => ?_) (fun y4 h => ?_))) I (lv_sub hl [2, 3, 4, 5, 6, 1, 0] rfl)
    · intro H locs ls I hl
      exact b_X7_mostAlike_L23 X I hl hb9 hk9
    · obtain rfl := Option.some.inj h
      exact hk
    · intro H locs ls I hl
      refine lv_iload_n hx hb dX7_mostAlike_67 rfl (lv_at hl 3 rfl) ?_
      refine lv_iload hx hb dX7_mostAlike_68 (lv_at hl 5 rfl) ?_
      refine sg_mmax X hl.1 (by first | decide | omega) qw_1306 qw_285 qw_286 qw_287 (Nat.le_of_ble_eq_true rfl) dX7_mostAlike_70 ?_
      refine lv_istore_n (lv' := [(3, .int ((if x3 < y4 then y4 else x3))), (0, .ref (sgA P 320)), (1, .int p1), (2, .int p2), (4, .int x4), (5, .int y4)]) hx hb dX7_mostAlike_73 rfl hl (by decide) rfl (fun ls hl => ?_)
      refine lv_iinc (v := x4 + 1) (lv' := [(4, .int (x4 + 1)), (3, .int ((if x3 < y4 then y4 else x3))), (0, .ref (sgA P 320)), (1, .int p1), (2, .int p2), (5, .int y4)]) hx hb dX7_mostAlike_74 hl (k := 4) rfl rfl (by decide) rfl (fun ls hl => ?_)
      refine lv_goto (tgt := 5) hx hb dX7_mostAlike_77 (by decide) ?_
      obtain rfl := Option.some.inj h
      exact sg_go hk I (lv_sub hl [2, 3, 4, 1, 0] rfl)
def f_X7_mostAlike (N : Nat) (p1 : Int32) (p2 : Int32) (σ : sgS) : Option (Int32) :=
  sg_lb (sg_lp (fun x => f_X7_mostAlike_L5 N p1 p2 x.1 x.2 σ) N ((0, 0))) (fun r => some r) fun y5 =>
some y5
set_option maxHeartbeats 4000000 in
set_option maxRecDepth 100000 in
theorem b_X7_mostAlike {p : Program} {l : Launch} {e : Env} {R : Room} {s : State} {m : MethodId} {args : Array Value} {below : List Frame} {meth : Method} {c : Code} {Q : State → Prop} {P : sgP} {A : Nat → Prop} {N : Nat} {p1 : Int32} {p2 : Int32} {σ : sgS} (X : sg_C P A 2 p R s m args c cX7_mostAlike 7 RX7) {H : Heap} {locs : List Loc} (I : sg_I P shC 332 A s.heap σ H locs) {ls : Array Slot} (hl : lv_has ls 7 [(0, .ref (sgA P 320)), (1, .int p1), (2, .int p2)]) {st : Int32} (h : f_X7_mostAlike N p1 p2 σ = some st) (hk : sg_Ri p l e R s m args below meth c Q P shC 332 A cX7_mostAlike (some .int) (st, σ)) : W p l e R s m args below meth c H locs 0 0 Q (F0 m 0 ls []) := by
  unfold f_X7_mostAlike at h
  have hx := X.1.1
  have hb := X.1.2.1
  have hown := X.1.2.2.2.1
  have hts := X.1.2.2.2.2
  refine lv_iconst (v := 0) hx hb dX7_mostAlike_0 (by decide) ?_
  refine lv_istore_n (lv' := [(3, .int 0), (0, .ref (sgA P 320)), (1, .int p1), (2, .int p2)]) hx hb dX7_mostAlike_1 rfl hl (by decide) rfl (fun ls hl => ?_)
  refine lv_iconst (v := 0) hx hb dX7_mostAlike_2 (by decide) ?_
  refine lv_istore (lv' := [(4, .int 0), (3, .int 0), (0, .ref (sgA P 320)), (1, .int p1), (2, .int p2)]) hx hb dX7_mostAlike_3 hl (by decide) rfl (fun ls hl => ?_)
  obtain ⟨res, e9, k9⟩ := sg_lb_some h
  refine sg_go (sg_lp_W (a := (fun r => sg_Ri p l e R s m args below meth c Q P shC 332 A cX7_mostAlike (some .int) (r, σ))) (w := (fun x => sg_Wt p l e R s m args below meth c Q P shC 332 A 7 5 σ [(0, .ref (sgA P 320)), (1, .int p1), (2, .int p2), (3, .int x.1), (4, .int x.2)])) (c := (fun y => sg_Wt p l e R s m args below meth c Q P shC 332 A 7 80 σ [(3, .int y)])) (fun x st hb9 hk9 => ?_) N ((0, 0)) res e9 (sg_k2_mono k9 (fun r h => ?_) (fun y5 h => ?_))) I (lv_sub hl [2, 3, 4, 1, 0] rfl)
  · intro H locs ls I hl
    exact b_X7_mostAlike_L5 X I hl hb9 hk9
  · obtain rfl := Option.some.inj h
    exact hk
  · intro H locs ls I hl
    refine lv_iload_n hx hb dX7_mostAlike_80 rfl (lv_at hl 0 rfl) ?_
    obtain rfl := Option.some.inj h
    exact hk _ _ _ _ _ I ⟨_, rfl, rfl⟩ dX7_mostAlike_81
set_option maxHeartbeats 4000000 in
set_option maxRecDepth 100000 in
theorem c_X7_mostAlike {l : Launch} {P : sgP} {N : Nat} {p1 : Int32} {p2 : Int32} {σ : sgS} {q : Int32} (h : f_X7_mostAlike N p1 p2 σ = some q) : sg_Mi P shC 332 l yX7_mostAlike cX7_mostAlike 7 (some .int) 2 [.ref (sgA P 320), .int p1, .int p2] σ (q, σ) := by
  refine sg_mki (plainFor_of_name (by decide +kernel)) (Nat.le_of_ble_eq_true rfl) ?_
  intro p e R s m args below meth c Q A ls H locs X I hl hk
  exact b_X7_mostAlike X I hl h hk
def f_X7_bestDayFor_L4 (N : Nat) (p1 : Int32) (x2 : Int32) (x3 : Int32) (σ : sgS) : Option ((Int32) ⊕ ((Int32 × Int32) ⊕ (Int32))) :=
  if 9 < x3 then
  (some (.inr (.inr x2)))
else
  (sg_cr (f_X7_mostAlike N p1 x3 σ) fun v1 =>
  sg_cr (f_X7_mostAlike N p1 x2 σ) fun v2 =>
  if v2 ≤ v1 then
    (some (.inr (.inl (x2, x3 + 1))))
  else
    (some (.inr (.inl (x3, x3 + 1)))))
set_option maxHeartbeats 4000000 in
set_option maxRecDepth 100000 in
theorem b_X7_bestDayFor_L4 {p : Program} {l : Launch} {e : Env} {R : Room} {s : State} {m : MethodId} {args : Array Value} {below : List Frame} {meth : Method} {c : Code} {Q : State → Prop} {P : sgP} {A : Nat → Prop} {N : Nat} {p1 : Int32} {x2 : Int32} {x3 : Int32} {σ : sgS} (X : sg_C P A 3 p R s m args c cX7_bestDayFor 4 RX7) {H : Heap} {locs : List Loc} (I : sg_I P shC 332 A s.heap σ H locs) {ls : Array Slot} (hl : lv_has ls 4 [(0, .ref (sgA P 320)), (1, .int p1), (2, .int x2), (3, .int x3)]) {st : (Int32) ⊕ ((Int32 × Int32) ⊕ (Int32))} (h : f_X7_bestDayFor_L4 N p1 x2 x3 σ = some st) (hk : sg_k3 (fun r => sg_Ri p l e R s m args below meth c Q P shC 332 A cX7_bestDayFor (some .int) (r, σ)) (fun x => sg_Wt p l e R s m args below meth c Q P shC 332 A 4 4 σ [(0, .ref (sgA P 320)), (1, .int p1), (2, .int x.1), (3, .int x.2)]) (fun y => sg_Wt p l e R s m args below meth c Q P shC 332 A 4 33 σ [(2, .int y)]) st) : W p l e R s m args below meth c H locs 0 0 Q (F0 m 4 ls []) := by
  unfold f_X7_bestDayFor_L4 at h
  have hx := X.1.1
  have hb := X.1.2.1
  have hown := X.1.2.2.2.1
  have hts := X.1.2.2.2.2
  refine lv_iload_n hx hb dX7_bestDayFor_4 rfl (lv_at hl 3 rfl) ?_
  refine lv_bipush (v := 9) hx hb dX7_bestDayFor_5 (by decide) ?_
  refine lv_icmp_gt (tgt := 33) hx hb dX7_bestDayFor_7 (by decide) (fun z => ?_) (fun z => ?_)
  · have h := sg_ift h z
    obtain rfl := Option.some.inj h
    exact sg_go hk I (lv_sub hl [2] rfl)
  · have h := sg_iff h z
    refine lv_aload_n hx hb dX7_bestDayFor_10 rfl (lv_at hl 0 rfl) ?_
    refine lv_iload_n hx hb dX7_bestDayFor_11 rfl (lv_at hl 1 rfl) ?_
    refine lv_iload_n hx hb dX7_bestDayFor_12 rfl (lv_at hl 3 rfl) ?_
    refine sg_callVr (As := [.int p1, .int x3]) X I mk_X7_88 (by decide) (by decide) shC_320 rfl (fun q9 e9 => c_X7_mostAlike e9) h hl.1 rfl rfl (Nat.le_of_ble_eq_true rfl) dX7_bestDayFor_13 (fun v1 H locs h I => ?_)
    refine lv_aload_n hx hb dX7_bestDayFor_16 rfl (lv_at hl 0 rfl) ?_
    refine lv_iload_n hx hb dX7_bestDayFor_17 rfl (lv_at hl 1 rfl) ?_
    refine lv_iload_n hx hb dX7_bestDayFor_18 rfl (lv_at hl 2 rfl) ?_
    refine sg_callVr (As := [.int p1, .int x2]) X I mk_X7_88 (by decide) (by decide) shC_320 rfl (fun q9 e9 => c_X7_mostAlike e9) h hl.1 rfl rfl (Nat.le_of_ble_eq_true rfl) dX7_bestDayFor_19 (fun v2 H locs h I => ?_)
    refine lv_icmp_ge (tgt := 27) hx hb dX7_bestDayFor_22 (by decide) (fun z => ?_) (fun z => ?_)
    · have h := sg_ift h z
      refine lv_iinc (v := x3 + 1) (lv' := [(3, .int (x3 + 1)), (0, .ref (sgA P 320)), (1, .int p1), (2, .int x2)]) hx hb dX7_bestDayFor_27 hl (k := 3) rfl rfl (by decide) rfl (fun ls hl => ?_)
      refine lv_goto (tgt := 4) hx hb dX7_bestDayFor_30 (by decide) ?_
      obtain rfl := Option.some.inj h
      exact sg_go hk I (lv_sub hl [1, 2, 3, 0] rfl)
    · have h := sg_iff h z
      refine lv_iload_n hx hb dX7_bestDayFor_25 rfl (lv_at hl 3 rfl) ?_
      refine lv_istore_n (lv' := [(2, .int x3), (0, .ref (sgA P 320)), (1, .int p1), (3, .int x3)]) hx hb dX7_bestDayFor_26 rfl hl (by decide) rfl (fun ls hl => ?_)
      refine lv_iinc (v := x3 + 1) (lv' := [(3, .int (x3 + 1)), (2, .int x3), (0, .ref (sgA P 320)), (1, .int p1)]) hx hb dX7_bestDayFor_27 hl (k := 3) rfl rfl (by decide) rfl (fun ls hl => ?_)
      refine lv_goto (tgt := 4) hx hb dX7_bestDayFor_30 (by decide) ?_
      obtain rfl := Option.some.inj h
      exact sg_go hk I (lv_sub hl [2, 3, 1, 0] rfl)
def f_X7_bestDayFor (N : Nat) (p1 : Int32) (σ : sgS) : Option (Int32) :=
  sg_lb (sg_lp (fun x => f_X7_bestDayFor_L4 N p1 x.1 x.2 σ) N ((1, 2))) (fun r => some r) fun y3 =>
some y3
set_option maxHeartbeats 4000000 in
set_option maxRecDepth 100000 in
theorem b_X7_bestDayFor {p : Program} {l : Launch} {e : Env} {R : Room} {s : State} {m : MethodId} {args : Array Value} {below : List Frame} {meth : Method} {c : Code} {Q : State → Prop} {P : sgP} {A : Nat → Prop} {N : Nat} {p1 : Int32} {σ : sgS} (X : sg_C P A 3 p R s m args c cX7_bestDayFor 4 RX7) {H : Heap} {locs : List Loc} (I : sg_I P shC 332 A s.heap σ H locs) {ls : Array Slot} (hl : lv_has ls 4 [(0, .ref (sgA P 320)), (1, .int p1)]) {st : Int32} (h : f_X7_bestDayFor N p1 σ = some st) (hk : sg_Ri p l e R s m args below meth c Q P shC 332 A cX7_bestDayFor (some .int) (st, σ)) : W p l e R s m args below meth c H locs 0 0 Q (F0 m 0 ls []) := by
  unfold f_X7_bestDayFor at h
  have hx := X.1.1
  have hb := X.1.2.1
  have hown := X.1.2.2.2.1
  have hts := X.1.2.2.2.2
  refine lv_iconst (v := 1) hx hb dX7_bestDayFor_0 (by decide) ?_
  refine lv_istore_n (lv' := [(2, .int 1), (0, .ref (sgA P 320)), (1, .int p1)]) hx hb dX7_bestDayFor_1 rfl hl (by decide) rfl (fun ls hl => ?_)
  refine lv_iconst (v := 2) hx hb dX7_bestDayFor_2 (by decide) ?_
  refine lv_istore_n (lv' := [(3, .int 2), (2, .int 1), (0, .ref (sgA P 320)), (1, .int p1)]) hx hb dX7_bestDayFor_3 rfl hl (by decide) rfl (fun ls hl => ?_)
  obtain ⟨res, e9, k9⟩ := sg_lb_some h
  refine sg_go (sg_lp_W (a := (fun r => sg_Ri p l e R s m args below meth c Q P shC 332 A cX7_bestDayFor (some .int) (r, σ))) (w := (fun x => sg_Wt p l e R s m args below meth c Q P shC 332 A 4 4 σ [(0, .ref (sgA P 320)), (1, .int p1), (2, .int x.1), (3, .int x.2)])) (c := (fun y => sg_Wt p l e R s m args below meth c Q P shC 332 A 4 33 σ [(2, .int y)])) (fun x st hb9 hk9 => ?_) N ((1, 2)) res e9 (sg_k2_mono k9 (fun r h => ?_) (fun y3 h => ?_))) I (lv_sub hl [2, 3, 1, 0] rfl)
  · intro H locs ls I hl
    exact b_X7_bestDayFor_L4 X I hl hb9 hk9
  · obtain rfl := Option.some.inj h
    exact hk
  · intro H locs ls I hl
    refine lv_iload_n hx hb dX7_bestDayFor_33 rfl (lv_at hl 0 rfl) ?_
    obtain rfl := Option.some.inj h
    exact hk _ _ _ _ _ I ⟨_, rfl, rfl⟩ dX7_bestDayFor_34
set_option maxHeartbeats 4000000 in
set_option maxRecDepth 100000 in
theorem c_X7_bestDayFor {l : Launch} {P : sgP} {N : Nat} {p1 : Int32} {σ : sgS} {q : Int32} (h : f_X7_bestDayFor N p1 σ = some q) : sg_Mi P shC 332 l yX7_bestDayFor cX7_bestDayFor 4 (some .int) 3 [.ref (sgA P 320), .int p1] σ (q, σ) := by
  refine sg_mki (plainFor_of_name (by decide +kernel)) (Nat.le_of_ble_eq_true rfl) ?_
  intro p e R s m args below meth c Q A ls H locs X I hl hk
  exact b_X7_bestDayFor X I hl h hk
def f_X8_setsOnWay_L4 (N : Nat) (o : Nat) (x1 : Int32) (x2 : Int32) (σ : sgS) : Option ((Int32) ⊕ ((Int32 × Int32) ⊕ (Int32))) :=
  if 4 ≤ x2 then
  (some (.inr (.inr x1)))
else
  (sg_ld σ (o + 2) 4 x2 fun v1 =>
  if v1 = ((-1)) then
    (some (.inr (.inl (x1, x2 + 1))))
  else
    (some (.inr (.inl (x1 ||| (1 <<< (x2 &&& 31)), x2 + 1)))))
set_option maxHeartbeats 4000000 in
set_option maxRecDepth 100000 in
theorem b_X8_setsOnWay_L4 {p : Program} {l : Launch} {e : Env} {R : Room} {s : State} {m : MethodId} {args : Array Value} {below : List Frame} {meth : Method} {c : Code} {Q : State → Prop} {P : sgP} {A : Nat → Prop} {N : Nat} {o : Nat} {x1 : Int32} {x2 : Int32} {σ : sgS} (X : sg_C P A 1 p R s m args c cX8_setsOnWay 3 RX8) (ho : isSt o) {H : Heap} {locs : List Loc} (I : sg_I P shC 332 A s.heap σ H locs) {ls : Array Slot} (hl : lv_has ls 3 [(0, .ref (sgA P o)), (1, .int x1), (2, .int x2)]) {st : (Int32) ⊕ ((Int32 × Int32) ⊕ (Int32))} (h : f_X8_setsOnWay_L4 N o x1 x2 σ = some st) (hk : sg_k3 (fun r => sg_Ri p l e R s m args below meth c Q P shC 332 A cX8_setsOnWay (some .int) (r, σ)) (fun x => sg_Wt p l e R s m args below meth c Q P shC 332 A 3 4 σ [(0, .ref (sgA P o)), (1, .int x.1), (2, .int x.2)]) (fun y => sg_Wt p l e R s m args below meth c Q P shC 332 A 3 31 σ [(1, .int y)]) st) : W p l e R s m args below meth c H locs 0 0 Q (F0 m 4 ls []) := by
  unfold f_X8_setsOnWay_L4 at h
  have hx := X.1.1
  have hb := X.1.2.1
  have hown := X.1.2.2.2.1
  have hts := X.1.2.2.2.2
  refine lv_iload_n hx hb dX8_setsOnWay_4 rfl (lv_at hl 2 rfl) ?_
  refine lv_iconst (v := 4) hx hb dX8_setsOnWay_5 (by decide) ?_
  refine lv_icmp_ge (tgt := 31) hx hb dX8_setsOnWay_6 (by decide) (fun z => ?_) (fun z => ?_)
  · have h := sg_ift h z
    obtain rfl := Option.some.inj h
    exact sg_go hk I (lv_sub hl [1] rfl)
  · have h := sg_iff h z
    refine lv_aload_n hx hb dX8_setsOnWay_9 rfl (lv_at hl 0 rfl) ?_
    refine sg_getr X I fk_X8_15 (j := o + 2) (isSt_i0 ho) (isSt_s0 ho) rfl dX8_setsOnWay_10 ?_
    refine lv_iload_n hx hb dX8_setsOnWay_13 rfl (lv_at hl 2 rfl) ?_
    refine sg_iald X I (isSt_i2 ho) (isSt_s2 ho) h dX8_setsOnWay_14 (fun v1 h => ?_)
    refine lv_iconst (v := -1) hx hb dX8_setsOnWay_15 (by decide) ?_
    refine lv_icmp_eq (tgt := 25) hx hb dX8_setsOnWay_16 (by decide) (fun z => ?_) (fun z => ?_)
    · have h := sg_ift h z
      refine lv_iinc (v := x2 + 1) (lv' := [(2, .int (x2 + 1)), (0, .ref (sgA P o)), (1, .int x1)]) hx hb dX8_setsOnWay_25 hl (k := 2) rfl rfl (by decide) rfl (fun ls hl => ?_)
      refine lv_goto (tgt := 4) hx hb dX8_setsOnWay_28 (by decide) ?_
      obtain rfl := Option.some.inj h
      exact sg_go hk I (lv_sub hl [1, 2, 0] rfl)
    · have h := sg_iff h z
      refine lv_iload_n hx hb dX8_setsOnWay_19 rfl (lv_at hl 1 rfl) ?_
      refine lv_iconst (v := 1) hx hb dX8_setsOnWay_20 (by decide) ?_
      refine lv_iload_n hx hb dX8_setsOnWay_21 rfl (lv_at hl 2 rfl) ?_
      refine lv_ishl hx hb dX8_setsOnWay_22 ?_
      refine lv_ior hx hb dX8_setsOnWay_23 ?_
      refine lv_istore_n (lv' := [(1, .int (x1 ||| (1 <<< (x2 &&& 31)))), (0, .ref (sgA P o)), (2, .int x2)]) hx hb dX8_setsOnWay_24 rfl hl (by decide) rfl (fun ls hl => ?_)
      refine lv_iinc (v := x2 + 1) (lv' := [(2, .int (x2 + 1)), (1, .int (x1 ||| (1 <<< (x2 &&& 31)))), (0, .ref (sgA P o))]) hx hb dX8_setsOnWay_25 hl (k := 2) rfl rfl (by decide) rfl (fun ls hl => ?_)
      refine lv_goto (tgt := 4) hx hb dX8_setsOnWay_28 (by decide) ?_
      obtain rfl := Option.some.inj h
      exact sg_go hk I (lv_sub hl [2, 1, 0] rfl)
def f_X8_setsOnWay (N : Nat) (o : Nat) (σ : sgS) : Option (Int32) :=
  sg_lb (sg_lp (fun x => f_X8_setsOnWay_L4 N o x.1 x.2 σ) N ((0, 0))) (fun r => some r) fun y2 =>
some y2
set_option maxHeartbeats 4000000 in
set_option maxRecDepth 100000 in
theorem b_X8_setsOnWay {p : Program} {l : Launch} {e : Env} {R : Room} {s : State} {m : MethodId} {args : Array Value} {below : List Frame} {meth : Method} {c : Code} {Q : State → Prop} {P : sgP} {A : Nat → Prop} {N : Nat} {o : Nat} {σ : sgS} (X : sg_C P A 1 p R s m args c cX8_setsOnWay 3 RX8) (ho : isSt o) {H : Heap} {locs : List Loc} (I : sg_I P shC 332 A s.heap σ H locs) {ls : Array Slot} (hl : lv_has ls 3 [(0, .ref (sgA P o))]) {st : Int32} (h : f_X8_setsOnWay N o σ = some st) (hk : sg_Ri p l e R s m args below meth c Q P shC 332 A cX8_setsOnWay (some .int) (st, σ)) : W p l e R s m args below meth c H locs 0 0 Q (F0 m 0 ls []) := by
  unfold f_X8_setsOnWay at h
  have hx := X.1.1
  have hb := X.1.2.1
  have hown := X.1.2.2.2.1
  have hts := X.1.2.2.2.2
  refine lv_iconst (v := 0) hx hb dX8_setsOnWay_0 (by decide) ?_
  refine lv_istore_n (lv' := [(1, .int 0), (0, .ref (sgA P o))]) hx hb dX8_setsOnWay_1 rfl hl (by decide) rfl (fun ls hl => ?_)
  refine lv_iconst (v := 0) hx hb dX8_setsOnWay_2 (by decide) ?_
  refine lv_istore_n (lv' := [(2, .int 0), (1, .int 0), (0, .ref (sgA P o))]) hx hb dX8_setsOnWay_3 rfl hl (by decide) rfl (fun ls hl => ?_)
  obtain ⟨res, e9, k9⟩ := sg_lb_some h
  refine sg_go (sg_lp_W (a := (fun r => sg_Ri p l e R s m args below meth c Q P shC 332 A cX8_setsOnWay (some .int) (r, σ))) (w := (fun x => sg_Wt p l e R s m args below meth c Q P shC 332 A 3 4 σ [(0, .ref (sgA P o)), (1, .int x.1), (2, .int x.2)])) (c := (fun y => sg_Wt p l e R s m args below meth c Q P shC 332 A 3 31 σ [(1, .int y)])) (fun x st hb9 hk9 => ?_) N ((0, 0)) res e9 (sg_k2_mono k9 (fun r h => ?_) (fun y2 h => ?_))) I (lv_sub hl [2, 1, 0] rfl)
  · intro H locs ls I hl
    exact b_X8_setsOnWay_L4 X ho I hl hb9 hk9
  · obtain rfl := Option.some.inj h
    exact hk
  · intro H locs ls I hl
    refine lv_iload_n hx hb dX8_setsOnWay_31 rfl (lv_at hl 0 rfl) ?_
    obtain rfl := Option.some.inj h
    exact hk _ _ _ _ _ I ⟨_, rfl, rfl⟩ dX8_setsOnWay_32
set_option maxHeartbeats 4000000 in
set_option maxRecDepth 100000 in
theorem c_X8_setsOnWay {l : Launch} {P : sgP} {N : Nat} {o : Nat} {σ : sgS} (ho : isSt o) {q : Int32} (h : f_X8_setsOnWay N o σ = some q) : sg_Mi P shC 332 l yX8_setsOnWay cX8_setsOnWay 3 (some .int) 1 [.ref (sgA P o)] σ (q, σ) := by
  refine sg_mki (plainFor_of_name (by decide +kernel)) (Nat.le_of_ble_eq_true rfl) ?_
  intro p e R s m args below meth c Q A ls H locs X I hl hk
  exact b_X8_setsOnWay X ho I hl h hk
def f_X9_bytesOf_L5 (N : Nat) (p0 : Int32) (x1 : Int32) (x2 : Int32) (σ : sgS) : Option ((Int32) ⊕ ((Int32 × Int32) ⊕ (Int32))) :=
  if x2 < 0 then
  (some (.inr (.inr x1)))
else
  (if ((sg_ushr p0 x2) &&& 255) = 0 then
    (some (.inr (.inl (x1, x2 + (-8)))))
  else
    (some (.inr (.inl (x1 + 1, x2 + (-8))))))
set_option maxHeartbeats 4000000 in
set_option maxRecDepth 100000 in
theorem b_X9_bytesOf_L5 {p : Program} {l : Launch} {e : Env} {R : Room} {s : State} {m : MethodId} {args : Array Value} {below : List Frame} {meth : Method} {c : Code} {Q : State → Prop} {P : sgP} {A : Nat → Prop} {N : Nat} {p0 : Int32} {x1 : Int32} {x2 : Int32} {σ : sgS} (X : sg_C P A 1 p R s m args c cX9_bytesOf 3 RX9) {H : Heap} {locs : List Loc} (I : sg_I P shC 332 A s.heap σ H locs) {ls : Array Slot} (hl : lv_has ls 3 [(0, .int p0), (1, .int x1), (2, .int x2)]) {st : (Int32) ⊕ ((Int32 × Int32) ⊕ (Int32))} (h : f_X9_bytesOf_L5 N p0 x1 x2 σ = some st) (hk : sg_k3 (fun r => sg_Ri p l e R s m args below meth c Q P shC 332 A cX9_bytesOf (some .int) (r, σ)) (fun x => sg_Wt p l e R s m args below meth c Q P shC 332 A 3 5 σ [(0, .int p0), (1, .int x.1), (2, .int x.2)]) (fun y => sg_Wt p l e R s m args below meth c Q P shC 332 A 3 28 σ [(1, .int y)]) st) : W p l e R s m args below meth c H locs 0 0 Q (F0 m 5 ls []) := by
  unfold f_X9_bytesOf_L5 at h
  have hx := X.1.1
  have hb := X.1.2.1
  have hown := X.1.2.2.2.1
  have hts := X.1.2.2.2.2
  refine lv_iload_n hx hb dX9_bytesOf_5 rfl (lv_at hl 2 rfl) ?_
  refine lv_if_lt (tgt := 28) hx hb dX9_bytesOf_6 (by decide) (fun z => ?_) (fun z => ?_)
  · have h := sg_ift h z
    obtain rfl := Option.some.inj h
    exact sg_go hk I (lv_sub hl [1] rfl)
  · have h := sg_iff h z
    refine lv_iload_n hx hb dX9_bytesOf_9 rfl (lv_at hl 0 rfl) ?_
    refine lv_iload_n hx hb dX9_bytesOf_10 rfl (lv_at hl 2 rfl) ?_
    refine lv_iushr (v := sg_ushr p0 x2) hx hb dX9_bytesOf_11 rfl ?_
    refine lv_sipush (v := 255) hx hb dX9_bytesOf_12 (by decide) ?_
    refine lv_iand hx hb dX9_bytesOf_15 ?_
    refine lv_if_eq (tgt := 22) hx hb dX9_bytesOf_16 (by decide) (fun z => ?_) (fun z => ?_)
    · have h := sg_ift h z
      refine lv_iinc (v := x2 + (-8)) (lv' := [(2, .int (x2 + (-8))), (0, .int p0), (1, .int x1)]) hx hb dX9_bytesOf_22 hl (k := 2) rfl rfl (by decide) rfl (fun ls hl => ?_)
      refine lv_goto (tgt := 5) hx hb dX9_bytesOf_25 (by decide) ?_
      obtain rfl := Option.some.inj h
      exact sg_go hk I (lv_sub hl [1, 2, 0] rfl)
    · have h := sg_iff h z
      refine lv_iinc (v := x1 + 1) (lv' := [(1, .int (x1 + 1)), (0, .int p0), (2, .int x2)]) hx hb dX9_bytesOf_19 hl (k := 1) rfl rfl (by decide) rfl (fun ls hl => ?_)
      refine lv_iinc (v := x2 + (-8)) (lv' := [(2, .int (x2 + (-8))), (1, .int (x1 + 1)), (0, .int p0)]) hx hb dX9_bytesOf_22 hl (k := 2) rfl rfl (by decide) rfl (fun ls hl => ?_)
      refine lv_goto (tgt := 5) hx hb dX9_bytesOf_25 (by decide) ?_
      obtain rfl := Option.some.inj h
      exact sg_go hk I (lv_sub hl [2, 1, 0] rfl)
def f_X9_bytesOf (N : Nat) (p0 : Int32) (σ : sgS) : Option (Int32) :=
  sg_lb (sg_lp (fun x => f_X9_bytesOf_L5 N p0 x.1 x.2 σ) N ((0, 24))) (fun r => some r) fun y1 =>
some y1
set_option maxHeartbeats 4000000 in
set_option maxRecDepth 100000 in
theorem b_X9_bytesOf {p : Program} {l : Launch} {e : Env} {R : Room} {s : State} {m : MethodId} {args : Array Value} {below : List Frame} {meth : Method} {c : Code} {Q : State → Prop} {P : sgP} {A : Nat → Prop} {N : Nat} {p0 : Int32} {σ : sgS} (X : sg_C P A 1 p R s m args c cX9_bytesOf 3 RX9) {H : Heap} {locs : List Loc} (I : sg_I P shC 332 A s.heap σ H locs) {ls : Array Slot} (hl : lv_has ls 3 [(0, .int p0)]) {st : Int32} (h : f_X9_bytesOf N p0 σ = some st) (hk : sg_Ri p l e R s m args below meth c Q P shC 332 A cX9_bytesOf (some .int) (st, σ)) : W p l e R s m args below meth c H locs 0 0 Q (F0 m 0 ls []) := by
  unfold f_X9_bytesOf at h
  have hx := X.1.1
  have hb := X.1.2.1
  have hown := X.1.2.2.2.1
  have hts := X.1.2.2.2.2
  refine lv_iconst (v := 0) hx hb dX9_bytesOf_0 (by decide) ?_
  refine lv_istore_n (lv' := [(1, .int 0), (0, .int p0)]) hx hb dX9_bytesOf_1 rfl hl (by decide) rfl (fun ls hl => ?_)
  refine lv_bipush (v := 24) hx hb dX9_bytesOf_2 (by decide) ?_
  refine lv_istore_n (lv' := [(2, .int 24), (1, .int 0), (0, .int p0)]) hx hb dX9_bytesOf_4 rfl hl (by decide) rfl (fun ls hl => ?_)
  obtain ⟨res, e9, k9⟩ := sg_lb_some h
  refine sg_go (sg_lp_W (a := (fun r => sg_Ri p l e R s m args below meth c Q P shC 332 A cX9_bytesOf (some .int) (r, σ))) (w := (fun x => sg_Wt p l e R s m args below meth c Q P shC 332 A 3 5 σ [(0, .int p0), (1, .int x.1), (2, .int x.2)])) (c := (fun y => sg_Wt p l e R s m args below meth c Q P shC 332 A 3 28 σ [(1, .int y)])) (fun x st hb9 hk9 => ?_) N ((0, 24)) res e9 (sg_k2_mono k9 (fun r h => ?_) (fun y1 h => ?_))) I (lv_sub hl [2, 1, 0] rfl)
  · intro H locs ls I hl
    exact b_X9_bytesOf_L5 X I hl hb9 hk9
  · obtain rfl := Option.some.inj h
    exact hk
  · intro H locs ls I hl
    refine lv_iload_n hx hb dX9_bytesOf_28 rfl (lv_at hl 0 rfl) ?_
    obtain rfl := Option.some.inj h
    exact hk _ _ _ _ _ I ⟨_, rfl, rfl⟩ dX9_bytesOf_29
set_option maxHeartbeats 4000000 in
set_option maxRecDepth 100000 in
theorem c_X9_bytesOf {l : Launch} {P : sgP} {N : Nat} {p0 : Int32} {σ : sgS} {q : Int32} (h : f_X9_bytesOf N p0 σ = some q) : sg_Mi P shC 332 l yX9_bytesOf cX9_bytesOf 3 (some .int) 1 [.int p0] σ (q, σ) := by
  refine sg_mki (plainFor_of_name (by decide +kernel)) (Nat.le_of_ble_eq_true rfl) ?_
  intro p e R s m args below meth c Q A ls H locs X I hl hk
  exact b_X9_bytesOf X I hl h hk
def f_X9_append_L3 (N : Nat) (p1 : Int32) (x2 : Int32) (σ : sgS) : Option ((Int32 × sgS) ⊕ ((sgS × Int32) ⊕ (sgS))) :=
  if x2 < 0 then
  (some (.inr (.inr σ)))
else
  (if ((sg_ushr p1 x2) &&& 255) = 0 then
    (some (.inr (.inl (σ, x2 + (-8)))))
  else
    (if 240 ≤ (σ.1 1 1) then
      (some (.inr (.inl (σ, x2 + (-8)))))
    else
      (sg_st σ 2 240 (σ.1 1 1) ((sg_ushr p1 x2) &&& 255) fun s1 =>
      sg_pf s1 1 1 ((s1.1 1 1) + 1) fun s2 =>
      some (.inr (.inl (s2, x2 + (-8)))))))
set_option maxHeartbeats 4000000 in
set_option maxRecDepth 100000 in
theorem b_X9_append_L3 {p : Program} {l : Launch} {e : Env} {R : Room} {s : State} {m : MethodId} {args : Array Value} {below : List Frame} {meth : Method} {c : Code} {Q : State → Prop} {P : sgP} {A : Nat → Prop} {N : Nat} {p1 : Int32} {x2 : Int32} {σ : sgS} (X : sg_C P A 1 p R s m args c cX9_append 4 RX9) {H : Heap} {locs : List Loc} (I : sg_I P shC 332 A s.heap σ H locs) {ls : Array Slot} (hl : lv_has ls 4 [(0, .ref (sgA P 1)), (1, .int p1), (2, .int x2)]) {st : (Int32 × sgS) ⊕ ((sgS × Int32) ⊕ (sgS))} (h : f_X9_append_L3 N p1 x2 σ = some st) (hk : sg_k3 (sg_Rv p l e R s m args below meth c Q P shC 332 A cX9_append) (fun x => sg_Wt p l e R s m args below meth c Q P shC 332 A 4 3 x.1 [(0, .ref (sgA P 1)), (1, .int p1), (2, .int x.2)]) (fun y => sg_Wt p l e R s m args below meth c Q P shC 332 A 4 57 y []) st) : W p l e R s m args below meth c H locs 0 0 Q (F0 m 3 ls []) := by
  unfold f_X9_append_L3 at h
  have hx := X.1.1
  have hb := X.1.2.1
  have hown := X.1.2.2.2.1
  have hts := X.1.2.2.2.2
  refine lv_iload_n hx hb dX9_append_3 rfl (lv_at hl 2 rfl) ?_
  refine lv_if_lt (tgt := 57) hx hb dX9_append_4 (by decide) (fun z => ?_) (fun z => ?_)
  · have h := sg_ift h z
    obtain rfl := Option.some.inj h
    exact sg_go hk I (lv_sub hl [] rfl)
  · have h := sg_iff h z
    refine lv_iload_n hx hb dX9_append_7 rfl (lv_at hl 1 rfl) ?_
    refine lv_iload_n hx hb dX9_append_8 rfl (lv_at hl 2 rfl) ?_
    refine lv_iushr (v := sg_ushr p1 x2) hx hb dX9_append_9 rfl ?_
    refine lv_sipush (v := 255) hx hb dX9_append_10 (by decide) ?_
    refine lv_iand hx hb dX9_append_13 ?_
    refine lv_istore_n (lv' := [(3, .int ((sg_ushr p1 x2) &&& 255)), (0, .ref (sgA P 1)), (1, .int p1), (2, .int x2)]) hx hb dX9_append_14 rfl hl (by decide) rfl (fun ls hl => ?_)
    refine lv_iload_n hx hb dX9_append_15 rfl (lv_at hl 0 rfl) ?_
    refine lv_if_eq (tgt := 51) hx hb dX9_append_16 (by decide) (fun z => ?_) (fun z => ?_)
    · have h := sg_ift h z
      refine lv_iinc (v := x2 + (-8)) (lv' := [(2, .int (x2 + (-8))), (3, .int ((sg_ushr p1 x2) &&& 255)), (0, .ref (sgA P 1)), (1, .int p1)]) hx hb dX9_append_51 hl (k := 3) rfl rfl (by decide) rfl (fun ls hl => ?_)
      refine lv_goto (tgt := 3) hx hb dX9_append_54 (by decide) ?_
      obtain rfl := Option.some.inj h
      exact sg_go hk I (lv_sub hl [2, 3, 0] rfl)
    · have h := sg_iff h z
      refine lv_aload_n hx hb dX9_append_19 rfl (lv_at hl 1 rfl) ?_
      refine sg_geti X I fk_X9_15 (by decide) shC_1 rfl dX9_append_20 ?_
      refine lv_aload_n hx hb dX9_append_23 rfl (lv_at hl 1 rfl) ?_
      refine sg_getr X I fk_X9_9 (j := 2) (by decide) shC_1 rfl dX9_append_24 ?_
      refine sg_alen X I (v := 240) (by decide) shC_2 rfl dX9_append_27 ?_
      refine lv_icmp_ge (tgt := 51) hx hb dX9_append_28 (by decide) (fun z => ?_) (fun z => ?_)
      · have h := sg_ift h z
        refine lv_iinc (v := x2 + (-8)) (lv' := [(2, .int (x2 + (-8))), (3, .int ((sg_ushr p1 x2) &&& 255)), (0, .ref (sgA P 1)), (1, .int p1)]) hx hb dX9_append_51 hl (k := 3) rfl rfl (by decide) rfl (fun ls hl => ?_)
        refine lv_goto (tgt := 3) hx hb dX9_append_54 (by decide) ?_
        obtain rfl := Option.some.inj h
        exact sg_go hk I (lv_sub hl [2, 3, 0] rfl)
      · have h := sg_iff h z
        refine lv_aload_n hx hb dX9_append_31 rfl (lv_at hl 1 rfl) ?_
        refine sg_getr X I fk_X9_9 (j := 2) (by decide) shC_1 rfl dX9_append_32 ?_
        refine lv_aload_n hx hb dX9_append_35 rfl (lv_at hl 1 rfl) ?_
        refine sg_geti X I fk_X9_15 (by decide) shC_1 rfl dX9_append_36 ?_
        refine lv_iload_n hx hb dX9_append_39 rfl (lv_at hl 0 rfl) ?_
        refine sg_iast X I (by decide) shC_2 h dX9_append_40 (fun s1 H locs h I => ?_)
        refine lv_aload_n hx hb dX9_append_41 rfl (lv_at hl 1 rfl) ?_
        refine lv_dup hx hb dX9_append_42 rfl ?_
        refine sg_geti X I fk_X9_15 (by decide) shC_1 rfl dX9_append_43 ?_
        refine lv_iconst (v := 1) hx hb dX9_append_46 (by decide) ?_
        refine lv_iadd hx hb dX9_append_47 ?_
        refine sg_puti X I fk_X9_15 wk_9_1 rfl rfl (by decide) shC_1 rfl h dX9_append_48 (fun s2 H locs h I => ?_)
        refine lv_iinc (v := x2 + (-8)) (lv' := [(2, .int (x2 + (-8))), (3, .int ((sg_ushr p1 x2) &&& 255)), (0, .ref (sgA P 1)), (1, .int p1)]) hx hb dX9_append_51 hl (k := 3) rfl rfl (by decide) rfl (fun ls hl => ?_)
        refine lv_goto (tgt := 3) hx hb dX9_append_54 (by decide) ?_
        obtain rfl := Option.some.inj h
        exact sg_go hk I (lv_sub hl [2, 3, 0] rfl)
def f_X9_append (N : Nat) (p1 : Int32) (σ : sgS) : Option (Int32 × sgS) :=
  sg_lb (sg_lp (fun x => f_X9_append_L3 N p1 x.2 x.1) N ((σ, 24))) (fun r => some r) fun y3 =>
some (0, y3)
set_option maxHeartbeats 4000000 in
set_option maxRecDepth 100000 in
theorem b_X9_append {p : Program} {l : Launch} {e : Env} {R : Room} {s : State} {m : MethodId} {args : Array Value} {below : List Frame} {meth : Method} {c : Code} {Q : State → Prop} {P : sgP} {A : Nat → Prop} {N : Nat} {p1 : Int32} {σ : sgS} (X : sg_C P A 1 p R s m args c cX9_append 4 RX9) {H : Heap} {locs : List Loc} (I : sg_I P shC 332 A s.heap σ H locs) {ls : Array Slot} (hl : lv_has ls 4 [(0, .ref (sgA P 1)), (1, .int p1)]) {st : Int32 × sgS} (h : f_X9_append N p1 σ = some st) (hk : sg_Rv p l e R s m args below meth c Q P shC 332 A cX9_append st) : W p l e R s m args below meth c H locs 0 0 Q (F0 m 0 ls []) := by
  unfold f_X9_append at h
  have hx := X.1.1
  have hb := X.1.2.1
  have hown := X.1.2.2.2.1
  have hts := X.1.2.2.2.2
  refine lv_bipush (v := 24) hx hb dX9_append_0 (by decide) ?_
  refine lv_istore_n (lv' := [(2, .int 24), (0, .ref (sgA P 1)), (1, .int p1)]) hx hb dX9_append_2 rfl hl (by decide) rfl (fun ls hl => ?_)
  obtain ⟨res, e9, k9⟩ := sg_lb_some h
  refine sg_go (sg_lp_W (a := (sg_Rv p l e R s m args below meth c Q P shC 332 A cX9_append)) (w := (fun x => sg_Wt p l e R s m args below meth c Q P shC 332 A 4 3 x.1 [(0, .ref (sgA P 1)), (1, .int p1), (2, .int x.2)])) (c := (fun y => sg_Wt p l e R s m args below meth c Q P shC 332 A 4 57 y [])) (fun x st hb9 hk9 => ?_) N ((σ, 24)) res e9 (sg_k2_mono k9 (fun r h => ?_) (fun y3 h => ?_))) I (lv_sub hl [1, 2, 0] rfl)
  · intro H locs ls I hl
    exact b_X9_append_L3 X I hl hb9 hk9
  · obtain rfl := Option.some.inj h
    exact hk
  · intro H locs ls I hl
    obtain rfl := Option.some.inj h
    exact hk _ _ _ _ I dX9_append_57
set_option maxHeartbeats 4000000 in
set_option maxRecDepth 100000 in
theorem c_X9_append {l : Launch} {P : sgP} {N : Nat} {p1 : Int32} {σ : sgS} {q : Int32 × sgS} (h : f_X9_append N p1 σ = some q) : sg_Mv P shC 332 l yX9_append cX9_append 4 none 1 [.ref (sgA P 1), .int p1] σ q := by
  refine sg_mkv (plainFor_of_name (by decide +kernel)) (Nat.le_of_ble_eq_true rfl) ?_
  intro p e R s m args below meth c Q A ls H locs X I hl hk
  exact b_X9_append X I hl h hk
def f_X10_readFrom_L12 (N : Nat) (x2 : Int32) (σ : sgS) : Option ((Int32 × sgS) ⊕ ((sgS × Int32) ⊕ (sgS))) :=
  if 240 ≤ x2 then
  (some (.inr (.inr σ)))
else
  (sg_cl (f_X9_sign N σ) fun v3 s4 =>
  if v3 = ((-1)) then
    (if (s4.1 29 3) < 2 then
      (some (.inl (vp_nar .boolean 0, s4)))
    else
      (some (.inl (vp_nar .boolean 1, s4))))
  else
    (sg_cr (f_X9_isDigit N v3 s4) fun v5 =>
    if v5 = 0 then
      (some (.inl (vp_nar .boolean 0, s4)))
    else
      (if (s4.1 29 3) < 12 then
        (sg_st s4 36 12 (s4.1 29 3) (v3 - 48) fun s6 =>
        sg_pf s6 29 3 ((s6.1 29 3) + 1) fun s7 =>
        sg_pf s7 1 2 ((s7.1 1 2) + 1) fun s8 =>
        some (.inr (.inl (s8, x2 + 1))))
      else
        (some (.inl (vp_nar .boolean 0, s4))))))
set_option maxHeartbeats 4000000 in
set_option maxRecDepth 100000 in
theorem b_X10_readFrom_L12 {p : Program} {l : Launch} {e : Env} {R : Room} {s : State} {m : MethodId} {args : Array Value} {below : List Frame} {meth : Method} {c : Code} {Q : State → Prop} {P : sgP} {A : Nat → Prop} {N : Nat} {x2 : Int32} {σ : sgS} (X : sg_C P A 2 p R s m args c cX10_readFrom 4 RX10) {H : Heap} {locs : List Loc} (I : sg_I P shC 332 A s.heap σ H locs) {ls : Array Slot} (hl : lv_has ls 4 [(0, .ref (sgA P 29)), (1, .ref (sgA P 1)), (2, .int x2)]) {st : (Int32 × sgS) ⊕ ((sgS × Int32) ⊕ (sgS))} (h : f_X10_readFrom_L12 N x2 σ = some st) (hk : sg_k3 (sg_Ri p l e R s m args below meth c Q P shC 332 A cX10_readFrom (some .boolean)) (fun x => sg_Wt p l e R s m args below meth c Q P shC 332 A 4 12 x.1 [(0, .ref (sgA P 29)), (1, .ref (sgA P 1)), (2, .int x.2)]) (fun y => sg_Wt p l e R s m args below meth c Q P shC 332 A 4 100 y []) st) : W p l e R s m args below meth c H locs 0 0 Q (F0 m 12 ls []) := by
  unfold f_X10_readFrom_L12 at h
  have hx := X.1.1
  have hb := X.1.2.1
  have hown := X.1.2.2.2.1
  have hts := X.1.2.2.2.2
  refine lv_iload_n hx hb dX10_readFrom_12 rfl (lv_at hl 2 rfl) ?_
  refine lv_sipush (v := 240) hx hb dX10_readFrom_13 (by decide) ?_
  refine lv_icmp_ge (tgt := 100) hx hb dX10_readFrom_16 (by decide) (fun z => ?_) (fun z => ?_)
  · have h := sg_ift h z
    obtain rfl := Option.some.inj h
    exact sg_go hk I (lv_sub hl [] rfl)
  · have h := sg_iff h z
    refine lv_aload_n hx hb dX10_readFrom_19 rfl (lv_at hl 1 rfl) ?_
    refine sg_callV (As := []) X I mk_X10_32 (by decide) (by decide) shC_1 rfl (fun q9 e9 => c_X9_sign e9) h hl.1 rfl rfl (Nat.le_of_ble_eq_true rfl) dX10_readFrom_20 (fun v3 s4 H locs h I => ?_)
    refine lv_istore_n (lv' := [(3, .int v3), (0, .ref (sgA P 29)), (1, .ref (sgA P 1)), (2, .int x2)]) hx hb dX10_readFrom_23 rfl hl (by decide) rfl (fun ls hl => ?_)
    refine lv_iload_n hx hb dX10_readFrom_24 rfl (lv_at hl 0 rfl) ?_
    refine lv_iconst (v := -1) hx hb dX10_readFrom_25 (by decide) ?_
    refine lv_icmp_ne (tgt := 43) hx hb dX10_readFrom_26 (by decide) (fun z => ?_) (fun z => ?_)
    · have h := sg_iff h z
      refine lv_iload_n hx hb dX10_readFrom_43 rfl (lv_at hl 0 rfl) ?_
      refine sg_callSr (As := [.int v3]) X I mk_X10_36 (by decide) (fun q9 e9 => c_X9_isDigit e9) h hl.1 rfl rfl (Nat.le_of_ble_eq_true rfl) dX10_readFrom_44 (fun v5 H locs h I => ?_)
      refine lv_if_eq (tgt := 59) hx hb dX10_readFrom_47 (by decide) (fun z => ?_) (fun z => ?_)
      · have h := sg_ift h z
        refine lv_iconst (v := 0) hx hb dX10_readFrom_59 (by decide) ?_
        obtain rfl := Option.some.inj h
        exact hk _ _ _ _ _ I ⟨_, rfl, rfl⟩ dX10_readFrom_60
      · have h := sg_iff h z
        refine lv_aload_n hx hb dX10_readFrom_50 rfl (lv_at hl 1 rfl) ?_
        refine sg_geti X I fk_X10_29 (by decide) shC_29 rfl dX10_readFrom_51 ?_
        refine lv_bipush (v := 12) hx hb dX10_readFrom_54 (by decide) ?_
        refine lv_icmp_lt (tgt := 61) hx hb dX10_readFrom_56 (by decide) (fun z => ?_) (fun z => ?_)
        · have h := sg_ift h z
          refine lv_aload_n hx hb dX10_readFrom_61 rfl (lv_at hl 1 rfl) ?_
          refine sg_getr X I fk_X10_20 (j := 36) (by decide) shC_29 rfl dX10_readFrom_62 ?_
          refine lv_aload_n hx hb dX10_readFrom_65 rfl (lv_at hl 1 rfl) ?_
          refine sg_geti X I fk_X10_29 (by decide) shC_29 rfl dX10_readFrom_66 ?_
          refine lv_iload_n hx hb dX10_readFrom_69 rfl (lv_at hl 0 rfl) ?_
          refine lv_bipush (v := 48) hx hb dX10_readFrom_70 (by decide) ?_
          refine lv_isub hx hb dX10_readFrom_72 ?_
          refine sg_iast X I (by decide) shC_36 h dX10_readFrom_73 (fun s6 H locs h I => ?_)
          refine lv_aload_n hx hb dX10_readFrom_74 rfl (lv_at hl 1 rfl) ?_
          refine lv_dup hx hb dX10_readFrom_75 rfl ?_
          refine sg_geti X I fk_X10_29 (by decide) shC_29 rfl dX10_readFrom_76 ?_
          refine lv_iconst (v := 1) hx hb dX10_readFrom_79 (by decide) ?_
          refine lv_iadd hx hb dX10_readFrom_80 ?_
          refine sg_puti X I fk_X10_29 wk_10_3 rfl rfl (by decide) shC_29 rfl h dX10_readFrom_81 (fun s7 H locs h I => ?_)
          refine lv_aload_n hx hb dX10_readFrom_84 rfl (lv_at hl 2 rfl) ?_
          refine lv_dup hx hb dX10_readFrom_85 rfl ?_
          refine sg_getiN X I fn_X10_23 (by decide) shC_1 rfl dX10_readFrom_86 ?_
          refine lv_iconst (v := 1) hx hb dX10_readFrom_89 (by decide) ?_
          refine lv_iadd hx hb dX10_readFrom_90 ?_
          refine sg_putiN X I fn_X10_23 wk_9_2 rfl rfl (by decide) shC_1 rfl h dX10_readFrom_91 (fun s8 H locs h I => ?_)
          refine lv_iinc (v := x2 + 1) (lv' := [(2, .int (x2 + 1)), (3, .int v3), (0, .ref (sgA P 29)), (1, .ref (sgA P 1))]) hx hb dX10_readFrom_94 hl (k := 3) rfl rfl (by decide) rfl (fun ls hl => ?_)
          refine lv_goto (tgt := 12) hx hb dX10_readFrom_97 (by decide) ?_
          obtain rfl := Option.some.inj h
          exact sg_go hk I (lv_sub hl [2, 3, 0] rfl)
        · have h := sg_iff h z
          refine lv_iconst (v := 0) hx hb dX10_readFrom_59 (by decide) ?_
          obtain rfl := Option.some.inj h
          exact hk _ _ _ _ _ I ⟨_, rfl, rfl⟩ dX10_readFrom_60
    · have h := sg_ift h z
      refine lv_aload_n hx hb dX10_readFrom_29 rfl (lv_at hl 1 rfl) ?_
      refine sg_geti X I fk_X10_29 (by decide) shC_29 rfl dX10_readFrom_30 ?_
      refine lv_iconst (v := 2) hx hb dX10_readFrom_33 (by decide) ?_
      refine lv_icmp_lt (tgt := 41) hx hb dX10_readFrom_34 (by decide) (fun z => ?_) (fun z => ?_)
      · have h := sg_ift h z
        refine lv_iconst (v := 0) hx hb dX10_readFrom_41 (by decide) ?_
        obtain rfl := Option.some.inj h
        exact hk _ _ _ _ _ I ⟨_, rfl, rfl⟩ dX10_readFrom_42
      · have h := sg_iff h z
        refine lv_iconst (v := 1) hx hb dX10_readFrom_37 (by decide) ?_
        refine lv_goto (tgt := 42) hx hb dX10_readFrom_38 (by decide) ?_
        obtain rfl := Option.some.inj h
        exact hk _ _ _ _ _ I ⟨_, rfl, rfl⟩ dX10_readFrom_42
def f_X10_readFrom (N : Nat) (σ : sgS) : Option (Int32 × sgS) :=
  sg_pf σ 1 2 0 fun s1 =>
sg_pf s1 29 3 0 fun s2 =>
sg_lb (sg_lp (fun x => f_X10_readFrom_L12 N x.2 x.1) N ((s2, 0))) (fun r => some r) fun y9 =>
some (vp_nar .boolean 0, y9)
set_option maxHeartbeats 4000000 in
set_option maxRecDepth 100000 in
theorem b_X10_readFrom {p : Program} {l : Launch} {e : Env} {R : Room} {s : State} {m : MethodId} {args : Array Value} {below : List Frame} {meth : Method} {c : Code} {Q : State → Prop} {P : sgP} {A : Nat → Prop} {N : Nat} {σ : sgS} (X : sg_C P A 2 p R s m args c cX10_readFrom 4 RX10) {H : Heap} {locs : List Loc} (I : sg_I P shC 332 A s.heap σ H locs) {ls : Array Slot} (hl : lv_has ls 4 [(0, .ref (sgA P 29)), (1, .ref (sgA P 1))]) {st : Int32 × sgS} (h : f_X10_readFrom N σ = some st) (hk : sg_Ri p l e R s m args below meth c Q P shC 332 A cX10_readFrom (some .boolean) st) : W p l e R s m args below meth c H locs 0 0 Q (F0 m 0 ls []) := by
  unfold f_X10_readFrom at h
  have hx := X.1.1
  have hb := X.1.2.1
  have hown := X.1.2.2.2.1
  have hts := X.1.2.2.2.2
  refine lv_aload_n hx hb dX10_readFrom_0 rfl (lv_at hl 1 rfl) ?_
  refine lv_iconst (v := 0) hx hb dX10_readFrom_1 (by decide) ?_
  refine sg_putiN X I fn_X10_23 wk_9_2 rfl rfl (by decide) shC_1 rfl h dX10_readFrom_2 (fun s1 H locs h I => ?_)
  refine lv_aload_n hx hb dX10_readFrom_5 rfl (lv_at hl 0 rfl) ?_
  refine lv_iconst (v := 0) hx hb dX10_readFrom_6 (by decide) ?_
  refine sg_puti X I fk_X10_29 wk_10_3 rfl rfl (by decide) shC_29 rfl h dX10_readFrom_7 (fun s2 H locs h I => ?_)
  refine lv_iconst (v := 0) hx hb dX10_readFrom_10 (by decide) ?_
  refine lv_istore_n (lv' := [(2, .int 0), (0, .ref (sgA P 29)), (1, .ref (sgA P 1))]) hx hb dX10_readFrom_11 rfl hl (by decide) rfl (fun ls hl => ?_)
  obtain ⟨res, e9, k9⟩ := sg_lb_some h
  refine sg_go (sg_lp_W (a := (sg_Ri p l e R s m args below meth c Q P shC 332 A cX10_readFrom (some .boolean))) (w := (fun x => sg_Wt p l e R s m args below meth c Q P shC 332 A 4 12 x.1 [(0, .ref (sgA P 29)), (1, .ref (sgA P 1)), (2, .int x.2)])) (c := (fun y => sg_Wt p l e R s m args below meth c Q P shC 332 A 4 100 y [])) (fun x st hb9 hk9 => ?_) N ((s2, 0)) res e9 (sg_k2_mono k9 (fun r h => ?_) (fun y9 h => ?_))) I (lv_sub hl [1, 2, 0] rfl)
  · intro H locs ls I hl
    exact b_X10_readFrom_L12 X I hl hb9 hk9
  · obtain rfl := Option.some.inj h
    exact hk
  · intro H locs ls I hl
    refine lv_iconst (v := 0) hx hb dX10_readFrom_100 (by decide) ?_
    obtain rfl := Option.some.inj h
    exact hk _ _ _ _ _ I ⟨_, rfl, rfl⟩ dX10_readFrom_101
set_option maxHeartbeats 4000000 in
set_option maxRecDepth 100000 in
theorem c_X10_readFrom {l : Launch} {P : sgP} {N : Nat} {σ : sgS} {q : Int32 × sgS} (h : f_X10_readFrom N σ = some q) : sg_Mi P shC 332 l yX10_readFrom cX10_readFrom 4 (some .boolean) 2 [.ref (sgA P 29), .ref (sgA P 1)] σ q := by
  refine sg_mki (plainFor_of_name (by decide +kernel)) (Nat.le_of_ble_eq_true rfl) ?_
  intro p e R s m args below meth c Q A ls H locs X I hl hk
  exact b_X10_readFrom X I hl h hk
def f_X10_keep (N : Nat) (σ : sgS) : Option (Int32 × sgS) :=
  if (σ.1 29 4) < 4 then
  (sg_rf 4 (σ.1 29 4) fun j2 =>
  sg_cp σ 36 12 (31 + j2) 12 0 0 12 fun s3 =>
  sg_st s3 35 4 (s3.1 29 4) (s3.1 29 3) fun s4 =>
  sg_pf s4 29 4 ((s4.1 29 4) + 1) fun s5 =>
  some ((s5.1 29 4) - 1, s5))
else
  (some ((-1), σ))
set_option maxHeartbeats 4000000 in
set_option maxRecDepth 100000 in
theorem b_X10_keep {p : Program} {l : Launch} {e : Env} {R : Room} {s : State} {m : MethodId} {args : Array Value} {below : List Frame} {meth : Method} {c : Code} {Q : State → Prop} {P : sgP} {A : Nat → Prop} {N : Nat} {σ : sgS} (X : sg_C P A 2 p R s m args c cX10_keep 1 RX10) {H : Heap} {locs : List Loc} (I : sg_I P shC 332 A s.heap σ H locs) {ls : Array Slot} (hl : lv_has ls 1 [(0, .ref (sgA P 29))]) {st : Int32 × sgS} (h : f_X10_keep N σ = some st) (hk : sg_Ri p l e R s m args below meth c Q P shC 332 A cX10_keep (some .int) st) : W p l e R s m args below meth c H locs 0 0 Q (F0 m 0 ls []) := by
  unfold f_X10_keep at h
  have hx := X.1.1
  have hb := X.1.2.1
  have hown := X.1.2.2.2.1
  have hts := X.1.2.2.2.2
  refine lv_aload_n hx hb dX10_keep_0 rfl (lv_at hl 0 rfl) ?_
  refine sg_geti X I fk_X10_40 (by decide) shC_29 rfl dX10_keep_1 ?_
  refine lv_iconst (v := 4) hx hb dX10_keep_4 (by decide) ?_
  refine lv_icmp_lt (tgt := 10) hx hb dX10_keep_5 (by decide) (fun z => ?_) (fun z => ?_)
  · have h := sg_ift h z
    refine lv_aload_n hx hb dX10_keep_10 rfl (lv_at hl 0 rfl) ?_
    refine sg_getr X I fk_X10_20 (j := 36) (by decide) shC_29 rfl dX10_keep_11 ?_
    refine lv_iconst (v := 0) hx hb dX10_keep_14 (by decide) ?_
    refine lv_aload_n hx hb dX10_keep_15 rfl (lv_at hl 0 rfl) ?_
    refine sg_getr X I fk_X10_11 (j := 30) (by decide) shC_29 rfl dX10_keep_16 ?_
    refine lv_aload_n hx hb dX10_keep_19 rfl (lv_at hl 0 rfl) ?_
    refine sg_geti X I fk_X10_40 (by decide) shC_29 rfl dX10_keep_20 ?_
    refine sg_aalda X I (by decide) shC_30 (r := fun k => 31 + k) (fun _ _ => rfl) h dX10_keep_23 (fun j2 hj2 h => ?_)
    refine lv_iconst (v := 0) hx hb dX10_keep_24 (by decide) ?_
    refine lv_bipush (v := 12) hx hb dX10_keep_25 (by decide) ?_
    refine sg_copy X I hl.1 (by first | decide | omega) qw_630 ⟨qw_622, qw_623, qw_624⟩ (by decide) (shC_30i hj2) shC_36 (shC_30s hj2) h (Nat.le_of_ble_eq_true rfl) dX10_keep_27 (fun s3 H locs h I => ?_)
    refine lv_aload_n hx hb dX10_keep_30 rfl (lv_at hl 0 rfl) ?_
    refine sg_getr X I fk_X10_16 (j := 35) (by decide) shC_29 rfl dX10_keep_31 ?_
    refine lv_aload_n hx hb dX10_keep_34 rfl (lv_at hl 0 rfl) ?_
    refine sg_geti X I fk_X10_40 (by decide) shC_29 rfl dX10_keep_35 ?_
    refine lv_aload_n hx hb dX10_keep_38 rfl (lv_at hl 0 rfl) ?_
    refine sg_geti X I fk_X10_29 (by decide) shC_29 rfl dX10_keep_39 ?_
    refine sg_iast X I (by decide) shC_35 h dX10_keep_42 (fun s4 H locs h I => ?_)
    refine lv_aload_n hx hb dX10_keep_43 rfl (lv_at hl 0 rfl) ?_
    refine lv_dup hx hb dX10_keep_44 rfl ?_
    refine sg_geti X I fk_X10_40 (by decide) shC_29 rfl dX10_keep_45 ?_
    refine lv_iconst (v := 1) hx hb dX10_keep_48 (by decide) ?_
    refine lv_iadd hx hb dX10_keep_49 ?_
    refine sg_puti X I fk_X10_40 wk_10_4 rfl rfl (by decide) shC_29 rfl h dX10_keep_50 (fun s5 H locs h I => ?_)
    refine lv_aload_n hx hb dX10_keep_53 rfl (lv_at hl 0 rfl) ?_
    refine sg_geti X I fk_X10_40 (by decide) shC_29 rfl dX10_keep_54 ?_
    refine lv_iconst (v := 1) hx hb dX10_keep_57 (by decide) ?_
    refine lv_isub hx hb dX10_keep_58 ?_
    obtain rfl := Option.some.inj h
    exact hk _ _ _ _ _ I ⟨_, rfl, rfl⟩ dX10_keep_59
  · have h := sg_iff h z
    refine lv_iconst (v := -1) hx hb dX10_keep_8 (by decide) ?_
    obtain rfl := Option.some.inj h
    exact hk _ _ _ _ _ I ⟨_, rfl, rfl⟩ dX10_keep_9
set_option maxHeartbeats 4000000 in
set_option maxRecDepth 100000 in
theorem c_X10_keep {l : Launch} {P : sgP} {N : Nat} {σ : sgS} {q : Int32 × sgS} (h : f_X10_keep N σ = some q) : sg_Mi P shC 332 l yX10_keep cX10_keep 1 (some .int) 2 [.ref (sgA P 29)] σ q := by
  refine sg_mki (plainFor_of_name (by decide +kernel)) (Nat.le_of_ble_eq_true rfl) ?_
  intro p e R s m args below meth c Q A ls H locs X I hl hk
  exact b_X10_keep X I hl h hk
def f_X11_feed (N : Nat) (p1 : Int32) (p2 : Int32) (p3 : Int32) (p4 : Int32) (p5 : Int32) (σ : sgS) : Option (Int32 × sgS) :=
  sg_cr (f_X9_bytesOf N p1 σ) fun v1 =>
sg_cr (f_X9_bytesOf N p2 σ) fun v2 =>
sg_cr (f_X9_bytesOf N p3 σ) fun v3 =>
sg_cr (f_X9_bytesOf N p4 σ) fun v4 =>
sg_cr (f_X9_bytesOf N p5 σ) fun v5 =>
if ((σ.1 1 1) + ((((v1 + v2) + v3) + v4) + v5)) ≤ 240 then
  (sg_cl (f_X9_append N p1 σ) fun v6 s7 =>
  sg_cl (f_X9_append N p2 s7) fun v8 s9 =>
  sg_cl (f_X9_append N p3 s9) fun v10 s11 =>
  sg_cl (f_X9_append N p4 s11) fun v12 s13 =>
  sg_cl (f_X9_append N p5 s13) fun v14 s15 =>
  some (s15.1 1 1, s15))
else
  (some ((-1), σ))
set_option maxHeartbeats 4000000 in
set_option maxRecDepth 100000 in
theorem b_X11_feed {p : Program} {l : Launch} {e : Env} {R : Room} {s : State} {m : MethodId} {args : Array Value} {below : List Frame} {meth : Method} {c : Code} {Q : State → Prop} {P : sgP} {A : Nat → Prop} {N : Nat} {p1 : Int32} {p2 : Int32} {p3 : Int32} {p4 : Int32} {p5 : Int32} {σ : sgS} (X : sg_C P A 2 p R s m args c cX11_feed 7 RX11) {H : Heap} {locs : List Loc} (I : sg_I P shC 332 A s.heap σ H locs) {ls : Array Slot} (hl : lv_has ls 7 [(0, .ref (sgA P 0)), (1, .int p1), (2, .int p2), (3, .int p3), (4, .int p4), (5, .int p5)]) {st : Int32 × sgS} (h : f_X11_feed N p1 p2 p3 p4 p5 σ = some st) (hk : sg_Ri p l e R s m args below meth c Q P shC 332 A cX11_feed (some .int) st) : W p l e R s m args below meth c H locs 0 0 Q (F0 m 0 ls []) := by
  unfold f_X11_feed at h
  have hx := X.1.1
  have hb := X.1.2.1
  have hown := X.1.2.2.2.1
  have hts := X.1.2.2.2.2
  refine lv_iload_n hx hb dX11_feed_0 rfl (lv_at hl 1 rfl) ?_
  refine sg_callSr (As := [.int p1]) X I mk_X11_110 (by decide) (fun q9 e9 => c_X9_bytesOf e9) h hl.1 rfl rfl (Nat.le_of_ble_eq_true rfl) dX11_feed_1 (fun v1 H locs h I => ?_)
  refine lv_iload_n hx hb dX11_feed_4 rfl (lv_at hl 2 rfl) ?_
  refine sg_callSr (As := [.int p2]) X I mk_X11_110 (by decide) (fun q9 e9 => c_X9_bytesOf e9) h hl.1 rfl rfl (Nat.le_of_ble_eq_true rfl) dX11_feed_5 (fun v2 H locs h I => ?_)
  refine lv_iadd hx hb dX11_feed_8 ?_
  refine lv_iload_n hx hb dX11_feed_9 rfl (lv_at hl 3 rfl) ?_
  refine sg_callSr (As := [.int p3]) X I mk_X11_110 (by decide) (fun q9 e9 => c_X9_bytesOf e9) h hl.1 rfl rfl (Nat.le_of_ble_eq_true rfl) dX11_feed_10 (fun v3 H locs h I => ?_)
  refine lv_iadd hx hb dX11_feed_13 ?_
  refine lv_iload hx hb dX11_feed_14 (lv_at hl 4 rfl) ?_
  refine sg_callSr (As := [.int p4]) X I mk_X11_110 (by decide) (fun q9 e9 => c_X9_bytesOf e9) h hl.1 rfl rfl (Nat.le_of_ble_eq_true rfl) dX11_feed_16 (fun v4 H locs h I => ?_)
  refine lv_iadd hx hb dX11_feed_19 ?_
  refine lv_iload hx hb dX11_feed_20 (lv_at hl 5 rfl) ?_
  refine sg_callSr (As := [.int p5]) X I mk_X11_110 (by decide) (fun q9 e9 => c_X9_bytesOf e9) h hl.1 rfl rfl (Nat.le_of_ble_eq_true rfl) dX11_feed_22 (fun v5 H locs h I => ?_)
  refine lv_iadd hx hb dX11_feed_25 ?_
  refine lv_istore (lv' := [(6, .int ((((v1 + v2) + v3) + v4) + v5)), (0, .ref (sgA P 0)), (1, .int p1), (2, .int p2), (3, .int p3), (4, .int p4), (5, .int p5)]) hx hb dX11_feed_26 hl (by decide) rfl (fun ls hl => ?_)
  refine lv_aload_n hx hb dX11_feed_28 rfl (lv_at hl 1 rfl) ?_
  refine sg_getr X I fk_X11_10 (j := 1) (by decide) shC_0 rfl dX11_feed_29 ?_
  refine sg_getiN X I fn_X11_114 (by decide) shC_1 rfl dX11_feed_32 ?_
  refine lv_iload hx hb dX11_feed_35 (lv_at hl 0 rfl) ?_
  refine lv_iadd hx hb dX11_feed_37 ?_
  refine lv_sipush (v := 240) hx hb dX11_feed_38 (by decide) ?_
  refine lv_icmp_le (tgt := 46) hx hb dX11_feed_41 (by decide) (fun z => ?_) (fun z => ?_)
  · have h := sg_ift h z
    refine lv_aload_n hx hb dX11_feed_46 rfl (lv_at hl 1 rfl) ?_
    refine sg_getr X I fk_X11_10 (j := 1) (by decide) shC_0 rfl dX11_feed_47 ?_
    refine lv_iload_n hx hb dX11_feed_50 rfl (lv_at hl 2 rfl) ?_
    refine sg_callVv (As := [.int p1]) X I mk_X11_117 (by decide) (by decide) shC_1 rfl (fun q9 e9 => c_X9_append e9) h hl.1 rfl rfl (Nat.le_of_ble_eq_true rfl) dX11_feed_51 (fun v6 s7 H locs h I => ?_)
    refine lv_aload_n hx hb dX11_feed_54 rfl (lv_at hl 1 rfl) ?_
    refine sg_getr X I fk_X11_10 (j := 1) (by decide) shC_0 rfl dX11_feed_55 ?_
    refine lv_iload_n hx hb dX11_feed_58 rfl (lv_at hl 3 rfl) ?_
    refine sg_callVv (As := [.int p2]) X I mk_X11_117 (by decide) (by decide) shC_1 rfl (fun q9 e9 => c_X9_append e9) h hl.1 rfl rfl (Nat.le_of_ble_eq_true rfl) dX11_feed_59 (fun v8 s9 H locs h I => ?_)
    refine lv_aload_n hx hb dX11_feed_62 rfl (lv_at hl 1 rfl) ?_
    refine sg_getr X I fk_X11_10 (j := 1) (by decide) shC_0 rfl dX11_feed_63 ?_
    refine lv_iload_n hx hb dX11_feed_66 rfl (lv_at hl 4 rfl) ?_
    refine sg_callVv (As := [.int p3]) X I mk_X11_117 (by decide) (by decide) shC_1 rfl (fun q9 e9 => c_X9_append e9) h hl.1 rfl rfl (Nat.le_of_ble_eq_true rfl) dX11_feed_67 (fun v10 s11 H locs h I => ?_)
    refine lv_aload_n hx hb dX11_feed_70 rfl (lv_at hl 1 rfl) ?_
    refine sg_getr X I fk_X11_10 (j := 1) (by decide) shC_0 rfl dX11_feed_71 ?_
    refine lv_iload hx hb dX11_feed_74 (lv_at hl 5 rfl) ?_
    refine sg_callVv (As := [.int p4]) X I mk_X11_117 (by decide) (by decide) shC_1 rfl (fun q9 e9 => c_X9_append e9) h hl.1 rfl rfl (Nat.le_of_ble_eq_true rfl) dX11_feed_76 (fun v12 s13 H locs h I => ?_)
    refine lv_aload_n hx hb dX11_feed_79 rfl (lv_at hl 1 rfl) ?_
    refine sg_getr X I fk_X11_10 (j := 1) (by decide) shC_0 rfl dX11_feed_80 ?_
    refine lv_iload hx hb dX11_feed_83 (lv_at hl 6 rfl) ?_
    refine sg_callVv (As := [.int p5]) X I mk_X11_117 (by decide) (by decide) shC_1 rfl (fun q9 e9 => c_X9_append e9) h hl.1 rfl rfl (Nat.le_of_ble_eq_true rfl) dX11_feed_85 (fun v14 s15 H locs h I => ?_)
    refine lv_aload_n hx hb dX11_feed_88 rfl (lv_at hl 1 rfl) ?_
    refine sg_getr X I fk_X11_10 (j := 1) (by decide) shC_0 rfl dX11_feed_89 ?_
    refine sg_getiN X I fn_X11_114 (by decide) shC_1 rfl dX11_feed_92 ?_
    obtain rfl := Option.some.inj h
    exact hk _ _ _ _ _ I ⟨_, rfl, rfl⟩ dX11_feed_95
  · have h := sg_iff h z
    refine lv_iconst (v := -1) hx hb dX11_feed_44 (by decide) ?_
    obtain rfl := Option.some.inj h
    exact hk _ _ _ _ _ I ⟨_, rfl, rfl⟩ dX11_feed_45
set_option maxHeartbeats 4000000 in
set_option maxRecDepth 100000 in
theorem c_X11_feed {l : Launch} {P : sgP} {N : Nat} {p1 : Int32} {p2 : Int32} {p3 : Int32} {p4 : Int32} {p5 : Int32} {σ : sgS} {q : Int32 × sgS} (h : f_X11_feed N p1 p2 p3 p4 p5 σ = some q) : sg_Mi P shC 332 l yX11_feed cX11_feed 7 (some .int) 2 [.ref (sgA P 0), .int p1, .int p2, .int p3, .int p4, .int p5] σ q := by
  refine sg_mki (plainFor_of_name (by decide +kernel)) (Nat.le_of_ble_eq_true rfl) ?_
  intro p e R s m args below meth c Q A ls H locs X I hl hk
  exact b_X11_feed X I hl h hk
def f_X11_end (N : Nat) (p1 : Int32) (σ : sgS) : Option (Int32 × sgS) :=
  if p1 < 0 then
  (some (vp_nar .boolean 0, σ))
else
  (if p1 ≤ (σ.1 1 1) then
    (sg_pf σ 1 1 p1 fun s1 =>
    some (vp_nar .boolean 1, s1))
  else
    (some (vp_nar .boolean 0, σ)))
set_option maxHeartbeats 4000000 in
set_option maxRecDepth 100000 in
theorem b_X11_end {p : Program} {l : Launch} {e : Env} {R : Room} {s : State} {m : MethodId} {args : Array Value} {below : List Frame} {meth : Method} {c : Code} {Q : State → Prop} {P : sgP} {A : Nat → Prop} {N : Nat} {p1 : Int32} {σ : sgS} (X : sg_C P A 1 p R s m args c cX11_end 2 RX11) {H : Heap} {locs : List Loc} (I : sg_I P shC 332 A s.heap σ H locs) {ls : Array Slot} (hl : lv_has ls 2 [(0, .ref (sgA P 0)), (1, .int p1)]) {st : Int32 × sgS} (h : f_X11_end N p1 σ = some st) (hk : sg_Ri p l e R s m args below meth c Q P shC 332 A cX11_end (some .boolean) st) : W p l e R s m args below meth c H locs 0 0 Q (F0 m 0 ls []) := by
  unfold f_X11_end at h
  have hx := X.1.1
  have hb := X.1.2.1
  have hown := X.1.2.2.2.1
  have hts := X.1.2.2.2.2
  refine lv_iload_n hx hb dX11_end_0 rfl (lv_at hl 1 rfl) ?_
  refine lv_if_lt (tgt := 15) hx hb dX11_end_1 (by decide) (fun z => ?_) (fun z => ?_)
  · have h := sg_ift h z
    refine lv_iconst (v := 0) hx hb dX11_end_15 (by decide) ?_
    obtain rfl := Option.some.inj h
    exact hk _ _ _ _ _ I ⟨_, rfl, rfl⟩ dX11_end_16
  · have h := sg_iff h z
    refine lv_iload_n hx hb dX11_end_4 rfl (lv_at hl 1 rfl) ?_
    refine lv_aload_n hx hb dX11_end_5 rfl (lv_at hl 0 rfl) ?_
    refine sg_getr X I fk_X11_10 (j := 1) (by decide) shC_0 rfl dX11_end_6 ?_
    refine sg_getiN X I fn_X11_114 (by decide) shC_1 rfl dX11_end_9 ?_
    refine lv_icmp_le (tgt := 17) hx hb dX11_end_12 (by decide) (fun z => ?_) (fun z => ?_)
    · have h := sg_ift h z
      refine lv_aload_n hx hb dX11_end_17 rfl (lv_at hl 0 rfl) ?_
      refine sg_getr X I fk_X11_10 (j := 1) (by decide) shC_0 rfl dX11_end_18 ?_
      refine lv_iload_n hx hb dX11_end_21 rfl (lv_at hl 1 rfl) ?_
      refine sg_putiN X I fn_X11_114 wk_9_1 rfl rfl (by decide) shC_1 rfl h dX11_end_22 (fun s1 H locs h I => ?_)
      refine lv_iconst (v := 1) hx hb dX11_end_25 (by decide) ?_
      obtain rfl := Option.some.inj h
      exact hk _ _ _ _ _ I ⟨_, rfl, rfl⟩ dX11_end_26
    · have h := sg_iff h z
      refine lv_iconst (v := 0) hx hb dX11_end_15 (by decide) ?_
      obtain rfl := Option.some.inj h
      exact hk _ _ _ _ _ I ⟨_, rfl, rfl⟩ dX11_end_16
set_option maxHeartbeats 4000000 in
set_option maxRecDepth 100000 in
theorem c_X11_end {l : Launch} {P : sgP} {N : Nat} {p1 : Int32} {σ : sgS} {q : Int32 × sgS} (h : f_X11_end N p1 σ = some q) : sg_Mi P shC 332 l yX11_end cX11_end 2 (some .boolean) 1 [.ref (sgA P 0), .int p1] σ q := by
  refine sg_mki (plainFor_of_name (by decide +kernel)) (Nat.le_of_ble_eq_true rfl) ?_
  intro p e R s m args below meth c Q A ls H locs X I hl hk
  exact b_X11_end X I hl h hk
def f_X11_reads (N : Nat) (p1 : Int32) (σ : sgS) : Option (Int32 × sgS) :=
  if p1 = 0 then
  (sg_cl (f_X0_readFrom N 11 σ) fun v1 s2 =>
  some (vp_nar .boolean v1, s2))
else
  (if p1 = 1 then
    (sg_cl (f_X3_readLaw N σ) fun v3 s4 =>
    some (vp_nar .boolean v3, s4))
  else
    (if p1 = 2 then
      (sg_cl (f_X10_readFrom N σ) fun v5 s6 =>
      some (vp_nar .boolean v5, s6))
    else
      (some (vp_nar .boolean 0, σ))))
set_option maxHeartbeats 4000000 in
set_option maxRecDepth 100000 in
theorem b_X11_reads {p : Program} {l : Launch} {e : Env} {R : Room} {s : State} {m : MethodId} {args : Array Value} {below : List Frame} {meth : Method} {c : Code} {Q : State → Prop} {P : sgP} {A : Nat → Prop} {N : Nat} {p1 : Int32} {σ : sgS} (X : sg_C P A 293 p R s m args c cX11_reads 2 RX11) {H : Heap} {locs : List Loc} (I : sg_I P shC 332 A s.heap σ H locs) {ls : Array Slot} (hl : lv_has ls 2 [(0, .ref (sgA P 0)), (1, .int p1)]) {st : Int32 × sgS} (h : f_X11_reads N p1 σ = some st) (hk : sg_Ri p l e R s m args below meth c Q P shC 332 A cX11_reads (some .boolean) st) : W p l e R s m args below meth c H locs 0 0 Q (F0 m 0 ls []) := by
  unfold f_X11_reads at h
  have hx := X.1.1
  have hb := X.1.2.1
  have hown := X.1.2.2.2.1
  have hts := X.1.2.2.2.2
  refine lv_iload_n hx hb dX11_reads_0 rfl (lv_at hl 1 rfl) ?_
  by_cases c0 : p1 = 0
  · have h := sg_ift h c0
    refine sg_swIn (k := 0) (off := 27) (tgt := 28) hx hb dX11_reads_1 c0 (by decide) (by decide) (by decide +kernel) (by decide) ?_
    refine lv_aload_n hx hb dX11_reads_28 rfl (lv_at hl 0 rfl) ?_
    refine sg_getr X I fk_X11_23 (j := 11) (by decide) shC_0 rfl dX11_reads_29 ?_
    refine lv_aload_n hx hb dX11_reads_32 rfl (lv_at hl 0 rfl) ?_
    refine sg_getr X I fk_X11_10 (j := 1) (by decide) shC_0 rfl dX11_reads_33 ?_
    refine sg_callV (As := [.ref (sgA P 1)]) X I mk_X11_128 (by decide) (by decide) shC_11 rfl (fun q9 e9 => c_X0_readFrom isCo_11 e9) h hl.1 rfl rfl (Nat.le_of_ble_eq_true rfl) dX11_reads_36 (fun v1 s2 H locs h I => ?_)
    obtain rfl := Option.some.inj h
    exact hk _ _ _ _ _ I ⟨_, rfl, rfl⟩ dX11_reads_39
  have h := sg_iff h c0
  have i0 := sg_ine (z := 0) (by decide) c0
  by_cases c1 : p1 = 1
  · have h := sg_ift h c1
    refine sg_swIn (k := 1) (off := 39) (tgt := 40) hx hb dX11_reads_1 c1 (by decide) (by decide) (by decide +kernel) (by decide) ?_
    refine lv_aload_n hx hb dX11_reads_40 rfl (lv_at hl 0 rfl) ?_
    refine sg_getr X I fk_X11_31 (j := 19) (by decide) shC_0 rfl dX11_reads_41 ?_
    refine sg_callV (As := []) X I mk_X11_132 (by decide) (by decide) shC_19 rfl (fun q9 e9 => c_X3_readLaw e9) h hl.1 rfl rfl (Nat.le_of_ble_eq_true rfl) dX11_reads_44 (fun v3 s4 H locs h I => ?_)
    obtain rfl := Option.some.inj h
    exact hk _ _ _ _ _ I ⟨_, rfl, rfl⟩ dX11_reads_47
  have h := sg_iff h c1
  have i1 := sg_ine (z := 1) (by decide) c1
  by_cases c2 : p1 = 2
  · have h := sg_ift h c2
    refine sg_swIn (k := 2) (off := 47) (tgt := 48) hx hb dX11_reads_1 c2 (by decide) (by decide) (by decide +kernel) (by decide) ?_
    refine lv_aload_n hx hb dX11_reads_48 rfl (lv_at hl 0 rfl) ?_
    refine sg_getr X I fk_X11_45 (j := 29) (by decide) shC_0 rfl dX11_reads_49 ?_
    refine lv_aload_n hx hb dX11_reads_52 rfl (lv_at hl 0 rfl) ?_
    refine sg_getr X I fk_X11_10 (j := 1) (by decide) shC_0 rfl dX11_reads_53 ?_
    refine sg_callV (As := [.ref (sgA P 1)]) X I mk_X11_136 (by decide) (by decide) shC_29 rfl (fun q9 e9 => c_X10_readFrom e9) h hl.1 rfl rfl (Nat.le_of_ble_eq_true rfl) dX11_reads_56 (fun v5 s6 H locs h I => ?_)
    obtain rfl := Option.some.inj h
    exact hk _ _ _ _ _ I ⟨_, rfl, rfl⟩ dX11_reads_59
  have h := sg_iff h c2
  have i2 := sg_ine (z := 2) (by decide) c2
  refine lv_tableOut (tgt := 60) hx hb dX11_reads_1 (by omega) (by decide) ?_
  refine lv_iconst (v := 0) hx hb dX11_reads_60 (by decide) ?_
  obtain rfl := Option.some.inj h
  exact hk _ _ _ _ _ I ⟨_, rfl, rfl⟩ dX11_reads_61
set_option maxHeartbeats 4000000 in
set_option maxRecDepth 100000 in
theorem c_X11_reads {l : Launch} {P : sgP} {N : Nat} {p1 : Int32} {σ : sgS} {q : Int32 × sgS} (h : f_X11_reads N p1 σ = some q) : sg_Mi P shC 332 l yX11_reads cX11_reads 2 (some .boolean) 293 [.ref (sgA P 0), .int p1] σ q := by
  refine sg_mki (plainFor_of_name (by decide +kernel)) (Nat.le_of_ble_eq_true rfl) ?_
  intro p e R s m args below meth c Q A ls H locs X I hl hk
  exact b_X11_reads X I hl h hk
