def f_J0_coder_7d493 (N : Nat) (i : Nat) (σ : sgS) : Option (Int32) :=
  if (1 : Int32) = 0 then
  (some (vp_nar .byte 1))
else
  (some (vp_nar .byte 0))
set_option maxHeartbeats 4000000 in
set_option maxRecDepth 100000 in
theorem b_J0_coder_7d493 {p : Program} {l : Launch} {e : Env} {R : Room} {s : State} {m : MethodId} {args : Array Value} {below : List Frame} {meth : Method} {c : Code} {Q : State → Prop} {P : sgP} {A : Nat → Prop} {sh : Nat → sgE} {n : Nat} {N : Nat} {i : Nat} {σ : sgS} (X : sg_C P A 1 p R s m args c cJ0_coder_7d493 1 RJ0) (hi : i < 3) {H : Heap} {locs : List Loc} (I : sg_I P sh n A s.heap σ H locs) {ls : Array Slot} (hl : lv_has ls 1 [(0, .ref (sgK P i))]) {st : Int32} (h : f_J0_coder_7d493 N i σ = some st) (hk : sg_Ri p l e R s m args below meth c Q P sh n A cJ0_coder_7d493 (some .byte) (st, σ)) : W p l e R s m args below meth c H locs 0 0 Q (F0 m 0 ls []) := by
  unfold f_J0_coder_7d493 at h
  have hx := X.1.1
  have hb := X.1.2.1
  have hown := X.1.2.2.2.1
  have hts := X.1.2.2.2.2
  refine sg_gcs X I qw_87 dJ0_coder_7d493_0 ?_
  refine lv_if_eq (tgt := 13) hx hb dJ0_coder_7d493_3 (by decide) (fun z => ?_) (fun z => ?_)
  · have h := sg_ift h z
    refine lv_iconst (v := 1) hx hb dJ0_coder_7d493_13 (by decide) ?_
    obtain rfl := Option.some.inj h
    exact hk _ _ _ _ _ I ⟨_, rfl, rfl⟩ dJ0_coder_7d493_14
  · have h := sg_iff h z
    refine lv_aload_n hx hb dJ0_coder_7d493_6 rfl (lv_at hl 0 rfl) ?_
    refine sg_scod X I hi qw_88 dJ0_coder_7d493_7 ?_
    refine lv_goto (tgt := 14) hx hb dJ0_coder_7d493_10 (by decide) ?_
    obtain rfl := Option.some.inj h
    exact hk _ _ _ _ _ I ⟨_, rfl, rfl⟩ dJ0_coder_7d493_14
set_option maxHeartbeats 4000000 in
set_option maxRecDepth 100000 in
theorem c_J0_coder_7d493 {l : Launch} {P : sgP} {sh : Nat → sgE} {n : Nat} {N : Nat} {i : Nat} {σ : sgS} (hi : i < 3) {q : Int32} (h : f_J0_coder_7d493 N i σ = some q) : sg_Mi P sh n l yJ0_coder_7d493 cJ0_coder_7d493 1 (some .byte) 1 [.ref (sgK P i)] σ (q, σ) := by
  refine sg_mki (plainFor_of_name (by decide +kernel)) (Nat.le_of_ble_eq_true rfl) ?_
  intro p e R s m args below meth c Q A ls H locs X I hl hk
  exact b_J0_coder_7d493 X hi I hl h hk
def f_J0_length_8abf5 (N : Nat) (i : Nat) (σ : sgS) : Option (Int32) :=
  sg_cr (f_J0_coder_7d493 N i σ) fun v1 =>
some ((Int32.ofNat (sg_sl i)) >>> (v1 &&& 31))
set_option maxHeartbeats 4000000 in
set_option maxRecDepth 100000 in
theorem b_J0_length_8abf5 {p : Program} {l : Launch} {e : Env} {R : Room} {s : State} {m : MethodId} {args : Array Value} {below : List Frame} {meth : Method} {c : Code} {Q : State → Prop} {P : sgP} {A : Nat → Prop} {sh : Nat → sgE} {n : Nat} {N : Nat} {i : Nat} {σ : sgS} (X : sg_C P A 2 p R s m args c cJ0_length_8abf5 1 RJ0) (hi : i < 3) {H : Heap} {locs : List Loc} (I : sg_I P sh n A s.heap σ H locs) {ls : Array Slot} (hl : lv_has ls 1 [(0, .ref (sgK P i))]) {st : Int32} (h : f_J0_length_8abf5 N i σ = some st) (hk : sg_Ri p l e R s m args below meth c Q P sh n A cJ0_length_8abf5 (some .int) (st, σ)) : W p l e R s m args below meth c H locs 0 0 Q (F0 m 0 ls []) := by
  unfold f_J0_length_8abf5 at h
  have hx := X.1.1
  have hb := X.1.2.1
  have hown := X.1.2.2.2.1
  have hts := X.1.2.2.2.2
  refine lv_aload_n hx hb dJ0_length_8abf5_0 rfl (lv_at hl 0 rfl) ?_
  refine sg_sval X I hi qw_82 dJ0_length_8abf5_1 ?_
  refine sg_slen X I hi dJ0_length_8abf5_4 ?_
  refine lv_aload_n hx hb dJ0_length_8abf5_5 rfl (lv_at hl 0 rfl) ?_
  refine sg_callK (As := []) X I mk_J0_335 (by decide) hi (fun q9 e9 => c_J0_coder_7d493 hi e9) h hl.1 rfl rfl (Nat.le_of_ble_eq_true rfl) dJ0_length_8abf5_6 (fun v1 H locs h I => ?_)
  refine lv_ishr hx hb dJ0_length_8abf5_9 ?_
  obtain rfl := Option.some.inj h
  exact hk _ _ _ _ _ I ⟨_, rfl, rfl⟩ dJ0_length_8abf5_10
set_option maxHeartbeats 4000000 in
set_option maxRecDepth 100000 in
theorem c_J0_length_8abf5 {l : Launch} {P : sgP} {sh : Nat → sgE} {n : Nat} {N : Nat} {i : Nat} {σ : sgS} (hi : i < 3) {q : Int32} (h : f_J0_length_8abf5 N i σ = some q) : sg_Mi P sh n l yJ0_length_8abf5 cJ0_length_8abf5 1 (some .int) 2 [.ref (sgK P i)] σ (q, σ) := by
  refine sg_mki (plainFor_of_name (by decide +kernel)) (Nat.le_of_ble_eq_true rfl) ?_
  intro p e R s m args below meth c Q A ls H locs X I hl hk
  exact b_J0_length_8abf5 X hi I hl h hk
def f_X0_isTold (N : Nat) (o : Nat) (σ : sgS) : Option (Int32) :=
  if (σ.1 o 3) ≤ 0 then
  (some (vp_nar .boolean 0))
else
  (some (vp_nar .boolean 1))
set_option maxHeartbeats 4000000 in
set_option maxRecDepth 100000 in
theorem b_X0_isTold {p : Program} {l : Launch} {e : Env} {R : Room} {s : State} {m : MethodId} {args : Array Value} {below : List Frame} {meth : Method} {c : Code} {Q : State → Prop} {P : sgP} {A : Nat → Prop} {N : Nat} {o : Nat} {σ : sgS} (X : sg_C P A 1 p R s m args c cX0_isTold 1 RX0) (ho : isCo o) {H : Heap} {locs : List Loc} (I : sg_I P shC 332 A s.heap σ H locs) {ls : Array Slot} (hl : lv_has ls 1 [(0, .ref (sgA P o))]) {st : Int32} (h : f_X0_isTold N o σ = some st) (hk : sg_Ri p l e R s m args below meth c Q P shC 332 A cX0_isTold (some .boolean) (st, σ)) : W p l e R s m args below meth c H locs 0 0 Q (F0 m 0 ls []) := by
  unfold f_X0_isTold at h
  have hx := X.1.1
  have hb := X.1.2.1
  have hown := X.1.2.2.2.1
  have hts := X.1.2.2.2.2
  refine lv_aload_n hx hb dX0_isTold_0 rfl (lv_at hl 0 rfl) ?_
  refine sg_geti X I fk_X0_40 (isCo_i0 ho) (isCo_s0 ho) rfl dX0_isTold_1 ?_
  refine lv_if_le (tgt := 11) hx hb dX0_isTold_4 (by decide) (fun z => ?_) (fun z => ?_)
  · have h := sg_ift h z
    refine lv_iconst (v := 0) hx hb dX0_isTold_11 (by decide) ?_
    obtain rfl := Option.some.inj h
    exact hk _ _ _ _ _ I ⟨_, rfl, rfl⟩ dX0_isTold_12
  · have h := sg_iff h z
    refine lv_iconst (v := 1) hx hb dX0_isTold_7 (by decide) ?_
    refine lv_goto (tgt := 12) hx hb dX0_isTold_8 (by decide) ?_
    obtain rfl := Option.some.inj h
    exact hk _ _ _ _ _ I ⟨_, rfl, rfl⟩ dX0_isTold_12
set_option maxHeartbeats 4000000 in
set_option maxRecDepth 100000 in
theorem c_X0_isTold {l : Launch} {P : sgP} {N : Nat} {o : Nat} {σ : sgS} (ho : isCo o) {q : Int32} (h : f_X0_isTold N o σ = some q) : sg_Mi P shC 332 l yX0_isTold cX0_isTold 1 (some .boolean) 1 [.ref (sgA P o)] σ (q, σ) := by
  refine sg_mki (plainFor_of_name (by decide +kernel)) (Nat.le_of_ble_eq_true rfl) ?_
  intro p e R s m args below meth c Q A ls H locs X I hl hk
  exact b_X0_isTold X ho I hl h hk
def f_X0_hasPlace (N : Nat) (o : Nat) (p1 : Int32) (σ : sgS) : Option (Int32) :=
  if p1 < 0 then
  (some (vp_nar .boolean 0))
else
  (if (σ.1 o 3) ≤ p1 then
    (some (vp_nar .boolean 0))
  else
    (some (vp_nar .boolean 1)))
set_option maxHeartbeats 4000000 in
set_option maxRecDepth 100000 in
theorem b_X0_hasPlace {p : Program} {l : Launch} {e : Env} {R : Room} {s : State} {m : MethodId} {args : Array Value} {below : List Frame} {meth : Method} {c : Code} {Q : State → Prop} {P : sgP} {A : Nat → Prop} {N : Nat} {o : Nat} {p1 : Int32} {σ : sgS} (X : sg_C P A 1 p R s m args c cX0_hasPlace 2 RX0) (ho : isCo o) {H : Heap} {locs : List Loc} (I : sg_I P shC 332 A s.heap σ H locs) {ls : Array Slot} (hl : lv_has ls 2 [(0, .ref (sgA P o)), (1, .int p1)]) {st : Int32} (h : f_X0_hasPlace N o p1 σ = some st) (hk : sg_Ri p l e R s m args below meth c Q P shC 332 A cX0_hasPlace (some .boolean) (st, σ)) : W p l e R s m args below meth c H locs 0 0 Q (F0 m 0 ls []) := by
  unfold f_X0_hasPlace at h
  have hx := X.1.1
  have hb := X.1.2.1
  have hown := X.1.2.2.2.1
  have hts := X.1.2.2.2.2
  refine lv_iload_n hx hb dX0_hasPlace_0 rfl (lv_at hl 1 rfl) ?_
  refine lv_if_lt (tgt := 16) hx hb dX0_hasPlace_1 (by decide) (fun z => ?_) (fun z => ?_)
  · have h := sg_ift h z
    refine lv_iconst (v := 0) hx hb dX0_hasPlace_16 (by decide) ?_
    obtain rfl := Option.some.inj h
    exact hk _ _ _ _ _ I ⟨_, rfl, rfl⟩ dX0_hasPlace_17
  · have h := sg_iff h z
    refine lv_iload_n hx hb dX0_hasPlace_4 rfl (lv_at hl 1 rfl) ?_
    refine lv_aload_n hx hb dX0_hasPlace_5 rfl (lv_at hl 0 rfl) ?_
    refine sg_geti X I fk_X0_40 (isCo_i0 ho) (isCo_s0 ho) rfl dX0_hasPlace_6 ?_
    refine lv_icmp_ge (tgt := 16) hx hb dX0_hasPlace_9 (by decide) (fun z => ?_) (fun z => ?_)
    · have h := sg_ift h z
      refine lv_iconst (v := 0) hx hb dX0_hasPlace_16 (by decide) ?_
      obtain rfl := Option.some.inj h
      exact hk _ _ _ _ _ I ⟨_, rfl, rfl⟩ dX0_hasPlace_17
    · have h := sg_iff h z
      refine lv_iconst (v := 1) hx hb dX0_hasPlace_12 (by decide) ?_
      refine lv_goto (tgt := 17) hx hb dX0_hasPlace_13 (by decide) ?_
      obtain rfl := Option.some.inj h
      exact hk _ _ _ _ _ I ⟨_, rfl, rfl⟩ dX0_hasPlace_17
set_option maxHeartbeats 4000000 in
set_option maxRecDepth 100000 in
theorem c_X0_hasPlace {l : Launch} {P : sgP} {N : Nat} {o : Nat} {p1 : Int32} {σ : sgS} (ho : isCo o) {q : Int32} (h : f_X0_hasPlace N o p1 σ = some q) : sg_Mi P shC 332 l yX0_hasPlace cX0_hasPlace 2 (some .boolean) 1 [.ref (sgA P o), .int p1] σ (q, σ) := by
  refine sg_mki (plainFor_of_name (by decide +kernel)) (Nat.le_of_ble_eq_true rfl) ?_
  intro p e R s m args below meth c Q A ls H locs X I hl hk
  exact b_X0_hasPlace X ho I hl h hk
def f_X0_hasPlaces (N : Nat) (o : Nat) (p1 : Int32) (p2 : Int32) (σ : sgS) : Option (Int32) :=
  sg_cr (f_X0_hasPlace N o p1 σ) fun v1 =>
if v1 = 0 then
  (some (vp_nar .boolean 0))
else
  (sg_cr (f_X0_hasPlace N o p2 σ) fun v2 =>
  if v2 = 0 then
    (some (vp_nar .boolean 0))
  else
    (some (vp_nar .boolean 1)))
set_option maxHeartbeats 4000000 in
set_option maxRecDepth 100000 in
theorem b_X0_hasPlaces {p : Program} {l : Launch} {e : Env} {R : Room} {s : State} {m : MethodId} {args : Array Value} {below : List Frame} {meth : Method} {c : Code} {Q : State → Prop} {P : sgP} {A : Nat → Prop} {N : Nat} {o : Nat} {p1 : Int32} {p2 : Int32} {σ : sgS} (X : sg_C P A 2 p R s m args c cX0_hasPlaces 3 RX0) (ho : isCo o) {H : Heap} {locs : List Loc} (I : sg_I P shC 332 A s.heap σ H locs) {ls : Array Slot} (hl : lv_has ls 3 [(0, .ref (sgA P o)), (1, .int p1), (2, .int p2)]) {st : Int32} (h : f_X0_hasPlaces N o p1 p2 σ = some st) (hk : sg_Ri p l e R s m args below meth c Q P shC 332 A cX0_hasPlaces (some .boolean) (st, σ)) : W p l e R s m args below meth c H locs 0 0 Q (F0 m 0 ls []) := by
  unfold f_X0_hasPlaces at h
  have hx := X.1.1
  have hb := X.1.2.1
  have hown := X.1.2.2.2.1
  have hts := X.1.2.2.2.2
  refine lv_aload_n hx hb dX0_hasPlaces_0 rfl (lv_at hl 0 rfl) ?_
  refine lv_iload_n hx hb dX0_hasPlaces_1 rfl (lv_at hl 1 rfl) ?_
  refine sg_callVr (As := [.int p1]) X I mk_X0_44 (by decide) (isCo_i0 ho) (isCo_s0 ho) rfl (fun q9 e9 => c_X0_hasPlace ho e9) h hl.1 rfl rfl (Nat.le_of_ble_eq_true rfl) dX0_hasPlaces_2 (fun v1 H locs h I => ?_)
  refine lv_if_eq (tgt := 20) hx hb dX0_hasPlaces_5 (by decide) (fun z => ?_) (fun z => ?_)
  · have h := sg_ift h z
    refine lv_iconst (v := 0) hx hb dX0_hasPlaces_20 (by decide) ?_
    obtain rfl := Option.some.inj h
    exact hk _ _ _ _ _ I ⟨_, rfl, rfl⟩ dX0_hasPlaces_21
  · have h := sg_iff h z
    refine lv_aload_n hx hb dX0_hasPlaces_8 rfl (lv_at hl 0 rfl) ?_
    refine lv_iload_n hx hb dX0_hasPlaces_9 rfl (lv_at hl 2 rfl) ?_
    refine sg_callVr (As := [.int p2]) X I mk_X0_44 (by decide) (isCo_i0 ho) (isCo_s0 ho) rfl (fun q9 e9 => c_X0_hasPlace ho e9) h hl.1 rfl rfl (Nat.le_of_ble_eq_true rfl) dX0_hasPlaces_10 (fun v2 H locs h I => ?_)
    refine lv_if_eq (tgt := 20) hx hb dX0_hasPlaces_13 (by decide) (fun z => ?_) (fun z => ?_)
    · have h := sg_ift h z
      refine lv_iconst (v := 0) hx hb dX0_hasPlaces_20 (by decide) ?_
      obtain rfl := Option.some.inj h
      exact hk _ _ _ _ _ I ⟨_, rfl, rfl⟩ dX0_hasPlaces_21
    · have h := sg_iff h z
      refine lv_iconst (v := 1) hx hb dX0_hasPlaces_16 (by decide) ?_
      refine lv_goto (tgt := 21) hx hb dX0_hasPlaces_17 (by decide) ?_
      obtain rfl := Option.some.inj h
      exact hk _ _ _ _ _ I ⟨_, rfl, rfl⟩ dX0_hasPlaces_21
set_option maxHeartbeats 4000000 in
set_option maxRecDepth 100000 in
theorem c_X0_hasPlaces {l : Launch} {P : sgP} {N : Nat} {o : Nat} {p1 : Int32} {p2 : Int32} {σ : sgS} (ho : isCo o) {q : Int32} (h : f_X0_hasPlaces N o p1 p2 σ = some q) : sg_Mi P shC 332 l yX0_hasPlaces cX0_hasPlaces 3 (some .boolean) 2 [.ref (sgA P o), .int p1, .int p2] σ (q, σ) := by
  refine sg_mki (plainFor_of_name (by decide +kernel)) (Nat.le_of_ble_eq_true rfl) ?_
  intro p e R s m args below meth c Q A ls H locs X I hl hk
  exact b_X0_hasPlaces X ho I hl h hk
def f_X0_hasAnyOf (N : Nat) (o : Nat) (p1 : Int32) (σ : sgS) : Option (Int32) :=
  if p1 ≤ 0 then
  (some (vp_nar .boolean 0))
else
  (if (1 <<< ((σ.1 o 3) &&& 31)) ≤ p1 then
    (some (vp_nar .boolean 0))
  else
    (some (vp_nar .boolean 1)))
set_option maxHeartbeats 4000000 in
set_option maxRecDepth 100000 in
theorem b_X0_hasAnyOf {p : Program} {l : Launch} {e : Env} {R : Room} {s : State} {m : MethodId} {args : Array Value} {below : List Frame} {meth : Method} {c : Code} {Q : State → Prop} {P : sgP} {A : Nat → Prop} {N : Nat} {o : Nat} {p1 : Int32} {σ : sgS} (X : sg_C P A 1 p R s m args c cX0_hasAnyOf 2 RX0) (ho : isCo o) {H : Heap} {locs : List Loc} (I : sg_I P shC 332 A s.heap σ H locs) {ls : Array Slot} (hl : lv_has ls 2 [(0, .ref (sgA P o)), (1, .int p1)]) {st : Int32} (h : f_X0_hasAnyOf N o p1 σ = some st) (hk : sg_Ri p l e R s m args below meth c Q P shC 332 A cX0_hasAnyOf (some .boolean) (st, σ)) : W p l e R s m args below meth c H locs 0 0 Q (F0 m 0 ls []) := by
  unfold f_X0_hasAnyOf at h
  have hx := X.1.1
  have hb := X.1.2.1
  have hown := X.1.2.2.2.1
  have hts := X.1.2.2.2.2
  refine lv_iload_n hx hb dX0_hasAnyOf_0 rfl (lv_at hl 1 rfl) ?_
  refine lv_if_le (tgt := 18) hx hb dX0_hasAnyOf_1 (by decide) (fun z => ?_) (fun z => ?_)
  · have h := sg_ift h z
    refine lv_iconst (v := 0) hx hb dX0_hasAnyOf_18 (by decide) ?_
    obtain rfl := Option.some.inj h
    exact hk _ _ _ _ _ I ⟨_, rfl, rfl⟩ dX0_hasAnyOf_19
  · have h := sg_iff h z
    refine lv_iload_n hx hb dX0_hasAnyOf_4 rfl (lv_at hl 1 rfl) ?_
    refine lv_iconst (v := 1) hx hb dX0_hasAnyOf_5 (by decide) ?_
    refine lv_aload_n hx hb dX0_hasAnyOf_6 rfl (lv_at hl 0 rfl) ?_
    refine sg_geti X I fk_X0_40 (isCo_i0 ho) (isCo_s0 ho) rfl dX0_hasAnyOf_7 ?_
    refine lv_ishl hx hb dX0_hasAnyOf_10 ?_
    refine lv_icmp_ge (tgt := 18) hx hb dX0_hasAnyOf_11 (by decide) (fun z => ?_) (fun z => ?_)
    · have h := sg_ift h z
      refine lv_iconst (v := 0) hx hb dX0_hasAnyOf_18 (by decide) ?_
      obtain rfl := Option.some.inj h
      exact hk _ _ _ _ _ I ⟨_, rfl, rfl⟩ dX0_hasAnyOf_19
    · have h := sg_iff h z
      refine lv_iconst (v := 1) hx hb dX0_hasAnyOf_14 (by decide) ?_
      refine lv_goto (tgt := 19) hx hb dX0_hasAnyOf_15 (by decide) ?_
      obtain rfl := Option.some.inj h
      exact hk _ _ _ _ _ I ⟨_, rfl, rfl⟩ dX0_hasAnyOf_19
set_option maxHeartbeats 4000000 in
set_option maxRecDepth 100000 in
theorem c_X0_hasAnyOf {l : Launch} {P : sgP} {N : Nat} {o : Nat} {p1 : Int32} {σ : sgS} (ho : isCo o) {q : Int32} (h : f_X0_hasAnyOf N o p1 σ = some q) : sg_Mi P shC 332 l yX0_hasAnyOf cX0_hasAnyOf 2 (some .boolean) 1 [.ref (sgA P o), .int p1] σ (q, σ) := by
  refine sg_mki (plainFor_of_name (by decide +kernel)) (Nat.le_of_ble_eq_true rfl) ?_
  intro p e R s m args below meth c Q A ls H locs X I hl hk
  exact b_X0_hasAnyOf X ho I hl h hk
def f_X0_hasRoad (N : Nat) (o : Nat) (p1 : Int32) (σ : sgS) : Option (Int32) :=
  if p1 < 0 then
  (some (vp_nar .boolean 0))
else
  (if (σ.1 o 4) ≤ p1 then
    (some (vp_nar .boolean 0))
  else
    (some (vp_nar .boolean 1)))
set_option maxHeartbeats 4000000 in
set_option maxRecDepth 100000 in
theorem b_X0_hasRoad {p : Program} {l : Launch} {e : Env} {R : Room} {s : State} {m : MethodId} {args : Array Value} {below : List Frame} {meth : Method} {c : Code} {Q : State → Prop} {P : sgP} {A : Nat → Prop} {N : Nat} {o : Nat} {p1 : Int32} {σ : sgS} (X : sg_C P A 1 p R s m args c cX0_hasRoad 2 RX0) (ho : isCo o) {H : Heap} {locs : List Loc} (I : sg_I P shC 332 A s.heap σ H locs) {ls : Array Slot} (hl : lv_has ls 2 [(0, .ref (sgA P o)), (1, .int p1)]) {st : Int32} (h : f_X0_hasRoad N o p1 σ = some st) (hk : sg_Ri p l e R s m args below meth c Q P shC 332 A cX0_hasRoad (some .boolean) (st, σ)) : W p l e R s m args below meth c H locs 0 0 Q (F0 m 0 ls []) := by
  unfold f_X0_hasRoad at h
  have hx := X.1.1
  have hb := X.1.2.1
  have hown := X.1.2.2.2.1
  have hts := X.1.2.2.2.2
  refine lv_iload_n hx hb dX0_hasRoad_0 rfl (lv_at hl 1 rfl) ?_
  refine lv_if_lt (tgt := 16) hx hb dX0_hasRoad_1 (by decide) (fun z => ?_) (fun z => ?_)
  · have h := sg_ift h z
    refine lv_iconst (v := 0) hx hb dX0_hasRoad_16 (by decide) ?_
    obtain rfl := Option.some.inj h
    exact hk _ _ _ _ _ I ⟨_, rfl, rfl⟩ dX0_hasRoad_17
  · have h := sg_iff h z
    refine lv_iload_n hx hb dX0_hasRoad_4 rfl (lv_at hl 1 rfl) ?_
    refine lv_aload_n hx hb dX0_hasRoad_5 rfl (lv_at hl 0 rfl) ?_
    refine sg_geti X I fk_X0_48 (isCo_i0 ho) (isCo_s0 ho) rfl dX0_hasRoad_6 ?_
    refine lv_icmp_ge (tgt := 16) hx hb dX0_hasRoad_9 (by decide) (fun z => ?_) (fun z => ?_)
    · have h := sg_ift h z
      refine lv_iconst (v := 0) hx hb dX0_hasRoad_16 (by decide) ?_
      obtain rfl := Option.some.inj h
      exact hk _ _ _ _ _ I ⟨_, rfl, rfl⟩ dX0_hasRoad_17
    · have h := sg_iff h z
      refine lv_iconst (v := 1) hx hb dX0_hasRoad_12 (by decide) ?_
      refine lv_goto (tgt := 17) hx hb dX0_hasRoad_13 (by decide) ?_
      obtain rfl := Option.some.inj h
      exact hk _ _ _ _ _ I ⟨_, rfl, rfl⟩ dX0_hasRoad_17
set_option maxHeartbeats 4000000 in
set_option maxRecDepth 100000 in
theorem c_X0_hasRoad {l : Launch} {P : sgP} {N : Nat} {o : Nat} {p1 : Int32} {σ : sgS} (ho : isCo o) {q : Int32} (h : f_X0_hasRoad N o p1 σ = some q) : sg_Mi P shC 332 l yX0_hasRoad cX0_hasRoad 2 (some .boolean) 1 [.ref (sgA P o), .int p1] σ (q, σ) := by
  refine sg_mki (plainFor_of_name (by decide +kernel)) (Nat.le_of_ble_eq_true rfl) ?_
  intro p e R s m args below meth c Q A ls H locs X I hl hk
  exact b_X0_hasRoad X ho I hl h hk
def f_X0_hasSet (N : Nat) (o : Nat) (p1 : Int32) (σ : sgS) : Option (Int32) :=
  if p1 < 0 then
  (some (vp_nar .boolean 0))
else
  (if (σ.1 o 5) ≤ p1 then
    (some (vp_nar .boolean 0))
  else
    (some (vp_nar .boolean 1)))
set_option maxHeartbeats 4000000 in
set_option maxRecDepth 100000 in
theorem b_X0_hasSet {p : Program} {l : Launch} {e : Env} {R : Room} {s : State} {m : MethodId} {args : Array Value} {below : List Frame} {meth : Method} {c : Code} {Q : State → Prop} {P : sgP} {A : Nat → Prop} {N : Nat} {o : Nat} {p1 : Int32} {σ : sgS} (X : sg_C P A 1 p R s m args c cX0_hasSet 2 RX0) (ho : isCo o) {H : Heap} {locs : List Loc} (I : sg_I P shC 332 A s.heap σ H locs) {ls : Array Slot} (hl : lv_has ls 2 [(0, .ref (sgA P o)), (1, .int p1)]) {st : Int32} (h : f_X0_hasSet N o p1 σ = some st) (hk : sg_Ri p l e R s m args below meth c Q P shC 332 A cX0_hasSet (some .boolean) (st, σ)) : W p l e R s m args below meth c H locs 0 0 Q (F0 m 0 ls []) := by
  unfold f_X0_hasSet at h
  have hx := X.1.1
  have hb := X.1.2.1
  have hown := X.1.2.2.2.1
  have hts := X.1.2.2.2.2
  refine lv_iload_n hx hb dX0_hasSet_0 rfl (lv_at hl 1 rfl) ?_
  refine lv_if_lt (tgt := 16) hx hb dX0_hasSet_1 (by decide) (fun z => ?_) (fun z => ?_)
  · have h := sg_ift h z
    refine lv_iconst (v := 0) hx hb dX0_hasSet_16 (by decide) ?_
    obtain rfl := Option.some.inj h
    exact hk _ _ _ _ _ I ⟨_, rfl, rfl⟩ dX0_hasSet_17
  · have h := sg_iff h z
    refine lv_iload_n hx hb dX0_hasSet_4 rfl (lv_at hl 1 rfl) ?_
    refine lv_aload_n hx hb dX0_hasSet_5 rfl (lv_at hl 0 rfl) ?_
    refine sg_geti X I fk_X0_51 (isCo_i0 ho) (isCo_s0 ho) rfl dX0_hasSet_6 ?_
    refine lv_icmp_ge (tgt := 16) hx hb dX0_hasSet_9 (by decide) (fun z => ?_) (fun z => ?_)
    · have h := sg_ift h z
      refine lv_iconst (v := 0) hx hb dX0_hasSet_16 (by decide) ?_
      obtain rfl := Option.some.inj h
      exact hk _ _ _ _ _ I ⟨_, rfl, rfl⟩ dX0_hasSet_17
    · have h := sg_iff h z
      refine lv_iconst (v := 1) hx hb dX0_hasSet_12 (by decide) ?_
      refine lv_goto (tgt := 17) hx hb dX0_hasSet_13 (by decide) ?_
      obtain rfl := Option.some.inj h
      exact hk _ _ _ _ _ I ⟨_, rfl, rfl⟩ dX0_hasSet_17
set_option maxHeartbeats 4000000 in
set_option maxRecDepth 100000 in
theorem c_X0_hasSet {l : Launch} {P : sgP} {N : Nat} {o : Nat} {p1 : Int32} {σ : sgS} (ho : isCo o) {q : Int32} (h : f_X0_hasSet N o p1 σ = some q) : sg_Mi P shC 332 l yX0_hasSet cX0_hasSet 2 (some .boolean) 1 [.ref (sgA P o), .int p1] σ (q, σ) := by
  refine sg_mki (plainFor_of_name (by decide +kernel)) (Nat.le_of_ble_eq_true rfl) ?_
  intro p e R s m args below meth c Q A ls H locs X I hl hk
  exact b_X0_hasSet X ho I hl h hk
def f_X0_hasTwoSets (N : Nat) (o : Nat) (p1 : Int32) (p2 : Int32) (σ : sgS) : Option (Int32) :=
  sg_cr (f_X0_hasSet N o p1 σ) fun v1 =>
if v1 = 0 then
  (some (vp_nar .boolean 0))
else
  (sg_cr (f_X0_hasSet N o p2 σ) fun v2 =>
  if v2 = 0 then
    (some (vp_nar .boolean 0))
  else
    (if p1 = p2 then
      (some (vp_nar .boolean 0))
    else
      (some (vp_nar .boolean 1))))
set_option maxHeartbeats 4000000 in
set_option maxRecDepth 100000 in
theorem b_X0_hasTwoSets {p : Program} {l : Launch} {e : Env} {R : Room} {s : State} {m : MethodId} {args : Array Value} {below : List Frame} {meth : Method} {c : Code} {Q : State → Prop} {P : sgP} {A : Nat → Prop} {N : Nat} {o : Nat} {p1 : Int32} {p2 : Int32} {σ : sgS} (X : sg_C P A 2 p R s m args c cX0_hasTwoSets 3 RX0) (ho : isCo o) {H : Heap} {locs : List Loc} (I : sg_I P shC 332 A s.heap σ H locs) {ls : Array Slot} (hl : lv_has ls 3 [(0, .ref (sgA P o)), (1, .int p1), (2, .int p2)]) {st : Int32} (h : f_X0_hasTwoSets N o p1 p2 σ = some st) (hk : sg_Ri p l e R s m args below meth c Q P shC 332 A cX0_hasTwoSets (some .boolean) (st, σ)) : W p l e R s m args below meth c H locs 0 0 Q (F0 m 0 ls []) := by
  unfold f_X0_hasTwoSets at h
  have hx := X.1.1
  have hb := X.1.2.1
  have hown := X.1.2.2.2.1
  have hts := X.1.2.2.2.2
  refine lv_aload_n hx hb dX0_hasTwoSets_0 rfl (lv_at hl 0 rfl) ?_
  refine lv_iload_n hx hb dX0_hasTwoSets_1 rfl (lv_at hl 1 rfl) ?_
  refine sg_callVr (As := [.int p1]) X I mk_X0_54 (by decide) (isCo_i0 ho) (isCo_s0 ho) rfl (fun q9 e9 => c_X0_hasSet ho e9) h hl.1 rfl rfl (Nat.le_of_ble_eq_true rfl) dX0_hasTwoSets_2 (fun v1 H locs h I => ?_)
  refine lv_if_eq (tgt := 25) hx hb dX0_hasTwoSets_5 (by decide) (fun z => ?_) (fun z => ?_)
  · have h := sg_ift h z
    refine lv_iconst (v := 0) hx hb dX0_hasTwoSets_25 (by decide) ?_
    obtain rfl := Option.some.inj h
    exact hk _ _ _ _ _ I ⟨_, rfl, rfl⟩ dX0_hasTwoSets_26
  · have h := sg_iff h z
    refine lv_aload_n hx hb dX0_hasTwoSets_8 rfl (lv_at hl 0 rfl) ?_
    refine lv_iload_n hx hb dX0_hasTwoSets_9 rfl (lv_at hl 2 rfl) ?_
    refine sg_callVr (As := [.int p2]) X I mk_X0_54 (by decide) (isCo_i0 ho) (isCo_s0 ho) rfl (fun q9 e9 => c_X0_hasSet ho e9) h hl.1 rfl rfl (Nat.le_of_ble_eq_true rfl) dX0_hasTwoSets_10 (fun v2 H locs h I => ?_)
    refine lv_if_eq (tgt := 25) hx hb dX0_hasTwoSets_13 (by decide) (fun z => ?_) (fun z => ?_)
    · have h := sg_ift h z
      refine lv_iconst (v := 0) hx hb dX0_hasTwoSets_25 (by decide) ?_
      obtain rfl := Option.some.inj h
      exact hk _ _ _ _ _ I ⟨_, rfl, rfl⟩ dX0_hasTwoSets_26
    · have h := sg_iff h z
      refine lv_iload_n hx hb dX0_hasTwoSets_16 rfl (lv_at hl 1 rfl) ?_
      refine lv_iload_n hx hb dX0_hasTwoSets_17 rfl (lv_at hl 2 rfl) ?_
      refine lv_icmp_eq (tgt := 25) hx hb dX0_hasTwoSets_18 (by decide) (fun z => ?_) (fun z => ?_)
      · have h := sg_ift h z
        refine lv_iconst (v := 0) hx hb dX0_hasTwoSets_25 (by decide) ?_
        obtain rfl := Option.some.inj h
        exact hk _ _ _ _ _ I ⟨_, rfl, rfl⟩ dX0_hasTwoSets_26
      · have h := sg_iff h z
        refine lv_iconst (v := 1) hx hb dX0_hasTwoSets_21 (by decide) ?_
        refine lv_goto (tgt := 26) hx hb dX0_hasTwoSets_22 (by decide) ?_
        obtain rfl := Option.some.inj h
        exact hk _ _ _ _ _ I ⟨_, rfl, rfl⟩ dX0_hasTwoSets_26
set_option maxHeartbeats 4000000 in
set_option maxRecDepth 100000 in
theorem c_X0_hasTwoSets {l : Launch} {P : sgP} {N : Nat} {o : Nat} {p1 : Int32} {p2 : Int32} {σ : sgS} (ho : isCo o) {q : Int32} (h : f_X0_hasTwoSets N o p1 p2 σ = some q) : sg_Mi P shC 332 l yX0_hasTwoSets cX0_hasTwoSets 3 (some .boolean) 2 [.ref (sgA P o), .int p1, .int p2] σ (q, σ) := by
  refine sg_mki (plainFor_of_name (by decide +kernel)) (Nat.le_of_ble_eq_true rfl) ?_
  intro p e R s m args below meth c Q A ls H locs X I hl hk
  exact b_X0_hasTwoSets X ho I hl h hk
def f_X0_allRoads (N : Nat) (o : Nat) (σ : sgS) : Option (Int32) :=
  some ((1 <<< ((σ.1 o 4) &&& 31)) - 1)
set_option maxHeartbeats 4000000 in
set_option maxRecDepth 100000 in
theorem b_X0_allRoads {p : Program} {l : Launch} {e : Env} {R : Room} {s : State} {m : MethodId} {args : Array Value} {below : List Frame} {meth : Method} {c : Code} {Q : State → Prop} {P : sgP} {A : Nat → Prop} {N : Nat} {o : Nat} {σ : sgS} (X : sg_C P A 1 p R s m args c cX0_allRoads 1 RX0) (ho : isCo o) {H : Heap} {locs : List Loc} (I : sg_I P shC 332 A s.heap σ H locs) {ls : Array Slot} (hl : lv_has ls 1 [(0, .ref (sgA P o))]) {st : Int32} (h : f_X0_allRoads N o σ = some st) (hk : sg_Ri p l e R s m args below meth c Q P shC 332 A cX0_allRoads (some .int) (st, σ)) : W p l e R s m args below meth c H locs 0 0 Q (F0 m 0 ls []) := by
  unfold f_X0_allRoads at h
  have hx := X.1.1
  have hb := X.1.2.1
  have hown := X.1.2.2.2.1
  have hts := X.1.2.2.2.2
  refine lv_iconst (v := 1) hx hb dX0_allRoads_0 (by decide) ?_
  refine lv_aload_n hx hb dX0_allRoads_1 rfl (lv_at hl 0 rfl) ?_
  refine sg_geti X I fk_X0_48 (isCo_i0 ho) (isCo_s0 ho) rfl dX0_allRoads_2 ?_
  refine lv_ishl hx hb dX0_allRoads_5 ?_
  refine lv_iconst (v := 1) hx hb dX0_allRoads_6 (by decide) ?_
  refine lv_isub hx hb dX0_allRoads_7 ?_
  obtain rfl := Option.some.inj h
  exact hk _ _ _ _ _ I ⟨_, rfl, rfl⟩ dX0_allRoads_8
set_option maxHeartbeats 4000000 in
set_option maxRecDepth 100000 in
theorem c_X0_allRoads {l : Launch} {P : sgP} {N : Nat} {o : Nat} {σ : sgS} (ho : isCo o) {q : Int32} (h : f_X0_allRoads N o σ = some q) : sg_Mi P shC 332 l yX0_allRoads cX0_allRoads 1 (some .int) 1 [.ref (sgA P o)] σ (q, σ) := by
  refine sg_mki (plainFor_of_name (by decide +kernel)) (Nat.le_of_ble_eq_true rfl) ?_
  intro p e R s m args below meth c Q A ls H locs X I hl hk
  exact b_X0_allRoads X ho I hl h hk
def f_X0_isBetween_B20 (N : Nat) (o : Nat) (p1 : Int32) (p2 : Int32) (p3 : Int32) (σ : sgS) : Option (Int32) :=
  sg_ld σ (o + 2) 12 p1 fun v2 =>
if v2 = p3 then
  (sg_ld σ (o + 3) 12 p1 fun v3 =>
  if v3 = p2 then
    (some (vp_nar .boolean 1))
  else
    (some (vp_nar .boolean 0)))
else
  (some (vp_nar .boolean 0))
set_option maxHeartbeats 4000000 in
set_option maxRecDepth 100000 in
theorem b_X0_isBetween_B20 {p : Program} {l : Launch} {e : Env} {R : Room} {s : State} {m : MethodId} {args : Array Value} {below : List Frame} {meth : Method} {c : Code} {Q : State → Prop} {P : sgP} {A : Nat → Prop} {N : Nat} {o : Nat} {p1 : Int32} {p2 : Int32} {p3 : Int32} {σ : sgS} (X : sg_C P A 1 p R s m args c cX0_isBetween 4 RX0) (ho : isCo o) {H : Heap} {locs : List Loc} (I : sg_I P shC 332 A s.heap σ H locs) {ls : Array Slot} (hl : lv_has ls 4 [(0, .ref (sgA P o)), (1, .int p1), (2, .int p2), (3, .int p3)]) {st : Int32} (h : f_X0_isBetween_B20 N o p1 p2 p3 σ = some st) (hk : sg_Ri p l e R s m args below meth c Q P shC 332 A cX0_isBetween (some .boolean) (st, σ)) : W p l e R s m args below meth c H locs 0 0 Q (F0 m 20 ls []) := by
  unfold f_X0_isBetween_B20 at h
  have hx := X.1.1
  have hb := X.1.2.1
  have hown := X.1.2.2.2.1
  have hts := X.1.2.2.2.2
  refine lv_aload_n hx hb dX0_isBetween_20 rfl (lv_at hl 0 rfl) ?_
  refine sg_getr X I fk_X0_15 (j := o + 2) (isCo_i0 ho) (isCo_s0 ho) rfl dX0_isBetween_21 ?_
  refine lv_iload_n hx hb dX0_isBetween_24 rfl (lv_at hl 1 rfl) ?_
  refine sg_iald X I (isCo_i2 ho) (isCo_s2 ho) h dX0_isBetween_25 (fun v2 h => ?_)
  refine lv_iload_n hx hb dX0_isBetween_26 rfl (lv_at hl 3 rfl) ?_
  refine lv_icmp_ne (tgt := 44) hx hb dX0_isBetween_27 (by decide) (fun z => ?_) (fun z => ?_)
  · have h := sg_iff h z
    refine lv_iconst (v := 0) hx hb dX0_isBetween_44 (by decide) ?_
    obtain rfl := Option.some.inj h
    exact hk _ _ _ _ _ I ⟨_, rfl, rfl⟩ dX0_isBetween_45
  · have h := sg_ift h z
    refine lv_aload_n hx hb dX0_isBetween_30 rfl (lv_at hl 0 rfl) ?_
    refine sg_getr X I fk_X0_18 (j := o + 3) (isCo_i0 ho) (isCo_s0 ho) rfl dX0_isBetween_31 ?_
    refine lv_iload_n hx hb dX0_isBetween_34 rfl (lv_at hl 1 rfl) ?_
    refine sg_iald X I (isCo_i3 ho) (isCo_s3 ho) h dX0_isBetween_35 (fun v3 h => ?_)
    refine lv_iload_n hx hb dX0_isBetween_36 rfl (lv_at hl 2 rfl) ?_
    refine lv_icmp_ne (tgt := 44) hx hb dX0_isBetween_37 (by decide) (fun z => ?_) (fun z => ?_)
    · have h := sg_iff h z
      refine lv_iconst (v := 0) hx hb dX0_isBetween_44 (by decide) ?_
      obtain rfl := Option.some.inj h
      exact hk _ _ _ _ _ I ⟨_, rfl, rfl⟩ dX0_isBetween_45
    · have h := sg_ift h z
      refine lv_iconst (v := 1) hx hb dX0_isBetween_40 (by decide) ?_
      refine lv_goto (tgt := 45) hx hb dX0_isBetween_41 (by decide) ?_
      obtain rfl := Option.some.inj h
      exact hk _ _ _ _ _ I ⟨_, rfl, rfl⟩ dX0_isBetween_45
def f_X0_isBetween (N : Nat) (o : Nat) (p1 : Int32) (p2 : Int32) (p3 : Int32) (σ : sgS) : Option (Int32) :=
  sg_ld σ (o + 2) 12 p1 fun v1 =>
if v1 = p2 then
  (sg_ld σ (o + 3) 12 p1 fun v4 =>
  if v4 = p3 then
    (some (vp_nar .boolean 1))
  else
    (f_X0_isBetween_B20 N o p1 p2 p3 σ))
else
  (f_X0_isBetween_B20 N o p1 p2 p3 σ)
set_option maxHeartbeats 4000000 in
set_option maxRecDepth 100000 in
theorem b_X0_isBetween {p : Program} {l : Launch} {e : Env} {R : Room} {s : State} {m : MethodId} {args : Array Value} {below : List Frame} {meth : Method} {c : Code} {Q : State → Prop} {P : sgP} {A : Nat → Prop} {N : Nat} {o : Nat} {p1 : Int32} {p2 : Int32} {p3 : Int32} {σ : sgS} (X : sg_C P A 1 p R s m args c cX0_isBetween 4 RX0) (ho : isCo o) {H : Heap} {locs : List Loc} (I : sg_I P shC 332 A s.heap σ H locs) {ls : Array Slot} (hl : lv_has ls 4 [(0, .ref (sgA P o)), (1, .int p1), (2, .int p2), (3, .int p3)]) {st : Int32} (h : f_X0_isBetween N o p1 p2 p3 σ = some st) (hk : sg_Ri p l e R s m args below meth c Q P shC 332 A cX0_isBetween (some .boolean) (st, σ)) : W p l e R s m args below meth c H locs 0 0 Q (F0 m 0 ls []) := by
  unfold f_X0_isBetween at h
  have hx := X.1.1
  have hb := X.1.2.1
  have hown := X.1.2.2.2.1
  have hts := X.1.2.2.2.2
  refine lv_aload_n hx hb dX0_isBetween_0 rfl (lv_at hl 0 rfl) ?_
  refine sg_getr X I fk_X0_15 (j := o + 2) (isCo_i0 ho) (isCo_s0 ho) rfl dX0_isBetween_1 ?_
  refine lv_iload_n hx hb dX0_isBetween_4 rfl (lv_at hl 1 rfl) ?_
  refine sg_iald X I (isCo_i2 ho) (isCo_s2 ho) h dX0_isBetween_5 (fun v1 h => ?_)
  refine lv_iload_n hx hb dX0_isBetween_6 rfl (lv_at hl 2 rfl) ?_
  refine lv_icmp_ne (tgt := 20) hx hb dX0_isBetween_7 (by decide) (fun z => ?_) (fun z => ?_)
  · have h := sg_iff h z
    exact b_X0_isBetween_B20 X ho I (lv_sub hl [0, 1, 2, 3] rfl) h hk
  · have h := sg_ift h z
    refine lv_aload_n hx hb dX0_isBetween_10 rfl (lv_at hl 0 rfl) ?_
    refine sg_getr X I fk_X0_18 (j := o + 3) (isCo_i0 ho) (isCo_s0 ho) rfl dX0_isBetween_11 ?_
    refine lv_iload_n hx hb dX0_isBetween_14 rfl (lv_at hl 1 rfl) ?_
    refine sg_iald X I (isCo_i3 ho) (isCo_s3 ho) h dX0_isBetween_15 (fun v4 h => ?_)
    refine lv_iload_n hx hb dX0_isBetween_16 rfl (lv_at hl 3 rfl) ?_
    refine lv_icmp_eq (tgt := 40) hx hb dX0_isBetween_17 (by decide) (fun z => ?_) (fun z => ?_)
    · have h := sg_ift h z
      refine lv_iconst (v := 1) hx hb dX0_isBetween_40 (by decide) ?_
      refine lv_goto (tgt := 45) hx hb dX0_isBetween_41 (by decide) ?_
      obtain rfl := Option.some.inj h
      exact hk _ _ _ _ _ I ⟨_, rfl, rfl⟩ dX0_isBetween_45
    · have h := sg_iff h z
      exact b_X0_isBetween_B20 X ho I (lv_sub hl [0, 1, 2, 3] rfl) h hk
set_option maxHeartbeats 4000000 in
set_option maxRecDepth 100000 in
theorem c_X0_isBetween {l : Launch} {P : sgP} {N : Nat} {o : Nat} {p1 : Int32} {p2 : Int32} {p3 : Int32} {σ : sgS} (ho : isCo o) {q : Int32} (h : f_X0_isBetween N o p1 p2 p3 σ = some q) : sg_Mi P shC 332 l yX0_isBetween cX0_isBetween 4 (some .boolean) 1 [.ref (sgA P o), .int p1, .int p2, .int p3] σ (q, σ) := by
  refine sg_mki (plainFor_of_name (by decide +kernel)) (Nat.le_of_ble_eq_true rfl) ?_
  intro p e R s m args below meth c Q A ls H locs X I hl hk
  exact b_X0_isBetween X ho I hl h hk
def f_X0_copyFrom (N : Nat) (o : Nat) (p1 : Nat) (σ : sgS) : Option (Int32 × sgS) :=
  sg_pf σ o 1 (σ.1 p1 1) fun s1 =>
sg_pf s1 o 2 (s1.1 p1 2) fun s2 =>
sg_pf s2 o 3 (s2.1 p1 3) fun s3 =>
sg_pf s3 o 4 (s3.1 p1 4) fun s4 =>
sg_pf s4 o 5 (s4.1 p1 5) fun s5 =>
sg_cp s5 (p1 + 1) 7 (o + 1) 7 0 0 7 fun s6 =>
sg_cp s6 (p1 + 2) 12 (o + 2) 12 0 0 12 fun s7 =>
sg_cp s7 (p1 + 3) 12 (o + 3) 12 0 0 12 fun s8 =>
sg_cp s8 (p1 + 4) 12 (o + 4) 12 0 0 12 fun s9 =>
sg_cp s9 (p1 + 5) 12 (o + 5) 12 0 0 12 fun s10 =>
sg_cp s10 (p1 + 6) 4 (o + 6) 4 0 0 4 fun s11 =>
some (0, s11)
set_option maxHeartbeats 4000000 in
set_option maxRecDepth 100000 in
theorem b_X0_copyFrom {p : Program} {l : Launch} {e : Env} {R : Room} {s : State} {m : MethodId} {args : Array Value} {below : List Frame} {meth : Method} {c : Code} {Q : State → Prop} {P : sgP} {A : Nat → Prop} {N : Nat} {o : Nat} {p1 : Nat} {σ : sgS} (X : sg_C P A 2 p R s m args c cX0_copyFrom 2 RX0) (ho : isCo o) (hp1 : isCo p1) {H : Heap} {locs : List Loc} (I : sg_I P shC 332 A s.heap σ H locs) {ls : Array Slot} (hl : lv_has ls 2 [(0, .ref (sgA P o)), (1, .ref (sgA P p1))]) {st : Int32 × sgS} (h : f_X0_copyFrom N o p1 σ = some st) (hk : sg_Rv p l e R s m args below meth c Q P shC 332 A cX0_copyFrom st) : W p l e R s m args below meth c H locs 0 0 Q (F0 m 0 ls []) := by
  unfold f_X0_copyFrom at h
  have hx := X.1.1
  have hb := X.1.2.1
  have hown := X.1.2.2.2.1
  have hts := X.1.2.2.2.2
  refine lv_aload_n hx hb dX0_copyFrom_0 rfl (lv_at hl 0 rfl) ?_
  refine lv_aload_n hx hb dX0_copyFrom_1 rfl (lv_at hl 1 rfl) ?_
  refine sg_geti X I fk_X0_57 (isCo_i0 hp1) (isCo_s0 hp1) rfl dX0_copyFrom_2 ?_
  refine sg_puti X I fk_X0_57 wk_0_1 rfl rfl (isCo_i0 ho) (isCo_s0 ho) rfl h dX0_copyFrom_5 (fun s1 H locs h I => ?_)
  refine lv_aload_n hx hb dX0_copyFrom_8 rfl (lv_at hl 0 rfl) ?_
  refine lv_aload_n hx hb dX0_copyFrom_9 rfl (lv_at hl 1 rfl) ?_
  refine sg_geti X I fk_X0_60 (isCo_i0 hp1) (isCo_s0 hp1) rfl dX0_copyFrom_10 ?_
  refine sg_puti X I fk_X0_60 wk_0_2 rfl rfl (isCo_i0 ho) (isCo_s0 ho) rfl h dX0_copyFrom_13 (fun s2 H locs h I => ?_)
  refine lv_aload_n hx hb dX0_copyFrom_16 rfl (lv_at hl 0 rfl) ?_
  refine lv_aload_n hx hb dX0_copyFrom_17 rfl (lv_at hl 1 rfl) ?_
  refine sg_geti X I fk_X0_40 (isCo_i0 hp1) (isCo_s0 hp1) rfl dX0_copyFrom_18 ?_
  refine sg_puti X I fk_X0_40 wk_0_3 rfl rfl (isCo_i0 ho) (isCo_s0 ho) rfl h dX0_copyFrom_21 (fun s3 H locs h I => ?_)
  refine lv_aload_n hx hb dX0_copyFrom_24 rfl (lv_at hl 0 rfl) ?_
  refine lv_aload_n hx hb dX0_copyFrom_25 rfl (lv_at hl 1 rfl) ?_
  refine sg_geti X I fk_X0_48 (isCo_i0 hp1) (isCo_s0 hp1) rfl dX0_copyFrom_26 ?_
  refine sg_puti X I fk_X0_48 wk_0_4 rfl rfl (isCo_i0 ho) (isCo_s0 ho) rfl h dX0_copyFrom_29 (fun s4 H locs h I => ?_)
  refine lv_aload_n hx hb dX0_copyFrom_32 rfl (lv_at hl 0 rfl) ?_
  refine lv_aload_n hx hb dX0_copyFrom_33 rfl (lv_at hl 1 rfl) ?_
  refine sg_geti X I fk_X0_51 (isCo_i0 hp1) (isCo_s0 hp1) rfl dX0_copyFrom_34 ?_
  refine sg_puti X I fk_X0_51 wk_0_5 rfl rfl (isCo_i0 ho) (isCo_s0 ho) rfl h dX0_copyFrom_37 (fun s5 H locs h I => ?_)
  refine lv_aload_n hx hb dX0_copyFrom_40 rfl (lv_at hl 1 rfl) ?_
  refine sg_getr X I fk_X0_9 (j := p1 + 1) (isCo_i0 hp1) (isCo_s0 hp1) rfl dX0_copyFrom_41 ?_
  refine lv_iconst (v := 0) hx hb dX0_copyFrom_44 (by decide) ?_
  refine lv_aload_n hx hb dX0_copyFrom_45 rfl (lv_at hl 0 rfl) ?_
  refine sg_getr X I fk_X0_9 (j := o + 1) (isCo_i0 ho) (isCo_s0 ho) rfl dX0_copyFrom_46 ?_
  refine lv_iconst (v := 0) hx hb dX0_copyFrom_49 (by decide) ?_
  refine lv_bipush (v := 7) hx hb dX0_copyFrom_50 (by decide) ?_
  refine sg_copy X I hl.1 (by first | decide | omega) qw_639 ⟨qw_622, qw_623, qw_624⟩ (isCo_i1 hp1) (isCo_i1 ho) (isCo_s1 hp1) (isCo_s1 ho) h (Nat.le_of_ble_eq_true rfl) dX0_copyFrom_52 (fun s6 H locs h I => ?_)
  refine lv_aload_n hx hb dX0_copyFrom_55 rfl (lv_at hl 1 rfl) ?_
  refine sg_getr X I fk_X0_15 (j := p1 + 2) (isCo_i0 hp1) (isCo_s0 hp1) rfl dX0_copyFrom_56 ?_
  refine lv_iconst (v := 0) hx hb dX0_copyFrom_59 (by decide) ?_
  refine lv_aload_n hx hb dX0_copyFrom_60 rfl (lv_at hl 0 rfl) ?_
  refine sg_getr X I fk_X0_15 (j := o + 2) (isCo_i0 ho) (isCo_s0 ho) rfl dX0_copyFrom_61 ?_
  refine lv_iconst (v := 0) hx hb dX0_copyFrom_64 (by decide) ?_
  refine lv_bipush (v := 12) hx hb dX0_copyFrom_65 (by decide) ?_
  refine sg_copy X I hl.1 (by first | decide | omega) qw_639 ⟨qw_622, qw_623, qw_624⟩ (isCo_i2 hp1) (isCo_i2 ho) (isCo_s2 hp1) (isCo_s2 ho) h (Nat.le_of_ble_eq_true rfl) dX0_copyFrom_67 (fun s7 H locs h I => ?_)
  refine lv_aload_n hx hb dX0_copyFrom_70 rfl (lv_at hl 1 rfl) ?_
  refine sg_getr X I fk_X0_18 (j := p1 + 3) (isCo_i0 hp1) (isCo_s0 hp1) rfl dX0_copyFrom_71 ?_
  refine lv_iconst (v := 0) hx hb dX0_copyFrom_74 (by decide) ?_
  refine lv_aload_n hx hb dX0_copyFrom_75 rfl (lv_at hl 0 rfl) ?_
  refine sg_getr X I fk_X0_18 (j := o + 3) (isCo_i0 ho) (isCo_s0 ho) rfl dX0_copyFrom_76 ?_
  refine lv_iconst (v := 0) hx hb dX0_copyFrom_79 (by decide) ?_
  refine lv_bipush (v := 12) hx hb dX0_copyFrom_80 (by decide) ?_
  refine sg_copy X I hl.1 (by first | decide | omega) qw_639 ⟨qw_622, qw_623, qw_624⟩ (isCo_i3 hp1) (isCo_i3 ho) (isCo_s3 hp1) (isCo_s3 ho) h (Nat.le_of_ble_eq_true rfl) dX0_copyFrom_82 (fun s8 H locs h I => ?_)
  refine lv_aload_n hx hb dX0_copyFrom_85 rfl (lv_at hl 1 rfl) ?_
  refine sg_getr X I fk_X0_21 (j := p1 + 4) (isCo_i0 hp1) (isCo_s0 hp1) rfl dX0_copyFrom_86 ?_
  refine lv_iconst (v := 0) hx hb dX0_copyFrom_89 (by decide) ?_
  refine lv_aload_n hx hb dX0_copyFrom_90 rfl (lv_at hl 0 rfl) ?_
  refine sg_getr X I fk_X0_21 (j := o + 4) (isCo_i0 ho) (isCo_s0 ho) rfl dX0_copyFrom_91 ?_
  refine lv_iconst (v := 0) hx hb dX0_copyFrom_94 (by decide) ?_
  refine lv_bipush (v := 12) hx hb dX0_copyFrom_95 (by decide) ?_
  refine sg_copy X I hl.1 (by first | decide | omega) qw_639 ⟨qw_622, qw_623, qw_624⟩ (isCo_i4 hp1) (isCo_i4 ho) (isCo_s4 hp1) (isCo_s4 ho) h (Nat.le_of_ble_eq_true rfl) dX0_copyFrom_97 (fun s9 H locs h I => ?_)
  refine lv_aload_n hx hb dX0_copyFrom_100 rfl (lv_at hl 1 rfl) ?_
  refine sg_getr X I fk_X0_24 (j := p1 + 5) (isCo_i0 hp1) (isCo_s0 hp1) rfl dX0_copyFrom_101 ?_
  refine lv_iconst (v := 0) hx hb dX0_copyFrom_104 (by decide) ?_
  refine lv_aload_n hx hb dX0_copyFrom_105 rfl (lv_at hl 0 rfl) ?_
  refine sg_getr X I fk_X0_24 (j := o + 5) (isCo_i0 ho) (isCo_s0 ho) rfl dX0_copyFrom_106 ?_
  refine lv_iconst (v := 0) hx hb dX0_copyFrom_109 (by decide) ?_
  refine lv_bipush (v := 12) hx hb dX0_copyFrom_110 (by decide) ?_
  refine sg_copy X I hl.1 (by first | decide | omega) qw_639 ⟨qw_622, qw_623, qw_624⟩ (isCo_i5 hp1) (isCo_i5 ho) (isCo_s5 hp1) (isCo_s5 ho) h (Nat.le_of_ble_eq_true rfl) dX0_copyFrom_112 (fun s10 H locs h I => ?_)
  refine lv_aload_n hx hb dX0_copyFrom_115 rfl (lv_at hl 1 rfl) ?_
  refine sg_getr X I fk_X0_27 (j := p1 + 6) (isCo_i0 hp1) (isCo_s0 hp1) rfl dX0_copyFrom_116 ?_
  refine lv_iconst (v := 0) hx hb dX0_copyFrom_119 (by decide) ?_
  refine lv_aload_n hx hb dX0_copyFrom_120 rfl (lv_at hl 0 rfl) ?_
  refine sg_getr X I fk_X0_27 (j := o + 6) (isCo_i0 ho) (isCo_s0 ho) rfl dX0_copyFrom_121 ?_
  refine lv_iconst (v := 0) hx hb dX0_copyFrom_124 (by decide) ?_
  refine lv_iconst (v := 4) hx hb dX0_copyFrom_125 (by decide) ?_
  refine sg_copy X I hl.1 (by first | decide | omega) qw_639 ⟨qw_622, qw_623, qw_624⟩ (isCo_i6 hp1) (isCo_i6 ho) (isCo_s6 hp1) (isCo_s6 ho) h (Nat.le_of_ble_eq_true rfl) dX0_copyFrom_126 (fun s11 H locs h I => ?_)
  obtain rfl := Option.some.inj h
  exact hk _ _ _ _ I dX0_copyFrom_129
set_option maxHeartbeats 4000000 in
set_option maxRecDepth 100000 in
theorem c_X0_copyFrom {l : Launch} {P : sgP} {N : Nat} {o : Nat} {p1 : Nat} {σ : sgS} (ho : isCo o) (hp1 : isCo p1) {q : Int32 × sgS} (h : f_X0_copyFrom N o p1 σ = some q) : sg_Mv P shC 332 l yX0_copyFrom cX0_copyFrom 2 none 2 [.ref (sgA P o), .ref (sgA P p1)] σ q := by
  refine sg_mkv (plainFor_of_name (by decide +kernel)) (Nat.le_of_ble_eq_true rfl) ?_
  intro p e R s m args below meth c Q A ls H locs X I hl hk
  exact b_X0_copyFrom X ho hp1 I hl h hk
def f_X9_sign_L0 (N : Nat) (σ : sgS) : Option ((Int32 × sgS) ⊕ ((sgS) ⊕ (sgS))) :=
  if (σ.1 1 1) ≤ (σ.1 1 2) then
  (some (.inr (.inr σ)))
else
  (sg_ld σ 2 240 (σ.1 1 2) fun v1 =>
  if v1 = 32 then
    (sg_pf σ 1 2 ((σ.1 1 2) + 1) fun s2 =>
    some (.inr (.inl s2)))
  else
    (some (.inr (.inr σ))))
set_option maxHeartbeats 4000000 in
set_option maxRecDepth 100000 in
theorem b_X9_sign_L0 {p : Program} {l : Launch} {e : Env} {R : Room} {s : State} {m : MethodId} {args : Array Value} {below : List Frame} {meth : Method} {c : Code} {Q : State → Prop} {P : sgP} {A : Nat → Prop} {N : Nat} {σ : sgS} (X : sg_C P A 1 p R s m args c cX9_sign 1 RX9) {H : Heap} {locs : List Loc} (I : sg_I P shC 332 A s.heap σ H locs) {ls : Array Slot} (hl : lv_has ls 1 [(0, .ref (sgA P 1))]) {st : (Int32 × sgS) ⊕ ((sgS) ⊕ (sgS))} (h : f_X9_sign_L0 N σ = some st) (hk : sg_k3 (sg_Ri p l e R s m args below meth c Q P shC 332 A cX9_sign (some .int)) (fun x => sg_Wt p l e R s m args below meth c Q P shC 332 A 1 0 x [(0, .ref (sgA P 1))]) (fun y => sg_Wt p l e R s m args below meth c Q P shC 332 A 1 38 y [(0, .ref (sgA P 1))]) st) : W p l e R s m args below meth c H locs 0 0 Q (F0 m 0 ls []) := by
  unfold f_X9_sign_L0 at h
  have hx := X.1.1
  have hb := X.1.2.1
  have hown := X.1.2.2.2.1
  have hts := X.1.2.2.2.2
  refine lv_aload_n hx hb dX9_sign_0 rfl (lv_at hl 0 rfl) ?_
  refine sg_geti X I fk_X9_19 (by decide) shC_1 rfl dX9_sign_1 ?_
  refine lv_aload_n hx hb dX9_sign_4 rfl (lv_at hl 0 rfl) ?_
  refine sg_geti X I fk_X9_15 (by decide) shC_1 rfl dX9_sign_5 ?_
  refine lv_icmp_ge (tgt := 38) hx hb dX9_sign_8 (by decide) (fun z => ?_) (fun z => ?_)
  · have h := sg_ift h z
    obtain rfl := Option.some.inj h
    exact sg_go hk I (lv_sub hl [0] rfl)
  · have h := sg_iff h z
    refine lv_aload_n hx hb dX9_sign_11 rfl (lv_at hl 0 rfl) ?_
    refine sg_getr X I fk_X9_9 (j := 2) (by decide) shC_1 rfl dX9_sign_12 ?_
    refine lv_aload_n hx hb dX9_sign_15 rfl (lv_at hl 0 rfl) ?_
    refine sg_geti X I fk_X9_19 (by decide) shC_1 rfl dX9_sign_16 ?_
    refine sg_iald X I (by decide) shC_2 h dX9_sign_19 (fun v1 h => ?_)
    refine lv_bipush (v := 32) hx hb dX9_sign_20 (by decide) ?_
    refine lv_icmp_ne (tgt := 38) hx hb dX9_sign_22 (by decide) (fun z => ?_) (fun z => ?_)
    · have h := sg_iff h z
      obtain rfl := Option.some.inj h
      exact sg_go hk I (lv_sub hl [0] rfl)
    · have h := sg_ift h z
      refine lv_aload_n hx hb dX9_sign_25 rfl (lv_at hl 0 rfl) ?_
      refine lv_dup hx hb dX9_sign_26 rfl ?_
      refine sg_geti X I fk_X9_19 (by decide) shC_1 rfl dX9_sign_27 ?_
      refine lv_iconst (v := 1) hx hb dX9_sign_30 (by decide) ?_
      refine lv_iadd hx hb dX9_sign_31 ?_
      refine sg_puti X I fk_X9_19 wk_9_2 rfl rfl (by decide) shC_1 rfl h dX9_sign_32 (fun s2 H locs h I => ?_)
      refine lv_goto (tgt := 0) hx hb dX9_sign_35 (by decide) ?_
      obtain rfl := Option.some.inj h
      exact sg_go hk I (lv_sub hl [0] rfl)
def f_X9_sign (N : Nat) (σ : sgS) : Option (Int32 × sgS) :=
  sg_lb (sg_lp (fun x => f_X9_sign_L0 N x) N σ) (fun r => some r) fun y3 =>
if (y3.1 1 1) ≤ (y3.1 1 2) then
  (some ((-1), y3))
else
  (sg_ld y3 2 240 (y3.1 1 2) fun v4 =>
  some (v4, y3))
set_option maxHeartbeats 4000000 in
set_option maxRecDepth 100000 in
theorem b_X9_sign {p : Program} {l : Launch} {e : Env} {R : Room} {s : State} {m : MethodId} {args : Array Value} {below : List Frame} {meth : Method} {c : Code} {Q : State → Prop} {P : sgP} {A : Nat → Prop} {N : Nat} {σ : sgS} (X : sg_C P A 1 p R s m args c cX9_sign 1 RX9) {H : Heap} {locs : List Loc} (I : sg_I P shC 332 A s.heap σ H locs) {ls : Array Slot} (hl : lv_has ls 1 [(0, .ref (sgA P 1))]) {st : Int32 × sgS} (h : f_X9_sign N σ = some st) (hk : sg_Ri p l e R s m args below meth c Q P shC 332 A cX9_sign (some .int) st) : W p l e R s m args below meth c H locs 0 0 Q (F0 m 0 ls []) := by
  unfold f_X9_sign at h
  have hx := X.1.1
  have hb := X.1.2.1
  have hown := X.1.2.2.2.1
  have hts := X.1.2.2.2.2
  obtain ⟨res, e9, k9⟩ := sg_lb_some h
  refine sg_go (sg_lp_W (a := (sg_Ri p l e R s m args below meth c Q P shC 332 A cX9_sign (some .int))) (w := (fun x => sg_Wt p l e R s m args below meth c Q P shC 332 A 1 0 x [(0, .ref (sgA P 1))])) (c := (fun y => sg_Wt p l e R s m args below meth c Q P shC 332 A 1 38 y [(0, .ref (sgA P 1))])) (fun x st hb9 hk9 => ?_) N σ res e9 (sg_k2_mono k9 (fun r h => ?_) (fun y3 h => ?_))) I (lv_sub hl [0] rfl)
  · intro H locs ls I hl
    exact b_X9_sign_L0 X I hl hb9 hk9
  · obtain rfl := Option.some.inj h
    exact hk
  · intro H locs ls I hl
    refine lv_aload_n hx hb dX9_sign_38 rfl (lv_at hl 0 rfl) ?_
    refine sg_geti X I fk_X9_19 (by decide) shC_1 rfl dX9_sign_39 ?_
    refine lv_aload_n hx hb dX9_sign_42 rfl (lv_at hl 0 rfl) ?_
    refine sg_geti X I fk_X9_15 (by decide) shC_1 rfl dX9_sign_43 ?_
    refine lv_icmp_ge (tgt := 61) hx hb dX9_sign_46 (by decide) (fun z => ?_) (fun z => ?_)
    · have h := sg_ift h z
      refine lv_iconst (v := -1) hx hb dX9_sign_61 (by decide) ?_
      obtain rfl := Option.some.inj h
      exact hk _ _ _ _ _ I ⟨_, rfl, rfl⟩ dX9_sign_62
    · have h := sg_iff h z
      refine lv_aload_n hx hb dX9_sign_49 rfl (lv_at hl 0 rfl) ?_
      refine sg_getr X I fk_X9_9 (j := 2) (by decide) shC_1 rfl dX9_sign_50 ?_
      refine lv_aload_n hx hb dX9_sign_53 rfl (lv_at hl 0 rfl) ?_
      refine sg_geti X I fk_X9_19 (by decide) shC_1 rfl dX9_sign_54 ?_
      refine sg_iald X I (by decide) shC_2 h dX9_sign_57 (fun v4 h => ?_)
      refine lv_goto (tgt := 62) hx hb dX9_sign_58 (by decide) ?_
      obtain rfl := Option.some.inj h
      exact hk _ _ _ _ _ I ⟨_, rfl, rfl⟩ dX9_sign_62
set_option maxHeartbeats 4000000 in
set_option maxRecDepth 100000 in
theorem c_X9_sign {l : Launch} {P : sgP} {N : Nat} {σ : sgS} {q : Int32 × sgS} (h : f_X9_sign N σ = some q) : sg_Mi P shC 332 l yX9_sign cX9_sign 1 (some .int) 1 [.ref (sgA P 1)] σ q := by
  refine sg_mki (plainFor_of_name (by decide +kernel)) (Nat.le_of_ble_eq_true rfl) ?_
  intro p e R s m args below meth c Q A ls H locs X I hl hk
  exact b_X9_sign X I hl h hk
def f_J0_isLatin1_aae02 (N : Nat) (i : Nat) (σ : sgS) : Option (Int32) :=
  if (1 : Int32) = 0 then
  (some (vp_nar .boolean 0))
else
  (if (0 : Int32) = 0 then
    (some (vp_nar .boolean 1))
  else
    (some (vp_nar .boolean 0)))
set_option maxHeartbeats 4000000 in
set_option maxRecDepth 100000 in
theorem b_J0_isLatin1_aae02 {p : Program} {l : Launch} {e : Env} {R : Room} {s : State} {m : MethodId} {args : Array Value} {below : List Frame} {meth : Method} {c : Code} {Q : State → Prop} {P : sgP} {A : Nat → Prop} {sh : Nat → sgE} {n : Nat} {N : Nat} {i : Nat} {σ : sgS} (X : sg_C P A 1 p R s m args c cJ0_isLatin1_aae02 1 RJ0) (hi : i < 3) {H : Heap} {locs : List Loc} (I : sg_I P sh n A s.heap σ H locs) {ls : Array Slot} (hl : lv_has ls 1 [(0, .ref (sgK P i))]) {st : Int32} (h : f_J0_isLatin1_aae02 N i σ = some st) (hk : sg_Ri p l e R s m args below meth c Q P sh n A cJ0_isLatin1_aae02 (some .boolean) (st, σ)) : W p l e R s m args below meth c H locs 0 0 Q (F0 m 0 ls []) := by
  unfold f_J0_isLatin1_aae02 at h
  have hx := X.1.1
  have hb := X.1.2.1
  have hown := X.1.2.2.2.1
  have hts := X.1.2.2.2.2
  refine sg_gcs X I qw_87 dJ0_isLatin1_aae02_0 ?_
  refine lv_if_eq (tgt := 17) hx hb dJ0_isLatin1_aae02_3 (by decide) (fun z => ?_) (fun z => ?_)
  · have h := sg_ift h z
    refine lv_iconst (v := 0) hx hb dJ0_isLatin1_aae02_17 (by decide) ?_
    obtain rfl := Option.some.inj h
    exact hk _ _ _ _ _ I ⟨_, rfl, rfl⟩ dJ0_isLatin1_aae02_18
  · have h := sg_iff h z
    refine lv_aload_n hx hb dJ0_isLatin1_aae02_6 rfl (lv_at hl 0 rfl) ?_
    refine sg_scod X I hi qw_88 dJ0_isLatin1_aae02_7 ?_
    refine lv_if_ne (tgt := 17) hx hb dJ0_isLatin1_aae02_10 (by decide) (fun z => ?_) (fun z => ?_)
    · have h := sg_iff h z
      refine lv_iconst (v := 0) hx hb dJ0_isLatin1_aae02_17 (by decide) ?_
      obtain rfl := Option.some.inj h
      exact hk _ _ _ _ _ I ⟨_, rfl, rfl⟩ dJ0_isLatin1_aae02_18
    · have h := sg_ift h z
      refine lv_iconst (v := 1) hx hb dJ0_isLatin1_aae02_13 (by decide) ?_
      refine lv_goto (tgt := 18) hx hb dJ0_isLatin1_aae02_14 (by decide) ?_
      obtain rfl := Option.some.inj h
      exact hk _ _ _ _ _ I ⟨_, rfl, rfl⟩ dJ0_isLatin1_aae02_18
set_option maxHeartbeats 4000000 in
set_option maxRecDepth 100000 in
theorem c_J0_isLatin1_aae02 {l : Launch} {P : sgP} {sh : Nat → sgE} {n : Nat} {N : Nat} {i : Nat} {σ : sgS} (hi : i < 3) {q : Int32} (h : f_J0_isLatin1_aae02 N i σ = some q) : sg_Mi P sh n l yJ0_isLatin1_aae02 cJ0_isLatin1_aae02 1 (some .boolean) 1 [.ref (sgK P i)] σ (q, σ) := by
  refine sg_mki (plainFor_of_name (by decide +kernel)) (Nat.le_of_ble_eq_true rfl) ?_
  intro p e R s m args below meth c Q A ls H locs X I hl hk
  exact b_J0_isLatin1_aae02 X hi I hl h hk
def f_J1_canEncode_9a6ad (N : Nat) (p0 : Int32) (σ : sgS) : Option (Int32) :=
  if p0 < 0 then
  (some (vp_nar .boolean 0))
else
  (if 255 < p0 then
    (some (vp_nar .boolean 0))
  else
    (some (vp_nar .boolean 1)))
set_option maxHeartbeats 4000000 in
set_option maxRecDepth 100000 in
theorem b_J1_canEncode_9a6ad {p : Program} {l : Launch} {e : Env} {R : Room} {s : State} {m : MethodId} {args : Array Value} {below : List Frame} {meth : Method} {c : Code} {Q : State → Prop} {P : sgP} {A : Nat → Prop} {sh : Nat → sgE} {n : Nat} {N : Nat} {p0 : Int32} {σ : sgS} (X : sg_C P A 1 p R s m args c cJ1_canEncode_9a6ad 1 RJ1) {H : Heap} {locs : List Loc} (I : sg_I P sh n A s.heap σ H locs) {ls : Array Slot} (hl : lv_has ls 1 [(0, .int p0)]) {st : Int32} (h : f_J1_canEncode_9a6ad N p0 σ = some st) (hk : sg_Ri p l e R s m args below meth c Q P sh n A cJ1_canEncode_9a6ad (some .boolean) (st, σ)) : W p l e R s m args below meth c H locs 0 0 Q (F0 m 0 ls []) := by
  unfold f_J1_canEncode_9a6ad at h
  have hx := X.1.1
  have hb := X.1.2.1
  have hown := X.1.2.2.2.1
  have hts := X.1.2.2.2.2
  refine lv_iload_n hx hb dJ1_canEncode_9a6ad_0 rfl (lv_at hl 0 rfl) ?_
  refine lv_if_lt (tgt := 15) hx hb dJ1_canEncode_9a6ad_1 (by decide) (fun z => ?_) (fun z => ?_)
  · have h := sg_ift h z
    refine lv_iconst (v := 0) hx hb dJ1_canEncode_9a6ad_15 (by decide) ?_
    obtain rfl := Option.some.inj h
    exact hk _ _ _ _ _ I ⟨_, rfl, rfl⟩ dJ1_canEncode_9a6ad_16
  · have h := sg_iff h z
    refine lv_iload_n hx hb dJ1_canEncode_9a6ad_4 rfl (lv_at hl 0 rfl) ?_
    refine lv_sipush (v := 255) hx hb dJ1_canEncode_9a6ad_5 (by decide) ?_
    refine lv_icmp_gt (tgt := 15) hx hb dJ1_canEncode_9a6ad_8 (by decide) (fun z => ?_) (fun z => ?_)
    · have h := sg_ift h z
      refine lv_iconst (v := 0) hx hb dJ1_canEncode_9a6ad_15 (by decide) ?_
      obtain rfl := Option.some.inj h
      exact hk _ _ _ _ _ I ⟨_, rfl, rfl⟩ dJ1_canEncode_9a6ad_16
    · have h := sg_iff h z
      refine lv_iconst (v := 1) hx hb dJ1_canEncode_9a6ad_11 (by decide) ?_
      refine lv_goto (tgt := 16) hx hb dJ1_canEncode_9a6ad_12 (by decide) ?_
      obtain rfl := Option.some.inj h
      exact hk _ _ _ _ _ I ⟨_, rfl, rfl⟩ dJ1_canEncode_9a6ad_16
set_option maxHeartbeats 4000000 in
set_option maxRecDepth 100000 in
theorem c_J1_canEncode_9a6ad {l : Launch} {P : sgP} {sh : Nat → sgE} {n : Nat} {N : Nat} {p0 : Int32} {σ : sgS} {q : Int32} (h : f_J1_canEncode_9a6ad N p0 σ = some q) : sg_Mi P sh n l yJ1_canEncode_9a6ad cJ1_canEncode_9a6ad 1 (some .boolean) 1 [.int p0] σ (q, σ) := by
  refine sg_mki (plainFor_of_name (by decide +kernel)) (Nat.le_of_ble_eq_true rfl) ?_
  intro p e R s m args below meth c Q A ls H locs X I hl hk
  exact b_J1_canEncode_9a6ad X I hl h hk
def f_J1_indexOfChar_4cfef_L7 (N : Nat) (i : Nat) (p1 : Int32) (p2 : Int32) (p3 : Int32) (w4 : Int32) (x5 : Int32) (σ : sgS) : Option ((Int32) ⊕ ((Int32) ⊕ (Unit))) :=
  if p3 ≤ x5 then
  (some (.inr (.inr ())))
else
  (sg_bt i x5 fun v1 =>
  if v1 = w4 then
    (some (.inl x5))
  else
    (some (.inr (.inl (x5 + 1)))))
set_option maxHeartbeats 4000000 in
set_option maxRecDepth 100000 in
theorem b_J1_indexOfChar_4cfef_L7 {p : Program} {l : Launch} {e : Env} {R : Room} {s : State} {m : MethodId} {args : Array Value} {below : List Frame} {meth : Method} {c : Code} {Q : State → Prop} {P : sgP} {A : Nat → Prop} {sh : Nat → sgE} {n : Nat} {N : Nat} {i : Nat} {p1 : Int32} {p2 : Int32} {p3 : Int32} {w4 : Int32} {x5 : Int32} {σ : sgS} (X : sg_C P A 1 p R s m args c cJ1_indexOfChar_4cfef 6 RJ1) (hi : i < 3) {H : Heap} {locs : List Loc} (I : sg_I P sh n A s.heap σ H locs) {ls : Array Slot} (hl : lv_has ls 6 [(0, .ref (sgV P i)), (3, .int p3), (4, .int w4), (5, .int x5)]) {st : (Int32) ⊕ ((Int32) ⊕ (Unit))} (h : f_J1_indexOfChar_4cfef_L7 N i p1 p2 p3 w4 x5 σ = some st) (hk : sg_k3 (fun r => sg_Ri p l e R s m args below meth c Q P sh n A cJ1_indexOfChar_4cfef (some .int) (r, σ)) (fun x => sg_Wt p l e R s m args below meth c Q P sh n A 6 7 σ [(0, .ref (sgV P i)), (3, .int p3), (4, .int w4), (5, .int x)]) (fun y => sg_Wt p l e R s m args below meth c Q P sh n A 6 31 σ []) st) : W p l e R s m args below meth c H locs 0 0 Q (F0 m 7 ls []) := by
  unfold f_J1_indexOfChar_4cfef_L7 at h
  have hx := X.1.1
  have hb := X.1.2.1
  have hown := X.1.2.2.2.1
  have hts := X.1.2.2.2.2
  refine lv_iload hx hb dJ1_indexOfChar_4cfef_7 (lv_at hl 3 rfl) ?_
  refine lv_iload_n hx hb dJ1_indexOfChar_4cfef_9 rfl (lv_at hl 1 rfl) ?_
  refine lv_icmp_ge (tgt := 31) hx hb dJ1_indexOfChar_4cfef_10 (by decide) (fun z => ?_) (fun z => ?_)
  · have h := sg_ift h z
    obtain rfl := Option.some.inj h
    exact sg_go hk I (lv_sub hl [] rfl)
  · have h := sg_iff h z
    refine lv_aload_n hx hb dJ1_indexOfChar_4cfef_13 rfl (lv_at hl 0 rfl) ?_
    refine lv_iload hx hb dJ1_indexOfChar_4cfef_14 (lv_at hl 3 rfl) ?_
    refine sg_sbal X I hi h dJ1_indexOfChar_4cfef_16 (fun v1 h => ?_)
    refine lv_iload hx hb dJ1_indexOfChar_4cfef_17 (lv_at hl 2 rfl) ?_
    refine lv_icmp_ne (tgt := 25) hx hb dJ1_indexOfChar_4cfef_19 (by decide) (fun z => ?_) (fun z => ?_)
    · have h := sg_iff h z
      refine lv_iinc (v := x5 + 1) (lv' := [(5, .int (x5 + 1)), (0, .ref (sgV P i)), (3, .int p3), (4, .int w4)]) hx hb dJ1_indexOfChar_4cfef_25 hl (k := 3) rfl rfl (by decide) rfl (fun ls hl => ?_)
      refine lv_goto (tgt := 7) hx hb dJ1_indexOfChar_4cfef_28 (by decide) ?_
      obtain rfl := Option.some.inj h
      exact sg_go hk I (lv_sub hl [1, 2, 3, 0] rfl)
    · have h := sg_ift h z
      refine lv_iload hx hb dJ1_indexOfChar_4cfef_22 (lv_at hl 3 rfl) ?_
      obtain rfl := Option.some.inj h
      exact hk _ _ _ _ _ I ⟨_, rfl, rfl⟩ dJ1_indexOfChar_4cfef_24
def f_J1_indexOfChar_4cfef (N : Nat) (i : Nat) (p1 : Int32) (p2 : Int32) (p3 : Int32) (σ : sgS) : Option (Int32) :=
  sg_lb (sg_lp (fun x => f_J1_indexOfChar_4cfef_L7 N i p1 p2 p3 p1.toInt8.toInt32 x σ) N p2) (fun r => some r) fun y2 =>
some ((-1))
set_option maxHeartbeats 4000000 in
set_option maxRecDepth 100000 in
theorem b_J1_indexOfChar_4cfef {p : Program} {l : Launch} {e : Env} {R : Room} {s : State} {m : MethodId} {args : Array Value} {below : List Frame} {meth : Method} {c : Code} {Q : State → Prop} {P : sgP} {A : Nat → Prop} {sh : Nat → sgE} {n : Nat} {N : Nat} {i : Nat} {p1 : Int32} {p2 : Int32} {p3 : Int32} {σ : sgS} (X : sg_C P A 1 p R s m args c cJ1_indexOfChar_4cfef 6 RJ1) (hi : i < 3) {H : Heap} {locs : List Loc} (I : sg_I P sh n A s.heap σ H locs) {ls : Array Slot} (hl : lv_has ls 6 [(0, .ref (sgV P i)), (1, .int p1), (2, .int p2), (3, .int p3)]) {st : Int32} (h : f_J1_indexOfChar_4cfef N i p1 p2 p3 σ = some st) (hk : sg_Ri p l e R s m args below meth c Q P sh n A cJ1_indexOfChar_4cfef (some .int) (st, σ)) : W p l e R s m args below meth c H locs 0 0 Q (F0 m 0 ls []) := by
  unfold f_J1_indexOfChar_4cfef at h
  have hx := X.1.1
  have hb := X.1.2.1
  have hown := X.1.2.2.2.1
  have hts := X.1.2.2.2.2
  refine lv_iload_n hx hb dJ1_indexOfChar_4cfef_0 rfl (lv_at hl 1 rfl) ?_
  refine lv_i2b (v := p1.toInt8.toInt32) hx hb dJ1_indexOfChar_4cfef_1 rfl ?_
  refine lv_istore (lv' := [(4, .int p1.toInt8.toInt32), (0, .ref (sgV P i)), (1, .int p1), (2, .int p2), (3, .int p3)]) hx hb dJ1_indexOfChar_4cfef_2 hl (by decide) rfl (fun ls hl => ?_)
  refine lv_iload_n hx hb dJ1_indexOfChar_4cfef_4 rfl (lv_at hl 3 rfl) ?_
  refine lv_istore (lv' := [(5, .int p2), (4, .int p1.toInt8.toInt32), (0, .ref (sgV P i)), (1, .int p1), (2, .int p2), (3, .int p3)]) hx hb dJ1_indexOfChar_4cfef_5 hl (by decide) rfl (fun ls hl => ?_)
  obtain ⟨res, e9, k9⟩ := sg_lb_some h
  refine sg_go (sg_lp_W (a := (fun r => sg_Ri p l e R s m args below meth c Q P sh n A cJ1_indexOfChar_4cfef (some .int) (r, σ))) (w := (fun x => sg_Wt p l e R s m args below meth c Q P sh n A 6 7 σ [(0, .ref (sgV P i)), (3, .int p3), (4, .int p1.toInt8.toInt32), (5, .int x)])) (c := (fun y => sg_Wt p l e R s m args below meth c Q P sh n A 6 31 σ [])) (fun x st hb9 hk9 => ?_) N p2 res e9 (sg_k2_mono k9 (fun r h => ?_) (fun y2 h => ?_))) I (lv_sub hl [2, 5, 1, 0] rfl)
  · intro H locs ls I hl
    exact b_J1_indexOfChar_4cfef_L7 X hi I hl hb9 hk9
  · obtain rfl := Option.some.inj h
    exact hk
  · intro H locs ls I hl
    refine lv_iconst (v := -1) hx hb dJ1_indexOfChar_4cfef_31 (by decide) ?_
    obtain rfl := Option.some.inj h
    exact hk _ _ _ _ _ I ⟨_, rfl, rfl⟩ dJ1_indexOfChar_4cfef_32
set_option maxHeartbeats 4000000 in
set_option maxRecDepth 100000 in
theorem c_J1_indexOfChar_4cfef {l : Launch} {P : sgP} {sh : Nat → sgE} {n : Nat} {N : Nat} {i : Nat} {p1 : Int32} {p2 : Int32} {p3 : Int32} {σ : sgS} (hi : i < 3) {q : Int32} (h : f_J1_indexOfChar_4cfef N i p1 p2 p3 σ = some q) : sg_Mi P sh n l yJ1_indexOfChar_4cfef cJ1_indexOfChar_4cfef 6 (some .int) 1 [.ref (sgV P i), .int p1, .int p2, .int p3] σ (q, σ) := by
  refine sg_mki (plainFor_of_name (by decide +kernel)) (Nat.le_of_ble_eq_true rfl) ?_
  intro p e R s m args below meth c Q A ls H locs X I hl hk
  exact b_J1_indexOfChar_4cfef X hi I hl h hk
def f_J1_indexOf_4cfef (N : Nat) (i : Nat) (p1 : Int32) (p2 : Int32) (p3 : Int32) (σ : sgS) : Option (Int32) :=
  sg_cr (f_J1_canEncode_9a6ad N p1 σ) fun v1 =>
if v1 = 0 then
  (some ((-1)))
else
  (if ((if p2 < 0 then 0 else p2)) < ((if (Int32.ofNat (sg_sl i)) < p3 then (Int32.ofNat (sg_sl i)) else p3)) then
    (sg_cr (f_J1_indexOfChar_4cfef N i p1 ((if p2 < 0 then 0 else p2)) ((if (Int32.ofNat (sg_sl i)) < p3 then (Int32.ofNat (sg_sl i)) else p3)) σ) fun v2 =>
    some v2)
  else
    (some ((-1))))
set_option maxHeartbeats 4000000 in
set_option maxRecDepth 100000 in
theorem b_J1_indexOf_4cfef {p : Program} {l : Launch} {e : Env} {R : Room} {s : State} {m : MethodId} {args : Array Value} {below : List Frame} {meth : Method} {c : Code} {Q : State → Prop} {P : sgP} {A : Nat → Prop} {sh : Nat → sgE} {n : Nat} {N : Nat} {i : Nat} {p1 : Int32} {p2 : Int32} {p3 : Int32} {σ : sgS} (X : sg_C P A 2 p R s m args c cJ1_indexOf_4cfef 4 RJ1) (hi : i < 3) {H : Heap} {locs : List Loc} (I : sg_I P sh n A s.heap σ H locs) {ls : Array Slot} (hl : lv_has ls 4 [(0, .ref (sgV P i)), (1, .int p1), (2, .int p2), (3, .int p3)]) {st : Int32} (h : f_J1_indexOf_4cfef N i p1 p2 p3 σ = some st) (hk : sg_Ri p l e R s m args below meth c Q P sh n A cJ1_indexOf_4cfef (some .int) (st, σ)) : W p l e R s m args below meth c H locs 0 0 Q (F0 m 0 ls []) := by
  unfold f_J1_indexOf_4cfef at h
  have hx := X.1.1
  have hb := X.1.2.1
  have hown := X.1.2.2.2.1
  have hts := X.1.2.2.2.2
  refine lv_iload_n hx hb dJ1_indexOf_4cfef_0 rfl (lv_at hl 1 rfl) ?_
  refine sg_callSr (As := [.int p1]) X I mk_J1_88 (by decide) (fun q9 e9 => c_J1_canEncode_9a6ad e9) h hl.1 rfl rfl (Nat.le_of_ble_eq_true rfl) dJ1_indexOf_4cfef_1 (fun v1 H locs h I => ?_)
  refine lv_if_ne (tgt := 9) hx hb dJ1_indexOf_4cfef_4 (by decide) (fun z => ?_) (fun z => ?_)
  · have h := sg_iff h z
    refine lv_iload_n hx hb dJ1_indexOf_4cfef_9 rfl (lv_at hl 2 rfl) ?_
    refine lv_iconst (v := 0) hx hb dJ1_indexOf_4cfef_10 (by decide) ?_
    refine sg_mmax X hl.1 (by first | decide | omega) qw_284 qw_285 qw_286 qw_287 (Nat.le_of_ble_eq_true rfl) dJ1_indexOf_4cfef_11 ?_
    refine lv_istore_n (lv' := [(2, .int ((if p2 < 0 then 0 else p2))), (0, .ref (sgV P i)), (1, .int p1), (3, .int p3)]) hx hb dJ1_indexOf_4cfef_14 rfl hl (by decide) rfl (fun ls hl => ?_)
    refine lv_iload_n hx hb dJ1_indexOf_4cfef_15 rfl (lv_at hl 3 rfl) ?_
    refine lv_aload_n hx hb dJ1_indexOf_4cfef_16 rfl (lv_at hl 1 rfl) ?_
    refine sg_slen X I hi dJ1_indexOf_4cfef_17 ?_
    refine sg_mmin X hl.1 (by first | decide | omega) qw_288 qw_289 qw_286 qw_290 (Nat.le_of_ble_eq_true rfl) dJ1_indexOf_4cfef_18 ?_
    refine lv_istore_n (lv' := [(3, .int ((if (Int32.ofNat (sg_sl i)) < p3 then (Int32.ofNat (sg_sl i)) else p3))), (2, .int ((if p2 < 0 then 0 else p2))), (0, .ref (sgV P i)), (1, .int p1)]) hx hb dJ1_indexOf_4cfef_21 rfl hl (by decide) rfl (fun ls hl => ?_)
    refine lv_iload_n hx hb dJ1_indexOf_4cfef_22 rfl (lv_at hl 1 rfl) ?_
    refine lv_iload_n hx hb dJ1_indexOf_4cfef_23 rfl (lv_at hl 0 rfl) ?_
    refine lv_icmp_lt (tgt := 29) hx hb dJ1_indexOf_4cfef_24 (by decide) (fun z => ?_) (fun z => ?_)
    · have h := sg_ift h z
      refine lv_aload_n hx hb dJ1_indexOf_4cfef_29 rfl (lv_at hl 2 rfl) ?_
      refine lv_iload_n hx hb dJ1_indexOf_4cfef_30 rfl (lv_at hl 3 rfl) ?_
      refine lv_iload_n hx hb dJ1_indexOf_4cfef_31 rfl (lv_at hl 1 rfl) ?_
      refine lv_iload_n hx hb dJ1_indexOf_4cfef_32 rfl (lv_at hl 0 rfl) ?_
      refine sg_callSr (As := [.ref (sgV P i), .int p1, .int ((if p2 < 0 then 0 else p2)), .int ((if (Int32.ofNat (sg_sl i)) < p3 then (Int32.ofNat (sg_sl i)) else p3))]) X I mk_J1_95 (by decide) (fun q9 e9 => c_J1_indexOfChar_4cfef hi e9) h hl.1 rfl rfl (Nat.le_of_ble_eq_true rfl) dJ1_indexOf_4cfef_33 (fun v2 H locs h I => ?_)
      obtain rfl := Option.some.inj h
      exact hk _ _ _ _ _ I ⟨_, rfl, rfl⟩ dJ1_indexOf_4cfef_36
    · have h := sg_iff h z
      refine lv_iconst (v := -1) hx hb dJ1_indexOf_4cfef_27 (by decide) ?_
      obtain rfl := Option.some.inj h
      exact hk _ _ _ _ _ I ⟨_, rfl, rfl⟩ dJ1_indexOf_4cfef_28
  · have h := sg_ift h z
    refine lv_iconst (v := -1) hx hb dJ1_indexOf_4cfef_7 (by decide) ?_
    obtain rfl := Option.some.inj h
    exact hk _ _ _ _ _ I ⟨_, rfl, rfl⟩ dJ1_indexOf_4cfef_8
set_option maxHeartbeats 4000000 in
set_option maxRecDepth 100000 in
theorem c_J1_indexOf_4cfef {l : Launch} {P : sgP} {sh : Nat → sgE} {n : Nat} {N : Nat} {i : Nat} {p1 : Int32} {p2 : Int32} {p3 : Int32} {σ : sgS} (hi : i < 3) {q : Int32} (h : f_J1_indexOf_4cfef N i p1 p2 p3 σ = some q) : sg_Mi P sh n l yJ1_indexOf_4cfef cJ1_indexOf_4cfef 4 (some .int) 2 [.ref (sgV P i), .int p1, .int p2, .int p3] σ (q, σ) := by
  refine sg_mki (plainFor_of_name (by decide +kernel)) (Nat.le_of_ble_eq_true rfl) ?_
  intro p e R s m args below meth c Q A ls H locs X I hl hk
  exact b_J1_indexOf_4cfef X hi I hl h hk
def f_J0_indexOf_7cf53 (N : Nat) (i : Nat) (p1 : Int32) (p2 : Int32) (σ : sgS) : Option (Int32) :=
  sg_cr (f_J0_isLatin1_aae02 N i σ) fun v1 =>
if v1 = 0 then
  (none)
else
  (sg_cr (f_J0_length_8abf5 N i σ) fun v2 =>
  sg_cr (f_J1_indexOf_4cfef N i p1 p2 v2 σ) fun v3 =>
  some v3)
set_option maxHeartbeats 4000000 in
set_option maxRecDepth 100000 in
theorem b_J0_indexOf_7cf53 {p : Program} {l : Launch} {e : Env} {R : Room} {s : State} {m : MethodId} {args : Array Value} {below : List Frame} {meth : Method} {c : Code} {Q : State → Prop} {P : sgP} {A : Nat → Prop} {sh : Nat → sgE} {n : Nat} {N : Nat} {i : Nat} {p1 : Int32} {p2 : Int32} {σ : sgS} (X : sg_C P A 3 p R s m args c cJ0_indexOf_7cf53 3 RJ0) (hi : i < 3) {H : Heap} {locs : List Loc} (I : sg_I P sh n A s.heap σ H locs) {ls : Array Slot} (hl : lv_has ls 3 [(0, .ref (sgK P i)), (1, .int p1), (2, .int p2)]) {st : Int32} (h : f_J0_indexOf_7cf53 N i p1 p2 σ = some st) (hk : sg_Ri p l e R s m args below meth c Q P sh n A cJ0_indexOf_7cf53 (some .int) (st, σ)) : W p l e R s m args below meth c H locs 0 0 Q (F0 m 0 ls []) := by
  unfold f_J0_indexOf_7cf53 at h
  have hx := X.1.1
  have hb := X.1.2.1
  have hown := X.1.2.2.2.1
  have hts := X.1.2.2.2.2
  refine lv_aload_n hx hb dJ0_indexOf_7cf53_0 rfl (lv_at hl 0 rfl) ?_
  refine sg_callK (As := []) X I mk_J0_492 (by decide) hi (fun q9 e9 => c_J0_isLatin1_aae02 hi e9) h hl.1 rfl rfl (Nat.le_of_ble_eq_true rfl) dJ0_indexOf_7cf53_1 (fun v1 H locs h I => ?_)
  refine lv_if_eq (tgt := 23) hx hb dJ0_indexOf_7cf53_4 (by decide) (fun z => ?_) (fun z => ?_)
  · have h := sg_ift h z
    cases h
  · have h := sg_iff h z
    refine lv_aload_n hx hb dJ0_indexOf_7cf53_7 rfl (lv_at hl 0 rfl) ?_
    refine sg_sval X I hi qw_82 dJ0_indexOf_7cf53_8 ?_
    refine lv_iload_n hx hb dJ0_indexOf_7cf53_11 rfl (lv_at hl 1 rfl) ?_
    refine lv_iload_n hx hb dJ0_indexOf_7cf53_12 rfl (lv_at hl 2 rfl) ?_
    refine lv_aload_n hx hb dJ0_indexOf_7cf53_13 rfl (lv_at hl 0 rfl) ?_
    refine sg_callK (As := []) X I mk_J0_505 (by decide) hi (fun q9 e9 => c_J0_length_8abf5 hi e9) h hl.1 rfl rfl (Nat.le_of_ble_eq_true rfl) dJ0_indexOf_7cf53_14 (fun v2 H locs h I => ?_)
    refine sg_callSr (As := [.ref (sgV P i), .int p1, .int p2, .int v2]) X I mk_J0_637 (by decide) (fun q9 e9 => c_J1_indexOf_4cfef hi e9) h hl.1 rfl rfl (Nat.le_of_ble_eq_true rfl) dJ0_indexOf_7cf53_17 (fun v3 H locs h I => ?_)
    refine lv_goto (tgt := 36) hx hb dJ0_indexOf_7cf53_20 (by decide) ?_
    obtain rfl := Option.some.inj h
    exact hk _ _ _ _ _ I ⟨_, rfl, rfl⟩ dJ0_indexOf_7cf53_36
set_option maxHeartbeats 4000000 in
set_option maxRecDepth 100000 in
theorem c_J0_indexOf_7cf53 {l : Launch} {P : sgP} {sh : Nat → sgE} {n : Nat} {N : Nat} {i : Nat} {p1 : Int32} {p2 : Int32} {σ : sgS} (hi : i < 3) {q : Int32} (h : f_J0_indexOf_7cf53 N i p1 p2 σ = some q) : sg_Mi P sh n l yJ0_indexOf_7cf53 cJ0_indexOf_7cf53 3 (some .int) 3 [.ref (sgK P i), .int p1, .int p2] σ (q, σ) := by
  refine sg_mki (plainFor_of_name (by decide +kernel)) (Nat.le_of_ble_eq_true rfl) ?_
  intro p e R s m args below meth c Q A ls H locs X I hl hk
  exact b_J0_indexOf_7cf53 X hi I hl h hk
def f_J0_indexOf_0f7a4 (N : Nat) (i : Nat) (p1 : Int32) (σ : sgS) : Option (Int32) :=
  sg_cr (f_J0_indexOf_7cf53 N i p1 0 σ) fun v1 =>
some v1
set_option maxHeartbeats 4000000 in
set_option maxRecDepth 100000 in
theorem b_J0_indexOf_0f7a4 {p : Program} {l : Launch} {e : Env} {R : Room} {s : State} {m : MethodId} {args : Array Value} {below : List Frame} {meth : Method} {c : Code} {Q : State → Prop} {P : sgP} {A : Nat → Prop} {sh : Nat → sgE} {n : Nat} {N : Nat} {i : Nat} {p1 : Int32} {σ : sgS} (X : sg_C P A 4 p R s m args c cJ0_indexOf_0f7a4 2 RJ0) (hi : i < 3) {H : Heap} {locs : List Loc} (I : sg_I P sh n A s.heap σ H locs) {ls : Array Slot} (hl : lv_has ls 2 [(0, .ref (sgK P i)), (1, .int p1)]) {st : Int32} (h : f_J0_indexOf_0f7a4 N i p1 σ = some st) (hk : sg_Ri p l e R s m args below meth c Q P sh n A cJ0_indexOf_0f7a4 (some .int) (st, σ)) : W p l e R s m args below meth c H locs 0 0 Q (F0 m 0 ls []) := by
  unfold f_J0_indexOf_0f7a4 at h
  have hx := X.1.1
  have hb := X.1.2.1
  have hown := X.1.2.2.2.1
  have hts := X.1.2.2.2.2
  refine lv_aload_n hx hb dJ0_indexOf_0f7a4_0 rfl (lv_at hl 0 rfl) ?_
  refine lv_iload_n hx hb dJ0_indexOf_0f7a4_1 rfl (lv_at hl 1 rfl) ?_
  refine lv_iconst (v := 0) hx hb dJ0_indexOf_0f7a4_2 (by decide) ?_
  refine sg_callK (As := [.int p1, .int 0]) X I mk_J0_633 (by decide) hi (fun q9 e9 => c_J0_indexOf_7cf53 hi e9) h hl.1 rfl rfl (Nat.le_of_ble_eq_true rfl) dJ0_indexOf_0f7a4_3 (fun v1 H locs h I => ?_)
  obtain rfl := Option.some.inj h
  exact hk _ _ _ _ _ I ⟨_, rfl, rfl⟩ dJ0_indexOf_0f7a4_6
set_option maxHeartbeats 4000000 in
set_option maxRecDepth 100000 in
theorem c_J0_indexOf_0f7a4 {l : Launch} {P : sgP} {sh : Nat → sgE} {n : Nat} {N : Nat} {i : Nat} {p1 : Int32} {σ : sgS} (hi : i < 3) {q : Int32} (h : f_J0_indexOf_0f7a4 N i p1 σ = some q) : sg_Mi P sh n l yJ0_indexOf_0f7a4 cJ0_indexOf_0f7a4 2 (some .int) 4 [.ref (sgK P i), .int p1] σ (q, σ) := by
  refine sg_mki (plainFor_of_name (by decide +kernel)) (Nat.le_of_ble_eq_true rfl) ?_
  intro p e R s m args below meth c Q A ls H locs X I hl hk
  exact b_J0_indexOf_0f7a4 X hi I hl h hk
def f_X0_clausesOf (N : Nat) (o : Nat) (p1 : Int32) (σ : sgS) : Option (Int32) :=
  if p1 = 0 then
  (some (σ.1 o 0))
else
  (if p1 = 1 then
    (some (σ.1 o 3))
  else
    (if p1 = 2 then
      (some (σ.1 o 4))
    else
      (some (σ.1 o 5))))
set_option maxHeartbeats 4000000 in
set_option maxRecDepth 100000 in
theorem b_X0_clausesOf {p : Program} {l : Launch} {e : Env} {R : Room} {s : State} {m : MethodId} {args : Array Value} {below : List Frame} {meth : Method} {c : Code} {Q : State → Prop} {P : sgP} {A : Nat → Prop} {N : Nat} {o : Nat} {p1 : Int32} {σ : sgS} (X : sg_C P A 1 p R s m args c cX0_clausesOf 2 RX0) (ho : isCo o) {H : Heap} {locs : List Loc} (I : sg_I P shC 332 A s.heap σ H locs) {ls : Array Slot} (hl : lv_has ls 2 [(0, .ref (sgA P o)), (1, .int p1)]) {st : Int32} (h : f_X0_clausesOf N o p1 σ = some st) (hk : sg_Ri p l e R s m args below meth c Q P shC 332 A cX0_clausesOf (some .int) (st, σ)) : W p l e R s m args below meth c H locs 0 0 Q (F0 m 0 ls []) := by
  unfold f_X0_clausesOf at h
  have hx := X.1.1
  have hb := X.1.2.1
  have hown := X.1.2.2.2.1
  have hts := X.1.2.2.2.2
  refine lv_iload_n hx hb dX0_clausesOf_0 rfl (lv_at hl 1 rfl) ?_
  by_cases c0 : p1 = 0
  · have h := sg_ift h c0
    refine sg_swIn (k := 0) (off := 27) (tgt := 28) hx hb dX0_clausesOf_1 c0 (by decide) (by decide) (by decide +kernel) (by decide) ?_
    refine lv_aload_n hx hb dX0_clausesOf_28 rfl (lv_at hl 0 rfl) ?_
    refine sg_geti X I fk_X0_69 (isCo_i0 ho) (isCo_s0 ho) rfl dX0_clausesOf_29 ?_
    obtain rfl := Option.some.inj h
    exact hk _ _ _ _ _ I ⟨_, rfl, rfl⟩ dX0_clausesOf_32
  have h := sg_iff h c0
  have i0 := sg_ine (z := 0) (by decide) c0
  by_cases c1 : p1 = 1
  · have h := sg_ift h c1
    refine sg_swIn (k := 1) (off := 32) (tgt := 33) hx hb dX0_clausesOf_1 c1 (by decide) (by decide) (by decide +kernel) (by decide) ?_
    refine lv_aload_n hx hb dX0_clausesOf_33 rfl (lv_at hl 0 rfl) ?_
    refine sg_geti X I fk_X0_40 (isCo_i0 ho) (isCo_s0 ho) rfl dX0_clausesOf_34 ?_
    obtain rfl := Option.some.inj h
    exact hk _ _ _ _ _ I ⟨_, rfl, rfl⟩ dX0_clausesOf_37
  have h := sg_iff h c1
  have i1 := sg_ine (z := 1) (by decide) c1
  by_cases c2 : p1 = 2
  · have h := sg_ift h c2
    refine sg_swIn (k := 2) (off := 37) (tgt := 38) hx hb dX0_clausesOf_1 c2 (by decide) (by decide) (by decide +kernel) (by decide) ?_
    refine lv_aload_n hx hb dX0_clausesOf_38 rfl (lv_at hl 0 rfl) ?_
    refine sg_geti X I fk_X0_48 (isCo_i0 ho) (isCo_s0 ho) rfl dX0_clausesOf_39 ?_
    obtain rfl := Option.some.inj h
    exact hk _ _ _ _ _ I ⟨_, rfl, rfl⟩ dX0_clausesOf_42
  have h := sg_iff h c2
  have i2 := sg_ine (z := 2) (by decide) c2
  refine lv_tableOut (tgt := 43) hx hb dX0_clausesOf_1 (by omega) (by decide) ?_
  refine lv_aload_n hx hb dX0_clausesOf_43 rfl (lv_at hl 0 rfl) ?_
  refine sg_geti X I fk_X0_51 (isCo_i0 ho) (isCo_s0 ho) rfl dX0_clausesOf_44 ?_
  obtain rfl := Option.some.inj h
  exact hk _ _ _ _ _ I ⟨_, rfl, rfl⟩ dX0_clausesOf_47
set_option maxHeartbeats 4000000 in
set_option maxRecDepth 100000 in
theorem c_X0_clausesOf {l : Launch} {P : sgP} {N : Nat} {o : Nat} {p1 : Int32} {σ : sgS} (ho : isCo o) {q : Int32} (h : f_X0_clausesOf N o p1 σ = some q) : sg_Mi P shC 332 l yX0_clausesOf cX0_clausesOf 2 (some .int) 1 [.ref (sgA P o), .int p1] σ (q, σ) := by
  refine sg_mki (plainFor_of_name (by decide +kernel)) (Nat.le_of_ble_eq_true rfl) ?_
  intro p e R s m args below meth c Q A ls H locs X I hl hk
  exact b_X0_clausesOf X ho I hl h hk
def f_J1_charAt_3b067 (N : Nat) (i : Nat) (p1 : Int32) (σ : sgS) : Option (Int32) :=
  sg_cr (f_J0_checkIndex_df160 N p1 (Int32.ofNat (sg_sl i)) σ) fun v1 =>
sg_bt i p1 fun v2 =>
some (vp_nar .char (((v2 &&& 255).toUInt32 % 65536).toInt32))
set_option maxHeartbeats 4000000 in
set_option maxRecDepth 100000 in
theorem b_J1_charAt_3b067 {p : Program} {l : Launch} {e : Env} {R : Room} {s : State} {m : MethodId} {args : Array Value} {below : List Frame} {meth : Method} {c : Code} {Q : State → Prop} {P : sgP} {A : Nat → Prop} {sh : Nat → sgE} {n : Nat} {N : Nat} {i : Nat} {p1 : Int32} {σ : sgS} (X : sg_C P A 3 p R s m args c cJ1_charAt_3b067 2 RJ1) (hi : i < 3) {H : Heap} {locs : List Loc} (I : sg_I P sh n A s.heap σ H locs) {ls : Array Slot} (hl : lv_has ls 2 [(0, .ref (sgV P i)), (1, .int p1)]) {st : Int32} (h : f_J1_charAt_3b067 N i p1 σ = some st) (hk : sg_Ri p l e R s m args below meth c Q P sh n A cJ1_charAt_3b067 (some .char) (st, σ)) : W p l e R s m args below meth c H locs 0 0 Q (F0 m 0 ls []) := by
  unfold f_J1_charAt_3b067 at h
  have hx := X.1.1
  have hb := X.1.2.1
  have hown := X.1.2.2.2.1
  have hts := X.1.2.2.2.2
  refine lv_iload_n hx hb dJ1_charAt_3b067_0 rfl (lv_at hl 1 rfl) ?_
  refine lv_aload_n hx hb dJ1_charAt_3b067_1 rfl (lv_at hl 0 rfl) ?_
  refine sg_slen X I hi dJ1_charAt_3b067_2 ?_
  refine sg_callSvr (As := [.int p1, .int (Int32.ofNat (sg_sl i))]) X I mk_J1_9 (by decide) (fun q9 e9 => c_J0_checkIndex_df160 e9) h hl.1 rfl rfl (Nat.le_of_ble_eq_true rfl) dJ1_charAt_3b067_3 (fun v1 H locs h I => ?_)
  refine lv_aload_n hx hb dJ1_charAt_3b067_6 rfl (lv_at hl 0 rfl) ?_
  refine lv_iload_n hx hb dJ1_charAt_3b067_7 rfl (lv_at hl 1 rfl) ?_
  refine sg_sbal X I hi h dJ1_charAt_3b067_8 (fun v2 h => ?_)
  refine lv_sipush (v := 255) hx hb dJ1_charAt_3b067_9 (by decide) ?_
  refine lv_iand hx hb dJ1_charAt_3b067_12 ?_
  refine lv_i2c (v := ((v2 &&& 255).toUInt32 % 65536).toInt32) hx hb dJ1_charAt_3b067_13 rfl ?_
  obtain rfl := Option.some.inj h
  exact hk _ _ _ _ _ I ⟨_, rfl, rfl⟩ dJ1_charAt_3b067_14
set_option maxHeartbeats 4000000 in
set_option maxRecDepth 100000 in
theorem c_J1_charAt_3b067 {l : Launch} {P : sgP} {sh : Nat → sgE} {n : Nat} {N : Nat} {i : Nat} {p1 : Int32} {σ : sgS} (hi : i < 3) {q : Int32} (h : f_J1_charAt_3b067 N i p1 σ = some q) : sg_Mi P sh n l yJ1_charAt_3b067 cJ1_charAt_3b067 2 (some .char) 3 [.ref (sgV P i), .int p1] σ (q, σ) := by
  refine sg_mki (plainFor_of_name (by decide +kernel)) (Nat.le_of_ble_eq_true rfl) ?_
  intro p e R s m args below meth c Q A ls H locs X I hl hk
  exact b_J1_charAt_3b067 X hi I hl h hk
def f_J0_charAt_5068e (N : Nat) (i : Nat) (p1 : Int32) (σ : sgS) : Option (Int32) :=
  sg_cr (f_J0_isLatin1_aae02 N i σ) fun v1 =>
if v1 = 0 then
  (none)
else
  (sg_cr (f_J1_charAt_3b067 N i p1 σ) fun v2 =>
  some (vp_nar .char v2))
set_option maxHeartbeats 4000000 in
set_option maxRecDepth 100000 in
theorem b_J0_charAt_5068e {p : Program} {l : Launch} {e : Env} {R : Room} {s : State} {m : MethodId} {args : Array Value} {below : List Frame} {meth : Method} {c : Code} {Q : State → Prop} {P : sgP} {A : Nat → Prop} {sh : Nat → sgE} {n : Nat} {N : Nat} {i : Nat} {p1 : Int32} {σ : sgS} (X : sg_C P A 4 p R s m args c cJ0_charAt_5068e 2 RJ0) (hi : i < 3) {H : Heap} {locs : List Loc} (I : sg_I P sh n A s.heap σ H locs) {ls : Array Slot} (hl : lv_has ls 2 [(0, .ref (sgK P i)), (1, .int p1)]) {st : Int32} (h : f_J0_charAt_5068e N i p1 σ = some st) (hk : sg_Ri p l e R s m args below meth c Q P sh n A cJ0_charAt_5068e (some .char) (st, σ)) : W p l e R s m args below meth c H locs 0 0 Q (F0 m 0 ls []) := by
  unfold f_J0_charAt_5068e at h
  have hx := X.1.1
  have hb := X.1.2.1
  have hown := X.1.2.2.2.1
  have hts := X.1.2.2.2.2
  refine lv_aload_n hx hb dJ0_charAt_5068e_0 rfl (lv_at hl 0 rfl) ?_
  refine sg_callK (As := []) X I mk_J0_492 (by decide) hi (fun q9 e9 => c_J0_isLatin1_aae02 hi e9) h hl.1 rfl rfl (Nat.le_of_ble_eq_true rfl) dJ0_charAt_5068e_1 (fun v1 H locs h I => ?_)
  refine lv_if_eq (tgt := 16) hx hb dJ0_charAt_5068e_4 (by decide) (fun z => ?_) (fun z => ?_)
  · have h := sg_ift h z
    cases h
  · have h := sg_iff h z
    refine lv_aload_n hx hb dJ0_charAt_5068e_7 rfl (lv_at hl 0 rfl) ?_
    refine sg_sval X I hi qw_82 dJ0_charAt_5068e_8 ?_
    refine lv_iload_n hx hb dJ0_charAt_5068e_11 rfl (lv_at hl 1 rfl) ?_
    refine sg_callSr (As := [.ref (sgV P i), .int p1]) X I mk_J0_495 (by decide) (fun q9 e9 => c_J1_charAt_3b067 hi e9) h hl.1 rfl rfl (Nat.le_of_ble_eq_true rfl) dJ0_charAt_5068e_12 (fun v2 H locs h I => ?_)
    obtain rfl := Option.some.inj h
    exact hk _ _ _ _ _ I ⟨_, rfl, rfl⟩ dJ0_charAt_5068e_15
set_option maxHeartbeats 4000000 in
set_option maxRecDepth 100000 in
theorem c_J0_charAt_5068e {l : Launch} {P : sgP} {sh : Nat → sgE} {n : Nat} {N : Nat} {i : Nat} {p1 : Int32} {σ : sgS} (hi : i < 3) {q : Int32} (h : f_J0_charAt_5068e N i p1 σ = some q) : sg_Mi P sh n l yJ0_charAt_5068e cJ0_charAt_5068e 2 (some .char) 4 [.ref (sgK P i), .int p1] σ (q, σ) := by
  refine sg_mki (plainFor_of_name (by decide +kernel)) (Nat.le_of_ble_eq_true rfl) ?_
  intro p e R s m args below meth c Q A ls H locs X I hl hk
  exact b_J0_charAt_5068e X hi I hl h hk
def f_X0_itemOf_L2 (N : Nat) (p0 : Int32) (p1 : Int32) (p2 : Int32) (x3 : Int32) (σ : sgS) : Option ((Int32) ⊕ ((Int32) ⊕ (Unit))) :=
  if p2 ≤ x3 then
  (some (.inr (.inr ())))
else
  (sg_cr (f_J0_charAt_5068e N 0 x3 σ) fun v1 =>
  if v1 = p0 then
    (some (.inl x3))
  else
    (some (.inr (.inl (x3 + 1)))))
set_option maxHeartbeats 4000000 in
set_option maxRecDepth 100000 in
theorem b_X0_itemOf_L2 {p : Program} {l : Launch} {e : Env} {R : Room} {s : State} {m : MethodId} {args : Array Value} {below : List Frame} {meth : Method} {c : Code} {Q : State → Prop} {P : sgP} {A : Nat → Prop} {N : Nat} {p0 : Int32} {p1 : Int32} {p2 : Int32} {x3 : Int32} {σ : sgS} (X : sg_C P A 5 p R s m args c cX0_itemOf 4 RX0) {H : Heap} {locs : List Loc} (I : sg_I P shC 332 A s.heap σ H locs) {ls : Array Slot} (hl : lv_has ls 4 [(0, .int p0), (2, .int p2), (3, .int x3)]) {st : (Int32) ⊕ ((Int32) ⊕ (Unit))} (h : f_X0_itemOf_L2 N p0 p1 p2 x3 σ = some st) (hk : sg_k3 (fun r => sg_Ri p l e R s m args below meth c Q P shC 332 A cX0_itemOf (some .int) (r, σ)) (fun x => sg_Wt p l e R s m args below meth c Q P shC 332 A 4 2 σ [(0, .int p0), (2, .int p2), (3, .int x)]) (fun y => sg_Wt p l e R s m args below meth c Q P shC 332 A 4 25 σ []) st) : W p l e R s m args below meth c H locs 0 0 Q (F0 m 2 ls []) := by
  unfold f_X0_itemOf_L2 at h
  have hx := X.1.1
  have hb := X.1.2.1
  have hown := X.1.2.2.2.1
  have hts := X.1.2.2.2.2
  refine lv_iload_n hx hb dX0_itemOf_2 rfl (lv_at hl 2 rfl) ?_
  refine lv_iload_n hx hb dX0_itemOf_3 rfl (lv_at hl 1 rfl) ?_
  refine lv_icmp_ge (tgt := 25) hx hb dX0_itemOf_4 (by decide) (fun z => ?_) (fun z => ?_)
  · have h := sg_ift h z
    obtain rfl := Option.some.inj h
    exact sg_go hk I (lv_sub hl [] rfl)
  · have h := sg_iff h z
    refine sg_ldcs (i := 0) X X.2.2.2.2.1.2.2.1.1 dX0_itemOf_7 ?_
    refine lv_iload_n hx hb dX0_itemOf_9 rfl (lv_at hl 2 rfl) ?_
    refine sg_callK (As := [.int x3]) X I mk_X0_125 (by decide) (by decide) (fun q9 e9 => c_J0_charAt_5068e (by decide) e9) h hl.1 rfl rfl (Nat.le_of_ble_eq_true rfl) dX0_itemOf_10 (fun v1 H locs h I => ?_)
    refine lv_iload_n hx hb dX0_itemOf_13 rfl (lv_at hl 0 rfl) ?_
    refine lv_icmp_ne (tgt := 19) hx hb dX0_itemOf_14 (by decide) (fun z => ?_) (fun z => ?_)
    · have h := sg_iff h z
      refine lv_iinc (v := x3 + 1) (lv' := [(3, .int (x3 + 1)), (0, .int p0), (2, .int p2)]) hx hb dX0_itemOf_19 hl (k := 2) rfl rfl (by decide) rfl (fun ls hl => ?_)
      refine lv_goto (tgt := 2) hx hb dX0_itemOf_22 (by decide) ?_
      obtain rfl := Option.some.inj h
      exact sg_go hk I (lv_sub hl [1, 2, 0] rfl)
    · have h := sg_ift h z
      refine lv_iload_n hx hb dX0_itemOf_17 rfl (lv_at hl 2 rfl) ?_
      obtain rfl := Option.some.inj h
      exact hk _ _ _ _ _ I ⟨_, rfl, rfl⟩ dX0_itemOf_18
def f_X0_itemOf (N : Nat) (p0 : Int32) (p1 : Int32) (p2 : Int32) (σ : sgS) : Option (Int32) :=
  sg_lb (sg_lp (fun x => f_X0_itemOf_L2 N p0 p1 p2 x σ) N p1) (fun r => some r) fun y2 =>
some ((-1))
set_option maxHeartbeats 4000000 in
set_option maxRecDepth 100000 in
theorem b_X0_itemOf {p : Program} {l : Launch} {e : Env} {R : Room} {s : State} {m : MethodId} {args : Array Value} {below : List Frame} {meth : Method} {c : Code} {Q : State → Prop} {P : sgP} {A : Nat → Prop} {N : Nat} {p0 : Int32} {p1 : Int32} {p2 : Int32} {σ : sgS} (X : sg_C P A 5 p R s m args c cX0_itemOf 4 RX0) {H : Heap} {locs : List Loc} (I : sg_I P shC 332 A s.heap σ H locs) {ls : Array Slot} (hl : lv_has ls 4 [(0, .int p0), (1, .int p1), (2, .int p2)]) {st : Int32} (h : f_X0_itemOf N p0 p1 p2 σ = some st) (hk : sg_Ri p l e R s m args below meth c Q P shC 332 A cX0_itemOf (some .int) (st, σ)) : W p l e R s m args below meth c H locs 0 0 Q (F0 m 0 ls []) := by
  unfold f_X0_itemOf at h
  have hx := X.1.1
  have hb := X.1.2.1
  have hown := X.1.2.2.2.1
  have hts := X.1.2.2.2.2
  refine lv_iload_n hx hb dX0_itemOf_0 rfl (lv_at hl 1 rfl) ?_
  refine lv_istore_n (lv' := [(3, .int p1), (0, .int p0), (1, .int p1), (2, .int p2)]) hx hb dX0_itemOf_1 rfl hl (by decide) rfl (fun ls hl => ?_)
  obtain ⟨res, e9, k9⟩ := sg_lb_some h
  refine sg_go (sg_lp_W (a := (fun r => sg_Ri p l e R s m args below meth c Q P shC 332 A cX0_itemOf (some .int) (r, σ))) (w := (fun x => sg_Wt p l e R s m args below meth c Q P shC 332 A 4 2 σ [(0, .int p0), (2, .int p2), (3, .int x)])) (c := (fun y => sg_Wt p l e R s m args below meth c Q P shC 332 A 4 25 σ [])) (fun x st hb9 hk9 => ?_) N p1 res e9 (sg_k2_mono k9 (fun r h => ?_) (fun y2 h => ?_))) I (lv_sub hl [1, 3, 0] rfl)
  · intro H locs ls I hl
    exact b_X0_itemOf_L2 X I hl hb9 hk9
  · obtain rfl := Option.some.inj h
    exact hk
  · intro H locs ls I hl
    refine lv_iconst (v := -1) hx hb dX0_itemOf_25 (by decide) ?_
    obtain rfl := Option.some.inj h
    exact hk _ _ _ _ _ I ⟨_, rfl, rfl⟩ dX0_itemOf_26
set_option maxHeartbeats 4000000 in
set_option maxRecDepth 100000 in
theorem c_X0_itemOf {l : Launch} {P : sgP} {N : Nat} {p0 : Int32} {p1 : Int32} {p2 : Int32} {σ : sgS} {q : Int32} (h : f_X0_itemOf N p0 p1 p2 σ = some q) : sg_Mi P shC 332 l yX0_itemOf cX0_itemOf 4 (some .int) 5 [.int p0, .int p1, .int p2] σ (q, σ) := by
  refine sg_mki (plainFor_of_name (by decide +kernel)) (Nat.le_of_ble_eq_true rfl) ?_
  intro p e R s m args below meth c Q A ls H locs X I hl hk
  exact b_X0_itemOf X I hl h hk
def f_X9_isDigit (N : Nat) (p0 : Int32) (σ : sgS) : Option (Int32) :=
  if p0 < 48 then
  (some (vp_nar .boolean 0))
else
  (if 57 < p0 then
    (some (vp_nar .boolean 0))
  else
    (some (vp_nar .boolean 1)))
set_option maxHeartbeats 4000000 in
set_option maxRecDepth 100000 in
theorem b_X9_isDigit {p : Program} {l : Launch} {e : Env} {R : Room} {s : State} {m : MethodId} {args : Array Value} {below : List Frame} {meth : Method} {c : Code} {Q : State → Prop} {P : sgP} {A : Nat → Prop} {N : Nat} {p0 : Int32} {σ : sgS} (X : sg_C P A 1 p R s m args c cX9_isDigit 1 RX9) {H : Heap} {locs : List Loc} (I : sg_I P shC 332 A s.heap σ H locs) {ls : Array Slot} (hl : lv_has ls 1 [(0, .int p0)]) {st : Int32} (h : f_X9_isDigit N p0 σ = some st) (hk : sg_Ri p l e R s m args below meth c Q P shC 332 A cX9_isDigit (some .boolean) (st, σ)) : W p l e R s m args below meth c H locs 0 0 Q (F0 m 0 ls []) := by
  unfold f_X9_isDigit at h
  have hx := X.1.1
  have hb := X.1.2.1
  have hown := X.1.2.2.2.1
  have hts := X.1.2.2.2.2
  refine lv_iload_n hx hb dX9_isDigit_0 rfl (lv_at hl 0 rfl) ?_
  refine lv_bipush (v := 48) hx hb dX9_isDigit_1 (by decide) ?_
  refine lv_icmp_lt (tgt := 16) hx hb dX9_isDigit_3 (by decide) (fun z => ?_) (fun z => ?_)
  · have h := sg_ift h z
    refine lv_iconst (v := 0) hx hb dX9_isDigit_16 (by decide) ?_
    obtain rfl := Option.some.inj h
    exact hk _ _ _ _ _ I ⟨_, rfl, rfl⟩ dX9_isDigit_17
  · have h := sg_iff h z
    refine lv_iload_n hx hb dX9_isDigit_6 rfl (lv_at hl 0 rfl) ?_
    refine lv_bipush (v := 57) hx hb dX9_isDigit_7 (by decide) ?_
    refine lv_icmp_gt (tgt := 16) hx hb dX9_isDigit_9 (by decide) (fun z => ?_) (fun z => ?_)
    · have h := sg_ift h z
      refine lv_iconst (v := 0) hx hb dX9_isDigit_16 (by decide) ?_
      obtain rfl := Option.some.inj h
      exact hk _ _ _ _ _ I ⟨_, rfl, rfl⟩ dX9_isDigit_17
    · have h := sg_iff h z
      refine lv_iconst (v := 1) hx hb dX9_isDigit_12 (by decide) ?_
      refine lv_goto (tgt := 17) hx hb dX9_isDigit_13 (by decide) ?_
      obtain rfl := Option.some.inj h
      exact hk _ _ _ _ _ I ⟨_, rfl, rfl⟩ dX9_isDigit_17
set_option maxHeartbeats 4000000 in
set_option maxRecDepth 100000 in
theorem c_X9_isDigit {l : Launch} {P : sgP} {N : Nat} {p0 : Int32} {σ : sgS} {q : Int32} (h : f_X9_isDigit N p0 σ = some q) : sg_Mi P shC 332 l yX9_isDigit cX9_isDigit 1 (some .boolean) 1 [.int p0] σ (q, σ) := by
  refine sg_mki (plainFor_of_name (by decide +kernel)) (Nat.le_of_ble_eq_true rfl) ?_
  intro p e R s m args below meth c Q A ls H locs X I hl hk
  exact b_X9_isDigit X I hl h hk
def f_X9_number_L4 (N : Nat) (p1 : Int32) (x2 : Int32) (x3 : Int32) (σ : sgS) : Option ((Int32 × sgS) ⊕ ((sgS × Int32 × Int32) ⊕ (sgS × Int32 × Int32))) :=
  if (σ.1 1 1) ≤ (σ.1 1 2) then
  (some (.inr (.inr (σ, x2, x3))))
else
  (sg_ld σ 2 240 (σ.1 1 2) fun v1 =>
  if v1 < 48 then
    (some (.inr (.inr (σ, x2, x3))))
  else
    (sg_ld σ 2 240 (σ.1 1 2) fun v2 =>
    if 57 < v2 then
      (some (.inr (.inr (σ, x2, x3))))
    else
      (if x3 < p1 then
        (sg_ld σ 2 240 (σ.1 1 2) fun v3 =>
        sg_pf σ 1 2 ((σ.1 1 2) + 1) fun s4 =>
        some (.inr (.inl (s4, ((x2 * 10) + v3) - 48, x3 + 1))))
      else
        (some (.inl ((-1), σ))))))
set_option maxHeartbeats 4000000 in
set_option maxRecDepth 100000 in
theorem b_X9_number_L4 {p : Program} {l : Launch} {e : Env} {R : Room} {s : State} {m : MethodId} {args : Array Value} {below : List Frame} {meth : Method} {c : Code} {Q : State → Prop} {P : sgP} {A : Nat → Prop} {N : Nat} {p1 : Int32} {x2 : Int32} {x3 : Int32} {σ : sgS} (X : sg_C P A 1 p R s m args c cX9_number 4 RX9) {H : Heap} {locs : List Loc} (I : sg_I P shC 332 A s.heap σ H locs) {ls : Array Slot} (hl : lv_has ls 4 [(0, .ref (sgA P 1)), (1, .int p1), (2, .int x2), (3, .int x3)]) {st : (Int32 × sgS) ⊕ ((sgS × Int32 × Int32) ⊕ (sgS × Int32 × Int32))} (h : f_X9_number_L4 N p1 x2 x3 σ = some st) (hk : sg_k3 (sg_Ri p l e R s m args below meth c Q P shC 332 A cX9_number (some .int)) (fun x => sg_Wt p l e R s m args below meth c Q P shC 332 A 4 4 x.1 [(0, .ref (sgA P 1)), (1, .int p1), (2, .int x.2.1), (3, .int x.2.2)]) (fun y => sg_Wt p l e R s m args below meth c Q P shC 332 A 4 84 y.1 [(2, .int y.2.1), (3, .int y.2.2)]) st) : W p l e R s m args below meth c H locs 0 0 Q (F0 m 4 ls []) := by
  unfold f_X9_number_L4 at h
  have hx := X.1.1
  have hb := X.1.2.1
  have hown := X.1.2.2.2.1
  have hts := X.1.2.2.2.2
  refine lv_aload_n hx hb dX9_number_4 rfl (lv_at hl 0 rfl) ?_
  refine sg_geti X I fk_X9_19 (by decide) shC_1 rfl dX9_number_5 ?_
  refine lv_aload_n hx hb dX9_number_8 rfl (lv_at hl 0 rfl) ?_
  refine sg_geti X I fk_X9_15 (by decide) shC_1 rfl dX9_number_9 ?_
  refine lv_icmp_ge (tgt := 84) hx hb dX9_number_12 (by decide) (fun z => ?_) (fun z => ?_)
  · have h := sg_ift h z
    obtain rfl := Option.some.inj h
    exact sg_go hk I (lv_sub hl [2, 3] rfl)
  · have h := sg_iff h z
    refine lv_aload_n hx hb dX9_number_15 rfl (lv_at hl 0 rfl) ?_
    refine sg_getr X I fk_X9_9 (j := 2) (by decide) shC_1 rfl dX9_number_16 ?_
    refine lv_aload_n hx hb dX9_number_19 rfl (lv_at hl 0 rfl) ?_
    refine sg_geti X I fk_X9_19 (by decide) shC_1 rfl dX9_number_20 ?_
    refine sg_iald X I (by decide) shC_2 h dX9_number_23 (fun v1 h => ?_)
    refine lv_bipush (v := 48) hx hb dX9_number_24 (by decide) ?_
    refine lv_icmp_lt (tgt := 84) hx hb dX9_number_26 (by decide) (fun z => ?_) (fun z => ?_)
    · have h := sg_ift h z
      obtain rfl := Option.some.inj h
      exact sg_go hk I (lv_sub hl [2, 3] rfl)
    · have h := sg_iff h z
      refine lv_aload_n hx hb dX9_number_29 rfl (lv_at hl 0 rfl) ?_
      refine sg_getr X I fk_X9_9 (j := 2) (by decide) shC_1 rfl dX9_number_30 ?_
      refine lv_aload_n hx hb dX9_number_33 rfl (lv_at hl 0 rfl) ?_
      refine sg_geti X I fk_X9_19 (by decide) shC_1 rfl dX9_number_34 ?_
      refine sg_iald X I (by decide) shC_2 h dX9_number_37 (fun v2 h => ?_)
      refine lv_bipush (v := 57) hx hb dX9_number_38 (by decide) ?_
      refine lv_icmp_gt (tgt := 84) hx hb dX9_number_40 (by decide) (fun z => ?_) (fun z => ?_)
      · have h := sg_ift h z
        obtain rfl := Option.some.inj h
        exact sg_go hk I (lv_sub hl [2, 3] rfl)
      · have h := sg_iff h z
        refine lv_iload_n hx hb dX9_number_43 rfl (lv_at hl 3 rfl) ?_
        refine lv_iload_n hx hb dX9_number_44 rfl (lv_at hl 1 rfl) ?_
        refine lv_icmp_lt (tgt := 50) hx hb dX9_number_45 (by decide) (fun z => ?_) (fun z => ?_)
        · have h := sg_ift h z
          refine lv_iload_n hx hb dX9_number_50 rfl (lv_at hl 2 rfl) ?_
          refine lv_bipush (v := 10) hx hb dX9_number_51 (by decide) ?_
          refine lv_imul hx hb dX9_number_53 ?_
          refine lv_aload_n hx hb dX9_number_54 rfl (lv_at hl 0 rfl) ?_
          refine sg_getr X I fk_X9_9 (j := 2) (by decide) shC_1 rfl dX9_number_55 ?_
          refine lv_aload_n hx hb dX9_number_58 rfl (lv_at hl 0 rfl) ?_
          refine sg_geti X I fk_X9_19 (by decide) shC_1 rfl dX9_number_59 ?_
          refine sg_iald X I (by decide) shC_2 h dX9_number_62 (fun v3 h => ?_)
          refine lv_iadd hx hb dX9_number_63 ?_
          refine lv_bipush (v := 48) hx hb dX9_number_64 (by decide) ?_
          refine lv_isub hx hb dX9_number_66 ?_
          refine lv_istore_n (lv' := [(2, .int (((x2 * 10) + v3) - 48)), (0, .ref (sgA P 1)), (1, .int p1), (3, .int x3)]) hx hb dX9_number_67 rfl hl (by decide) rfl (fun ls hl => ?_)
          refine lv_iinc (v := x3 + 1) (lv' := [(3, .int (x3 + 1)), (2, .int (((x2 * 10) + v3) - 48)), (0, .ref (sgA P 1)), (1, .int p1)]) hx hb dX9_number_68 hl (k := 3) rfl rfl (by decide) rfl (fun ls hl => ?_)
          refine lv_aload_n hx hb dX9_number_71 rfl (lv_at hl 2 rfl) ?_
          refine lv_dup hx hb dX9_number_72 rfl ?_
          refine sg_geti X I fk_X9_19 (by decide) shC_1 rfl dX9_number_73 ?_
          refine lv_iconst (v := 1) hx hb dX9_number_76 (by decide) ?_
          refine lv_iadd hx hb dX9_number_77 ?_
          refine sg_puti X I fk_X9_19 wk_9_2 rfl rfl (by decide) shC_1 rfl h dX9_number_78 (fun s4 H locs h I => ?_)
          refine lv_goto (tgt := 4) hx hb dX9_number_81 (by decide) ?_
          obtain rfl := Option.some.inj h
          exact sg_go hk I (lv_sub hl [2, 3, 1, 0] rfl)
        · have h := sg_iff h z
          refine lv_iconst (v := -1) hx hb dX9_number_48 (by decide) ?_
          obtain rfl := Option.some.inj h
          exact hk _ _ _ _ _ I ⟨_, rfl, rfl⟩ dX9_number_49
def f_X9_number (N : Nat) (p1 : Int32) (σ : sgS) : Option (Int32 × sgS) :=
  sg_lb (sg_lp (fun x => f_X9_number_L4 N p1 x.2.1 x.2.2 x.1) N ((σ, 0, 0))) (fun r => some r) fun y5 =>
if y5.2.2 = 0 then
  (some ((-1), y5.1))
else
  (some (y5.2.1, y5.1))
set_option maxHeartbeats 4000000 in
set_option maxRecDepth 100000 in
theorem b_X9_number {p : Program} {l : Launch} {e : Env} {R : Room} {s : State} {m : MethodId} {args : Array Value} {below : List Frame} {meth : Method} {c : Code} {Q : State → Prop} {P : sgP} {A : Nat → Prop} {N : Nat} {p1 : Int32} {σ : sgS} (X : sg_C P A 1 p R s m args c cX9_number 4 RX9) {H : Heap} {locs : List Loc} (I : sg_I P shC 332 A s.heap σ H locs) {ls : Array Slot} (hl : lv_has ls 4 [(0, .ref (sgA P 1)), (1, .int p1)]) {st : Int32 × sgS} (h : f_X9_number N p1 σ = some st) (hk : sg_Ri p l e R s m args below meth c Q P shC 332 A cX9_number (some .int) st) : W p l e R s m args below meth c H locs 0 0 Q (F0 m 0 ls []) := by
  unfold f_X9_number at h
  have hx := X.1.1
  have hb := X.1.2.1
  have hown := X.1.2.2.2.1
  have hts := X.1.2.2.2.2
  refine lv_iconst (v := 0) hx hb dX9_number_0 (by decide) ?_
  refine lv_istore_n (lv' := [(2, .int 0), (0, .ref (sgA P 1)), (1, .int p1)]) hx hb dX9_number_1 rfl hl (by decide) rfl (fun ls hl => ?_)
  refine lv_iconst (v := 0) hx hb dX9_number_2 (by decide) ?_
  refine lv_istore_n (lv' := [(3, .int 0), (2, .int 0), (0, .ref (sgA P 1)), (1, .int p1)]) hx hb dX9_number_3 rfl hl (by decide) rfl (fun ls hl => ?_)
  obtain ⟨res, e9, k9⟩ := sg_lb_some h
  refine sg_go (sg_lp_W (a := (sg_Ri p l e R s m args below meth c Q P shC 332 A cX9_number (some .int))) (w := (fun x => sg_Wt p l e R s m args below meth c Q P shC 332 A 4 4 x.1 [(0, .ref (sgA P 1)), (1, .int p1), (2, .int x.2.1), (3, .int x.2.2)])) (c := (fun y => sg_Wt p l e R s m args below meth c Q P shC 332 A 4 84 y.1 [(2, .int y.2.1), (3, .int y.2.2)])) (fun x st hb9 hk9 => ?_) N ((σ, 0, 0)) res e9 (sg_k2_mono k9 (fun r h => ?_) (fun y5 h => ?_))) I (lv_sub hl [2, 3, 1, 0] rfl)
  · intro H locs ls I hl
    exact b_X9_number_L4 X I hl hb9 hk9
  · obtain rfl := Option.some.inj h
    exact hk
  · intro H locs ls I hl
    refine lv_iload_n hx hb dX9_number_84 rfl (lv_at hl 1 rfl) ?_
    refine lv_if_ne (tgt := 92) hx hb dX9_number_85 (by decide) (fun z => ?_) (fun z => ?_)
    · have h := sg_iff h z
      refine lv_iload_n hx hb dX9_number_92 rfl (lv_at hl 0 rfl) ?_
      obtain rfl := Option.some.inj h
      exact hk _ _ _ _ _ I ⟨_, rfl, rfl⟩ dX9_number_93
    · have h := sg_ift h z
      refine lv_iconst (v := -1) hx hb dX9_number_88 (by decide) ?_
      refine lv_goto (tgt := 93) hx hb dX9_number_89 (by decide) ?_
      obtain rfl := Option.some.inj h
      exact hk _ _ _ _ _ I ⟨_, rfl, rfl⟩ dX9_number_93
set_option maxHeartbeats 4000000 in
set_option maxRecDepth 100000 in
theorem c_X9_number {l : Launch} {P : sgP} {N : Nat} {p1 : Int32} {σ : sgS} {q : Int32 × sgS} (h : f_X9_number N p1 σ = some q) : sg_Mi P shC 332 l yX9_number cX9_number 4 (some .int) 1 [.ref (sgA P 1), .int p1] σ q := by
  refine sg_mki (plainFor_of_name (by decide +kernel)) (Nat.le_of_ble_eq_true rfl) ?_
  intro p e R s m args below meth c Q A ls H locs X I hl hk
  exact b_X9_number X I hl h hk
def f_X0_readNumber (N : Nat) (o : Nat) (p2 : Int32) (σ : sgS) : Option (Int32 × sgS) :=
  sg_cl (f_X9_sign N σ) fun v1 s2 =>
sg_cr (f_X9_isDigit N v1 s2) fun v3 =>
if v3 = 0 then
  (some (vp_nar .boolean 0, s2))
else
  (sg_cl (f_X9_number N 2 s2) fun v4 s5 =>
  if v4 = ((-1)) then
    (some (vp_nar .boolean 0, s5))
  else
    (sg_tb (sg_sv 3) p2 fun v6 =>
    if v4 < v6 then
      (sg_pf s5 1 2 ((s5.1 1 2) - 1) fun s7 =>
      some (vp_nar .boolean 0, s7))
    else
      (sg_tb (sg_sv 4) p2 fun v8 =>
      if v4 ≤ v8 then
        (sg_st s5 (o + 7) 8 p2 v4 fun s9 =>
        some (vp_nar .boolean 1, s9))
      else
        (sg_pf s5 1 2 ((s5.1 1 2) - 1) fun s10 =>
        some (vp_nar .boolean 0, s10)))))
set_option maxHeartbeats 4000000 in
set_option maxRecDepth 100000 in
theorem b_X0_readNumber {p : Program} {l : Launch} {e : Env} {R : Room} {s : State} {m : MethodId} {args : Array Value} {below : List Frame} {meth : Method} {c : Code} {Q : State → Prop} {P : sgP} {A : Nat → Prop} {N : Nat} {o : Nat} {p2 : Int32} {σ : sgS} (X : sg_C P A 2 p R s m args c cX0_readNumber 4 RX0) (ho : isCo o) {H : Heap} {locs : List Loc} (I : sg_I P shC 332 A s.heap σ H locs) {ls : Array Slot} (hl : lv_has ls 4 [(0, .ref (sgA P o)), (1, .ref (sgA P 1)), (2, .int p2)]) {st : Int32 × sgS} (h : f_X0_readNumber N o p2 σ = some st) (hk : sg_Ri p l e R s m args below meth c Q P shC 332 A cX0_readNumber (some .boolean) st) : W p l e R s m args below meth c H locs 0 0 Q (F0 m 0 ls []) := by
  unfold f_X0_readNumber at h
  have hx := X.1.1
  have hb := X.1.2.1
  have hown := X.1.2.2.2.1
  have hts := X.1.2.2.2.2
  refine lv_aload_n hx hb dX0_readNumber_0 rfl (lv_at hl 1 rfl) ?_
  refine sg_callV (As := []) X I mk_X0_84 (by decide) (by decide) shC_1 rfl (fun q9 e9 => c_X9_sign e9) h hl.1 rfl rfl (Nat.le_of_ble_eq_true rfl) dX0_readNumber_1 (fun v1 s2 H locs h I => ?_)
  refine sg_callSr (As := [.int v1]) X I mk_X0_129 (by decide) (fun q9 e9 => c_X9_isDigit e9) h hl.1 rfl rfl (Nat.le_of_ble_eq_true rfl) dX0_readNumber_4 (fun v3 H locs h I => ?_)
  refine lv_if_ne (tgt := 12) hx hb dX0_readNumber_7 (by decide) (fun z => ?_) (fun z => ?_)
  · have h := sg_iff h z
    refine lv_aload_n hx hb dX0_readNumber_12 rfl (lv_at hl 1 rfl) ?_
    refine lv_iconst (v := 2) hx hb dX0_readNumber_13 (by decide) ?_
    refine sg_callV (As := [.int 2]) X I mk_X0_132 (by decide) (by decide) shC_1 rfl (fun q9 e9 => c_X9_number e9) h hl.1 rfl rfl (Nat.le_of_ble_eq_true rfl) dX0_readNumber_14 (fun v4 s5 H locs h I => ?_)
    refine lv_istore_n (lv' := [(3, .int v4), (0, .ref (sgA P o)), (1, .ref (sgA P 1)), (2, .int p2)]) hx hb dX0_readNumber_17 rfl hl (by decide) rfl (fun ls hl => ?_)
    refine lv_iload_n hx hb dX0_readNumber_18 rfl (lv_at hl 0 rfl) ?_
    refine lv_iconst (v := -1) hx hb dX0_readNumber_19 (by decide) ?_
    refine lv_icmp_ne (tgt := 25) hx hb dX0_readNumber_20 (by decide) (fun z => ?_) (fun z => ?_)
    · have h := sg_iff h z
      refine lv_iload_n hx hb dX0_readNumber_25 rfl (lv_at hl 0 rfl) ?_
      refine sg_gets X I (j := 3) (by decide) qw_380 dX0_readNumber_26 ?_
      refine lv_iload_n hx hb dX0_readNumber_29 rfl (lv_at hl 3 rfl) ?_
      refine sg_tab X I (by decide) h dX0_readNumber_30 (fun v6 h => ?_)
      refine lv_icmp_lt (tgt := 43) hx hb dX0_readNumber_31 (by decide) (fun z => ?_) (fun z => ?_)
      · have h := sg_ift h z
        refine lv_aload_n hx hb dX0_readNumber_43 rfl (lv_at hl 2 rfl) ?_
        refine lv_dup hx hb dX0_readNumber_44 rfl ?_
        refine sg_getiN X I fn_X0_75 (by decide) shC_1 rfl dX0_readNumber_45 ?_
        refine lv_iconst (v := 1) hx hb dX0_readNumber_48 (by decide) ?_
        refine lv_isub hx hb dX0_readNumber_49 ?_
        refine sg_putiN X I fn_X0_75 wk_9_2 rfl rfl (by decide) shC_1 rfl h dX0_readNumber_50 (fun s7 H locs h I => ?_)
        refine lv_iconst (v := 0) hx hb dX0_readNumber_53 (by decide) ?_
        obtain rfl := Option.some.inj h
        exact hk _ _ _ _ _ I ⟨_, rfl, rfl⟩ dX0_readNumber_54
      · have h := sg_iff h z
        refine lv_iload_n hx hb dX0_readNumber_34 rfl (lv_at hl 0 rfl) ?_
        refine sg_gets X I (j := 4) (by decide) qw_381 dX0_readNumber_35 ?_
        refine lv_iload_n hx hb dX0_readNumber_38 rfl (lv_at hl 3 rfl) ?_
        refine sg_tab X I (by decide) h dX0_readNumber_39 (fun v8 h => ?_)
        refine lv_icmp_le (tgt := 55) hx hb dX0_readNumber_40 (by decide) (fun z => ?_) (fun z => ?_)
        · have h := sg_ift h z
          refine lv_aload_n hx hb dX0_readNumber_55 rfl (lv_at hl 1 rfl) ?_
          refine sg_getr X I fk_X0_37 (j := o + 7) (isCo_i0 ho) (isCo_s0 ho) rfl dX0_readNumber_56 ?_
          refine lv_iload_n hx hb dX0_readNumber_59 rfl (lv_at hl 3 rfl) ?_
          refine lv_iload_n hx hb dX0_readNumber_60 rfl (lv_at hl 0 rfl) ?_
          refine sg_iast X I (isCo_i7 ho) (isCo_s7 ho) h dX0_readNumber_61 (fun s9 H locs h I => ?_)
          refine lv_iconst (v := 1) hx hb dX0_readNumber_62 (by decide) ?_
          obtain rfl := Option.some.inj h
          exact hk _ _ _ _ _ I ⟨_, rfl, rfl⟩ dX0_readNumber_63
        · have h := sg_iff h z
          refine lv_aload_n hx hb dX0_readNumber_43 rfl (lv_at hl 2 rfl) ?_
          refine lv_dup hx hb dX0_readNumber_44 rfl ?_
          refine sg_getiN X I fn_X0_75 (by decide) shC_1 rfl dX0_readNumber_45 ?_
          refine lv_iconst (v := 1) hx hb dX0_readNumber_48 (by decide) ?_
          refine lv_isub hx hb dX0_readNumber_49 ?_
          refine sg_putiN X I fn_X0_75 wk_9_2 rfl rfl (by decide) shC_1 rfl h dX0_readNumber_50 (fun s10 H locs h I => ?_)
          refine lv_iconst (v := 0) hx hb dX0_readNumber_53 (by decide) ?_
          obtain rfl := Option.some.inj h
          exact hk _ _ _ _ _ I ⟨_, rfl, rfl⟩ dX0_readNumber_54
    · have h := sg_ift h z
      refine lv_iconst (v := 0) hx hb dX0_readNumber_23 (by decide) ?_
      obtain rfl := Option.some.inj h
      exact hk _ _ _ _ _ I ⟨_, rfl, rfl⟩ dX0_readNumber_24
  · have h := sg_ift h z
    refine lv_iconst (v := 0) hx hb dX0_readNumber_10 (by decide) ?_
    obtain rfl := Option.some.inj h
    exact hk _ _ _ _ _ I ⟨_, rfl, rfl⟩ dX0_readNumber_11
set_option maxHeartbeats 4000000 in
set_option maxRecDepth 100000 in
theorem c_X0_readNumber {l : Launch} {P : sgP} {N : Nat} {o : Nat} {p2 : Int32} {σ : sgS} (ho : isCo o) {q : Int32 × sgS} (h : f_X0_readNumber N o p2 σ = some q) : sg_Mi P shC 332 l yX0_readNumber cX0_readNumber 4 (some .boolean) 2 [.ref (sgA P o), .ref (sgA P 1), .int p2] σ q := by
  refine sg_mki (plainFor_of_name (by decide +kernel)) (Nat.le_of_ble_eq_true rfl) ?_
  intro p e R s m args below meth c Q A ls H locs X I hl hk
  exact b_X0_readNumber X ho I hl h hk
def f_X0_readItems_L3 (N : Nat) (o : Nat) (p2 : Int32) (p3 : Int32) (x4 : Int32) (σ : sgS) : Option ((Int32 × sgS) ⊕ ((sgS × Int32) ⊕ (sgS))) :=
  if p3 ≤ x4 then
  (some (.inr (.inr σ)))
else
  (sg_tb (sg_sv 2) x4 fun v1 =>
  sg_st σ (o + 7) 8 x4 v1 fun s2 =>
  some (.inr (.inl (s2, x4 + 1))))
set_option maxHeartbeats 4000000 in
set_option maxRecDepth 100000 in
theorem b_X0_readItems_L3 {p : Program} {l : Launch} {e : Env} {R : Room} {s : State} {m : MethodId} {args : Array Value} {below : List Frame} {meth : Method} {c : Code} {Q : State → Prop} {P : sgP} {A : Nat → Prop} {N : Nat} {o : Nat} {p2 : Int32} {p3 : Int32} {x4 : Int32} {σ : sgS} (X : sg_C P A 6 p R s m args c cX0_readItems 8 RX0) (ho : isCo o) {H : Heap} {locs : List Loc} (I : sg_I P shC 332 A s.heap σ H locs) {ls : Array Slot} (hl : lv_has ls 8 [(0, .ref (sgA P o)), (1, .ref (sgA P 1)), (2, .int p2), (3, .int p3), (4, .int x4)]) {st : (Int32 × sgS) ⊕ ((sgS × Int32) ⊕ (sgS))} (h : f_X0_readItems_L3 N o p2 p3 x4 σ = some st) (hk : sg_k3 (sg_Ri p l e R s m args below meth c Q P shC 332 A cX0_readItems (some .boolean)) (fun x => sg_Wt p l e R s m args below meth c Q P shC 332 A 8 3 x.1 [(0, .ref (sgA P o)), (1, .ref (sgA P 1)), (2, .int p2), (3, .int p3), (4, .int x.2)]) (fun y => sg_Wt p l e R s m args below meth c Q P shC 332 A 8 28 y [(0, .ref (sgA P o)), (1, .ref (sgA P 1)), (2, .int p2), (3, .int p3)]) st) : W p l e R s m args below meth c H locs 0 0 Q (F0 m 3 ls []) := by
  unfold f_X0_readItems_L3 at h
  have hx := X.1.1
  have hb := X.1.2.1
  have hown := X.1.2.2.2.1
  have hts := X.1.2.2.2.2
  refine lv_iload hx hb dX0_readItems_3 (lv_at hl 4 rfl) ?_
  refine lv_iload_n hx hb dX0_readItems_5 rfl (lv_at hl 3 rfl) ?_
  refine lv_icmp_ge (tgt := 28) hx hb dX0_readItems_6 (by decide) (fun z => ?_) (fun z => ?_)
  · have h := sg_ift h z
    obtain rfl := Option.some.inj h
    exact sg_go hk I (lv_sub hl [0, 1, 2, 3] rfl)
  · have h := sg_iff h z
    refine lv_aload_n hx hb dX0_readItems_9 rfl (lv_at hl 0 rfl) ?_
    refine sg_getr X I fk_X0_37 (j := o + 7) (isCo_i0 ho) (isCo_s0 ho) rfl dX0_readItems_10 ?_
    refine lv_iload hx hb dX0_readItems_13 (lv_at hl 4 rfl) ?_
    refine sg_gets X I (j := 2) (by decide) qw_250 dX0_readItems_15 ?_
    refine lv_iload hx hb dX0_readItems_18 (lv_at hl 4 rfl) ?_
    refine sg_tab X I (by decide) h dX0_readItems_20 (fun v1 h => ?_)
    refine sg_iast X I (isCo_i7 ho) (isCo_s7 ho) h dX0_readItems_21 (fun s2 H locs h I => ?_)
    refine lv_iinc (v := x4 + 1) (lv' := [(4, .int (x4 + 1)), (0, .ref (sgA P o)), (1, .ref (sgA P 1)), (2, .int p2), (3, .int p3)]) hx hb dX0_readItems_22 hl (k := 4) rfl rfl (by decide) rfl (fun ls hl => ?_)
    refine lv_goto (tgt := 3) hx hb dX0_readItems_25 (by decide) ?_
    obtain rfl := Option.some.inj h
    exact sg_go hk I (lv_sub hl [1, 2, 3, 4, 0] rfl)
def f_X0_readItems_L34 (N : Nat) (o : Nat) (p2 : Int32) (p3 : Int32) (x4 : Int32) (x5 : Int32) (σ : sgS) : Option ((Int32 × sgS) ⊕ ((sgS × Int32 × Int32) ⊕ (sgS))) :=
  if p3 < x5 then
  (some (.inr (.inr σ)))
else
  (sg_cl (f_X9_sign N σ) fun v4 s5 =>
  if v4 = ((-1)) then
    (some (.inl (vp_nar .boolean 1, s5)))
  else
    (if v4 = 59 then
      (some (.inl (vp_nar .boolean 1, s5)))
    else
      (sg_cr (f_X0_itemOf N v4 p2 p3 s5) fun v6 =>
      if v6 = ((-1)) then
        (some (.inl (vp_nar .boolean 0, s5)))
      else
        (if ((x4 >>> (v6 &&& 31)) &&& 1) = 0 then
          (sg_pf s5 1 2 ((s5.1 1 2) + 1) fun s7 =>
          sg_cl (f_X0_readNumber N o v6 s7) fun v8 s9 =>
          if v8 = 0 then
            (some (.inl (vp_nar .boolean 0, s9)))
          else
            (some (.inr (.inl (s9, x4 ||| (1 <<< (v6 &&& 31)), x5 + 1)))))
        else
          (some (.inl (vp_nar .boolean 0, s5)))))))
set_option maxHeartbeats 4000000 in
set_option maxRecDepth 100000 in
theorem b_X0_readItems_L34 {p : Program} {l : Launch} {e : Env} {R : Room} {s : State} {m : MethodId} {args : Array Value} {below : List Frame} {meth : Method} {c : Code} {Q : State → Prop} {P : sgP} {A : Nat → Prop} {N : Nat} {o : Nat} {p2 : Int32} {p3 : Int32} {x4 : Int32} {x5 : Int32} {σ : sgS} (X : sg_C P A 6 p R s m args c cX0_readItems 8 RX0) (ho : isCo o) {H : Heap} {locs : List Loc} (I : sg_I P shC 332 A s.heap σ H locs) {ls : Array Slot} (hl : lv_has ls 8 [(0, .ref (sgA P o)), (1, .ref (sgA P 1)), (2, .int p2), (3, .int p3), (4, .int x4), (5, .int x5)]) {st : (Int32 × sgS) ⊕ ((sgS × Int32 × Int32) ⊕ (sgS))} (h : f_X0_readItems_L34 N o p2 p3 x4 x5 σ = some st) (hk : sg_k3 (sg_Ri p l e R s m args below meth c Q P shC 332 A cX0_readItems (some .boolean)) (fun x => sg_Wt p l e R s m args below meth c Q P shC 332 A 8 34 x.1 [(0, .ref (sgA P o)), (1, .ref (sgA P 1)), (2, .int p2), (3, .int p3), (4, .int x.2.1), (5, .int x.2.2)]) (fun y => sg_Wt p l e R s m args below meth c Q P shC 332 A 8 125 y []) st) : W p l e R s m args below meth c H locs 0 0 Q (F0 m 34 ls []) := by
  unfold f_X0_readItems_L34 at h
  have hx := X.1.1
  have hb := X.1.2.1
  have hown := X.1.2.2.2.1
  have hts := X.1.2.2.2.2
  refine lv_iload hx hb dX0_readItems_34 (lv_at hl 5 rfl) ?_
  refine lv_iload_n hx hb dX0_readItems_36 rfl (lv_at hl 3 rfl) ?_
  refine lv_icmp_gt (tgt := 125) hx hb dX0_readItems_37 (by decide) (fun z => ?_) (fun z => ?_)
  · have h := sg_ift h z
    obtain rfl := Option.some.inj h
    exact sg_go hk I (lv_sub hl [] rfl)
  · have h := sg_iff h z
    refine lv_aload_n hx hb dX0_readItems_40 rfl (lv_at hl 1 rfl) ?_
    refine sg_callV (As := []) X I mk_X0_84 (by decide) (by decide) shC_1 rfl (fun q9 e9 => c_X9_sign e9) h hl.1 rfl rfl (Nat.le_of_ble_eq_true rfl) dX0_readItems_41 (fun v4 s5 H locs h I => ?_)
    refine lv_istore (lv' := [(6, .int v4), (0, .ref (sgA P o)), (1, .ref (sgA P 1)), (2, .int p2), (3, .int p3), (4, .int x4), (5, .int x5)]) hx hb dX0_readItems_44 hl (by decide) rfl (fun ls hl => ?_)
    refine lv_iload hx hb dX0_readItems_46 (lv_at hl 0 rfl) ?_
    refine lv_iconst (v := -1) hx hb dX0_readItems_48 (by decide) ?_
    refine lv_icmp_eq (tgt := 59) hx hb dX0_readItems_49 (by decide) (fun z => ?_) (fun z => ?_)
    · have h := sg_ift h z
      refine lv_iconst (v := 1) hx hb dX0_readItems_59 (by decide) ?_
      obtain rfl := Option.some.inj h
      exact hk _ _ _ _ _ I ⟨_, rfl, rfl⟩ dX0_readItems_60
    · have h := sg_iff h z
      refine lv_iload hx hb dX0_readItems_52 (lv_at hl 0 rfl) ?_
      refine lv_bipush (v := 59) hx hb dX0_readItems_54 (by decide) ?_
      refine lv_icmp_ne (tgt := 61) hx hb dX0_readItems_56 (by decide) (fun z => ?_) (fun z => ?_)
      · have h := sg_iff h z
        refine lv_iload hx hb dX0_readItems_61 (lv_at hl 0 rfl) ?_
        refine lv_iload_n hx hb dX0_readItems_63 rfl (lv_at hl 3 rfl) ?_
        refine lv_iload_n hx hb dX0_readItems_64 rfl (lv_at hl 4 rfl) ?_
        refine sg_callSr (As := [.int v4, .int p2, .int p3]) X I mk_X0_117 (by decide) (fun q9 e9 => c_X0_itemOf e9) h hl.1 rfl rfl (Nat.le_of_ble_eq_true rfl) dX0_readItems_65 (fun v6 H locs h I => ?_)
        refine lv_istore (lv' := [(7, .int v6), (6, .int v4), (0, .ref (sgA P o)), (1, .ref (sgA P 1)), (2, .int p2), (3, .int p3), (4, .int x4), (5, .int x5)]) hx hb dX0_readItems_68 hl (by decide) rfl (fun ls hl => ?_)
        refine lv_iload hx hb dX0_readItems_70 (lv_at hl 0 rfl) ?_
        refine lv_iconst (v := -1) hx hb dX0_readItems_72 (by decide) ?_
        refine lv_icmp_eq (tgt := 86) hx hb dX0_readItems_73 (by decide) (fun z => ?_) (fun z => ?_)
        · have h := sg_ift h z
          refine lv_iconst (v := 0) hx hb dX0_readItems_86 (by decide) ?_
          obtain rfl := Option.some.inj h
          exact hk _ _ _ _ _ I ⟨_, rfl, rfl⟩ dX0_readItems_87
        · have h := sg_iff h z
          refine lv_iload hx hb dX0_readItems_76 (lv_at hl 6 rfl) ?_
          refine lv_iload hx hb dX0_readItems_78 (lv_at hl 0 rfl) ?_
          refine lv_ishr hx hb dX0_readItems_80 ?_
          refine lv_iconst (v := 1) hx hb dX0_readItems_81 (by decide) ?_
          refine lv_iand hx hb dX0_readItems_82 ?_
          refine lv_if_eq (tgt := 88) hx hb dX0_readItems_83 (by decide) (fun z => ?_) (fun z => ?_)
          · have h := sg_ift h z
            refine lv_iload hx hb dX0_readItems_88 (lv_at hl 6 rfl) ?_
            refine lv_iconst (v := 1) hx hb dX0_readItems_90 (by decide) ?_
            refine lv_iload hx hb dX0_readItems_91 (lv_at hl 0 rfl) ?_
            refine lv_ishl hx hb dX0_readItems_93 ?_
            refine lv_ior hx hb dX0_readItems_94 ?_
            refine lv_istore (lv' := [(4, .int (x4 ||| (1 <<< (v6 &&& 31)))), (7, .int v6), (6, .int v4), (0, .ref (sgA P o)), (1, .ref (sgA P 1)), (2, .int p2), (3, .int p3), (5, .int x5)]) hx hb dX0_readItems_95 hl (by decide) rfl (fun ls hl => ?_)
            refine lv_aload_n hx hb dX0_readItems_97 rfl (lv_at hl 4 rfl) ?_
            refine lv_dup hx hb dX0_readItems_98 rfl ?_
            refine sg_getiN X I fn_X0_75 (by decide) shC_1 rfl dX0_readItems_99 ?_
            refine lv_iconst (v := 1) hx hb dX0_readItems_102 (by decide) ?_
            refine lv_iadd hx hb dX0_readItems_103 ?_
            refine sg_putiN X I fn_X0_75 wk_9_2 rfl rfl (by decide) shC_1 rfl h dX0_readItems_104 (fun s7 H locs h I => ?_)
            refine lv_aload_n hx hb dX0_readItems_107 rfl (lv_at hl 3 rfl) ?_
            refine lv_aload_n hx hb dX0_readItems_108 rfl (lv_at hl 4 rfl) ?_
            refine lv_iload hx hb dX0_readItems_109 (lv_at hl 1 rfl) ?_
            refine sg_callV (As := [.ref (sgA P 1), .int v6]) X I mk_X0_121 (by decide) (isCo_i0 ho) (isCo_s0 ho) rfl (fun q9 e9 => c_X0_readNumber ho e9) h hl.1 rfl rfl (Nat.le_of_ble_eq_true rfl) dX0_readItems_111 (fun v8 s9 H locs h I => ?_)
            refine lv_if_ne (tgt := 119) hx hb dX0_readItems_114 (by decide) (fun z => ?_) (fun z => ?_)
            · have h := sg_iff h z
              refine lv_iinc (v := x5 + 1) (lv' := [(5, .int (x5 + 1)), (4, .int (x4 ||| (1 <<< (v6 &&& 31)))), (7, .int v6), (6, .int v4), (0, .ref (sgA P o)), (1, .ref (sgA P 1)), (2, .int p2), (3, .int p3)]) hx hb dX0_readItems_119 hl (k := 7) rfl rfl (by decide) rfl (fun ls hl => ?_)
              refine lv_goto (tgt := 34) hx hb dX0_readItems_122 (by decide) ?_
              obtain rfl := Option.some.inj h
              exact sg_go hk I (lv_sub hl [4, 5, 6, 7, 1, 0] rfl)
            · have h := sg_ift h z
              refine lv_iconst (v := 0) hx hb dX0_readItems_117 (by decide) ?_
              obtain rfl := Option.some.inj h
              exact hk _ _ _ _ _ I ⟨_, rfl, rfl⟩ dX0_readItems_118
          · have h := sg_iff h z
            refine lv_iconst (v := 0) hx hb dX0_readItems_86 (by decide) ?_
            obtain rfl := Option.some.inj h
            exact hk _ _ _ _ _ I ⟨_, rfl, rfl⟩ dX0_readItems_87
      · have h := sg_ift h z
        refine lv_iconst (v := 1) hx hb dX0_readItems_59 (by decide) ?_
        obtain rfl := Option.some.inj h
        exact hk _ _ _ _ _ I ⟨_, rfl, rfl⟩ dX0_readItems_60
def f_X0_readItems (N : Nat) (o : Nat) (p2 : Int32) (p3 : Int32) (σ : sgS) : Option (Int32 × sgS) :=
  sg_lb (sg_lp (fun x => f_X0_readItems_L3 N o p2 p3 x.2 x.1) N ((σ, p2))) (fun r => some r) fun y3 =>
sg_lb (sg_lp (fun x => f_X0_readItems_L34 N o p2 p3 x.2.1 x.2.2 x.1) N ((y3, 0, p2))) (fun r => some r) fun y10 =>
some (vp_nar .boolean 0, y10)
set_option maxHeartbeats 4000000 in
set_option maxRecDepth 100000 in
theorem b_X0_readItems {p : Program} {l : Launch} {e : Env} {R : Room} {s : State} {m : MethodId} {args : Array Value} {below : List Frame} {meth : Method} {c : Code} {Q : State → Prop} {P : sgP} {A : Nat → Prop} {N : Nat} {o : Nat} {p2 : Int32} {p3 : Int32} {σ : sgS} (X : sg_C P A 6 p R s m args c cX0_readItems 8 RX0) (ho : isCo o) {H : Heap} {locs : List Loc} (I : sg_I P shC 332 A s.heap σ H locs) {ls : Array Slot} (hl : lv_has ls 8 [(0, .ref (sgA P o)), (1, .ref (sgA P 1)), (2, .int p2), (3, .int p3)]) {st : Int32 × sgS} (h : f_X0_readItems N o p2 p3 σ = some st) (hk : sg_Ri p l e R s m args below meth c Q P shC 332 A cX0_readItems (some .boolean) st) : W p l e R s m args below meth c H locs 0 0 Q (F0 m 0 ls []) := by
  unfold f_X0_readItems at h
  have hx := X.1.1
  have hb := X.1.2.1
  have hown := X.1.2.2.2.1
  have hts := X.1.2.2.2.2
  refine lv_iload_n hx hb dX0_readItems_0 rfl (lv_at hl 2 rfl) ?_
  refine lv_istore (lv' := [(4, .int p2), (0, .ref (sgA P o)), (1, .ref (sgA P 1)), (2, .int p2), (3, .int p3)]) hx hb dX0_readItems_1 hl (by decide) rfl (fun ls hl => ?_)
  obtain ⟨res, e9, k9⟩ := sg_lb_some h
  refine sg_go (sg_lp_W (a := (sg_Ri p l e R s m args below meth c Q P shC 332 A cX0_readItems (some .boolean))) (w := (fun x => sg_Wt p l e R s m args below meth c Q P shC 332 A 8 3 x.1 [(0, .ref (sgA P o)), (1, .ref (sgA P 1)), (2, .int p2), (3, .int p3), (4, .int x.2)])) (c := (fun y => sg_Wt p l e R s m args below meth c Q P shC 332 A 8 28 y [(0, .ref (sgA P o)), (1, .ref (sgA P 1)), (2, .int p2), (3, .int p3)])) (fun x st hb9 hk9 => ?_) N ((σ, p2)) res e9 (sg_k2_mono k9 (fun r h => ?_) (fun y3 h => ?_))) I (lv_sub hl [1, 2, 3, 4, 0] rfl)
  · intro H locs ls I hl
    exact b_X0_readItems_L3 X ho I hl hb9 hk9
  · obtain rfl := Option.some.inj h
    exact hk
  · intro H locs ls I hl
    refine lv_iconst (v := 0) hx hb dX0_readItems_28 (by decide) ?_
    refine lv_istore (lv' := [(4, .int 0), (0, .ref (sgA P o)), (1, .ref (sgA P 1)), (2, .int p2), (3, .int p3)]) hx hb dX0_readItems_29 hl (by decide) rfl (fun ls hl => ?_)
    refine lv_iload_n hx hb dX0_readItems_31 rfl (lv_at hl 3 rfl) ?_
    refine lv_istore (lv' := [(5, .int p2), (4, .int 0), (0, .ref (sgA P o)), (1, .ref (sgA P 1)), (2, .int p2), (3, .int p3)]) hx hb dX0_readItems_32 hl (by decide) rfl (fun ls hl => ?_)
    obtain ⟨res, e9, k9⟩ := sg_lb_some h
    refine sg_go (sg_lp_W (a := (sg_Ri p l e R s m args below meth c Q P shC 332 A cX0_readItems (some .boolean))) (w := (fun x => sg_Wt p l e R s m args below meth c Q P shC 332 A 8 34 x.1 [(0, .ref (sgA P o)), (1, .ref (sgA P 1)), (2, .int p2), (3, .int p3), (4, .int x.2.1), (5, .int x.2.2)])) (c := (fun y => sg_Wt p l e R s m args below meth c Q P shC 332 A 8 125 y [])) (fun x st hb9 hk9 => ?_) N ((y3, 0, p2)) res e9 (sg_k2_mono k9 (fun r h => ?_) (fun y10 h => ?_))) I (lv_sub hl [2, 3, 4, 5, 1, 0] rfl)
    · intro H locs ls I hl
      exact b_X0_readItems_L34 X ho I hl hb9 hk9
    · obtain rfl := Option.some.inj h
      exact hk
    · intro H locs ls I hl
      refine lv_iconst (v := 0) hx hb dX0_readItems_125 (by decide) ?_
      obtain rfl := Option.some.inj h
      exact hk _ _ _ _ _ I ⟨_, rfl, rfl⟩ dX0_readItems_126
set_option maxHeartbeats 4000000 in
set_option maxRecDepth 100000 in
theorem c_X0_readItems {l : Launch} {P : sgP} {N : Nat} {o : Nat} {p2 : Int32} {p3 : Int32} {σ : sgS} (ho : isCo o) {q : Int32 × sgS} (h : f_X0_readItems N o p2 p3 σ = some q) : sg_Mi P shC 332 l yX0_readItems cX0_readItems 8 (some .boolean) 6 [.ref (sgA P o), .ref (sgA P 1), .int p2, .int p3] σ q := by
  refine sg_mki (plainFor_of_name (by decide +kernel)) (Nat.le_of_ble_eq_true rfl) ?_
  intro p e R s m args below meth c Q A ls H locs X I hl hk
  exact b_X0_readItems X ho I hl h hk
def f_X0_keepClause (N : Nat) (o : Nat) (p1 : Int32) (σ : sgS) : Option (Int32 × sgS) :=
  if p1 = 0 then
  (sg_ld σ (o + 7) 8 0 fun v1 =>
  sg_pf σ o 1 v1 fun s2 =>
  sg_ld s2 (o + 7) 8 1 fun v3 =>
  sg_pf s2 o 2 v3 fun s4 =>
  sg_pf s4 o 0 ((s4.1 o 0) + 1) fun s5 =>
  some (0, s5))
else
  (if p1 = 1 then
    (sg_ld σ (o + 7) 8 2 fun v6 =>
    sg_st σ (o + 1) 7 (σ.1 o 3) v6 fun s7 =>
    sg_pf s7 o 3 ((s7.1 o 3) + 1) fun s8 =>
    some (0, s8))
  else
    (if p1 = 2 then
      (sg_ld σ (o + 7) 8 3 fun v9 =>
      sg_st σ (o + 2) 12 (σ.1 o 4) v9 fun s10 =>
      sg_ld s10 (o + 7) 8 4 fun v11 =>
      sg_st s10 (o + 3) 12 (s10.1 o 4) v11 fun s12 =>
      sg_ld s12 (o + 7) 8 5 fun v13 =>
      sg_st s12 (o + 4) 12 (s12.1 o 4) v13 fun s14 =>
      sg_ld s14 (o + 7) 8 6 fun v15 =>
      sg_st s14 (o + 5) 12 (s14.1 o 4) v15 fun s16 =>
      sg_pf s16 o 4 ((s16.1 o 4) + 1) fun s17 =>
      some (0, s17))
    else
      (sg_ld σ (o + 7) 8 7 fun v18 =>
      sg_st σ (o + 6) 4 (σ.1 o 5) v18 fun s19 =>
      sg_pf s19 o 5 ((s19.1 o 5) + 1) fun s20 =>
      some (0, s20))))
set_option maxHeartbeats 4000000 in
set_option maxRecDepth 100000 in
theorem b_X0_keepClause {p : Program} {l : Launch} {e : Env} {R : Room} {s : State} {m : MethodId} {args : Array Value} {below : List Frame} {meth : Method} {c : Code} {Q : State → Prop} {P : sgP} {A : Nat → Prop} {N : Nat} {o : Nat} {p1 : Int32} {σ : sgS} (X : sg_C P A 1 p R s m args c cX0_keepClause 2 RX0) (ho : isCo o) {H : Heap} {locs : List Loc} (I : sg_I P shC 332 A s.heap σ H locs) {ls : Array Slot} (hl : lv_has ls 2 [(0, .ref (sgA P o)), (1, .int p1)]) {st : Int32 × sgS} (h : f_X0_keepClause N o p1 σ = some st) (hk : sg_Rv p l e R s m args below meth c Q P shC 332 A cX0_keepClause st) : W p l e R s m args below meth c H locs 0 0 Q (F0 m 0 ls []) := by
  unfold f_X0_keepClause at h
  have hx := X.1.1
  have hb := X.1.2.1
  have hown := X.1.2.2.2.1
  have hts := X.1.2.2.2.2
  refine lv_iload_n hx hb dX0_keepClause_0 rfl (lv_at hl 1 rfl) ?_
  by_cases c0 : p1 = 0
  · have h := sg_ift h c0
    refine sg_swIn (k := 0) (off := 27) (tgt := 28) hx hb dX0_keepClause_1 c0 (by decide) (by decide) (by decide +kernel) (by decide) ?_
    refine lv_aload_n hx hb dX0_keepClause_28 rfl (lv_at hl 0 rfl) ?_
    refine lv_aload_n hx hb dX0_keepClause_29 rfl (lv_at hl 0 rfl) ?_
    refine sg_getr X I fk_X0_37 (j := o + 7) (isCo_i0 ho) (isCo_s0 ho) rfl dX0_keepClause_30 ?_
    refine lv_iconst (v := 0) hx hb dX0_keepClause_33 (by decide) ?_
    refine sg_iald X I (isCo_i7 ho) (isCo_s7 ho) h dX0_keepClause_34 (fun v1 h => ?_)
    refine sg_puti X I fk_X0_57 wk_0_1 rfl rfl (isCo_i0 ho) (isCo_s0 ho) rfl h dX0_keepClause_35 (fun s2 H locs h I => ?_)
    refine lv_aload_n hx hb dX0_keepClause_38 rfl (lv_at hl 0 rfl) ?_
    refine lv_aload_n hx hb dX0_keepClause_39 rfl (lv_at hl 0 rfl) ?_
    refine sg_getr X I fk_X0_37 (j := o + 7) (isCo_i0 ho) (isCo_s0 ho) rfl dX0_keepClause_40 ?_
    refine lv_iconst (v := 1) hx hb dX0_keepClause_43 (by decide) ?_
    refine sg_iald X I (isCo_i7 ho) (isCo_s7 ho) h dX0_keepClause_44 (fun v3 h => ?_)
    refine sg_puti X I fk_X0_60 wk_0_2 rfl rfl (isCo_i0 ho) (isCo_s0 ho) rfl h dX0_keepClause_45 (fun s4 H locs h I => ?_)
    refine lv_aload_n hx hb dX0_keepClause_48 rfl (lv_at hl 0 rfl) ?_
    refine lv_dup hx hb dX0_keepClause_49 rfl ?_
    refine sg_geti X I fk_X0_69 (isCo_i0 ho) (isCo_s0 ho) rfl dX0_keepClause_50 ?_
    refine lv_iconst (v := 1) hx hb dX0_keepClause_53 (by decide) ?_
    refine lv_iadd hx hb dX0_keepClause_54 ?_
    refine sg_puti X I fk_X0_69 wk_0_0 rfl rfl (isCo_i0 ho) (isCo_s0 ho) rfl h dX0_keepClause_55 (fun s5 H locs h I => ?_)
    refine lv_goto (tgt := 189) hx hb dX0_keepClause_58 (by decide) ?_
    obtain rfl := Option.some.inj h
    exact hk _ _ _ _ I dX0_keepClause_189
  have h := sg_iff h c0
  have i0 := sg_ine (z := 0) (by decide) c0
  by_cases c1 : p1 = 1
  · have h := sg_ift h c1
    refine sg_swIn (k := 1) (off := 60) (tgt := 61) hx hb dX0_keepClause_1 c1 (by decide) (by decide) (by decide +kernel) (by decide) ?_
    refine lv_aload_n hx hb dX0_keepClause_61 rfl (lv_at hl 0 rfl) ?_
    refine sg_getr X I fk_X0_9 (j := o + 1) (isCo_i0 ho) (isCo_s0 ho) rfl dX0_keepClause_62 ?_
    refine lv_aload_n hx hb dX0_keepClause_65 rfl (lv_at hl 0 rfl) ?_
    refine sg_geti X I fk_X0_40 (isCo_i0 ho) (isCo_s0 ho) rfl dX0_keepClause_66 ?_
    refine lv_aload_n hx hb dX0_keepClause_69 rfl (lv_at hl 0 rfl) ?_
    refine sg_getr X I fk_X0_37 (j := o + 7) (isCo_i0 ho) (isCo_s0 ho) rfl dX0_keepClause_70 ?_
    refine lv_iconst (v := 2) hx hb dX0_keepClause_73 (by decide) ?_
    refine sg_iald X I (isCo_i7 ho) (isCo_s7 ho) h dX0_keepClause_74 (fun v6 h => ?_)
    refine sg_iast X I (isCo_i1 ho) (isCo_s1 ho) h dX0_keepClause_75 (fun s7 H locs h I => ?_)
    refine lv_aload_n hx hb dX0_keepClause_76 rfl (lv_at hl 0 rfl) ?_
    refine lv_dup hx hb dX0_keepClause_77 rfl ?_
    refine sg_geti X I fk_X0_40 (isCo_i0 ho) (isCo_s0 ho) rfl dX0_keepClause_78 ?_
    refine lv_iconst (v := 1) hx hb dX0_keepClause_81 (by decide) ?_
    refine lv_iadd hx hb dX0_keepClause_82 ?_
    refine sg_puti X I fk_X0_40 wk_0_3 rfl rfl (isCo_i0 ho) (isCo_s0 ho) rfl h dX0_keepClause_83 (fun s8 H locs h I => ?_)
    refine lv_goto (tgt := 189) hx hb dX0_keepClause_86 (by decide) ?_
    obtain rfl := Option.some.inj h
    exact hk _ _ _ _ I dX0_keepClause_189
  have h := sg_iff h c1
  have i1 := sg_ine (z := 1) (by decide) c1
  by_cases c2 : p1 = 2
  · have h := sg_ift h c2
    refine sg_swIn (k := 2) (off := 88) (tgt := 89) hx hb dX0_keepClause_1 c2 (by decide) (by decide) (by decide +kernel) (by decide) ?_
    refine lv_aload_n hx hb dX0_keepClause_89 rfl (lv_at hl 0 rfl) ?_
    refine sg_getr X I fk_X0_15 (j := o + 2) (isCo_i0 ho) (isCo_s0 ho) rfl dX0_keepClause_90 ?_
    refine lv_aload_n hx hb dX0_keepClause_93 rfl (lv_at hl 0 rfl) ?_
    refine sg_geti X I fk_X0_48 (isCo_i0 ho) (isCo_s0 ho) rfl dX0_keepClause_94 ?_
    refine lv_aload_n hx hb dX0_keepClause_97 rfl (lv_at hl 0 rfl) ?_
    refine sg_getr X I fk_X0_37 (j := o + 7) (isCo_i0 ho) (isCo_s0 ho) rfl dX0_keepClause_98 ?_
    refine lv_iconst (v := 3) hx hb dX0_keepClause_101 (by decide) ?_
    refine sg_iald X I (isCo_i7 ho) (isCo_s7 ho) h dX0_keepClause_102 (fun v9 h => ?_)
    refine sg_iast X I (isCo_i2 ho) (isCo_s2 ho) h dX0_keepClause_103 (fun s10 H locs h I => ?_)
    refine lv_aload_n hx hb dX0_keepClause_104 rfl (lv_at hl 0 rfl) ?_
    refine sg_getr X I fk_X0_18 (j := o + 3) (isCo_i0 ho) (isCo_s0 ho) rfl dX0_keepClause_105 ?_
    refine lv_aload_n hx hb dX0_keepClause_108 rfl (lv_at hl 0 rfl) ?_
    refine sg_geti X I fk_X0_48 (isCo_i0 ho) (isCo_s0 ho) rfl dX0_keepClause_109 ?_
    refine lv_aload_n hx hb dX0_keepClause_112 rfl (lv_at hl 0 rfl) ?_
    refine sg_getr X I fk_X0_37 (j := o + 7) (isCo_i0 ho) (isCo_s0 ho) rfl dX0_keepClause_113 ?_
    refine lv_iconst (v := 4) hx hb dX0_keepClause_116 (by decide) ?_
    refine sg_iald X I (isCo_i7 ho) (isCo_s7 ho) h dX0_keepClause_117 (fun v11 h => ?_)
    refine sg_iast X I (isCo_i3 ho) (isCo_s3 ho) h dX0_keepClause_118 (fun s12 H locs h I => ?_)
    refine lv_aload_n hx hb dX0_keepClause_119 rfl (lv_at hl 0 rfl) ?_
    refine sg_getr X I fk_X0_21 (j := o + 4) (isCo_i0 ho) (isCo_s0 ho) rfl dX0_keepClause_120 ?_
    refine lv_aload_n hx hb dX0_keepClause_123 rfl (lv_at hl 0 rfl) ?_
    refine sg_geti X I fk_X0_48 (isCo_i0 ho) (isCo_s0 ho) rfl dX0_keepClause_124 ?_
    refine lv_aload_n hx hb dX0_keepClause_127 rfl (lv_at hl 0 rfl) ?_
    refine sg_getr X I fk_X0_37 (j := o + 7) (isCo_i0 ho) (isCo_s0 ho) rfl dX0_keepClause_128 ?_
    refine lv_iconst (v := 5) hx hb dX0_keepClause_131 (by decide) ?_
    refine sg_iald X I (isCo_i7 ho) (isCo_s7 ho) h dX0_keepClause_132 (fun v13 h => ?_)
    refine sg_iast X I (isCo_i4 ho) (isCo_s4 ho) h dX0_keepClause_133 (fun s14 H locs h I => ?_)
    refine lv_aload_n hx hb dX0_keepClause_134 rfl (lv_at hl 0 rfl) ?_
    refine sg_getr X I fk_X0_24 (j := o + 5) (isCo_i0 ho) (isCo_s0 ho) rfl dX0_keepClause_135 ?_
    refine lv_aload_n hx hb dX0_keepClause_138 rfl (lv_at hl 0 rfl) ?_
    refine sg_geti X I fk_X0_48 (isCo_i0 ho) (isCo_s0 ho) rfl dX0_keepClause_139 ?_
    refine lv_aload_n hx hb dX0_keepClause_142 rfl (lv_at hl 0 rfl) ?_
    refine sg_getr X I fk_X0_37 (j := o + 7) (isCo_i0 ho) (isCo_s0 ho) rfl dX0_keepClause_143 ?_
    refine lv_bipush (v := 6) hx hb dX0_keepClause_146 (by decide) ?_
    refine sg_iald X I (isCo_i7 ho) (isCo_s7 ho) h dX0_keepClause_148 (fun v15 h => ?_)
    refine sg_iast X I (isCo_i5 ho) (isCo_s5 ho) h dX0_keepClause_149 (fun s16 H locs h I => ?_)
    refine lv_aload_n hx hb dX0_keepClause_150 rfl (lv_at hl 0 rfl) ?_
    refine lv_dup hx hb dX0_keepClause_151 rfl ?_
    refine sg_geti X I fk_X0_48 (isCo_i0 ho) (isCo_s0 ho) rfl dX0_keepClause_152 ?_
    refine lv_iconst (v := 1) hx hb dX0_keepClause_155 (by decide) ?_
    refine lv_iadd hx hb dX0_keepClause_156 ?_
    refine sg_puti X I fk_X0_48 wk_0_4 rfl rfl (isCo_i0 ho) (isCo_s0 ho) rfl h dX0_keepClause_157 (fun s17 H locs h I => ?_)
    refine lv_goto (tgt := 189) hx hb dX0_keepClause_160 (by decide) ?_
    obtain rfl := Option.some.inj h
    exact hk _ _ _ _ I dX0_keepClause_189
  have h := sg_iff h c2
  have i2 := sg_ine (z := 2) (by decide) c2
  refine lv_tableOut (tgt := 163) hx hb dX0_keepClause_1 (by omega) (by decide) ?_
  refine lv_aload_n hx hb dX0_keepClause_163 rfl (lv_at hl 0 rfl) ?_
  refine sg_getr X I fk_X0_27 (j := o + 6) (isCo_i0 ho) (isCo_s0 ho) rfl dX0_keepClause_164 ?_
  refine lv_aload_n hx hb dX0_keepClause_167 rfl (lv_at hl 0 rfl) ?_
  refine sg_geti X I fk_X0_51 (isCo_i0 ho) (isCo_s0 ho) rfl dX0_keepClause_168 ?_
  refine lv_aload_n hx hb dX0_keepClause_171 rfl (lv_at hl 0 rfl) ?_
  refine sg_getr X I fk_X0_37 (j := o + 7) (isCo_i0 ho) (isCo_s0 ho) rfl dX0_keepClause_172 ?_
  refine lv_bipush (v := 7) hx hb dX0_keepClause_175 (by decide) ?_
  refine sg_iald X I (isCo_i7 ho) (isCo_s7 ho) h dX0_keepClause_177 (fun v18 h => ?_)
  refine sg_iast X I (isCo_i6 ho) (isCo_s6 ho) h dX0_keepClause_178 (fun s19 H locs h I => ?_)
  refine lv_aload_n hx hb dX0_keepClause_179 rfl (lv_at hl 0 rfl) ?_
  refine lv_dup hx hb dX0_keepClause_180 rfl ?_
  refine sg_geti X I fk_X0_51 (isCo_i0 ho) (isCo_s0 ho) rfl dX0_keepClause_181 ?_
  refine lv_iconst (v := 1) hx hb dX0_keepClause_184 (by decide) ?_
  refine lv_iadd hx hb dX0_keepClause_185 ?_
  refine sg_puti X I fk_X0_51 wk_0_5 rfl rfl (isCo_i0 ho) (isCo_s0 ho) rfl h dX0_keepClause_186 (fun s20 H locs h I => ?_)
  obtain rfl := Option.some.inj h
  exact hk _ _ _ _ I dX0_keepClause_189
set_option maxHeartbeats 4000000 in
set_option maxRecDepth 100000 in
theorem c_X0_keepClause {l : Launch} {P : sgP} {N : Nat} {o : Nat} {p1 : Int32} {σ : sgS} (ho : isCo o) {q : Int32 × sgS} (h : f_X0_keepClause N o p1 σ = some q) : sg_Mv P shC 332 l yX0_keepClause cX0_keepClause 2 none 1 [.ref (sgA P o), .int p1] σ q := by
  refine sg_mkv (plainFor_of_name (by decide +kernel)) (Nat.le_of_ble_eq_true rfl) ?_
  intro p e R s m args below meth c Q A ls H locs X I hl hk
  exact b_X0_keepClause X ho I hl h hk
def f_X0_readClause_B21 (N : Nat) (o : Nat) (k0 : Int32) (σ : sgS) : Option (Int32 × sgS) :=
  if k0 < 0 then
  (some (vp_nar .boolean 0, σ))
else
  (sg_cr (f_X0_clausesOf N o k0 σ) fun v4 =>
  sg_tb (sg_sv 0) k0 fun v5 =>
  if v4 < v5 then
    (sg_pf σ 1 2 ((σ.1 1 2) + 1) fun s6 =>
    sg_tb (sg_sv 1) k0 fun v7 =>
    sg_tb (sg_sv 1) (k0 + 1) fun v8 =>
    sg_cl (f_X0_readItems N o v7 v8 s6) fun v9 s10 =>
    if v9 = 0 then
      (some (vp_nar .boolean 0, s10))
    else
      (sg_cl (f_X0_keepClause N o k0 s10) fun v11 s12 =>
      some (vp_nar .boolean 1, s12)))
  else
    (some (vp_nar .boolean 0, σ)))
set_option maxHeartbeats 4000000 in
set_option maxRecDepth 100000 in
theorem b_X0_readClause_B21 {p : Program} {l : Launch} {e : Env} {R : Room} {s : State} {m : MethodId} {args : Array Value} {below : List Frame} {meth : Method} {c : Code} {Q : State → Prop} {P : sgP} {A : Nat → Prop} {N : Nat} {o : Nat} {k0 : Int32} {σ : sgS} (X : sg_C P A 7 p R s m args c cX0_readClause 4 RX0) (ho : isCo o) {H : Heap} {locs : List Loc} (I : sg_I P shC 332 A s.heap σ H locs) {ls : Array Slot} (hl : lv_has ls 4 [(0, .ref (sgA P o)), (1, .ref (sgA P 1))]) {st : Int32 × sgS} (h : f_X0_readClause_B21 N o k0 σ = some st) (hk : sg_Ri p l e R s m args below meth c Q P shC 332 A cX0_readClause (some .boolean) st) : W p l e R s m args below meth c H locs 0 0 Q (F0 m 21 ls [.int k0]) := by
  unfold f_X0_readClause_B21 at h
  have hx := X.1.1
  have hb := X.1.2.1
  have hown := X.1.2.2.2.1
  have hts := X.1.2.2.2.2
  refine lv_istore_n (lv' := [(3, .int k0), (0, .ref (sgA P o)), (1, .ref (sgA P 1))]) hx hb dX0_readClause_21 rfl hl (by decide) rfl (fun ls hl => ?_)
  refine lv_iload_n hx hb dX0_readClause_22 rfl (lv_at hl 0 rfl) ?_
  refine lv_if_lt (tgt := 39) hx hb dX0_readClause_23 (by decide) (fun z => ?_) (fun z => ?_)
  · have h := sg_ift h z
    refine lv_iconst (v := 0) hx hb dX0_readClause_39 (by decide) ?_
    obtain rfl := Option.some.inj h
    exact hk _ _ _ _ _ I ⟨_, rfl, rfl⟩ dX0_readClause_40
  · have h := sg_iff h z
    refine lv_aload_n hx hb dX0_readClause_26 rfl (lv_at hl 1 rfl) ?_
    refine lv_iload_n hx hb dX0_readClause_27 rfl (lv_at hl 0 rfl) ?_
    refine sg_callVr (As := [.int k0]) X I mk_X0_100 (by decide) (isCo_i0 ho) (isCo_s0 ho) rfl (fun q9 e9 => c_X0_clausesOf ho e9) h hl.1 rfl rfl (Nat.le_of_ble_eq_true rfl) dX0_readClause_28 (fun v4 H locs h I => ?_)
    refine sg_gets X I (j := 0) (by decide) qw_260 dX0_readClause_31 ?_
    refine lv_iload_n hx hb dX0_readClause_34 rfl (lv_at hl 0 rfl) ?_
    refine sg_tab X I (by decide) h dX0_readClause_35 (fun v5 h => ?_)
    refine lv_icmp_lt (tgt := 41) hx hb dX0_readClause_36 (by decide) (fun z => ?_) (fun z => ?_)
    · have h := sg_ift h z
      refine lv_aload_n hx hb dX0_readClause_41 rfl (lv_at hl 2 rfl) ?_
      refine lv_dup hx hb dX0_readClause_42 rfl ?_
      refine sg_getiN X I fn_X0_75 (by decide) shC_1 rfl dX0_readClause_43 ?_
      refine lv_iconst (v := 1) hx hb dX0_readClause_46 (by decide) ?_
      refine lv_iadd hx hb dX0_readClause_47 ?_
      refine sg_putiN X I fn_X0_75 wk_9_2 rfl rfl (by decide) shC_1 rfl h dX0_readClause_48 (fun s6 H locs h I => ?_)
      refine lv_aload_n hx hb dX0_readClause_51 rfl (lv_at hl 1 rfl) ?_
      refine lv_aload_n hx hb dX0_readClause_52 rfl (lv_at hl 2 rfl) ?_
      refine sg_gets X I (j := 1) (by decide) qw_261 dX0_readClause_53 ?_
      refine lv_iload_n hx hb dX0_readClause_56 rfl (lv_at hl 0 rfl) ?_
      refine sg_tab X I (by decide) h dX0_readClause_57 (fun v7 h => ?_)
      refine sg_gets X I (j := 1) (by decide) qw_261 dX0_readClause_58 ?_
      refine lv_iload_n hx hb dX0_readClause_61 rfl (lv_at hl 0 rfl) ?_
      refine lv_iconst (v := 1) hx hb dX0_readClause_62 (by decide) ?_
      refine lv_iadd hx hb dX0_readClause_63 ?_
      refine sg_tab X I (by decide) h dX0_readClause_64 (fun v8 h => ?_)
      refine sg_callV (As := [.ref (sgA P 1), .int v7, .int v8]) X I mk_X0_109 (by decide) (isCo_i0 ho) (isCo_s0 ho) rfl (fun q9 e9 => c_X0_readItems ho e9) h hl.1 rfl rfl (Nat.le_of_ble_eq_true rfl) dX0_readClause_65 (fun v9 s10 H locs h I => ?_)
      refine lv_if_ne (tgt := 73) hx hb dX0_readClause_68 (by decide) (fun z => ?_) (fun z => ?_)
      · have h := sg_iff h z
        refine lv_aload_n hx hb dX0_readClause_73 rfl (lv_at hl 1 rfl) ?_
        refine lv_iload_n hx hb dX0_readClause_74 rfl (lv_at hl 0 rfl) ?_
        refine sg_callVv (As := [.int k0]) X I mk_X0_113 (by decide) (isCo_i0 ho) (isCo_s0 ho) rfl (fun q9 e9 => c_X0_keepClause ho e9) h hl.1 rfl rfl (Nat.le_of_ble_eq_true rfl) dX0_readClause_75 (fun v11 s12 H locs h I => ?_)
        refine lv_iconst (v := 1) hx hb dX0_readClause_78 (by decide) ?_
        obtain rfl := Option.some.inj h
        exact hk _ _ _ _ _ I ⟨_, rfl, rfl⟩ dX0_readClause_79
      · have h := sg_ift h z
        refine lv_iconst (v := 0) hx hb dX0_readClause_71 (by decide) ?_
        obtain rfl := Option.some.inj h
        exact hk _ _ _ _ _ I ⟨_, rfl, rfl⟩ dX0_readClause_72
    · have h := sg_iff h z
      refine lv_iconst (v := 0) hx hb dX0_readClause_39 (by decide) ?_
      obtain rfl := Option.some.inj h
      exact hk _ _ _ _ _ I ⟨_, rfl, rfl⟩ dX0_readClause_40
def f_X0_readClause (N : Nat) (o : Nat) (σ : sgS) : Option (Int32 × sgS) :=
  sg_cl (f_X9_sign N σ) fun v1 s2 =>
if v1 = ((-1)) then
  (f_X0_readClause_B21 N o ((-1)) s2)
else
  (sg_cr (f_J0_indexOf_0f7a4 N 1 ((v1.toUInt32 % 65536).toInt32) s2) fun v3 =>
  f_X0_readClause_B21 N o v3 s2)
set_option maxHeartbeats 4000000 in
set_option maxRecDepth 100000 in
theorem b_X0_readClause {p : Program} {l : Launch} {e : Env} {R : Room} {s : State} {m : MethodId} {args : Array Value} {below : List Frame} {meth : Method} {c : Code} {Q : State → Prop} {P : sgP} {A : Nat → Prop} {N : Nat} {o : Nat} {σ : sgS} (X : sg_C P A 7 p R s m args c cX0_readClause 4 RX0) (ho : isCo o) {H : Heap} {locs : List Loc} (I : sg_I P shC 332 A s.heap σ H locs) {ls : Array Slot} (hl : lv_has ls 4 [(0, .ref (sgA P o)), (1, .ref (sgA P 1))]) {st : Int32 × sgS} (h : f_X0_readClause N o σ = some st) (hk : sg_Ri p l e R s m args below meth c Q P shC 332 A cX0_readClause (some .boolean) st) : W p l e R s m args below meth c H locs 0 0 Q (F0 m 0 ls []) := by
  unfold f_X0_readClause at h
  have hx := X.1.1
  have hb := X.1.2.1
  have hown := X.1.2.2.2.1
  have hts := X.1.2.2.2.2
  refine lv_aload_n hx hb dX0_readClause_0 rfl (lv_at hl 1 rfl) ?_
  refine sg_callV (As := []) X I mk_X0_84 (by decide) (by decide) shC_1 rfl (fun q9 e9 => c_X9_sign e9) h hl.1 rfl rfl (Nat.le_of_ble_eq_true rfl) dX0_readClause_1 (fun v1 s2 H locs h I => ?_)
  refine lv_istore_n (lv' := [(2, .int v1), (0, .ref (sgA P o)), (1, .ref (sgA P 1))]) hx hb dX0_readClause_4 rfl hl (by decide) rfl (fun ls hl => ?_)
  refine lv_iload_n hx hb dX0_readClause_5 rfl (lv_at hl 0 rfl) ?_
  refine lv_iconst (v := -1) hx hb dX0_readClause_6 (by decide) ?_
  refine lv_icmp_ne (tgt := 14) hx hb dX0_readClause_7 (by decide) (fun z => ?_) (fun z => ?_)
  · have h := sg_iff h z
    refine sg_ldcs (i := 1) X X.2.2.2.2.1.2.2.1.2.1 dX0_readClause_14 ?_
    refine lv_iload_n hx hb dX0_readClause_16 rfl (lv_at hl 0 rfl) ?_
    refine lv_i2c (v := (v1.toUInt32 % 65536).toInt32) hx hb dX0_readClause_17 rfl ?_
    refine sg_callK (As := [.int ((v1.toUInt32 % 65536).toInt32)]) X I mk_X0_96 (by decide) (by decide) (fun q9 e9 => c_J0_indexOf_0f7a4 (by decide) e9) h hl.1 rfl rfl (Nat.le_of_ble_eq_true rfl) dX0_readClause_18 (fun v3 H locs h I => ?_)
    exact b_X0_readClause_B21 X ho I (lv_sub hl [1, 2] rfl) h hk
  · have h := sg_ift h z
    refine lv_iconst (v := -1) hx hb dX0_readClause_10 (by decide) ?_
    refine lv_goto (tgt := 21) hx hb dX0_readClause_11 (by decide) ?_
    exact b_X0_readClause_B21 X ho I (lv_sub hl [1, 2] rfl) h hk
set_option maxHeartbeats 4000000 in
set_option maxRecDepth 100000 in
theorem c_X0_readClause {l : Launch} {P : sgP} {N : Nat} {o : Nat} {σ : sgS} (ho : isCo o) {q : Int32 × sgS} (h : f_X0_readClause N o σ = some q) : sg_Mi P shC 332 l yX0_readClause cX0_readClause 4 (some .boolean) 7 [.ref (sgA P o), .ref (sgA P 1)] σ q := by
  refine sg_mki (plainFor_of_name (by decide +kernel)) (Nat.le_of_ble_eq_true rfl) ?_
  intro p e R s m args below meth c Q A ls H locs X I hl hk
  exact b_X0_readClause X ho I hl h hk
