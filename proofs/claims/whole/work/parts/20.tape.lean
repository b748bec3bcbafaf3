def f_X9_bytesOf_L5 (N : Nat) (p0 : Int32) (x1 : Int32) (x2 : Int32) (σ : sgS) : Option ((Int32) ⊕ ((Int32 × Int32) ⊕ (Int32))) :=
  if x2 < 0 then
  (some (.inr (.inr x1)))
else
  (if ((sg_ushr p0 x2) &&& 255) = 0 then
    (some (.inr (.inl (x1, x2 + (-8)))))
  else
    (some (.inr (.inl (x1 + 1, x2 + (-8))))))
set_option maxHeartbeats 4000000 in
set_option maxRecDepth 100000 in
theorem b_X9_bytesOf_L5 {p : Program} {l : Launch} {e : Env} {R : Room} {s : State} {m : MethodId} {args : Array Value} {below : List Frame} {meth : Method} {c : Code} {Q : State → Prop} {P : sgP} {A : Nat → Prop} {N : Nat} {p0 : Int32} {x1 : Int32} {x2 : Int32} {σ : sgS} (X : sg_C P A 1 p R s m args c cX9_bytesOf 3 RX9) {H : Heap} {locs : List Loc} (I : sg_I P shC 332 A s.heap σ H locs) {ls : Array Slot} (hl : lv_has ls 3 [(0, .int p0), (1, .int x1), (2, .int x2)]) {st : (Int32) ⊕ ((Int32 × Int32) ⊕ (Int32))} (h : f_X9_bytesOf_L5 N p0 x1 x2 σ = some st) (hk : sg_k3 (fun r => sg_Ri p l e R s m args below meth c Q P shC 332 A cX9_bytesOf (some .int) (r, σ)) (fun x => sg_Wt p l e R s m args below meth c Q P shC 332 A 3 5 σ [(0, .int p0), (1, .int x.1), (2, .int x.2)]) (fun y => sg_Wt p l e R s m args below meth c Q P shC 332 A 3 28 σ [(1, .int y)]) st) : W p l e R s m args below meth c H locs 0 0 Q (F0 m 5 ls []) := by
  unfold f_X9_bytesOf_L5 at h
  have hx := X.1.1
  have hb := X.1.2.1
  have hown := X.1.2.2.2.1
  have hts := X.1.2.2.2.2
  refine lv_iload_n hx hb dX9_bytesOf_5 rfl (lv_at hl 2 rfl) ?_
  refine lv_if_lt (tgt := 28) hx hb dX9_bytesOf_6 (by decide) (fun c => ?_) (fun c => ?_)
  · have h := sg_ift h c
    obtain rfl := Option.some.inj h
    exact sg_go hk I (lv_sub hl [1] rfl)
  · have h := sg_iff h c
    refine lv_iload_n hx hb dX9_bytesOf_9 rfl (lv_at hl 0 rfl) ?_
    refine lv_iload_n hx hb dX9_bytesOf_10 rfl (lv_at hl 2 rfl) ?_
    refine lv_iushr (v := sg_ushr p0 x2) hx hb dX9_bytesOf_11 rfl ?_
    refine lv_sipush (v := 255) hx hb dX9_bytesOf_12 (by decide) ?_
    refine lv_iand hx hb dX9_bytesOf_15 ?_
    refine lv_if_eq (tgt := 22) hx hb dX9_bytesOf_16 (by decide) (fun c => ?_) (fun c => ?_)
    · have h := sg_ift h c
      refine lv_iinc (v := x2 + (-8)) (lv' := [(2, .int (x2 + (-8))), (0, .int p0), (1, .int x1)]) hx hb dX9_bytesOf_22 hl (k := 2) rfl rfl (by decide) rfl (fun ls hl => ?_)
      refine lv_goto (tgt := 5) hx hb dX9_bytesOf_25 (by decide) ?_
      obtain rfl := Option.some.inj h
      exact sg_go hk I (lv_sub hl [1, 2, 0] rfl)
    · have h := sg_iff h c
      refine lv_iinc (v := x1 + 1) (lv' := [(1, .int (x1 + 1)), (0, .int p0), (2, .int x2)]) hx hb dX9_bytesOf_19 hl (k := 1) rfl rfl (by decide) rfl (fun ls hl => ?_)
      refine lv_iinc (v := x2 + (-8)) (lv' := [(2, .int (x2 + (-8))), (1, .int (x1 + 1)), (0, .int p0)]) hx hb dX9_bytesOf_22 hl (k := 2) rfl rfl (by decide) rfl (fun ls hl => ?_)
      refine lv_goto (tgt := 5) hx hb dX9_bytesOf_25 (by decide) ?_
      obtain rfl := Option.some.inj h
      exact sg_go hk I (lv_sub hl [2, 1, 0] rfl)
def f_X9_bytesOf (N : Nat) (p0 : Int32) (σ : sgS) : Option (Int32) :=
  sg_lb (sg_lp (fun x => f_X9_bytesOf_L5 N p0 x.1 x.2 σ) N ((0, 24))) (fun r => some r) fun y1 =>
some y1
set_option maxHeartbeats 4000000 in
set_option maxRecDepth 100000 in
theorem b_X9_bytesOf {p : Program} {l : Launch} {e : Env} {R : Room} {s : State} {m : MethodId} {args : Array Value} {below : List Frame} {meth : Method} {c : Code} {Q : State → Prop} {P : sgP} {A : Nat → Prop} {N : Nat} {p0 : Int32} {σ : sgS} (X : sg_C P A 1 p R s m args c cX9_bytesOf 3 RX9) {H : Heap} {locs : List Loc} (I : sg_I P shC 332 A s.heap σ H locs) {ls : Array Slot} (hl : lv_has ls 3 [(0, .int p0)]) {st : Int32} (h : f_X9_bytesOf N p0 σ = some st) (hk : sg_Ri p l e R s m args below meth c Q P shC 332 A cX9_bytesOf (some .int) (st, σ)) : W p l e R s m args below meth c H locs 0 0 Q (F0 m 0 ls []) := by
  unfold f_X9_bytesOf at h
  have hx := X.1.1
  have hb := X.1.2.1
  have hown := X.1.2.2.2.1
  have hts := X.1.2.2.2.2
  refine lv_iconst (v := 0) hx hb dX9_bytesOf_0 (by decide) ?_
  refine lv_istore_n (lv' := [(1, .int 0), (0, .int p0)]) hx hb dX9_bytesOf_1 rfl hl (by decide) rfl (fun ls hl => ?_)
  refine lv_bipush (v := 24) hx hb dX9_bytesOf_2 (by decide) ?_
  refine lv_istore_n (lv' := [(2, .int 24), (1, .int 0), (0, .int p0)]) hx hb dX9_bytesOf_4 rfl hl (by decide) rfl (fun ls hl => ?_)
  obtain ⟨res, e9, k9⟩ := sg_lb_some h
  refine sg_go (sg_lp_W (a := (fun r => sg_Ri p l e R s m args below meth c Q P shC 332 A cX9_bytesOf (some .int) (r, σ))) (w := (fun x => sg_Wt p l e R s m args below meth c Q P shC 332 A 3 5 σ [(0, .int p0), (1, .int x.1), (2, .int x.2)])) (c := (fun y => sg_Wt p l e R s m args below meth c Q P shC 332 A 3 28 σ [(1, .int y)])) (fun x st hb9 hk9 => ?_) N ((0, 24)) res e9 (sg_k2_mono k9 (fun r h => ?_) (fun y1 h => ?_))) I (lv_sub hl [2, 1, 0] rfl)
  · intro H locs ls I hl
    exact b_X9_bytesOf_L5 X I hl hb9 hk9
  · obtain rfl := Option.some.inj h
    exact hk
  · intro H locs ls I hl
    refine lv_iload_n hx hb dX9_bytesOf_28 rfl (lv_at hl 0 rfl) ?_
    obtain rfl := Option.some.inj h
    exact hk _ _ _ _ _ I ⟨_, rfl, rfl⟩ dX9_bytesOf_29
set_option maxHeartbeats 4000000 in
set_option maxRecDepth 100000 in
theorem c_X9_bytesOf {l : Launch} {P : sgP} {N : Nat} {p0 : Int32} {σ : sgS} {q : Int32} (h : f_X9_bytesOf N p0 σ = some q) : sg_Mi P shC 332 l yX9_bytesOf cX9_bytesOf 3 (some .int) 1 [.int p0] σ (q, σ) := by
  refine sg_mki (by decide +kernel) (Nat.le_of_ble_eq_true rfl) ?_
  intro p e R s m args below meth c Q A ls H locs X I hl hk
  exact b_X9_bytesOf X I hl h hk
def f_X9_append_L3 (N : Nat) (p1 : Int32) (x2 : Int32) (σ : sgS) : Option ((Int32 × sgS) ⊕ ((sgS × Int32) ⊕ (sgS))) :=
  if x2 < 0 then
  (some (.inr (.inr σ)))
else
  (if ((sg_ushr p1 x2) &&& 255) = 0 then
    (some (.inr (.inl (σ, x2 + (-8)))))
  else
    (if 240 ≤ (σ.1 1 1) then
      (some (.inr (.inl (σ, x2 + (-8)))))
    else
      (sg_st σ 2 240 (σ.1 1 1) ((sg_ushr p1 x2) &&& 255) fun s1 =>
      sg_pf s1 1 1 ((s1.1 1 1) + 1) fun s2 =>
      some (.inr (.inl (s2, x2 + (-8)))))))
set_option maxHeartbeats 4000000 in
set_option maxRecDepth 100000 in
theorem b_X9_append_L3 {p : Program} {l : Launch} {e : Env} {R : Room} {s : State} {m : MethodId} {args : Array Value} {below : List Frame} {meth : Method} {c : Code} {Q : State → Prop} {P : sgP} {A : Nat → Prop} {N : Nat} {p1 : Int32} {x2 : Int32} {σ : sgS} (X : sg_C P A 1 p R s m args c cX9_append 4 RX9) {H : Heap} {locs : List Loc} (I : sg_I P shC 332 A s.heap σ H locs) {ls : Array Slot} (hl : lv_has ls 4 [(0, .ref (sgA P 1)), (1, .int p1), (2, .int x2)]) {st : (Int32 × sgS) ⊕ ((sgS × Int32) ⊕ (sgS))} (h : f_X9_append_L3 N p1 x2 σ = some st) (hk : sg_k3 (sg_Rv p l e R s m args below meth c Q P shC 332 A cX9_append) (fun x => sg_Wt p l e R s m args below meth c Q P shC 332 A 4 3 x.1 [(0, .ref (sgA P 1)), (1, .int p1), (2, .int x.2)]) (fun y => sg_Wt p l e R s m args below meth c Q P shC 332 A 4 57 y []) st) : W p l e R s m args below meth c H locs 0 0 Q (F0 m 3 ls []) := by
  unfold f_X9_append_L3 at h
  have hx := X.1.1
  have hb := X.1.2.1
  have hown := X.1.2.2.2.1
  have hts := X.1.2.2.2.2
  refine lv_iload_n hx hb dX9_append_3 rfl (lv_at hl 2 rfl) ?_
  refine lv_if_lt (tgt := 57) hx hb dX9_append_4 (by decide) (fun c => ?_) (fun c => ?_)
  · have h := sg_ift h c
    obtain rfl := Option.some.inj h
    exact sg_go hk I (lv_sub hl [] rfl)
  · have h := sg_iff h c
    refine lv_iload_n hx hb dX9_append_7 rfl (lv_at hl 1 rfl) ?_
    refine lv_iload_n hx hb dX9_append_8 rfl (lv_at hl 2 rfl) ?_
    refine lv_iushr (v := sg_ushr p1 x2) hx hb dX9_append_9 rfl ?_
    refine lv_sipush (v := 255) hx hb dX9_append_10 (by decide) ?_
    refine lv_iand hx hb dX9_append_13 ?_
    refine lv_istore_n (lv' := [(3, .int ((sg_ushr p1 x2) &&& 255)), (0, .ref (sgA P 1)), (1, .int p1), (2, .int x2)]) hx hb dX9_append_14 rfl hl (by decide) rfl (fun ls hl => ?_)
    refine lv_iload_n hx hb dX9_append_15 rfl (lv_at hl 0 rfl) ?_
    refine lv_if_eq (tgt := 51) hx hb dX9_append_16 (by decide) (fun c => ?_) (fun c => ?_)
    · have h := sg_ift h c
      refine lv_iinc (v := x2 + (-8)) (lv' := [(2, .int (x2 + (-8))), (3, .int ((sg_ushr p1 x2) &&& 255)), (0, .ref (sgA P 1)), (1, .int p1)]) hx hb dX9_append_51 hl (k := 3) rfl rfl (by decide) rfl (fun ls hl => ?_)
      refine lv_goto (tgt := 3) hx hb dX9_append_54 (by decide) ?_
      obtain rfl := Option.some.inj h
      exact sg_go hk I (lv_sub hl [2, 3, 0] rfl)
    · have h := sg_iff h c
      refine lv_aload_n hx hb dX9_append_19 rfl (lv_at hl 1 rfl) ?_
      refine sg_geti X I fk_X9_15 (by decide) shC_1 rfl dX9_append_20 ?_
      refine lv_aload_n hx hb dX9_append_23 rfl (lv_at hl 1 rfl) ?_
      refine sg_getr X I fk_X9_9 (j := 2) (by decide) shC_1 rfl dX9_append_24 ?_
      refine sg_alen X I (v := 240) (by decide) shC_2 rfl dX9_append_27 ?_
      refine lv_icmp_ge (tgt := 51) hx hb dX9_append_28 (by decide) (fun c => ?_) (fun c => ?_)
      · have h := sg_ift h c
        refine lv_iinc (v := x2 + (-8)) (lv' := [(2, .int (x2 + (-8))), (3, .int ((sg_ushr p1 x2) &&& 255)), (0, .ref (sgA P 1)), (1, .int p1)]) hx hb dX9_append_51 hl (k := 3) rfl rfl (by decide) rfl (fun ls hl => ?_)
        refine lv_goto (tgt := 3) hx hb dX9_append_54 (by decide) ?_
        obtain rfl := Option.some.inj h
        exact sg_go hk I (lv_sub hl [2, 3, 0] rfl)
      · have h := sg_iff h c
        refine lv_aload_n hx hb dX9_append_31 rfl (lv_at hl 1 rfl) ?_
        refine sg_getr X I fk_X9_9 (j := 2) (by decide) shC_1 rfl dX9_append_32 ?_
        refine lv_aload_n hx hb dX9_append_35 rfl (lv_at hl 1 rfl) ?_
        refine sg_geti X I fk_X9_15 (by decide) shC_1 rfl dX9_append_36 ?_
        refine lv_iload_n hx hb dX9_append_39 rfl (lv_at hl 0 rfl) ?_
        refine sg_iast X I (by decide) shC_2 h dX9_append_40 (fun s1 H locs h I => ?_)
        refine lv_aload_n hx hb dX9_append_41 rfl (lv_at hl 1 rfl) ?_
        refine lv_dup hx hb dX9_append_42 rfl ?_
        refine sg_geti X I fk_X9_15 (by decide) shC_1 rfl dX9_append_43 ?_
        refine lv_iconst (v := 1) hx hb dX9_append_46 (by decide) ?_
        refine lv_iadd hx hb dX9_append_47 ?_
        refine sg_puti X I fk_X9_15 wk_9_1 rfl rfl (by decide) shC_1 rfl h dX9_append_48 (fun s2 H locs h I => ?_)
        refine lv_iinc (v := x2 + (-8)) (lv' := [(2, .int (x2 + (-8))), (3, .int ((sg_ushr p1 x2) &&& 255)), (0, .ref (sgA P 1)), (1, .int p1)]) hx hb dX9_append_51 hl (k := 3) rfl rfl (by decide) rfl (fun ls hl => ?_)
        refine lv_goto (tgt := 3) hx hb dX9_append_54 (by decide) ?_
        obtain rfl := Option.some.inj h
        exact sg_go hk I (lv_sub hl [2, 3, 0] rfl)
def f_X9_append (N : Nat) (p1 : Int32) (σ : sgS) : Option (Int32 × sgS) :=
  sg_lb (sg_lp (fun x => f_X9_append_L3 N p1 x.2 x.1) N ((σ, 24))) (fun r => some r) fun y3 =>
some (0, y3)
set_option maxHeartbeats 4000000 in
set_option maxRecDepth 100000 in
theorem b_X9_append {p : Program} {l : Launch} {e : Env} {R : Room} {s : State} {m : MethodId} {args : Array Value} {below : List Frame} {meth : Method} {c : Code} {Q : State → Prop} {P : sgP} {A : Nat → Prop} {N : Nat} {p1 : Int32} {σ : sgS} (X : sg_C P A 1 p R s m args c cX9_append 4 RX9) {H : Heap} {locs : List Loc} (I : sg_I P shC 332 A s.heap σ H locs) {ls : Array Slot} (hl : lv_has ls 4 [(0, .ref (sgA P 1)), (1, .int p1)]) {st : Int32 × sgS} (h : f_X9_append N p1 σ = some st) (hk : sg_Rv p l e R s m args below meth c Q P shC 332 A cX9_append st) : W p l e R s m args below meth c H locs 0 0 Q (F0 m 0 ls []) := by
  unfold f_X9_append at h
  have hx := X.1.1
  have hb := X.1.2.1
  have hown := X.1.2.2.2.1
  have hts := X.1.2.2.2.2
  refine lv_bipush (v := 24) hx hb dX9_append_0 (by decide) ?_
  refine lv_istore_n (lv' := [(2, .int 24), (0, .ref (sgA P 1)), (1, .int p1)]) hx hb dX9_append_2 rfl hl (by decide) rfl (fun ls hl => ?_)
  obtain ⟨res, e9, k9⟩ := sg_lb_some h
  refine sg_go (sg_lp_W (a := (sg_Rv p l e R s m args below meth c Q P shC 332 A cX9_append)) (w := (fun x => sg_Wt p l e R s m args below meth c Q P shC 332 A 4 3 x.1 [(0, .ref (sgA P 1)), (1, .int p1), (2, .int x.2)])) (c := (fun y => sg_Wt p l e R s m args below meth c Q P shC 332 A 4 57 y [])) (fun x st hb9 hk9 => ?_) N ((σ, 24)) res e9 (sg_k2_mono k9 (fun r h => ?_) (fun y3 h => ?_))) I (lv_sub hl [1, 2, 0] rfl)
  · intro H locs ls I hl
    exact b_X9_append_L3 X I hl hb9 hk9
  · obtain rfl := Option.some.inj h
    exact hk
  · intro H locs ls I hl
    obtain rfl := Option.some.inj h
    exact hk _ _ _ _ I dX9_append_57
set_option maxHeartbeats 4000000 in
set_option maxRecDepth 100000 in
theorem c_X9_append {l : Launch} {P : sgP} {N : Nat} {p1 : Int32} {σ : sgS} {q : Int32 × sgS} (h : f_X9_append N p1 σ = some q) : sg_Mv P shC 332 l yX9_append cX9_append 4 none 1 [.ref (sgA P 1), .int p1] σ q := by
  refine sg_mkv (by decide +kernel) (Nat.le_of_ble_eq_true rfl) ?_
  intro p e R s m args below meth c Q A ls H locs X I hl hk
  exact b_X9_append X I hl h hk
def f_X9_sign_L0 (N : Nat) (σ : sgS) : Option ((Int32 × sgS) ⊕ ((sgS) ⊕ (sgS))) :=
  if (σ.1 1 1) ≤ (σ.1 1 2) then
  (some (.inr (.inr σ)))
else
  (sg_ld σ 2 240 (σ.1 1 2) fun v1 =>
  if v1 = 32 then
    (sg_pf σ 1 2 ((σ.1 1 2) + 1) fun s2 =>
    some (.inr (.inl s2)))
  else
    (some (.inr (.inr σ))))
set_option maxHeartbeats 4000000 in
set_option maxRecDepth 100000 in
theorem b_X9_sign_L0 {p : Program} {l : Launch} {e : Env} {R : Room} {s : State} {m : MethodId} {args : Array Value} {below : List Frame} {meth : Method} {c : Code} {Q : State → Prop} {P : sgP} {A : Nat → Prop} {N : Nat} {σ : sgS} (X : sg_C P A 1 p R s m args c cX9_sign 1 RX9) {H : Heap} {locs : List Loc} (I : sg_I P shC 332 A s.heap σ H locs) {ls : Array Slot} (hl : lv_has ls 1 [(0, .ref (sgA P 1))]) {st : (Int32 × sgS) ⊕ ((sgS) ⊕ (sgS))} (h : f_X9_sign_L0 N σ = some st) (hk : sg_k3 (sg_Ri p l e R s m args below meth c Q P shC 332 A cX9_sign (some .int)) (fun x => sg_Wt p l e R s m args below meth c Q P shC 332 A 1 0 x [(0, .ref (sgA P 1))]) (fun y => sg_Wt p l e R s m args below meth c Q P shC 332 A 1 38 y [(0, .ref (sgA P 1))]) st) : W p l e R s m args below meth c H locs 0 0 Q (F0 m 0 ls []) := by
  unfold f_X9_sign_L0 at h
  have hx := X.1.1
  have hb := X.1.2.1
  have hown := X.1.2.2.2.1
  have hts := X.1.2.2.2.2
  refine lv_aload_n hx hb dX9_sign_0 rfl (lv_at hl 0 rfl) ?_
  refine sg_geti X I fk_X9_19 (by decide) shC_1 rfl dX9_sign_1 ?_
  refine lv_aload_n hx hb dX9_sign_4 rfl (lv_at hl 0 rfl) ?_
  refine sg_geti X I fk_X9_15 (by decide) shC_1 rfl dX9_sign_5 ?_
  refine lv_icmp_ge (tgt := 38) hx hb dX9_sign_8 (by decide) (fun c => ?_) (fun c => ?_)
  · have h := sg_ift h c
    obtain rfl := Option.some.inj h
    exact sg_go hk I (lv_sub hl [0] rfl)
  · have h := sg_iff h c
    refine lv_aload_n hx hb dX9_sign_11 rfl (lv_at hl 0 rfl) ?_
    refine sg_getr X I fk_X9_9 (j := 2) (by decide) shC_1 rfl dX9_sign_12 ?_
    refine lv_aload_n hx hb dX9_sign_15 rfl (lv_at hl 0 rfl) ?_
    refine sg_geti X I fk_X9_19 (by decide) shC_1 rfl dX9_sign_16 ?_
    refine sg_iald X I (by decide) shC_2 h dX9_sign_19 (fun v1 h => ?_)
    refine lv_bipush (v := 32) hx hb dX9_sign_20 (by decide) ?_
    refine lv_icmp_ne (tgt := 38) hx hb dX9_sign_22 (by decide) (fun c => ?_) (fun c => ?_)
    · have h := sg_iff h c
      obtain rfl := Option.some.inj h
      exact sg_go hk I (lv_sub hl [0] rfl)
    · have h := sg_ift h c
      refine lv_aload_n hx hb dX9_sign_25 rfl (lv_at hl 0 rfl) ?_
      refine lv_dup hx hb dX9_sign_26 rfl ?_
      refine sg_geti X I fk_X9_19 (by decide) shC_1 rfl dX9_sign_27 ?_
      refine lv_iconst (v := 1) hx hb dX9_sign_30 (by decide) ?_
      refine lv_iadd hx hb dX9_sign_31 ?_
      refine sg_puti X I fk_X9_19 wk_9_2 rfl rfl (by decide) shC_1 rfl h dX9_sign_32 (fun s2 H locs h I => ?_)
      refine lv_goto (tgt := 0) hx hb dX9_sign_35 (by decide) ?_
      obtain rfl := Option.some.inj h
      exact sg_go hk I (lv_sub hl [0] rfl)
def f_X9_sign (N : Nat) (σ : sgS) : Option (Int32 × sgS) :=
  sg_lb (sg_lp (fun x => f_X9_sign_L0 N x) N σ) (fun r => some r) fun y3 =>
if (y3.1 1 1) ≤ (y3.1 1 2) then
  (some ((-1), y3))
else
  (sg_ld y3 2 240 (y3.1 1 2) fun v4 =>
  some (v4, y3))
set_option maxHeartbeats 4000000 in
set_option maxRecDepth 100000 in
theorem b_X9_sign {p : Program} {l : Launch} {e : Env} {R : Room} {s : State} {m : MethodId} {args : Array Value} {below : List Frame} {meth : Method} {c : Code} {Q : State → Prop} {P : sgP} {A : Nat → Prop} {N : Nat} {σ : sgS} (X : sg_C P A 1 p R s m args c cX9_sign 1 RX9) {H : Heap} {locs : List Loc} (I : sg_I P shC 332 A s.heap σ H locs) {ls : Array Slot} (hl : lv_has ls 1 [(0, .ref (sgA P 1))]) {st : Int32 × sgS} (h : f_X9_sign N σ = some st) (hk : sg_Ri p l e R s m args below meth c Q P shC 332 A cX9_sign (some .int) st) : W p l e R s m args below meth c H locs 0 0 Q (F0 m 0 ls []) := by
  unfold f_X9_sign at h
  have hx := X.1.1
  have hb := X.1.2.1
  have hown := X.1.2.2.2.1
  have hts := X.1.2.2.2.2
  obtain ⟨res, e9, k9⟩ := sg_lb_some h
  refine sg_go (sg_lp_W (a := (sg_Ri p l e R s m args below meth c Q P shC 332 A cX9_sign (some .int))) (w := (fun x => sg_Wt p l e R s m args below meth c Q P shC 332 A 1 0 x [(0, .ref (sgA P 1))])) (c := (fun y => sg_Wt p l e R s m args below meth c Q P shC 332 A 1 38 y [(0, .ref (sgA P 1))])) (fun x st hb9 hk9 => ?_) N σ res e9 (sg_k2_mono k9 (fun r h => ?_) (fun y3 h => ?_))) I (lv_sub hl [0] rfl)
  · intro H locs ls I hl
    exact b_X9_sign_L0 X I hl hb9 hk9
  · obtain rfl := Option.some.inj h
    exact hk
  · intro H locs ls I hl
    refine lv_aload_n hx hb dX9_sign_38 rfl (lv_at hl 0 rfl) ?_
    refine sg_geti X I fk_X9_19 (by decide) shC_1 rfl dX9_sign_39 ?_
    refine lv_aload_n hx hb dX9_sign_42 rfl (lv_at hl 0 rfl) ?_
    refine sg_geti X I fk_X9_15 (by decide) shC_1 rfl dX9_sign_43 ?_
    refine lv_icmp_ge (tgt := 61) hx hb dX9_sign_46 (by decide) (fun c => ?_) (fun c => ?_)
    · have h := sg_ift h c
      refine lv_iconst (v := -1) hx hb dX9_sign_61 (by decide) ?_
      obtain rfl := Option.some.inj h
      exact hk _ _ _ _ _ I ⟨_, rfl, rfl⟩ dX9_sign_62
    · have h := sg_iff h c
      refine lv_aload_n hx hb dX9_sign_49 rfl (lv_at hl 0 rfl) ?_
      refine sg_getr X I fk_X9_9 (j := 2) (by decide) shC_1 rfl dX9_sign_50 ?_
      refine lv_aload_n hx hb dX9_sign_53 rfl (lv_at hl 0 rfl) ?_
      refine sg_geti X I fk_X9_19 (by decide) shC_1 rfl dX9_sign_54 ?_
      refine sg_iald X I (by decide) shC_2 h dX9_sign_57 (fun v4 h => ?_)
      refine lv_goto (tgt := 62) hx hb dX9_sign_58 (by decide) ?_
      obtain rfl := Option.some.inj h
      exact hk _ _ _ _ _ I ⟨_, rfl, rfl⟩ dX9_sign_62
set_option maxHeartbeats 4000000 in
set_option maxRecDepth 100000 in
theorem c_X9_sign {l : Launch} {P : sgP} {N : Nat} {σ : sgS} {q : Int32 × sgS} (h : f_X9_sign N σ = some q) : sg_Mi P shC 332 l yX9_sign cX9_sign 1 (some .int) 1 [.ref (sgA P 1)] σ q := by
  refine sg_mki (by decide +kernel) (Nat.le_of_ble_eq_true rfl) ?_
  intro p e R s m args below meth c Q A ls H locs X I hl hk
  exact b_X9_sign X I hl h hk
def f_X9_takes (N : Nat) (p1 : Int32) (σ : sgS) : Option (Int32 × sgS) :=
  sg_cl (f_X9_sign N σ) fun v1 s2 =>
if v1 = p1 then
  (sg_pf s2 1 2 ((s2.1 1 2) + 1) fun s3 =>
  some (vp_nar .boolean 1, s3))
else
  (some (vp_nar .boolean 0, s2))
set_option maxHeartbeats 4000000 in
set_option maxRecDepth 100000 in
theorem b_X9_takes {p : Program} {l : Launch} {e : Env} {R : Room} {s : State} {m : MethodId} {args : Array Value} {below : List Frame} {meth : Method} {c : Code} {Q : State → Prop} {P : sgP} {A : Nat → Prop} {N : Nat} {p1 : Int32} {σ : sgS} (X : sg_C P A 2 p R s m args c cX9_takes 2 RX9) {H : Heap} {locs : List Loc} (I : sg_I P shC 332 A s.heap σ H locs) {ls : Array Slot} (hl : lv_has ls 2 [(0, .ref (sgA P 1)), (1, .int p1)]) {st : Int32 × sgS} (h : f_X9_takes N p1 σ = some st) (hk : sg_Ri p l e R s m args below meth c Q P shC 332 A cX9_takes (some .boolean) st) : W p l e R s m args below meth c H locs 0 0 Q (F0 m 0 ls []) := by
  unfold f_X9_takes at h
  have hx := X.1.1
  have hb := X.1.2.1
  have hown := X.1.2.2.2.1
  have hts := X.1.2.2.2.2
  refine lv_aload_n hx hb dX9_takes_0 rfl (lv_at hl 0 rfl) ?_
  refine sg_callV (As := []) X I mk_X9_22 (by decide) (by decide) shC_1 rfl (fun q9 e9 => c_X9_sign e9) h hl.1 rfl rfl (Nat.le_of_ble_eq_true rfl) dX9_takes_1 (fun v1 s2 H locs h I => ?_)
  refine lv_iload_n hx hb dX9_takes_4 rfl (lv_at hl 1 rfl) ?_
  refine lv_icmp_eq (tgt := 10) hx hb dX9_takes_5 (by decide) (fun c => ?_) (fun c => ?_)
  · have h := sg_ift h c
    refine lv_aload_n hx hb dX9_takes_10 rfl (lv_at hl 0 rfl) ?_
    refine lv_dup hx hb dX9_takes_11 rfl ?_
    refine sg_geti X I fk_X9_19 (by decide) shC_1 rfl dX9_takes_12 ?_
    refine lv_iconst (v := 1) hx hb dX9_takes_15 (by decide) ?_
    refine lv_iadd hx hb dX9_takes_16 ?_
    refine sg_puti X I fk_X9_19 wk_9_2 rfl rfl (by decide) shC_1 rfl h dX9_takes_17 (fun s3 H locs h I => ?_)
    refine lv_iconst (v := 1) hx hb dX9_takes_20 (by decide) ?_
    obtain rfl := Option.some.inj h
    exact hk _ _ _ _ _ I ⟨_, rfl, rfl⟩ dX9_takes_21
  · have h := sg_iff h c
    refine lv_iconst (v := 0) hx hb dX9_takes_8 (by decide) ?_
    obtain rfl := Option.some.inj h
    exact hk _ _ _ _ _ I ⟨_, rfl, rfl⟩ dX9_takes_9
set_option maxHeartbeats 4000000 in
set_option maxRecDepth 100000 in
theorem c_X9_takes {l : Launch} {P : sgP} {N : Nat} {p1 : Int32} {σ : sgS} {q : Int32 × sgS} (h : f_X9_takes N p1 σ = some q) : sg_Mi P shC 332 l yX9_takes cX9_takes 2 (some .boolean) 2 [.ref (sgA P 1), .int p1] σ q := by
  refine sg_mki (by decide +kernel) (Nat.le_of_ble_eq_true rfl) ?_
  intro p e R s m args below meth c Q A ls H locs X I hl hk
  exact b_X9_takes X I hl h hk
def f_X9_number_L4 (N : Nat) (p1 : Int32) (x2 : Int32) (x3 : Int32) (σ : sgS) : Option ((Int32 × sgS) ⊕ ((sgS × Int32 × Int32) ⊕ (sgS × Int32 × Int32))) :=
  if (σ.1 1 1) ≤ (σ.1 1 2) then
  (some (.inr (.inr (σ, x2, x3))))
else
  (sg_ld σ 2 240 (σ.1 1 2) fun v1 =>
  if v1 < 48 then
    (some (.inr (.inr (σ, x2, x3))))
  else
    (sg_ld σ 2 240 (σ.1 1 2) fun v2 =>
    if 57 < v2 then
      (some (.inr (.inr (σ, x2, x3))))
    else
      (if x3 < p1 then
        (sg_ld σ 2 240 (σ.1 1 2) fun v3 =>
        sg_pf σ 1 2 ((σ.1 1 2) + 1) fun s4 =>
        some (.inr (.inl (s4, ((x2 * 10) + v3) - 48, x3 + 1))))
      else
        (some (.inl ((-1), σ))))))
set_option maxHeartbeats 4000000 in
set_option maxRecDepth 100000 in
theorem b_X9_number_L4 {p : Program} {l : Launch} {e : Env} {R : Room} {s : State} {m : MethodId} {args : Array Value} {below : List Frame} {meth : Method} {c : Code} {Q : State → Prop} {P : sgP} {A : Nat → Prop} {N : Nat} {p1 : Int32} {x2 : Int32} {x3 : Int32} {σ : sgS} (X : sg_C P A 1 p R s m args c cX9_number 4 RX9) {H : Heap} {locs : List Loc} (I : sg_I P shC 332 A s.heap σ H locs) {ls : Array Slot} (hl : lv_has ls 4 [(0, .ref (sgA P 1)), (1, .int p1), (2, .int x2), (3, .int x3)]) {st : (Int32 × sgS) ⊕ ((sgS × Int32 × Int32) ⊕ (sgS × Int32 × Int32))} (h : f_X9_number_L4 N p1 x2 x3 σ = some st) (hk : sg_k3 (sg_Ri p l e R s m args below meth c Q P shC 332 A cX9_number (some .int)) (fun x => sg_Wt p l e R s m args below meth c Q P shC 332 A 4 4 x.1 [(0, .ref (sgA P 1)), (1, .int p1), (2, .int x.2.1), (3, .int x.2.2)]) (fun y => sg_Wt p l e R s m args below meth c Q P shC 332 A 4 84 y.1 [(2, .int y.2.1), (3, .int y.2.2)]) st) : W p l e R s m args below meth c H locs 0 0 Q (F0 m 4 ls []) := by
  unfold f_X9_number_L4 at h
  have hx := X.1.1
  have hb := X.1.2.1
  have hown := X.1.2.2.2.1
  have hts := X.1.2.2.2.2
  refine lv_aload_n hx hb dX9_number_4 rfl (lv_at hl 0 rfl) ?_
  refine sg_geti X I fk_X9_19 (by decide) shC_1 rfl dX9_number_5 ?_
  refine lv_aload_n hx hb dX9_number_8 rfl (lv_at hl 0 rfl) ?_
  refine sg_geti X I fk_X9_15 (by decide) shC_1 rfl dX9_number_9 ?_
  refine lv_icmp_ge (tgt := 84) hx hb dX9_number_12 (by decide) (fun c => ?_) (fun c => ?_)
  · have h := sg_ift h c
    obtain rfl := Option.some.inj h
    exact sg_go hk I (lv_sub hl [2, 3] rfl)
  · have h := sg_iff h c
    refine lv_aload_n hx hb dX9_number_15 rfl (lv_at hl 0 rfl) ?_
    refine sg_getr X I fk_X9_9 (j := 2) (by decide) shC_1 rfl dX9_number_16 ?_
    refine lv_aload_n hx hb dX9_number_19 rfl (lv_at hl 0 rfl) ?_
    refine sg_geti X I fk_X9_19 (by decide) shC_1 rfl dX9_number_20 ?_
    refine sg_iald X I (by decide) shC_2 h dX9_number_23 (fun v1 h => ?_)
    refine lv_bipush (v := 48) hx hb dX9_number_24 (by decide) ?_
    refine lv_icmp_lt (tgt := 84) hx hb dX9_number_26 (by decide) (fun c => ?_) (fun c => ?_)
    · have h := sg_ift h c
      obtain rfl := Option.some.inj h
      exact sg_go hk I (lv_sub hl [2, 3] rfl)
    · have h := sg_iff h c
      refine lv_aload_n hx hb dX9_number_29 rfl (lv_at hl 0 rfl) ?_
      refine sg_getr X I fk_X9_9 (j := 2) (by decide) shC_1 rfl dX9_number_30 ?_
      refine lv_aload_n hx hb dX9_number_33 rfl (lv_at hl 0 rfl) ?_
      refine sg_geti X I fk_X9_19 (by decide) shC_1 rfl dX9_number_34 ?_
      refine sg_iald X I (by decide) shC_2 h dX9_number_37 (fun v2 h => ?_)
      refine lv_bipush (v := 57) hx hb dX9_number_38 (by decide) ?_
      refine lv_icmp_gt (tgt := 84) hx hb dX9_number_40 (by decide) (fun c => ?_) (fun c => ?_)
      · have h := sg_ift h c
        obtain rfl := Option.some.inj h
        exact sg_go hk I (lv_sub hl [2, 3] rfl)
      · have h := sg_iff h c
        refine lv_iload_n hx hb dX9_number_43 rfl (lv_at hl 3 rfl) ?_
        refine lv_iload_n hx hb dX9_number_44 rfl (lv_at hl 1 rfl) ?_
        refine lv_icmp_lt (tgt := 50) hx hb dX9_number_45 (by decide) (fun c => ?_) (fun c => ?_)
        · have h := sg_ift h c
          refine lv_iload_n hx hb dX9_number_50 rfl (lv_at hl 2 rfl) ?_
          refine lv_bipush (v := 10) hx hb dX9_number_51 (by decide) ?_
          refine lv_imul hx hb dX9_number_53 ?_
          refine lv_aload_n hx hb dX9_number_54 rfl (lv_at hl 0 rfl) ?_
          refine sg_getr X I fk_X9_9 (j := 2) (by decide) shC_1 rfl dX9_number_55 ?_
          refine lv_aload_n hx hb dX9_number_58 rfl (lv_at hl 0 rfl) ?_
          refine sg_geti X I fk_X9_19 (by decide) shC_1 rfl dX9_number_59 ?_
          refine sg_iald X I (by decide) shC_2 h dX9_number_62 (fun v3 h => ?_)
          refine lv_iadd hx hb dX9_number_63 ?_
          refine lv_bipush (v := 48) hx hb dX9_number_64 (by decide) ?_
          refine lv_isub hx hb dX9_number_66 ?_
          refine lv_istore_n (lv' := [(2, .int (((x2 * 10) + v3) - 48)), (0, .ref (sgA P 1)), (1, .int p1), (3, .int x3)]) hx hb dX9_number_67 rfl hl (by decide) rfl (fun ls hl => ?_)
          refine lv_iinc (v := x3 + 1) (lv' := [(3, .int (x3 + 1)), (2, .int (((x2 * 10) + v3) - 48)), (0, .ref (sgA P 1)), (1, .int p1)]) hx hb dX9_number_68 hl (k := 3) rfl rfl (by decide) rfl (fun ls hl => ?_)
          refine lv_aload_n hx hb dX9_number_71 rfl (lv_at hl 2 rfl) ?_
          refine lv_dup hx hb dX9_number_72 rfl ?_
          refine sg_geti X I fk_X9_19 (by decide) shC_1 rfl dX9_number_73 ?_
          refine lv_iconst (v := 1) hx hb dX9_number_76 (by decide) ?_
          refine lv_iadd hx hb dX9_number_77 ?_
          refine sg_puti X I fk_X9_19 wk_9_2 rfl rfl (by decide) shC_1 rfl h dX9_number_78 (fun s4 H locs h I => ?_)
          refine lv_goto (tgt := 4) hx hb dX9_number_81 (by decide) ?_
          obtain rfl := Option.some.inj h
          exact sg_go hk I (lv_sub hl [2, 3, 1, 0] rfl)
        · have h := sg_iff h c
          refine lv_iconst (v := -1) hx hb dX9_number_48 (by decide) ?_
          obtain rfl := Option.some.inj h
          exact hk _ _ _ _ _ I ⟨_, rfl, rfl⟩ dX9_number_49
def f_X9_number (N : Nat) (p1 : Int32) (σ : sgS) : Option (Int32 × sgS) :=
  sg_lb (sg_lp (fun x => f_X9_number_L4 N p1 x.2.1 x.2.2 x.1) N ((σ, 0, 0))) (fun r => some r) fun y5 =>
if y5.2.2 = 0 then
  (some ((-1), y5.1))
else
  (some (y5.2.1, y5.1))
set_option maxHeartbeats 4000000 in
set_option maxRecDepth 100000 in
theorem b_X9_number {p : Program} {l : Launch} {e : Env} {R : Room} {s : State} {m : MethodId} {args : Array Value} {below : List Frame} {meth : Method} {c : Code} {Q : State → Prop} {P : sgP} {A : Nat → Prop} {N : Nat} {p1 : Int32} {σ : sgS} (X : sg_C P A 1 p R s m args c cX9_number 4 RX9) {H : Heap} {locs : List Loc} (I : sg_I P shC 332 A s.heap σ H locs) {ls : Array Slot} (hl : lv_has ls 4 [(0, .ref (sgA P 1)), (1, .int p1)]) {st : Int32 × sgS} (h : f_X9_number N p1 σ = some st) (hk : sg_Ri p l e R s m args below meth c Q P shC 332 A cX9_number (some .int) st) : W p l e R s m args below meth c H locs 0 0 Q (F0 m 0 ls []) := by
  unfold f_X9_number at h
  have hx := X.1.1
  have hb := X.1.2.1
  have hown := X.1.2.2.2.1
  have hts := X.1.2.2.2.2
  refine lv_iconst (v := 0) hx hb dX9_number_0 (by decide) ?_
  refine lv_istore_n (lv' := [(2, .int 0), (0, .ref (sgA P 1)), (1, .int p1)]) hx hb dX9_number_1 rfl hl (by decide) rfl (fun ls hl => ?_)
  refine lv_iconst (v := 0) hx hb dX9_number_2 (by decide) ?_
  refine lv_istore_n (lv' := [(3, .int 0), (2, .int 0), (0, .ref (sgA P 1)), (1, .int p1)]) hx hb dX9_number_3 rfl hl (by decide) rfl (fun ls hl => ?_)
  obtain ⟨res, e9, k9⟩ := sg_lb_some h
  refine sg_go (sg_lp_W (a := (sg_Ri p l e R s m args below meth c Q P shC 332 A cX9_number (some .int))) (w := (fun x => sg_Wt p l e R s m args below meth c Q P shC 332 A 4 4 x.1 [(0, .ref (sgA P 1)), (1, .int p1), (2, .int x.2.1), (3, .int x.2.2)])) (c := (fun y => sg_Wt p l e R s m args below meth c Q P shC 332 A 4 84 y.1 [(2, .int y.2.1), (3, .int y.2.2)])) (fun x st hb9 hk9 => ?_) N ((σ, 0, 0)) res e9 (sg_k2_mono k9 (fun r h => ?_) (fun y5 h => ?_))) I (lv_sub hl [2, 3, 1, 0] rfl)
  · intro H locs ls I hl
    exact b_X9_number_L4 X I hl hb9 hk9
  · obtain rfl := Option.some.inj h
    exact hk
  · intro H locs ls I hl
    refine lv_iload_n hx hb dX9_number_84 rfl (lv_at hl 1 rfl) ?_
    refine lv_if_ne (tgt := 92) hx hb dX9_number_85 (by decide) (fun c => ?_) (fun c => ?_)
    · have h := sg_iff h c
      refine lv_iload_n hx hb dX9_number_92 rfl (lv_at hl 0 rfl) ?_
      obtain rfl := Option.some.inj h
      exact hk _ _ _ _ _ I ⟨_, rfl, rfl⟩ dX9_number_93
    · have h := sg_ift h c
      refine lv_iconst (v := -1) hx hb dX9_number_88 (by decide) ?_
      refine lv_goto (tgt := 93) hx hb dX9_number_89 (by decide) ?_
      obtain rfl := Option.some.inj h
      exact hk _ _ _ _ _ I ⟨_, rfl, rfl⟩ dX9_number_93
set_option maxHeartbeats 4000000 in
set_option maxRecDepth 100000 in
theorem c_X9_number {l : Launch} {P : sgP} {N : Nat} {p1 : Int32} {σ : sgS} {q : Int32 × sgS} (h : f_X9_number N p1 σ = some q) : sg_Mi P shC 332 l yX9_number cX9_number 4 (some .int) 1 [.ref (sgA P 1), .int p1] σ q := by
  refine sg_mki (by decide +kernel) (Nat.le_of_ble_eq_true rfl) ?_
  intro p e R s m args below meth c Q A ls H locs X I hl hk
  exact b_X9_number X I hl h hk
def f_X9_isDigit (N : Nat) (p0 : Int32) (σ : sgS) : Option (Int32) :=
  if p0 < 48 then
  (some (vp_nar .boolean 0))
else
  (if 57 < p0 then
    (some (vp_nar .boolean 0))
  else
    (some (vp_nar .boolean 1)))
set_option maxHeartbeats 4000000 in
set_option maxRecDepth 100000 in
theorem b_X9_isDigit {p : Program} {l : Launch} {e : Env} {R : Room} {s : State} {m : MethodId} {args : Array Value} {below : List Frame} {meth : Method} {c : Code} {Q : State → Prop} {P : sgP} {A : Nat → Prop} {N : Nat} {p0 : Int32} {σ : sgS} (X : sg_C P A 1 p R s m args c cX9_isDigit 1 RX9) {H : Heap} {locs : List Loc} (I : sg_I P shC 332 A s.heap σ H locs) {ls : Array Slot} (hl : lv_has ls 1 [(0, .int p0)]) {st : Int32} (h : f_X9_isDigit N p0 σ = some st) (hk : sg_Ri p l e R s m args below meth c Q P shC 332 A cX9_isDigit (some .boolean) (st, σ)) : W p l e R s m args below meth c H locs 0 0 Q (F0 m 0 ls []) := by
  unfold f_X9_isDigit at h
  have hx := X.1.1
  have hb := X.1.2.1
  have hown := X.1.2.2.2.1
  have hts := X.1.2.2.2.2
  refine lv_iload_n hx hb dX9_isDigit_0 rfl (lv_at hl 0 rfl) ?_
  refine lv_bipush (v := 48) hx hb dX9_isDigit_1 (by decide) ?_
  refine lv_icmp_lt (tgt := 16) hx hb dX9_isDigit_3 (by decide) (fun c => ?_) (fun c => ?_)
  · have h := sg_ift h c
    refine lv_iconst (v := 0) hx hb dX9_isDigit_16 (by decide) ?_
    obtain rfl := Option.some.inj h
    exact hk _ _ _ _ _ I ⟨_, rfl, rfl⟩ dX9_isDigit_17
  · have h := sg_iff h c
    refine lv_iload_n hx hb dX9_isDigit_6 rfl (lv_at hl 0 rfl) ?_
    refine lv_bipush (v := 57) hx hb dX9_isDigit_7 (by decide) ?_
    refine lv_icmp_gt (tgt := 16) hx hb dX9_isDigit_9 (by decide) (fun c => ?_) (fun c => ?_)
    · have h := sg_ift h c
      refine lv_iconst (v := 0) hx hb dX9_isDigit_16 (by decide) ?_
      obtain rfl := Option.some.inj h
      exact hk _ _ _ _ _ I ⟨_, rfl, rfl⟩ dX9_isDigit_17
    · have h := sg_iff h c
      refine lv_iconst (v := 1) hx hb dX9_isDigit_12 (by decide) ?_
      refine lv_goto (tgt := 17) hx hb dX9_isDigit_13 (by decide) ?_
      obtain rfl := Option.some.inj h
      exact hk _ _ _ _ _ I ⟨_, rfl, rfl⟩ dX9_isDigit_17
set_option maxHeartbeats 4000000 in
set_option maxRecDepth 100000 in
theorem c_X9_isDigit {l : Launch} {P : sgP} {N : Nat} {p0 : Int32} {σ : sgS} {q : Int32} (h : f_X9_isDigit N p0 σ = some q) : sg_Mi P shC 332 l yX9_isDigit cX9_isDigit 1 (some .boolean) 1 [.int p0] σ (q, σ) := by
  refine sg_mki (by decide +kernel) (Nat.le_of_ble_eq_true rfl) ?_
  intro p e R s m args below meth c Q A ls H locs X I hl hk
  exact b_X9_isDigit X I hl h hk
