def f_X12_openLength_L4 (N : Nat) (x1 : Int32) (x2 : Int32) (σ : sgS) : Option ((Int32) ⊕ ((Int32 × Int32) ⊕ (Int32))) :=
  if (σ.1 0 29) ≤ x2 then
  (some (.inr (.inr x1)))
else
  (sg_cr (f_X12_isClosed N x2 σ) fun v1 =>
  if v1 = 0 then
    (sg_ld σ 23 12 x2 fun v2 =>
    some (.inr (.inl (x1 + v2, x2 + 1))))
  else
    (some (.inr (.inl (x1 + 0, x2 + 1)))))
set_option maxHeartbeats 4000000 in
set_option maxRecDepth 100000 in
theorem b_X12_openLength_L4 {p : Program} {l : Launch} {e : Env} {R : Room} {s : State} {m : MethodId} {args : Array Value} {below : List Frame} {meth : Method} {c : Code} {Q : State → Prop} {P : sgP} {A : Nat → Prop} {N : Nat} {x1 : Int32} {x2 : Int32} {σ : sgS} (X : sg_C P A 3 p R s m args c cX12_openLength 3 RX12) {H : Heap} {locs : List Loc} (I : sg_I P shM 35 A s.heap σ H locs) {ls : Array Slot} (hl : lv_has ls 3 [(0, .ref (sgA P 0)), (1, .int x1), (2, .int x2)]) {st : (Int32) ⊕ ((Int32 × Int32) ⊕ (Int32))} (h : f_X12_openLength_L4 N x1 x2 σ = some st) (hk : sg_k3 (fun r => sg_Ri p l e R s m args below meth c Q P shM 35 A cX12_openLength (some .int) (r, σ)) (fun x => sg_Wt p l e R s m args below meth c Q P shM 35 A 3 4 σ [(0, .ref (sgA P 0)), (1, .int x.1), (2, .int x.2)]) (fun y => sg_Wt p l e R s m args below meth c Q P shM 35 A 3 39 σ [(1, .int y)]) st) : W p l e R s m args below meth c H locs 0 0 Q (F0 m 4 ls []) := by
  unfold f_X12_openLength_L4 at h
  have hx := X.1.1
  have hb := X.1.2.1
  have hown := X.1.2.2.2.1
  have hts := X.1.2.2.2.2
  refine lv_iload_n hx hb dX12_openLength_4 rfl (lv_at hl 2 rfl) ?_
  refine lv_aload_n hx hb dX12_openLength_5 rfl (lv_at hl 0 rfl) ?_
  refine sg_geti X I fk_X12_291 (by decide) shM_0 rfl dX12_openLength_6 ?_
  refine lv_icmp_ge (tgt := 39) hx hb dX12_openLength_9 (by decide) (fun z => ?_) (fun z => ?_)
  · have h := sg_ift h z
    obtain rfl := Option.some.inj h
    exact sg_go hk I (lv_sub hl [1] rfl)
  · have h := sg_iff h z
    refine lv_iload_n hx hb dX12_openLength_12 rfl (lv_at hl 1 rfl) ?_
    refine lv_aload_n hx hb dX12_openLength_13 rfl (lv_at hl 0 rfl) ?_
    refine lv_iload_n hx hb dX12_openLength_14 rfl (lv_at hl 2 rfl) ?_
    refine sg_callVr (As := [.int x2]) X I mk_X12_334 (by decide) (by decide) shM_0 rfl (fun q9 e9 => c_X12_isClosed e9) h hl.1 rfl rfl (Nat.le_of_ble_eq_true rfl) dX12_openLength_15 (fun v1 H locs h I => ?_)
    refine lv_if_eq (tgt := 25) hx hb dX12_openLength_18 (by decide) (fun z => ?_) (fun z => ?_)
    · have h := sg_ift h z
      refine lv_aload_n hx hb dX12_openLength_25 rfl (lv_at hl 0 rfl) ?_
      refine sg_getr X I fk_X12_83 (j := 23) (by decide) shM_0 rfl dX12_openLength_26 ?_
      refine lv_iload_n hx hb dX12_openLength_29 rfl (lv_at hl 2 rfl) ?_
      refine sg_iald X I (by decide) shM_23 h dX12_openLength_30 (fun v2 h => ?_)
      refine lv_iadd hx hb dX12_openLength_31 ?_
      refine lv_istore_n (lv' := [(1, .int (x1 + v2)), (0, .ref (sgA P 0)), (2, .int x2)]) hx hb dX12_openLength_32 rfl hl (by decide) rfl (fun ls hl => ?_)
      refine lv_iinc (v := x2 + 1) (lv' := [(2, .int (x2 + 1)), (1, .int (x1 + v2)), (0, .ref (sgA P 0))]) hx hb dX12_openLength_33 hl (k := 2) rfl rfl (by decide) rfl (fun ls hl => ?_)
      refine lv_goto (tgt := 4) hx hb dX12_openLength_36 (by decide) ?_
      obtain rfl := Option.some.inj h
      exact sg_go hk I (lv_sub hl [2, 1, 0] rfl)
    · have h := sg_iff h z
      refine lv_iconst (v := 0) hx hb dX12_openLength_21 (by decide) ?_
      refine lv_goto (tgt := 31) hx hb dX12_openLength_22 (by decide) ?_
      refine lv_iadd hx hb dX12_openLength_31 ?_
      refine lv_istore_n (lv' := [(1, .int (x1 + 0)), (0, .ref (sgA P 0)), (2, .int x2)]) hx hb dX12_openLength_32 rfl hl (by decide) rfl (fun ls hl => ?_)
      refine lv_iinc (v := x2 + 1) (lv' := [(2, .int (x2 + 1)), (1, .int (x1 + 0)), (0, .ref (sgA P 0))]) hx hb dX12_openLength_33 hl (k := 2) rfl rfl (by decide) rfl (fun ls hl => ?_)
      refine lv_goto (tgt := 4) hx hb dX12_openLength_36 (by decide) ?_
      obtain rfl := Option.some.inj h
      exact sg_go hk I (lv_sub hl [2, 1, 0] rfl)
def f_X12_openLength (N : Nat) (σ : sgS) : Option (Int32) :=
  sg_lb (sg_lp (fun x => f_X12_openLength_L4 N x.1 x.2 σ) N ((0, 0))) (fun r => some r) fun y3 =>
some y3
set_option maxHeartbeats 4000000 in
set_option maxRecDepth 100000 in
theorem b_X12_openLength {p : Program} {l : Launch} {e : Env} {R : Room} {s : State} {m : MethodId} {args : Array Value} {below : List Frame} {meth : Method} {c : Code} {Q : State → Prop} {P : sgP} {A : Nat → Prop} {N : Nat} {σ : sgS} (X : sg_C P A 3 p R s m args c cX12_openLength 3 RX12) {H : Heap} {locs : List Loc} (I : sg_I P shM 35 A s.heap σ H locs) {ls : Array Slot} (hl : lv_has ls 3 [(0, .ref (sgA P 0))]) {st : Int32} (h : f_X12_openLength N σ = some st) (hk : sg_Ri p l e R s m args below meth c Q P shM 35 A cX12_openLength (some .int) (st, σ)) : W p l e R s m args below meth c H locs 0 0 Q (F0 m 0 ls []) := by
  unfold f_X12_openLength at h
  have hx := X.1.1
  have hb := X.1.2.1
  have hown := X.1.2.2.2.1
  have hts := X.1.2.2.2.2
  refine lv_iconst (v := 0) hx hb dX12_openLength_0 (by decide) ?_
  refine lv_istore_n (lv' := [(1, .int 0), (0, .ref (sgA P 0))]) hx hb dX12_openLength_1 rfl hl (by decide) rfl (fun ls hl => ?_)
  refine lv_iconst (v := 0) hx hb dX12_openLength_2 (by decide) ?_
  refine lv_istore_n (lv' := [(2, .int 0), (1, .int 0), (0, .ref (sgA P 0))]) hx hb dX12_openLength_3 rfl hl (by decide) rfl (fun ls hl => ?_)
  obtain ⟨res, e9, k9⟩ := sg_lb_some h
  refine sg_go (sg_lp_W (a := (fun r => sg_Ri p l e R s m args below meth c Q P shM 35 A cX12_openLength (some .int) (r, σ))) (w := (fun x => sg_Wt p l e R s m args below meth c Q P shM 35 A 3 4 σ [(0, .ref (sgA P 0)), (1, .int x.1), (2, .int x.2)])) (c := (fun y => sg_Wt p l e R s m args below meth c Q P shM 35 A 3 39 σ [(1, .int y)])) (fun x st hb9 hk9 => ?_) N ((0, 0)) res e9 (sg_k2_mono k9 (fun r h => ?_) (fun y3 h => ?_))) I (lv_sub hl [2, 1, 0] rfl)
  · intro H locs ls I hl
    exact b_X12_openLength_L4 X I hl hb9 hk9
  · obtain rfl := Option.some.inj h
    exact hk
  · intro H locs ls I hl
    refine lv_iload_n hx hb dX12_openLength_39 rfl (lv_at hl 0 rfl) ?_
    obtain rfl := Option.some.inj h
    exact hk _ _ _ _ _ I ⟨_, rfl, rfl⟩ dX12_openLength_40
set_option maxHeartbeats 4000000 in
set_option maxRecDepth 100000 in
theorem c_X12_openLength {l : Launch} {P : sgP} {N : Nat} {σ : sgS} {q : Int32} (h : f_X12_openLength N σ = some q) : sg_Mi P shM 35 l yX12_openLength cX12_openLength 3 (some .int) 3 [.ref (sgA P 0)] σ (q, σ) := by
  refine sg_mki (plainFor_of_name (by decide +kernel)) (Nat.le_of_ble_eq_true rfl) ?_
  intro p e R s m args below meth c Q A ls H locs X I hl hk
  exact b_X12_openLength X I hl h hk
def f_X12_parts_L6 (N : Nat) (x1 : Int32) (x2 : Int32) (x3 : Int32) (σ : sgS) : Option ((Int32) ⊕ ((Int32 × Int32 × Int32) ⊕ (Int32))) :=
  if (σ.1 0 28) ≤ x3 then
  (some (.inr (.inr x1)))
else
  (sg_cr (f_X12_has N x2 x3 σ) fun v1 =>
  if v1 = 0 then
    (sg_cr (f_X12_openOnes N σ) fun v2 =>
    sg_cr (f_X12_reachBy N x3 v2 σ) fun v3 =>
    some (.inr (.inl (x1 + 1, x2 ||| v3, x3 + 1))))
  else
    (some (.inr (.inl (x1, x2, x3 + 1)))))
set_option maxHeartbeats 4000000 in
set_option maxRecDepth 100000 in
theorem b_X12_parts_L6 {p : Program} {l : Launch} {e : Env} {R : Room} {s : State} {m : MethodId} {args : Array Value} {below : List Frame} {meth : Method} {c : Code} {Q : State → Prop} {P : sgP} {A : Nat → Prop} {N : Nat} {x1 : Int32} {x2 : Int32} {x3 : Int32} {σ : sgS} (X : sg_C P A 3 p R s m args c cX12_parts 4 RX12) {H : Heap} {locs : List Loc} (I : sg_I P shM 35 A s.heap σ H locs) {ls : Array Slot} (hl : lv_has ls 4 [(0, .ref (sgA P 0)), (1, .int x1), (2, .int x2), (3, .int x3)]) {st : (Int32) ⊕ ((Int32 × Int32 × Int32) ⊕ (Int32))} (h : f_X12_parts_L6 N x1 x2 x3 σ = some st) (hk : sg_k3 (fun r => sg_Ri p l e R s m args below meth c Q P shM 35 A cX12_parts (some .int) (r, σ)) (fun x => sg_Wt p l e R s m args below meth c Q P shM 35 A 4 6 σ [(0, .ref (sgA P 0)), (1, .int x.1), (2, .int x.2.1), (3, .int x.2.2)]) (fun y => sg_Wt p l e R s m args below meth c Q P shM 35 A 4 43 σ [(1, .int y)]) st) : W p l e R s m args below meth c H locs 0 0 Q (F0 m 6 ls []) := by
  unfold f_X12_parts_L6 at h
  have hx := X.1.1
  have hb := X.1.2.1
  have hown := X.1.2.2.2.1
  have hts := X.1.2.2.2.2
  refine lv_iload_n hx hb dX12_parts_6 rfl (lv_at hl 3 rfl) ?_
  refine lv_aload_n hx hb dX12_parts_7 rfl (lv_at hl 0 rfl) ?_
  refine sg_geti X I fk_X12_288 (by decide) shM_0 rfl dX12_parts_8 ?_
  refine lv_icmp_ge (tgt := 43) hx hb dX12_parts_11 (by decide) (fun z => ?_) (fun z => ?_)
  · have h := sg_ift h z
    obtain rfl := Option.some.inj h
    exact sg_go hk I (lv_sub hl [1] rfl)
  · have h := sg_iff h z
    refine lv_iload_n hx hb dX12_parts_14 rfl (lv_at hl 2 rfl) ?_
    refine lv_iload_n hx hb dX12_parts_15 rfl (lv_at hl 3 rfl) ?_
    refine sg_callSr (As := [.int x2, .int x3]) X I mk_X12_246 (by decide) (fun q9 e9 => c_X12_has e9) h hl.1 rfl rfl (Nat.le_of_ble_eq_true rfl) dX12_parts_16 (fun v1 H locs h I => ?_)
    refine lv_if_ne (tgt := 37) hx hb dX12_parts_19 (by decide) (fun z => ?_) (fun z => ?_)
    · have h := sg_iff h z
      refine lv_iinc (v := x3 + 1) (lv' := [(3, .int (x3 + 1)), (0, .ref (sgA P 0)), (1, .int x1), (2, .int x2)]) hx hb dX12_parts_37 hl (k := 3) rfl rfl (by decide) rfl (fun ls hl => ?_)
      refine lv_goto (tgt := 6) hx hb dX12_parts_40 (by decide) ?_
      obtain rfl := Option.some.inj h
      exact sg_go hk I (lv_sub hl [1, 2, 3, 0] rfl)
    · have h := sg_ift h z
      refine lv_iload_n hx hb dX12_parts_22 rfl (lv_at hl 2 rfl) ?_
      refine lv_aload_n hx hb dX12_parts_23 rfl (lv_at hl 0 rfl) ?_
      refine lv_iload_n hx hb dX12_parts_24 rfl (lv_at hl 3 rfl) ?_
      refine lv_aload_n hx hb dX12_parts_25 rfl (lv_at hl 0 rfl) ?_
      refine sg_callVr (As := []) X I mk_X12_437 (by decide) (by decide) shM_0 rfl (fun q9 e9 => c_X12_openOnes e9) h hl.1 rfl rfl (Nat.le_of_ble_eq_true rfl) dX12_parts_26 (fun v2 H locs h I => ?_)
      refine sg_callVr (As := [.int x3, .int v2]) X I mk_X12_440 (by decide) (by decide) shM_0 rfl (fun q9 e9 => c_X12_reachBy e9) h hl.1 rfl rfl (Nat.le_of_ble_eq_true rfl) dX12_parts_29 (fun v3 H locs h I => ?_)
      refine lv_ior hx hb dX12_parts_32 ?_
      refine lv_istore_n (lv' := [(2, .int (x2 ||| v3)), (0, .ref (sgA P 0)), (1, .int x1), (3, .int x3)]) hx hb dX12_parts_33 rfl hl (by decide) rfl (fun ls hl => ?_)
      refine lv_iinc (v := x1 + 1) (lv' := [(1, .int (x1 + 1)), (2, .int (x2 ||| v3)), (0, .ref (sgA P 0)), (3, .int x3)]) hx hb dX12_parts_34 hl (k := 2) rfl rfl (by decide) rfl (fun ls hl => ?_)
      refine lv_iinc (v := x3 + 1) (lv' := [(3, .int (x3 + 1)), (1, .int (x1 + 1)), (2, .int (x2 ||| v3)), (0, .ref (sgA P 0))]) hx hb dX12_parts_37 hl (k := 3) rfl rfl (by decide) rfl (fun ls hl => ?_)
      refine lv_goto (tgt := 6) hx hb dX12_parts_40 (by decide) ?_
      obtain rfl := Option.some.inj h
      exact sg_go hk I (lv_sub hl [3, 1, 2, 0] rfl)
def f_X12_parts (N : Nat) (σ : sgS) : Option (Int32) :=
  sg_lb (sg_lp (fun x => f_X12_parts_L6 N x.1 x.2.1 x.2.2 σ) N ((0, 0, 0))) (fun r => some r) fun y4 =>
some y4
set_option maxHeartbeats 4000000 in
set_option maxRecDepth 100000 in
theorem b_X12_parts {p : Program} {l : Launch} {e : Env} {R : Room} {s : State} {m : MethodId} {args : Array Value} {below : List Frame} {meth : Method} {c : Code} {Q : State → Prop} {P : sgP} {A : Nat → Prop} {N : Nat} {σ : sgS} (X : sg_C P A 3 p R s m args c cX12_parts 4 RX12) {H : Heap} {locs : List Loc} (I : sg_I P shM 35 A s.heap σ H locs) {ls : Array Slot} (hl : lv_has ls 4 [(0, .ref (sgA P 0))]) {st : Int32} (h : f_X12_parts N σ = some st) (hk : sg_Ri p l e R s m args below meth c Q P shM 35 A cX12_parts (some .int) (st, σ)) : W p l e R s m args below meth c H locs 0 0 Q (F0 m 0 ls []) := by
  unfold f_X12_parts at h
  have hx := X.1.1
  have hb := X.1.2.1
  have hown := X.1.2.2.2.1
  have hts := X.1.2.2.2.2
  refine lv_iconst (v := 0) hx hb dX12_parts_0 (by decide) ?_
  refine lv_istore_n (lv' := [(1, .int 0), (0, .ref (sgA P 0))]) hx hb dX12_parts_1 rfl hl (by decide) rfl (fun ls hl => ?_)
  refine lv_iconst (v := 0) hx hb dX12_parts_2 (by decide) ?_
  refine lv_istore_n (lv' := [(2, .int 0), (1, .int 0), (0, .ref (sgA P 0))]) hx hb dX12_parts_3 rfl hl (by decide) rfl (fun ls hl => ?_)
  refine lv_iconst (v := 0) hx hb dX12_parts_4 (by decide) ?_
  refine lv_istore_n (lv' := [(3, .int 0), (2, .int 0), (1, .int 0), (0, .ref (sgA P 0))]) hx hb dX12_parts_5 rfl hl (by decide) rfl (fun ls hl => ?_)
  obtain ⟨res, e9, k9⟩ := sg_lb_some h
  refine sg_go (sg_lp_W (a := (fun r => sg_Ri p l e R s m args below meth c Q P shM 35 A cX12_parts (some .int) (r, σ))) (w := (fun x => sg_Wt p l e R s m args below meth c Q P shM 35 A 4 6 σ [(0, .ref (sgA P 0)), (1, .int x.1), (2, .int x.2.1), (3, .int x.2.2)])) (c := (fun y => sg_Wt p l e R s m args below meth c Q P shM 35 A 4 43 σ [(1, .int y)])) (fun x st hb9 hk9 => ?_) N ((0, 0, 0)) res e9 (sg_k2_mono k9 (fun r h => ?_) (fun y4 h => ?_))) I (lv_sub hl [3, 2, 1, 0] rfl)
  · intro H locs ls I hl
    exact b_X12_parts_L6 X I hl hb9 hk9
  · obtain rfl := Option.some.inj h
    exact hk
  · intro H locs ls I hl
    refine lv_iload_n hx hb dX12_parts_43 rfl (lv_at hl 0 rfl) ?_
    obtain rfl := Option.some.inj h
    exact hk _ _ _ _ _ I ⟨_, rfl, rfl⟩ dX12_parts_44
set_option maxHeartbeats 4000000 in
set_option maxRecDepth 100000 in
theorem c_X12_parts {l : Launch} {P : sgP} {N : Nat} {σ : sgS} {q : Int32} (h : f_X12_parts N σ = some q) : sg_Mi P shM 35 l yX12_parts cX12_parts 4 (some .int) 3 [.ref (sgA P 0)] σ (q, σ) := by
  refine sg_mki (plainFor_of_name (by decide +kernel)) (Nat.le_of_ble_eq_true rfl) ?_
  intro p e R s m args below meth c Q A ls H locs X I hl hk
  exact b_X12_parts X I hl h hk
def f_X12_most (N : Nat) (p1 : Int32) (σ : sgS) : Option (Int32 × sgS) :=
  if (σ.1 0 28) = 0 then
  (some ((-1), σ))
else
  (sg_cr (f_X12_in N p1 0 9 σ) fun v1 =>
  if v1 = 0 then
    (some ((-1), σ))
  else
    (sg_cl (f_X12_layAway N σ) fun v2 s3 =>
    if p1 = 2 then
      (sg_cr (f_X12_topRoad N 1 s3) fun v4 =>
      some (v4, s3))
    else
      (if p1 = 3 then
        (sg_cr (f_X12_topRoad N 0 s3) fun v5 =>
        some (v5, s3))
      else
        (if p1 = 4 then
          (sg_cr (f_X12_topPlace N p1 s3) fun v6 =>
          some (v6, s3))
        else
          (if p1 = 5 then
            (sg_cr (f_X12_bridges N s3) fun v7 =>
            some (v7, s3))
          else
            (if p1 = 6 then
              (sg_ld s3 21 215 31 fun v8 =>
              some (v8, s3))
            else
              (if p1 = 7 then
                (sg_cr (f_X12_onWay N s3) fun v9 =>
                some (v9, s3))
              else
                (if p1 = 8 then
                  (sg_cr (f_X12_openLength N s3) fun v10 =>
                  some (v10, s3))
                else
                  (if p1 = 9 then
                    (sg_cr (f_X12_parts N s3) fun v11 =>
                    some (v11, s3))
                  else
                    (sg_cr (f_X12_topPlace N p1 s3) fun v12 =>
                    some (v12, s3)))))))))))
set_option maxHeartbeats 4000000 in
set_option maxRecDepth 100000 in
theorem b_X12_most {p : Program} {l : Launch} {e : Env} {R : Room} {s : State} {m : MethodId} {args : Array Value} {below : List Frame} {meth : Method} {c : Code} {Q : State → Prop} {P : sgP} {A : Nat → Prop} {N : Nat} {p1 : Int32} {σ : sgS} (X : sg_C P A 9 p R s m args c cX12_most 2 RX12) {H : Heap} {locs : List Loc} (I : sg_I P shM 35 A s.heap σ H locs) {ls : Array Slot} (hl : lv_has ls 2 [(0, .ref (sgA P 0)), (1, .int p1)]) {st : Int32 × sgS} (h : f_X12_most N p1 σ = some st) (hk : sg_Ri p l e R s m args below meth c Q P shM 35 A cX12_most (some .int) st) : W p l e R s m args below meth c H locs 0 0 Q (F0 m 0 ls []) := by
  unfold f_X12_most at h
  have hx := X.1.1
  have hb := X.1.2.1
  have hown := X.1.2.2.2.1
  have hts := X.1.2.2.2.2
  refine lv_aload_n hx hb dX12_most_0 rfl (lv_at hl 0 rfl) ?_
  refine sg_geti X I fk_X12_288 (by decide) shM_0 rfl dX12_most_1 ?_
  refine lv_if_eq (tgt := 17) hx hb dX12_most_4 (by decide) (fun z => ?_) (fun z => ?_)
  · have h := sg_ift h z
    refine lv_iconst (v := -1) hx hb dX12_most_17 (by decide) ?_
    obtain rfl := Option.some.inj h
    exact hk _ _ _ _ _ I ⟨_, rfl, rfl⟩ dX12_most_18
  · have h := sg_iff h z
    refine lv_iload_n hx hb dX12_most_7 rfl (lv_at hl 1 rfl) ?_
    refine lv_iconst (v := 0) hx hb dX12_most_8 (by decide) ?_
    refine lv_bipush (v := 9) hx hb dX12_most_9 (by decide) ?_
    refine sg_callSr (As := [.int p1, .int 0, .int 9]) X I mk_X12_235 (by decide) (fun q9 e9 => c_X12_in e9) h hl.1 rfl rfl (Nat.le_of_ble_eq_true rfl) dX12_most_11 (fun v1 H locs h I => ?_)
    refine lv_if_ne (tgt := 19) hx hb dX12_most_14 (by decide) (fun z => ?_) (fun z => ?_)
    · have h := sg_iff h z
      refine lv_aload_n hx hb dX12_most_19 rfl (lv_at hl 0 rfl) ?_
      refine sg_callVv (As := []) X I mk_X12_412 (by decide) (by decide) shM_0 rfl (fun q9 e9 => c_X12_layAway e9) h hl.1 rfl rfl (Nat.le_of_ble_eq_true rfl) dX12_most_20 (fun v2 s3 H locs h I => ?_)
      refine lv_iload_n hx hb dX12_most_23 rfl (lv_at hl 1 rfl) ?_
      by_cases c0 : p1 = 2
      · have h := sg_ift h c0
        refine sg_swIn (k := 2) (off := 48) (tgt := 72) hx hb dX12_most_24 c0 (by decide) (by decide) (by decide +kernel) (by decide) ?_
        refine lv_aload_n hx hb dX12_most_72 rfl (lv_at hl 0 rfl) ?_
        refine lv_iconst (v := 1) hx hb dX12_most_73 (by decide) ?_
        refine sg_callVr (As := [.int 1]) X I mk_X12_495 (by decide) (by decide) shM_0 rfl (fun q9 e9 => c_X12_topRoad e9) h hl.1 rfl rfl (Nat.le_of_ble_eq_true rfl) dX12_most_74 (fun v4 H locs h I => ?_)
        obtain rfl := Option.some.inj h
        exact hk _ _ _ _ _ I ⟨_, rfl, rfl⟩ dX12_most_77
      have h := sg_iff h c0
      have i0 := sg_ine (z := 2) (by decide) c0
      by_cases c1 : p1 = 3
      · have h := sg_ift h c1
        refine sg_swIn (k := 3) (off := 54) (tgt := 78) hx hb dX12_most_24 c1 (by decide) (by decide) (by decide +kernel) (by decide) ?_
        refine lv_aload_n hx hb dX12_most_78 rfl (lv_at hl 0 rfl) ?_
        refine lv_iconst (v := 0) hx hb dX12_most_79 (by decide) ?_
        refine sg_callVr (As := [.int 0]) X I mk_X12_495 (by decide) (by decide) shM_0 rfl (fun q9 e9 => c_X12_topRoad e9) h hl.1 rfl rfl (Nat.le_of_ble_eq_true rfl) dX12_most_80 (fun v5 H locs h I => ?_)
        obtain rfl := Option.some.inj h
        exact hk _ _ _ _ _ I ⟨_, rfl, rfl⟩ dX12_most_83
      have h := sg_iff h c1
      have i1 := sg_ine (z := 3) (by decide) c1
      by_cases c2 : p1 = 4
      · have h := sg_ift h c2
        refine sg_swIn (k := 4) (off := 88) (tgt := 112) hx hb dX12_most_24 c2 (by decide) (by decide) (by decide +kernel) (by decide) ?_
        refine lv_aload_n hx hb dX12_most_112 rfl (lv_at hl 0 rfl) ?_
        refine lv_iload_n hx hb dX12_most_113 rfl (lv_at hl 1 rfl) ?_
        refine sg_callVr (As := [.int p1]) X I mk_X12_508 (by decide) (by decide) shM_0 rfl (fun q9 e9 => c_X12_topPlace e9) h hl.1 rfl rfl (Nat.le_of_ble_eq_true rfl) dX12_most_114 (fun v6 H locs h I => ?_)
        obtain rfl := Option.some.inj h
        exact hk _ _ _ _ _ I ⟨_, rfl, rfl⟩ dX12_most_117
      have h := sg_iff h c2
      have i2 := sg_ine (z := 4) (by decide) c2
      by_cases c3 : p1 = 5
      · have h := sg_ift h c3
        refine sg_swIn (k := 5) (off := 60) (tgt := 84) hx hb dX12_most_24 c3 (by decide) (by decide) (by decide +kernel) (by decide) ?_
        refine lv_aload_n hx hb dX12_most_84 rfl (lv_at hl 0 rfl) ?_
        refine sg_callVr (As := []) X I mk_X12_499 (by decide) (by decide) shM_0 rfl (fun q9 e9 => c_X12_bridges e9) h hl.1 rfl rfl (Nat.le_of_ble_eq_true rfl) dX12_most_85 (fun v7 H locs h I => ?_)
        obtain rfl := Option.some.inj h
        exact hk _ _ _ _ _ I ⟨_, rfl, rfl⟩ dX12_most_88
      have h := sg_iff h c3
      have i3 := sg_ine (z := 5) (by decide) c3
      by_cases c4 : p1 = 6
      · have h := sg_ift h c4
        refine sg_swIn (k := 6) (off := 65) (tgt := 89) hx hb dX12_most_24 c4 (by decide) (by decide) (by decide +kernel) (by decide) ?_
        refine lv_aload_n hx hb dX12_most_89 rfl (lv_at hl 0 rfl) ?_
        refine sg_getr X I fk_X12_70 (j := 21) (by decide) shM_0 rfl dX12_most_90 ?_
        refine lv_bipush (v := 31) hx hb dX12_most_93 (by decide) ?_
        refine sg_iald X I (by decide) shM_21 h dX12_most_95 (fun v8 h => ?_)
        obtain rfl := Option.some.inj h
        exact hk _ _ _ _ _ I ⟨_, rfl, rfl⟩ dX12_most_96
      have h := sg_iff h c4
      have i4 := sg_ine (z := 6) (by decide) c4
      by_cases c5 : p1 = 7
      · have h := sg_ift h c5
        refine sg_swIn (k := 7) (off := 73) (tgt := 97) hx hb dX12_most_24 c5 (by decide) (by decide) (by decide +kernel) (by decide) ?_
        refine lv_aload_n hx hb dX12_most_97 rfl (lv_at hl 0 rfl) ?_
        refine sg_callVr (As := []) X I mk_X12_364 (by decide) (by decide) shM_0 rfl (fun q9 e9 => c_X12_onWay e9) h hl.1 rfl rfl (Nat.le_of_ble_eq_true rfl) dX12_most_98 (fun v9 H locs h I => ?_)
        obtain rfl := Option.some.inj h
        exact hk _ _ _ _ _ I ⟨_, rfl, rfl⟩ dX12_most_101
      have h := sg_iff h c5
      have i5 := sg_ine (z := 7) (by decide) c5
      by_cases c6 : p1 = 8
      · have h := sg_ift h c6
        refine sg_swIn (k := 8) (off := 78) (tgt := 102) hx hb dX12_most_24 c6 (by decide) (by decide) (by decide +kernel) (by decide) ?_
        refine lv_aload_n hx hb dX12_most_102 rfl (lv_at hl 0 rfl) ?_
        refine sg_callVr (As := []) X I mk_X12_502 (by decide) (by decide) shM_0 rfl (fun q9 e9 => c_X12_openLength e9) h hl.1 rfl rfl (Nat.le_of_ble_eq_true rfl) dX12_most_103 (fun v10 H locs h I => ?_)
        obtain rfl := Option.some.inj h
        exact hk _ _ _ _ _ I ⟨_, rfl, rfl⟩ dX12_most_106
      have h := sg_iff h c6
      have i6 := sg_ine (z := 8) (by decide) c6
      by_cases c7 : p1 = 9
      · have h := sg_ift h c7
        refine sg_swIn (k := 9) (off := 83) (tgt := 107) hx hb dX12_most_24 c7 (by decide) (by decide) (by decide +kernel) (by decide) ?_
        refine lv_aload_n hx hb dX12_most_107 rfl (lv_at hl 0 rfl) ?_
        refine sg_callVr (As := []) X I mk_X12_505 (by decide) (by decide) shM_0 rfl (fun q9 e9 => c_X12_parts e9) h hl.1 rfl rfl (Nat.le_of_ble_eq_true rfl) dX12_most_108 (fun v11 H locs h I => ?_)
        obtain rfl := Option.some.inj h
        exact hk _ _ _ _ _ I ⟨_, rfl, rfl⟩ dX12_most_111
      have h := sg_iff h c7
      have i7 := sg_ine (z := 9) (by decide) c7
      refine lv_tableOut (tgt := 112) hx hb dX12_most_24 (by omega) (by decide) ?_
      refine lv_aload_n hx hb dX12_most_112 rfl (lv_at hl 0 rfl) ?_
      refine lv_iload_n hx hb dX12_most_113 rfl (lv_at hl 1 rfl) ?_
      refine sg_callVr (As := [.int p1]) X I mk_X12_508 (by decide) (by decide) shM_0 rfl (fun q9 e9 => c_X12_topPlace e9) h hl.1 rfl rfl (Nat.le_of_ble_eq_true rfl) dX12_most_114 (fun v12 H locs h I => ?_)
      obtain rfl := Option.some.inj h
      exact hk _ _ _ _ _ I ⟨_, rfl, rfl⟩ dX12_most_117
    · have h := sg_ift h z
      refine lv_iconst (v := -1) hx hb dX12_most_17 (by decide) ?_
      obtain rfl := Option.some.inj h
      exact hk _ _ _ _ _ I ⟨_, rfl, rfl⟩ dX12_most_18
set_option maxHeartbeats 4000000 in
set_option maxRecDepth 100000 in
theorem c_X12_most {l : Launch} {P : sgP} {N : Nat} {p1 : Int32} {σ : sgS} {q : Int32 × sgS} (h : f_X12_most N p1 σ = some q) : sg_Mi P shM 35 l yX12_most cX12_most 2 (some .int) 9 [.ref (sgA P 0), .int p1] σ q := by
  refine sg_mki (plainFor_of_name (by decide +kernel)) (Nat.le_of_ble_eq_true rfl) ?_
  intro p e R s m args below meth c Q A ls H locs X I hl hk
  exact b_X12_most X I hl h hk
def f_X12_image_L11 (N : Nat) (x1 : Int32) (σ : sgS) : Option ((Int32 × sgS) ⊕ ((sgS × Int32) ⊕ (sgS))) :=
  if 215 ≤ x1 then
  (some (.inr (.inr σ)))
else
  (sg_ld σ 21 215 x1 fun v1 =>
  sg_st σ 34 215 x1 v1 fun s2 =>
  some (.inr (.inl (s2, x1 + 1))))
set_option maxHeartbeats 4000000 in
set_option maxRecDepth 100000 in
theorem b_X12_image_L11 {p : Program} {l : Launch} {e : Env} {R : Room} {s : State} {m : MethodId} {args : Array Value} {below : List Frame} {meth : Method} {c : Code} {Q : State → Prop} {P : sgP} {A : Nat → Prop} {N : Nat} {x1 : Int32} {σ : sgS} (X : sg_C P A 1 p R s m args c cX12_image 2 RX12) {H : Heap} {locs : List Loc} (I : sg_I P shM 35 A s.heap σ H locs) {ls : Array Slot} (hl : lv_has ls 2 [(0, .ref (sgA P 0)), (1, .int x1)]) {st : (Int32 × sgS) ⊕ ((sgS × Int32) ⊕ (sgS))} (h : f_X12_image_L11 N x1 σ = some st) (hk : sg_k3 (sg_Ri p l e R s m args below meth c Q P shM 35 A cX12_image (some .int)) (fun x => sg_Wt p l e R s m args below meth c Q P shM 35 A 2 11 x.1 [(0, .ref (sgA P 0)), (1, .int x.2)]) (fun y => sg_Wt p l e R s m args below meth c Q P shM 35 A 2 36 y [(0, .ref (sgA P 0))]) st) : W p l e R s m args below meth c H locs 0 0 Q (F0 m 11 ls []) := by
  unfold f_X12_image_L11 at h
  have hx := X.1.1
  have hb := X.1.2.1
  have hown := X.1.2.2.2.1
  have hts := X.1.2.2.2.2
  refine lv_iload_n hx hb dX12_image_11 rfl (lv_at hl 1 rfl) ?_
  refine lv_sipush (v := 215) hx hb dX12_image_12 (by decide) ?_
  refine lv_icmp_ge (tgt := 36) hx hb dX12_image_15 (by decide) (fun z => ?_) (fun z => ?_)
  · have h := sg_ift h z
    obtain rfl := Option.some.inj h
    exact sg_go hk I (lv_sub hl [0] rfl)
  · have h := sg_iff h z
    refine lv_aload_n hx hb dX12_image_18 rfl (lv_at hl 0 rfl) ?_
    refine sg_getr X I fk_X12_117 (j := 34) (by decide) shM_0 rfl dX12_image_19 ?_
    refine lv_iload_n hx hb dX12_image_22 rfl (lv_at hl 1 rfl) ?_
    refine lv_aload_n hx hb dX12_image_23 rfl (lv_at hl 0 rfl) ?_
    refine sg_getr X I fk_X12_70 (j := 21) (by decide) shM_0 rfl dX12_image_24 ?_
    refine lv_iload_n hx hb dX12_image_27 rfl (lv_at hl 1 rfl) ?_
    refine sg_iald X I (by decide) shM_21 h dX12_image_28 (fun v1 h => ?_)
    refine sg_iast X I (by decide) shM_34 h dX12_image_29 (fun s2 H locs h I => ?_)
    refine lv_iinc (v := x1 + 1) (lv' := [(1, .int (x1 + 1)), (0, .ref (sgA P 0))]) hx hb dX12_image_30 hl (k := 1) rfl rfl (by decide) rfl (fun ls hl => ?_)
    refine lv_goto (tgt := 11) hx hb dX12_image_33 (by decide) ?_
    obtain rfl := Option.some.inj h
    exact sg_go hk I (lv_sub hl [1, 0] rfl)
def f_X12_image (N : Nat) (σ : sgS) : Option (Int32 × sgS) :=
  if (σ.1 0 28) = 0 then
  (some ((-1), σ))
else
  (sg_lb (sg_lp (fun x => f_X12_image_L11 N x.2 x.1) N ((σ, 0))) (fun r => some r) fun y3 =>
  sg_pf y3 0 57 1 fun s4 =>
  sg_ld s4 21 215 33 fun v5 =>
  some (v5, s4))
set_option maxHeartbeats 4000000 in
set_option maxRecDepth 100000 in
theorem b_X12_image {p : Program} {l : Launch} {e : Env} {R : Room} {s : State} {m : MethodId} {args : Array Value} {below : List Frame} {meth : Method} {c : Code} {Q : State → Prop} {P : sgP} {A : Nat → Prop} {N : Nat} {σ : sgS} (X : sg_C P A 1 p R s m args c cX12_image 2 RX12) {H : Heap} {locs : List Loc} (I : sg_I P shM 35 A s.heap σ H locs) {ls : Array Slot} (hl : lv_has ls 2 [(0, .ref (sgA P 0))]) {st : Int32 × sgS} (h : f_X12_image N σ = some st) (hk : sg_Ri p l e R s m args below meth c Q P shM 35 A cX12_image (some .int) st) : W p l e R s m args below meth c H locs 0 0 Q (F0 m 0 ls []) := by
  unfold f_X12_image at h
  have hx := X.1.1
  have hb := X.1.2.1
  have hown := X.1.2.2.2.1
  have hts := X.1.2.2.2.2
  refine lv_aload_n hx hb dX12_image_0 rfl (lv_at hl 0 rfl) ?_
  refine sg_geti X I fk_X12_288 (by decide) shM_0 rfl dX12_image_1 ?_
  refine lv_if_ne (tgt := 9) hx hb dX12_image_4 (by decide) (fun z => ?_) (fun z => ?_)
  · have h := sg_iff h z
    refine lv_iconst (v := 0) hx hb dX12_image_9 (by decide) ?_
    refine lv_istore_n (lv' := [(1, .int 0), (0, .ref (sgA P 0))]) hx hb dX12_image_10 rfl hl (by decide) rfl (fun ls hl => ?_)
    obtain ⟨res, e9, k9⟩ := sg_lb_some h
    refine sg_go (sg_lp_W (a := (sg_Ri p l e R s m args below meth c Q P shM 35 A cX12_image (some .int))) (w := (fun x => sg_Wt p l e R s m args below meth c Q P shM 35 A 2 11 x.1 [(0, .ref (sgA P 0)), (1, .int x.2)])) (c := (fun y => sg_Wt p l e R s m args below meth c Q P shM 35 A 2 36 y [(0, .ref (sgA P 0))])) (fun x st hb9 hk9 => ?_) N ((σ, 0)) res e9 (sg_k2_mono k9 (fun r h => ?_) (fun y3 h => ?_))) I (lv_sub hl [1, 0] rfl)
    · intro H locs ls I hl
      exact b_X12_image_L11 X I hl hb9 hk9
    · obtain rfl := Option.some.inj h
      exact hk
    · intro H locs ls I hl
      refine lv_aload_n hx hb dX12_image_36 rfl (lv_at hl 0 rfl) ?_
      refine lv_iconst (v := 1) hx hb dX12_image_37 (by decide) ?_
      refine sg_puti X I fk_X12_303 wk_12_57 (by decide) (by decide) (by decide) shM_0 rfl h dX12_image_38 (fun s4 H locs h I => ?_)
      refine lv_aload_n hx hb dX12_image_41 rfl (lv_at hl 0 rfl) ?_
      refine sg_getr X I fk_X12_70 (j := 21) (by decide) shM_0 rfl dX12_image_42 ?_
      refine lv_bipush (v := 33) hx hb dX12_image_45 (by decide) ?_
      refine sg_iald X I (by decide) shM_21 h dX12_image_47 (fun v5 h => ?_)
      obtain rfl := Option.some.inj h
      exact hk _ _ _ _ _ I ⟨_, rfl, rfl⟩ dX12_image_48
  · have h := sg_ift h z
    refine lv_iconst (v := -1) hx hb dX12_image_7 (by decide) ?_
    obtain rfl := Option.some.inj h
    exact hk _ _ _ _ _ I ⟨_, rfl, rfl⟩ dX12_image_8
set_option maxHeartbeats 4000000 in
set_option maxRecDepth 100000 in
theorem c_X12_image {l : Launch} {P : sgP} {N : Nat} {σ : sgS} {q : Int32 × sgS} (h : f_X12_image N σ = some q) : sg_Mi P shM 35 l yX12_image cX12_image 2 (some .int) 1 [.ref (sgA P 0)] σ q := by
  refine sg_mki (plainFor_of_name (by decide +kernel)) (Nat.le_of_ble_eq_true rfl) ?_
  intro p e R s m args below meth c Q A ls H locs X I hl hk
  exact b_X12_image X I hl h hk
def f_X12_back_L11 (N : Nat) (x1 : Int32) (σ : sgS) : Option ((Int32 × sgS) ⊕ ((sgS × Int32) ⊕ (sgS))) :=
  if 215 ≤ x1 then
  (some (.inr (.inr σ)))
else
  (sg_ld σ 34 215 x1 fun v1 =>
  sg_st σ 21 215 x1 v1 fun s2 =>
  some (.inr (.inl (s2, x1 + 1))))
set_option maxHeartbeats 4000000 in
set_option maxRecDepth 100000 in
theorem b_X12_back_L11 {p : Program} {l : Launch} {e : Env} {R : Room} {s : State} {m : MethodId} {args : Array Value} {below : List Frame} {meth : Method} {c : Code} {Q : State → Prop} {P : sgP} {A : Nat → Prop} {N : Nat} {x1 : Int32} {σ : sgS} (X : sg_C P A 1 p R s m args c cX12_back 2 RX12) {H : Heap} {locs : List Loc} (I : sg_I P shM 35 A s.heap σ H locs) {ls : Array Slot} (hl : lv_has ls 2 [(0, .ref (sgA P 0)), (1, .int x1)]) {st : (Int32 × sgS) ⊕ ((sgS × Int32) ⊕ (sgS))} (h : f_X12_back_L11 N x1 σ = some st) (hk : sg_k3 (sg_Ri p l e R s m args below meth c Q P shM 35 A cX12_back (some .int)) (fun x => sg_Wt p l e R s m args below meth c Q P shM 35 A 2 11 x.1 [(0, .ref (sgA P 0)), (1, .int x.2)]) (fun y => sg_Wt p l e R s m args below meth c Q P shM 35 A 2 36 y [(0, .ref (sgA P 0))]) st) : W p l e R s m args below meth c H locs 0 0 Q (F0 m 11 ls []) := by
  unfold f_X12_back_L11 at h
  have hx := X.1.1
  have hb := X.1.2.1
  have hown := X.1.2.2.2.1
  have hts := X.1.2.2.2.2
  refine lv_iload_n hx hb dX12_back_11 rfl (lv_at hl 1 rfl) ?_
  refine lv_sipush (v := 215) hx hb dX12_back_12 (by decide) ?_
  refine lv_icmp_ge (tgt := 36) hx hb dX12_back_15 (by decide) (fun z => ?_) (fun z => ?_)
  · have h := sg_ift h z
    obtain rfl := Option.some.inj h
    exact sg_go hk I (lv_sub hl [0] rfl)
  · have h := sg_iff h z
    refine lv_aload_n hx hb dX12_back_18 rfl (lv_at hl 0 rfl) ?_
    refine sg_getr X I fk_X12_70 (j := 21) (by decide) shM_0 rfl dX12_back_19 ?_
    refine lv_iload_n hx hb dX12_back_22 rfl (lv_at hl 1 rfl) ?_
    refine lv_aload_n hx hb dX12_back_23 rfl (lv_at hl 0 rfl) ?_
    refine sg_getr X I fk_X12_117 (j := 34) (by decide) shM_0 rfl dX12_back_24 ?_
    refine lv_iload_n hx hb dX12_back_27 rfl (lv_at hl 1 rfl) ?_
    refine sg_iald X I (by decide) shM_34 h dX12_back_28 (fun v1 h => ?_)
    refine sg_iast X I (by decide) shM_21 h dX12_back_29 (fun s2 H locs h I => ?_)
    refine lv_iinc (v := x1 + 1) (lv' := [(1, .int (x1 + 1)), (0, .ref (sgA P 0))]) hx hb dX12_back_30 hl (k := 1) rfl rfl (by decide) rfl (fun ls hl => ?_)
    refine lv_goto (tgt := 11) hx hb dX12_back_33 (by decide) ?_
    obtain rfl := Option.some.inj h
    exact sg_go hk I (lv_sub hl [1, 0] rfl)
def f_X12_back (N : Nat) (σ : sgS) : Option (Int32 × sgS) :=
  if (σ.1 0 57) = 0 then
  (some ((-1), σ))
else
  (sg_lb (sg_lp (fun x => f_X12_back_L11 N x.2 x.1) N ((σ, 0))) (fun r => some r) fun y3 =>
  sg_pf y3 0 42 0 fun s4 =>
  sg_ld s4 21 215 33 fun v5 =>
  some (v5, s4))
set_option maxHeartbeats 4000000 in
set_option maxRecDepth 100000 in
theorem b_X12_back {p : Program} {l : Launch} {e : Env} {R : Room} {s : State} {m : MethodId} {args : Array Value} {below : List Frame} {meth : Method} {c : Code} {Q : State → Prop} {P : sgP} {A : Nat → Prop} {N : Nat} {σ : sgS} (X : sg_C P A 1 p R s m args c cX12_back 2 RX12) {H : Heap} {locs : List Loc} (I : sg_I P shM 35 A s.heap σ H locs) {ls : Array Slot} (hl : lv_has ls 2 [(0, .ref (sgA P 0))]) {st : Int32 × sgS} (h : f_X12_back N σ = some st) (hk : sg_Ri p l e R s m args below meth c Q P shM 35 A cX12_back (some .int) st) : W p l e R s m args below meth c H locs 0 0 Q (F0 m 0 ls []) := by
  unfold f_X12_back at h
  have hx := X.1.1
  have hb := X.1.2.1
  have hown := X.1.2.2.2.1
  have hts := X.1.2.2.2.2
  refine lv_aload_n hx hb dX12_back_0 rfl (lv_at hl 0 rfl) ?_
  refine sg_geti X I fk_X12_303 (by decide) shM_0 rfl dX12_back_1 ?_
  refine lv_if_ne (tgt := 9) hx hb dX12_back_4 (by decide) (fun z => ?_) (fun z => ?_)
  · have h := sg_iff h z
    refine lv_iconst (v := 0) hx hb dX12_back_9 (by decide) ?_
    refine lv_istore_n (lv' := [(1, .int 0), (0, .ref (sgA P 0))]) hx hb dX12_back_10 rfl hl (by decide) rfl (fun ls hl => ?_)
    obtain ⟨res, e9, k9⟩ := sg_lb_some h
    refine sg_go (sg_lp_W (a := (sg_Ri p l e R s m args below meth c Q P shM 35 A cX12_back (some .int))) (w := (fun x => sg_Wt p l e R s m args below meth c Q P shM 35 A 2 11 x.1 [(0, .ref (sgA P 0)), (1, .int x.2)])) (c := (fun y => sg_Wt p l e R s m args below meth c Q P shM 35 A 2 36 y [(0, .ref (sgA P 0))])) (fun x st hb9 hk9 => ?_) N ((σ, 0)) res e9 (sg_k2_mono k9 (fun r h => ?_) (fun y3 h => ?_))) I (lv_sub hl [1, 0] rfl)
    · intro H locs ls I hl
      exact b_X12_back_L11 X I hl hb9 hk9
    · obtain rfl := Option.some.inj h
      exact hk
    · intro H locs ls I hl
      refine lv_aload_n hx hb dX12_back_36 rfl (lv_at hl 0 rfl) ?_
      refine lv_iconst (v := 0) hx hb dX12_back_37 (by decide) ?_
      refine sg_puti X I fk_X12_300 wk_12_42 rfl rfl (by decide) shM_0 rfl h dX12_back_38 (fun s4 H locs h I => ?_)
      refine lv_aload_n hx hb dX12_back_41 rfl (lv_at hl 0 rfl) ?_
      refine sg_getr X I fk_X12_70 (j := 21) (by decide) shM_0 rfl dX12_back_42 ?_
      refine lv_bipush (v := 33) hx hb dX12_back_45 (by decide) ?_
      refine sg_iald X I (by decide) shM_21 h dX12_back_47 (fun v5 h => ?_)
      obtain rfl := Option.some.inj h
      exact hk _ _ _ _ _ I ⟨_, rfl, rfl⟩ dX12_back_48
  · have h := sg_ift h z
    refine lv_iconst (v := -1) hx hb dX12_back_7 (by decide) ?_
    obtain rfl := Option.some.inj h
    exact hk _ _ _ _ _ I ⟨_, rfl, rfl⟩ dX12_back_8
set_option maxHeartbeats 4000000 in
set_option maxRecDepth 100000 in
theorem c_X12_back {l : Launch} {P : sgP} {N : Nat} {σ : sgS} {q : Int32 × sgS} (h : f_X12_back N σ = some q) : sg_Mi P shM 35 l yX12_back cX12_back 2 (some .int) 1 [.ref (sgA P 0)] σ q := by
  refine sg_mki (plainFor_of_name (by decide +kernel)) (Nat.le_of_ble_eq_true rfl) ?_
  intro p e R s m args below meth c Q A ls H locs X I hl hk
  exact b_X12_back X I hl h hk
def f_X12_count (N : Nat) (p1 : Int32) (σ : sgS) : Option (Int32) :=
  if p1 = 0 then
  (some (σ.1 0 28))
else
  (if p1 = 1 then
    (some (σ.1 0 29))
  else
    (if p1 = 2 then
      (some (σ.1 0 30))
    else
      (if p1 = 3 then
        (some (σ.1 0 13))
      else
        (if p1 = 4 then
          (some (σ.1 0 33))
        else
          (if p1 = 5 then
            (some (σ.1 0 2))
          else
            (if p1 = 6 then
              (some (σ.1 0 36))
            else
              (if p1 = 7 then
                (sg_ld σ 21 215 33 fun v1 =>
                some v1)
              else
                (if p1 = 8 then
                  (some (σ.1 0 37))
                else
                  (if p1 = 9 then
                    (some (σ.1 0 54))
                  else
                    (if p1 = 10 then
                      (sg_ld σ 21 215 34 fun v2 =>
                      some v2)
                    else
                      (if p1 = 11 then
                        (some (σ.1 0 42))
                      else
                        (some ((-1000000))))))))))))))
set_option maxHeartbeats 4000000 in
set_option maxRecDepth 100000 in
theorem b_X12_count {p : Program} {l : Launch} {e : Env} {R : Room} {s : State} {m : MethodId} {args : Array Value} {below : List Frame} {meth : Method} {c : Code} {Q : State → Prop} {P : sgP} {A : Nat → Prop} {N : Nat} {p1 : Int32} {σ : sgS} (X : sg_C P A 1 p R s m args c cX12_count 2 RX12) {H : Heap} {locs : List Loc} (I : sg_I P shM 35 A s.heap σ H locs) {ls : Array Slot} (hl : lv_has ls 2 [(0, .ref (sgA P 0)), (1, .int p1)]) {st : Int32} (h : f_X12_count N p1 σ = some st) (hk : sg_Ri p l e R s m args below meth c Q P shM 35 A cX12_count (some .int) (st, σ)) : W p l e R s m args below meth c H locs 0 0 Q (F0 m 0 ls []) := by
  unfold f_X12_count at h
  have hx := X.1.1
  have hb := X.1.2.1
  have hown := X.1.2.2.2.1
  have hts := X.1.2.2.2.2
  refine lv_iload_n hx hb dX12_count_0 rfl (lv_at hl 1 rfl) ?_
  by_cases c0 : p1 = 0
  · have h := sg_ift h c0
    refine sg_swIn (k := 0) (off := 63) (tgt := 64) hx hb dX12_count_1 c0 (by decide) (by decide) (by decide +kernel) (by decide) ?_
    refine lv_aload_n hx hb dX12_count_64 rfl (lv_at hl 0 rfl) ?_
    refine sg_geti X I fk_X12_288 (by decide) shM_0 rfl dX12_count_65 ?_
    obtain rfl := Option.some.inj h
    exact hk _ _ _ _ _ I ⟨_, rfl, rfl⟩ dX12_count_68
  have h := sg_iff h c0
  have i0 := sg_ine (z := 0) (by decide) c0
  by_cases c1 : p1 = 1
  · have h := sg_ift h c1
    refine sg_swIn (k := 1) (off := 68) (tgt := 69) hx hb dX12_count_1 c1 (by decide) (by decide) (by decide +kernel) (by decide) ?_
    refine lv_aload_n hx hb dX12_count_69 rfl (lv_at hl 0 rfl) ?_
    refine sg_geti X I fk_X12_291 (by decide) shM_0 rfl dX12_count_70 ?_
    obtain rfl := Option.some.inj h
    exact hk _ _ _ _ _ I ⟨_, rfl, rfl⟩ dX12_count_73
  have h := sg_iff h c1
  have i1 := sg_ine (z := 1) (by decide) c1
  by_cases c2 : p1 = 2
  · have h := sg_ift h c2
    refine sg_swIn (k := 2) (off := 73) (tgt := 74) hx hb dX12_count_1 c2 (by decide) (by decide) (by decide +kernel) (by decide) ?_
    refine lv_aload_n hx hb dX12_count_74 rfl (lv_at hl 0 rfl) ?_
    refine sg_geti X I fk_X12_285 (by decide) shM_0 rfl dX12_count_75 ?_
    obtain rfl := Option.some.inj h
    exact hk _ _ _ _ _ I ⟨_, rfl, rfl⟩ dX12_count_78
  have h := sg_iff h c2
  have i2 := sg_ine (z := 2) (by decide) c2
  by_cases c3 : p1 = 3
  · have h := sg_ift h c3
    refine sg_swIn (k := 3) (off := 78) (tgt := 79) hx hb dX12_count_1 c3 (by decide) (by decide) (by decide +kernel) (by decide) ?_
    refine lv_aload_n hx hb dX12_count_79 rfl (lv_at hl 0 rfl) ?_
    refine sg_geti X I fk_X12_310 (by decide) shM_0 rfl dX12_count_80 ?_
    obtain rfl := Option.some.inj h
    exact hk _ _ _ _ _ I ⟨_, rfl, rfl⟩ dX12_count_83
  have h := sg_iff h c3
  have i3 := sg_ine (z := 3) (by decide) c3
  by_cases c4 : p1 = 4
  · have h := sg_ift h c4
    refine sg_swIn (k := 4) (off := 83) (tgt := 84) hx hb dX12_count_1 c4 (by decide) (by decide) (by decide +kernel) (by decide) ?_
    refine lv_aload_n hx hb dX12_count_84 rfl (lv_at hl 0 rfl) ?_
    refine sg_geti X I fk_X12_313 (by decide) shM_0 rfl dX12_count_85 ?_
    obtain rfl := Option.some.inj h
    exact hk _ _ _ _ _ I ⟨_, rfl, rfl⟩ dX12_count_88
  have h := sg_iff h c4
  have i4 := sg_ine (z := 4) (by decide) c4
  by_cases c5 : p1 = 5
  · have h := sg_ift h c5
    refine sg_swIn (k := 5) (off := 88) (tgt := 89) hx hb dX12_count_1 c5 (by decide) (by decide) (by decide +kernel) (by decide) ?_
    refine lv_aload_n hx hb dX12_count_89 rfl (lv_at hl 0 rfl) ?_
    refine sg_geti X I fk_X12_127 (by decide) shM_0 rfl dX12_count_90 ?_
    obtain rfl := Option.some.inj h
    exact hk _ _ _ _ _ I ⟨_, rfl, rfl⟩ dX12_count_93
  have h := sg_iff h c5
  have i5 := sg_ine (z := 5) (by decide) c5
  by_cases c6 : p1 = 6
  · have h := sg_ift h c6
    refine sg_swIn (k := 6) (off := 93) (tgt := 94) hx hb dX12_count_1 c6 (by decide) (by decide) (by decide +kernel) (by decide) ?_
    refine lv_aload_n hx hb dX12_count_94 rfl (lv_at hl 0 rfl) ?_
    refine sg_geti X I fk_X12_76 (by decide) shM_0 rfl dX12_count_95 ?_
    obtain rfl := Option.some.inj h
    exact hk _ _ _ _ _ I ⟨_, rfl, rfl⟩ dX12_count_98
  have h := sg_iff h c6
  have i6 := sg_ine (z := 6) (by decide) c6
  by_cases c7 : p1 = 7
  · have h := sg_ift h c7
    refine sg_swIn (k := 7) (off := 98) (tgt := 99) hx hb dX12_count_1 c7 (by decide) (by decide) (by decide +kernel) (by decide) ?_
    refine lv_aload_n hx hb dX12_count_99 rfl (lv_at hl 0 rfl) ?_
    refine sg_getr X I fk_X12_70 (j := 21) (by decide) shM_0 rfl dX12_count_100 ?_
    refine lv_bipush (v := 33) hx hb dX12_count_103 (by decide) ?_
    refine sg_iald X I (by decide) shM_21 h dX12_count_105 (fun v1 h => ?_)
    obtain rfl := Option.some.inj h
    exact hk _ _ _ _ _ I ⟨_, rfl, rfl⟩ dX12_count_106
  have h := sg_iff h c7
  have i7 := sg_ine (z := 7) (by decide) c7
  by_cases c8 : p1 = 8
  · have h := sg_ift h c8
    refine sg_swIn (k := 8) (off := 106) (tgt := 107) hx hb dX12_count_1 c8 (by decide) (by decide) (by decide +kernel) (by decide) ?_
    refine lv_aload_n hx hb dX12_count_107 rfl (lv_at hl 0 rfl) ?_
    refine sg_geti X I fk_X12_80 (by decide) shM_0 rfl dX12_count_108 ?_
    obtain rfl := Option.some.inj h
    exact hk _ _ _ _ _ I ⟨_, rfl, rfl⟩ dX12_count_111
  have h := sg_iff h c8
  have i8 := sg_ine (z := 8) (by decide) c8
  by_cases c9 : p1 = 9
  · have h := sg_ift h c9
    refine sg_swIn (k := 9) (off := 111) (tgt := 112) hx hb dX12_count_1 c9 (by decide) (by decide) (by decide +kernel) (by decide) ?_
    refine lv_aload_n hx hb dX12_count_112 rfl (lv_at hl 0 rfl) ?_
    refine sg_geti X I fk_X12_297 (by decide) shM_0 rfl dX12_count_113 ?_
    obtain rfl := Option.some.inj h
    exact hk _ _ _ _ _ I ⟨_, rfl, rfl⟩ dX12_count_116
  have h := sg_iff h c9
  have i9 := sg_ine (z := 9) (by decide) c9
  by_cases c10 : p1 = 10
  · have h := sg_ift h c10
    refine sg_swIn (k := 10) (off := 116) (tgt := 117) hx hb dX12_count_1 c10 (by decide) (by decide) (by decide +kernel) (by decide) ?_
    refine lv_aload_n hx hb dX12_count_117 rfl (lv_at hl 0 rfl) ?_
    refine sg_getr X I fk_X12_70 (j := 21) (by decide) shM_0 rfl dX12_count_118 ?_
    refine lv_bipush (v := 34) hx hb dX12_count_121 (by decide) ?_
    refine sg_iald X I (by decide) shM_21 h dX12_count_123 (fun v2 h => ?_)
    obtain rfl := Option.some.inj h
    exact hk _ _ _ _ _ I ⟨_, rfl, rfl⟩ dX12_count_124
  have h := sg_iff h c10
  have i10 := sg_ine (z := 10) (by decide) c10
  by_cases c11 : p1 = 11
  · have h := sg_ift h c11
    refine sg_swIn (k := 11) (off := 124) (tgt := 125) hx hb dX12_count_1 c11 (by decide) (by decide) (by decide +kernel) (by decide) ?_
    refine lv_aload_n hx hb dX12_count_125 rfl (lv_at hl 0 rfl) ?_
    refine sg_geti X I fk_X12_300 (by decide) shM_0 rfl dX12_count_126 ?_
    obtain rfl := Option.some.inj h
    exact hk _ _ _ _ _ I ⟨_, rfl, rfl⟩ dX12_count_129
  have h := sg_iff h c11
  have i11 := sg_ine (z := 11) (by decide) c11
  refine lv_tableOut (tgt := 130) hx hb dX12_count_1 (by omega) (by decide) ?_
  refine lv_ldcw (v := -1000000) hx hb hown (hts _ qw_1389) dX12_count_130 ?_
  obtain rfl := Option.some.inj h
  exact hk _ _ _ _ _ I ⟨_, rfl, rfl⟩ dX12_count_133
set_option maxHeartbeats 4000000 in
set_option maxRecDepth 100000 in
theorem c_X12_count {l : Launch} {P : sgP} {N : Nat} {p1 : Int32} {σ : sgS} {q : Int32} (h : f_X12_count N p1 σ = some q) : sg_Mi P shM 35 l yX12_count cX12_count 2 (some .int) 1 [.ref (sgA P 0), .int p1] σ (q, σ) := by
  refine sg_mki (plainFor_of_name (by decide +kernel)) (Nat.le_of_ble_eq_true rfl) ?_
  intro p e R s m args below meth c Q A ls H locs X I hl hk
  exact b_X12_count X I hl h hk
