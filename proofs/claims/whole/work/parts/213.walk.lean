def f_X12_done_L16 (N : Nat) (p1 : Int32) (x2 : Int32) (σ : sgS) : Option ((Int32 × sgS) ⊕ ((sgS × Int32) ⊕ (sgS × Int32))) :=
  if 60 ≤ x2 then
  (some (.inr (.inr (σ, x2))))
else
  (sg_ld σ 21 215 (4 + p1) fun v4 =>
  if v4 = ((-1)) then
    (some (.inr (.inr (σ, x2))))
  else
    (sg_cl (f_X12_live N σ) fun v5 s6 =>
    some (.inr (.inl (s6, x2 + 1)))))
set_option maxHeartbeats 4000000 in
set_option maxRecDepth 100000 in
theorem b_X12_done_L16 {p : Program} {l : Launch} {e : Env} {R : Room} {s : State} {m : MethodId} {args : Array Value} {below : List Frame} {meth : Method} {c : Code} {Q : State → Prop} {P : sgP} {A : Nat → Prop} {N : Nat} {p1 : Int32} {x2 : Int32} {σ : sgS} (X : sg_C P A 9 p R s m args c cX12_done 4 RX12) {H : Heap} {locs : List Loc} (I : sg_I P shM 35 A s.heap σ H locs) {ls : Array Slot} (hl : lv_has ls 4 [(0, .ref (sgA P 0)), (1, .int p1), (2, .int x2)]) {st : (Int32 × sgS) ⊕ ((sgS × Int32) ⊕ (sgS × Int32))} (h : f_X12_done_L16 N p1 x2 σ = some st) (hk : sg_k3 (sg_Ri p l e R s m args below meth c Q P shM 35 A cX12_done (some .int)) (fun x => sg_Wt p l e R s m args below meth c Q P shM 35 A 4 16 x.1 [(0, .ref (sgA P 0)), (1, .int p1), (2, .int x.2)]) (fun y => sg_Wt p l e R s m args below meth c Q P shM 35 A 4 44 y.1 [(0, .ref (sgA P 0)), (1, .int p1), (2, .int y.2)]) st) : W p l e R s m args below meth c H locs 0 0 Q (F0 m 16 ls []) := by
  unfold f_X12_done_L16 at h
  have hx := X.1.1
  have hb := X.1.2.1
  have hown := X.1.2.2.2.1
  have hts := X.1.2.2.2.2
  refine lv_iload_n hx hb dX12_done_16 rfl (lv_at hl 2 rfl) ?_
  refine lv_bipush (v := 60) hx hb dX12_done_17 (by decide) ?_
  refine lv_icmp_ge (tgt := 44) hx hb dX12_done_19 (by decide) (fun z => ?_) (fun z => ?_)
  · have h := sg_ift h z
    obtain rfl := Option.some.inj h
    exact sg_go hk I (lv_sub hl [0, 1, 2] rfl)
  · have h := sg_iff h z
    refine lv_aload_n hx hb dX12_done_22 rfl (lv_at hl 0 rfl) ?_
    refine sg_getr X I fk_X12_70 (j := 21) (by decide) shM_0 rfl dX12_done_23 ?_
    refine lv_iconst (v := 4) hx hb dX12_done_26 (by decide) ?_
    refine lv_iload_n hx hb dX12_done_27 rfl (lv_at hl 1 rfl) ?_
    refine lv_iadd hx hb dX12_done_28 ?_
    refine sg_iald X I (by decide) shM_21 h dX12_done_29 (fun v4 h => ?_)
    refine lv_iconst (v := -1) hx hb dX12_done_30 (by decide) ?_
    refine lv_icmp_eq (tgt := 44) hx hb dX12_done_31 (by decide) (fun z => ?_) (fun z => ?_)
    · have h := sg_ift h z
      obtain rfl := Option.some.inj h
      exact sg_go hk I (lv_sub hl [0, 1, 2] rfl)
    · have h := sg_iff h z
      refine lv_aload_n hx hb dX12_done_34 rfl (lv_at hl 0 rfl) ?_
      refine sg_callVv (As := []) X I mk_X12_361 (by decide) (by decide) shM_0 rfl (fun q9 e9 => c_X12_live e9) h hl.1 rfl rfl (Nat.le_of_ble_eq_true rfl) dX12_done_35 (fun v5 s6 H locs h I => ?_)
      refine lv_iinc (v := x2 + 1) (lv' := [(2, .int (x2 + 1)), (0, .ref (sgA P 0)), (1, .int p1)]) hx hb dX12_done_38 hl (k := 2) rfl rfl (by decide) rfl (fun ls hl => ?_)
      refine lv_goto (tgt := 16) hx hb dX12_done_41 (by decide) ?_
      obtain rfl := Option.some.inj h
      exact sg_go hk I (lv_sub hl [1, 2, 0] rfl)
def f_X12_done_B61 (N : Nat) (p1 : Int32) (u2 : Int32) (k0 : Int32) (σ : sgS) : Option (Int32 × sgS) :=
  sg_cl (f_X12_takeBack N σ) fun v9 s10 =>
if k0 = 0 then
  (some ((-1), s10))
else
  (some (u2, s10))
set_option maxHeartbeats 4000000 in
set_option maxRecDepth 100000 in
theorem b_X12_done_B61 {p : Program} {l : Launch} {e : Env} {R : Room} {s : State} {m : MethodId} {args : Array Value} {below : List Frame} {meth : Method} {c : Code} {Q : State → Prop} {P : sgP} {A : Nat → Prop} {N : Nat} {p1 : Int32} {u2 : Int32} {k0 : Int32} {σ : sgS} (X : sg_C P A 9 p R s m args c cX12_done 4 RX12) {H : Heap} {locs : List Loc} (I : sg_I P shM 35 A s.heap σ H locs) {ls : Array Slot} (hl : lv_has ls 4 [(0, .ref (sgA P 0)), (2, .int u2)]) {st : Int32 × sgS} (h : f_X12_done_B61 N p1 u2 k0 σ = some st) (hk : sg_Ri p l e R s m args below meth c Q P shM 35 A cX12_done (some .int) st) : W p l e R s m args below meth c H locs 0 0 Q (F0 m 61 ls [.int k0]) := by
  unfold f_X12_done_B61 at h
  have hx := X.1.1
  have hb := X.1.2.1
  have hown := X.1.2.2.2.1
  have hts := X.1.2.2.2.2
  refine lv_istore_n (lv' := [(3, .int k0), (0, .ref (sgA P 0)), (2, .int u2)]) hx hb dX12_done_61 rfl hl (by decide) rfl (fun ls hl => ?_)
  refine lv_aload_n hx hb dX12_done_62 rfl (lv_at hl 1 rfl) ?_
  refine sg_callVv (As := []) X I mk_X12_434 (by decide) (by decide) shM_0 rfl (fun q9 e9 => c_X12_takeBack e9) h hl.1 rfl rfl (Nat.le_of_ble_eq_true rfl) dX12_done_63 (fun v9 s10 H locs h I => ?_)
  refine lv_iload_n hx hb dX12_done_66 rfl (lv_at hl 0 rfl) ?_
  refine lv_if_eq (tgt := 74) hx hb dX12_done_67 (by decide) (fun z => ?_) (fun z => ?_)
  · have h := sg_ift h z
    refine lv_iconst (v := -1) hx hb dX12_done_74 (by decide) ?_
    obtain rfl := Option.some.inj h
    exact hk _ _ _ _ _ I ⟨_, rfl, rfl⟩ dX12_done_75
  · have h := sg_iff h z
    refine lv_iload_n hx hb dX12_done_70 rfl (lv_at hl 2 rfl) ?_
    refine lv_goto (tgt := 75) hx hb dX12_done_71 (by decide) ?_
    obtain rfl := Option.some.inj h
    exact hk _ _ _ _ _ I ⟨_, rfl, rfl⟩ dX12_done_75
def f_X12_done (N : Nat) (p1 : Int32) (σ : sgS) : Option (Int32 × sgS) :=
  sg_cr (f_X12_isSet N p1 σ) fun v1 =>
if v1 = 0 then
  (some ((-1), σ))
else
  (sg_cl (f_X12_putAside N σ) fun v2 s3 =>
  sg_lb (sg_lp (fun x => f_X12_done_L16 N p1 x.2 x.1) N ((s3, 0))) (fun r => some r) fun y7 =>
  sg_ld y7.1 21 215 (4 + p1) fun v8 =>
  if v8 = ((-1)) then
    (f_X12_done_B61 N p1 y7.2 1 y7.1)
  else
    (f_X12_done_B61 N p1 y7.2 0 y7.1))
set_option maxHeartbeats 4000000 in
set_option maxRecDepth 100000 in
theorem b_X12_done {p : Program} {l : Launch} {e : Env} {R : Room} {s : State} {m : MethodId} {args : Array Value} {below : List Frame} {meth : Method} {c : Code} {Q : State → Prop} {P : sgP} {A : Nat → Prop} {N : Nat} {p1 : Int32} {σ : sgS} (X : sg_C P A 9 p R s m args c cX12_done 4 RX12) {H : Heap} {locs : List Loc} (I : sg_I P shM 35 A s.heap σ H locs) {ls : Array Slot} (hl : lv_has ls 4 [(0, .ref (sgA P 0)), (1, .int p1)]) {st : Int32 × sgS} (h : f_X12_done N p1 σ = some st) (hk : sg_Ri p l e R s m args below meth c Q P shM 35 A cX12_done (some .int) st) : W p l e R s m args below meth c H locs 0 0 Q (F0 m 0 ls []) := by
  unfold f_X12_done at h
  have hx := X.1.1
  have hb := X.1.2.1
  have hown := X.1.2.2.2.1
  have hts := X.1.2.2.2.2
  refine lv_aload_n hx hb dX12_done_0 rfl (lv_at hl 0 rfl) ?_
  refine lv_iload_n hx hb dX12_done_1 rfl (lv_at hl 1 rfl) ?_
  refine sg_callVr (As := [.int p1]) X I mk_X12_370 (by decide) (by decide) shM_0 rfl (fun q9 e9 => c_X12_isSet e9) h hl.1 rfl rfl (Nat.le_of_ble_eq_true rfl) dX12_done_2 (fun v1 H locs h I => ?_)
  refine lv_if_ne (tgt := 10) hx hb dX12_done_5 (by decide) (fun z => ?_) (fun z => ?_)
  · have h := sg_iff h z
    refine lv_aload_n hx hb dX12_done_10 rfl (lv_at hl 0 rfl) ?_
    refine sg_callVv (As := []) X I mk_X12_431 (by decide) (by decide) shM_0 rfl (fun q9 e9 => c_X12_putAside e9) h hl.1 rfl rfl (Nat.le_of_ble_eq_true rfl) dX12_done_11 (fun v2 s3 H locs h I => ?_)
    refine lv_iconst (v := 0) hx hb dX12_done_14 (by decide) ?_
    refine lv_istore_n (lv' := [(2, .int 0), (0, .ref (sgA P 0)), (1, .int p1)]) hx hb dX12_done_15 rfl hl (by decide) rfl (fun ls hl => ?_)
    obtain ⟨res, e9, k9⟩ := sg_lb_some h
    refine sg_go (sg_lp_W (a := (sg_Ri p l e R s m args below meth c Q P shM 35 A cX12_done (some .int))) (w := (fun x => sg_Wt p l e R s m args below meth c Q P shM 35 A 4 16 x.1 [(0, .ref (sgA P 0)), (1, .int p1), (2, .int x.2)])) (c := (fun y => sg_Wt p l e R s m args below meth c Q P shM 35 A 4 44 y.1 [(0, .ref (sgA P 0)), (1, .int p1), (2, .int y.2)])) (fun x st hb9 hk9 => ?_) N ((s3, 0)) res e9 (sg_k2_mono k9 (fun r h => ?_) (fun y7 h => ?_))) I (lv_sub hl [1, 2, 0] rfl)
    · intro H locs ls I hl
      exact b_X12_done_L16 X I hl hb9 hk9
    · obtain rfl := Option.some.inj h
      exact hk
    · intro H locs ls I hl
      refine lv_aload_n hx hb dX12_done_44 rfl (lv_at hl 0 rfl) ?_
      refine sg_getr X I fk_X12_70 (j := 21) (by decide) shM_0 rfl dX12_done_45 ?_
      refine lv_iconst (v := 4) hx hb dX12_done_48 (by decide) ?_
      refine lv_iload_n hx hb dX12_done_49 rfl (lv_at hl 1 rfl) ?_
      refine lv_iadd hx hb dX12_done_50 ?_
      refine sg_iald X I (by decide) shM_21 h dX12_done_51 (fun v8 h => ?_)
      refine lv_iconst (v := -1) hx hb dX12_done_52 (by decide) ?_
      refine lv_icmp_ne (tgt := 60) hx hb dX12_done_53 (by decide) (fun z => ?_) (fun z => ?_)
      · have h := sg_iff h z
        refine lv_iconst (v := 0) hx hb dX12_done_60 (by decide) ?_
        exact b_X12_done_B61 X I (lv_sub hl [0, 2] rfl) h hk
      · have h := sg_ift h z
        refine lv_iconst (v := 1) hx hb dX12_done_56 (by decide) ?_
        refine lv_goto (tgt := 61) hx hb dX12_done_57 (by decide) ?_
        exact b_X12_done_B61 X I (lv_sub hl [0, 2] rfl) h hk
  · have h := sg_ift h z
    refine lv_iconst (v := -1) hx hb dX12_done_8 (by decide) ?_
    obtain rfl := Option.some.inj h
    exact hk _ _ _ _ _ I ⟨_, rfl, rfl⟩ dX12_done_9
set_option maxHeartbeats 4000000 in
set_option maxRecDepth 100000 in
theorem c_X12_done {l : Launch} {P : sgP} {N : Nat} {p1 : Int32} {σ : sgS} {q : Int32 × sgS} (h : f_X12_done N p1 σ = some q) : sg_Mi P shM 35 l yX12_done cX12_done 4 (some .int) 9 [.ref (sgA P 0), .int p1] σ q := by
  refine sg_mki (plainFor_of_name (by decide +kernel)) (Nat.le_of_ble_eq_true rfl) ?_
  intro p e R s m args below meth c Q A ls H locs X I hl hk
  exact b_X12_done X I hl h hk
def f_X12_reachBy_L18 (N : Nat) (p1 : Int32) (p2 : Int32) (x3 : Int32) (x4 : Int32) (x5 : Int32) (σ : sgS) : Option ((Int32) ⊕ ((Int32 × Int32 × Int32) ⊕ (Int32 × Int32))) :=
  if (σ.1 0 29) ≤ x5 then
  (some (.inr (.inr (x3, x4))))
else
  (sg_cr (f_X12_has N p2 x5 σ) fun v1 =>
  if v1 = 0 then
    (some (.inr (.inl (x3, x4, x5 + 1))))
  else
    (sg_cr (f_X12_of N x5 0 σ) fun v2 =>
    sg_cr (f_X12_has N x3 v2 σ) fun v3 =>
    sg_cr (f_X12_of N x5 1 σ) fun v4 =>
    sg_cr (f_X12_has N x3 v4 σ) fun v5 =>
    if v3 = v5 then
      (some (.inr (.inl (x3, x4, x5 + 1))))
    else
      (sg_cr (f_X12_of N x5 0 σ) fun v6 =>
      sg_cr (f_X12_of N x5 1 σ) fun v7 =>
      some (.inr (.inl (x3 ||| ((1 <<< (v6 &&& 31)) ||| (1 <<< (v7 &&& 31))), 1, x5 + 1))))))
set_option maxHeartbeats 4000000 in
set_option maxRecDepth 100000 in
theorem b_X12_reachBy_L18 {p : Program} {l : Launch} {e : Env} {R : Room} {s : State} {m : MethodId} {args : Array Value} {below : List Frame} {meth : Method} {c : Code} {Q : State → Prop} {P : sgP} {A : Nat → Prop} {N : Nat} {p1 : Int32} {p2 : Int32} {x3 : Int32} {x4 : Int32} {x5 : Int32} {σ : sgS} (X : sg_C P A 2 p R s m args c cX12_reachBy 6 RX12) {H : Heap} {locs : List Loc} (I : sg_I P shM 35 A s.heap σ H locs) {ls : Array Slot} (hl : lv_has ls 6 [(0, .ref (sgA P 0)), (2, .int p2), (3, .int x3), (4, .int x4), (5, .int x5)]) {st : (Int32) ⊕ ((Int32 × Int32 × Int32) ⊕ (Int32 × Int32))} (h : f_X12_reachBy_L18 N p1 p2 x3 x4 x5 σ = some st) (hk : sg_k3 (fun r => sg_Ri p l e R s m args below meth c Q P shM 35 A cX12_reachBy (some .int) (r, σ)) (fun x => sg_Wt p l e R s m args below meth c Q P shM 35 A 6 18 σ [(0, .ref (sgA P 0)), (2, .int p2), (3, .int x.1), (4, .int x.2.1), (5, .int x.2.2)]) (fun y => sg_Wt p l e R s m args below meth c Q P shM 35 A 6 92 σ [(0, .ref (sgA P 0)), (2, .int p2), (3, .int y.1), (4, .int y.2)]) st) : W p l e R s m args below meth c H locs 0 0 Q (F0 m 18 ls []) := by
  unfold f_X12_reachBy_L18 at h
  have hx := X.1.1
  have hb := X.1.2.1
  have hown := X.1.2.2.2.1
  have hts := X.1.2.2.2.2
  refine lv_iload hx hb dX12_reachBy_18 (lv_at hl 4 rfl) ?_
  refine lv_aload_n hx hb dX12_reachBy_20 rfl (lv_at hl 0 rfl) ?_
  refine sg_geti X I fk_X12_291 (by decide) shM_0 rfl dX12_reachBy_21 ?_
  refine lv_icmp_ge (tgt := 92) hx hb dX12_reachBy_24 (by decide) (fun z => ?_) (fun z => ?_)
  · have h := sg_ift h z
    obtain rfl := Option.some.inj h
    exact sg_go hk I (lv_sub hl [0, 1, 2, 3] rfl)
  · have h := sg_iff h z
    refine lv_iload_n hx hb dX12_reachBy_27 rfl (lv_at hl 1 rfl) ?_
    refine lv_iload hx hb dX12_reachBy_28 (lv_at hl 4 rfl) ?_
    refine sg_callSr (As := [.int p2, .int x5]) X I mk_X12_246 (by decide) (fun q9 e9 => c_X12_has e9) h hl.1 rfl rfl (Nat.le_of_ble_eq_true rfl) dX12_reachBy_30 (fun v1 H locs h I => ?_)
    refine lv_if_eq (tgt := 86) hx hb dX12_reachBy_33 (by decide) (fun z => ?_) (fun z => ?_)
    · have h := sg_ift h z
      refine lv_iinc (v := x5 + 1) (lv' := [(5, .int (x5 + 1)), (0, .ref (sgA P 0)), (2, .int p2), (3, .int x3), (4, .int x4)]) hx hb dX12_reachBy_86 hl (k := 4) rfl rfl (by decide) rfl (fun ls hl => ?_)
      refine lv_goto (tgt := 18) hx hb dX12_reachBy_89 (by decide) ?_
      obtain rfl := Option.some.inj h
      exact sg_go hk I (lv_sub hl [1, 2, 3, 4, 0] rfl)
    · have h := sg_iff h z
      refine lv_iload_n hx hb dX12_reachBy_36 rfl (lv_at hl 2 rfl) ?_
      refine lv_aload_n hx hb dX12_reachBy_37 rfl (lv_at hl 0 rfl) ?_
      refine lv_iload hx hb dX12_reachBy_38 (lv_at hl 4 rfl) ?_
      refine lv_iconst (v := 0) hx hb dX12_reachBy_40 (by decide) ?_
      refine sg_callVr (As := [.int x5, .int 0]) X I mk_X12_316 (by decide) (by decide) shM_0 rfl (fun q9 e9 => c_X12_of e9) h hl.1 rfl rfl (Nat.le_of_ble_eq_true rfl) dX12_reachBy_41 (fun v2 H locs h I => ?_)
      refine sg_callSr (As := [.int x3, .int v2]) X I mk_X12_246 (by decide) (fun q9 e9 => c_X12_has e9) h hl.1 rfl rfl (Nat.le_of_ble_eq_true rfl) dX12_reachBy_44 (fun v3 H locs h I => ?_)
      refine lv_iload_n hx hb dX12_reachBy_47 rfl (lv_at hl 2 rfl) ?_
      refine lv_aload_n hx hb dX12_reachBy_48 rfl (lv_at hl 0 rfl) ?_
      refine lv_iload hx hb dX12_reachBy_49 (lv_at hl 4 rfl) ?_
      refine lv_iconst (v := 1) hx hb dX12_reachBy_51 (by decide) ?_
      refine sg_callVr (As := [.int x5, .int 1]) X I mk_X12_316 (by decide) (by decide) shM_0 rfl (fun q9 e9 => c_X12_of e9) h hl.1 rfl rfl (Nat.le_of_ble_eq_true rfl) dX12_reachBy_52 (fun v4 H locs h I => ?_)
      refine sg_callSr (As := [.int x3, .int v4]) X I mk_X12_246 (by decide) (fun q9 e9 => c_X12_has e9) h hl.1 rfl rfl (Nat.le_of_ble_eq_true rfl) dX12_reachBy_55 (fun v5 H locs h I => ?_)
      refine lv_icmp_eq (tgt := 86) hx hb dX12_reachBy_58 (by decide) (fun z => ?_) (fun z => ?_)
      · have h := sg_ift h z
        refine lv_iinc (v := x5 + 1) (lv' := [(5, .int (x5 + 1)), (0, .ref (sgA P 0)), (2, .int p2), (3, .int x3), (4, .int x4)]) hx hb dX12_reachBy_86 hl (k := 4) rfl rfl (by decide) rfl (fun ls hl => ?_)
        refine lv_goto (tgt := 18) hx hb dX12_reachBy_89 (by decide) ?_
        obtain rfl := Option.some.inj h
        exact sg_go hk I (lv_sub hl [1, 2, 3, 4, 0] rfl)
      · have h := sg_iff h z
        refine lv_iload_n hx hb dX12_reachBy_61 rfl (lv_at hl 2 rfl) ?_
        refine lv_iconst (v := 1) hx hb dX12_reachBy_62 (by decide) ?_
        refine lv_aload_n hx hb dX12_reachBy_63 rfl (lv_at hl 0 rfl) ?_
        refine lv_iload hx hb dX12_reachBy_64 (lv_at hl 4 rfl) ?_
        refine lv_iconst (v := 0) hx hb dX12_reachBy_66 (by decide) ?_
        refine sg_callVr (As := [.int x5, .int 0]) X I mk_X12_316 (by decide) (by decide) shM_0 rfl (fun q9 e9 => c_X12_of e9) h hl.1 rfl rfl (Nat.le_of_ble_eq_true rfl) dX12_reachBy_67 (fun v6 H locs h I => ?_)
        refine lv_ishl hx hb dX12_reachBy_70 ?_
        refine lv_iconst (v := 1) hx hb dX12_reachBy_71 (by decide) ?_
        refine lv_aload_n hx hb dX12_reachBy_72 rfl (lv_at hl 0 rfl) ?_
        refine lv_iload hx hb dX12_reachBy_73 (lv_at hl 4 rfl) ?_
        refine lv_iconst (v := 1) hx hb dX12_reachBy_75 (by decide) ?_
        refine sg_callVr (As := [.int x5, .int 1]) X I mk_X12_316 (by decide) (by decide) shM_0 rfl (fun q9 e9 => c_X12_of e9) h hl.1 rfl rfl (Nat.le_of_ble_eq_true rfl) dX12_reachBy_76 (fun v7 H locs h I => ?_)
        refine lv_ishl hx hb dX12_reachBy_79 ?_
        refine lv_ior hx hb dX12_reachBy_80 ?_
        refine lv_ior hx hb dX12_reachBy_81 ?_
        refine lv_istore_n (lv' := [(3, .int (x3 ||| ((1 <<< (v6 &&& 31)) ||| (1 <<< (v7 &&& 31))))), (0, .ref (sgA P 0)), (2, .int p2), (4, .int x4), (5, .int x5)]) hx hb dX12_reachBy_82 rfl hl (by decide) rfl (fun ls hl => ?_)
        refine lv_iconst (v := 1) hx hb dX12_reachBy_83 (by decide) ?_
        refine lv_istore (lv' := [(4, .int 1), (3, .int (x3 ||| ((1 <<< (v6 &&& 31)) ||| (1 <<< (v7 &&& 31))))), (0, .ref (sgA P 0)), (2, .int p2), (5, .int x5)]) hx hb dX12_reachBy_84 hl (by decide) rfl (fun ls hl => ?_)
        refine lv_iinc (v := x5 + 1) (lv' := [(5, .int (x5 + 1)), (4, .int 1), (3, .int (x3 ||| ((1 <<< (v6 &&& 31)) ||| (1 <<< (v7 &&& 31))))), (0, .ref (sgA P 0)), (2, .int p2)]) hx hb dX12_reachBy_86 hl (k := 4) rfl rfl (by decide) rfl (fun ls hl => ?_)
        refine lv_goto (tgt := 18) hx hb dX12_reachBy_89 (by decide) ?_
        obtain rfl := Option.some.inj h
        exact sg_go hk I (lv_sub hl [3, 4, 2, 1, 0] rfl)
def f_X12_reachBy_L7 (N : Nat) (p1 : Int32) (p2 : Int32) (x3 : Int32) (x4 : Int32) (σ : sgS) : Option ((Int32) ⊕ ((Int32 × Int32) ⊕ (Int32))) :=
  if x4 = 0 then
  (some (.inr (.inr x3)))
else
  (sg_lb (sg_lp (fun x => f_X12_reachBy_L18 N p1 p2 x.1 x.2.1 x.2.2 σ) N ((x3, 0, 0))) (fun r => some (.inl r)) fun y8 =>
  some (.inr (.inl (y8.1, y8.2))))
set_option maxHeartbeats 4000000 in
set_option maxRecDepth 100000 in
theorem b_X12_reachBy_L7 {p : Program} {l : Launch} {e : Env} {R : Room} {s : State} {m : MethodId} {args : Array Value} {below : List Frame} {meth : Method} {c : Code} {Q : State → Prop} {P : sgP} {A : Nat → Prop} {N : Nat} {p1 : Int32} {p2 : Int32} {x3 : Int32} {x4 : Int32} {σ : sgS} (X : sg_C P A 2 p R s m args c cX12_reachBy 6 RX12) {H : Heap} {locs : List Loc} (I : sg_I P shM 35 A s.heap σ H locs) {ls : Array Slot} (hl : lv_has ls 6 [(0, .ref (sgA P 0)), (2, .int p2), (3, .int x3), (4, .int x4)]) {st : (Int32) ⊕ ((Int32 × Int32) ⊕ (Int32))} (h : f_X12_reachBy_L7 N p1 p2 x3 x4 σ = some st) (hk : sg_k3 (fun r => sg_Ri p l e R s m args below meth c Q P shM 35 A cX12_reachBy (some .int) (r, σ)) (fun x => sg_Wt p l e R s m args below meth c Q P shM 35 A 6 7 σ [(0, .ref (sgA P 0)), (2, .int p2), (3, .int x.1), (4, .int x.2)]) (fun y => sg_Wt p l e R s m args below meth c Q P shM 35 A 6 95 σ [(3, .int y)]) st) : W p l e R s m args below meth c H locs 0 0 Q (F0 m 7 ls []) := by
  unfold f_X12_reachBy_L7 at h
  have hx := X.1.1
  have hb := X.1.2.1
  have hown := X.1.2.2.2.1
  have hts := X.1.2.2.2.2
  refine lv_iload hx hb dX12_reachBy_7 (lv_at hl 3 rfl) ?_
  refine lv_if_eq (tgt := 95) hx hb dX12_reachBy_9 (by decide) (fun z => ?_) (fun z => ?_)
  · have h := sg_ift h z
    obtain rfl := Option.some.inj h
    exact sg_go hk I (lv_sub hl [2] rfl)
  · have h := sg_iff h z
    refine lv_iconst (v := 0) hx hb dX12_reachBy_12 (by decide) ?_
    refine lv_istore (lv' := [(4, .int 0), (0, .ref (sgA P 0)), (2, .int p2), (3, .int x3)]) hx hb dX12_reachBy_13 hl (by decide) rfl (fun ls hl => ?_)
    refine lv_iconst (v := 0) hx hb dX12_reachBy_15 (by decide) ?_
    refine lv_istore (lv' := [(5, .int 0), (4, .int 0), (0, .ref (sgA P 0)), (2, .int p2), (3, .int x3)]) hx hb dX12_reachBy_16 hl (by decide) rfl (fun ls hl => ?_)
    obtain ⟨res, e9, k9⟩ := sg_lb_some h
    refine sg_go (sg_lp_W (a := (fun r => sg_Ri p l e R s m args below meth c Q P shM 35 A cX12_reachBy (some .int) (r, σ))) (w := (fun x => sg_Wt p l e R s m args below meth c Q P shM 35 A 6 18 σ [(0, .ref (sgA P 0)), (2, .int p2), (3, .int x.1), (4, .int x.2.1), (5, .int x.2.2)])) (c := (fun y => sg_Wt p l e R s m args below meth c Q P shM 35 A 6 92 σ [(0, .ref (sgA P 0)), (2, .int p2), (3, .int y.1), (4, .int y.2)])) (fun x st hb9 hk9 => ?_) N ((x3, 0, 0)) res e9 (sg_k2_mono k9 (fun r h => ?_) (fun y8 h => ?_))) I (lv_sub hl [2, 3, 4, 1, 0] rfl)
    · intro H locs ls I hl
      exact b_X12_reachBy_L18 X I hl hb9 hk9
    · obtain rfl := Option.some.inj h
      exact hk
    · intro H locs ls I hl
      refine lv_goto (tgt := 7) hx hb dX12_reachBy_92 (by decide) ?_
      obtain rfl := Option.some.inj h
      exact sg_go hk I (lv_sub hl [0, 1, 2, 3] rfl)
def f_X12_reachBy (N : Nat) (p1 : Int32) (p2 : Int32) (σ : sgS) : Option (Int32) :=
  sg_lb (sg_lp (fun x => f_X12_reachBy_L7 N p1 p2 x.1 x.2 σ) N ((1 <<< (p1 &&& 31), 1))) (fun r => some r) fun y9 =>
some y9
set_option maxHeartbeats 4000000 in
set_option maxRecDepth 100000 in
theorem b_X12_reachBy {p : Program} {l : Launch} {e : Env} {R : Room} {s : State} {m : MethodId} {args : Array Value} {below : List Frame} {meth : Method} {c : Code} {Q : State → Prop} {P : sgP} {A : Nat → Prop} {N : Nat} {p1 : Int32} {p2 : Int32} {σ : sgS} (X : sg_C P A 2 p R s m args c cX12_reachBy 6 RX12) {H : Heap} {locs : List Loc} (I : sg_I P shM 35 A s.heap σ H locs) {ls : Array Slot} (hl : lv_has ls 6 [(0, .ref (sgA P 0)), (1, .int p1), (2, .int p2)]) {st : Int32} (h : f_X12_reachBy N p1 p2 σ = some st) (hk : sg_Ri p l e R s m args below meth c Q P shM 35 A cX12_reachBy (some .int) (st, σ)) : W p l e R s m args below meth c H locs 0 0 Q (F0 m 0 ls []) := by
  unfold f_X12_reachBy at h
  have hx := X.1.1
  have hb := X.1.2.1
  have hown := X.1.2.2.2.1
  have hts := X.1.2.2.2.2
  refine lv_iconst (v := 1) hx hb dX12_reachBy_0 (by decide) ?_
  refine lv_iload_n hx hb dX12_reachBy_1 rfl (lv_at hl 1 rfl) ?_
  refine lv_ishl hx hb dX12_reachBy_2 ?_
  refine lv_istore_n (lv' := [(3, .int (1 <<< (p1 &&& 31))), (0, .ref (sgA P 0)), (1, .int p1), (2, .int p2)]) hx hb dX12_reachBy_3 rfl hl (by decide) rfl (fun ls hl => ?_)
  refine lv_iconst (v := 1) hx hb dX12_reachBy_4 (by decide) ?_
  refine lv_istore (lv' := [(4, .int 1), (3, .int (1 <<< (p1 &&& 31))), (0, .ref (sgA P 0)), (1, .int p1), (2, .int p2)]) hx hb dX12_reachBy_5 hl (by decide) rfl (fun ls hl => ?_)
  obtain ⟨res, e9, k9⟩ := sg_lb_some h
  refine sg_go (sg_lp_W (a := (fun r => sg_Ri p l e R s m args below meth c Q P shM 35 A cX12_reachBy (some .int) (r, σ))) (w := (fun x => sg_Wt p l e R s m args below meth c Q P shM 35 A 6 7 σ [(0, .ref (sgA P 0)), (2, .int p2), (3, .int x.1), (4, .int x.2)])) (c := (fun y => sg_Wt p l e R s m args below meth c Q P shM 35 A 6 95 σ [(3, .int y)])) (fun x st hb9 hk9 => ?_) N ((1 <<< (p1 &&& 31), 1)) res e9 (sg_k2_mono k9 (fun r h => ?_) (fun y9 h => ?_))) I (lv_sub hl [2, 4, 1, 0] rfl)
  · intro H locs ls I hl
    exact b_X12_reachBy_L7 X I hl hb9 hk9
  · obtain rfl := Option.some.inj h
    exact hk
  · intro H locs ls I hl
    refine lv_iload_n hx hb dX12_reachBy_95 rfl (lv_at hl 0 rfl) ?_
    obtain rfl := Option.some.inj h
    exact hk _ _ _ _ _ I ⟨_, rfl, rfl⟩ dX12_reachBy_96
set_option maxHeartbeats 4000000 in
set_option maxRecDepth 100000 in
theorem c_X12_reachBy {l : Launch} {P : sgP} {N : Nat} {p1 : Int32} {p2 : Int32} {σ : sgS} {q : Int32} (h : f_X12_reachBy N p1 p2 σ = some q) : sg_Mi P shM 35 l yX12_reachBy cX12_reachBy 6 (some .int) 2 [.ref (sgA P 0), .int p1, .int p2] σ (q, σ) := by
  refine sg_mki (plainFor_of_name (by decide +kernel)) (Nat.le_of_ble_eq_true rfl) ?_
  intro p e R s m args below meth c Q A ls H locs X I hl hk
  exact b_X12_reachBy X I hl h hk
def f_X12_openOnes (N : Nat) (σ : sgS) : Option (Int32) :=
  sg_ld σ 21 215 31 fun v1 =>
some (((1 <<< ((σ.1 0 29) &&& 31)) - 1) &&& (v1 ^^^ ((-1))))
set_option maxHeartbeats 4000000 in
set_option maxRecDepth 100000 in
theorem b_X12_openOnes {p : Program} {l : Launch} {e : Env} {R : Room} {s : State} {m : MethodId} {args : Array Value} {below : List Frame} {meth : Method} {c : Code} {Q : State → Prop} {P : sgP} {A : Nat → Prop} {N : Nat} {σ : sgS} (X : sg_C P A 1 p R s m args c cX12_openOnes 1 RX12) {H : Heap} {locs : List Loc} (I : sg_I P shM 35 A s.heap σ H locs) {ls : Array Slot} (hl : lv_has ls 1 [(0, .ref (sgA P 0))]) {st : Int32} (h : f_X12_openOnes N σ = some st) (hk : sg_Ri p l e R s m args below meth c Q P shM 35 A cX12_openOnes (some .int) (st, σ)) : W p l e R s m args below meth c H locs 0 0 Q (F0 m 0 ls []) := by
  unfold f_X12_openOnes at h
  have hx := X.1.1
  have hb := X.1.2.1
  have hown := X.1.2.2.2.1
  have hts := X.1.2.2.2.2
  refine lv_iconst (v := 1) hx hb dX12_openOnes_0 (by decide) ?_
  refine lv_aload_n hx hb dX12_openOnes_1 rfl (lv_at hl 0 rfl) ?_
  refine sg_geti X I fk_X12_291 (by decide) shM_0 rfl dX12_openOnes_2 ?_
  refine lv_ishl hx hb dX12_openOnes_5 ?_
  refine lv_iconst (v := 1) hx hb dX12_openOnes_6 (by decide) ?_
  refine lv_isub hx hb dX12_openOnes_7 ?_
  refine lv_aload_n hx hb dX12_openOnes_8 rfl (lv_at hl 0 rfl) ?_
  refine sg_getr X I fk_X12_70 (j := 21) (by decide) shM_0 rfl dX12_openOnes_9 ?_
  refine lv_bipush (v := 31) hx hb dX12_openOnes_12 (by decide) ?_
  refine sg_iald X I (by decide) shM_21 h dX12_openOnes_14 (fun v1 h => ?_)
  refine lv_iconst (v := -1) hx hb dX12_openOnes_15 (by decide) ?_
  refine lv_ixor hx hb dX12_openOnes_16 ?_
  refine lv_iand hx hb dX12_openOnes_17 ?_
  obtain rfl := Option.some.inj h
  exact hk _ _ _ _ _ I ⟨_, rfl, rfl⟩ dX12_openOnes_18
set_option maxHeartbeats 4000000 in
set_option maxRecDepth 100000 in
theorem c_X12_openOnes {l : Launch} {P : sgP} {N : Nat} {σ : sgS} {q : Int32} (h : f_X12_openOnes N σ = some q) : sg_Mi P shM 35 l yX12_openOnes cX12_openOnes 1 (some .int) 1 [.ref (sgA P 0)] σ (q, σ) := by
  refine sg_mki (plainFor_of_name (by decide +kernel)) (Nat.le_of_ble_eq_true rfl) ?_
  intro p e R s m args below meth c Q A ls H locs X I hl hk
  exact b_X12_openOnes X I hl h hk
def f_X12_areTwo (N : Nat) (p1 : Int32) (p2 : Int32) (σ : sgS) : Option (Int32) :=
  sg_cr (f_X12_isPlace N p1 σ) fun v1 =>
if v1 = 0 then
  (some (vp_nar .boolean 0))
else
  (sg_cr (f_X12_isPlace N p2 σ) fun v2 =>
  if v2 = 0 then
    (some (vp_nar .boolean 0))
  else
    (if p1 = p2 then
      (some (vp_nar .boolean 0))
    else
      (some (vp_nar .boolean 1))))
set_option maxHeartbeats 4000000 in
set_option maxRecDepth 100000 in
theorem b_X12_areTwo {p : Program} {l : Launch} {e : Env} {R : Room} {s : State} {m : MethodId} {args : Array Value} {below : List Frame} {meth : Method} {c : Code} {Q : State → Prop} {P : sgP} {A : Nat → Prop} {N : Nat} {p1 : Int32} {p2 : Int32} {σ : sgS} (X : sg_C P A 3 p R s m args c cX12_areTwo 3 RX12) {H : Heap} {locs : List Loc} (I : sg_I P shM 35 A s.heap σ H locs) {ls : Array Slot} (hl : lv_has ls 3 [(0, .ref (sgA P 0)), (1, .int p1), (2, .int p2)]) {st : Int32} (h : f_X12_areTwo N p1 p2 σ = some st) (hk : sg_Ri p l e R s m args below meth c Q P shM 35 A cX12_areTwo (some .boolean) (st, σ)) : W p l e R s m args below meth c H locs 0 0 Q (F0 m 0 ls []) := by
  unfold f_X12_areTwo at h
  have hx := X.1.1
  have hb := X.1.2.1
  have hown := X.1.2.2.2.1
  have hts := X.1.2.2.2.2
  refine lv_aload_n hx hb dX12_areTwo_0 rfl (lv_at hl 0 rfl) ?_
  refine lv_iload_n hx hb dX12_areTwo_1 rfl (lv_at hl 1 rfl) ?_
  refine sg_callVr (As := [.int p1]) X I mk_X12_373 (by decide) (by decide) shM_0 rfl (fun q9 e9 => c_X12_isPlace e9) h hl.1 rfl rfl (Nat.le_of_ble_eq_true rfl) dX12_areTwo_2 (fun v1 H locs h I => ?_)
  refine lv_if_eq (tgt := 25) hx hb dX12_areTwo_5 (by decide) (fun z => ?_) (fun z => ?_)
  · have h := sg_ift h z
    refine lv_iconst (v := 0) hx hb dX12_areTwo_25 (by decide) ?_
    obtain rfl := Option.some.inj h
    exact hk _ _ _ _ _ I ⟨_, rfl, rfl⟩ dX12_areTwo_26
  · have h := sg_iff h z
    refine lv_aload_n hx hb dX12_areTwo_8 rfl (lv_at hl 0 rfl) ?_
    refine lv_iload_n hx hb dX12_areTwo_9 rfl (lv_at hl 2 rfl) ?_
    refine sg_callVr (As := [.int p2]) X I mk_X12_373 (by decide) (by decide) shM_0 rfl (fun q9 e9 => c_X12_isPlace e9) h hl.1 rfl rfl (Nat.le_of_ble_eq_true rfl) dX12_areTwo_10 (fun v2 H locs h I => ?_)
    refine lv_if_eq (tgt := 25) hx hb dX12_areTwo_13 (by decide) (fun z => ?_) (fun z => ?_)
    · have h := sg_ift h z
      refine lv_iconst (v := 0) hx hb dX12_areTwo_25 (by decide) ?_
      obtain rfl := Option.some.inj h
      exact hk _ _ _ _ _ I ⟨_, rfl, rfl⟩ dX12_areTwo_26
    · have h := sg_iff h z
      refine lv_iload_n hx hb dX12_areTwo_16 rfl (lv_at hl 1 rfl) ?_
      refine lv_iload_n hx hb dX12_areTwo_17 rfl (lv_at hl 2 rfl) ?_
      refine lv_icmp_eq (tgt := 25) hx hb dX12_areTwo_18 (by decide) (fun z => ?_) (fun z => ?_)
      · have h := sg_ift h z
        refine lv_iconst (v := 0) hx hb dX12_areTwo_25 (by decide) ?_
        obtain rfl := Option.some.inj h
        exact hk _ _ _ _ _ I ⟨_, rfl, rfl⟩ dX12_areTwo_26
      · have h := sg_iff h z
        refine lv_iconst (v := 1) hx hb dX12_areTwo_21 (by decide) ?_
        refine lv_goto (tgt := 26) hx hb dX12_areTwo_22 (by decide) ?_
        obtain rfl := Option.some.inj h
        exact hk _ _ _ _ _ I ⟨_, rfl, rfl⟩ dX12_areTwo_26
set_option maxHeartbeats 4000000 in
set_option maxRecDepth 100000 in
theorem c_X12_areTwo {l : Launch} {P : sgP} {N : Nat} {p1 : Int32} {p2 : Int32} {σ : sgS} {q : Int32} (h : f_X12_areTwo N p1 p2 σ = some q) : sg_Mi P shM 35 l yX12_areTwo cX12_areTwo 3 (some .boolean) 3 [.ref (sgA P 0), .int p1, .int p2] σ (q, σ) := by
  refine sg_mki (plainFor_of_name (by decide +kernel)) (Nat.le_of_ble_eq_true rfl) ?_
  intro p e R s m args below meth c Q A ls H locs X I hl hk
  exact b_X12_areTwo X I hl h hk
def f_X12_fewestOf_L6_B50 (N : Nat) (p1 : Int32) (p2 : Int32) (p3 : Int32) (p4 : Int32) (u5 : Int32) (u6 : Int32) (k0 : Int32) (σ : sgS) : Option ((Int32) ⊕ ((Int32 × Int32) ⊕ (Int32))) :=
  if k0 = 0 then
  (some (.inr (.inl (u5, u6 + 1))))
else
  (sg_cr (f_X12_openOnes N σ) fun v1 =>
  sg_cr (f_X12_reachBy N p2 (v1 ^^^ u6) σ) fun v2 =>
  sg_cr (f_X12_has N v2 p3 σ) fun v3 =>
  if v3 = p4 then
    (some (.inr (.inl (u5, u6 + 1))))
  else
    (some (.inr (.inl (u6, u6 + 1)))))
set_option maxHeartbeats 4000000 in
set_option maxRecDepth 100000 in
theorem b_X12_fewestOf_L6_B50 {p : Program} {l : Launch} {e : Env} {R : Room} {s : State} {m : MethodId} {args : Array Value} {below : List Frame} {meth : Method} {c : Code} {Q : State → Prop} {P : sgP} {A : Nat → Prop} {N : Nat} {p1 : Int32} {p2 : Int32} {p3 : Int32} {p4 : Int32} {u5 : Int32} {u6 : Int32} {k0 : Int32} {σ : sgS} (X : sg_C P A 3 p R s m args c cX12_fewestOf 8 RX12) {H : Heap} {locs : List Loc} (I : sg_I P shM 35 A s.heap σ H locs) {ls : Array Slot} (hl : lv_has ls 8 [(0, .ref (sgA P 0)), (1, .int p1), (2, .int p2), (3, .int p3), (4, .int p4), (5, .int u5), (6, .int u6)]) {st : (Int32) ⊕ ((Int32 × Int32) ⊕ (Int32))} (h : f_X12_fewestOf_L6_B50 N p1 p2 p3 p4 u5 u6 k0 σ = some st) (hk : sg_k3 (fun r => sg_Ri p l e R s m args below meth c Q P shM 35 A cX12_fewestOf (some .int) (r, σ)) (fun x => sg_Wt p l e R s m args below meth c Q P shM 35 A 8 6 σ [(0, .ref (sgA P 0)), (1, .int p1), (2, .int p2), (3, .int p3), (4, .int p4), (5, .int x.1), (6, .int x.2)]) (fun y => sg_Wt p l e R s m args below meth c Q P shM 35 A 8 88 σ [(5, .int y)]) st) : W p l e R s m args below meth c H locs 0 0 Q (F0 m 50 ls [.int k0]) := by
  unfold f_X12_fewestOf_L6_B50 at h
  have hx := X.1.1
  have hb := X.1.2.1
  have hown := X.1.2.2.2.1
  have hts := X.1.2.2.2.2
  refine lv_istore (lv' := [(7, .int k0), (0, .ref (sgA P 0)), (1, .int p1), (2, .int p2), (3, .int p3), (4, .int p4), (5, .int u5), (6, .int u6)]) hx hb dX12_fewestOf_50 hl (by decide) rfl (fun ls hl => ?_)
  refine lv_iload hx hb dX12_fewestOf_52 (lv_at hl 0 rfl) ?_
  refine lv_if_eq (tgt := 82) hx hb dX12_fewestOf_54 (by decide) (fun z => ?_) (fun z => ?_)
  · have h := sg_ift h z
    refine lv_iinc (v := u6 + 1) (lv' := [(6, .int (u6 + 1)), (7, .int k0), (0, .ref (sgA P 0)), (1, .int p1), (2, .int p2), (3, .int p3), (4, .int p4), (5, .int u5)]) hx hb dX12_fewestOf_82 hl (k := 7) rfl rfl (by decide) rfl (fun ls hl => ?_)
    refine lv_goto (tgt := 6) hx hb dX12_fewestOf_85 (by decide) ?_
    obtain rfl := Option.some.inj h
    exact sg_go hk I (lv_sub hl [2, 3, 4, 5, 6, 7, 0] rfl)
  · have h := sg_iff h z
    refine lv_aload_n hx hb dX12_fewestOf_57 rfl (lv_at hl 1 rfl) ?_
    refine lv_iload_n hx hb dX12_fewestOf_58 rfl (lv_at hl 3 rfl) ?_
    refine lv_aload_n hx hb dX12_fewestOf_59 rfl (lv_at hl 1 rfl) ?_
    refine sg_callVr (As := []) X I mk_X12_437 (by decide) (by decide) shM_0 rfl (fun q9 e9 => c_X12_openOnes e9) h hl.1 rfl rfl (Nat.le_of_ble_eq_true rfl) dX12_fewestOf_60 (fun v1 H locs h I => ?_)
    refine lv_iload hx hb dX12_fewestOf_63 (lv_at hl 7 rfl) ?_
    refine lv_ixor hx hb dX12_fewestOf_65 ?_
    refine sg_callVr (As := [.int p2, .int (v1 ^^^ u6)]) X I mk_X12_440 (by decide) (by decide) shM_0 rfl (fun q9 e9 => c_X12_reachBy e9) h hl.1 rfl rfl (Nat.le_of_ble_eq_true rfl) dX12_fewestOf_66 (fun v2 H locs h I => ?_)
    refine lv_iload_n hx hb dX12_fewestOf_69 rfl (lv_at hl 4 rfl) ?_
    refine sg_callSr (As := [.int v2, .int p3]) X I mk_X12_246 (by decide) (fun q9 e9 => c_X12_has e9) h hl.1 rfl rfl (Nat.le_of_ble_eq_true rfl) dX12_fewestOf_70 (fun v3 H locs h I => ?_)
    refine lv_iload hx hb dX12_fewestOf_73 (lv_at hl 5 rfl) ?_
    refine lv_icmp_eq (tgt := 82) hx hb dX12_fewestOf_75 (by decide) (fun z => ?_) (fun z => ?_)
    · have h := sg_ift h z
      refine lv_iinc (v := u6 + 1) (lv' := [(6, .int (u6 + 1)), (7, .int k0), (0, .ref (sgA P 0)), (1, .int p1), (2, .int p2), (3, .int p3), (4, .int p4), (5, .int u5)]) hx hb dX12_fewestOf_82 hl (k := 7) rfl rfl (by decide) rfl (fun ls hl => ?_)
      refine lv_goto (tgt := 6) hx hb dX12_fewestOf_85 (by decide) ?_
      obtain rfl := Option.some.inj h
      exact sg_go hk I (lv_sub hl [2, 3, 4, 5, 6, 7, 0] rfl)
    · have h := sg_iff h z
      refine lv_iload hx hb dX12_fewestOf_78 (lv_at hl 7 rfl) ?_
      refine lv_istore (lv' := [(5, .int u6), (7, .int k0), (0, .ref (sgA P 0)), (1, .int p1), (2, .int p2), (3, .int p3), (4, .int p4), (6, .int u6)]) hx hb dX12_fewestOf_80 hl (by decide) rfl (fun ls hl => ?_)
      refine lv_iinc (v := u6 + 1) (lv' := [(6, .int (u6 + 1)), (5, .int u6), (7, .int k0), (0, .ref (sgA P 0)), (1, .int p1), (2, .int p2), (3, .int p3), (4, .int p4)]) hx hb dX12_fewestOf_82 hl (k := 7) rfl rfl (by decide) rfl (fun ls hl => ?_)
      refine lv_goto (tgt := 6) hx hb dX12_fewestOf_85 (by decide) ?_
      obtain rfl := Option.some.inj h
      exact sg_go hk I (lv_sub hl [3, 4, 5, 6, 7, 1, 0] rfl)
def f_X12_fewestOf_L6 (N : Nat) (p1 : Int32) (p2 : Int32) (p3 : Int32) (p4 : Int32) (x5 : Int32) (x6 : Int32) (σ : sgS) : Option ((Int32) ⊕ ((Int32 × Int32) ⊕ (Int32))) :=
  if (1 <<< ((σ.1 0 29) &&& 31)) ≤ x6 then
  (some (.inr (.inr x5)))
else
  (if (x6 &&& (p1 ^^^ ((-1)))) = 0 then
    (if x5 = ((-1)) then
      (f_X12_fewestOf_L6_B50 N p1 p2 p3 p4 x5 x6 1 σ)
    else
      (sg_cr (f_J6_bitCount_0f7a4 N x6 σ) fun v4 =>
      sg_cr (f_J6_bitCount_0f7a4 N x5 σ) fun v5 =>
      if v5 ≤ v4 then
        (f_X12_fewestOf_L6_B50 N p1 p2 p3 p4 x5 x6 0 σ)
      else
        (f_X12_fewestOf_L6_B50 N p1 p2 p3 p4 x5 x6 1 σ)))
  else
    (f_X12_fewestOf_L6_B50 N p1 p2 p3 p4 x5 x6 0 σ))
set_option maxHeartbeats 4000000 in
set_option maxRecDepth 100000 in
theorem b_X12_fewestOf_L6 {p : Program} {l : Launch} {e : Env} {R : Room} {s : State} {m : MethodId} {args : Array Value} {below : List Frame} {meth : Method} {c : Code} {Q : State → Prop} {P : sgP} {A : Nat → Prop} {N : Nat} {p1 : Int32} {p2 : Int32} {p3 : Int32} {p4 : Int32} {x5 : Int32} {x6 : Int32} {σ : sgS} (X : sg_C P A 3 p R s m args c cX12_fewestOf 8 RX12) {H : Heap} {locs : List Loc} (I : sg_I P shM 35 A s.heap σ H locs) {ls : Array Slot} (hl : lv_has ls 8 [(0, .ref (sgA P 0)), (1, .int p1), (2, .int p2), (3, .int p3), (4, .int p4), (5, .int x5), (6, .int x6)]) {st : (Int32) ⊕ ((Int32 × Int32) ⊕ (Int32))} (h : f_X12_fewestOf_L6 N p1 p2 p3 p4 x5 x6 σ = some st) (hk : sg_k3 (fun r => sg_Ri p l e R s m args below meth c Q P shM 35 A cX12_fewestOf (some .int) (r, σ)) (fun x => sg_Wt p l e R s m args below meth c Q P shM 35 A 8 6 σ [(0, .ref (sgA P 0)), (1, .int p1), (2, .int p2), (3, .int p3), (4, .int p4), (5, .int x.1), (6, .int x.2)]) (fun y => sg_Wt p l e R s m args below meth c Q P shM 35 A 8 88 σ [(5, .int y)]) st) : W p l e R s m args below meth c H locs 0 0 Q (F0 m 6 ls []) := by
  unfold f_X12_fewestOf_L6 at h
  have hx := X.1.1
  have hb := X.1.2.1
  have hown := X.1.2.2.2.1
  have hts := X.1.2.2.2.2
  refine lv_iload hx hb dX12_fewestOf_6 (lv_at hl 6 rfl) ?_
  refine lv_iconst (v := 1) hx hb dX12_fewestOf_8 (by decide) ?_
  refine lv_aload_n hx hb dX12_fewestOf_9 rfl (lv_at hl 0 rfl) ?_
  refine sg_geti X I fk_X12_291 (by decide) shM_0 rfl dX12_fewestOf_10 ?_
  refine lv_ishl hx hb dX12_fewestOf_13 ?_
  refine lv_icmp_ge (tgt := 88) hx hb dX12_fewestOf_14 (by decide) (fun z => ?_) (fun z => ?_)
  · have h := sg_ift h z
    obtain rfl := Option.some.inj h
    exact sg_go hk I (lv_sub hl [5] rfl)
  · have h := sg_iff h z
    refine lv_iload hx hb dX12_fewestOf_17 (lv_at hl 6 rfl) ?_
    refine lv_iload_n hx hb dX12_fewestOf_19 rfl (lv_at hl 1 rfl) ?_
    refine lv_iconst (v := -1) hx hb dX12_fewestOf_20 (by decide) ?_
    refine lv_ixor hx hb dX12_fewestOf_21 ?_
    refine lv_iand hx hb dX12_fewestOf_22 ?_
    refine lv_if_ne (tgt := 49) hx hb dX12_fewestOf_23 (by decide) (fun z => ?_) (fun z => ?_)
    · have h := sg_iff h z
      refine lv_iconst (v := 0) hx hb dX12_fewestOf_49 (by decide) ?_
      exact b_X12_fewestOf_L6_B50 X I (lv_sub hl [0, 1, 2, 3, 4, 5, 6] rfl) h hk
    · have h := sg_ift h z
      refine lv_iload hx hb dX12_fewestOf_26 (lv_at hl 5 rfl) ?_
      refine lv_iconst (v := -1) hx hb dX12_fewestOf_28 (by decide) ?_
      refine lv_icmp_eq (tgt := 45) hx hb dX12_fewestOf_29 (by decide) (fun z => ?_) (fun z => ?_)
      · have h := sg_ift h z
        refine lv_iconst (v := 1) hx hb dX12_fewestOf_45 (by decide) ?_
        refine lv_goto (tgt := 50) hx hb dX12_fewestOf_46 (by decide) ?_
        exact b_X12_fewestOf_L6_B50 X I (lv_sub hl [0, 1, 2, 3, 4, 5, 6] rfl) h hk
      · have h := sg_iff h z
        refine lv_iload hx hb dX12_fewestOf_32 (lv_at hl 6 rfl) ?_
        refine sg_callSr (As := [.int x6]) X I mk_X12_319 (by decide) (fun q9 e9 => c_J6_bitCount_0f7a4 e9) h hl.1 rfl rfl (Nat.le_of_ble_eq_true rfl) dX12_fewestOf_34 (fun v4 H locs h I => ?_)
        refine lv_iload hx hb dX12_fewestOf_37 (lv_at hl 5 rfl) ?_
        refine sg_callSr (As := [.int x5]) X I mk_X12_319 (by decide) (fun q9 e9 => c_J6_bitCount_0f7a4 e9) h hl.1 rfl rfl (Nat.le_of_ble_eq_true rfl) dX12_fewestOf_39 (fun v5 H locs h I => ?_)
        refine lv_icmp_ge (tgt := 49) hx hb dX12_fewestOf_42 (by decide) (fun z => ?_) (fun z => ?_)
        · have h := sg_ift h z
          refine lv_iconst (v := 0) hx hb dX12_fewestOf_49 (by decide) ?_
          exact b_X12_fewestOf_L6_B50 X I (lv_sub hl [0, 1, 2, 3, 4, 5, 6] rfl) h hk
        · have h := sg_iff h z
          refine lv_iconst (v := 1) hx hb dX12_fewestOf_45 (by decide) ?_
          refine lv_goto (tgt := 50) hx hb dX12_fewestOf_46 (by decide) ?_
          exact b_X12_fewestOf_L6_B50 X I (lv_sub hl [0, 1, 2, 3, 4, 5, 6] rfl) h hk
def f_X12_fewestOf (N : Nat) (p1 : Int32) (p2 : Int32) (p3 : Int32) (p4 : Int32) (σ : sgS) : Option (Int32) :=
  sg_lb (sg_lp (fun x => f_X12_fewestOf_L6 N p1 p2 p3 p4 x.1 x.2 σ) N (((-1), 0))) (fun r => some r) fun y6 =>
some y6
set_option maxHeartbeats 4000000 in
set_option maxRecDepth 100000 in
theorem b_X12_fewestOf {p : Program} {l : Launch} {e : Env} {R : Room} {s : State} {m : MethodId} {args : Array Value} {below : List Frame} {meth : Method} {c : Code} {Q : State → Prop} {P : sgP} {A : Nat → Prop} {N : Nat} {p1 : Int32} {p2 : Int32} {p3 : Int32} {p4 : Int32} {σ : sgS} (X : sg_C P A 3 p R s m args c cX12_fewestOf 8 RX12) {H : Heap} {locs : List Loc} (I : sg_I P shM 35 A s.heap σ H locs) {ls : Array Slot} (hl : lv_has ls 8 [(0, .ref (sgA P 0)), (1, .int p1), (2, .int p2), (3, .int p3), (4, .int p4)]) {st : Int32} (h : f_X12_fewestOf N p1 p2 p3 p4 σ = some st) (hk : sg_Ri p l e R s m args below meth c Q P shM 35 A cX12_fewestOf (some .int) (st, σ)) : W p l e R s m args below meth c H locs 0 0 Q (F0 m 0 ls []) := by
  unfold f_X12_fewestOf at h
  have hx := X.1.1
  have hb := X.1.2.1
  have hown := X.1.2.2.2.1
  have hts := X.1.2.2.2.2
  refine lv_iconst (v := -1) hx hb dX12_fewestOf_0 (by decide) ?_
  refine lv_istore (lv' := [(5, .int ((-1))), (0, .ref (sgA P 0)), (1, .int p1), (2, .int p2), (3, .int p3), (4, .int p4)]) hx hb dX12_fewestOf_1 hl (by decide) rfl (fun ls hl => ?_)
  refine lv_iconst (v := 0) hx hb dX12_fewestOf_3 (by decide) ?_
  refine lv_istore (lv' := [(6, .int 0), (5, .int ((-1))), (0, .ref (sgA P 0)), (1, .int p1), (2, .int p2), (3, .int p3), (4, .int p4)]) hx hb dX12_fewestOf_4 hl (by decide) rfl (fun ls hl => ?_)
  obtain ⟨res, e9, k9⟩ := sg_lb_some h
  refine sg_go (sg_lp_W (a := (fun r => sg_Ri p l e R s m args below meth c Q P shM 35 A cX12_fewestOf (some .int) (r, σ))) (w := (fun x => sg_Wt p l e R s m args below meth c Q P shM 35 A 8 6 σ [(0, .ref (sgA P 0)), (1, .int p1), (2, .int p2), (3, .int p3), (4, .int p4), (5, .int x.1), (6, .int x.2)])) (c := (fun y => sg_Wt p l e R s m args below meth c Q P shM 35 A 8 88 σ [(5, .int y)])) (fun x st hb9 hk9 => ?_) N (((-1), 0)) res e9 (sg_k2_mono k9 (fun r h => ?_) (fun y6 h => ?_))) I (lv_sub hl [2, 3, 4, 5, 6, 1, 0] rfl)
  · intro H locs ls I hl
    exact b_X12_fewestOf_L6 X I hl hb9 hk9
  · obtain rfl := Option.some.inj h
    exact hk
  · intro H locs ls I hl
    refine lv_iload hx hb dX12_fewestOf_88 (lv_at hl 0 rfl) ?_
    obtain rfl := Option.some.inj h
    exact hk _ _ _ _ _ I ⟨_, rfl, rfl⟩ dX12_fewestOf_90
set_option maxHeartbeats 4000000 in
set_option maxRecDepth 100000 in
theorem c_X12_fewestOf {l : Launch} {P : sgP} {N : Nat} {p1 : Int32} {p2 : Int32} {p3 : Int32} {p4 : Int32} {σ : sgS} {q : Int32} (h : f_X12_fewestOf N p1 p2 p3 p4 σ = some q) : sg_Mi P shM 35 l yX12_fewestOf cX12_fewestOf 8 (some .int) 3 [.ref (sgA P 0), .int p1, .int p2, .int p3, .int p4] σ (q, σ) := by
  refine sg_mki (plainFor_of_name (by decide +kernel)) (Nat.le_of_ble_eq_true rfl) ?_
  intro p e R s m args below meth c Q A ls H locs X I hl hk
  exact b_X12_fewestOf X I hl h hk
def f_X12_parted (N : Nat) (p1 : Int32) (p2 : Int32) (σ : sgS) : Option (Int32) :=
  sg_cr (f_X12_areTwo N p1 p2 σ) fun v1 =>
if v1 = 0 then
  (some ((-1)))
else
  (sg_cr (f_X12_openOnes N σ) fun v2 =>
  sg_cr (f_X12_fewestOf N v2 p1 p2 1 σ) fun v3 =>
  some v3)
set_option maxHeartbeats 4000000 in
set_option maxRecDepth 100000 in
theorem b_X12_parted {p : Program} {l : Launch} {e : Env} {R : Room} {s : State} {m : MethodId} {args : Array Value} {below : List Frame} {meth : Method} {c : Code} {Q : State → Prop} {P : sgP} {A : Nat → Prop} {N : Nat} {p1 : Int32} {p2 : Int32} {σ : sgS} (X : sg_C P A 4 p R s m args c cX12_parted 3 RX12) {H : Heap} {locs : List Loc} (I : sg_I P shM 35 A s.heap σ H locs) {ls : Array Slot} (hl : lv_has ls 3 [(0, .ref (sgA P 0)), (1, .int p1), (2, .int p2)]) {st : Int32} (h : f_X12_parted N p1 p2 σ = some st) (hk : sg_Ri p l e R s m args below meth c Q P shM 35 A cX12_parted (some .int) (st, σ)) : W p l e R s m args below meth c H locs 0 0 Q (F0 m 0 ls []) := by
  unfold f_X12_parted at h
  have hx := X.1.1
  have hb := X.1.2.1
  have hown := X.1.2.2.2.1
  have hts := X.1.2.2.2.2
  refine lv_aload_n hx hb dX12_parted_0 rfl (lv_at hl 0 rfl) ?_
  refine lv_iload_n hx hb dX12_parted_1 rfl (lv_at hl 1 rfl) ?_
  refine lv_iload_n hx hb dX12_parted_2 rfl (lv_at hl 2 rfl) ?_
  refine sg_callVr (As := [.int p1, .int p2]) X I mk_X12_443 (by decide) (by decide) shM_0 rfl (fun q9 e9 => c_X12_areTwo e9) h hl.1 rfl rfl (Nat.le_of_ble_eq_true rfl) dX12_parted_3 (fun v1 H locs h I => ?_)
  refine lv_if_eq (tgt := 23) hx hb dX12_parted_6 (by decide) (fun z => ?_) (fun z => ?_)
  · have h := sg_ift h z
    refine lv_iconst (v := -1) hx hb dX12_parted_23 (by decide) ?_
    obtain rfl := Option.some.inj h
    exact hk _ _ _ _ _ I ⟨_, rfl, rfl⟩ dX12_parted_24
  · have h := sg_iff h z
    refine lv_aload_n hx hb dX12_parted_9 rfl (lv_at hl 0 rfl) ?_
    refine lv_aload_n hx hb dX12_parted_10 rfl (lv_at hl 0 rfl) ?_
    refine sg_callVr (As := []) X I mk_X12_437 (by decide) (by decide) shM_0 rfl (fun q9 e9 => c_X12_openOnes e9) h hl.1 rfl rfl (Nat.le_of_ble_eq_true rfl) dX12_parted_11 (fun v2 H locs h I => ?_)
    refine lv_iload_n hx hb dX12_parted_14 rfl (lv_at hl 1 rfl) ?_
    refine lv_iload_n hx hb dX12_parted_15 rfl (lv_at hl 2 rfl) ?_
    refine lv_iconst (v := 1) hx hb dX12_parted_16 (by decide) ?_
    refine sg_callVr (As := [.int v2, .int p1, .int p2, .int 1]) X I mk_X12_446 (by decide) (by decide) shM_0 rfl (fun q9 e9 => c_X12_fewestOf e9) h hl.1 rfl rfl (Nat.le_of_ble_eq_true rfl) dX12_parted_17 (fun v3 H locs h I => ?_)
    refine lv_goto (tgt := 24) hx hb dX12_parted_20 (by decide) ?_
    obtain rfl := Option.some.inj h
    exact hk _ _ _ _ _ I ⟨_, rfl, rfl⟩ dX12_parted_24
set_option maxHeartbeats 4000000 in
set_option maxRecDepth 100000 in
theorem c_X12_parted {l : Launch} {P : sgP} {N : Nat} {p1 : Int32} {p2 : Int32} {σ : sgS} {q : Int32} (h : f_X12_parted N p1 p2 σ = some q) : sg_Mi P shM 35 l yX12_parted cX12_parted 3 (some .int) 4 [.ref (sgA P 0), .int p1, .int p2] σ (q, σ) := by
  refine sg_mki (plainFor_of_name (by decide +kernel)) (Nat.le_of_ble_eq_true rfl) ?_
  intro p e R s m args below meth c Q A ls H locs X I hl hk
  exact b_X12_parted X I hl h hk
def f_X12_joined (N : Nat) (p1 : Int32) (p2 : Int32) (σ : sgS) : Option (Int32) :=
  sg_cr (f_X12_areTwo N p1 p2 σ) fun v1 =>
if v1 = 0 then
  (some ((-1)))
else
  (sg_ld σ 21 215 31 fun v2 =>
  sg_cr (f_X12_fewestOf N v2 p1 p2 0 σ) fun v3 =>
  some v3)
set_option maxHeartbeats 4000000 in
set_option maxRecDepth 100000 in
theorem b_X12_joined {p : Program} {l : Launch} {e : Env} {R : Room} {s : State} {m : MethodId} {args : Array Value} {below : List Frame} {meth : Method} {c : Code} {Q : State → Prop} {P : sgP} {A : Nat → Prop} {N : Nat} {p1 : Int32} {p2 : Int32} {σ : sgS} (X : sg_C P A 4 p R s m args c cX12_joined 3 RX12) {H : Heap} {locs : List Loc} (I : sg_I P shM 35 A s.heap σ H locs) {ls : Array Slot} (hl : lv_has ls 3 [(0, .ref (sgA P 0)), (1, .int p1), (2, .int p2)]) {st : Int32} (h : f_X12_joined N p1 p2 σ = some st) (hk : sg_Ri p l e R s m args below meth c Q P shM 35 A cX12_joined (some .int) (st, σ)) : W p l e R s m args below meth c H locs 0 0 Q (F0 m 0 ls []) := by
  unfold f_X12_joined at h
  have hx := X.1.1
  have hb := X.1.2.1
  have hown := X.1.2.2.2.1
  have hts := X.1.2.2.2.2
  refine lv_aload_n hx hb dX12_joined_0 rfl (lv_at hl 0 rfl) ?_
  refine lv_iload_n hx hb dX12_joined_1 rfl (lv_at hl 1 rfl) ?_
  refine lv_iload_n hx hb dX12_joined_2 rfl (lv_at hl 2 rfl) ?_
  refine sg_callVr (As := [.int p1, .int p2]) X I mk_X12_443 (by decide) (by decide) shM_0 rfl (fun q9 e9 => c_X12_areTwo e9) h hl.1 rfl rfl (Nat.le_of_ble_eq_true rfl) dX12_joined_3 (fun v1 H locs h I => ?_)
  refine lv_if_eq (tgt := 26) hx hb dX12_joined_6 (by decide) (fun z => ?_) (fun z => ?_)
  · have h := sg_ift h z
    refine lv_iconst (v := -1) hx hb dX12_joined_26 (by decide) ?_
    obtain rfl := Option.some.inj h
    exact hk _ _ _ _ _ I ⟨_, rfl, rfl⟩ dX12_joined_27
  · have h := sg_iff h z
    refine lv_aload_n hx hb dX12_joined_9 rfl (lv_at hl 0 rfl) ?_
    refine lv_aload_n hx hb dX12_joined_10 rfl (lv_at hl 0 rfl) ?_
    refine sg_getr X I fk_X12_70 (j := 21) (by decide) shM_0 rfl dX12_joined_11 ?_
    refine lv_bipush (v := 31) hx hb dX12_joined_14 (by decide) ?_
    refine sg_iald X I (by decide) shM_21 h dX12_joined_16 (fun v2 h => ?_)
    refine lv_iload_n hx hb dX12_joined_17 rfl (lv_at hl 1 rfl) ?_
    refine lv_iload_n hx hb dX12_joined_18 rfl (lv_at hl 2 rfl) ?_
    refine lv_iconst (v := 0) hx hb dX12_joined_19 (by decide) ?_
    refine sg_callVr (As := [.int v2, .int p1, .int p2, .int 0]) X I mk_X12_446 (by decide) (by decide) shM_0 rfl (fun q9 e9 => c_X12_fewestOf e9) h hl.1 rfl rfl (Nat.le_of_ble_eq_true rfl) dX12_joined_20 (fun v3 H locs h I => ?_)
    refine lv_goto (tgt := 27) hx hb dX12_joined_23 (by decide) ?_
    obtain rfl := Option.some.inj h
    exact hk _ _ _ _ _ I ⟨_, rfl, rfl⟩ dX12_joined_27
set_option maxHeartbeats 4000000 in
set_option maxRecDepth 100000 in
theorem c_X12_joined {l : Launch} {P : sgP} {N : Nat} {p1 : Int32} {p2 : Int32} {σ : sgS} {q : Int32} (h : f_X12_joined N p1 p2 σ = some q) : sg_Mi P shM 35 l yX12_joined cX12_joined 3 (some .int) 4 [.ref (sgA P 0), .int p1, .int p2] σ (q, σ) := by
  refine sg_mki (plainFor_of_name (by decide +kernel)) (Nat.le_of_ble_eq_true rfl) ?_
  intro p e R s m args below meth c Q A ls H locs X I hl hk
  exact b_X12_joined X I hl h hk
def f_X12_seen (N : Nat) (p1 : Int32) (p2 : Int32) (p3 : Int32) (p4 : Int32) (σ : sgS) : Option (Int32 × sgS) :=
  sg_cr (f_X12_isSet N p1 σ) fun v1 =>
if v1 = 0 then
  (some ((-1), σ))
else
  (sg_cr (f_X12_isPlace N p2 σ) fun v2 =>
  if v2 = 0 then
    (some ((-1), σ))
  else
    (sg_cr (f_X12_in N p3 1 9 σ) fun v3 =>
    if v3 = 0 then
      (some ((-1), σ))
    else
      (if (σ.1 0 54) = 10 then
        (some ((-1), σ))
      else
        (sg_st σ 29 10 (σ.1 0 54) p1 fun s4 =>
        sg_st s4 30 10 (s4.1 0 54) p2 fun s5 =>
        sg_st s5 31 10 (s5.1 0 54) p3 fun s6 =>
        sg_st s6 32 10 (s6.1 0 54) (vp_nar .boolean p4) fun s7 =>
        sg_pf s7 0 54 ((s7.1 0 54) + 1) fun s8 =>
        some (s8.1 0 54, s8)))))
set_option maxHeartbeats 4000000 in
set_option maxRecDepth 100000 in
theorem b_X12_seen {p : Program} {l : Launch} {e : Env} {R : Room} {s : State} {m : MethodId} {args : Array Value} {below : List Frame} {meth : Method} {c : Code} {Q : State → Prop} {P : sgP} {A : Nat → Prop} {N : Nat} {p1 : Int32} {p2 : Int32} {p3 : Int32} {p4 : Int32} {σ : sgS} (X : sg_C P A 3 p R s m args c cX12_seen 5 RX12) {H : Heap} {locs : List Loc} (I : sg_I P shM 35 A s.heap σ H locs) {ls : Array Slot} (hl : lv_has ls 5 [(0, .ref (sgA P 0)), (1, .int p1), (2, .int p2), (3, .int p3), (4, .int p4)]) {st : Int32 × sgS} (h : f_X12_seen N p1 p2 p3 p4 σ = some st) (hk : sg_Ri p l e R s m args below meth c Q P shM 35 A cX12_seen (some .int) st) : W p l e R s m args below meth c H locs 0 0 Q (F0 m 0 ls []) := by
  unfold f_X12_seen at h
  have hx := X.1.1
  have hb := X.1.2.1
  have hown := X.1.2.2.2.1
  have hts := X.1.2.2.2.2
  refine lv_aload_n hx hb dX12_seen_0 rfl (lv_at hl 0 rfl) ?_
  refine lv_iload_n hx hb dX12_seen_1 rfl (lv_at hl 1 rfl) ?_
  refine sg_callVr (As := [.int p1]) X I mk_X12_370 (by decide) (by decide) shM_0 rfl (fun q9 e9 => c_X12_isSet e9) h hl.1 rfl rfl (Nat.le_of_ble_eq_true rfl) dX12_seen_2 (fun v1 H locs h I => ?_)
  refine lv_if_eq (tgt := 35) hx hb dX12_seen_5 (by decide) (fun z => ?_) (fun z => ?_)
  · have h := sg_ift h z
    refine lv_iconst (v := -1) hx hb dX12_seen_35 (by decide) ?_
    obtain rfl := Option.some.inj h
    exact hk _ _ _ _ _ I ⟨_, rfl, rfl⟩ dX12_seen_36
  · have h := sg_iff h z
    refine lv_aload_n hx hb dX12_seen_8 rfl (lv_at hl 0 rfl) ?_
    refine lv_iload_n hx hb dX12_seen_9 rfl (lv_at hl 2 rfl) ?_
    refine sg_callVr (As := [.int p2]) X I mk_X12_373 (by decide) (by decide) shM_0 rfl (fun q9 e9 => c_X12_isPlace e9) h hl.1 rfl rfl (Nat.le_of_ble_eq_true rfl) dX12_seen_10 (fun v2 H locs h I => ?_)
    refine lv_if_eq (tgt := 35) hx hb dX12_seen_13 (by decide) (fun z => ?_) (fun z => ?_)
    · have h := sg_ift h z
      refine lv_iconst (v := -1) hx hb dX12_seen_35 (by decide) ?_
      obtain rfl := Option.some.inj h
      exact hk _ _ _ _ _ I ⟨_, rfl, rfl⟩ dX12_seen_36
    · have h := sg_iff h z
      refine lv_iload_n hx hb dX12_seen_16 rfl (lv_at hl 3 rfl) ?_
      refine lv_iconst (v := 1) hx hb dX12_seen_17 (by decide) ?_
      refine lv_bipush (v := 9) hx hb dX12_seen_18 (by decide) ?_
      refine sg_callSr (As := [.int p3, .int 1, .int 9]) X I mk_X12_235 (by decide) (fun q9 e9 => c_X12_in e9) h hl.1 rfl rfl (Nat.le_of_ble_eq_true rfl) dX12_seen_20 (fun v3 H locs h I => ?_)
      refine lv_if_eq (tgt := 35) hx hb dX12_seen_23 (by decide) (fun z => ?_) (fun z => ?_)
      · have h := sg_ift h z
        refine lv_iconst (v := -1) hx hb dX12_seen_35 (by decide) ?_
        obtain rfl := Option.some.inj h
        exact hk _ _ _ _ _ I ⟨_, rfl, rfl⟩ dX12_seen_36
      · have h := sg_iff h z
        refine lv_aload_n hx hb dX12_seen_26 rfl (lv_at hl 0 rfl) ?_
        refine sg_geti X I fk_X12_297 (by decide) shM_0 rfl dX12_seen_27 ?_
        refine lv_bipush (v := 10) hx hb dX12_seen_30 (by decide) ?_
        refine lv_icmp_ne (tgt := 37) hx hb dX12_seen_32 (by decide) (fun z => ?_) (fun z => ?_)
        · have h := sg_iff h z
          refine lv_aload_n hx hb dX12_seen_37 rfl (lv_at hl 0 rfl) ?_
          refine sg_getr X I fk_X12_101 (j := 29) (by decide) shM_0 rfl dX12_seen_38 ?_
          refine lv_aload_n hx hb dX12_seen_41 rfl (lv_at hl 0 rfl) ?_
          refine sg_geti X I fk_X12_297 (by decide) shM_0 rfl dX12_seen_42 ?_
          refine lv_iload_n hx hb dX12_seen_45 rfl (lv_at hl 1 rfl) ?_
          refine sg_iast X I (by decide) shM_29 h dX12_seen_46 (fun s4 H locs h I => ?_)
          refine lv_aload_n hx hb dX12_seen_47 rfl (lv_at hl 0 rfl) ?_
          refine sg_getr X I fk_X12_104 (j := 30) (by decide) shM_0 rfl dX12_seen_48 ?_
          refine lv_aload_n hx hb dX12_seen_51 rfl (lv_at hl 0 rfl) ?_
          refine sg_geti X I fk_X12_297 (by decide) shM_0 rfl dX12_seen_52 ?_
          refine lv_iload_n hx hb dX12_seen_55 rfl (lv_at hl 2 rfl) ?_
          refine sg_iast X I (by decide) shM_30 h dX12_seen_56 (fun s5 H locs h I => ?_)
          refine lv_aload_n hx hb dX12_seen_57 rfl (lv_at hl 0 rfl) ?_
          refine sg_getr X I fk_X12_107 (j := 31) (by decide) shM_0 rfl dX12_seen_58 ?_
          refine lv_aload_n hx hb dX12_seen_61 rfl (lv_at hl 0 rfl) ?_
          refine sg_geti X I fk_X12_297 (by decide) shM_0 rfl dX12_seen_62 ?_
          refine lv_iload_n hx hb dX12_seen_65 rfl (lv_at hl 3 rfl) ?_
          refine sg_iast X I (by decide) shM_31 h dX12_seen_66 (fun s6 H locs h I => ?_)
          refine lv_aload_n hx hb dX12_seen_67 rfl (lv_at hl 0 rfl) ?_
          refine sg_getr X I fk_X12_110 (j := 32) (by decide) shM_0 rfl dX12_seen_68 ?_
          refine lv_aload_n hx hb dX12_seen_71 rfl (lv_at hl 0 rfl) ?_
          refine sg_geti X I fk_X12_297 (by decide) shM_0 rfl dX12_seen_72 ?_
          refine lv_iload hx hb dX12_seen_75 (lv_at hl 4 rfl) ?_
          refine sg_zast X I (by decide) shM_32 h dX12_seen_77 (fun s7 H locs h I => ?_)
          refine lv_aload_n hx hb dX12_seen_78 rfl (lv_at hl 0 rfl) ?_
          refine lv_dup hx hb dX12_seen_79 rfl ?_
          refine sg_geti X I fk_X12_297 (by decide) shM_0 rfl dX12_seen_80 ?_
          refine lv_iconst (v := 1) hx hb dX12_seen_83 (by decide) ?_
          refine lv_iadd hx hb dX12_seen_84 ?_
          refine sg_puti X I fk_X12_297 wk_12_54 rfl rfl (by decide) shM_0 rfl h dX12_seen_85 (fun s8 H locs h I => ?_)
          refine lv_aload_n hx hb dX12_seen_88 rfl (lv_at hl 0 rfl) ?_
          refine sg_geti X I fk_X12_297 (by decide) shM_0 rfl dX12_seen_89 ?_
          obtain rfl := Option.some.inj h
          exact hk _ _ _ _ _ I ⟨_, rfl, rfl⟩ dX12_seen_92
        · have h := sg_ift h z
          refine lv_iconst (v := -1) hx hb dX12_seen_35 (by decide) ?_
          obtain rfl := Option.some.inj h
          exact hk _ _ _ _ _ I ⟨_, rfl, rfl⟩ dX12_seen_36
set_option maxHeartbeats 4000000 in
set_option maxRecDepth 100000 in
theorem c_X12_seen {l : Launch} {P : sgP} {N : Nat} {p1 : Int32} {p2 : Int32} {p3 : Int32} {p4 : Int32} {σ : sgS} {q : Int32 × sgS} (h : f_X12_seen N p1 p2 p3 p4 σ = some q) : sg_Mi P shM 35 l yX12_seen cX12_seen 5 (some .int) 3 [.ref (sgA P 0), .int p1, .int p2, .int p3, .int p4] σ q := by
  refine sg_mki (plainFor_of_name (by decide +kernel)) (Nat.le_of_ble_eq_true rfl) ?_
  intro p e R s m args below meth c Q A ls H locs X I hl hk
  exact b_X12_seen X I hl h hk
def f_X12_layTrails_L26 (N : Nat) (p1 : Int32) (w2 : Int32) (x3 : Int32) (σ : sgS) : Option ((Int32 × sgS) ⊕ ((sgS × Int32) ⊕ (sgS))) :=
  if 9 < x3 then
  (some (.inr (.inr σ)))
else
  (sg_ld σ 18 4 p1 fun v7 =>
  sg_cr (f_X12_beginsAt N w2 v7 σ) fun v8 =>
  if v8 = 0 then
    (some (.inr (.inr σ)))
  else
    (sg_ld σ 21 215 (0 + p1) fun v9 =>
    sg_st σ 33 40 ((10 * w2) + x3) v9 fun s10 =>
    sg_cl (f_X12_live N s10) fun v11 s12 =>
    some (.inr (.inl (s12, x3 + 1)))))
set_option maxHeartbeats 4000000 in
set_option maxRecDepth 100000 in
theorem b_X12_layTrails_L26 {p : Program} {l : Launch} {e : Env} {R : Room} {s : State} {m : MethodId} {args : Array Value} {below : List Frame} {meth : Method} {c : Code} {Q : State → Prop} {P : sgP} {A : Nat → Prop} {N : Nat} {p1 : Int32} {w2 : Int32} {x3 : Int32} {σ : sgS} (X : sg_C P A 9 p R s m args c cX12_layTrails 4 RX12) {H : Heap} {locs : List Loc} (I : sg_I P shM 35 A s.heap σ H locs) {ls : Array Slot} (hl : lv_has ls 4 [(0, .ref (sgA P 0)), (1, .int p1), (2, .int w2), (3, .int x3)]) {st : (Int32 × sgS) ⊕ ((sgS × Int32) ⊕ (sgS))} (h : f_X12_layTrails_L26 N p1 w2 x3 σ = some st) (hk : sg_k3 (sg_Rv p l e R s m args below meth c Q P shM 35 A cX12_layTrails) (fun x => sg_Wt p l e R s m args below meth c Q P shM 35 A 4 26 x.1 [(0, .ref (sgA P 0)), (1, .int p1), (2, .int w2), (3, .int x.2)]) (fun y => sg_Wt p l e R s m args below meth c Q P shM 35 A 4 75 y [(0, .ref (sgA P 0)), (1, .int p1), (2, .int w2)]) st) : W p l e R s m args below meth c H locs 0 0 Q (F0 m 26 ls []) := by
  unfold f_X12_layTrails_L26 at h
  have hx := X.1.1
  have hb := X.1.2.1
  have hown := X.1.2.2.2.1
  have hts := X.1.2.2.2.2
  refine lv_iload_n hx hb dX12_layTrails_26 rfl (lv_at hl 3 rfl) ?_
  refine lv_bipush (v := 9) hx hb dX12_layTrails_27 (by decide) ?_
  refine lv_icmp_gt (tgt := 75) hx hb dX12_layTrails_29 (by decide) (fun z => ?_) (fun z => ?_)
  · have h := sg_ift h z
    obtain rfl := Option.some.inj h
    exact sg_go hk I (lv_sub hl [0, 1, 2] rfl)
  · have h := sg_iff h z
    refine lv_aload_n hx hb dX12_layTrails_32 rfl (lv_at hl 0 rfl) ?_
    refine lv_iload_n hx hb dX12_layTrails_33 rfl (lv_at hl 2 rfl) ?_
    refine lv_aload_n hx hb dX12_layTrails_34 rfl (lv_at hl 0 rfl) ?_
    refine sg_getr X I fk_X12_61 (j := 18) (by decide) shM_0 rfl dX12_layTrails_35 ?_
    refine lv_iload_n hx hb dX12_layTrails_38 rfl (lv_at hl 1 rfl) ?_
    refine sg_iald X I (by decide) shM_18 h dX12_layTrails_39 (fun v7 h => ?_)
    refine sg_callVr (As := [.int w2, .int v7]) X I mk_X12_391 (by decide) (by decide) shM_0 rfl (fun q9 e9 => c_X12_beginsAt e9) h hl.1 rfl rfl (Nat.le_of_ble_eq_true rfl) dX12_layTrails_40 (fun v8 H locs h I => ?_)
    refine lv_if_eq (tgt := 75) hx hb dX12_layTrails_43 (by decide) (fun z => ?_) (fun z => ?_)
    · have h := sg_ift h z
      obtain rfl := Option.some.inj h
      exact sg_go hk I (lv_sub hl [0, 1, 2] rfl)
    · have h := sg_iff h z
      refine lv_aload_n hx hb dX12_layTrails_46 rfl (lv_at hl 0 rfl) ?_
      refine sg_getr X I fk_X12_114 (j := 33) (by decide) shM_0 rfl dX12_layTrails_47 ?_
      refine lv_bipush (v := 10) hx hb dX12_layTrails_50 (by decide) ?_
      refine lv_iload_n hx hb dX12_layTrails_52 rfl (lv_at hl 2 rfl) ?_
      refine lv_imul hx hb dX12_layTrails_53 ?_
      refine lv_iload_n hx hb dX12_layTrails_54 rfl (lv_at hl 3 rfl) ?_
      refine lv_iadd hx hb dX12_layTrails_55 ?_
      refine lv_aload_n hx hb dX12_layTrails_56 rfl (lv_at hl 0 rfl) ?_
      refine sg_getr X I fk_X12_70 (j := 21) (by decide) shM_0 rfl dX12_layTrails_57 ?_
      refine lv_iconst (v := 0) hx hb dX12_layTrails_60 (by decide) ?_
      refine lv_iload_n hx hb dX12_layTrails_61 rfl (lv_at hl 1 rfl) ?_
      refine lv_iadd hx hb dX12_layTrails_62 ?_
      refine sg_iald X I (by decide) shM_21 h dX12_layTrails_63 (fun v9 h => ?_)
      refine sg_iast X I (by decide) shM_33 h dX12_layTrails_64 (fun s10 H locs h I => ?_)
      refine lv_aload_n hx hb dX12_layTrails_65 rfl (lv_at hl 0 rfl) ?_
      refine sg_callVv (As := []) X I mk_X12_361 (by decide) (by decide) shM_0 rfl (fun q9 e9 => c_X12_live e9) h hl.1 rfl rfl (Nat.le_of_ble_eq_true rfl) dX12_layTrails_66 (fun v11 s12 H locs h I => ?_)
      refine lv_iinc (v := x3 + 1) (lv' := [(3, .int (x3 + 1)), (0, .ref (sgA P 0)), (1, .int p1), (2, .int w2)]) hx hb dX12_layTrails_69 hl (k := 3) rfl rfl (by decide) rfl (fun ls hl => ?_)
      refine lv_goto (tgt := 26) hx hb dX12_layTrails_72 (by decide) ?_
      obtain rfl := Option.some.inj h
      exact sg_go hk I (lv_sub hl [1, 2, 3, 0] rfl)
def f_X12_layTrails_L6 (N : Nat) (p1 : Int32) (x2 : Int32) (σ : sgS) : Option ((Int32 × sgS) ⊕ ((sgS × Int32) ⊕ (sgS))) :=
  if (σ.1 0 33) ≤ x2 then
  (some (.inr (.inr σ)))
else
  (sg_cl (f_X12_layTold N σ) fun v3 s4 =>
  sg_cl (f_X12_putNow N p1 x2 s4) fun v5 s6 =>
  sg_lb (sg_lp (fun x => f_X12_layTrails_L26 N p1 x2 x.2 x.1) N ((s6, 0))) (fun r => some (.inl r)) fun y13 =>
  some (.inr (.inl (y13, x2 + 1))))
set_option maxHeartbeats 4000000 in
set_option maxRecDepth 100000 in
theorem b_X12_layTrails_L6 {p : Program} {l : Launch} {e : Env} {R : Room} {s : State} {m : MethodId} {args : Array Value} {below : List Frame} {meth : Method} {c : Code} {Q : State → Prop} {P : sgP} {A : Nat → Prop} {N : Nat} {p1 : Int32} {x2 : Int32} {σ : sgS} (X : sg_C P A 9 p R s m args c cX12_layTrails 4 RX12) {H : Heap} {locs : List Loc} (I : sg_I P shM 35 A s.heap σ H locs) {ls : Array Slot} (hl : lv_has ls 4 [(0, .ref (sgA P 0)), (1, .int p1), (2, .int x2)]) {st : (Int32 × sgS) ⊕ ((sgS × Int32) ⊕ (sgS))} (h : f_X12_layTrails_L6 N p1 x2 σ = some st) (hk : sg_k3 (sg_Rv p l e R s m args below meth c Q P shM 35 A cX12_layTrails) (fun x => sg_Wt p l e R s m args below meth c Q P shM 35 A 4 6 x.1 [(0, .ref (sgA P 0)), (1, .int p1), (2, .int x.2)]) (fun y => sg_Wt p l e R s m args below meth c Q P shM 35 A 4 81 y [(0, .ref (sgA P 0))]) st) : W p l e R s m args below meth c H locs 0 0 Q (F0 m 6 ls []) := by
  unfold f_X12_layTrails_L6 at h
  have hx := X.1.1
  have hb := X.1.2.1
  have hown := X.1.2.2.2.1
  have hts := X.1.2.2.2.2
  refine lv_iload_n hx hb dX12_layTrails_6 rfl (lv_at hl 2 rfl) ?_
  refine lv_aload_n hx hb dX12_layTrails_7 rfl (lv_at hl 0 rfl) ?_
  refine sg_geti X I fk_X12_313 (by decide) shM_0 rfl dX12_layTrails_8 ?_
  refine lv_icmp_ge (tgt := 81) hx hb dX12_layTrails_11 (by decide) (fun z => ?_) (fun z => ?_)
  · have h := sg_ift h z
    obtain rfl := Option.some.inj h
    exact sg_go hk I (lv_sub hl [0] rfl)
  · have h := sg_iff h z
    refine lv_aload_n hx hb dX12_layTrails_14 rfl (lv_at hl 0 rfl) ?_
    refine sg_callVv (As := []) X I mk_X12_294 (by decide) (by decide) shM_0 rfl (fun q9 e9 => c_X12_layTold e9) h hl.1 rfl rfl (Nat.le_of_ble_eq_true rfl) dX12_layTrails_15 (fun v3 s4 H locs h I => ?_)
    refine lv_aload_n hx hb dX12_layTrails_18 rfl (lv_at hl 0 rfl) ?_
    refine lv_iload_n hx hb dX12_layTrails_19 rfl (lv_at hl 1 rfl) ?_
    refine lv_iload_n hx hb dX12_layTrails_20 rfl (lv_at hl 2 rfl) ?_
    refine sg_callVv (As := [.int p1, .int x2]) X I mk_X12_394 (by decide) (by decide) shM_0 rfl (fun q9 e9 => c_X12_putNow e9) h hl.1 rfl rfl (Nat.le_of_ble_eq_true rfl) dX12_layTrails_21 (fun v5 s6 H locs h I => ?_)
    refine lv_iconst (v := 0) hx hb dX12_layTrails_24 (by decide) ?_
    refine lv_istore_n (lv' := [(3, .int 0), (0, .ref (sgA P 0)), (1, .int p1), (2, .int x2)]) hx hb dX12_layTrails_25 rfl hl (by decide) rfl (fun ls hl => ?_)
    obtain ⟨res, e9, k9⟩ := sg_lb_some h
    refine sg_go (sg_lp_W (a := (sg_Rv p l e R s m args below meth c Q P shM 35 A cX12_layTrails)) (w := (fun x => sg_Wt p l e R s m args below meth c Q P shM 35 A 4 26 x.1 [(0, .ref (sgA P 0)), (1, .int p1), (2, .int x2), (3, .int x.2)])) (c := (fun y => sg_Wt p l e R s m args below meth c Q P shM 35 A 4 75 y [(0, .ref (sgA P 0)), (1, .int p1), (2, .int x2)])) (fun x st hb9 hk9 => ?_) N ((s6, 0)) res e9 (sg_k2_mono k9 (fun r h => ?_) (fun y13 h => ?_))) I (lv_sub hl [1, 2, 3, 0] rfl)
    · intro H locs ls I hl
      exact b_X12_layTrails_L26 X I hl hb9 hk9
    · obtain rfl := Option.some.inj h
      exact hk
    · intro H locs ls I hl
      refine lv_iinc (v := x2 + 1) (lv' := [(2, .int (x2 + 1)), (0, .ref (sgA P 0)), (1, .int p1)]) hx hb dX12_layTrails_75 hl (k := 2) rfl rfl (by decide) rfl (fun ls hl => ?_)
      refine lv_goto (tgt := 6) hx hb dX12_layTrails_78 (by decide) ?_
      obtain rfl := Option.some.inj h
      exact sg_go hk I (lv_sub hl [1, 2, 0] rfl)
def f_X12_layTrails (N : Nat) (p1 : Int32) (σ : sgS) : Option (Int32 × sgS) :=
  sg_cl (f_X12_putAside N σ) fun v1 s2 =>
sg_lb (sg_lp (fun x => f_X12_layTrails_L6 N p1 x.2 x.1) N ((s2, 0))) (fun r => some r) fun y14 =>
sg_cl (f_X12_takeBack N y14) fun v15 s16 =>
some (0, s16)
set_option maxHeartbeats 4000000 in
set_option maxRecDepth 100000 in
theorem b_X12_layTrails {p : Program} {l : Launch} {e : Env} {R : Room} {s : State} {m : MethodId} {args : Array Value} {below : List Frame} {meth : Method} {c : Code} {Q : State → Prop} {P : sgP} {A : Nat → Prop} {N : Nat} {p1 : Int32} {σ : sgS} (X : sg_C P A 9 p R s m args c cX12_layTrails 4 RX12) {H : Heap} {locs : List Loc} (I : sg_I P shM 35 A s.heap σ H locs) {ls : Array Slot} (hl : lv_has ls 4 [(0, .ref (sgA P 0)), (1, .int p1)]) {st : Int32 × sgS} (h : f_X12_layTrails N p1 σ = some st) (hk : sg_Rv p l e R s m args below meth c Q P shM 35 A cX12_layTrails st) : W p l e R s m args below meth c H locs 0 0 Q (F0 m 0 ls []) := by
  unfold f_X12_layTrails at h
  have hx := X.1.1
  have hb := X.1.2.1
  have hown := X.1.2.2.2.1
  have hts := X.1.2.2.2.2
  refine lv_aload_n hx hb dX12_layTrails_0 rfl (lv_at hl 0 rfl) ?_
  refine sg_callVv (As := []) X I mk_X12_431 (by decide) (by decide) shM_0 rfl (fun q9 e9 => c_X12_putAside e9) h hl.1 rfl rfl (Nat.le_of_ble_eq_true rfl) dX12_layTrails_1 (fun v1 s2 H locs h I => ?_)
  refine lv_iconst (v := 0) hx hb dX12_layTrails_4 (by decide) ?_
  refine lv_istore_n (lv' := [(2, .int 0), (0, .ref (sgA P 0)), (1, .int p1)]) hx hb dX12_layTrails_5 rfl hl (by decide) rfl (fun ls hl => ?_)
  obtain ⟨res, e9, k9⟩ := sg_lb_some h
  refine sg_go (sg_lp_W (a := (sg_Rv p l e R s m args below meth c Q P shM 35 A cX12_layTrails)) (w := (fun x => sg_Wt p l e R s m args below meth c Q P shM 35 A 4 6 x.1 [(0, .ref (sgA P 0)), (1, .int p1), (2, .int x.2)])) (c := (fun y => sg_Wt p l e R s m args below meth c Q P shM 35 A 4 81 y [(0, .ref (sgA P 0))])) (fun x st hb9 hk9 => ?_) N ((s2, 0)) res e9 (sg_k2_mono k9 (fun r h => ?_) (fun y14 h => ?_))) I (lv_sub hl [1, 2, 0] rfl)
  · intro H locs ls I hl
    exact b_X12_layTrails_L6 X I hl hb9 hk9
  · obtain rfl := Option.some.inj h
    exact hk
  · intro H locs ls I hl
    refine lv_aload_n hx hb dX12_layTrails_81 rfl (lv_at hl 0 rfl) ?_
    refine sg_callVv (As := []) X I mk_X12_434 (by decide) (by decide) shM_0 rfl (fun q9 e9 => c_X12_takeBack e9) h hl.1 rfl rfl (Nat.le_of_ble_eq_true rfl) dX12_layTrails_82 (fun v15 s16 H locs h I => ?_)
    obtain rfl := Option.some.inj h
    exact hk _ _ _ _ I dX12_layTrails_85
set_option maxHeartbeats 4000000 in
set_option maxRecDepth 100000 in
theorem c_X12_layTrails {l : Launch} {P : sgP} {N : Nat} {p1 : Int32} {σ : sgS} {q : Int32 × sgS} (h : f_X12_layTrails N p1 σ = some q) : sg_Mv P shM 35 l yX12_layTrails cX12_layTrails 4 none 9 [.ref (sgA P 0), .int p1] σ q := by
  refine sg_mkv (plainFor_of_name (by decide +kernel)) (Nat.le_of_ble_eq_true rfl) ?_
  intro p e R s m args below meth c Q A ls H locs X I hl hk
  exact b_X12_layTrails X I hl h hk
def f_X12_isFit_L15_B71 (N : Nat) (p1 : Int32) (p2 : Int32) (u4 : Int32) (k0 : Int32) (σ : sgS) : Option ((Int32) ⊕ ((Int32 × Int32) ⊕ (Int32))) :=
  sg_ld σ 32 10 u4 fun v7 =>
if k0 = v7 then
  (some (.inr (.inl (1, u4 + 1))))
else
  (some (.inr (.inl (0, u4 + 1))))
set_option maxHeartbeats 4000000 in
set_option maxRecDepth 100000 in
theorem b_X12_isFit_L15_B71 {p : Program} {l : Launch} {e : Env} {R : Room} {s : State} {m : MethodId} {args : Array Value} {below : List Frame} {meth : Method} {c : Code} {Q : State → Prop} {P : sgP} {A : Nat → Prop} {N : Nat} {p1 : Int32} {p2 : Int32} {u4 : Int32} {k0 : Int32} {σ : sgS} (X : sg_C P A 2 p R s m args c cX12_isFit 5 RX12) {H : Heap} {locs : List Loc} (I : sg_I P shM 35 A s.heap σ H locs) {ls : Array Slot} (hl : lv_has ls 5 [(0, .ref (sgA P 0)), (1, .int p1), (2, .int p2), (4, .int u4)]) {st : (Int32) ⊕ ((Int32 × Int32) ⊕ (Int32))} (h : f_X12_isFit_L15_B71 N p1 p2 u4 k0 σ = some st) (hk : sg_k3 (fun r => sg_Ri p l e R s m args below meth c Q P shM 35 A cX12_isFit (some .boolean) (r, σ)) (fun x => sg_Wt p l e R s m args below meth c Q P shM 35 A 5 15 σ [(0, .ref (sgA P 0)), (1, .int p1), (2, .int p2), (3, .int x.1), (4, .int x.2)]) (fun y => sg_Wt p l e R s m args below meth c Q P shM 35 A 5 93 σ [(3, .int y)]) st) : W p l e R s m args below meth c H locs 0 0 Q (F0 m 71 ls [.int k0]) := by
  unfold f_X12_isFit_L15_B71 at h
  have hx := X.1.1
  have hb := X.1.2.1
  have hown := X.1.2.2.2.1
  have hts := X.1.2.2.2.2
  refine lv_aload_n hx hb dX12_isFit_71 rfl (lv_at hl 0 rfl) ?_
  refine sg_getr X I fk_X12_110 (j := 32) (by decide) shM_0 rfl dX12_isFit_72 ?_
  refine lv_iload hx hb dX12_isFit_75 (lv_at hl 3 rfl) ?_
  refine sg_zald X I (by decide) shM_32 h dX12_isFit_77 (fun v7 h => ?_)
  refine lv_icmp_ne (tgt := 85) hx hb dX12_isFit_78 (by decide) (fun z => ?_) (fun z => ?_)
  · have h := sg_iff h z
    refine lv_iconst (v := 0) hx hb dX12_isFit_85 (by decide) ?_
    refine lv_istore_n (lv' := [(3, .int 0), (0, .ref (sgA P 0)), (1, .int p1), (2, .int p2), (4, .int u4)]) hx hb dX12_isFit_86 rfl hl (by decide) rfl (fun ls hl => ?_)
    refine lv_iinc (v := u4 + 1) (lv' := [(4, .int (u4 + 1)), (3, .int 0), (0, .ref (sgA P 0)), (1, .int p1), (2, .int p2)]) hx hb dX12_isFit_87 hl (k := 4) rfl rfl (by decide) rfl (fun ls hl => ?_)
    refine lv_goto (tgt := 15) hx hb dX12_isFit_90 (by decide) ?_
    obtain rfl := Option.some.inj h
    exact sg_go hk I (lv_sub hl [2, 3, 4, 1, 0] rfl)
  · have h := sg_ift h z
    refine lv_iconst (v := 1) hx hb dX12_isFit_81 (by decide) ?_
    refine lv_goto (tgt := 86) hx hb dX12_isFit_82 (by decide) ?_
    refine lv_istore_n (lv' := [(3, .int 1), (0, .ref (sgA P 0)), (1, .int p1), (2, .int p2), (4, .int u4)]) hx hb dX12_isFit_86 rfl hl (by decide) rfl (fun ls hl => ?_)
    refine lv_iinc (v := u4 + 1) (lv' := [(4, .int (u4 + 1)), (3, .int 1), (0, .ref (sgA P 0)), (1, .int p1), (2, .int p2)]) hx hb dX12_isFit_87 hl (k := 4) rfl rfl (by decide) rfl (fun ls hl => ?_)
    refine lv_goto (tgt := 15) hx hb dX12_isFit_90 (by decide) ?_
    obtain rfl := Option.some.inj h
    exact sg_go hk I (lv_sub hl [2, 3, 4, 1, 0] rfl)
def f_X12_isFit_L15 (N : Nat) (p1 : Int32) (p2 : Int32) (x3 : Int32) (x4 : Int32) (σ : sgS) : Option ((Int32) ⊕ ((Int32 × Int32) ⊕ (Int32))) :=
  if (σ.1 0 54) ≤ x4 then
  (some (.inr (.inr x3)))
else
  (if x3 = 0 then
    (some (.inr (.inr x3)))
  else
    (sg_ld σ 29 10 x4 fun v3 =>
    if v3 = p1 then
      (sg_ld σ 31 10 x4 fun v4 =>
      sg_ld σ 33 40 ((10 * p2) + v4) fun v5 =>
      sg_ld σ 30 10 x4 fun v6 =>
      if v5 = v6 then
        (f_X12_isFit_L15_B71 N p1 p2 x4 1 σ)
      else
        (f_X12_isFit_L15_B71 N p1 p2 x4 0 σ))
    else
      (some (.inr (.inl (1, x4 + 1))))))
set_option maxHeartbeats 4000000 in
set_option maxRecDepth 100000 in
theorem b_X12_isFit_L15 {p : Program} {l : Launch} {e : Env} {R : Room} {s : State} {m : MethodId} {args : Array Value} {below : List Frame} {meth : Method} {c : Code} {Q : State → Prop} {P : sgP} {A : Nat → Prop} {N : Nat} {p1 : Int32} {p2 : Int32} {x3 : Int32} {x4 : Int32} {σ : sgS} (X : sg_C P A 2 p R s m args c cX12_isFit 5 RX12) {H : Heap} {locs : List Loc} (I : sg_I P shM 35 A s.heap σ H locs) {ls : Array Slot} (hl : lv_has ls 5 [(0, .ref (sgA P 0)), (1, .int p1), (2, .int p2), (3, .int x3), (4, .int x4)]) {st : (Int32) ⊕ ((Int32 × Int32) ⊕ (Int32))} (h : f_X12_isFit_L15 N p1 p2 x3 x4 σ = some st) (hk : sg_k3 (fun r => sg_Ri p l e R s m args below meth c Q P shM 35 A cX12_isFit (some .boolean) (r, σ)) (fun x => sg_Wt p l e R s m args below meth c Q P shM 35 A 5 15 σ [(0, .ref (sgA P 0)), (1, .int p1), (2, .int p2), (3, .int x.1), (4, .int x.2)]) (fun y => sg_Wt p l e R s m args below meth c Q P shM 35 A 5 93 σ [(3, .int y)]) st) : W p l e R s m args below meth c H locs 0 0 Q (F0 m 15 ls []) := by
  unfold f_X12_isFit_L15 at h
  have hx := X.1.1
  have hb := X.1.2.1
  have hown := X.1.2.2.2.1
  have hts := X.1.2.2.2.2
  refine lv_iload hx hb dX12_isFit_15 (lv_at hl 4 rfl) ?_
  refine lv_aload_n hx hb dX12_isFit_17 rfl (lv_at hl 0 rfl) ?_
  refine sg_geti X I fk_X12_297 (by decide) shM_0 rfl dX12_isFit_18 ?_
  refine lv_icmp_ge (tgt := 93) hx hb dX12_isFit_21 (by decide) (fun z => ?_) (fun z => ?_)
  · have h := sg_ift h z
    obtain rfl := Option.some.inj h
    exact sg_go hk I (lv_sub hl [3] rfl)
  · have h := sg_iff h z
    refine lv_iload_n hx hb dX12_isFit_24 rfl (lv_at hl 3 rfl) ?_
    refine lv_if_eq (tgt := 93) hx hb dX12_isFit_25 (by decide) (fun z => ?_) (fun z => ?_)
    · have h := sg_ift h z
      obtain rfl := Option.some.inj h
      exact sg_go hk I (lv_sub hl [3] rfl)
    · have h := sg_iff h z
      refine lv_aload_n hx hb dX12_isFit_28 rfl (lv_at hl 0 rfl) ?_
      refine sg_getr X I fk_X12_101 (j := 29) (by decide) shM_0 rfl dX12_isFit_29 ?_
      refine lv_iload hx hb dX12_isFit_32 (lv_at hl 4 rfl) ?_
      refine sg_iald X I (by decide) shM_29 h dX12_isFit_34 (fun v3 h => ?_)
      refine lv_iload_n hx hb dX12_isFit_35 rfl (lv_at hl 1 rfl) ?_
      refine lv_icmp_ne (tgt := 81) hx hb dX12_isFit_36 (by decide) (fun z => ?_) (fun z => ?_)
      · have h := sg_iff h z
        refine lv_iconst (v := 1) hx hb dX12_isFit_81 (by decide) ?_
        refine lv_goto (tgt := 86) hx hb dX12_isFit_82 (by decide) ?_
        refine lv_istore_n (lv' := [(3, .int 1), (0, .ref (sgA P 0)), (1, .int p1), (2, .int p2), (4, .int x4)]) hx hb dX12_isFit_86 rfl hl (by decide) rfl (fun ls hl => ?_)
        refine lv_iinc (v := x4 + 1) (lv' := [(4, .int (x4 + 1)), (3, .int 1), (0, .ref (sgA P 0)), (1, .int p1), (2, .int p2)]) hx hb dX12_isFit_87 hl (k := 4) rfl rfl (by decide) rfl (fun ls hl => ?_)
        refine lv_goto (tgt := 15) hx hb dX12_isFit_90 (by decide) ?_
        obtain rfl := Option.some.inj h
        exact sg_go hk I (lv_sub hl [2, 3, 4, 1, 0] rfl)
      · have h := sg_ift h z
        refine lv_aload_n hx hb dX12_isFit_39 rfl (lv_at hl 0 rfl) ?_
        refine sg_getr X I fk_X12_114 (j := 33) (by decide) shM_0 rfl dX12_isFit_40 ?_
        refine lv_bipush (v := 10) hx hb dX12_isFit_43 (by decide) ?_
        refine lv_iload_n hx hb dX12_isFit_45 rfl (lv_at hl 2 rfl) ?_
        refine lv_imul hx hb dX12_isFit_46 ?_
        refine lv_aload_n hx hb dX12_isFit_47 rfl (lv_at hl 0 rfl) ?_
        refine sg_getr X I fk_X12_107 (j := 31) (by decide) shM_0 rfl dX12_isFit_48 ?_
        refine lv_iload hx hb dX12_isFit_51 (lv_at hl 4 rfl) ?_
        refine sg_iald X I (by decide) shM_31 h dX12_isFit_53 (fun v4 h => ?_)
        refine lv_iadd hx hb dX12_isFit_54 ?_
        refine sg_iald X I (by decide) shM_33 h dX12_isFit_55 (fun v5 h => ?_)
        refine lv_aload_n hx hb dX12_isFit_56 rfl (lv_at hl 0 rfl) ?_
        refine sg_getr X I fk_X12_104 (j := 30) (by decide) shM_0 rfl dX12_isFit_57 ?_
        refine lv_iload hx hb dX12_isFit_60 (lv_at hl 4 rfl) ?_
        refine sg_iald X I (by decide) shM_30 h dX12_isFit_62 (fun v6 h => ?_)
        refine lv_icmp_ne (tgt := 70) hx hb dX12_isFit_63 (by decide) (fun z => ?_) (fun z => ?_)
        · have h := sg_iff h z
          refine lv_iconst (v := 0) hx hb dX12_isFit_70 (by decide) ?_
          exact b_X12_isFit_L15_B71 X I (lv_sub hl [0, 1, 2, 4] rfl) h hk
        · have h := sg_ift h z
          refine lv_iconst (v := 1) hx hb dX12_isFit_66 (by decide) ?_
          refine lv_goto (tgt := 71) hx hb dX12_isFit_67 (by decide) ?_
          exact b_X12_isFit_L15_B71 X I (lv_sub hl [0, 1, 2, 4] rfl) h hk
def f_X12_isFit (N : Nat) (p1 : Int32) (p2 : Int32) (σ : sgS) : Option (Int32) :=
  sg_ld σ 18 4 p1 fun v1 =>
sg_cr (f_X12_beginsAt N p2 v1 σ) fun v2 =>
sg_lb (sg_lp (fun x => f_X12_isFit_L15 N p1 p2 x.1 x.2 σ) N ((v2, 0))) (fun r => some r) fun y8 =>
some (vp_nar .boolean y8)
set_option maxHeartbeats 4000000 in
set_option maxRecDepth 100000 in
theorem b_X12_isFit {p : Program} {l : Launch} {e : Env} {R : Room} {s : State} {m : MethodId} {args : Array Value} {below : List Frame} {meth : Method} {c : Code} {Q : State → Prop} {P : sgP} {A : Nat → Prop} {N : Nat} {p1 : Int32} {p2 : Int32} {σ : sgS} (X : sg_C P A 2 p R s m args c cX12_isFit 5 RX12) {H : Heap} {locs : List Loc} (I : sg_I P shM 35 A s.heap σ H locs) {ls : Array Slot} (hl : lv_has ls 5 [(0, .ref (sgA P 0)), (1, .int p1), (2, .int p2)]) {st : Int32} (h : f_X12_isFit N p1 p2 σ = some st) (hk : sg_Ri p l e R s m args below meth c Q P shM 35 A cX12_isFit (some .boolean) (st, σ)) : W p l e R s m args below meth c H locs 0 0 Q (F0 m 0 ls []) := by
  unfold f_X12_isFit at h
  have hx := X.1.1
  have hb := X.1.2.1
  have hown := X.1.2.2.2.1
  have hts := X.1.2.2.2.2
  refine lv_aload_n hx hb dX12_isFit_0 rfl (lv_at hl 0 rfl) ?_
  refine lv_iload_n hx hb dX12_isFit_1 rfl (lv_at hl 2 rfl) ?_
  refine lv_aload_n hx hb dX12_isFit_2 rfl (lv_at hl 0 rfl) ?_
  refine sg_getr X I fk_X12_61 (j := 18) (by decide) shM_0 rfl dX12_isFit_3 ?_
  refine lv_iload_n hx hb dX12_isFit_6 rfl (lv_at hl 1 rfl) ?_
  refine sg_iald X I (by decide) shM_18 h dX12_isFit_7 (fun v1 h => ?_)
  refine sg_callVr (As := [.int p2, .int v1]) X I mk_X12_391 (by decide) (by decide) shM_0 rfl (fun q9 e9 => c_X12_beginsAt e9) h hl.1 rfl rfl (Nat.le_of_ble_eq_true rfl) dX12_isFit_8 (fun v2 H locs h I => ?_)
  refine lv_istore_n (lv' := [(3, .int v2), (0, .ref (sgA P 0)), (1, .int p1), (2, .int p2)]) hx hb dX12_isFit_11 rfl hl (by decide) rfl (fun ls hl => ?_)
  refine lv_iconst (v := 0) hx hb dX12_isFit_12 (by decide) ?_
  refine lv_istore (lv' := [(4, .int 0), (3, .int v2), (0, .ref (sgA P 0)), (1, .int p1), (2, .int p2)]) hx hb dX12_isFit_13 hl (by decide) rfl (fun ls hl => ?_)
  obtain ⟨res, e9, k9⟩ := sg_lb_some h
  refine sg_go (sg_lp_W (a := (fun r => sg_Ri p l e R s m args below meth c Q P shM 35 A cX12_isFit (some .boolean) (r, σ))) (w := (fun x => sg_Wt p l e R s m args below meth c Q P shM 35 A 5 15 σ [(0, .ref (sgA P 0)), (1, .int p1), (2, .int p2), (3, .int x.1), (4, .int x.2)])) (c := (fun y => sg_Wt p l e R s m args below meth c Q P shM 35 A 5 93 σ [(3, .int y)])) (fun x st hb9 hk9 => ?_) N ((v2, 0)) res e9 (sg_k2_mono k9 (fun r h => ?_) (fun y8 h => ?_))) I (lv_sub hl [2, 3, 4, 1, 0] rfl)
  · intro H locs ls I hl
    exact b_X12_isFit_L15 X I hl hb9 hk9
  · obtain rfl := Option.some.inj h
    exact hk
  · intro H locs ls I hl
    refine lv_iload_n hx hb dX12_isFit_93 rfl (lv_at hl 0 rfl) ?_
    obtain rfl := Option.some.inj h
    exact hk _ _ _ _ _ I ⟨_, rfl, rfl⟩ dX12_isFit_94
set_option maxHeartbeats 4000000 in
set_option maxRecDepth 100000 in
theorem c_X12_isFit {l : Launch} {P : sgP} {N : Nat} {p1 : Int32} {p2 : Int32} {σ : sgS} {q : Int32} (h : f_X12_isFit N p1 p2 σ = some q) : sg_Mi P shM 35 l yX12_isFit cX12_isFit 5 (some .boolean) 2 [.ref (sgA P 0), .int p1, .int p2] σ (q, σ) := by
  refine sg_mki (plainFor_of_name (by decide +kernel)) (Nat.le_of_ble_eq_true rfl) ?_
  intro p e R s m args below meth c Q A ls H locs X I hl hk
  exact b_X12_isFit X I hl h hk
def f_X12_fitsOf_L9 (N : Nat) (p1 : Int32) (x2 : Int32) (x3 : Int32) (σ : sgS) : Option ((Int32 × sgS) ⊕ ((Int32 × Int32) ⊕ (Int32))) :=
  if (σ.1 0 33) ≤ x3 then
  (some (.inr (.inr x2)))
else
  (sg_cr (f_X12_isFit N p1 x3 σ) fun v3 =>
  if v3 = 0 then
    (some (.inr (.inl (x2 ||| 0, x3 + 1))))
  else
    (some (.inr (.inl (x2 ||| (1 <<< (x3 &&& 31)), x3 + 1)))))
set_option maxHeartbeats 4000000 in
set_option maxRecDepth 100000 in
theorem b_X12_fitsOf_L9 {p : Program} {l : Launch} {e : Env} {R : Room} {s : State} {m : MethodId} {args : Array Value} {below : List Frame} {meth : Method} {c : Code} {Q : State → Prop} {P : sgP} {A : Nat → Prop} {N : Nat} {p1 : Int32} {x2 : Int32} {x3 : Int32} {σ : sgS} (X : sg_C P A 10 p R s m args c cX12_fitsOf 4 RX12) {H : Heap} {locs : List Loc} (I : sg_I P shM 35 A s.heap σ H locs) {ls : Array Slot} (hl : lv_has ls 4 [(0, .ref (sgA P 0)), (1, .int p1), (2, .int x2), (3, .int x3)]) {st : (Int32 × sgS) ⊕ ((Int32 × Int32) ⊕ (Int32))} (h : f_X12_fitsOf_L9 N p1 x2 x3 σ = some st) (hk : sg_k3 (sg_Ri p l e R s m args below meth c Q P shM 35 A cX12_fitsOf (some .int)) (fun x => sg_Wt p l e R s m args below meth c Q P shM 35 A 4 9 σ [(0, .ref (sgA P 0)), (1, .int p1), (2, .int x.1), (3, .int x.2)]) (fun y => sg_Wt p l e R s m args below meth c Q P shM 35 A 4 42 σ [(2, .int y)]) st) : W p l e R s m args below meth c H locs 0 0 Q (F0 m 9 ls []) := by
  unfold f_X12_fitsOf_L9 at h
  have hx := X.1.1
  have hb := X.1.2.1
  have hown := X.1.2.2.2.1
  have hts := X.1.2.2.2.2
  refine lv_iload_n hx hb dX12_fitsOf_9 rfl (lv_at hl 3 rfl) ?_
  refine lv_aload_n hx hb dX12_fitsOf_10 rfl (lv_at hl 0 rfl) ?_
  refine sg_geti X I fk_X12_313 (by decide) shM_0 rfl dX12_fitsOf_11 ?_
  refine lv_icmp_ge (tgt := 42) hx hb dX12_fitsOf_14 (by decide) (fun z => ?_) (fun z => ?_)
  · have h := sg_ift h z
    obtain rfl := Option.some.inj h
    exact sg_go hk I (lv_sub hl [2] rfl)
  · have h := sg_iff h z
    refine lv_iload_n hx hb dX12_fitsOf_17 rfl (lv_at hl 2 rfl) ?_
    refine lv_aload_n hx hb dX12_fitsOf_18 rfl (lv_at hl 0 rfl) ?_
    refine lv_iload_n hx hb dX12_fitsOf_19 rfl (lv_at hl 1 rfl) ?_
    refine lv_iload_n hx hb dX12_fitsOf_20 rfl (lv_at hl 3 rfl) ?_
    refine sg_callVr (As := [.int p1, .int x3]) X I mk_X12_453 (by decide) (by decide) shM_0 rfl (fun q9 e9 => c_X12_isFit e9) h hl.1 rfl rfl (Nat.le_of_ble_eq_true rfl) dX12_fitsOf_21 (fun v3 H locs h I => ?_)
    refine lv_if_eq (tgt := 33) hx hb dX12_fitsOf_24 (by decide) (fun z => ?_) (fun z => ?_)
    · have h := sg_ift h z
      refine lv_iconst (v := 0) hx hb dX12_fitsOf_33 (by decide) ?_
      refine lv_ior hx hb dX12_fitsOf_34 ?_
      refine lv_istore_n (lv' := [(2, .int (x2 ||| 0)), (0, .ref (sgA P 0)), (1, .int p1), (3, .int x3)]) hx hb dX12_fitsOf_35 rfl hl (by decide) rfl (fun ls hl => ?_)
      refine lv_iinc (v := x3 + 1) (lv' := [(3, .int (x3 + 1)), (2, .int (x2 ||| 0)), (0, .ref (sgA P 0)), (1, .int p1)]) hx hb dX12_fitsOf_36 hl (k := 3) rfl rfl (by decide) rfl (fun ls hl => ?_)
      refine lv_goto (tgt := 9) hx hb dX12_fitsOf_39 (by decide) ?_
      obtain rfl := Option.some.inj h
      exact sg_go hk I (lv_sub hl [2, 3, 1, 0] rfl)
    · have h := sg_iff h z
      refine lv_iconst (v := 1) hx hb dX12_fitsOf_27 (by decide) ?_
      refine lv_iload_n hx hb dX12_fitsOf_28 rfl (lv_at hl 3 rfl) ?_
      refine lv_ishl hx hb dX12_fitsOf_29 ?_
      refine lv_goto (tgt := 34) hx hb dX12_fitsOf_30 (by decide) ?_
      refine lv_ior hx hb dX12_fitsOf_34 ?_
      refine lv_istore_n (lv' := [(2, .int (x2 ||| (1 <<< (x3 &&& 31)))), (0, .ref (sgA P 0)), (1, .int p1), (3, .int x3)]) hx hb dX12_fitsOf_35 rfl hl (by decide) rfl (fun ls hl => ?_)
      refine lv_iinc (v := x3 + 1) (lv' := [(3, .int (x3 + 1)), (2, .int (x2 ||| (1 <<< (x3 &&& 31)))), (0, .ref (sgA P 0)), (1, .int p1)]) hx hb dX12_fitsOf_36 hl (k := 3) rfl rfl (by decide) rfl (fun ls hl => ?_)
      refine lv_goto (tgt := 9) hx hb dX12_fitsOf_39 (by decide) ?_
      obtain rfl := Option.some.inj h
      exact sg_go hk I (lv_sub hl [2, 3, 1, 0] rfl)
def f_X12_fitsOf (N : Nat) (p1 : Int32) (σ : sgS) : Option (Int32 × sgS) :=
  sg_cl (f_X12_layTrails N p1 σ) fun v1 s2 =>
sg_lb (sg_lp (fun x => f_X12_fitsOf_L9 N p1 x.1 x.2 s2) N ((0, 0))) (fun r => some r) fun y4 =>
some (y4, s2)
set_option maxHeartbeats 4000000 in
set_option maxRecDepth 100000 in
theorem b_X12_fitsOf {p : Program} {l : Launch} {e : Env} {R : Room} {s : State} {m : MethodId} {args : Array Value} {below : List Frame} {meth : Method} {c : Code} {Q : State → Prop} {P : sgP} {A : Nat → Prop} {N : Nat} {p1 : Int32} {σ : sgS} (X : sg_C P A 10 p R s m args c cX12_fitsOf 4 RX12) {H : Heap} {locs : List Loc} (I : sg_I P shM 35 A s.heap σ H locs) {ls : Array Slot} (hl : lv_has ls 4 [(0, .ref (sgA P 0)), (1, .int p1)]) {st : Int32 × sgS} (h : f_X12_fitsOf N p1 σ = some st) (hk : sg_Ri p l e R s m args below meth c Q P shM 35 A cX12_fitsOf (some .int) st) : W p l e R s m args below meth c H locs 0 0 Q (F0 m 0 ls []) := by
  unfold f_X12_fitsOf at h
  have hx := X.1.1
  have hb := X.1.2.1
  have hown := X.1.2.2.2.1
  have hts := X.1.2.2.2.2
  refine lv_aload_n hx hb dX12_fitsOf_0 rfl (lv_at hl 0 rfl) ?_
  refine lv_iload_n hx hb dX12_fitsOf_1 rfl (lv_at hl 1 rfl) ?_
  refine sg_callVv (As := [.int p1]) X I mk_X12_450 (by decide) (by decide) shM_0 rfl (fun q9 e9 => c_X12_layTrails e9) h hl.1 rfl rfl (Nat.le_of_ble_eq_true rfl) dX12_fitsOf_2 (fun v1 s2 H locs h I => ?_)
  refine lv_iconst (v := 0) hx hb dX12_fitsOf_5 (by decide) ?_
  refine lv_istore_n (lv' := [(2, .int 0), (0, .ref (sgA P 0)), (1, .int p1)]) hx hb dX12_fitsOf_6 rfl hl (by decide) rfl (fun ls hl => ?_)
  refine lv_iconst (v := 0) hx hb dX12_fitsOf_7 (by decide) ?_
  refine lv_istore_n (lv' := [(3, .int 0), (2, .int 0), (0, .ref (sgA P 0)), (1, .int p1)]) hx hb dX12_fitsOf_8 rfl hl (by decide) rfl (fun ls hl => ?_)
  obtain ⟨res, e9, k9⟩ := sg_lb_some h
  refine sg_go (sg_lp_W (a := (sg_Ri p l e R s m args below meth c Q P shM 35 A cX12_fitsOf (some .int))) (w := (fun x => sg_Wt p l e R s m args below meth c Q P shM 35 A 4 9 s2 [(0, .ref (sgA P 0)), (1, .int p1), (2, .int x.1), (3, .int x.2)])) (c := (fun y => sg_Wt p l e R s m args below meth c Q P shM 35 A 4 42 s2 [(2, .int y)])) (fun x st hb9 hk9 => ?_) N ((0, 0)) res e9 (sg_k2_mono k9 (fun r h => ?_) (fun y4 h => ?_))) I (lv_sub hl [2, 3, 1, 0] rfl)
  · intro H locs ls I hl
    exact b_X12_fitsOf_L9 X I hl hb9 hk9
  · obtain rfl := Option.some.inj h
    exact hk
  · intro H locs ls I hl
    refine lv_iload_n hx hb dX12_fitsOf_42 rfl (lv_at hl 0 rfl) ?_
    obtain rfl := Option.some.inj h
    exact hk _ _ _ _ _ I ⟨_, rfl, rfl⟩ dX12_fitsOf_43
set_option maxHeartbeats 4000000 in
set_option maxRecDepth 100000 in
theorem c_X12_fitsOf {l : Launch} {P : sgP} {N : Nat} {p1 : Int32} {σ : sgS} {q : Int32 × sgS} (h : f_X12_fitsOf N p1 σ = some q) : sg_Mi P shM 35 l yX12_fitsOf cX12_fitsOf 4 (some .int) 10 [.ref (sgA P 0), .int p1] σ q := by
  refine sg_mki (plainFor_of_name (by decide +kernel)) (Nat.le_of_ble_eq_true rfl) ?_
  intro p e R s m args below meth c Q A ls H locs X I hl hk
  exact b_X12_fitsOf X I hl h hk
def f_X12_fits (N : Nat) (p1 : Int32) (σ : sgS) : Option (Int32 × sgS) :=
  sg_cr (f_X12_isSet N p1 σ) fun v1 =>
if v1 = 0 then
  (some ((-1), σ))
else
  (sg_cl (f_X12_fitsOf N p1 σ) fun v2 s3 =>
  some (v2, s3))
set_option maxHeartbeats 4000000 in
set_option maxRecDepth 100000 in
theorem b_X12_fits {p : Program} {l : Launch} {e : Env} {R : Room} {s : State} {m : MethodId} {args : Array Value} {below : List Frame} {meth : Method} {c : Code} {Q : State → Prop} {P : sgP} {A : Nat → Prop} {N : Nat} {p1 : Int32} {σ : sgS} (X : sg_C P A 11 p R s m args c cX12_fits 2 RX12) {H : Heap} {locs : List Loc} (I : sg_I P shM 35 A s.heap σ H locs) {ls : Array Slot} (hl : lv_has ls 2 [(0, .ref (sgA P 0)), (1, .int p1)]) {st : Int32 × sgS} (h : f_X12_fits N p1 σ = some st) (hk : sg_Ri p l e R s m args below meth c Q P shM 35 A cX12_fits (some .int) st) : W p l e R s m args below meth c H locs 0 0 Q (F0 m 0 ls []) := by
  unfold f_X12_fits at h
  have hx := X.1.1
  have hb := X.1.2.1
  have hown := X.1.2.2.2.1
  have hts := X.1.2.2.2.2
  refine lv_aload_n hx hb dX12_fits_0 rfl (lv_at hl 0 rfl) ?_
  refine lv_iload_n hx hb dX12_fits_1 rfl (lv_at hl 1 rfl) ?_
  refine sg_callVr (As := [.int p1]) X I mk_X12_370 (by decide) (by decide) shM_0 rfl (fun q9 e9 => c_X12_isSet e9) h hl.1 rfl rfl (Nat.le_of_ble_eq_true rfl) dX12_fits_2 (fun v1 H locs h I => ?_)
  refine lv_if_eq (tgt := 16) hx hb dX12_fits_5 (by decide) (fun z => ?_) (fun z => ?_)
  · have h := sg_ift h z
    refine lv_iconst (v := -1) hx hb dX12_fits_16 (by decide) ?_
    obtain rfl := Option.some.inj h
    exact hk _ _ _ _ _ I ⟨_, rfl, rfl⟩ dX12_fits_17
  · have h := sg_iff h z
    refine lv_aload_n hx hb dX12_fits_8 rfl (lv_at hl 0 rfl) ?_
    refine lv_iload_n hx hb dX12_fits_9 rfl (lv_at hl 1 rfl) ?_
    refine sg_callV (As := [.int p1]) X I mk_X12_456 (by decide) (by decide) shM_0 rfl (fun q9 e9 => c_X12_fitsOf e9) h hl.1 rfl rfl (Nat.le_of_ble_eq_true rfl) dX12_fits_10 (fun v2 s3 H locs h I => ?_)
    refine lv_goto (tgt := 17) hx hb dX12_fits_13 (by decide) ?_
    obtain rfl := Option.some.inj h
    exact hk _ _ _ _ _ I ⟨_, rfl, rfl⟩ dX12_fits_17
set_option maxHeartbeats 4000000 in
set_option maxRecDepth 100000 in
theorem c_X12_fits {l : Launch} {P : sgP} {N : Nat} {p1 : Int32} {σ : sgS} {q : Int32 × sgS} (h : f_X12_fits N p1 σ = some q) : sg_Mi P shM 35 l yX12_fits cX12_fits 2 (some .int) 11 [.ref (sgA P 0), .int p1] σ q := by
  refine sg_mki (plainFor_of_name (by decide +kernel)) (Nat.le_of_ble_eq_true rfl) ?_
  intro p e R s m args below meth c Q A ls H locs X I hl hk
  exact b_X12_fits X I hl h hk
def f_X12_mostAlike_L20 (N : Nat) (p1 : Int32) (p2 : Int32) (w3 : Int32) (w4 : Int32) (x5 : Int32) (x6 : Int32) (σ : sgS) : Option ((Int32) ⊕ ((Int32 × Int32) ⊕ (Int32))) :=
  if (σ.1 0 33) ≤ x6 then
  (some (.inr (.inr x5)))
else
  (sg_cr (f_X12_has N p1 x6 σ) fun v1 =>
  if v1 = 0 then
    (some (.inr (.inl (x5 + 0, x6 + 1))))
  else
    (sg_ld σ 33 40 ((10 * x6) + p2) fun v2 =>
    if v2 = w4 then
      (some (.inr (.inl (x5 + 1, x6 + 1))))
    else
      (some (.inr (.inl (x5 + 0, x6 + 1))))))
set_option maxHeartbeats 4000000 in
set_option maxRecDepth 100000 in
theorem b_X12_mostAlike_L20 {p : Program} {l : Launch} {e : Env} {R : Room} {s : State} {m : MethodId} {args : Array Value} {below : List Frame} {meth : Method} {c : Code} {Q : State → Prop} {P : sgP} {A : Nat → Prop} {N : Nat} {p1 : Int32} {p2 : Int32} {w3 : Int32} {w4 : Int32} {x5 : Int32} {x6 : Int32} {σ : sgS} (X : sg_C P A 2 p R s m args c cX12_mostAlike 7 RX12) {H : Heap} {locs : List Loc} (I : sg_I P shM 35 A s.heap σ H locs) {ls : Array Slot} (hl : lv_has ls 7 [(0, .ref (sgA P 0)), (1, .int p1), (2, .int p2), (3, .int w3), (4, .int w4), (5, .int x5), (6, .int x6)]) {st : (Int32) ⊕ ((Int32 × Int32) ⊕ (Int32))} (h : f_X12_mostAlike_L20 N p1 p2 w3 w4 x5 x6 σ = some st) (hk : sg_k3 (fun r => sg_Ri p l e R s m args below meth c Q P shM 35 A cX12_mostAlike (some .int) (r, σ)) (fun x => sg_Wt p l e R s m args below meth c Q P shM 35 A 7 20 σ [(0, .ref (sgA P 0)), (1, .int p1), (2, .int p2), (3, .int w3), (4, .int w4), (5, .int x.1), (6, .int x.2)]) (fun y => sg_Wt p l e R s m args below meth c Q P shM 35 A 7 71 σ [(0, .ref (sgA P 0)), (1, .int p1), (2, .int p2), (3, .int w3), (4, .int w4), (5, .int y)]) st) : W p l e R s m args below meth c H locs 0 0 Q (F0 m 20 ls []) := by
  unfold f_X12_mostAlike_L20 at h
  have hx := X.1.1
  have hb := X.1.2.1
  have hown := X.1.2.2.2.1
  have hts := X.1.2.2.2.2
  refine lv_iload hx hb dX12_mostAlike_20 (lv_at hl 6 rfl) ?_
  refine lv_aload_n hx hb dX12_mostAlike_22 rfl (lv_at hl 0 rfl) ?_
  refine sg_geti X I fk_X12_313 (by decide) shM_0 rfl dX12_mostAlike_23 ?_
  refine lv_icmp_ge (tgt := 71) hx hb dX12_mostAlike_26 (by decide) (fun z => ?_) (fun z => ?_)
  · have h := sg_ift h z
    obtain rfl := Option.some.inj h
    exact sg_go hk I (lv_sub hl [0, 1, 2, 3, 4, 5] rfl)
  · have h := sg_iff h z
    refine lv_iload hx hb dX12_mostAlike_29 (lv_at hl 5 rfl) ?_
    refine lv_iload_n hx hb dX12_mostAlike_31 rfl (lv_at hl 1 rfl) ?_
    refine lv_iload hx hb dX12_mostAlike_32 (lv_at hl 6 rfl) ?_
    refine sg_callSr (As := [.int p1, .int x6]) X I mk_X12_246 (by decide) (fun q9 e9 => c_X12_has e9) h hl.1 rfl rfl (Nat.le_of_ble_eq_true rfl) dX12_mostAlike_34 (fun v1 H locs h I => ?_)
    refine lv_if_eq (tgt := 61) hx hb dX12_mostAlike_37 (by decide) (fun z => ?_) (fun z => ?_)
    · have h := sg_ift h z
      refine lv_iconst (v := 0) hx hb dX12_mostAlike_61 (by decide) ?_
      refine lv_iadd hx hb dX12_mostAlike_62 ?_
      refine lv_istore (lv' := [(5, .int (x5 + 0)), (0, .ref (sgA P 0)), (1, .int p1), (2, .int p2), (3, .int w3), (4, .int w4), (6, .int x6)]) hx hb dX12_mostAlike_63 hl (by decide) rfl (fun ls hl => ?_)
      refine lv_iinc (v := x6 + 1) (lv' := [(6, .int (x6 + 1)), (5, .int (x5 + 0)), (0, .ref (sgA P 0)), (1, .int p1), (2, .int p2), (3, .int w3), (4, .int w4)]) hx hb dX12_mostAlike_65 hl (k := 6) rfl rfl (by decide) rfl (fun ls hl => ?_)
      refine lv_goto (tgt := 20) hx hb dX12_mostAlike_68 (by decide) ?_
      obtain rfl := Option.some.inj h
      exact sg_go hk I (lv_sub hl [2, 3, 4, 5, 6, 1, 0] rfl)
    · have h := sg_iff h z
      refine lv_aload_n hx hb dX12_mostAlike_40 rfl (lv_at hl 0 rfl) ?_
      refine sg_getr X I fk_X12_114 (j := 33) (by decide) shM_0 rfl dX12_mostAlike_41 ?_
      refine lv_bipush (v := 10) hx hb dX12_mostAlike_44 (by decide) ?_
      refine lv_iload hx hb dX12_mostAlike_46 (lv_at hl 6 rfl) ?_
      refine lv_imul hx hb dX12_mostAlike_48 ?_
      refine lv_iload_n hx hb dX12_mostAlike_49 rfl (lv_at hl 2 rfl) ?_
      refine lv_iadd hx hb dX12_mostAlike_50 ?_
      refine sg_iald X I (by decide) shM_33 h dX12_mostAlike_51 (fun v2 h => ?_)
      refine lv_iload hx hb dX12_mostAlike_52 (lv_at hl 4 rfl) ?_
      refine lv_icmp_ne (tgt := 61) hx hb dX12_mostAlike_54 (by decide) (fun z => ?_) (fun z => ?_)
      · have h := sg_iff h z
        refine lv_iconst (v := 0) hx hb dX12_mostAlike_61 (by decide) ?_
        refine lv_iadd hx hb dX12_mostAlike_62 ?_
        refine lv_istore (lv' := [(5, .int (x5 + 0)), (0, .ref (sgA P 0)), (1, .int p1), (2, .int p2), (3, .int w3), (4, .int w4), (6, .int x6)]) hx hb dX12_mostAlike_63 hl (by decide) rfl (fun ls hl => ?_)
        refine lv_iinc (v := x6 + 1) (lv' := [(6, .int (x6 + 1)), (5, .int (x5 + 0)), (0, .ref (sgA P 0)), (1, .int p1), (2, .int p2), (3, .int w3), (4, .int w4)]) hx hb dX12_mostAlike_65 hl (k := 6) rfl rfl (by decide) rfl (fun ls hl => ?_)
        refine lv_goto (tgt := 20) hx hb dX12_mostAlike_68 (by decide) ?_
        obtain rfl := Option.some.inj h
        exact sg_go hk I (lv_sub hl [2, 3, 4, 5, 6, 1, 0] rfl)
      · have h := sg_ift h z
        refine lv_iconst (v := 1) hx hb dX12_mostAlike_57 (by decide) ?_
        refine lv_goto (tgt := 62) hx hb dX12_mostAlike_58 (by decide) ?_
        refine lv_iadd hx hb dX12_mostAlike_62 ?_
        refine lv_istore (lv' := [(5, .int (x5 + 1)), (0, .ref (sgA P 0)), (1, .int p1), (2, .int p2), (3, .int w3), (4, .int w4), (6, .int x6)]) hx hb dX12_mostAlike_63 hl (by decide) rfl (fun ls hl => ?_)
        refine lv_iinc (v := x6 + 1) (lv' := [(6, .int (x6 + 1)), (5, .int (x5 + 1)), (0, .ref (sgA P 0)), (1, .int p1), (2, .int p2), (3, .int w3), (4, .int w4)]) hx hb dX12_mostAlike_65 hl (k := 6) rfl rfl (by decide) rfl (fun ls hl => ?_)
        refine lv_goto (tgt := 20) hx hb dX12_mostAlike_68 (by decide) ?_
        obtain rfl := Option.some.inj h
        exact sg_go hk I (lv_sub hl [2, 3, 4, 5, 6, 1, 0] rfl)
def f_X12_mostAlike_L5 (N : Nat) (p1 : Int32) (p2 : Int32) (x3 : Int32) (x4 : Int32) (σ : sgS) : Option ((Int32) ⊕ ((Int32 × Int32) ⊕ (Int32))) :=
  if (σ.1 0 28) ≤ x4 then
  (some (.inr (.inr x3)))
else
  (sg_lb (sg_lp (fun x => f_X12_mostAlike_L20 N p1 p2 x3 x4 x.1 x.2 σ) N ((0, 0))) (fun r => some (.inl r)) fun y3 =>
  some (.inr (.inl ((if x3 < y3 then y3 else x3), x4 + 1))))
set_option maxHeartbeats 4000000 in
set_option maxRecDepth 100000 in
theorem b_X12_mostAlike_L5 {p : Program} {l : Launch} {e : Env} {R : Room} {s : State} {m : MethodId} {args : Array Value} {below : List Frame} {meth : Method} {c : Code} {Q : State → Prop} {P : sgP} {A : Nat → Prop} {N : Nat} {p1 : Int32} {p2 : Int32} {x3 : Int32} {x4 : Int32} {σ : sgS} (X : sg_C P A 2 p R s m args c cX12_mostAlike 7 RX12) {H : Heap} {locs : List Loc} (I : sg_I P shM 35 A s.heap σ H locs) {ls : Array Slot} (hl : lv_has ls 7 [(0, .ref (sgA P 0)), (1, .int p1), (2, .int p2), (3, .int x3), (4, .int x4)]) {st : (Int32) ⊕ ((Int32 × Int32) ⊕ (Int32))} (h : f_X12_mostAlike_L5 N p1 p2 x3 x4 σ = some st) (hk : sg_k3 (fun r => sg_Ri p l e R s m args below meth c Q P shM 35 A cX12_mostAlike (some .int) (r, σ)) (fun x => sg_Wt p l e R s m args below meth c Q P shM 35 A 7 5 σ [(0, .ref (sgA P 0)), (1, .int p1), (2, .int p2), (3, .int x.1), (4, .int x.2)]) (fun y => sg_Wt p l e R s m args below meth c Q P shM 35 A 7 84 σ [(3, .int y)]) st) : W p l e R s m args below meth c H locs 0 0 Q (F0 m 5 ls []) := by
  unfold f_X12_mostAlike_L5 at h
  have hx := X.1.1
  have hb := X.1.2.1
  have hown := X.1.2.2.2.1
  have hts := X.1.2.2.2.2
  refine lv_iload hx hb dX12_mostAlike_5 (lv_at hl 4 rfl) ?_
  refine lv_aload_n hx hb dX12_mostAlike_7 rfl (lv_at hl 0 rfl) ?_
  refine sg_geti X I fk_X12_288 (by decide) shM_0 rfl dX12_mostAlike_8 ?_
  refine lv_icmp_ge (tgt := 84) hx hb dX12_mostAlike_11 (by decide) (fun z => ?_) (fun z => ?_)
  · have h := sg_ift h z
    obtain rfl := Option.some.inj h
    exact sg_go hk I (lv_sub hl [3] rfl)
  · have h := sg_iff h z
    refine lv_iconst (v := 0) hx hb dX12_mostAlike_14 (by decide) ?_
    refine lv_istore (lv' := [(5, .int 0), (0, .ref (sgA P 0)), (1, .int p1), (2, .int p2), (3, .int x3), (4, .int x4)]) hx hb dX12_mostAlike_15 hl (by decide) rfl (fun ls hl => ?_)
    refine lv_iconst (v := 0) hx hb dX12_mostAlike_17 (by decide) ?_
    refine lv_istore (lv' := [(6, .int 0), (5, .int 0), (0, .ref (sgA P 0)), (1, .int p1), (2, .int p2), (3, .int x3), (4, .int x4)]) hx hb dX12_mostAlike_18 hl (by decide) rfl (fun ls hl => ?_)
    obtain ⟨res, e9, k9⟩ := sg_lb_some h
    refine sg_go (sg_lp_W (a := (fun r => sg_Ri p l e R s m args below meth c Q P shM 35 A cX12_mostAlike (some .int) (r, σ))) (w := (fun x => sg_Wt p l e R s m args below meth c Q P shM 35 A 7 20 σ [(0, .ref (sgA P 0)), (1, .int p1), (2, .int p2), (3, .int x3), (4, .int x4), (5, .int x.1), (6, .int x.2)])) (c := (fun y => sg_Wt p l e R s m args below meth c Q P shM 35 A 7 71 σ [(0, .ref (sgA P 0)), (1, .int p1), (2, .int p2), (3, .int x3), (4, .int x4), (5, .int y)])) (fun x st hb9 hk9 => ?_) N ((0, 0)) res e9 (sg_k2_mono k9 (fun r h => ?_) (fun y3 h => ?_))) I (lv_sub hl [2, 3, 4, 5, 6, 1, 0] rfl)
    · intro H locs ls I hl
      exact b_X12_mostAlike_L20 X I hl hb9 hk9
    · obtain rfl := Option.some.inj h
      exact hk
    · intro H locs ls I hl
      refine lv_iload_n hx hb dX12_mostAlike_71 rfl (lv_at hl 3 rfl) ?_
      refine lv_iload hx hb dX12_mostAlike_72 (lv_at hl 5 rfl) ?_
      refine sg_mmax X hl.1 (by first | decide | omega) qw_755 qw_285 qw_286 qw_287 (Nat.le_of_ble_eq_true rfl) dX12_mostAlike_74 ?_
      refine lv_istore_n (lv' := [(3, .int ((if x3 < y3 then y3 else x3))), (0, .ref (sgA P 0)), (1, .int p1), (2, .int p2), (4, .int x4), (5, .int y3)]) hx hb dX12_mostAlike_77 rfl hl (by decide) rfl (fun ls hl => ?_)
      refine lv_iinc (v := x4 + 1) (lv' := [(4, .int (x4 + 1)), (3, .int ((if x3 < y3 then y3 else x3))), (0, .ref (sgA P 0)), (1, .int p1), (2, .int p2), (5, .int y3)]) hx hb dX12_mostAlike_78 hl (k := 4) rfl rfl (by decide) rfl (fun ls hl => ?_)
      refine lv_goto (tgt := 5) hx hb dX12_mostAlike_81 (by decide) ?_
      obtain rfl := Option.some.inj h
      exact sg_go hk I (lv_sub hl [2, 3, 4, 1, 0] rfl)
def f_X12_mostAlike (N : Nat) (p1 : Int32) (p2 : Int32) (σ : sgS) : Option (Int32) :=
  sg_lb (sg_lp (fun x => f_X12_mostAlike_L5 N p1 p2 x.1 x.2 σ) N ((0, 0))) (fun r => some r) fun y4 =>
some y4
set_option maxHeartbeats 4000000 in
set_option maxRecDepth 100000 in
theorem b_X12_mostAlike {p : Program} {l : Launch} {e : Env} {R : Room} {s : State} {m : MethodId} {args : Array Value} {below : List Frame} {meth : Method} {c : Code} {Q : State → Prop} {P : sgP} {A : Nat → Prop} {N : Nat} {p1 : Int32} {p2 : Int32} {σ : sgS} (X : sg_C P A 2 p R s m args c cX12_mostAlike 7 RX12) {H : Heap} {locs : List Loc} (I : sg_I P shM 35 A s.heap σ H locs) {ls : Array Slot} (hl : lv_has ls 7 [(0, .ref (sgA P 0)), (1, .int p1), (2, .int p2)]) {st : Int32} (h : f_X12_mostAlike N p1 p2 σ = some st) (hk : sg_Ri p l e R s m args below meth c Q P shM 35 A cX12_mostAlike (some .int) (st, σ)) : W p l e R s m args below meth c H locs 0 0 Q (F0 m 0 ls []) := by
  unfold f_X12_mostAlike at h
  have hx := X.1.1
  have hb := X.1.2.1
  have hown := X.1.2.2.2.1
  have hts := X.1.2.2.2.2
  refine lv_iconst (v := 0) hx hb dX12_mostAlike_0 (by decide) ?_
  refine lv_istore_n (lv' := [(3, .int 0), (0, .ref (sgA P 0)), (1, .int p1), (2, .int p2)]) hx hb dX12_mostAlike_1 rfl hl (by decide) rfl (fun ls hl => ?_)
  refine lv_iconst (v := 0) hx hb dX12_mostAlike_2 (by decide) ?_
  refine lv_istore (lv' := [(4, .int 0), (3, .int 0), (0, .ref (sgA P 0)), (1, .int p1), (2, .int p2)]) hx hb dX12_mostAlike_3 hl (by decide) rfl (fun ls hl => ?_)
  obtain ⟨res, e9, k9⟩ := sg_lb_some h
  refine sg_go (sg_lp_W (a := (fun r => sg_Ri p l e R s m args below meth c Q P shM 35 A cX12_mostAlike (some .int) (r, σ))) (w := (fun x => sg_Wt p l e R s m args below meth c Q P shM 35 A 7 5 σ [(0, .ref (sgA P 0)), (1, .int p1), (2, .int p2), (3, .int x.1), (4, .int x.2)])) (c := (fun y => sg_Wt p l e R s m args below meth c Q P shM 35 A 7 84 σ [(3, .int y)])) (fun x st hb9 hk9 => ?_) N ((0, 0)) res e9 (sg_k2_mono k9 (fun r h => ?_) (fun y4 h => ?_))) I (lv_sub hl [2, 3, 4, 1, 0] rfl)
  · intro H locs ls I hl
    exact b_X12_mostAlike_L5 X I hl hb9 hk9
  · obtain rfl := Option.some.inj h
    exact hk
  · intro H locs ls I hl
    refine lv_iload_n hx hb dX12_mostAlike_84 rfl (lv_at hl 0 rfl) ?_
    obtain rfl := Option.some.inj h
    exact hk _ _ _ _ _ I ⟨_, rfl, rfl⟩ dX12_mostAlike_85
set_option maxHeartbeats 4000000 in
set_option maxRecDepth 100000 in
theorem c_X12_mostAlike {l : Launch} {P : sgP} {N : Nat} {p1 : Int32} {p2 : Int32} {σ : sgS} {q : Int32} (h : f_X12_mostAlike N p1 p2 σ = some q) : sg_Mi P shM 35 l yX12_mostAlike cX12_mostAlike 7 (some .int) 2 [.ref (sgA P 0), .int p1, .int p2] σ (q, σ) := by
  refine sg_mki (plainFor_of_name (by decide +kernel)) (Nat.le_of_ble_eq_true rfl) ?_
  intro p e R s m args below meth c Q A ls H locs X I hl hk
  exact b_X12_mostAlike X I hl h hk
def f_X12_ask_L24 (N : Nat) (p1 : Int32) (w2 : Int32) (x3 : Int32) (x4 : Int32) (x5 : Int32) (σ : sgS) : Option ((Int32 × sgS) ⊕ ((Int32 × Int32 × Int32) ⊕ (Int32))) :=
  if 9 < x5 then
  (some (.inr (.inr x3)))
else
  (if w2 = 0 then
    (some (.inr (.inr x3)))
  else
    (sg_cr (f_X12_mostAlike N w2 x5 σ) fun v4 =>
    if x3 = ((-1)) then
      (some (.inr (.inl (x5, v4, x5 + 1))))
    else
      (if x4 ≤ v4 then
        (some (.inr (.inl (x3, x4, x5 + 1))))
      else
        (some (.inr (.inl (x5, v4, x5 + 1)))))))
set_option maxHeartbeats 4000000 in
set_option maxRecDepth 100000 in
theorem b_X12_ask_L24 {p : Program} {l : Launch} {e : Env} {R : Room} {s : State} {m : MethodId} {args : Array Value} {below : List Frame} {meth : Method} {c : Code} {Q : State → Prop} {P : sgP} {A : Nat → Prop} {N : Nat} {p1 : Int32} {w2 : Int32} {x3 : Int32} {x4 : Int32} {x5 : Int32} {σ : sgS} (X : sg_C P A 11 p R s m args c cX12_ask 7 RX12) {H : Heap} {locs : List Loc} (I : sg_I P shM 35 A s.heap σ H locs) {ls : Array Slot} (hl : lv_has ls 7 [(0, .ref (sgA P 0)), (2, .int w2), (3, .int x3), (4, .int x4), (5, .int x5)]) {st : (Int32 × sgS) ⊕ ((Int32 × Int32 × Int32) ⊕ (Int32))} (h : f_X12_ask_L24 N p1 w2 x3 x4 x5 σ = some st) (hk : sg_k3 (sg_Ri p l e R s m args below meth c Q P shM 35 A cX12_ask (some .int)) (fun x => sg_Wt p l e R s m args below meth c Q P shM 35 A 7 24 σ [(0, .ref (sgA P 0)), (2, .int w2), (3, .int x.1), (4, .int x.2.1), (5, .int x.2.2)]) (fun y => sg_Wt p l e R s m args below meth c Q P shM 35 A 7 69 σ [(3, .int y)]) st) : W p l e R s m args below meth c H locs 0 0 Q (F0 m 24 ls []) := by
  unfold f_X12_ask_L24 at h
  have hx := X.1.1
  have hb := X.1.2.1
  have hown := X.1.2.2.2.1
  have hts := X.1.2.2.2.2
  refine lv_iload hx hb dX12_ask_24 (lv_at hl 4 rfl) ?_
  refine lv_bipush (v := 9) hx hb dX12_ask_26 (by decide) ?_
  refine lv_icmp_gt (tgt := 69) hx hb dX12_ask_28 (by decide) (fun z => ?_) (fun z => ?_)
  · have h := sg_ift h z
    obtain rfl := Option.some.inj h
    exact sg_go hk I (lv_sub hl [2] rfl)
  · have h := sg_iff h z
    refine lv_iload_n hx hb dX12_ask_31 rfl (lv_at hl 1 rfl) ?_
    refine lv_if_eq (tgt := 69) hx hb dX12_ask_32 (by decide) (fun z => ?_) (fun z => ?_)
    · have h := sg_ift h z
      obtain rfl := Option.some.inj h
      exact sg_go hk I (lv_sub hl [2] rfl)
    · have h := sg_iff h z
      refine lv_aload_n hx hb dX12_ask_35 rfl (lv_at hl 0 rfl) ?_
      refine lv_iload_n hx hb dX12_ask_36 rfl (lv_at hl 1 rfl) ?_
      refine lv_iload hx hb dX12_ask_37 (lv_at hl 4 rfl) ?_
      refine sg_callVr (As := [.int w2, .int x5]) X I mk_X12_459 (by decide) (by decide) shM_0 rfl (fun q9 e9 => c_X12_mostAlike e9) h hl.1 rfl rfl (Nat.le_of_ble_eq_true rfl) dX12_ask_39 (fun v4 H locs h I => ?_)
      refine lv_istore (lv' := [(6, .int v4), (0, .ref (sgA P 0)), (2, .int w2), (3, .int x3), (4, .int x4), (5, .int x5)]) hx hb dX12_ask_42 hl (by decide) rfl (fun ls hl => ?_)
      refine lv_iload_n hx hb dX12_ask_44 rfl (lv_at hl 3 rfl) ?_
      refine lv_iconst (v := -1) hx hb dX12_ask_45 (by decide) ?_
      refine lv_icmp_eq (tgt := 56) hx hb dX12_ask_46 (by decide) (fun z => ?_) (fun z => ?_)
      · have h := sg_ift h z
        refine lv_iload hx hb dX12_ask_56 (lv_at hl 5 rfl) ?_
        refine lv_istore_n (lv' := [(3, .int x5), (6, .int v4), (0, .ref (sgA P 0)), (2, .int w2), (4, .int x4), (5, .int x5)]) hx hb dX12_ask_58 rfl hl (by decide) rfl (fun ls hl => ?_)
        refine lv_iload hx hb dX12_ask_59 (lv_at hl 1 rfl) ?_
        refine lv_istore (lv' := [(4, .int v4), (3, .int x5), (6, .int v4), (0, .ref (sgA P 0)), (2, .int w2), (5, .int x5)]) hx hb dX12_ask_61 hl (by decide) rfl (fun ls hl => ?_)
        refine lv_iinc (v := x5 + 1) (lv' := [(5, .int (x5 + 1)), (4, .int v4), (3, .int x5), (6, .int v4), (0, .ref (sgA P 0)), (2, .int w2)]) hx hb dX12_ask_63 hl (k := 5) rfl rfl (by decide) rfl (fun ls hl => ?_)
        refine lv_goto (tgt := 24) hx hb dX12_ask_66 (by decide) ?_
        obtain rfl := Option.some.inj h
        exact sg_go hk I (lv_sub hl [4, 5, 2, 1, 0] rfl)
      · have h := sg_iff h z
        refine lv_iload hx hb dX12_ask_49 (lv_at hl 0 rfl) ?_
        refine lv_iload hx hb dX12_ask_51 (lv_at hl 4 rfl) ?_
        refine lv_icmp_ge (tgt := 63) hx hb dX12_ask_53 (by decide) (fun z => ?_) (fun z => ?_)
        · have h := sg_ift h z
          refine lv_iinc (v := x5 + 1) (lv' := [(5, .int (x5 + 1)), (6, .int v4), (0, .ref (sgA P 0)), (2, .int w2), (3, .int x3), (4, .int x4)]) hx hb dX12_ask_63 hl (k := 5) rfl rfl (by decide) rfl (fun ls hl => ?_)
          refine lv_goto (tgt := 24) hx hb dX12_ask_66 (by decide) ?_
          obtain rfl := Option.some.inj h
          exact sg_go hk I (lv_sub hl [2, 3, 4, 5, 0] rfl)
        · have h := sg_iff h z
          refine lv_iload hx hb dX12_ask_56 (lv_at hl 5 rfl) ?_
          refine lv_istore_n (lv' := [(3, .int x5), (6, .int v4), (0, .ref (sgA P 0)), (2, .int w2), (4, .int x4), (5, .int x5)]) hx hb dX12_ask_58 rfl hl (by decide) rfl (fun ls hl => ?_)
          refine lv_iload hx hb dX12_ask_59 (lv_at hl 1 rfl) ?_
          refine lv_istore (lv' := [(4, .int v4), (3, .int x5), (6, .int v4), (0, .ref (sgA P 0)), (2, .int w2), (5, .int x5)]) hx hb dX12_ask_61 hl (by decide) rfl (fun ls hl => ?_)
          refine lv_iinc (v := x5 + 1) (lv' := [(5, .int (x5 + 1)), (4, .int v4), (3, .int x5), (6, .int v4), (0, .ref (sgA P 0)), (2, .int w2)]) hx hb dX12_ask_63 hl (k := 5) rfl rfl (by decide) rfl (fun ls hl => ?_)
          refine lv_goto (tgt := 24) hx hb dX12_ask_66 (by decide) ?_
          obtain rfl := Option.some.inj h
          exact sg_go hk I (lv_sub hl [4, 5, 2, 1, 0] rfl)
def f_X12_ask (N : Nat) (p1 : Int32) (σ : sgS) : Option (Int32 × sgS) :=
  sg_cr (f_X12_isSet N p1 σ) fun v1 =>
if v1 = 0 then
  (some ((-1), σ))
else
  (sg_cl (f_X12_fitsOf N p1 σ) fun v2 s3 =>
  sg_lb (sg_lp (fun x => f_X12_ask_L24 N p1 v2 x.1 x.2.1 x.2.2 s3) N (((-1), 0, 1))) (fun r => some r) fun y5 =>
  some (y5, s3))
set_option maxHeartbeats 4000000 in
set_option maxRecDepth 100000 in
theorem b_X12_ask {p : Program} {l : Launch} {e : Env} {R : Room} {s : State} {m : MethodId} {args : Array Value} {below : List Frame} {meth : Method} {c : Code} {Q : State → Prop} {P : sgP} {A : Nat → Prop} {N : Nat} {p1 : Int32} {σ : sgS} (X : sg_C P A 11 p R s m args c cX12_ask 7 RX12) {H : Heap} {locs : List Loc} (I : sg_I P shM 35 A s.heap σ H locs) {ls : Array Slot} (hl : lv_has ls 7 [(0, .ref (sgA P 0)), (1, .int p1)]) {st : Int32 × sgS} (h : f_X12_ask N p1 σ = some st) (hk : sg_Ri p l e R s m args below meth c Q P shM 35 A cX12_ask (some .int) st) : W p l e R s m args below meth c H locs 0 0 Q (F0 m 0 ls []) := by
  unfold f_X12_ask at h
  have hx := X.1.1
  have hb := X.1.2.1
  have hown := X.1.2.2.2.1
  have hts := X.1.2.2.2.2
  refine lv_aload_n hx hb dX12_ask_0 rfl (lv_at hl 0 rfl) ?_
  refine lv_iload_n hx hb dX12_ask_1 rfl (lv_at hl 1 rfl) ?_
  refine sg_callVr (As := [.int p1]) X I mk_X12_370 (by decide) (by decide) shM_0 rfl (fun q9 e9 => c_X12_isSet e9) h hl.1 rfl rfl (Nat.le_of_ble_eq_true rfl) dX12_ask_2 (fun v1 H locs h I => ?_)
  refine lv_if_ne (tgt := 10) hx hb dX12_ask_5 (by decide) (fun z => ?_) (fun z => ?_)
  · have h := sg_iff h z
    refine lv_aload_n hx hb dX12_ask_10 rfl (lv_at hl 0 rfl) ?_
    refine lv_iload_n hx hb dX12_ask_11 rfl (lv_at hl 1 rfl) ?_
    refine sg_callV (As := [.int p1]) X I mk_X12_456 (by decide) (by decide) shM_0 rfl (fun q9 e9 => c_X12_fitsOf e9) h hl.1 rfl rfl (Nat.le_of_ble_eq_true rfl) dX12_ask_12 (fun v2 s3 H locs h I => ?_)
    refine lv_istore_n (lv' := [(2, .int v2), (0, .ref (sgA P 0)), (1, .int p1)]) hx hb dX12_ask_15 rfl hl (by decide) rfl (fun ls hl => ?_)
    refine lv_iconst (v := -1) hx hb dX12_ask_16 (by decide) ?_
    refine lv_istore_n (lv' := [(3, .int ((-1))), (2, .int v2), (0, .ref (sgA P 0)), (1, .int p1)]) hx hb dX12_ask_17 rfl hl (by decide) rfl (fun ls hl => ?_)
    refine lv_iconst (v := 0) hx hb dX12_ask_18 (by decide) ?_
    refine lv_istore (lv' := [(4, .int 0), (3, .int ((-1))), (2, .int v2), (0, .ref (sgA P 0)), (1, .int p1)]) hx hb dX12_ask_19 hl (by decide) rfl (fun ls hl => ?_)
    refine lv_iconst (v := 1) hx hb dX12_ask_21 (by decide) ?_
    refine lv_istore (lv' := [(5, .int 1), (4, .int 0), (3, .int ((-1))), (2, .int v2), (0, .ref (sgA P 0)), (1, .int p1)]) hx hb dX12_ask_22 hl (by decide) rfl (fun ls hl => ?_)
    obtain ⟨res, e9, k9⟩ := sg_lb_some h
    refine sg_go (sg_lp_W (a := (sg_Ri p l e R s m args below meth c Q P shM 35 A cX12_ask (some .int))) (w := (fun x => sg_Wt p l e R s m args below meth c Q P shM 35 A 7 24 s3 [(0, .ref (sgA P 0)), (2, .int v2), (3, .int x.1), (4, .int x.2.1), (5, .int x.2.2)])) (c := (fun y => sg_Wt p l e R s m args below meth c Q P shM 35 A 7 69 s3 [(3, .int y)])) (fun x st hb9 hk9 => ?_) N (((-1), 0, 1)) res e9 (sg_k2_mono k9 (fun r h => ?_) (fun y5 h => ?_))) I (lv_sub hl [4, 3, 2, 1, 0] rfl)
    · intro H locs ls I hl
      exact b_X12_ask_L24 X I hl hb9 hk9
    · obtain rfl := Option.some.inj h
      exact hk
    · intro H locs ls I hl
      refine lv_iload_n hx hb dX12_ask_69 rfl (lv_at hl 0 rfl) ?_
      obtain rfl := Option.some.inj h
      exact hk _ _ _ _ _ I ⟨_, rfl, rfl⟩ dX12_ask_70
  · have h := sg_ift h z
    refine lv_iconst (v := -1) hx hb dX12_ask_8 (by decide) ?_
    obtain rfl := Option.some.inj h
    exact hk _ _ _ _ _ I ⟨_, rfl, rfl⟩ dX12_ask_9
set_option maxHeartbeats 4000000 in
set_option maxRecDepth 100000 in
theorem c_X12_ask {l : Launch} {P : sgP} {N : Nat} {p1 : Int32} {σ : sgS} {q : Int32 × sgS} (h : f_X12_ask N p1 σ = some q) : sg_Mi P shM 35 l yX12_ask cX12_ask 7 (some .int) 11 [.ref (sgA P 0), .int p1] σ q := by
  refine sg_mki (plainFor_of_name (by decide +kernel)) (Nat.le_of_ble_eq_true rfl) ?_
  intro p e R s m args below meth c Q A ls H locs X I hl hk
  exact b_X12_ask X I hl h hk
def f_X12_tryTour_b_L84 (N : Nat) (rec : Int32 → Int32 → Int32 → Int32 → Int32 → sgS → Option (Int32 × sgS)) (p1 : Int32) (p2 : Int32) (p3 : Int32) (p4 : Int32) (p5 : Int32) (x6 : Int32) (σ : sgS) : Option ((Int32 × sgS) ⊕ ((sgS × Int32) ⊕ (sgS))) :=
  if (σ.1 0 28) ≤ x6 then
  (some (.inr (.inr σ)))
else
  (sg_cr (f_X12_has N p3 x6 σ) fun v1 =>
  if v1 = 0 then
    (some (.inr (.inl (σ, x6 + 1))))
  else
    (sg_cr (f_X12_awayOf N p2 x6 σ) fun v2 =>
    if 100000 ≤ v2 then
      (some (.inr (.inl (σ, x6 + 1))))
    else
      (sg_cr (f_X12_awayOf N p2 x6 σ) fun v3 =>
      sg_cl (rec p1 x6 (p3 &&& ((1 <<< (x6 &&& 31)) ^^^ ((-1)))) ((10 * p4) + x6) (p5 + v3) σ) fun v4 s5 =>
      some (.inr (.inl (s5, x6 + 1))))))
set_option maxHeartbeats 4000000 in
set_option maxRecDepth 100000 in
theorem b_X12_tryTour_b_L84 {p : Program} {l : Launch} {e : Env} {R : Room} {s : State} {m : MethodId} {args : Array Value} {below : List Frame} {meth : Method} {c : Code} {Q : State → Prop} {P : sgP} {A : Nat → Prop} {lv : Nat} {N : Nat} {rec : Int32 → Int32 → Int32 → Int32 → Int32 → sgS → Option (Int32 × sgS)} {p1 : Int32} {p2 : Int32} {p3 : Int32} {p4 : Int32} {p5 : Int32} {x6 : Int32} {σ : sgS} (X : sg_C P A (lv + 1) p R s m args c cX12_tryTour 7 RX12) (hlv : 2 ≤ lv) (hrec : ∀ (p1 : Int32) (p2 : Int32) (p3 : Int32) (p4 : Int32) (p5 : Int32) (σ : sgS) (q : Int32 × sgS), rec p1 p2 p3 p4 p5 σ = some q → sg_Mv P shM 35 l yX12_tryTour cX12_tryTour 7 none lv [.ref (sgA P 0), .int p1, .int p2, .int p3, .int p4, .int p5] σ q) {H : Heap} {locs : List Loc} (I : sg_I P shM 35 A s.heap σ H locs) {ls : Array Slot} (hl : lv_has ls 7 [(0, .ref (sgA P 0)), (1, .int p1), (2, .int p2), (3, .int p3), (4, .int p4), (5, .int p5), (6, .int x6)]) {st : (Int32 × sgS) ⊕ ((sgS × Int32) ⊕ (sgS))} (h : f_X12_tryTour_b_L84 N rec p1 p2 p3 p4 p5 x6 σ = some st) (hk : sg_k3 (sg_Rv p l e R s m args below meth c Q P shM 35 A cX12_tryTour) (fun x => sg_Wt p l e R s m args below meth c Q P shM 35 A 7 84 x.1 [(0, .ref (sgA P 0)), (1, .int p1), (2, .int p2), (3, .int p3), (4, .int p4), (5, .int p5), (6, .int x.2)]) (fun y => sg_Wt p l e R s m args below meth c Q P shM 35 A 7 154 y []) st) : W p l e R s m args below meth c H locs 0 0 Q (F0 m 84 ls []) := by
  unfold f_X12_tryTour_b_L84 at h
  have hx := X.1.1
  have hb := X.1.2.1
  have hown := X.1.2.2.2.1
  have hts := X.1.2.2.2.2
  refine lv_iload hx hb dX12_tryTour_84 (lv_at hl 6 rfl) ?_
  refine lv_aload_n hx hb dX12_tryTour_86 rfl (lv_at hl 0 rfl) ?_
  refine sg_geti X I fk_X12_288 (by decide) shM_0 rfl dX12_tryTour_87 ?_
  refine lv_icmp_ge (tgt := 154) hx hb dX12_tryTour_90 (by decide) (fun z => ?_) (fun z => ?_)
  · have h := sg_ift h z
    obtain rfl := Option.some.inj h
    exact sg_go hk I (lv_sub hl [] rfl)
  · have h := sg_iff h z
    refine lv_iload_n hx hb dX12_tryTour_93 rfl (lv_at hl 3 rfl) ?_
    refine lv_iload hx hb dX12_tryTour_94 (lv_at hl 6 rfl) ?_
    refine sg_callSr (As := [.int p3, .int x6]) X I mk_X12_246 (by omega) (fun q9 e9 => c_X12_has e9) h hl.1 rfl rfl (Nat.le_of_ble_eq_true rfl) dX12_tryTour_96 (fun v1 H locs h I => ?_)
    refine lv_if_eq (tgt := 148) hx hb dX12_tryTour_99 (by decide) (fun z => ?_) (fun z => ?_)
    · have h := sg_ift h z
      refine lv_iinc (v := x6 + 1) (lv' := [(6, .int (x6 + 1)), (0, .ref (sgA P 0)), (1, .int p1), (2, .int p2), (3, .int p3), (4, .int p4), (5, .int p5)]) hx hb dX12_tryTour_148 hl (k := 6) rfl rfl (by decide) rfl (fun ls hl => ?_)
      refine lv_goto (tgt := 84) hx hb dX12_tryTour_151 (by decide) ?_
      obtain rfl := Option.some.inj h
      exact sg_go hk I (lv_sub hl [1, 2, 3, 4, 5, 6, 0] rfl)
    · have h := sg_iff h z
      refine lv_aload_n hx hb dX12_tryTour_102 rfl (lv_at hl 0 rfl) ?_
      refine lv_iload_n hx hb dX12_tryTour_103 rfl (lv_at hl 2 rfl) ?_
      refine lv_iload hx hb dX12_tryTour_104 (lv_at hl 6 rfl) ?_
      refine sg_callVr (As := [.int p2, .int x6]) X I mk_X12_415 (by omega) (by decide) shM_0 rfl (fun q9 e9 => c_X12_awayOf e9) h hl.1 rfl rfl (Nat.le_of_ble_eq_true rfl) dX12_tryTour_106 (fun v2 H locs h I => ?_)
      refine lv_ldcw (v := 100000) hx hb hown (hts _ qw_1128) dX12_tryTour_109 ?_
      refine lv_icmp_ge (tgt := 148) hx hb dX12_tryTour_112 (by decide) (fun z => ?_) (fun z => ?_)
      · have h := sg_ift h z
        refine lv_iinc (v := x6 + 1) (lv' := [(6, .int (x6 + 1)), (0, .ref (sgA P 0)), (1, .int p1), (2, .int p2), (3, .int p3), (4, .int p4), (5, .int p5)]) hx hb dX12_tryTour_148 hl (k := 6) rfl rfl (by decide) rfl (fun ls hl => ?_)
        refine lv_goto (tgt := 84) hx hb dX12_tryTour_151 (by decide) ?_
        obtain rfl := Option.some.inj h
        exact sg_go hk I (lv_sub hl [1, 2, 3, 4, 5, 6, 0] rfl)
      · have h := sg_iff h z
        refine lv_aload_n hx hb dX12_tryTour_115 rfl (lv_at hl 0 rfl) ?_
        refine lv_iload_n hx hb dX12_tryTour_116 rfl (lv_at hl 1 rfl) ?_
        refine lv_iload hx hb dX12_tryTour_117 (lv_at hl 6 rfl) ?_
        refine lv_iload_n hx hb dX12_tryTour_119 rfl (lv_at hl 3 rfl) ?_
        refine lv_iconst (v := 1) hx hb dX12_tryTour_120 (by decide) ?_
        refine lv_iload hx hb dX12_tryTour_121 (lv_at hl 6 rfl) ?_
        refine lv_ishl hx hb dX12_tryTour_123 ?_
        refine lv_iconst (v := -1) hx hb dX12_tryTour_124 (by decide) ?_
        refine lv_ixor hx hb dX12_tryTour_125 ?_
        refine lv_iand hx hb dX12_tryTour_126 ?_
        refine lv_bipush (v := 10) hx hb dX12_tryTour_127 (by decide) ?_
        refine lv_iload hx hb dX12_tryTour_129 (lv_at hl 4 rfl) ?_
        refine lv_imul hx hb dX12_tryTour_131 ?_
        refine lv_iload hx hb dX12_tryTour_132 (lv_at hl 6 rfl) ?_
        refine lv_iadd hx hb dX12_tryTour_134 ?_
        refine lv_iload hx hb dX12_tryTour_135 (lv_at hl 5 rfl) ?_
        refine lv_aload_n hx hb dX12_tryTour_137 rfl (lv_at hl 0 rfl) ?_
        refine lv_iload_n hx hb dX12_tryTour_138 rfl (lv_at hl 2 rfl) ?_
        refine lv_iload hx hb dX12_tryTour_139 (lv_at hl 6 rfl) ?_
        refine sg_callVr (As := [.int p2, .int x6]) X I mk_X12_415 (by omega) (by decide) shM_0 rfl (fun q9 e9 => c_X12_awayOf e9) h hl.1 rfl rfl (Nat.le_of_ble_eq_true rfl) dX12_tryTour_141 (fun v3 H locs h I => ?_)
        refine lv_iadd hx hb dX12_tryTour_144 ?_
        refine sg_callVv (As := [.int p1, .int x6, .int (p3 &&& ((1 <<< (x6 &&& 31)) ^^^ ((-1)))), .int ((10 * p4) + x6), .int (p5 + v3)]) X I mk_X12_465 (by omega) (by decide) shM_0 rfl (fun q9 e9 => hrec _ _ _ _ _ _ _ e9) h hl.1 rfl rfl (Nat.le_of_ble_eq_true rfl) dX12_tryTour_145 (fun v4 s5 H locs h I => ?_)
        refine lv_iinc (v := x6 + 1) (lv' := [(6, .int (x6 + 1)), (0, .ref (sgA P 0)), (1, .int p1), (2, .int p2), (3, .int p3), (4, .int p4), (5, .int p5)]) hx hb dX12_tryTour_148 hl (k := 6) rfl rfl (by decide) rfl (fun ls hl => ?_)
        refine lv_goto (tgt := 84) hx hb dX12_tryTour_151 (by decide) ?_
        obtain rfl := Option.some.inj h
        exact sg_go hk I (lv_sub hl [1, 2, 3, 4, 5, 6, 0] rfl)
def f_X12_tryTour_b_B18 (N : Nat) (rec : Int32 → Int32 → Int32 → Int32 → Int32 → sgS → Option (Int32 × sgS)) (p1 : Int32) (p2 : Int32) (p3 : Int32) (p4 : Int32) (p5 : Int32) (σ : sgS) : Option (Int32 × sgS) :=
  if p3 = 0 then
  (sg_cr (f_X12_awayOf N p2 p1 σ) fun v7 =>
  if (σ.1 0 46) = ((-1)) then
    (sg_pf σ 0 46 p4 fun s8 =>
    sg_pf s8 0 47 (p5 + v7) fun s9 =>
    some (0, s9))
  else
    (if (p5 + v7) < (σ.1 0 47) then
      (sg_pf σ 0 46 p4 fun s10 =>
      sg_pf s10 0 47 (p5 + v7) fun s11 =>
      some (0, s11))
    else
      (if (p5 + v7) = (σ.1 0 47) then
        (if (σ.1 0 46) ≤ p4 then
          (some (0, σ))
        else
          (sg_pf σ 0 46 p4 fun s12 =>
          sg_pf s12 0 47 (p5 + v7) fun s13 =>
          some (0, s13)))
      else
        (some (0, σ)))))
else
  (sg_lb (sg_lp (fun x => f_X12_tryTour_b_L84 N rec p1 p2 p3 p4 p5 x.2 x.1) N ((σ, 0))) (fun r => some r) fun y6 =>
  some (0, y6))
set_option maxHeartbeats 4000000 in
set_option maxRecDepth 100000 in
theorem b_X12_tryTour_b_B18 {p : Program} {l : Launch} {e : Env} {R : Room} {s : State} {m : MethodId} {args : Array Value} {below : List Frame} {meth : Method} {c : Code} {Q : State → Prop} {P : sgP} {A : Nat → Prop} {lv : Nat} {N : Nat} {rec : Int32 → Int32 → Int32 → Int32 → Int32 → sgS → Option (Int32 × sgS)} {p1 : Int32} {p2 : Int32} {p3 : Int32} {p4 : Int32} {p5 : Int32} {σ : sgS} (X : sg_C P A (lv + 1) p R s m args c cX12_tryTour 7 RX12) (hlv : 2 ≤ lv) (hrec : ∀ (p1 : Int32) (p2 : Int32) (p3 : Int32) (p4 : Int32) (p5 : Int32) (σ : sgS) (q : Int32 × sgS), rec p1 p2 p3 p4 p5 σ = some q → sg_Mv P shM 35 l yX12_tryTour cX12_tryTour 7 none lv [.ref (sgA P 0), .int p1, .int p2, .int p3, .int p4, .int p5] σ q) {H : Heap} {locs : List Loc} (I : sg_I P shM 35 A s.heap σ H locs) {ls : Array Slot} (hl : lv_has ls 7 [(0, .ref (sgA P 0)), (1, .int p1), (2, .int p2), (3, .int p3), (4, .int p4), (5, .int p5)]) {st : Int32 × sgS} (h : f_X12_tryTour_b_B18 N rec p1 p2 p3 p4 p5 σ = some st) (hk : sg_Rv p l e R s m args below meth c Q P shM 35 A cX12_tryTour st) : W p l e R s m args below meth c H locs 0 0 Q (F0 m 18 ls []) := by
  unfold f_X12_tryTour_b_B18 at h
  have hx := X.1.1
  have hb := X.1.2.1
  have hown := X.1.2.2.2.1
  have hts := X.1.2.2.2.2
  refine lv_iload_n hx hb dX12_tryTour_18 rfl (lv_at hl 3 rfl) ?_
  refine lv_if_ne (tgt := 81) hx hb dX12_tryTour_19 (by decide) (fun z => ?_) (fun z => ?_)
  · have h := sg_iff h z
    refine lv_iconst (v := 0) hx hb dX12_tryTour_81 (by decide) ?_
    refine lv_istore (lv' := [(6, .int 0), (0, .ref (sgA P 0)), (1, .int p1), (2, .int p2), (3, .int p3), (4, .int p4), (5, .int p5)]) hx hb dX12_tryTour_82 hl (by decide) rfl (fun ls hl => ?_)
    obtain ⟨res, e9, k9⟩ := sg_lb_some h
    refine sg_go (sg_lp_W (a := (sg_Rv p l e R s m args below meth c Q P shM 35 A cX12_tryTour)) (w := (fun x => sg_Wt p l e R s m args below meth c Q P shM 35 A 7 84 x.1 [(0, .ref (sgA P 0)), (1, .int p1), (2, .int p2), (3, .int p3), (4, .int p4), (5, .int p5), (6, .int x.2)])) (c := (fun y => sg_Wt p l e R s m args below meth c Q P shM 35 A 7 154 y [])) (fun x st hb9 hk9 => ?_) N ((σ, 0)) res e9 (sg_k2_mono k9 (fun r h => ?_) (fun y6 h => ?_))) I (lv_sub hl [1, 2, 3, 4, 5, 6, 0] rfl)
    · intro H locs ls I hl
      exact b_X12_tryTour_b_L84 X hlv hrec I hl hb9 hk9
    · obtain rfl := Option.some.inj h
      exact hk
    · intro H locs ls I hl
      obtain rfl := Option.some.inj h
      exact hk _ _ _ _ I dX12_tryTour_154
  · have h := sg_ift h z
    refine lv_iload hx hb dX12_tryTour_22 (lv_at hl 5 rfl) ?_
    refine lv_aload_n hx hb dX12_tryTour_24 rfl (lv_at hl 0 rfl) ?_
    refine lv_iload_n hx hb dX12_tryTour_25 rfl (lv_at hl 2 rfl) ?_
    refine lv_iload_n hx hb dX12_tryTour_26 rfl (lv_at hl 1 rfl) ?_
    refine sg_callVr (As := [.int p2, .int p1]) X I mk_X12_415 (by omega) (by decide) shM_0 rfl (fun q9 e9 => c_X12_awayOf e9) h hl.1 rfl rfl (Nat.le_of_ble_eq_true rfl) dX12_tryTour_27 (fun v7 H locs h I => ?_)
    refine lv_iadd hx hb dX12_tryTour_30 ?_
    refine lv_istore (lv' := [(6, .int (p5 + v7)), (0, .ref (sgA P 0)), (1, .int p1), (2, .int p2), (3, .int p3), (4, .int p4), (5, .int p5)]) hx hb dX12_tryTour_31 hl (by decide) rfl (fun ls hl => ?_)
    refine lv_aload_n hx hb dX12_tryTour_33 rfl (lv_at hl 1 rfl) ?_
    refine sg_geti X I fk_X12_418 (by decide) shM_0 rfl dX12_tryTour_34 ?_
    refine lv_iconst (v := -1) hx hb dX12_tryTour_37 (by decide) ?_
    refine lv_icmp_eq (tgt := 68) hx hb dX12_tryTour_38 (by decide) (fun z => ?_) (fun z => ?_)
    · have h := sg_ift h z
      refine lv_aload_n hx hb dX12_tryTour_68 rfl (lv_at hl 1 rfl) ?_
      refine lv_iload hx hb dX12_tryTour_69 (lv_at hl 5 rfl) ?_
      refine sg_puti X I fk_X12_418 wk_12_46 rfl rfl (by decide) shM_0 rfl h dX12_tryTour_71 (fun s8 H locs h I => ?_)
      refine lv_aload_n hx hb dX12_tryTour_74 rfl (lv_at hl 1 rfl) ?_
      refine lv_iload hx hb dX12_tryTour_75 (lv_at hl 0 rfl) ?_
      refine sg_puti X I fk_X12_462 wk_12_47 rfl rfl (by decide) shM_0 rfl h dX12_tryTour_77 (fun s9 H locs h I => ?_)
      obtain rfl := Option.some.inj h
      exact hk _ _ _ _ I dX12_tryTour_80
    · have h := sg_iff h z
      refine lv_iload hx hb dX12_tryTour_41 (lv_at hl 0 rfl) ?_
      refine lv_aload_n hx hb dX12_tryTour_43 rfl (lv_at hl 1 rfl) ?_
      refine sg_geti X I fk_X12_462 (by decide) shM_0 rfl dX12_tryTour_44 ?_
      refine lv_icmp_lt (tgt := 68) hx hb dX12_tryTour_47 (by decide) (fun z => ?_) (fun z => ?_)
      · have h := sg_ift h z
        refine lv_aload_n hx hb dX12_tryTour_68 rfl (lv_at hl 1 rfl) ?_
        refine lv_iload hx hb dX12_tryTour_69 (lv_at hl 5 rfl) ?_
        refine sg_puti X I fk_X12_418 wk_12_46 rfl rfl (by decide) shM_0 rfl h dX12_tryTour_71 (fun s10 H locs h I => ?_)
        refine lv_aload_n hx hb dX12_tryTour_74 rfl (lv_at hl 1 rfl) ?_
        refine lv_iload hx hb dX12_tryTour_75 (lv_at hl 0 rfl) ?_
        refine sg_puti X I fk_X12_462 wk_12_47 rfl rfl (by decide) shM_0 rfl h dX12_tryTour_77 (fun s11 H locs h I => ?_)
        obtain rfl := Option.some.inj h
        exact hk _ _ _ _ I dX12_tryTour_80
      · have h := sg_iff h z
        refine lv_iload hx hb dX12_tryTour_50 (lv_at hl 0 rfl) ?_
        refine lv_aload_n hx hb dX12_tryTour_52 rfl (lv_at hl 1 rfl) ?_
        refine sg_geti X I fk_X12_462 (by decide) shM_0 rfl dX12_tryTour_53 ?_
        refine lv_icmp_ne (tgt := 80) hx hb dX12_tryTour_56 (by decide) (fun z => ?_) (fun z => ?_)
        · have h := sg_iff h z
          obtain rfl := Option.some.inj h
          exact hk _ _ _ _ I dX12_tryTour_80
        · have h := sg_ift h z
          refine lv_iload hx hb dX12_tryTour_59 (lv_at hl 5 rfl) ?_
          refine lv_aload_n hx hb dX12_tryTour_61 rfl (lv_at hl 1 rfl) ?_
          refine sg_geti X I fk_X12_418 (by decide) shM_0 rfl dX12_tryTour_62 ?_
          refine lv_icmp_ge (tgt := 80) hx hb dX12_tryTour_65 (by decide) (fun z => ?_) (fun z => ?_)
          · have h := sg_ift h z
            obtain rfl := Option.some.inj h
            exact hk _ _ _ _ I dX12_tryTour_80
          · have h := sg_iff h z
            refine lv_aload_n hx hb dX12_tryTour_68 rfl (lv_at hl 1 rfl) ?_
            refine lv_iload hx hb dX12_tryTour_69 (lv_at hl 5 rfl) ?_
            refine sg_puti X I fk_X12_418 wk_12_46 rfl rfl (by decide) shM_0 rfl h dX12_tryTour_71 (fun s12 H locs h I => ?_)
            refine lv_aload_n hx hb dX12_tryTour_74 rfl (lv_at hl 1 rfl) ?_
            refine lv_iload hx hb dX12_tryTour_75 (lv_at hl 0 rfl) ?_
            refine sg_puti X I fk_X12_462 wk_12_47 rfl rfl (by decide) shM_0 rfl h dX12_tryTour_77 (fun s13 H locs h I => ?_)
            obtain rfl := Option.some.inj h
            exact hk _ _ _ _ I dX12_tryTour_80
def f_X12_tryTour_b (N : Nat) (rec : Int32 → Int32 → Int32 → Int32 → Int32 → sgS → Option (Int32 × sgS)) (p1 : Int32) (p2 : Int32) (p3 : Int32) (p4 : Int32) (p5 : Int32) (σ : sgS) : Option (Int32 × sgS) :=
  if (σ.1 0 46) = ((-1)) then
  (f_X12_tryTour_b_B18 N rec p1 p2 p3 p4 p5 σ)
else
  (if p5 ≤ (σ.1 0 47) then
    (f_X12_tryTour_b_B18 N rec p1 p2 p3 p4 p5 σ)
  else
    (some (0, σ)))
set_option maxHeartbeats 4000000 in
set_option maxRecDepth 100000 in
theorem b_X12_tryTour_b {p : Program} {l : Launch} {e : Env} {R : Room} {s : State} {m : MethodId} {args : Array Value} {below : List Frame} {meth : Method} {c : Code} {Q : State → Prop} {P : sgP} {A : Nat → Prop} {lv : Nat} {N : Nat} {rec : Int32 → Int32 → Int32 → Int32 → Int32 → sgS → Option (Int32 × sgS)} {p1 : Int32} {p2 : Int32} {p3 : Int32} {p4 : Int32} {p5 : Int32} {σ : sgS} (X : sg_C P A (lv + 1) p R s m args c cX12_tryTour 7 RX12) (hlv : 2 ≤ lv) (hrec : ∀ (p1 : Int32) (p2 : Int32) (p3 : Int32) (p4 : Int32) (p5 : Int32) (σ : sgS) (q : Int32 × sgS), rec p1 p2 p3 p4 p5 σ = some q → sg_Mv P shM 35 l yX12_tryTour cX12_tryTour 7 none lv [.ref (sgA P 0), .int p1, .int p2, .int p3, .int p4, .int p5] σ q) {H : Heap} {locs : List Loc} (I : sg_I P shM 35 A s.heap σ H locs) {ls : Array Slot} (hl : lv_has ls 7 [(0, .ref (sgA P 0)), (1, .int p1), (2, .int p2), (3, .int p3), (4, .int p4), (5, .int p5)]) {st : Int32 × sgS} (h : f_X12_tryTour_b N rec p1 p2 p3 p4 p5 σ = some st) (hk : sg_Rv p l e R s m args below meth c Q P shM 35 A cX12_tryTour st) : W p l e R s m args below meth c H locs 0 0 Q (F0 m 0 ls []) := by
  unfold f_X12_tryTour_b at h
  have hx := X.1.1
  have hb := X.1.2.1
  have hown := X.1.2.2.2.1
  have hts := X.1.2.2.2.2
  refine lv_aload_n hx hb dX12_tryTour_0 rfl (lv_at hl 0 rfl) ?_
  refine sg_geti X I fk_X12_418 (by decide) shM_0 rfl dX12_tryTour_1 ?_
  refine lv_iconst (v := -1) hx hb dX12_tryTour_4 (by decide) ?_
  refine lv_icmp_eq (tgt := 18) hx hb dX12_tryTour_5 (by decide) (fun z => ?_) (fun z => ?_)
  · have h := sg_ift h z
    exact b_X12_tryTour_b_B18 X hlv hrec I (lv_sub hl [0, 1, 2, 3, 4, 5] rfl) h hk
  · have h := sg_iff h z
    refine lv_iload hx hb dX12_tryTour_8 (lv_at hl 5 rfl) ?_
    refine lv_aload_n hx hb dX12_tryTour_10 rfl (lv_at hl 0 rfl) ?_
    refine sg_geti X I fk_X12_462 (by decide) shM_0 rfl dX12_tryTour_11 ?_
    refine lv_icmp_le (tgt := 18) hx hb dX12_tryTour_14 (by decide) (fun z => ?_) (fun z => ?_)
    · have h := sg_ift h z
      exact b_X12_tryTour_b_B18 X hlv hrec I (lv_sub hl [0, 1, 2, 3, 4, 5] rfl) h hk
    · have h := sg_iff h z
      obtain rfl := Option.some.inj h
      exact hk _ _ _ _ I dX12_tryTour_17
set_option maxHeartbeats 4000000 in
set_option maxRecDepth 100000 in
theorem c_X12_tryTour_b {l : Launch} {P : sgP} {lv : Nat} {N : Nat} {rec : Int32 → Int32 → Int32 → Int32 → Int32 → sgS → Option (Int32 × sgS)} {p1 : Int32} {p2 : Int32} {p3 : Int32} {p4 : Int32} {p5 : Int32} {σ : sgS} (hlv : 2 ≤ lv) (hrec : ∀ (p1 : Int32) (p2 : Int32) (p3 : Int32) (p4 : Int32) (p5 : Int32) (σ : sgS) (q : Int32 × sgS), rec p1 p2 p3 p4 p5 σ = some q → sg_Mv P shM 35 l yX12_tryTour cX12_tryTour 7 none lv [.ref (sgA P 0), .int p1, .int p2, .int p3, .int p4, .int p5] σ q) {q : Int32 × sgS} (h : f_X12_tryTour_b N rec p1 p2 p3 p4 p5 σ = some q) : sg_Mv P shM 35 l yX12_tryTour cX12_tryTour 7 none (lv + 1) [.ref (sgA P 0), .int p1, .int p2, .int p3, .int p4, .int p5] σ q := by
  refine sg_mkv (plainFor_of_name (by decide +kernel)) (Nat.le_of_ble_eq_true rfl) ?_
  intro p e R s m args below meth c Q A ls H locs X I hl hk
  exact b_X12_tryTour_b X hlv hrec I hl h hk
def f_X12_tryTour : Nat → Nat → Int32 → Int32 → Int32 → Int32 → Int32 → sgS → Option (Int32 × sgS)
  | 0, _, _, _, _, _, _, _ => none
  | d + 1, N, p1, p2, p3, p4, p5, σ => f_X12_tryTour_b N (f_X12_tryTour d N) p1 p2 p3 p4 p5 σ
set_option maxHeartbeats 4000000 in
set_option maxRecDepth 100000 in
theorem cd_X12_tryTour {l : Launch} {P : sgP} {N : Nat} : ∀ (d : Nat) (p1 : Int32) (p2 : Int32) (p3 : Int32) (p4 : Int32) (p5 : Int32) (σ : sgS) (q : Int32 × sgS), f_X12_tryTour d N p1 p2 p3 p4 p5 σ = some q → sg_Mv P shM 35 l yX12_tryTour cX12_tryTour 7 none (2 + 1 * d) [.ref (sgA P 0), .int p1, .int p2, .int p3, .int p4, .int p5] σ q := by
  intro d
  induction d with
  | zero => intro p1 p2 p3 p4 p5 σ q h; cases h
  | succ d ih =>
    intro p1 p2 p3 p4 p5 σ q h
    have e : 2 + 1 * (d + 1) = 2 + 1 * d + 1 := by omega
    rw [e]
    exact c_X12_tryTour_b (by omega) ih h
set_option maxHeartbeats 4000000 in
set_option maxRecDepth 100000 in
theorem c_X12_tryTour {l : Launch} {P : sgP} {N : Nat} {p1 : Int32} {p2 : Int32} {p3 : Int32} {p4 : Int32} {p5 : Int32} {σ : sgS} {q : Int32 × sgS} (h : f_X12_tryTour 40 N p1 p2 p3 p4 p5 σ = some q) : sg_Mv P shM 35 l yX12_tryTour cX12_tryTour 7 none 42 [.ref (sgA P 0), .int p1, .int p2, .int p3, .int p4, .int p5] σ q := cd_X12_tryTour 40 p1 p2 p3 p4 p5 σ q h
def f_X12_areSome (N : Nat) (p1 : Int32) (σ : sgS) : Option (Int32) :=
  if (σ.1 0 28) ≤ 0 then
  (some (vp_nar .boolean 0))
else
  (sg_cr (f_X12_in N p1 1 ((1 <<< ((σ.1 0 28) &&& 31)) - 1) σ) fun v1 =>
  if v1 = 0 then
    (some (vp_nar .boolean 0))
  else
    (some (vp_nar .boolean 1)))
set_option maxHeartbeats 4000000 in
set_option maxRecDepth 100000 in
theorem b_X12_areSome {p : Program} {l : Launch} {e : Env} {R : Room} {s : State} {m : MethodId} {args : Array Value} {below : List Frame} {meth : Method} {c : Code} {Q : State → Prop} {P : sgP} {A : Nat → Prop} {N : Nat} {p1 : Int32} {σ : sgS} (X : sg_C P A 2 p R s m args c cX12_areSome 2 RX12) {H : Heap} {locs : List Loc} (I : sg_I P shM 35 A s.heap σ H locs) {ls : Array Slot} (hl : lv_has ls 2 [(0, .ref (sgA P 0)), (1, .int p1)]) {st : Int32} (h : f_X12_areSome N p1 σ = some st) (hk : sg_Ri p l e R s m args below meth c Q P shM 35 A cX12_areSome (some .boolean) (st, σ)) : W p l e R s m args below meth c H locs 0 0 Q (F0 m 0 ls []) := by
  unfold f_X12_areSome at h
  have hx := X.1.1
  have hb := X.1.2.1
  have hown := X.1.2.2.2.1
  have hts := X.1.2.2.2.2
  refine lv_aload_n hx hb dX12_areSome_0 rfl (lv_at hl 0 rfl) ?_
  refine sg_geti X I fk_X12_288 (by decide) shM_0 rfl dX12_areSome_1 ?_
  refine lv_if_le (tgt := 27) hx hb dX12_areSome_4 (by decide) (fun z => ?_) (fun z => ?_)
  · have h := sg_ift h z
    refine lv_iconst (v := 0) hx hb dX12_areSome_27 (by decide) ?_
    obtain rfl := Option.some.inj h
    exact hk _ _ _ _ _ I ⟨_, rfl, rfl⟩ dX12_areSome_28
  · have h := sg_iff h z
    refine lv_iload_n hx hb dX12_areSome_7 rfl (lv_at hl 1 rfl) ?_
    refine lv_iconst (v := 1) hx hb dX12_areSome_8 (by decide) ?_
    refine lv_iconst (v := 1) hx hb dX12_areSome_9 (by decide) ?_
    refine lv_aload_n hx hb dX12_areSome_10 rfl (lv_at hl 0 rfl) ?_
    refine sg_geti X I fk_X12_288 (by decide) shM_0 rfl dX12_areSome_11 ?_
    refine lv_ishl hx hb dX12_areSome_14 ?_
    refine lv_iconst (v := 1) hx hb dX12_areSome_15 (by decide) ?_
    refine lv_isub hx hb dX12_areSome_16 ?_
    refine sg_callSr (As := [.int p1, .int 1, .int ((1 <<< ((σ.1 0 28) &&& 31)) - 1)]) X I mk_X12_235 (by decide) (fun q9 e9 => c_X12_in e9) h hl.1 rfl rfl (Nat.le_of_ble_eq_true rfl) dX12_areSome_17 (fun v1 H locs h I => ?_)
    refine lv_if_eq (tgt := 27) hx hb dX12_areSome_20 (by decide) (fun z => ?_) (fun z => ?_)
    · have h := sg_ift h z
      refine lv_iconst (v := 0) hx hb dX12_areSome_27 (by decide) ?_
      obtain rfl := Option.some.inj h
      exact hk _ _ _ _ _ I ⟨_, rfl, rfl⟩ dX12_areSome_28
    · have h := sg_iff h z
      refine lv_iconst (v := 1) hx hb dX12_areSome_23 (by decide) ?_
      refine lv_goto (tgt := 28) hx hb dX12_areSome_24 (by decide) ?_
      obtain rfl := Option.some.inj h
      exact hk _ _ _ _ _ I ⟨_, rfl, rfl⟩ dX12_areSome_28
set_option maxHeartbeats 4000000 in
set_option maxRecDepth 100000 in
theorem c_X12_areSome {l : Launch} {P : sgP} {N : Nat} {p1 : Int32} {σ : sgS} {q : Int32} (h : f_X12_areSome N p1 σ = some q) : sg_Mi P shM 35 l yX12_areSome cX12_areSome 2 (some .boolean) 2 [.ref (sgA P 0), .int p1] σ (q, σ) := by
  refine sg_mki (plainFor_of_name (by decide +kernel)) (Nat.le_of_ble_eq_true rfl) ?_
  intro p e R s m args below meth c Q A ls H locs X I hl hk
  exact b_X12_areSome X I hl h hk
