def f_X12_roadBetween_L5 (N : Nat) (p1 : Int32) (p2 : Int32) (x3 : Int32) (x4 : Int32) (σ : sgS) : Option ((Int32) ⊕ ((Int32 × Int32) ⊕ (Int32))) :=
  if (σ.1 0 29) ≤ x4 then
  (some (.inr (.inr x3)))
else
  (sg_cr (f_X12_isClosed N x4 σ) fun v1 =>
  if v1 = 0 then
    (sg_cr (f_X12_joins N x4 p1 p2 σ) fun v2 =>
    if v2 = 0 then
      (some (.inr (.inl (x3, x4 + 1))))
    else
      (if x3 = ((-1)) then
        (some (.inr (.inl (x4, x4 + 1))))
      else
        (sg_ld σ 23 12 x4 fun v3 =>
        sg_ld σ 23 12 x3 fun v4 =>
        if v4 ≤ v3 then
          (some (.inr (.inl (x3, x4 + 1))))
        else
          (some (.inr (.inl (x4, x4 + 1)))))))
  else
    (some (.inr (.inl (x3, x4 + 1)))))
set_option maxHeartbeats 4000000 in
set_option maxRecDepth 100000 in
theorem b_X12_roadBetween_L5 {p : Program} {l : Launch} {e : Env} {R : Room} {s : State} {m : MethodId} {args : Array Value} {below : List Frame} {meth : Method} {c : Code} {Q : State → Prop} {P : sgP} {A : Nat → Prop} {N : Nat} {p1 : Int32} {p2 : Int32} {x3 : Int32} {x4 : Int32} {σ : sgS} (X : sg_C P A 3 p R s m args c cX12_roadBetween 5 RX12) {H : Heap} {locs : List Loc} (I : sg_I P shM 35 A s.heap σ H locs) {ls : Array Slot} (hl : lv_has ls 5 [(0, .ref (sgA P 0)), (1, .int p1), (2, .int p2), (3, .int x3), (4, .int x4)]) {st : (Int32) ⊕ ((Int32 × Int32) ⊕ (Int32))} (h : f_X12_roadBetween_L5 N p1 p2 x3 x4 σ = some st) (hk : sg_k3 (fun r => sg_Ri p l e R s m args below meth c Q P shM 35 A cX12_roadBetween (some .int) (r, σ)) (fun x => sg_Wt p l e R s m args below meth c Q P shM 35 A 5 5 σ [(0, .ref (sgA P 0)), (1, .int p1), (2, .int p2), (3, .int x.1), (4, .int x.2)]) (fun y => sg_Wt p l e R s m args below meth c Q P shM 35 A 5 68 σ [(3, .int y)]) st) : W p l e R s m args below meth c H locs 0 0 Q (F0 m 5 ls []) := by
  unfold f_X12_roadBetween_L5 at h
  have hx := X.1.1
  have hb := X.1.2.1
  have hown := X.1.2.2.2.1
  have hts := X.1.2.2.2.2
  refine lv_iload hx hb dX12_roadBetween_5 (lv_at hl 4 rfl) ?_
  refine lv_aload_n hx hb dX12_roadBetween_7 rfl (lv_at hl 0 rfl) ?_
  refine sg_geti X I fk_X12_291 (by decide) shM_0 rfl dX12_roadBetween_8 ?_
  refine lv_icmp_ge (tgt := 68) hx hb dX12_roadBetween_11 (by decide) (fun z => ?_) (fun z => ?_)
  · have h := sg_ift h z
    obtain rfl := Option.some.inj h
    exact sg_go hk I (lv_sub hl [3] rfl)
  · have h := sg_iff h z
    refine lv_aload_n hx hb dX12_roadBetween_14 rfl (lv_at hl 0 rfl) ?_
    refine lv_iload hx hb dX12_roadBetween_15 (lv_at hl 4 rfl) ?_
    refine sg_callVr (As := [.int x4]) X I mk_X12_334 (by decide) (by decide) shM_0 rfl (fun q9 e9 => c_X12_isClosed e9) h hl.1 rfl rfl (Nat.le_of_ble_eq_true rfl) dX12_roadBetween_17 (fun v1 H locs h I => ?_)
    refine lv_if_ne (tgt := 60) hx hb dX12_roadBetween_20 (by decide) (fun z => ?_) (fun z => ?_)
    · have h := sg_iff h z
      refine lv_iload_n hx hb dX12_roadBetween_60 rfl (lv_at hl 3 rfl) ?_
      refine lv_istore_n (lv' := [(3, .int x3), (0, .ref (sgA P 0)), (1, .int p1), (2, .int p2), (4, .int x4)]) hx hb dX12_roadBetween_61 rfl hl (by decide) rfl (fun ls hl => ?_)
      refine lv_iinc (v := x4 + 1) (lv' := [(4, .int (x4 + 1)), (3, .int x3), (0, .ref (sgA P 0)), (1, .int p1), (2, .int p2)]) hx hb dX12_roadBetween_62 hl (k := 4) rfl rfl (by decide) rfl (fun ls hl => ?_)
      refine lv_goto (tgt := 5) hx hb dX12_roadBetween_65 (by decide) ?_
      obtain rfl := Option.some.inj h
      exact sg_go hk I (lv_sub hl [2, 3, 4, 1, 0] rfl)
    · have h := sg_ift h z
      refine lv_aload_n hx hb dX12_roadBetween_23 rfl (lv_at hl 0 rfl) ?_
      refine lv_iload hx hb dX12_roadBetween_24 (lv_at hl 4 rfl) ?_
      refine lv_iload_n hx hb dX12_roadBetween_26 rfl (lv_at hl 1 rfl) ?_
      refine lv_iload_n hx hb dX12_roadBetween_27 rfl (lv_at hl 2 rfl) ?_
      refine sg_callVr (As := [.int x4, .int p1, .int p2]) X I mk_X12_337 (by decide) (by decide) shM_0 rfl (fun q9 e9 => c_X12_joins e9) h hl.1 rfl rfl (Nat.le_of_ble_eq_true rfl) dX12_roadBetween_28 (fun v2 H locs h I => ?_)
      refine lv_if_eq (tgt := 60) hx hb dX12_roadBetween_31 (by decide) (fun z => ?_) (fun z => ?_)
      · have h := sg_ift h z
        refine lv_iload_n hx hb dX12_roadBetween_60 rfl (lv_at hl 3 rfl) ?_
        refine lv_istore_n (lv' := [(3, .int x3), (0, .ref (sgA P 0)), (1, .int p1), (2, .int p2), (4, .int x4)]) hx hb dX12_roadBetween_61 rfl hl (by decide) rfl (fun ls hl => ?_)
        refine lv_iinc (v := x4 + 1) (lv' := [(4, .int (x4 + 1)), (3, .int x3), (0, .ref (sgA P 0)), (1, .int p1), (2, .int p2)]) hx hb dX12_roadBetween_62 hl (k := 4) rfl rfl (by decide) rfl (fun ls hl => ?_)
        refine lv_goto (tgt := 5) hx hb dX12_roadBetween_65 (by decide) ?_
        obtain rfl := Option.some.inj h
        exact sg_go hk I (lv_sub hl [2, 3, 4, 1, 0] rfl)
      · have h := sg_iff h z
        refine lv_iload_n hx hb dX12_roadBetween_34 rfl (lv_at hl 3 rfl) ?_
        refine lv_iconst (v := -1) hx hb dX12_roadBetween_35 (by decide) ?_
        refine lv_icmp_eq (tgt := 55) hx hb dX12_roadBetween_36 (by decide) (fun z => ?_) (fun z => ?_)
        · have h := sg_ift h z
          refine lv_iload hx hb dX12_roadBetween_55 (lv_at hl 4 rfl) ?_
          refine lv_goto (tgt := 61) hx hb dX12_roadBetween_57 (by decide) ?_
          refine lv_istore_n (lv' := [(3, .int x4), (0, .ref (sgA P 0)), (1, .int p1), (2, .int p2), (4, .int x4)]) hx hb dX12_roadBetween_61 rfl hl (by decide) rfl (fun ls hl => ?_)
          refine lv_iinc (v := x4 + 1) (lv' := [(4, .int (x4 + 1)), (3, .int x4), (0, .ref (sgA P 0)), (1, .int p1), (2, .int p2)]) hx hb dX12_roadBetween_62 hl (k := 4) rfl rfl (by decide) rfl (fun ls hl => ?_)
          refine lv_goto (tgt := 5) hx hb dX12_roadBetween_65 (by decide) ?_
          obtain rfl := Option.some.inj h
          exact sg_go hk I (lv_sub hl [2, 3, 4, 1, 0] rfl)
        · have h := sg_iff h z
          refine lv_aload_n hx hb dX12_roadBetween_39 rfl (lv_at hl 0 rfl) ?_
          refine sg_getr X I fk_X12_83 (j := 23) (by decide) shM_0 rfl dX12_roadBetween_40 ?_
          refine lv_iload hx hb dX12_roadBetween_43 (lv_at hl 4 rfl) ?_
          refine sg_iald X I (by decide) shM_23 h dX12_roadBetween_45 (fun v3 h => ?_)
          refine lv_aload_n hx hb dX12_roadBetween_46 rfl (lv_at hl 0 rfl) ?_
          refine sg_getr X I fk_X12_83 (j := 23) (by decide) shM_0 rfl dX12_roadBetween_47 ?_
          refine lv_iload_n hx hb dX12_roadBetween_50 rfl (lv_at hl 3 rfl) ?_
          refine sg_iald X I (by decide) shM_23 h dX12_roadBetween_51 (fun v4 h => ?_)
          refine lv_icmp_ge (tgt := 60) hx hb dX12_roadBetween_52 (by decide) (fun z => ?_) (fun z => ?_)
          · have h := sg_ift h z
            refine lv_iload_n hx hb dX12_roadBetween_60 rfl (lv_at hl 3 rfl) ?_
            refine lv_istore_n (lv' := [(3, .int x3), (0, .ref (sgA P 0)), (1, .int p1), (2, .int p2), (4, .int x4)]) hx hb dX12_roadBetween_61 rfl hl (by decide) rfl (fun ls hl => ?_)
            refine lv_iinc (v := x4 + 1) (lv' := [(4, .int (x4 + 1)), (3, .int x3), (0, .ref (sgA P 0)), (1, .int p1), (2, .int p2)]) hx hb dX12_roadBetween_62 hl (k := 4) rfl rfl (by decide) rfl (fun ls hl => ?_)
            refine lv_goto (tgt := 5) hx hb dX12_roadBetween_65 (by decide) ?_
            obtain rfl := Option.some.inj h
            exact sg_go hk I (lv_sub hl [2, 3, 4, 1, 0] rfl)
          · have h := sg_iff h z
            refine lv_iload hx hb dX12_roadBetween_55 (lv_at hl 4 rfl) ?_
            refine lv_goto (tgt := 61) hx hb dX12_roadBetween_57 (by decide) ?_
            refine lv_istore_n (lv' := [(3, .int x4), (0, .ref (sgA P 0)), (1, .int p1), (2, .int p2), (4, .int x4)]) hx hb dX12_roadBetween_61 rfl hl (by decide) rfl (fun ls hl => ?_)
            refine lv_iinc (v := x4 + 1) (lv' := [(4, .int (x4 + 1)), (3, .int x4), (0, .ref (sgA P 0)), (1, .int p1), (2, .int p2)]) hx hb dX12_roadBetween_62 hl (k := 4) rfl rfl (by decide) rfl (fun ls hl => ?_)
            refine lv_goto (tgt := 5) hx hb dX12_roadBetween_65 (by decide) ?_
            obtain rfl := Option.some.inj h
            exact sg_go hk I (lv_sub hl [2, 3, 4, 1, 0] rfl)
def f_X12_roadBetween (N : Nat) (p1 : Int32) (p2 : Int32) (σ : sgS) : Option (Int32) :=
  sg_lb (sg_lp (fun x => f_X12_roadBetween_L5 N p1 p2 x.1 x.2 σ) N (((-1), 0))) (fun r => some r) fun y5 =>
some y5
set_option maxHeartbeats 4000000 in
set_option maxRecDepth 100000 in
theorem b_X12_roadBetween {p : Program} {l : Launch} {e : Env} {R : Room} {s : State} {m : MethodId} {args : Array Value} {below : List Frame} {meth : Method} {c : Code} {Q : State → Prop} {P : sgP} {A : Nat → Prop} {N : Nat} {p1 : Int32} {p2 : Int32} {σ : sgS} (X : sg_C P A 3 p R s m args c cX12_roadBetween 5 RX12) {H : Heap} {locs : List Loc} (I : sg_I P shM 35 A s.heap σ H locs) {ls : Array Slot} (hl : lv_has ls 5 [(0, .ref (sgA P 0)), (1, .int p1), (2, .int p2)]) {st : Int32} (h : f_X12_roadBetween N p1 p2 σ = some st) (hk : sg_Ri p l e R s m args below meth c Q P shM 35 A cX12_roadBetween (some .int) (st, σ)) : W p l e R s m args below meth c H locs 0 0 Q (F0 m 0 ls []) := by
  unfold f_X12_roadBetween at h
  have hx := X.1.1
  have hb := X.1.2.1
  have hown := X.1.2.2.2.1
  have hts := X.1.2.2.2.2
  refine lv_iconst (v := -1) hx hb dX12_roadBetween_0 (by decide) ?_
  refine lv_istore_n (lv' := [(3, .int ((-1))), (0, .ref (sgA P 0)), (1, .int p1), (2, .int p2)]) hx hb dX12_roadBetween_1 rfl hl (by decide) rfl (fun ls hl => ?_)
  refine lv_iconst (v := 0) hx hb dX12_roadBetween_2 (by decide) ?_
  refine lv_istore (lv' := [(4, .int 0), (3, .int ((-1))), (0, .ref (sgA P 0)), (1, .int p1), (2, .int p2)]) hx hb dX12_roadBetween_3 hl (by decide) rfl (fun ls hl => ?_)
  obtain ⟨res, e9, k9⟩ := sg_lb_some h
  refine sg_go (sg_lp_W (a := (fun r => sg_Ri p l e R s m args below meth c Q P shM 35 A cX12_roadBetween (some .int) (r, σ))) (w := (fun x => sg_Wt p l e R s m args below meth c Q P shM 35 A 5 5 σ [(0, .ref (sgA P 0)), (1, .int p1), (2, .int p2), (3, .int x.1), (4, .int x.2)])) (c := (fun y => sg_Wt p l e R s m args below meth c Q P shM 35 A 5 68 σ [(3, .int y)])) (fun x st hb9 hk9 => ?_) N (((-1), 0)) res e9 (sg_k2_mono k9 (fun r h => ?_) (fun y5 h => ?_))) I (lv_sub hl [2, 3, 4, 1, 0] rfl)
  · intro H locs ls I hl
    exact b_X12_roadBetween_L5 X I hl hb9 hk9
  · obtain rfl := Option.some.inj h
    exact hk
  · intro H locs ls I hl
    refine lv_iload_n hx hb dX12_roadBetween_68 rfl (lv_at hl 0 rfl) ?_
    obtain rfl := Option.some.inj h
    exact hk _ _ _ _ _ I ⟨_, rfl, rfl⟩ dX12_roadBetween_69
set_option maxHeartbeats 4000000 in
set_option maxRecDepth 100000 in
theorem c_X12_roadBetween {l : Launch} {P : sgP} {N : Nat} {p1 : Int32} {p2 : Int32} {σ : sgS} {q : Int32} (h : f_X12_roadBetween N p1 p2 σ = some q) : sg_Mi P shM 35 l yX12_roadBetween cX12_roadBetween 5 (some .int) 3 [.ref (sgA P 0), .int p1, .int p2] σ (q, σ) := by
  refine sg_mki (plainFor_of_name (by decide +kernel)) (Nat.le_of_ble_eq_true rfl) ?_
  intro p e R s m args below meth c Q A ls H locs X I hl hk
  exact b_X12_roadBetween X I hl h hk
def f_X12_nextIn (N : Nat) (p1 : Int32) (σ : sgS) : Option (Int32) :=
  sg_ld σ 21 215 (4 + p1) fun v1 =>
sg_ld σ 21 215 (8 + p1) fun v2 =>
sg_ld σ 19 60 ((12 * v1) + v2) fun v3 =>
some v3
set_option maxHeartbeats 4000000 in
set_option maxRecDepth 100000 in
theorem b_X12_nextIn {p : Program} {l : Launch} {e : Env} {R : Room} {s : State} {m : MethodId} {args : Array Value} {below : List Frame} {meth : Method} {c : Code} {Q : State → Prop} {P : sgP} {A : Nat → Prop} {N : Nat} {p1 : Int32} {σ : sgS} (X : sg_C P A 1 p R s m args c cX12_nextIn 2 RX12) {H : Heap} {locs : List Loc} (I : sg_I P shM 35 A s.heap σ H locs) {ls : Array Slot} (hl : lv_has ls 2 [(0, .ref (sgA P 0)), (1, .int p1)]) {st : Int32} (h : f_X12_nextIn N p1 σ = some st) (hk : sg_Ri p l e R s m args below meth c Q P shM 35 A cX12_nextIn (some .int) (st, σ)) : W p l e R s m args below meth c H locs 0 0 Q (F0 m 0 ls []) := by
  unfold f_X12_nextIn at h
  have hx := X.1.1
  have hb := X.1.2.1
  have hown := X.1.2.2.2.1
  have hts := X.1.2.2.2.2
  refine lv_aload_n hx hb dX12_nextIn_0 rfl (lv_at hl 0 rfl) ?_
  refine sg_getr X I fk_X12_64 (j := 19) (by decide) shM_0 rfl dX12_nextIn_1 ?_
  refine lv_bipush (v := 12) hx hb dX12_nextIn_4 (by decide) ?_
  refine lv_aload_n hx hb dX12_nextIn_6 rfl (lv_at hl 0 rfl) ?_
  refine sg_getr X I fk_X12_70 (j := 21) (by decide) shM_0 rfl dX12_nextIn_7 ?_
  refine lv_iconst (v := 4) hx hb dX12_nextIn_10 (by decide) ?_
  refine lv_iload_n hx hb dX12_nextIn_11 rfl (lv_at hl 1 rfl) ?_
  refine lv_iadd hx hb dX12_nextIn_12 ?_
  refine sg_iald X I (by decide) shM_21 h dX12_nextIn_13 (fun v1 h => ?_)
  refine lv_imul hx hb dX12_nextIn_14 ?_
  refine lv_aload_n hx hb dX12_nextIn_15 rfl (lv_at hl 0 rfl) ?_
  refine sg_getr X I fk_X12_70 (j := 21) (by decide) shM_0 rfl dX12_nextIn_16 ?_
  refine lv_bipush (v := 8) hx hb dX12_nextIn_19 (by decide) ?_
  refine lv_iload_n hx hb dX12_nextIn_21 rfl (lv_at hl 1 rfl) ?_
  refine lv_iadd hx hb dX12_nextIn_22 ?_
  refine sg_iald X I (by decide) shM_21 h dX12_nextIn_23 (fun v2 h => ?_)
  refine lv_iadd hx hb dX12_nextIn_24 ?_
  refine sg_iald X I (by decide) shM_19 h dX12_nextIn_25 (fun v3 h => ?_)
  obtain rfl := Option.some.inj h
  exact hk _ _ _ _ _ I ⟨_, rfl, rfl⟩ dX12_nextIn_26
set_option maxHeartbeats 4000000 in
set_option maxRecDepth 100000 in
theorem c_X12_nextIn {l : Launch} {P : sgP} {N : Nat} {p1 : Int32} {σ : sgS} {q : Int32} (h : f_X12_nextIn N p1 σ = some q) : sg_Mi P shM 35 l yX12_nextIn cX12_nextIn 2 (some .int) 1 [.ref (sgA P 0), .int p1] σ (q, σ) := by
  refine sg_mki (plainFor_of_name (by decide +kernel)) (Nat.le_of_ble_eq_true rfl) ?_
  intro p e R s m args below meth c Q A ls H locs X I hl hk
  exact b_X12_nextIn X I hl h hk
def f_X12_callAt (N : Nat) (p1 : Int32) (σ : sgS) : Option (Int32 × sgS) :=
  sg_pf σ 0 40 ((σ.1 0 40) + 1) fun s1 =>
sg_ld s1 21 215 (24 + p1) fun v2 =>
sg_st s1 21 215 (24 + p1) ((if (v2 + 1) < 999 then (v2 + 1) else 999)) fun s3 =>
sg_ld s3 21 215 32 fun v4 =>
sg_ld s3 16 7 p1 fun v5 =>
if v5 ≤ 0 then
  (sg_st s3 21 215 32 ((if (v4 + 0) < 999 then (v4 + 0) else 999)) fun s6 =>
  some (0, s6))
else
  (sg_st s3 21 215 32 ((if (v4 + 1) < 999 then (v4 + 1) else 999)) fun s7 =>
  some (0, s7))
set_option maxHeartbeats 4000000 in
set_option maxRecDepth 100000 in
theorem b_X12_callAt {p : Program} {l : Launch} {e : Env} {R : Room} {s : State} {m : MethodId} {args : Array Value} {below : List Frame} {meth : Method} {c : Code} {Q : State → Prop} {P : sgP} {A : Nat → Prop} {N : Nat} {p1 : Int32} {σ : sgS} (X : sg_C P A 2 p R s m args c cX12_callAt 2 RX12) {H : Heap} {locs : List Loc} (I : sg_I P shM 35 A s.heap σ H locs) {ls : Array Slot} (hl : lv_has ls 2 [(0, .ref (sgA P 0)), (1, .int p1)]) {st : Int32 × sgS} (h : f_X12_callAt N p1 σ = some st) (hk : sg_Rv p l e R s m args below meth c Q P shM 35 A cX12_callAt st) : W p l e R s m args below meth c H locs 0 0 Q (F0 m 0 ls []) := by
  unfold f_X12_callAt at h
  have hx := X.1.1
  have hb := X.1.2.1
  have hown := X.1.2.2.2.1
  have hts := X.1.2.2.2.2
  refine lv_aload_n hx hb dX12_callAt_0 rfl (lv_at hl 0 rfl) ?_
  refine lv_dup hx hb dX12_callAt_1 rfl ?_
  refine sg_geti X I fk_X12_340 (by decide) shM_0 rfl dX12_callAt_2 ?_
  refine lv_iconst (v := 1) hx hb dX12_callAt_5 (by decide) ?_
  refine lv_iadd hx hb dX12_callAt_6 ?_
  refine sg_puti X I fk_X12_340 wk_12_40 rfl rfl (by decide) shM_0 rfl h dX12_callAt_7 (fun s1 H locs h I => ?_)
  refine lv_aload_n hx hb dX12_callAt_10 rfl (lv_at hl 0 rfl) ?_
  refine sg_getr X I fk_X12_70 (j := 21) (by decide) shM_0 rfl dX12_callAt_11 ?_
  refine lv_bipush (v := 24) hx hb dX12_callAt_14 (by decide) ?_
  refine lv_iload_n hx hb dX12_callAt_16 rfl (lv_at hl 1 rfl) ?_
  refine lv_iadd hx hb dX12_callAt_17 ?_
  refine lv_sipush (v := 999) hx hb dX12_callAt_18 (by decide) ?_
  refine lv_aload_n hx hb dX12_callAt_21 rfl (lv_at hl 0 rfl) ?_
  refine sg_getr X I fk_X12_70 (j := 21) (by decide) shM_0 rfl dX12_callAt_22 ?_
  refine lv_bipush (v := 24) hx hb dX12_callAt_25 (by decide) ?_
  refine lv_iload_n hx hb dX12_callAt_27 rfl (lv_at hl 1 rfl) ?_
  refine lv_iadd hx hb dX12_callAt_28 ?_
  refine sg_iald X I (by decide) shM_21 h dX12_callAt_29 (fun v2 h => ?_)
  refine lv_iconst (v := 1) hx hb dX12_callAt_30 (by decide) ?_
  refine lv_iadd hx hb dX12_callAt_31 ?_
  refine sg_mmin X hl.1 (by first | decide | omega) qw_754 qw_289 qw_286 qw_290 (Nat.le_of_ble_eq_true rfl) dX12_callAt_32 ?_
  refine sg_iast X I (by decide) shM_21 h dX12_callAt_35 (fun s3 H locs h I => ?_)
  refine lv_aload_n hx hb dX12_callAt_36 rfl (lv_at hl 0 rfl) ?_
  refine sg_getr X I fk_X12_70 (j := 21) (by decide) shM_0 rfl dX12_callAt_37 ?_
  refine lv_bipush (v := 32) hx hb dX12_callAt_40 (by decide) ?_
  refine lv_sipush (v := 999) hx hb dX12_callAt_42 (by decide) ?_
  refine lv_aload_n hx hb dX12_callAt_45 rfl (lv_at hl 0 rfl) ?_
  refine sg_getr X I fk_X12_70 (j := 21) (by decide) shM_0 rfl dX12_callAt_46 ?_
  refine lv_bipush (v := 32) hx hb dX12_callAt_49 (by decide) ?_
  refine sg_iald X I (by decide) shM_21 h dX12_callAt_51 (fun v4 h => ?_)
  refine lv_aload_n hx hb dX12_callAt_52 rfl (lv_at hl 0 rfl) ?_
  refine sg_getr X I fk_X12_55 (j := 16) (by decide) shM_0 rfl dX12_callAt_53 ?_
  refine lv_iload_n hx hb dX12_callAt_56 rfl (lv_at hl 1 rfl) ?_
  refine sg_iald X I (by decide) shM_16 h dX12_callAt_57 (fun v5 h => ?_)
  refine lv_if_le (tgt := 65) hx hb dX12_callAt_58 (by decide) (fun z => ?_) (fun z => ?_)
  · have h := sg_ift h z
    refine lv_iconst (v := 0) hx hb dX12_callAt_65 (by decide) ?_
    refine lv_iadd hx hb dX12_callAt_66 ?_
    refine sg_mmin X hl.1 (by first | decide | omega) qw_754 qw_289 qw_286 qw_290 (Nat.le_of_ble_eq_true rfl) dX12_callAt_67 ?_
    refine sg_iast X I (by decide) shM_21 h dX12_callAt_70 (fun s6 H locs h I => ?_)
    obtain rfl := Option.some.inj h
    exact hk _ _ _ _ I dX12_callAt_71
  · have h := sg_iff h z
    refine lv_iconst (v := 1) hx hb dX12_callAt_61 (by decide) ?_
    refine lv_goto (tgt := 66) hx hb dX12_callAt_62 (by decide) ?_
    refine lv_iadd hx hb dX12_callAt_66 ?_
    refine sg_mmin X hl.1 (by first | decide | omega) qw_754 qw_289 qw_286 qw_290 (Nat.le_of_ble_eq_true rfl) dX12_callAt_67 ?_
    refine sg_iast X I (by decide) shM_21 h dX12_callAt_70 (fun s7 H locs h I => ?_)
    obtain rfl := Option.some.inj h
    exact hk _ _ _ _ I dX12_callAt_71
set_option maxHeartbeats 4000000 in
set_option maxRecDepth 100000 in
theorem c_X12_callAt {l : Launch} {P : sgP} {N : Nat} {p1 : Int32} {σ : sgS} {q : Int32 × sgS} (h : f_X12_callAt N p1 σ = some q) : sg_Mv P shM 35 l yX12_callAt cX12_callAt 2 none 2 [.ref (sgA P 0), .int p1] σ q := by
  refine sg_mkv (plainFor_of_name (by decide +kernel)) (Nat.le_of_ble_eq_true rfl) ?_
  intro p e R s m args below meth c Q A ls H locs X I hl hk
  exact b_X12_callAt X I hl h hk
def f_X12_dropWay (N : Nat) (p1 : Int32) (σ : sgS) : Option (Int32 × sgS) :=
  sg_st σ 21 215 (4 + p1) ((-1)) fun s1 =>
sg_st s1 21 215 (8 + p1) 0 fun s2 =>
some (0, s2)
set_option maxHeartbeats 4000000 in
set_option maxRecDepth 100000 in
theorem b_X12_dropWay {p : Program} {l : Launch} {e : Env} {R : Room} {s : State} {m : MethodId} {args : Array Value} {below : List Frame} {meth : Method} {c : Code} {Q : State → Prop} {P : sgP} {A : Nat → Prop} {N : Nat} {p1 : Int32} {σ : sgS} (X : sg_C P A 1 p R s m args c cX12_dropWay 2 RX12) {H : Heap} {locs : List Loc} (I : sg_I P shM 35 A s.heap σ H locs) {ls : Array Slot} (hl : lv_has ls 2 [(0, .ref (sgA P 0)), (1, .int p1)]) {st : Int32 × sgS} (h : f_X12_dropWay N p1 σ = some st) (hk : sg_Rv p l e R s m args below meth c Q P shM 35 A cX12_dropWay st) : W p l e R s m args below meth c H locs 0 0 Q (F0 m 0 ls []) := by
  unfold f_X12_dropWay at h
  have hx := X.1.1
  have hb := X.1.2.1
  have hown := X.1.2.2.2.1
  have hts := X.1.2.2.2.2
  refine lv_aload_n hx hb dX12_dropWay_0 rfl (lv_at hl 0 rfl) ?_
  refine sg_getr X I fk_X12_70 (j := 21) (by decide) shM_0 rfl dX12_dropWay_1 ?_
  refine lv_iconst (v := 4) hx hb dX12_dropWay_4 (by decide) ?_
  refine lv_iload_n hx hb dX12_dropWay_5 rfl (lv_at hl 1 rfl) ?_
  refine lv_iadd hx hb dX12_dropWay_6 ?_
  refine lv_iconst (v := -1) hx hb dX12_dropWay_7 (by decide) ?_
  refine sg_iast X I (by decide) shM_21 h dX12_dropWay_8 (fun s1 H locs h I => ?_)
  refine lv_aload_n hx hb dX12_dropWay_9 rfl (lv_at hl 0 rfl) ?_
  refine sg_getr X I fk_X12_70 (j := 21) (by decide) shM_0 rfl dX12_dropWay_10 ?_
  refine lv_bipush (v := 8) hx hb dX12_dropWay_13 (by decide) ?_
  refine lv_iload_n hx hb dX12_dropWay_15 rfl (lv_at hl 1 rfl) ?_
  refine lv_iadd hx hb dX12_dropWay_16 ?_
  refine lv_iconst (v := 0) hx hb dX12_dropWay_17 (by decide) ?_
  refine sg_iast X I (by decide) shM_21 h dX12_dropWay_18 (fun s2 H locs h I => ?_)
  obtain rfl := Option.some.inj h
  exact hk _ _ _ _ I dX12_dropWay_19
set_option maxHeartbeats 4000000 in
set_option maxRecDepth 100000 in
theorem c_X12_dropWay {l : Launch} {P : sgP} {N : Nat} {p1 : Int32} {σ : sgS} {q : Int32 × sgS} (h : f_X12_dropWay N p1 σ = some q) : sg_Mv P shM 35 l yX12_dropWay cX12_dropWay 2 none 1 [.ref (sgA P 0), .int p1] σ q := by
  refine sg_mkv (plainFor_of_name (by decide +kernel)) (Nat.le_of_ble_eq_true rfl) ?_
  intro p e R s m args below meth c Q A ls H locs X I hl hk
  exact b_X12_dropWay X I hl h hk
def f_X12_goOn_L20_B207 (N : Nat) (p1 : Int32) (u2 : Int32) (k0 : Int32) (σ : sgS) : Option ((Int32 × sgS) ⊕ ((sgS × Int32 × Int32) ⊕ (sgS))) :=
  if k0 = 0 then
  (sg_cl (f_X12_dropWay N p1 σ) fun v16 s17 =>
  some (.inr (.inl (s17, u2, k0))))
else
  (some (.inr (.inl (σ, u2, k0))))
set_option maxHeartbeats 4000000 in
set_option maxRecDepth 100000 in
theorem b_X12_goOn_L20_B207 {p : Program} {l : Launch} {e : Env} {R : Room} {s : State} {m : MethodId} {args : Array Value} {below : List Frame} {meth : Method} {c : Code} {Q : State → Prop} {P : sgP} {A : Nat → Prop} {N : Nat} {p1 : Int32} {u2 : Int32} {k0 : Int32} {σ : sgS} (X : sg_C P A 4 p R s m args c cX12_goOn 6 RX12) {H : Heap} {locs : List Loc} (I : sg_I P shM 35 A s.heap σ H locs) {ls : Array Slot} (hl : lv_has ls 6 [(0, .ref (sgA P 0)), (1, .int p1), (2, .int u2)]) {st : (Int32 × sgS) ⊕ ((sgS × Int32 × Int32) ⊕ (sgS))} (h : f_X12_goOn_L20_B207 N p1 u2 k0 σ = some st) (hk : sg_k3 (sg_Rv p l e R s m args below meth c Q P shM 35 A cX12_goOn) (fun x => sg_Wt p l e R s m args below meth c Q P shM 35 A 6 20 x.1 [(0, .ref (sgA P 0)), (1, .int p1), (2, .int x.2.1), (3, .int x.2.2)]) (fun y => sg_Wt p l e R s m args below meth c Q P shM 35 A 6 220 y []) st) : W p l e R s m args below meth c H locs 0 0 Q (F0 m 207 ls [.int k0]) := by
  unfold f_X12_goOn_L20_B207 at h
  have hx := X.1.1
  have hb := X.1.2.1
  have hown := X.1.2.2.2.1
  have hts := X.1.2.2.2.2
  refine lv_istore_n (lv' := [(3, .int k0), (0, .ref (sgA P 0)), (1, .int p1), (2, .int u2)]) hx hb dX12_goOn_207 rfl hl (by decide) rfl (fun ls hl => ?_)
  refine lv_iload_n hx hb dX12_goOn_208 rfl (lv_at hl 0 rfl) ?_
  refine lv_if_ne (tgt := 217) hx hb dX12_goOn_209 (by decide) (fun z => ?_) (fun z => ?_)
  · have h := sg_iff h z
    refine lv_goto (tgt := 20) hx hb dX12_goOn_217 (by decide) ?_
    obtain rfl := Option.some.inj h
    exact sg_go hk I (lv_sub hl [1, 2, 3, 0] rfl)
  · have h := sg_ift h z
    refine lv_aload_n hx hb dX12_goOn_212 rfl (lv_at hl 1 rfl) ?_
    refine lv_iload_n hx hb dX12_goOn_213 rfl (lv_at hl 2 rfl) ?_
    refine sg_callVv (As := [.int p1]) X I mk_X12_352 (by decide) (by decide) shM_0 rfl (fun q9 e9 => c_X12_dropWay e9) h hl.1 rfl rfl (Nat.le_of_ble_eq_true rfl) dX12_goOn_214 (fun v16 s17 H locs h I => ?_)
    refine lv_goto (tgt := 20) hx hb dX12_goOn_217 (by decide) ?_
    obtain rfl := Option.some.inj h
    exact sg_go hk I (lv_sub hl [1, 2, 3, 0] rfl)
def f_X12_goOn_L20_B148 (N : Nat) (p1 : Int32) (u2 : Int32) (u4 : Int32) (σ : sgS) : Option ((Int32 × sgS) ⊕ ((sgS × Int32 × Int32) ⊕ (sgS))) :=
  sg_st σ 21 215 (0 + p1) u4 fun s8 =>
sg_ld s8 21 215 (8 + p1) fun v9 =>
sg_st s8 21 215 (8 + p1) (v9 + 1) fun s10 =>
sg_cl (f_X12_callAt N u4 s10) fun v11 s12 =>
sg_ld s12 21 215 (8 + p1) fun v13 =>
sg_ld s12 21 215 (4 + p1) fun v14 =>
sg_ld s12 20 5 v14 fun v15 =>
if v15 ≤ v13 then
  (f_X12_goOn_L20_B207 N p1 u2 0 s12)
else
  (f_X12_goOn_L20_B207 N p1 u2 1 s12)
set_option maxHeartbeats 4000000 in
set_option maxRecDepth 100000 in
theorem b_X12_goOn_L20_B148 {p : Program} {l : Launch} {e : Env} {R : Room} {s : State} {m : MethodId} {args : Array Value} {below : List Frame} {meth : Method} {c : Code} {Q : State → Prop} {P : sgP} {A : Nat → Prop} {N : Nat} {p1 : Int32} {u2 : Int32} {u4 : Int32} {σ : sgS} (X : sg_C P A 4 p R s m args c cX12_goOn 6 RX12) {H : Heap} {locs : List Loc} (I : sg_I P shM 35 A s.heap σ H locs) {ls : Array Slot} (hl : lv_has ls 6 [(0, .ref (sgA P 0)), (1, .int p1), (2, .int u2), (4, .int u4)]) {st : (Int32 × sgS) ⊕ ((sgS × Int32 × Int32) ⊕ (sgS))} (h : f_X12_goOn_L20_B148 N p1 u2 u4 σ = some st) (hk : sg_k3 (sg_Rv p l e R s m args below meth c Q P shM 35 A cX12_goOn) (fun x => sg_Wt p l e R s m args below meth c Q P shM 35 A 6 20 x.1 [(0, .ref (sgA P 0)), (1, .int p1), (2, .int x.2.1), (3, .int x.2.2)]) (fun y => sg_Wt p l e R s m args below meth c Q P shM 35 A 6 220 y []) st) : W p l e R s m args below meth c H locs 0 0 Q (F0 m 148 ls []) := by
  unfold f_X12_goOn_L20_B148 at h
  have hx := X.1.1
  have hb := X.1.2.1
  have hown := X.1.2.2.2.1
  have hts := X.1.2.2.2.2
  refine lv_aload_n hx hb dX12_goOn_148 rfl (lv_at hl 0 rfl) ?_
  refine sg_getr X I fk_X12_70 (j := 21) (by decide) shM_0 rfl dX12_goOn_149 ?_
  refine lv_iconst (v := 0) hx hb dX12_goOn_152 (by decide) ?_
  refine lv_iload_n hx hb dX12_goOn_153 rfl (lv_at hl 1 rfl) ?_
  refine lv_iadd hx hb dX12_goOn_154 ?_
  refine lv_iload hx hb dX12_goOn_155 (lv_at hl 3 rfl) ?_
  refine sg_iast X I (by decide) shM_21 h dX12_goOn_157 (fun s8 H locs h I => ?_)
  refine lv_aload_n hx hb dX12_goOn_158 rfl (lv_at hl 0 rfl) ?_
  refine sg_getr X I fk_X12_70 (j := 21) (by decide) shM_0 rfl dX12_goOn_159 ?_
  refine lv_bipush (v := 8) hx hb dX12_goOn_162 (by decide) ?_
  refine lv_iload_n hx hb dX12_goOn_164 rfl (lv_at hl 1 rfl) ?_
  refine lv_iadd hx hb dX12_goOn_165 ?_
  refine lv_dup2_11 hx hb dX12_goOn_166 rfl rfl ?_
  refine sg_iald X I (by decide) shM_21 h dX12_goOn_167 (fun v9 h => ?_)
  refine lv_iconst (v := 1) hx hb dX12_goOn_168 (by decide) ?_
  refine lv_iadd hx hb dX12_goOn_169 ?_
  refine sg_iast X I (by decide) shM_21 h dX12_goOn_170 (fun s10 H locs h I => ?_)
  refine lv_aload_n hx hb dX12_goOn_171 rfl (lv_at hl 0 rfl) ?_
  refine lv_iload hx hb dX12_goOn_172 (lv_at hl 3 rfl) ?_
  refine sg_callVv (As := [.int u4]) X I mk_X12_349 (by decide) (by decide) shM_0 rfl (fun q9 e9 => c_X12_callAt e9) h hl.1 rfl rfl (Nat.le_of_ble_eq_true rfl) dX12_goOn_174 (fun v11 s12 H locs h I => ?_)
  refine lv_aload_n hx hb dX12_goOn_177 rfl (lv_at hl 0 rfl) ?_
  refine sg_getr X I fk_X12_70 (j := 21) (by decide) shM_0 rfl dX12_goOn_178 ?_
  refine lv_bipush (v := 8) hx hb dX12_goOn_181 (by decide) ?_
  refine lv_iload_n hx hb dX12_goOn_183 rfl (lv_at hl 1 rfl) ?_
  refine lv_iadd hx hb dX12_goOn_184 ?_
  refine sg_iald X I (by decide) shM_21 h dX12_goOn_185 (fun v13 h => ?_)
  refine lv_aload_n hx hb dX12_goOn_186 rfl (lv_at hl 0 rfl) ?_
  refine sg_getr X I fk_X12_67 (j := 20) (by decide) shM_0 rfl dX12_goOn_187 ?_
  refine lv_aload_n hx hb dX12_goOn_190 rfl (lv_at hl 0 rfl) ?_
  refine sg_getr X I fk_X12_70 (j := 21) (by decide) shM_0 rfl dX12_goOn_191 ?_
  refine lv_iconst (v := 4) hx hb dX12_goOn_194 (by decide) ?_
  refine lv_iload_n hx hb dX12_goOn_195 rfl (lv_at hl 1 rfl) ?_
  refine lv_iadd hx hb dX12_goOn_196 ?_
  refine sg_iald X I (by decide) shM_21 h dX12_goOn_197 (fun v14 h => ?_)
  refine sg_iald X I (by decide) shM_20 h dX12_goOn_198 (fun v15 h => ?_)
  refine lv_icmp_ge (tgt := 206) hx hb dX12_goOn_199 (by decide) (fun z => ?_) (fun z => ?_)
  · have h := sg_ift h z
    refine lv_iconst (v := 0) hx hb dX12_goOn_206 (by decide) ?_
    exact b_X12_goOn_L20_B207 X I (lv_sub hl [0, 1, 2] rfl) h hk
  · have h := sg_iff h z
    refine lv_iconst (v := 1) hx hb dX12_goOn_202 (by decide) ?_
    refine lv_goto (tgt := 207) hx hb dX12_goOn_203 (by decide) ?_
    exact b_X12_goOn_L20_B207 X I (lv_sub hl [0, 1, 2] rfl) h hk
def f_X12_goOn_L20_B129 (N : Nat) (p1 : Int32) (u4 : Int32) (u5 : Int32) (k0 : Int32) (k1 : Int32) (σ : sgS) : Option ((Int32 × sgS) ⊕ ((sgS × Int32 × Int32) ⊕ (sgS))) :=
  if u5 = ((-1)) then
  (f_X12_goOn_L20_B148 N p1 (k0 + k1) u4 σ)
else
  (sg_ld σ 24 12 u5 fun v18 =>
  sg_st σ 24 12 u5 (v18 + 1) fun s19 =>
  f_X12_goOn_L20_B148 N p1 (k0 + k1) u4 s19)
set_option maxHeartbeats 4000000 in
set_option maxRecDepth 100000 in
theorem b_X12_goOn_L20_B129 {p : Program} {l : Launch} {e : Env} {R : Room} {s : State} {m : MethodId} {args : Array Value} {below : List Frame} {meth : Method} {c : Code} {Q : State → Prop} {P : sgP} {A : Nat → Prop} {N : Nat} {p1 : Int32} {u4 : Int32} {u5 : Int32} {k0 : Int32} {k1 : Int32} {σ : sgS} (X : sg_C P A 4 p R s m args c cX12_goOn 6 RX12) {H : Heap} {locs : List Loc} (I : sg_I P shM 35 A s.heap σ H locs) {ls : Array Slot} (hl : lv_has ls 6 [(0, .ref (sgA P 0)), (1, .int p1), (4, .int u4), (5, .int u5)]) {st : (Int32 × sgS) ⊕ ((sgS × Int32 × Int32) ⊕ (sgS))} (h : f_X12_goOn_L20_B129 N p1 u4 u5 k0 k1 σ = some st) (hk : sg_k3 (sg_Rv p l e R s m args below meth c Q P shM 35 A cX12_goOn) (fun x => sg_Wt p l e R s m args below meth c Q P shM 35 A 6 20 x.1 [(0, .ref (sgA P 0)), (1, .int p1), (2, .int x.2.1), (3, .int x.2.2)]) (fun y => sg_Wt p l e R s m args below meth c Q P shM 35 A 6 220 y []) st) : W p l e R s m args below meth c H locs 0 0 Q (F0 m 129 ls [.int k1, .int k0]) := by
  unfold f_X12_goOn_L20_B129 at h
  have hx := X.1.1
  have hb := X.1.2.1
  have hown := X.1.2.2.2.1
  have hts := X.1.2.2.2.2
  refine lv_iadd hx hb dX12_goOn_129 ?_
  refine lv_istore_n (lv' := [(2, .int (k0 + k1)), (0, .ref (sgA P 0)), (1, .int p1), (4, .int u4), (5, .int u5)]) hx hb dX12_goOn_130 rfl hl (by decide) rfl (fun ls hl => ?_)
  refine lv_iload hx hb dX12_goOn_131 (lv_at hl 4 rfl) ?_
  refine lv_iconst (v := -1) hx hb dX12_goOn_133 (by decide) ?_
  refine lv_icmp_eq (tgt := 148) hx hb dX12_goOn_134 (by decide) (fun z => ?_) (fun z => ?_)
  · have h := sg_ift h z
    exact b_X12_goOn_L20_B148 X I (lv_sub hl [1, 2, 0, 3] rfl) h hk
  · have h := sg_iff h z
    refine lv_aload_n hx hb dX12_goOn_137 rfl (lv_at hl 1 rfl) ?_
    refine sg_getr X I fk_X12_86 (j := 24) (by decide) shM_0 rfl dX12_goOn_138 ?_
    refine lv_iload hx hb dX12_goOn_141 (lv_at hl 4 rfl) ?_
    refine lv_dup2_11 hx hb dX12_goOn_143 rfl rfl ?_
    refine sg_iald X I (by decide) shM_24 h dX12_goOn_144 (fun v18 h => ?_)
    refine lv_iconst (v := 1) hx hb dX12_goOn_145 (by decide) ?_
    refine lv_iadd hx hb dX12_goOn_146 ?_
    refine sg_iast X I (by decide) shM_24 h dX12_goOn_147 (fun s19 H locs h I => ?_)
    exact b_X12_goOn_L20_B148 X I (lv_sub hl [1, 2, 0, 3] rfl) h hk
def f_X12_goOn_L20_B106 (N : Nat) (p1 : Int32) (u2 : Int32) (u4 : Int32) (u5 : Int32) (k0 : Int32) (σ : sgS) : Option ((Int32 × sgS) ⊕ ((sgS × Int32 × Int32) ⊕ (sgS))) :=
  if k0 = 0 then
  (some (.inr (.inl (σ, u2, k0))))
else
  (if u5 = ((-1)) then
    (f_X12_goOn_L20_B129 N p1 u4 u5 u2 0 σ)
  else
    (sg_ld σ 23 12 u5 fun v7 =>
    f_X12_goOn_L20_B129 N p1 u4 u5 u2 v7 σ))
set_option maxHeartbeats 4000000 in
set_option maxRecDepth 100000 in
theorem b_X12_goOn_L20_B106 {p : Program} {l : Launch} {e : Env} {R : Room} {s : State} {m : MethodId} {args : Array Value} {below : List Frame} {meth : Method} {c : Code} {Q : State → Prop} {P : sgP} {A : Nat → Prop} {N : Nat} {p1 : Int32} {u2 : Int32} {u4 : Int32} {u5 : Int32} {k0 : Int32} {σ : sgS} (X : sg_C P A 4 p R s m args c cX12_goOn 6 RX12) {H : Heap} {locs : List Loc} (I : sg_I P shM 35 A s.heap σ H locs) {ls : Array Slot} (hl : lv_has ls 6 [(0, .ref (sgA P 0)), (1, .int p1), (2, .int u2), (4, .int u4), (5, .int u5)]) {st : (Int32 × sgS) ⊕ ((sgS × Int32 × Int32) ⊕ (sgS))} (h : f_X12_goOn_L20_B106 N p1 u2 u4 u5 k0 σ = some st) (hk : sg_k3 (sg_Rv p l e R s m args below meth c Q P shM 35 A cX12_goOn) (fun x => sg_Wt p l e R s m args below meth c Q P shM 35 A 6 20 x.1 [(0, .ref (sgA P 0)), (1, .int p1), (2, .int x.2.1), (3, .int x.2.2)]) (fun y => sg_Wt p l e R s m args below meth c Q P shM 35 A 6 220 y []) st) : W p l e R s m args below meth c H locs 0 0 Q (F0 m 106 ls [.int k0]) := by
  unfold f_X12_goOn_L20_B106 at h
  have hx := X.1.1
  have hb := X.1.2.1
  have hown := X.1.2.2.2.1
  have hts := X.1.2.2.2.2
  refine lv_istore_n (lv' := [(3, .int k0), (0, .ref (sgA P 0)), (1, .int p1), (2, .int u2), (4, .int u4), (5, .int u5)]) hx hb dX12_goOn_106 rfl hl (by decide) rfl (fun ls hl => ?_)
  refine lv_iload_n hx hb dX12_goOn_107 rfl (lv_at hl 0 rfl) ?_
  refine lv_if_eq (tgt := 217) hx hb dX12_goOn_108 (by decide) (fun z => ?_) (fun z => ?_)
  · have h := sg_ift h z
    refine lv_goto (tgt := 20) hx hb dX12_goOn_217 (by decide) ?_
    obtain rfl := Option.some.inj h
    exact sg_go hk I (lv_sub hl [1, 2, 3, 0] rfl)
  · have h := sg_iff h z
    refine lv_iload_n hx hb dX12_goOn_111 rfl (lv_at hl 3 rfl) ?_
    refine lv_iload hx hb dX12_goOn_112 (lv_at hl 5 rfl) ?_
    refine lv_iconst (v := -1) hx hb dX12_goOn_114 (by decide) ?_
    refine lv_icmp_ne (tgt := 122) hx hb dX12_goOn_115 (by decide) (fun z => ?_) (fun z => ?_)
    · have h := sg_iff h z
      refine lv_aload_n hx hb dX12_goOn_122 rfl (lv_at hl 1 rfl) ?_
      refine sg_getr X I fk_X12_83 (j := 23) (by decide) shM_0 rfl dX12_goOn_123 ?_
      refine lv_iload hx hb dX12_goOn_126 (lv_at hl 5 rfl) ?_
      refine sg_iald X I (by decide) shM_23 h dX12_goOn_128 (fun v7 h => ?_)
      exact b_X12_goOn_L20_B129 X I (lv_sub hl [1, 2, 4, 5] rfl) h hk
    · have h := sg_ift h z
      refine lv_iconst (v := 0) hx hb dX12_goOn_118 (by decide) ?_
      refine lv_goto (tgt := 129) hx hb dX12_goOn_119 (by decide) ?_
      exact b_X12_goOn_L20_B129 X I (lv_sub hl [1, 2, 4, 5] rfl) h hk
def f_X12_goOn_L20_B62 (N : Nat) (p1 : Int32) (u2 : Int32) (u4 : Int32) (k0 : Int32) (σ : sgS) : Option ((Int32 × sgS) ⊕ ((sgS × Int32 × Int32) ⊕ (sgS))) :=
  sg_ld σ 21 215 (0 + p1) fun v6 =>
if u4 = v6 then
  (f_X12_goOn_L20_B106 N p1 u2 u4 k0 1 σ)
else
  (if k0 = ((-1)) then
    (f_X12_goOn_L20_B106 N p1 u2 u4 k0 0 σ)
  else
    (sg_ld σ 23 12 k0 fun v20 =>
    sg_ld σ 15 2 0 fun v21 =>
    if v21 < (u2 + v20) then
      (f_X12_goOn_L20_B106 N p1 u2 u4 k0 0 σ)
    else
      (f_X12_goOn_L20_B106 N p1 u2 u4 k0 1 σ)))
set_option maxHeartbeats 4000000 in
set_option maxRecDepth 100000 in
theorem b_X12_goOn_L20_B62 {p : Program} {l : Launch} {e : Env} {R : Room} {s : State} {m : MethodId} {args : Array Value} {below : List Frame} {meth : Method} {c : Code} {Q : State → Prop} {P : sgP} {A : Nat → Prop} {N : Nat} {p1 : Int32} {u2 : Int32} {u4 : Int32} {k0 : Int32} {σ : sgS} (X : sg_C P A 4 p R s m args c cX12_goOn 6 RX12) {H : Heap} {locs : List Loc} (I : sg_I P shM 35 A s.heap σ H locs) {ls : Array Slot} (hl : lv_has ls 6 [(0, .ref (sgA P 0)), (1, .int p1), (2, .int u2), (4, .int u4)]) {st : (Int32 × sgS) ⊕ ((sgS × Int32 × Int32) ⊕ (sgS))} (h : f_X12_goOn_L20_B62 N p1 u2 u4 k0 σ = some st) (hk : sg_k3 (sg_Rv p l e R s m args below meth c Q P shM 35 A cX12_goOn) (fun x => sg_Wt p l e R s m args below meth c Q P shM 35 A 6 20 x.1 [(0, .ref (sgA P 0)), (1, .int p1), (2, .int x.2.1), (3, .int x.2.2)]) (fun y => sg_Wt p l e R s m args below meth c Q P shM 35 A 6 220 y []) st) : W p l e R s m args below meth c H locs 0 0 Q (F0 m 62 ls [.int k0]) := by
  unfold f_X12_goOn_L20_B62 at h
  have hx := X.1.1
  have hb := X.1.2.1
  have hown := X.1.2.2.2.1
  have hts := X.1.2.2.2.2
  refine lv_istore (lv' := [(5, .int k0), (0, .ref (sgA P 0)), (1, .int p1), (2, .int u2), (4, .int u4)]) hx hb dX12_goOn_62 hl (by decide) rfl (fun ls hl => ?_)
  refine lv_iload hx hb dX12_goOn_64 (lv_at hl 4 rfl) ?_
  refine lv_aload_n hx hb dX12_goOn_66 rfl (lv_at hl 1 rfl) ?_
  refine sg_getr X I fk_X12_70 (j := 21) (by decide) shM_0 rfl dX12_goOn_67 ?_
  refine lv_iconst (v := 0) hx hb dX12_goOn_70 (by decide) ?_
  refine lv_iload_n hx hb dX12_goOn_71 rfl (lv_at hl 2 rfl) ?_
  refine lv_iadd hx hb dX12_goOn_72 ?_
  refine sg_iald X I (by decide) shM_21 h dX12_goOn_73 (fun v6 h => ?_)
  refine lv_icmp_eq (tgt := 101) hx hb dX12_goOn_74 (by decide) (fun z => ?_) (fun z => ?_)
  · have h := sg_ift h z
    refine lv_iconst (v := 1) hx hb dX12_goOn_101 (by decide) ?_
    refine lv_goto (tgt := 106) hx hb dX12_goOn_102 (by decide) ?_
    exact b_X12_goOn_L20_B106 X I (lv_sub hl [1, 2, 3, 4, 0] rfl) h hk
  · have h := sg_iff h z
    refine lv_iload hx hb dX12_goOn_77 (lv_at hl 0 rfl) ?_
    refine lv_iconst (v := -1) hx hb dX12_goOn_79 (by decide) ?_
    refine lv_icmp_eq (tgt := 105) hx hb dX12_goOn_80 (by decide) (fun z => ?_) (fun z => ?_)
    · have h := sg_ift h z
      refine lv_iconst (v := 0) hx hb dX12_goOn_105 (by decide) ?_
      exact b_X12_goOn_L20_B106 X I (lv_sub hl [1, 2, 3, 4, 0] rfl) h hk
    · have h := sg_iff h z
      refine lv_iload_n hx hb dX12_goOn_83 rfl (lv_at hl 3 rfl) ?_
      refine lv_aload_n hx hb dX12_goOn_84 rfl (lv_at hl 1 rfl) ?_
      refine sg_getr X I fk_X12_83 (j := 23) (by decide) shM_0 rfl dX12_goOn_85 ?_
      refine lv_iload hx hb dX12_goOn_88 (lv_at hl 0 rfl) ?_
      refine sg_iald X I (by decide) shM_23 h dX12_goOn_90 (fun v20 h => ?_)
      refine lv_iadd hx hb dX12_goOn_91 ?_
      refine lv_aload_n hx hb dX12_goOn_92 rfl (lv_at hl 1 rfl) ?_
      refine sg_getr X I fk_X12_52 (j := 15) (by decide) shM_0 rfl dX12_goOn_93 ?_
      refine lv_iconst (v := 0) hx hb dX12_goOn_96 (by decide) ?_
      refine sg_iald X I (by decide) shM_15 h dX12_goOn_97 (fun v21 h => ?_)
      refine lv_icmp_gt (tgt := 105) hx hb dX12_goOn_98 (by decide) (fun z => ?_) (fun z => ?_)
      · have h := sg_ift h z
        refine lv_iconst (v := 0) hx hb dX12_goOn_105 (by decide) ?_
        exact b_X12_goOn_L20_B106 X I (lv_sub hl [1, 2, 3, 4, 0] rfl) h hk
      · have h := sg_iff h z
        refine lv_iconst (v := 1) hx hb dX12_goOn_101 (by decide) ?_
        refine lv_goto (tgt := 106) hx hb dX12_goOn_102 (by decide) ?_
        exact b_X12_goOn_L20_B106 X I (lv_sub hl [1, 2, 3, 4, 0] rfl) h hk
def f_X12_goOn_L20 (N : Nat) (p1 : Int32) (x2 : Int32) (x3 : Int32) (σ : sgS) : Option ((Int32 × sgS) ⊕ ((sgS × Int32 × Int32) ⊕ (sgS))) :=
  if x3 = 0 then
  (some (.inr (.inr σ)))
else
  (sg_cr (f_X12_nextIn N p1 σ) fun v2 =>
  sg_ld σ 21 215 (0 + p1) fun v3 =>
  if v2 = v3 then
    (f_X12_goOn_L20_B62 N p1 x2 v2 ((-1)) σ)
  else
    (sg_ld σ 21 215 (0 + p1) fun v4 =>
    sg_cr (f_X12_roadBetween N v4 v2 σ) fun v5 =>
    f_X12_goOn_L20_B62 N p1 x2 v2 v5 σ))
set_option maxHeartbeats 4000000 in
set_option maxRecDepth 100000 in
theorem b_X12_goOn_L20 {p : Program} {l : Launch} {e : Env} {R : Room} {s : State} {m : MethodId} {args : Array Value} {below : List Frame} {meth : Method} {c : Code} {Q : State → Prop} {P : sgP} {A : Nat → Prop} {N : Nat} {p1 : Int32} {x2 : Int32} {x3 : Int32} {σ : sgS} (X : sg_C P A 4 p R s m args c cX12_goOn 6 RX12) {H : Heap} {locs : List Loc} (I : sg_I P shM 35 A s.heap σ H locs) {ls : Array Slot} (hl : lv_has ls 6 [(0, .ref (sgA P 0)), (1, .int p1), (2, .int x2), (3, .int x3)]) {st : (Int32 × sgS) ⊕ ((sgS × Int32 × Int32) ⊕ (sgS))} (h : f_X12_goOn_L20 N p1 x2 x3 σ = some st) (hk : sg_k3 (sg_Rv p l e R s m args below meth c Q P shM 35 A cX12_goOn) (fun x => sg_Wt p l e R s m args below meth c Q P shM 35 A 6 20 x.1 [(0, .ref (sgA P 0)), (1, .int p1), (2, .int x.2.1), (3, .int x.2.2)]) (fun y => sg_Wt p l e R s m args below meth c Q P shM 35 A 6 220 y []) st) : W p l e R s m args below meth c H locs 0 0 Q (F0 m 20 ls []) := by
  unfold f_X12_goOn_L20 at h
  have hx := X.1.1
  have hb := X.1.2.1
  have hown := X.1.2.2.2.1
  have hts := X.1.2.2.2.2
  refine lv_iload_n hx hb dX12_goOn_20 rfl (lv_at hl 3 rfl) ?_
  refine lv_if_eq (tgt := 220) hx hb dX12_goOn_21 (by decide) (fun z => ?_) (fun z => ?_)
  · have h := sg_ift h z
    obtain rfl := Option.some.inj h
    exact sg_go hk I (lv_sub hl [] rfl)
  · have h := sg_iff h z
    refine lv_aload_n hx hb dX12_goOn_24 rfl (lv_at hl 0 rfl) ?_
    refine lv_iload_n hx hb dX12_goOn_25 rfl (lv_at hl 1 rfl) ?_
    refine sg_callVr (As := [.int p1]) X I mk_X12_343 (by decide) (by decide) shM_0 rfl (fun q9 e9 => c_X12_nextIn e9) h hl.1 rfl rfl (Nat.le_of_ble_eq_true rfl) dX12_goOn_26 (fun v2 H locs h I => ?_)
    refine lv_istore (lv' := [(4, .int v2), (0, .ref (sgA P 0)), (1, .int p1), (2, .int x2), (3, .int x3)]) hx hb dX12_goOn_29 hl (by decide) rfl (fun ls hl => ?_)
    refine lv_iload hx hb dX12_goOn_31 (lv_at hl 0 rfl) ?_
    refine lv_aload_n hx hb dX12_goOn_33 rfl (lv_at hl 1 rfl) ?_
    refine sg_getr X I fk_X12_70 (j := 21) (by decide) shM_0 rfl dX12_goOn_34 ?_
    refine lv_iconst (v := 0) hx hb dX12_goOn_37 (by decide) ?_
    refine lv_iload_n hx hb dX12_goOn_38 rfl (lv_at hl 2 rfl) ?_
    refine lv_iadd hx hb dX12_goOn_39 ?_
    refine sg_iald X I (by decide) shM_21 h dX12_goOn_40 (fun v3 h => ?_)
    refine lv_icmp_ne (tgt := 48) hx hb dX12_goOn_41 (by decide) (fun z => ?_) (fun z => ?_)
    · have h := sg_iff h z
      refine lv_aload_n hx hb dX12_goOn_48 rfl (lv_at hl 1 rfl) ?_
      refine lv_aload_n hx hb dX12_goOn_49 rfl (lv_at hl 1 rfl) ?_
      refine sg_getr X I fk_X12_70 (j := 21) (by decide) shM_0 rfl dX12_goOn_50 ?_
      refine lv_iconst (v := 0) hx hb dX12_goOn_53 (by decide) ?_
      refine lv_iload_n hx hb dX12_goOn_54 rfl (lv_at hl 2 rfl) ?_
      refine lv_iadd hx hb dX12_goOn_55 ?_
      refine sg_iald X I (by decide) shM_21 h dX12_goOn_56 (fun v4 h => ?_)
      refine lv_iload hx hb dX12_goOn_57 (lv_at hl 0 rfl) ?_
      refine sg_callVr (As := [.int v4, .int v2]) X I mk_X12_346 (by decide) (by decide) shM_0 rfl (fun q9 e9 => c_X12_roadBetween e9) h hl.1 rfl rfl (Nat.le_of_ble_eq_true rfl) dX12_goOn_59 (fun v5 H locs h I => ?_)
      exact b_X12_goOn_L20_B62 X I (lv_sub hl [1, 2, 3, 0] rfl) h hk
    · have h := sg_ift h z
      refine lv_iconst (v := -1) hx hb dX12_goOn_44 (by decide) ?_
      refine lv_goto (tgt := 62) hx hb dX12_goOn_45 (by decide) ?_
      exact b_X12_goOn_L20_B62 X I (lv_sub hl [1, 2, 3, 0] rfl) h hk
def f_X12_goOn_B19 (N : Nat) (p1 : Int32) (u2 : Int32) (k0 : Int32) (σ : sgS) : Option (Int32 × sgS) :=
  sg_lb (sg_lp (fun x => f_X12_goOn_L20 N p1 x.2.1 x.2.2 x.1) N ((σ, u2, k0))) (fun r => some r) fun y22 =>
some (0, y22)
set_option maxHeartbeats 4000000 in
set_option maxRecDepth 100000 in
theorem b_X12_goOn_B19 {p : Program} {l : Launch} {e : Env} {R : Room} {s : State} {m : MethodId} {args : Array Value} {below : List Frame} {meth : Method} {c : Code} {Q : State → Prop} {P : sgP} {A : Nat → Prop} {N : Nat} {p1 : Int32} {u2 : Int32} {k0 : Int32} {σ : sgS} (X : sg_C P A 4 p R s m args c cX12_goOn 6 RX12) {H : Heap} {locs : List Loc} (I : sg_I P shM 35 A s.heap σ H locs) {ls : Array Slot} (hl : lv_has ls 6 [(0, .ref (sgA P 0)), (1, .int p1), (2, .int u2)]) {st : Int32 × sgS} (h : f_X12_goOn_B19 N p1 u2 k0 σ = some st) (hk : sg_Rv p l e R s m args below meth c Q P shM 35 A cX12_goOn st) : W p l e R s m args below meth c H locs 0 0 Q (F0 m 19 ls [.int k0]) := by
  unfold f_X12_goOn_B19 at h
  have hx := X.1.1
  have hb := X.1.2.1
  have hown := X.1.2.2.2.1
  have hts := X.1.2.2.2.2
  refine lv_istore_n (lv' := [(3, .int k0), (0, .ref (sgA P 0)), (1, .int p1), (2, .int u2)]) hx hb dX12_goOn_19 rfl hl (by decide) rfl (fun ls hl => ?_)
  obtain ⟨res, e9, k9⟩ := sg_lb_some h
  refine sg_go (sg_lp_W (a := (sg_Rv p l e R s m args below meth c Q P shM 35 A cX12_goOn)) (w := (fun x => sg_Wt p l e R s m args below meth c Q P shM 35 A 6 20 x.1 [(0, .ref (sgA P 0)), (1, .int p1), (2, .int x.2.1), (3, .int x.2.2)])) (c := (fun y => sg_Wt p l e R s m args below meth c Q P shM 35 A 6 220 y [])) (fun x st hb9 hk9 => ?_) N ((σ, u2, k0)) res e9 (sg_k2_mono k9 (fun r h => ?_) (fun y22 h => ?_))) I (lv_sub hl [1, 2, 3, 0] rfl)
  · intro H locs ls I hl
    exact b_X12_goOn_L20 X I hl hb9 hk9
  · obtain rfl := Option.some.inj h
    exact hk
  · intro H locs ls I hl
    obtain rfl := Option.some.inj h
    exact hk _ _ _ _ I dX12_goOn_220
def f_X12_goOn (N : Nat) (p1 : Int32) (σ : sgS) : Option (Int32 × sgS) :=
  sg_ld σ 21 215 (4 + p1) fun v1 =>
if v1 = ((-1)) then
  (f_X12_goOn_B19 N p1 0 0 σ)
else
  (f_X12_goOn_B19 N p1 0 1 σ)
set_option maxHeartbeats 4000000 in
set_option maxRecDepth 100000 in
theorem b_X12_goOn {p : Program} {l : Launch} {e : Env} {R : Room} {s : State} {m : MethodId} {args : Array Value} {below : List Frame} {meth : Method} {c : Code} {Q : State → Prop} {P : sgP} {A : Nat → Prop} {N : Nat} {p1 : Int32} {σ : sgS} (X : sg_C P A 4 p R s m args c cX12_goOn 6 RX12) {H : Heap} {locs : List Loc} (I : sg_I P shM 35 A s.heap σ H locs) {ls : Array Slot} (hl : lv_has ls 6 [(0, .ref (sgA P 0)), (1, .int p1)]) {st : Int32 × sgS} (h : f_X12_goOn N p1 σ = some st) (hk : sg_Rv p l e R s m args below meth c Q P shM 35 A cX12_goOn st) : W p l e R s m args below meth c H locs 0 0 Q (F0 m 0 ls []) := by
  unfold f_X12_goOn at h
  have hx := X.1.1
  have hb := X.1.2.1
  have hown := X.1.2.2.2.1
  have hts := X.1.2.2.2.2
  refine lv_iconst (v := 0) hx hb dX12_goOn_0 (by decide) ?_
  refine lv_istore_n (lv' := [(2, .int 0), (0, .ref (sgA P 0)), (1, .int p1)]) hx hb dX12_goOn_1 rfl hl (by decide) rfl (fun ls hl => ?_)
  refine lv_aload_n hx hb dX12_goOn_2 rfl (lv_at hl 1 rfl) ?_
  refine sg_getr X I fk_X12_70 (j := 21) (by decide) shM_0 rfl dX12_goOn_3 ?_
  refine lv_iconst (v := 4) hx hb dX12_goOn_6 (by decide) ?_
  refine lv_iload_n hx hb dX12_goOn_7 rfl (lv_at hl 2 rfl) ?_
  refine lv_iadd hx hb dX12_goOn_8 ?_
  refine sg_iald X I (by decide) shM_21 h dX12_goOn_9 (fun v1 h => ?_)
  refine lv_iconst (v := -1) hx hb dX12_goOn_10 (by decide) ?_
  refine lv_icmp_eq (tgt := 18) hx hb dX12_goOn_11 (by decide) (fun z => ?_) (fun z => ?_)
  · have h := sg_ift h z
    refine lv_iconst (v := 0) hx hb dX12_goOn_18 (by decide) ?_
    exact b_X12_goOn_B19 X I (lv_sub hl [1, 2, 0] rfl) h hk
  · have h := sg_iff h z
    refine lv_iconst (v := 1) hx hb dX12_goOn_14 (by decide) ?_
    refine lv_goto (tgt := 19) hx hb dX12_goOn_15 (by decide) ?_
    exact b_X12_goOn_B19 X I (lv_sub hl [1, 2, 0] rfl) h hk
set_option maxHeartbeats 4000000 in
set_option maxRecDepth 100000 in
theorem c_X12_goOn {l : Launch} {P : sgP} {N : Nat} {p1 : Int32} {σ : sgS} {q : Int32 × sgS} (h : f_X12_goOn N p1 σ = some q) : sg_Mv P shM 35 l yX12_goOn cX12_goOn 6 none 4 [.ref (sgA P 0), .int p1] σ q := by
  refine sg_mkv (plainFor_of_name (by decide +kernel)) (Nat.le_of_ble_eq_true rfl) ?_
  intro p e R s m args below meth c Q A ls H locs X I hl hk
  exact b_X12_goOn X I hl h hk
def f_X12_live_L11 (N : Nat) (x1 : Int32) (σ : sgS) : Option ((Int32 × sgS) ⊕ ((sgS × Int32) ⊕ (sgS))) :=
  if 12 ≤ x1 then
  (some (.inr (.inr σ)))
else
  (sg_st σ 24 12 x1 0 fun s4 =>
  some (.inr (.inl (s4, x1 + 1))))
set_option maxHeartbeats 4000000 in
set_option maxRecDepth 100000 in
theorem b_X12_live_L11 {p : Program} {l : Launch} {e : Env} {R : Room} {s : State} {m : MethodId} {args : Array Value} {below : List Frame} {meth : Method} {c : Code} {Q : State → Prop} {P : sgP} {A : Nat → Prop} {N : Nat} {x1 : Int32} {σ : sgS} (X : sg_C P A 8 p R s m args c cX12_live 2 RX12) {H : Heap} {locs : List Loc} (I : sg_I P shM 35 A s.heap σ H locs) {ls : Array Slot} (hl : lv_has ls 2 [(0, .ref (sgA P 0)), (1, .int x1)]) {st : (Int32 × sgS) ⊕ ((sgS × Int32) ⊕ (sgS))} (h : f_X12_live_L11 N x1 σ = some st) (hk : sg_k3 (sg_Rv p l e R s m args below meth c Q P shM 35 A cX12_live) (fun x => sg_Wt p l e R s m args below meth c Q P shM 35 A 2 11 x.1 [(0, .ref (sgA P 0)), (1, .int x.2)]) (fun y => sg_Wt p l e R s m args below meth c Q P shM 35 A 2 30 y [(0, .ref (sgA P 0))]) st) : W p l e R s m args below meth c H locs 0 0 Q (F0 m 11 ls []) := by
  unfold f_X12_live_L11 at h
  have hx := X.1.1
  have hb := X.1.2.1
  have hown := X.1.2.2.2.1
  have hts := X.1.2.2.2.2
  refine lv_iload_n hx hb dX12_live_11 rfl (lv_at hl 1 rfl) ?_
  refine lv_bipush (v := 12) hx hb dX12_live_12 (by decide) ?_
  refine lv_icmp_ge (tgt := 30) hx hb dX12_live_14 (by decide) (fun z => ?_) (fun z => ?_)
  · have h := sg_ift h z
    obtain rfl := Option.some.inj h
    exact sg_go hk I (lv_sub hl [0] rfl)
  · have h := sg_iff h z
    refine lv_aload_n hx hb dX12_live_17 rfl (lv_at hl 0 rfl) ?_
    refine sg_getr X I fk_X12_86 (j := 24) (by decide) shM_0 rfl dX12_live_18 ?_
    refine lv_iload_n hx hb dX12_live_21 rfl (lv_at hl 1 rfl) ?_
    refine lv_iconst (v := 0) hx hb dX12_live_22 (by decide) ?_
    refine sg_iast X I (by decide) shM_24 h dX12_live_23 (fun s4 H locs h I => ?_)
    refine lv_iinc (v := x1 + 1) (lv' := [(1, .int (x1 + 1)), (0, .ref (sgA P 0))]) hx hb dX12_live_24 hl (k := 1) rfl rfl (by decide) rfl (fun ls hl => ?_)
    refine lv_goto (tgt := 11) hx hb dX12_live_27 (by decide) ?_
    obtain rfl := Option.some.inj h
    exact sg_go hk I (lv_sub hl [1, 0] rfl)
def f_X12_live_L32 (N : Nat) (x1 : Int32) (σ : sgS) : Option ((Int32 × sgS) ⊕ ((sgS × Int32) ⊕ (sgS))) :=
  if (σ.1 0 30) ≤ x1 then
  (some (.inr (.inr σ)))
else
  (sg_cl (f_X12_goOn N x1 σ) fun v6 s7 =>
  some (.inr (.inl (s7, x1 + 1))))
set_option maxHeartbeats 4000000 in
set_option maxRecDepth 100000 in
theorem b_X12_live_L32 {p : Program} {l : Launch} {e : Env} {R : Room} {s : State} {m : MethodId} {args : Array Value} {below : List Frame} {meth : Method} {c : Code} {Q : State → Prop} {P : sgP} {A : Nat → Prop} {N : Nat} {x1 : Int32} {σ : sgS} (X : sg_C P A 8 p R s m args c cX12_live 2 RX12) {H : Heap} {locs : List Loc} (I : sg_I P shM 35 A s.heap σ H locs) {ls : Array Slot} (hl : lv_has ls 2 [(0, .ref (sgA P 0)), (1, .int x1)]) {st : (Int32 × sgS) ⊕ ((sgS × Int32) ⊕ (sgS))} (h : f_X12_live_L32 N x1 σ = some st) (hk : sg_k3 (sg_Rv p l e R s m args below meth c Q P shM 35 A cX12_live) (fun x => sg_Wt p l e R s m args below meth c Q P shM 35 A 2 32 x.1 [(0, .ref (sgA P 0)), (1, .int x.2)]) (fun y => sg_Wt p l e R s m args below meth c Q P shM 35 A 2 51 y [(0, .ref (sgA P 0))]) st) : W p l e R s m args below meth c H locs 0 0 Q (F0 m 32 ls []) := by
  unfold f_X12_live_L32 at h
  have hx := X.1.1
  have hb := X.1.2.1
  have hown := X.1.2.2.2.1
  have hts := X.1.2.2.2.2
  refine lv_iload_n hx hb dX12_live_32 rfl (lv_at hl 1 rfl) ?_
  refine lv_aload_n hx hb dX12_live_33 rfl (lv_at hl 0 rfl) ?_
  refine sg_geti X I fk_X12_285 (by decide) shM_0 rfl dX12_live_34 ?_
  refine lv_icmp_ge (tgt := 51) hx hb dX12_live_37 (by decide) (fun z => ?_) (fun z => ?_)
  · have h := sg_ift h z
    obtain rfl := Option.some.inj h
    exact sg_go hk I (lv_sub hl [0] rfl)
  · have h := sg_iff h z
    refine lv_aload_n hx hb dX12_live_40 rfl (lv_at hl 0 rfl) ?_
    refine lv_iload_n hx hb dX12_live_41 rfl (lv_at hl 1 rfl) ?_
    refine sg_callVv (As := [.int x1]) X I mk_X12_358 (by decide) (by decide) shM_0 rfl (fun q9 e9 => c_X12_goOn e9) h hl.1 rfl rfl (Nat.le_of_ble_eq_true rfl) dX12_live_42 (fun v6 s7 H locs h I => ?_)
    refine lv_iinc (v := x1 + 1) (lv' := [(1, .int (x1 + 1)), (0, .ref (sgA P 0))]) hx hb dX12_live_45 hl (k := 1) rfl rfl (by decide) rfl (fun ls hl => ?_)
    refine lv_goto (tgt := 32) hx hb dX12_live_48 (by decide) ?_
    obtain rfl := Option.some.inj h
    exact sg_go hk I (lv_sub hl [1, 0] rfl)
def f_X12_live_L53 (N : Nat) (x1 : Int32) (σ : sgS) : Option ((Int32 × sgS) ⊕ ((sgS × Int32) ⊕ (sgS))) :=
  if (σ.1 0 29) ≤ x1 then
  (some (.inr (.inr σ)))
else
  (sg_ld σ 21 215 (12 + x1) fun v9 =>
  sg_ld σ 24 12 x1 fun v10 =>
  sg_st σ 21 215 (12 + x1) ((if (v9 + v10) < 999 then (v9 + v10) else 999)) fun s11 =>
  some (.inr (.inl (s11, x1 + 1))))
set_option maxHeartbeats 4000000 in
set_option maxRecDepth 100000 in
theorem b_X12_live_L53 {p : Program} {l : Launch} {e : Env} {R : Room} {s : State} {m : MethodId} {args : Array Value} {below : List Frame} {meth : Method} {c : Code} {Q : State → Prop} {P : sgP} {A : Nat → Prop} {N : Nat} {x1 : Int32} {σ : sgS} (X : sg_C P A 8 p R s m args c cX12_live 2 RX12) {H : Heap} {locs : List Loc} (I : sg_I P shM 35 A s.heap σ H locs) {ls : Array Slot} (hl : lv_has ls 2 [(0, .ref (sgA P 0)), (1, .int x1)]) {st : (Int32 × sgS) ⊕ ((sgS × Int32) ⊕ (sgS))} (h : f_X12_live_L53 N x1 σ = some st) (hk : sg_k3 (sg_Rv p l e R s m args below meth c Q P shM 35 A cX12_live) (fun x => sg_Wt p l e R s m args below meth c Q P shM 35 A 2 53 x.1 [(0, .ref (sgA P 0)), (1, .int x.2)]) (fun y => sg_Wt p l e R s m args below meth c Q P shM 35 A 2 98 y [(0, .ref (sgA P 0))]) st) : W p l e R s m args below meth c H locs 0 0 Q (F0 m 53 ls []) := by
  unfold f_X12_live_L53 at h
  have hx := X.1.1
  have hb := X.1.2.1
  have hown := X.1.2.2.2.1
  have hts := X.1.2.2.2.2
  refine lv_iload_n hx hb dX12_live_53 rfl (lv_at hl 1 rfl) ?_
  refine lv_aload_n hx hb dX12_live_54 rfl (lv_at hl 0 rfl) ?_
  refine sg_geti X I fk_X12_291 (by decide) shM_0 rfl dX12_live_55 ?_
  refine lv_icmp_ge (tgt := 98) hx hb dX12_live_58 (by decide) (fun z => ?_) (fun z => ?_)
  · have h := sg_ift h z
    obtain rfl := Option.some.inj h
    exact sg_go hk I (lv_sub hl [0] rfl)
  · have h := sg_iff h z
    refine lv_aload_n hx hb dX12_live_61 rfl (lv_at hl 0 rfl) ?_
    refine sg_getr X I fk_X12_70 (j := 21) (by decide) shM_0 rfl dX12_live_62 ?_
    refine lv_bipush (v := 12) hx hb dX12_live_65 (by decide) ?_
    refine lv_iload_n hx hb dX12_live_67 rfl (lv_at hl 1 rfl) ?_
    refine lv_iadd hx hb dX12_live_68 ?_
    refine lv_sipush (v := 999) hx hb dX12_live_69 (by decide) ?_
    refine lv_aload_n hx hb dX12_live_72 rfl (lv_at hl 0 rfl) ?_
    refine sg_getr X I fk_X12_70 (j := 21) (by decide) shM_0 rfl dX12_live_73 ?_
    refine lv_bipush (v := 12) hx hb dX12_live_76 (by decide) ?_
    refine lv_iload_n hx hb dX12_live_78 rfl (lv_at hl 1 rfl) ?_
    refine lv_iadd hx hb dX12_live_79 ?_
    refine sg_iald X I (by decide) shM_21 h dX12_live_80 (fun v9 h => ?_)
    refine lv_aload_n hx hb dX12_live_81 rfl (lv_at hl 0 rfl) ?_
    refine sg_getr X I fk_X12_86 (j := 24) (by decide) shM_0 rfl dX12_live_82 ?_
    refine lv_iload_n hx hb dX12_live_85 rfl (lv_at hl 1 rfl) ?_
    refine sg_iald X I (by decide) shM_24 h dX12_live_86 (fun v10 h => ?_)
    refine lv_iadd hx hb dX12_live_87 ?_
    refine sg_mmin X hl.1 (by first | decide | omega) qw_754 qw_289 qw_286 qw_290 (Nat.le_of_ble_eq_true rfl) dX12_live_88 ?_
    refine sg_iast X I (by decide) shM_21 h dX12_live_91 (fun s11 H locs h I => ?_)
    refine lv_iinc (v := x1 + 1) (lv' := [(1, .int (x1 + 1)), (0, .ref (sgA P 0))]) hx hb dX12_live_92 hl (k := 1) rfl rfl (by decide) rfl (fun ls hl => ?_)
    refine lv_goto (tgt := 53) hx hb dX12_live_95 (by decide) ?_
    obtain rfl := Option.some.inj h
    exact sg_go hk I (lv_sub hl [1, 0] rfl)
def f_X12_live (N : Nat) (σ : sgS) : Option (Int32 × sgS) :=
  sg_cl (f_X12_layLongs N σ) fun v1 s2 =>
sg_pf s2 0 40 0 fun s3 =>
sg_lb (sg_lp (fun x => f_X12_live_L11 N x.2 x.1) N ((s3, 0))) (fun r => some r) fun y5 =>
sg_lb (sg_lp (fun x => f_X12_live_L32 N x.2 x.1) N ((y5, 0))) (fun r => some r) fun y8 =>
sg_lb (sg_lp (fun x => f_X12_live_L53 N x.2 x.1) N ((y8, 0))) (fun r => some r) fun y12 =>
sg_ld y12 21 215 33 fun v13 =>
sg_st y12 21 215 33 (v13 + 1) fun s14 =>
some (0, s14)
set_option maxHeartbeats 4000000 in
set_option maxRecDepth 100000 in
theorem b_X12_live {p : Program} {l : Launch} {e : Env} {R : Room} {s : State} {m : MethodId} {args : Array Value} {below : List Frame} {meth : Method} {c : Code} {Q : State → Prop} {P : sgP} {A : Nat → Prop} {N : Nat} {σ : sgS} (X : sg_C P A 8 p R s m args c cX12_live 2 RX12) {H : Heap} {locs : List Loc} (I : sg_I P shM 35 A s.heap σ H locs) {ls : Array Slot} (hl : lv_has ls 2 [(0, .ref (sgA P 0))]) {st : Int32 × sgS} (h : f_X12_live N σ = some st) (hk : sg_Rv p l e R s m args below meth c Q P shM 35 A cX12_live st) : W p l e R s m args below meth c H locs 0 0 Q (F0 m 0 ls []) := by
  unfold f_X12_live at h
  have hx := X.1.1
  have hb := X.1.2.1
  have hown := X.1.2.2.2.1
  have hts := X.1.2.2.2.2
  refine lv_aload_n hx hb dX12_live_0 rfl (lv_at hl 0 rfl) ?_
  refine sg_callVv (As := []) X I mk_X12_355 (by decide) (by decide) shM_0 rfl (fun q9 e9 => c_X12_layLongs e9) h hl.1 rfl rfl (Nat.le_of_ble_eq_true rfl) dX12_live_1 (fun v1 s2 H locs h I => ?_)
  refine lv_aload_n hx hb dX12_live_4 rfl (lv_at hl 0 rfl) ?_
  refine lv_iconst (v := 0) hx hb dX12_live_5 (by decide) ?_
  refine sg_puti X I fk_X12_340 wk_12_40 rfl rfl (by decide) shM_0 rfl h dX12_live_6 (fun s3 H locs h I => ?_)
  refine lv_iconst (v := 0) hx hb dX12_live_9 (by decide) ?_
  refine lv_istore_n (lv' := [(1, .int 0), (0, .ref (sgA P 0))]) hx hb dX12_live_10 rfl hl (by decide) rfl (fun ls hl => ?_)
  obtain ⟨res, e9, k9⟩ := sg_lb_some h
  refine sg_go (sg_lp_W (a := (sg_Rv p l e R s m args below meth c Q P shM 35 A cX12_live)) (w := (fun x => sg_Wt p l e R s m args below meth c Q P shM 35 A 2 11 x.1 [(0, .ref (sgA P 0)), (1, .int x.2)])) (c := (fun y => sg_Wt p l e R s m args below meth c Q P shM 35 A 2 30 y [(0, .ref (sgA P 0))])) (fun x st hb9 hk9 => ?_) N ((s3, 0)) res e9 (sg_k2_mono k9 (fun r h => ?_) (fun y5 h => ?_))) I (lv_sub hl [1, 0] rfl)
  · intro H locs ls I hl
    exact b_X12_live_L11 X I hl hb9 hk9
  · obtain rfl := Option.some.inj h
    exact hk
  · intro H locs ls I hl
    refine lv_iconst (v := 0) hx hb dX12_live_30 (by decide) ?_
    refine lv_istore_n (lv' := [(1, .int 0), (0, .ref (sgA P 0))]) hx hb dX12_live_31 rfl hl (by decide) rfl (fun ls hl => ?_)
    obtain ⟨res, e9, k9⟩ := sg_lb_some h
    refine sg_go (sg_lp_W (a := (sg_Rv p l e R s m args below meth c Q P shM 35 A cX12_live)) (w := (fun x => sg_Wt p l e R s m args below meth c Q P shM 35 A 2 32 x.1 [(0, .ref (sgA P 0)), (1, .int x.2)])) (c := (fun y => sg_Wt p l e R s m args below meth c Q P shM 35 A 2 51 y [(0, .ref (sgA P 0))])) (fun x st hb9 hk9 => ?_) N ((y5, 0)) res e9 (sg_k2_mono k9 (fun r h => ?_) (fun y8 h => ?_))) I (lv_sub hl [1, 0] rfl)
    · intro H locs ls I hl
      exact b_X12_live_L32 X I hl hb9 hk9
    · obtain rfl := Option.some.inj h
      exact hk
    · intro H locs ls I hl
      refine lv_iconst (v := 0) hx hb dX12_live_51 (by decide) ?_
      refine lv_istore_n (lv' := [(1, .int 0), (0, .ref (sgA P 0))]) hx hb dX12_live_52 rfl hl (by decide) rfl (fun ls hl => ?_)
      obtain ⟨res, e9, k9⟩ := sg_lb_some h
      refine sg_go (sg_lp_W (a := (sg_Rv p l e R s m args below meth c Q P shM 35 A cX12_live)) (w := (fun x => sg_Wt p l e R s m args below meth c Q P shM 35 A 2 53 x.1 [(0, .ref (sgA P 0)), (1, .int x.2)])) (c := (fun y => sg_Wt p l e R s m args below meth c Q P shM 35 A 2 98 y [(0, .ref (sgA P 0))])) (fun x st hb9 hk9 => ?_) N ((y8, 0)) res e9 (sg_k2_mono k9 (fun r h => ?_) (fun y12 h => ?_))) I (lv_sub hl [1, 0] rfl)
      · intro H locs ls I hl
        exact b_X12_live_L53 X I hl hb9 hk9
      · obtain rfl := Option.some.inj h
        exact hk
      · intro H locs ls I hl
        refine lv_aload_n hx hb dX12_live_98 rfl (lv_at hl 0 rfl) ?_
        refine sg_getr X I fk_X12_70 (j := 21) (by decide) shM_0 rfl dX12_live_99 ?_
        refine lv_bipush (v := 33) hx hb dX12_live_102 (by decide) ?_
        refine lv_dup2_11 hx hb dX12_live_104 rfl rfl ?_
        refine sg_iald X I (by decide) shM_21 h dX12_live_105 (fun v13 h => ?_)
        refine lv_iconst (v := 1) hx hb dX12_live_106 (by decide) ?_
        refine lv_iadd hx hb dX12_live_107 ?_
        refine sg_iast X I (by decide) shM_21 h dX12_live_108 (fun s14 H locs h I => ?_)
        obtain rfl := Option.some.inj h
        exact hk _ _ _ _ I dX12_live_109
set_option maxHeartbeats 4000000 in
set_option maxRecDepth 100000 in
theorem c_X12_live {l : Launch} {P : sgP} {N : Nat} {σ : sgS} {q : Int32 × sgS} (h : f_X12_live N σ = some q) : sg_Mv P shM 35 l yX12_live cX12_live 2 none 8 [.ref (sgA P 0)] σ q := by
  refine sg_mkv (plainFor_of_name (by decide +kernel)) (Nat.le_of_ble_eq_true rfl) ?_
  intro p e R s m args below meth c Q A ls H locs X I hl hk
  exact b_X12_live X I hl h hk
def f_X12_onWay_L4 (N : Nat) (x1 : Int32) (x2 : Int32) (σ : sgS) : Option ((Int32) ⊕ ((Int32 × Int32) ⊕ (Int32))) :=
  if (σ.1 0 30) ≤ x2 then
  (some (.inr (.inr x1)))
else
  (sg_ld σ 21 215 (4 + x2) fun v1 =>
  if v1 = ((-1)) then
    (some (.inr (.inl (x1 ||| 0, x2 + 1))))
  else
    (some (.inr (.inl (x1 ||| (1 <<< (x2 &&& 31)), x2 + 1)))))
set_option maxHeartbeats 4000000 in
set_option maxRecDepth 100000 in
theorem b_X12_onWay_L4 {p : Program} {l : Launch} {e : Env} {R : Room} {s : State} {m : MethodId} {args : Array Value} {below : List Frame} {meth : Method} {c : Code} {Q : State → Prop} {P : sgP} {A : Nat → Prop} {N : Nat} {x1 : Int32} {x2 : Int32} {σ : sgS} (X : sg_C P A 1 p R s m args c cX12_onWay 3 RX12) {H : Heap} {locs : List Loc} (I : sg_I P shM 35 A s.heap σ H locs) {ls : Array Slot} (hl : lv_has ls 3 [(0, .ref (sgA P 0)), (1, .int x1), (2, .int x2)]) {st : (Int32) ⊕ ((Int32 × Int32) ⊕ (Int32))} (h : f_X12_onWay_L4 N x1 x2 σ = some st) (hk : sg_k3 (fun r => sg_Ri p l e R s m args below meth c Q P shM 35 A cX12_onWay (some .int) (r, σ)) (fun x => sg_Wt p l e R s m args below meth c Q P shM 35 A 3 4 σ [(0, .ref (sgA P 0)), (1, .int x.1), (2, .int x.2)]) (fun y => sg_Wt p l e R s m args below meth c Q P shM 35 A 3 40 σ [(1, .int y)]) st) : W p l e R s m args below meth c H locs 0 0 Q (F0 m 4 ls []) := by
  unfold f_X12_onWay_L4 at h
  have hx := X.1.1
  have hb := X.1.2.1
  have hown := X.1.2.2.2.1
  have hts := X.1.2.2.2.2
  refine lv_iload_n hx hb dX12_onWay_4 rfl (lv_at hl 2 rfl) ?_
  refine lv_aload_n hx hb dX12_onWay_5 rfl (lv_at hl 0 rfl) ?_
  refine sg_geti X I fk_X12_285 (by decide) shM_0 rfl dX12_onWay_6 ?_
  refine lv_icmp_ge (tgt := 40) hx hb dX12_onWay_9 (by decide) (fun z => ?_) (fun z => ?_)
  · have h := sg_ift h z
    obtain rfl := Option.some.inj h
    exact sg_go hk I (lv_sub hl [1] rfl)
  · have h := sg_iff h z
    refine lv_iload_n hx hb dX12_onWay_12 rfl (lv_at hl 1 rfl) ?_
    refine lv_aload_n hx hb dX12_onWay_13 rfl (lv_at hl 0 rfl) ?_
    refine sg_getr X I fk_X12_70 (j := 21) (by decide) shM_0 rfl dX12_onWay_14 ?_
    refine lv_iconst (v := 4) hx hb dX12_onWay_17 (by decide) ?_
    refine lv_iload_n hx hb dX12_onWay_18 rfl (lv_at hl 2 rfl) ?_
    refine lv_iadd hx hb dX12_onWay_19 ?_
    refine sg_iald X I (by decide) shM_21 h dX12_onWay_20 (fun v1 h => ?_)
    refine lv_iconst (v := -1) hx hb dX12_onWay_21 (by decide) ?_
    refine lv_icmp_eq (tgt := 31) hx hb dX12_onWay_22 (by decide) (fun z => ?_) (fun z => ?_)
    · have h := sg_ift h z
      refine lv_iconst (v := 0) hx hb dX12_onWay_31 (by decide) ?_
      refine lv_ior hx hb dX12_onWay_32 ?_
      refine lv_istore_n (lv' := [(1, .int (x1 ||| 0)), (0, .ref (sgA P 0)), (2, .int x2)]) hx hb dX12_onWay_33 rfl hl (by decide) rfl (fun ls hl => ?_)
      refine lv_iinc (v := x2 + 1) (lv' := [(2, .int (x2 + 1)), (1, .int (x1 ||| 0)), (0, .ref (sgA P 0))]) hx hb dX12_onWay_34 hl (k := 2) rfl rfl (by decide) rfl (fun ls hl => ?_)
      refine lv_goto (tgt := 4) hx hb dX12_onWay_37 (by decide) ?_
      obtain rfl := Option.some.inj h
      exact sg_go hk I (lv_sub hl [2, 1, 0] rfl)
    · have h := sg_iff h z
      refine lv_iconst (v := 1) hx hb dX12_onWay_25 (by decide) ?_
      refine lv_iload_n hx hb dX12_onWay_26 rfl (lv_at hl 2 rfl) ?_
      refine lv_ishl hx hb dX12_onWay_27 ?_
      refine lv_goto (tgt := 32) hx hb dX12_onWay_28 (by decide) ?_
      refine lv_ior hx hb dX12_onWay_32 ?_
      refine lv_istore_n (lv' := [(1, .int (x1 ||| (1 <<< (x2 &&& 31)))), (0, .ref (sgA P 0)), (2, .int x2)]) hx hb dX12_onWay_33 rfl hl (by decide) rfl (fun ls hl => ?_)
      refine lv_iinc (v := x2 + 1) (lv' := [(2, .int (x2 + 1)), (1, .int (x1 ||| (1 <<< (x2 &&& 31)))), (0, .ref (sgA P 0))]) hx hb dX12_onWay_34 hl (k := 2) rfl rfl (by decide) rfl (fun ls hl => ?_)
      refine lv_goto (tgt := 4) hx hb dX12_onWay_37 (by decide) ?_
      obtain rfl := Option.some.inj h
      exact sg_go hk I (lv_sub hl [2, 1, 0] rfl)
def f_X12_onWay (N : Nat) (σ : sgS) : Option (Int32) :=
  sg_lb (sg_lp (fun x => f_X12_onWay_L4 N x.1 x.2 σ) N ((0, 0))) (fun r => some r) fun y2 =>
some y2
set_option maxHeartbeats 4000000 in
set_option maxRecDepth 100000 in
theorem b_X12_onWay {p : Program} {l : Launch} {e : Env} {R : Room} {s : State} {m : MethodId} {args : Array Value} {below : List Frame} {meth : Method} {c : Code} {Q : State → Prop} {P : sgP} {A : Nat → Prop} {N : Nat} {σ : sgS} (X : sg_C P A 1 p R s m args c cX12_onWay 3 RX12) {H : Heap} {locs : List Loc} (I : sg_I P shM 35 A s.heap σ H locs) {ls : Array Slot} (hl : lv_has ls 3 [(0, .ref (sgA P 0))]) {st : Int32} (h : f_X12_onWay N σ = some st) (hk : sg_Ri p l e R s m args below meth c Q P shM 35 A cX12_onWay (some .int) (st, σ)) : W p l e R s m args below meth c H locs 0 0 Q (F0 m 0 ls []) := by
  unfold f_X12_onWay at h
  have hx := X.1.1
  have hb := X.1.2.1
  have hown := X.1.2.2.2.1
  have hts := X.1.2.2.2.2
  refine lv_iconst (v := 0) hx hb dX12_onWay_0 (by decide) ?_
  refine lv_istore_n (lv' := [(1, .int 0), (0, .ref (sgA P 0))]) hx hb dX12_onWay_1 rfl hl (by decide) rfl (fun ls hl => ?_)
  refine lv_iconst (v := 0) hx hb dX12_onWay_2 (by decide) ?_
  refine lv_istore_n (lv' := [(2, .int 0), (1, .int 0), (0, .ref (sgA P 0))]) hx hb dX12_onWay_3 rfl hl (by decide) rfl (fun ls hl => ?_)
  obtain ⟨res, e9, k9⟩ := sg_lb_some h
  refine sg_go (sg_lp_W (a := (fun r => sg_Ri p l e R s m args below meth c Q P shM 35 A cX12_onWay (some .int) (r, σ))) (w := (fun x => sg_Wt p l e R s m args below meth c Q P shM 35 A 3 4 σ [(0, .ref (sgA P 0)), (1, .int x.1), (2, .int x.2)])) (c := (fun y => sg_Wt p l e R s m args below meth c Q P shM 35 A 3 40 σ [(1, .int y)])) (fun x st hb9 hk9 => ?_) N ((0, 0)) res e9 (sg_k2_mono k9 (fun r h => ?_) (fun y2 h => ?_))) I (lv_sub hl [2, 1, 0] rfl)
  · intro H locs ls I hl
    exact b_X12_onWay_L4 X I hl hb9 hk9
  · obtain rfl := Option.some.inj h
    exact hk
  · intro H locs ls I hl
    refine lv_iload_n hx hb dX12_onWay_40 rfl (lv_at hl 0 rfl) ?_
    obtain rfl := Option.some.inj h
    exact hk _ _ _ _ _ I ⟨_, rfl, rfl⟩ dX12_onWay_41
set_option maxHeartbeats 4000000 in
set_option maxRecDepth 100000 in
theorem c_X12_onWay {l : Launch} {P : sgP} {N : Nat} {σ : sgS} {q : Int32} (h : f_X12_onWay N σ = some q) : sg_Mi P shM 35 l yX12_onWay cX12_onWay 3 (some .int) 1 [.ref (sgA P 0)] σ (q, σ) := by
  refine sg_mki (plainFor_of_name (by decide +kernel)) (Nat.le_of_ble_eq_true rfl) ?_
  intro p e R s m args below meth c Q A ls H locs X I hl hk
  exact b_X12_onWay X I hl h hk
def f_X12_passDay_B62 (N : Nat) (σ : sgS) : Option (Int32 × sgS) :=
  sg_ld σ 21 215 34 fun v4 =>
sg_st σ 21 215 (35 + (3 * v4)) (σ.1 0 40) fun s5 =>
sg_cr (f_X12_onWay N s5) fun v6 =>
sg_st s5 21 215 ((35 + (3 * v4)) + 1) v6 fun s7 =>
sg_ld s7 21 215 31 fun v8 =>
sg_st s7 21 215 ((35 + (3 * v4)) + 2) v8 fun s9 =>
sg_ld s9 21 215 34 fun v10 =>
sg_st s9 21 215 34 (v10 + 1) fun s11 =>
some (0, s11)
set_option maxHeartbeats 4000000 in
set_option maxRecDepth 100000 in
theorem b_X12_passDay_B62 {p : Program} {l : Launch} {e : Env} {R : Room} {s : State} {m : MethodId} {args : Array Value} {below : List Frame} {meth : Method} {c : Code} {Q : State → Prop} {P : sgP} {A : Nat → Prop} {N : Nat} {σ : sgS} (X : sg_C P A 9 p R s m args c cX12_passDay 2 RX12) {H : Heap} {locs : List Loc} (I : sg_I P shM 35 A s.heap σ H locs) {ls : Array Slot} (hl : lv_has ls 2 [(0, .ref (sgA P 0))]) {st : Int32 × sgS} (h : f_X12_passDay_B62 N σ = some st) (hk : sg_Rv p l e R s m args below meth c Q P shM 35 A cX12_passDay st) : W p l e R s m args below meth c H locs 0 0 Q (F0 m 62 ls []) := by
  unfold f_X12_passDay_B62 at h
  have hx := X.1.1
  have hb := X.1.2.1
  have hown := X.1.2.2.2.1
  have hts := X.1.2.2.2.2
  refine lv_bipush (v := 35) hx hb dX12_passDay_62 (by decide) ?_
  refine lv_iconst (v := 3) hx hb dX12_passDay_64 (by decide) ?_
  refine lv_aload_n hx hb dX12_passDay_65 rfl (lv_at hl 0 rfl) ?_
  refine sg_getr X I fk_X12_70 (j := 21) (by decide) shM_0 rfl dX12_passDay_66 ?_
  refine lv_bipush (v := 34) hx hb dX12_passDay_69 (by decide) ?_
  refine sg_iald X I (by decide) shM_21 h dX12_passDay_71 (fun v4 h => ?_)
  refine lv_imul hx hb dX12_passDay_72 ?_
  refine lv_iadd hx hb dX12_passDay_73 ?_
  refine lv_istore_n (lv' := [(1, .int (35 + (3 * v4))), (0, .ref (sgA P 0))]) hx hb dX12_passDay_74 rfl hl (by decide) rfl (fun ls hl => ?_)
  refine lv_aload_n hx hb dX12_passDay_75 rfl (lv_at hl 1 rfl) ?_
  refine sg_getr X I fk_X12_70 (j := 21) (by decide) shM_0 rfl dX12_passDay_76 ?_
  refine lv_iload_n hx hb dX12_passDay_79 rfl (lv_at hl 0 rfl) ?_
  refine lv_aload_n hx hb dX12_passDay_80 rfl (lv_at hl 1 rfl) ?_
  refine sg_geti X I fk_X12_340 (by decide) shM_0 rfl dX12_passDay_81 ?_
  refine sg_iast X I (by decide) shM_21 h dX12_passDay_84 (fun s5 H locs h I => ?_)
  refine lv_aload_n hx hb dX12_passDay_85 rfl (lv_at hl 1 rfl) ?_
  refine sg_getr X I fk_X12_70 (j := 21) (by decide) shM_0 rfl dX12_passDay_86 ?_
  refine lv_iload_n hx hb dX12_passDay_89 rfl (lv_at hl 0 rfl) ?_
  refine lv_iconst (v := 1) hx hb dX12_passDay_90 (by decide) ?_
  refine lv_iadd hx hb dX12_passDay_91 ?_
  refine lv_aload_n hx hb dX12_passDay_92 rfl (lv_at hl 1 rfl) ?_
  refine sg_callVr (As := []) X I mk_X12_364 (by decide) (by decide) shM_0 rfl (fun q9 e9 => c_X12_onWay e9) h hl.1 rfl rfl (Nat.le_of_ble_eq_true rfl) dX12_passDay_93 (fun v6 H locs h I => ?_)
  refine sg_iast X I (by decide) shM_21 h dX12_passDay_96 (fun s7 H locs h I => ?_)
  refine lv_aload_n hx hb dX12_passDay_97 rfl (lv_at hl 1 rfl) ?_
  refine sg_getr X I fk_X12_70 (j := 21) (by decide) shM_0 rfl dX12_passDay_98 ?_
  refine lv_iload_n hx hb dX12_passDay_101 rfl (lv_at hl 0 rfl) ?_
  refine lv_iconst (v := 2) hx hb dX12_passDay_102 (by decide) ?_
  refine lv_iadd hx hb dX12_passDay_103 ?_
  refine lv_aload_n hx hb dX12_passDay_104 rfl (lv_at hl 1 rfl) ?_
  refine sg_getr X I fk_X12_70 (j := 21) (by decide) shM_0 rfl dX12_passDay_105 ?_
  refine lv_bipush (v := 31) hx hb dX12_passDay_108 (by decide) ?_
  refine sg_iald X I (by decide) shM_21 h dX12_passDay_110 (fun v8 h => ?_)
  refine sg_iast X I (by decide) shM_21 h dX12_passDay_111 (fun s9 H locs h I => ?_)
  refine lv_aload_n hx hb dX12_passDay_112 rfl (lv_at hl 1 rfl) ?_
  refine sg_getr X I fk_X12_70 (j := 21) (by decide) shM_0 rfl dX12_passDay_113 ?_
  refine lv_bipush (v := 34) hx hb dX12_passDay_116 (by decide) ?_
  refine lv_dup2_11 hx hb dX12_passDay_118 rfl rfl ?_
  refine sg_iald X I (by decide) shM_21 h dX12_passDay_119 (fun v10 h => ?_)
  refine lv_iconst (v := 1) hx hb dX12_passDay_120 (by decide) ?_
  refine lv_iadd hx hb dX12_passDay_121 ?_
  refine sg_iast X I (by decide) shM_21 h dX12_passDay_122 (fun s11 H locs h I => ?_)
  obtain rfl := Option.some.inj h
  exact hk _ _ _ _ I dX12_passDay_123
def f_X12_passDay_L18 (N : Nat) (x1 : Int32) (σ : sgS) : Option ((Int32 × sgS) ⊕ ((sgS × Int32) ⊕ (sgS))) :=
  if 180 ≤ x1 then
  (some (.inr (.inr σ)))
else
  (sg_ld σ 21 215 (35 + x1) fun v12 =>
  sg_st σ 21 215 ((35 + x1) - 3) v12 fun s13 =>
  some (.inr (.inl (s13, x1 + 1))))
set_option maxHeartbeats 4000000 in
set_option maxRecDepth 100000 in
theorem b_X12_passDay_L18 {p : Program} {l : Launch} {e : Env} {R : Room} {s : State} {m : MethodId} {args : Array Value} {below : List Frame} {meth : Method} {c : Code} {Q : State → Prop} {P : sgP} {A : Nat → Prop} {N : Nat} {x1 : Int32} {σ : sgS} (X : sg_C P A 9 p R s m args c cX12_passDay 2 RX12) {H : Heap} {locs : List Loc} (I : sg_I P shM 35 A s.heap σ H locs) {ls : Array Slot} (hl : lv_has ls 2 [(0, .ref (sgA P 0)), (1, .int x1)]) {st : (Int32 × sgS) ⊕ ((sgS × Int32) ⊕ (sgS))} (h : f_X12_passDay_L18 N x1 σ = some st) (hk : sg_k3 (sg_Rv p l e R s m args below meth c Q P shM 35 A cX12_passDay) (fun x => sg_Wt p l e R s m args below meth c Q P shM 35 A 2 18 x.1 [(0, .ref (sgA P 0)), (1, .int x.2)]) (fun y => sg_Wt p l e R s m args below meth c Q P shM 35 A 2 51 y [(0, .ref (sgA P 0))]) st) : W p l e R s m args below meth c H locs 0 0 Q (F0 m 18 ls []) := by
  unfold f_X12_passDay_L18 at h
  have hx := X.1.1
  have hb := X.1.2.1
  have hown := X.1.2.2.2.1
  have hts := X.1.2.2.2.2
  refine lv_iload_n hx hb dX12_passDay_18 rfl (lv_at hl 1 rfl) ?_
  refine lv_sipush (v := 180) hx hb dX12_passDay_19 (by decide) ?_
  refine lv_icmp_ge (tgt := 51) hx hb dX12_passDay_22 (by decide) (fun z => ?_) (fun z => ?_)
  · have h := sg_ift h z
    obtain rfl := Option.some.inj h
    exact sg_go hk I (lv_sub hl [0] rfl)
  · have h := sg_iff h z
    refine lv_aload_n hx hb dX12_passDay_25 rfl (lv_at hl 0 rfl) ?_
    refine sg_getr X I fk_X12_70 (j := 21) (by decide) shM_0 rfl dX12_passDay_26 ?_
    refine lv_bipush (v := 35) hx hb dX12_passDay_29 (by decide) ?_
    refine lv_iload_n hx hb dX12_passDay_31 rfl (lv_at hl 1 rfl) ?_
    refine lv_iadd hx hb dX12_passDay_32 ?_
    refine lv_iconst (v := 3) hx hb dX12_passDay_33 (by decide) ?_
    refine lv_isub hx hb dX12_passDay_34 ?_
    refine lv_aload_n hx hb dX12_passDay_35 rfl (lv_at hl 0 rfl) ?_
    refine sg_getr X I fk_X12_70 (j := 21) (by decide) shM_0 rfl dX12_passDay_36 ?_
    refine lv_bipush (v := 35) hx hb dX12_passDay_39 (by decide) ?_
    refine lv_iload_n hx hb dX12_passDay_41 rfl (lv_at hl 1 rfl) ?_
    refine lv_iadd hx hb dX12_passDay_42 ?_
    refine sg_iald X I (by decide) shM_21 h dX12_passDay_43 (fun v12 h => ?_)
    refine sg_iast X I (by decide) shM_21 h dX12_passDay_44 (fun s13 H locs h I => ?_)
    refine lv_iinc (v := x1 + 1) (lv' := [(1, .int (x1 + 1)), (0, .ref (sgA P 0))]) hx hb dX12_passDay_45 hl (k := 1) rfl rfl (by decide) rfl (fun ls hl => ?_)
    refine lv_goto (tgt := 18) hx hb dX12_passDay_48 (by decide) ?_
    obtain rfl := Option.some.inj h
    exact sg_go hk I (lv_sub hl [1, 0] rfl)
def f_X12_passDay (N : Nat) (σ : sgS) : Option (Int32 × sgS) :=
  sg_cl (f_X12_live N σ) fun v1 s2 =>
sg_ld s2 21 215 34 fun v3 =>
if v3 = 60 then
  (sg_lb (sg_lp (fun x => f_X12_passDay_L18 N x.2 x.1) N ((s2, 3))) (fun r => some r) fun y14 =>
  sg_ld y14 21 215 34 fun v15 =>
  sg_st y14 21 215 34 (v15 - 1) fun s16 =>
  f_X12_passDay_B62 N s16)
else
  (f_X12_passDay_B62 N s2)
set_option maxHeartbeats 4000000 in
set_option maxRecDepth 100000 in
theorem b_X12_passDay {p : Program} {l : Launch} {e : Env} {R : Room} {s : State} {m : MethodId} {args : Array Value} {below : List Frame} {meth : Method} {c : Code} {Q : State → Prop} {P : sgP} {A : Nat → Prop} {N : Nat} {σ : sgS} (X : sg_C P A 9 p R s m args c cX12_passDay 2 RX12) {H : Heap} {locs : List Loc} (I : sg_I P shM 35 A s.heap σ H locs) {ls : Array Slot} (hl : lv_has ls 2 [(0, .ref (sgA P 0))]) {st : Int32 × sgS} (h : f_X12_passDay N σ = some st) (hk : sg_Rv p l e R s m args below meth c Q P shM 35 A cX12_passDay st) : W p l e R s m args below meth c H locs 0 0 Q (F0 m 0 ls []) := by
  unfold f_X12_passDay at h
  have hx := X.1.1
  have hb := X.1.2.1
  have hown := X.1.2.2.2.1
  have hts := X.1.2.2.2.2
  refine lv_aload_n hx hb dX12_passDay_0 rfl (lv_at hl 0 rfl) ?_
  refine sg_callVv (As := []) X I mk_X12_361 (by decide) (by decide) shM_0 rfl (fun q9 e9 => c_X12_live e9) h hl.1 rfl rfl (Nat.le_of_ble_eq_true rfl) dX12_passDay_1 (fun v1 s2 H locs h I => ?_)
  refine lv_aload_n hx hb dX12_passDay_4 rfl (lv_at hl 0 rfl) ?_
  refine sg_getr X I fk_X12_70 (j := 21) (by decide) shM_0 rfl dX12_passDay_5 ?_
  refine lv_bipush (v := 34) hx hb dX12_passDay_8 (by decide) ?_
  refine sg_iald X I (by decide) shM_21 h dX12_passDay_10 (fun v3 h => ?_)
  refine lv_bipush (v := 60) hx hb dX12_passDay_11 (by decide) ?_
  refine lv_icmp_ne (tgt := 62) hx hb dX12_passDay_13 (by decide) (fun z => ?_) (fun z => ?_)
  · have h := sg_iff h z
    exact b_X12_passDay_B62 X I (lv_sub hl [0] rfl) h hk
  · have h := sg_ift h z
    refine lv_iconst (v := 3) hx hb dX12_passDay_16 (by decide) ?_
    refine lv_istore_n (lv' := [(1, .int 3), (0, .ref (sgA P 0))]) hx hb dX12_passDay_17 rfl hl (by decide) rfl (fun ls hl => ?_)
    obtain ⟨res, e9, k9⟩ := sg_lb_some h
    refine sg_go (sg_lp_W (a := (sg_Rv p l e R s m args below meth c Q P shM 35 A cX12_passDay)) (w := (fun x => sg_Wt p l e R s m args below meth c Q P shM 35 A 2 18 x.1 [(0, .ref (sgA P 0)), (1, .int x.2)])) (c := (fun y => sg_Wt p l e R s m args below meth c Q P shM 35 A 2 51 y [(0, .ref (sgA P 0))])) (fun x st hb9 hk9 => ?_) N ((s2, 3)) res e9 (sg_k2_mono k9 (fun r h => ?_) (fun y14 h => ?_))) I (lv_sub hl [1, 0] rfl)
    · intro H locs ls I hl
      exact b_X12_passDay_L18 X I hl hb9 hk9
    · obtain rfl := Option.some.inj h
      exact hk
    · intro H locs ls I hl
      refine lv_aload_n hx hb dX12_passDay_51 rfl (lv_at hl 0 rfl) ?_
      refine sg_getr X I fk_X12_70 (j := 21) (by decide) shM_0 rfl dX12_passDay_52 ?_
      refine lv_bipush (v := 34) hx hb dX12_passDay_55 (by decide) ?_
      refine lv_dup2_11 hx hb dX12_passDay_57 rfl rfl ?_
      refine sg_iald X I (by decide) shM_21 h dX12_passDay_58 (fun v15 h => ?_)
      refine lv_iconst (v := 1) hx hb dX12_passDay_59 (by decide) ?_
      refine lv_isub hx hb dX12_passDay_60 ?_
      refine sg_iast X I (by decide) shM_21 h dX12_passDay_61 (fun s16 H locs h I => ?_)
      exact b_X12_passDay_B62 X I (lv_sub hl [0] rfl) h hk
set_option maxHeartbeats 4000000 in
set_option maxRecDepth 100000 in
theorem c_X12_passDay {l : Launch} {P : sgP} {N : Nat} {σ : sgS} {q : Int32 × sgS} (h : f_X12_passDay N σ = some q) : sg_Mv P shM 35 l yX12_passDay cX12_passDay 2 none 9 [.ref (sgA P 0)] σ q := by
  refine sg_mkv (plainFor_of_name (by decide +kernel)) (Nat.le_of_ble_eq_true rfl) ?_
  intro p e R s m args below meth c Q A ls H locs X I hl hk
  exact b_X12_passDay X I hl h hk
def f_X12_rule (N : Nat) (p1 : Int32) (σ : sgS) : Option (Int32) :=
  if (σ.1 0 28) = 0 then
  (some ((-1)))
else
  (sg_cr (f_X12_in N p1 0 1 σ) fun v1 =>
  if v1 = 0 then
    (some ((-1)))
  else
    (if p1 = 0 then
      (sg_ld σ 15 2 0 fun v3 =>
      some v3)
    else
      (sg_ld σ 21 215 32 fun v2 =>
      some v2)))
set_option maxHeartbeats 4000000 in
set_option maxRecDepth 100000 in
theorem b_X12_rule {p : Program} {l : Launch} {e : Env} {R : Room} {s : State} {m : MethodId} {args : Array Value} {below : List Frame} {meth : Method} {c : Code} {Q : State → Prop} {P : sgP} {A : Nat → Prop} {N : Nat} {p1 : Int32} {σ : sgS} (X : sg_C P A 2 p R s m args c cX12_rule 2 RX12) {H : Heap} {locs : List Loc} (I : sg_I P shM 35 A s.heap σ H locs) {ls : Array Slot} (hl : lv_has ls 2 [(0, .ref (sgA P 0)), (1, .int p1)]) {st : Int32} (h : f_X12_rule N p1 σ = some st) (hk : sg_Ri p l e R s m args below meth c Q P shM 35 A cX12_rule (some .int) (st, σ)) : W p l e R s m args below meth c H locs 0 0 Q (F0 m 0 ls []) := by
  unfold f_X12_rule at h
  have hx := X.1.1
  have hb := X.1.2.1
  have hown := X.1.2.2.2.1
  have hts := X.1.2.2.2.2
  refine lv_aload_n hx hb dX12_rule_0 rfl (lv_at hl 0 rfl) ?_
  refine sg_geti X I fk_X12_288 (by decide) shM_0 rfl dX12_rule_1 ?_
  refine lv_if_eq (tgt := 16) hx hb dX12_rule_4 (by decide) (fun z => ?_) (fun z => ?_)
  · have h := sg_ift h z
    refine lv_iconst (v := -1) hx hb dX12_rule_16 (by decide) ?_
    refine lv_goto (tgt := 40) hx hb dX12_rule_17 (by decide) ?_
    obtain rfl := Option.some.inj h
    exact hk _ _ _ _ _ I ⟨_, rfl, rfl⟩ dX12_rule_40
  · have h := sg_iff h z
    refine lv_iload_n hx hb dX12_rule_7 rfl (lv_at hl 1 rfl) ?_
    refine lv_iconst (v := 0) hx hb dX12_rule_8 (by decide) ?_
    refine lv_iconst (v := 1) hx hb dX12_rule_9 (by decide) ?_
    refine sg_callSr (As := [.int p1, .int 0, .int 1]) X I mk_X12_235 (by decide) (fun q9 e9 => c_X12_in e9) h hl.1 rfl rfl (Nat.le_of_ble_eq_true rfl) dX12_rule_10 (fun v1 H locs h I => ?_)
    refine lv_if_ne (tgt := 20) hx hb dX12_rule_13 (by decide) (fun z => ?_) (fun z => ?_)
    · have h := sg_iff h z
      refine lv_iload_n hx hb dX12_rule_20 rfl (lv_at hl 1 rfl) ?_
      refine lv_if_ne (tgt := 33) hx hb dX12_rule_21 (by decide) (fun z => ?_) (fun z => ?_)
      · have h := sg_iff h z
        refine lv_aload_n hx hb dX12_rule_33 rfl (lv_at hl 0 rfl) ?_
        refine sg_getr X I fk_X12_70 (j := 21) (by decide) shM_0 rfl dX12_rule_34 ?_
        refine lv_bipush (v := 32) hx hb dX12_rule_37 (by decide) ?_
        refine sg_iald X I (by decide) shM_21 h dX12_rule_39 (fun v2 h => ?_)
        obtain rfl := Option.some.inj h
        exact hk _ _ _ _ _ I ⟨_, rfl, rfl⟩ dX12_rule_40
      · have h := sg_ift h z
        refine lv_aload_n hx hb dX12_rule_24 rfl (lv_at hl 0 rfl) ?_
        refine sg_getr X I fk_X12_52 (j := 15) (by decide) shM_0 rfl dX12_rule_25 ?_
        refine lv_iconst (v := 0) hx hb dX12_rule_28 (by decide) ?_
        refine sg_iald X I (by decide) shM_15 h dX12_rule_29 (fun v3 h => ?_)
        refine lv_goto (tgt := 40) hx hb dX12_rule_30 (by decide) ?_
        obtain rfl := Option.some.inj h
        exact hk _ _ _ _ _ I ⟨_, rfl, rfl⟩ dX12_rule_40
    · have h := sg_ift h z
      refine lv_iconst (v := -1) hx hb dX12_rule_16 (by decide) ?_
      refine lv_goto (tgt := 40) hx hb dX12_rule_17 (by decide) ?_
      obtain rfl := Option.some.inj h
      exact hk _ _ _ _ _ I ⟨_, rfl, rfl⟩ dX12_rule_40
set_option maxHeartbeats 4000000 in
set_option maxRecDepth 100000 in
theorem c_X12_rule {l : Launch} {P : sgP} {N : Nat} {p1 : Int32} {σ : sgS} {q : Int32} (h : f_X12_rule N p1 σ = some q) : sg_Mi P shM 35 l yX12_rule cX12_rule 2 (some .int) 2 [.ref (sgA P 0), .int p1] σ (q, σ) := by
  refine sg_mki (plainFor_of_name (by decide +kernel)) (Nat.le_of_ble_eq_true rfl) ?_
  intro p e R s m args below meth c Q A ls H locs X I hl hk
  exact b_X12_rule X I hl h hk
def f_X12_road (N : Nat) (p1 : Int32) (p2 : Int32) (σ : sgS) : Option (Int32 × sgS) :=
  sg_cr (f_X12_isRoad N p1 σ) fun v1 =>
if v1 = 0 then
  (some ((-1), σ))
else
  (sg_cr (f_X12_in N p2 0 6 σ) fun v2 =>
  if v2 = 0 then
    (some ((-1), σ))
  else
    (if p2 = 4 then
      (sg_cl (f_X12_longBy N p1 σ) fun v3 s4 =>
      some (v3, s4))
    else
      (if p2 = 5 then
        (sg_ld σ 21 215 (12 + p1) fun v5 =>
        some (v5, σ))
      else
        (if p2 = 6 then
          (sg_cr (f_X12_isClosed N p1 σ) fun v6 =>
          if v6 = 0 then
            (some (0, σ))
          else
            (some (1, σ)))
        else
          (sg_cr (f_X12_of N p1 p2 σ) fun v7 =>
          some (v7, σ))))))
set_option maxHeartbeats 4000000 in
set_option maxRecDepth 100000 in
theorem b_X12_road {p : Program} {l : Launch} {e : Env} {R : Room} {s : State} {m : MethodId} {args : Array Value} {below : List Frame} {meth : Method} {c : Code} {Q : State → Prop} {P : sgP} {A : Nat → Prop} {N : Nat} {p1 : Int32} {p2 : Int32} {σ : sgS} (X : sg_C P A 7 p R s m args c cX12_road 3 RX12) {H : Heap} {locs : List Loc} (I : sg_I P shM 35 A s.heap σ H locs) {ls : Array Slot} (hl : lv_has ls 3 [(0, .ref (sgA P 0)), (1, .int p1), (2, .int p2)]) {st : Int32 × sgS} (h : f_X12_road N p1 p2 σ = some st) (hk : sg_Ri p l e R s m args below meth c Q P shM 35 A cX12_road (some .int) st) : W p l e R s m args below meth c H locs 0 0 Q (F0 m 0 ls []) := by
  unfold f_X12_road at h
  have hx := X.1.1
  have hb := X.1.2.1
  have hown := X.1.2.2.2.1
  have hts := X.1.2.2.2.2
  refine lv_aload_n hx hb dX12_road_0 rfl (lv_at hl 0 rfl) ?_
  refine lv_iload_n hx hb dX12_road_1 rfl (lv_at hl 1 rfl) ?_
  refine sg_callVr (As := [.int p1]) X I mk_X12_367 (by decide) (by decide) shM_0 rfl (fun q9 e9 => c_X12_isRoad e9) h hl.1 rfl rfl (Nat.le_of_ble_eq_true rfl) dX12_road_2 (fun v1 H locs h I => ?_)
  refine lv_if_eq (tgt := 18) hx hb dX12_road_5 (by decide) (fun z => ?_) (fun z => ?_)
  · have h := sg_ift h z
    refine lv_iconst (v := -1) hx hb dX12_road_18 (by decide) ?_
    obtain rfl := Option.some.inj h
    exact hk _ _ _ _ _ I ⟨_, rfl, rfl⟩ dX12_road_19
  · have h := sg_iff h z
    refine lv_iload_n hx hb dX12_road_8 rfl (lv_at hl 2 rfl) ?_
    refine lv_iconst (v := 0) hx hb dX12_road_9 (by decide) ?_
    refine lv_bipush (v := 6) hx hb dX12_road_10 (by decide) ?_
    refine sg_callSr (As := [.int p2, .int 0, .int 6]) X I mk_X12_235 (by decide) (fun q9 e9 => c_X12_in e9) h hl.1 rfl rfl (Nat.le_of_ble_eq_true rfl) dX12_road_12 (fun v2 H locs h I => ?_)
    refine lv_if_ne (tgt := 20) hx hb dX12_road_15 (by decide) (fun z => ?_) (fun z => ?_)
    · have h := sg_iff h z
      refine lv_iload_n hx hb dX12_road_20 rfl (lv_at hl 2 rfl) ?_
      by_cases c0 : p2 = 4
      · have h := sg_ift h c0
        refine sg_swIn (k := 4) (off := 27) (tgt := 48) hx hb dX12_road_21 c0 (by decide) (by decide) (by decide +kernel) (by decide) ?_
        refine lv_aload_n hx hb dX12_road_48 rfl (lv_at hl 0 rfl) ?_
        refine lv_iload_n hx hb dX12_road_49 rfl (lv_at hl 1 rfl) ?_
        refine sg_callV (As := [.int p1]) X I mk_X12_331 (by decide) (by decide) shM_0 rfl (fun q9 e9 => c_X12_longBy e9) h hl.1 rfl rfl (Nat.le_of_ble_eq_true rfl) dX12_road_50 (fun v3 s4 H locs h I => ?_)
        obtain rfl := Option.some.inj h
        exact hk _ _ _ _ _ I ⟨_, rfl, rfl⟩ dX12_road_53
      have h := sg_iff h c0
      have i0 := sg_ine (z := 4) (by decide) c0
      by_cases c1 : p2 = 5
      · have h := sg_ift h c1
        refine sg_swIn (k := 5) (off := 33) (tgt := 54) hx hb dX12_road_21 c1 (by decide) (by decide) (by decide +kernel) (by decide) ?_
        refine lv_aload_n hx hb dX12_road_54 rfl (lv_at hl 0 rfl) ?_
        refine sg_getr X I fk_X12_70 (j := 21) (by decide) shM_0 rfl dX12_road_55 ?_
        refine lv_bipush (v := 12) hx hb dX12_road_58 (by decide) ?_
        refine lv_iload_n hx hb dX12_road_60 rfl (lv_at hl 1 rfl) ?_
        refine lv_iadd hx hb dX12_road_61 ?_
        refine sg_iald X I (by decide) shM_21 h dX12_road_62 (fun v5 h => ?_)
        obtain rfl := Option.some.inj h
        exact hk _ _ _ _ _ I ⟨_, rfl, rfl⟩ dX12_road_63
      have h := sg_iff h c1
      have i1 := sg_ine (z := 5) (by decide) c1
      by_cases c2 : p2 = 6
      · have h := sg_ift h c2
        refine sg_swIn (k := 6) (off := 43) (tgt := 64) hx hb dX12_road_21 c2 (by decide) (by decide) (by decide +kernel) (by decide) ?_
        refine lv_aload_n hx hb dX12_road_64 rfl (lv_at hl 0 rfl) ?_
        refine lv_iload_n hx hb dX12_road_65 rfl (lv_at hl 1 rfl) ?_
        refine sg_callVr (As := [.int p1]) X I mk_X12_334 (by decide) (by decide) shM_0 rfl (fun q9 e9 => c_X12_isClosed e9) h hl.1 rfl rfl (Nat.le_of_ble_eq_true rfl) dX12_road_66 (fun v6 H locs h I => ?_)
        refine lv_if_eq (tgt := 76) hx hb dX12_road_69 (by decide) (fun z => ?_) (fun z => ?_)
        · have h := sg_ift h z
          refine lv_iconst (v := 0) hx hb dX12_road_76 (by decide) ?_
          obtain rfl := Option.some.inj h
          exact hk _ _ _ _ _ I ⟨_, rfl, rfl⟩ dX12_road_77
        · have h := sg_iff h z
          refine lv_iconst (v := 1) hx hb dX12_road_72 (by decide) ?_
          refine lv_goto (tgt := 77) hx hb dX12_road_73 (by decide) ?_
          obtain rfl := Option.some.inj h
          exact hk _ _ _ _ _ I ⟨_, rfl, rfl⟩ dX12_road_77
      have h := sg_iff h c2
      have i2 := sg_ine (z := 6) (by decide) c2
      refine lv_tableOut (tgt := 78) hx hb dX12_road_21 (by omega) (by decide) ?_
      refine lv_aload_n hx hb dX12_road_78 rfl (lv_at hl 0 rfl) ?_
      refine lv_iload_n hx hb dX12_road_79 rfl (lv_at hl 1 rfl) ?_
      refine lv_iload_n hx hb dX12_road_80 rfl (lv_at hl 2 rfl) ?_
      refine sg_callVr (As := [.int p1, .int p2]) X I mk_X12_316 (by decide) (by decide) shM_0 rfl (fun q9 e9 => c_X12_of e9) h hl.1 rfl rfl (Nat.le_of_ble_eq_true rfl) dX12_road_81 (fun v7 H locs h I => ?_)
      obtain rfl := Option.some.inj h
      exact hk _ _ _ _ _ I ⟨_, rfl, rfl⟩ dX12_road_84
    · have h := sg_ift h z
      refine lv_iconst (v := -1) hx hb dX12_road_18 (by decide) ?_
      obtain rfl := Option.some.inj h
      exact hk _ _ _ _ _ I ⟨_, rfl, rfl⟩ dX12_road_19
set_option maxHeartbeats 4000000 in
set_option maxRecDepth 100000 in
theorem c_X12_road {l : Launch} {P : sgP} {N : Nat} {p1 : Int32} {p2 : Int32} {σ : sgS} {q : Int32 × sgS} (h : f_X12_road N p1 p2 σ = some q) : sg_Mi P shM 35 l yX12_road cX12_road 3 (some .int) 7 [.ref (sgA P 0), .int p1, .int p2] σ q := by
  refine sg_mki (plainFor_of_name (by decide +kernel)) (Nat.le_of_ble_eq_true rfl) ?_
  intro p e R s m args below meth c Q A ls H locs X I hl hk
  exact b_X12_road X I hl h hk
def f_X12_wheels_B23 (N : Nat) (p1 : Int32) (p2 : Int32) (k1 : Int32) (σ : sgS) : Option (Int32 × sgS) :=
  sg_pf σ 0 0 k1 fun s2 =>
if (s2.1 0 0) = 1 then
  (some (0, s2))
else
  (sg_ld s2 21 215 ((4 * p2) + p1) fun v3 =>
  some (v3, s2))
set_option maxHeartbeats 4000000 in
set_option maxRecDepth 100000 in
theorem b_X12_wheels_B23 {p : Program} {l : Launch} {e : Env} {R : Room} {s : State} {m : MethodId} {args : Array Value} {below : List Frame} {meth : Method} {c : Code} {Q : State → Prop} {P : sgP} {A : Nat → Prop} {N : Nat} {p1 : Int32} {p2 : Int32} {k1 : Int32} {σ : sgS} (X : sg_C P A 3 p R s m args c cX12_wheels 3 RX12) {H : Heap} {locs : List Loc} (I : sg_I P shM 35 A s.heap σ H locs) {ls : Array Slot} (hl : lv_has ls 3 [(0, .ref (sgA P 0)), (1, .int p1), (2, .int p2)]) {st : Int32 × sgS} (h : f_X12_wheels_B23 N p1 p2 k1 σ = some st) (hk : sg_Ri p l e R s m args below meth c Q P shM 35 A cX12_wheels (some .int) st) : W p l e R s m args below meth c H locs 0 0 Q (F0 m 23 ls [.int k1, .ref (sgA P 0)]) := by
  unfold f_X12_wheels_B23 at h
  have hx := X.1.1
  have hb := X.1.2.1
  have hown := X.1.2.2.2.1
  have hts := X.1.2.2.2.2
  refine sg_puti X I fk_X12_120 wk_12_0 rfl rfl (by decide) shM_0 rfl h dX12_wheels_23 (fun s2 H locs h I => ?_)
  refine lv_aload_n hx hb dX12_wheels_26 rfl (lv_at hl 0 rfl) ?_
  refine sg_geti X I fk_X12_120 (by decide) shM_0 rfl dX12_wheels_27 ?_
  refine lv_iconst (v := 1) hx hb dX12_wheels_30 (by decide) ?_
  refine lv_icmp_ne (tgt := 38) hx hb dX12_wheels_31 (by decide) (fun z => ?_) (fun z => ?_)
  · have h := sg_iff h z
    refine lv_aload_n hx hb dX12_wheels_38 rfl (lv_at hl 0 rfl) ?_
    refine sg_getr X I fk_X12_70 (j := 21) (by decide) shM_0 rfl dX12_wheels_39 ?_
    refine lv_iconst (v := 4) hx hb dX12_wheels_42 (by decide) ?_
    refine lv_iload_n hx hb dX12_wheels_43 rfl (lv_at hl 2 rfl) ?_
    refine lv_imul hx hb dX12_wheels_44 ?_
    refine lv_iload_n hx hb dX12_wheels_45 rfl (lv_at hl 1 rfl) ?_
    refine lv_iadd hx hb dX12_wheels_46 ?_
    refine sg_iald X I (by decide) shM_21 h dX12_wheels_47 (fun v3 h => ?_)
    obtain rfl := Option.some.inj h
    exact hk _ _ _ _ _ I ⟨_, rfl, rfl⟩ dX12_wheels_48
  · have h := sg_ift h z
    refine lv_iconst (v := 0) hx hb dX12_wheels_34 (by decide) ?_
    refine lv_goto (tgt := 48) hx hb dX12_wheels_35 (by decide) ?_
    obtain rfl := Option.some.inj h
    exact hk _ _ _ _ _ I ⟨_, rfl, rfl⟩ dX12_wheels_48
def f_X12_wheels (N : Nat) (p1 : Int32) (p2 : Int32) (σ : sgS) : Option (Int32 × sgS) :=
  sg_cr (f_X12_isSet N p1 σ) fun v1 =>
if v1 = 0 then
  (f_X12_wheels_B23 N p1 p2 1 σ)
else
  (sg_cr (f_X12_in N p2 0 2 σ) fun v4 =>
  if v4 = 0 then
    (f_X12_wheels_B23 N p1 p2 1 σ)
  else
    (f_X12_wheels_B23 N p1 p2 0 σ))
set_option maxHeartbeats 4000000 in
set_option maxRecDepth 100000 in
theorem b_X12_wheels {p : Program} {l : Launch} {e : Env} {R : Room} {s : State} {m : MethodId} {args : Array Value} {below : List Frame} {meth : Method} {c : Code} {Q : State → Prop} {P : sgP} {A : Nat → Prop} {N : Nat} {p1 : Int32} {p2 : Int32} {σ : sgS} (X : sg_C P A 3 p R s m args c cX12_wheels 3 RX12) {H : Heap} {locs : List Loc} (I : sg_I P shM 35 A s.heap σ H locs) {ls : Array Slot} (hl : lv_has ls 3 [(0, .ref (sgA P 0)), (1, .int p1), (2, .int p2)]) {st : Int32 × sgS} (h : f_X12_wheels N p1 p2 σ = some st) (hk : sg_Ri p l e R s m args below meth c Q P shM 35 A cX12_wheels (some .int) st) : W p l e R s m args below meth c H locs 0 0 Q (F0 m 0 ls []) := by
  unfold f_X12_wheels at h
  have hx := X.1.1
  have hb := X.1.2.1
  have hown := X.1.2.2.2.1
  have hts := X.1.2.2.2.2
  refine lv_aload_n hx hb dX12_wheels_0 rfl (lv_at hl 0 rfl) ?_
  refine lv_aload_n hx hb dX12_wheels_1 rfl (lv_at hl 0 rfl) ?_
  refine lv_iload_n hx hb dX12_wheels_2 rfl (lv_at hl 1 rfl) ?_
  refine sg_callVr (As := [.int p1]) X I mk_X12_370 (by decide) (by decide) shM_0 rfl (fun q9 e9 => c_X12_isSet e9) h hl.1 rfl rfl (Nat.le_of_ble_eq_true rfl) dX12_wheels_3 (fun v1 H locs h I => ?_)
  refine lv_if_eq (tgt := 22) hx hb dX12_wheels_6 (by decide) (fun z => ?_) (fun z => ?_)
  · have h := sg_ift h z
    refine lv_iconst (v := 1) hx hb dX12_wheels_22 (by decide) ?_
    exact b_X12_wheels_B23 X I (lv_sub hl [0, 1, 2] rfl) h hk
  · have h := sg_iff h z
    refine lv_iload_n hx hb dX12_wheels_9 rfl (lv_at hl 2 rfl) ?_
    refine lv_iconst (v := 0) hx hb dX12_wheels_10 (by decide) ?_
    refine lv_iconst (v := 2) hx hb dX12_wheels_11 (by decide) ?_
    refine sg_callSr (As := [.int p2, .int 0, .int 2]) X I mk_X12_235 (by decide) (fun q9 e9 => c_X12_in e9) h hl.1 rfl rfl (Nat.le_of_ble_eq_true rfl) dX12_wheels_12 (fun v4 H locs h I => ?_)
    refine lv_if_eq (tgt := 22) hx hb dX12_wheels_15 (by decide) (fun z => ?_) (fun z => ?_)
    · have h := sg_ift h z
      refine lv_iconst (v := 1) hx hb dX12_wheels_22 (by decide) ?_
      exact b_X12_wheels_B23 X I (lv_sub hl [0, 1, 2] rfl) h hk
    · have h := sg_iff h z
      refine lv_iconst (v := 0) hx hb dX12_wheels_18 (by decide) ?_
      refine lv_goto (tgt := 23) hx hb dX12_wheels_19 (by decide) ?_
      exact b_X12_wheels_B23 X I (lv_sub hl [0, 1, 2] rfl) h hk
set_option maxHeartbeats 4000000 in
set_option maxRecDepth 100000 in
theorem c_X12_wheels {l : Launch} {P : sgP} {N : Nat} {p1 : Int32} {p2 : Int32} {σ : sgS} {q : Int32 × sgS} (h : f_X12_wheels N p1 p2 σ = some q) : sg_Mi P shM 35 l yX12_wheels cX12_wheels 3 (some .int) 3 [.ref (sgA P 0), .int p1, .int p2] σ q := by
  refine sg_mki (plainFor_of_name (by decide +kernel)) (Nat.le_of_ble_eq_true rfl) ?_
  intro p e R s m args below meth c Q A ls H locs X I hl hk
  exact b_X12_wheels X I hl h hk
def f_X12_spot (N : Nat) (p1 : Int32) (p2 : Int32) (σ : sgS) : Option (Int32) :=
  sg_cr (f_X12_isPlace N p1 σ) fun v1 =>
if v1 = 0 then
  (some ((-1)))
else
  (sg_cr (f_X12_in N p2 0 1 σ) fun v2 =>
  if v2 = 0 then
    (some ((-1)))
  else
    (if p2 = 0 then
      (sg_ld σ 16 7 p1 fun v4 =>
      some v4)
    else
      (sg_ld σ 21 215 (24 + p1) fun v3 =>
      some v3)))
set_option maxHeartbeats 4000000 in
set_option maxRecDepth 100000 in
theorem b_X12_spot {p : Program} {l : Launch} {e : Env} {R : Room} {s : State} {m : MethodId} {args : Array Value} {below : List Frame} {meth : Method} {c : Code} {Q : State → Prop} {P : sgP} {A : Nat → Prop} {N : Nat} {p1 : Int32} {p2 : Int32} {σ : sgS} (X : sg_C P A 3 p R s m args c cX12_spot 3 RX12) {H : Heap} {locs : List Loc} (I : sg_I P shM 35 A s.heap σ H locs) {ls : Array Slot} (hl : lv_has ls 3 [(0, .ref (sgA P 0)), (1, .int p1), (2, .int p2)]) {st : Int32} (h : f_X12_spot N p1 p2 σ = some st) (hk : sg_Ri p l e R s m args below meth c Q P shM 35 A cX12_spot (some .int) (st, σ)) : W p l e R s m args below meth c H locs 0 0 Q (F0 m 0 ls []) := by
  unfold f_X12_spot at h
  have hx := X.1.1
  have hb := X.1.2.1
  have hown := X.1.2.2.2.1
  have hts := X.1.2.2.2.2
  refine lv_aload_n hx hb dX12_spot_0 rfl (lv_at hl 0 rfl) ?_
  refine lv_iload_n hx hb dX12_spot_1 rfl (lv_at hl 1 rfl) ?_
  refine sg_callVr (As := [.int p1]) X I mk_X12_373 (by decide) (by decide) shM_0 rfl (fun q9 e9 => c_X12_isPlace e9) h hl.1 rfl rfl (Nat.le_of_ble_eq_true rfl) dX12_spot_2 (fun v1 H locs h I => ?_)
  refine lv_if_eq (tgt := 17) hx hb dX12_spot_5 (by decide) (fun z => ?_) (fun z => ?_)
  · have h := sg_ift h z
    refine lv_iconst (v := -1) hx hb dX12_spot_17 (by decide) ?_
    refine lv_goto (tgt := 43) hx hb dX12_spot_18 (by decide) ?_
    obtain rfl := Option.some.inj h
    exact hk _ _ _ _ _ I ⟨_, rfl, rfl⟩ dX12_spot_43
  · have h := sg_iff h z
    refine lv_iload_n hx hb dX12_spot_8 rfl (lv_at hl 2 rfl) ?_
    refine lv_iconst (v := 0) hx hb dX12_spot_9 (by decide) ?_
    refine lv_iconst (v := 1) hx hb dX12_spot_10 (by decide) ?_
    refine sg_callSr (As := [.int p2, .int 0, .int 1]) X I mk_X12_235 (by decide) (fun q9 e9 => c_X12_in e9) h hl.1 rfl rfl (Nat.le_of_ble_eq_true rfl) dX12_spot_11 (fun v2 H locs h I => ?_)
    refine lv_if_ne (tgt := 21) hx hb dX12_spot_14 (by decide) (fun z => ?_) (fun z => ?_)
    · have h := sg_iff h z
      refine lv_iload_n hx hb dX12_spot_21 rfl (lv_at hl 2 rfl) ?_
      refine lv_if_ne (tgt := 34) hx hb dX12_spot_22 (by decide) (fun z => ?_) (fun z => ?_)
      · have h := sg_iff h z
        refine lv_aload_n hx hb dX12_spot_34 rfl (lv_at hl 0 rfl) ?_
        refine sg_getr X I fk_X12_70 (j := 21) (by decide) shM_0 rfl dX12_spot_35 ?_
        refine lv_bipush (v := 24) hx hb dX12_spot_38 (by decide) ?_
        refine lv_iload_n hx hb dX12_spot_40 rfl (lv_at hl 1 rfl) ?_
        refine lv_iadd hx hb dX12_spot_41 ?_
        refine sg_iald X I (by decide) shM_21 h dX12_spot_42 (fun v3 h => ?_)
        obtain rfl := Option.some.inj h
        exact hk _ _ _ _ _ I ⟨_, rfl, rfl⟩ dX12_spot_43
      · have h := sg_ift h z
        refine lv_aload_n hx hb dX12_spot_25 rfl (lv_at hl 0 rfl) ?_
        refine sg_getr X I fk_X12_55 (j := 16) (by decide) shM_0 rfl dX12_spot_26 ?_
        refine lv_iload_n hx hb dX12_spot_29 rfl (lv_at hl 1 rfl) ?_
        refine sg_iald X I (by decide) shM_16 h dX12_spot_30 (fun v4 h => ?_)
        refine lv_goto (tgt := 43) hx hb dX12_spot_31 (by decide) ?_
        obtain rfl := Option.some.inj h
        exact hk _ _ _ _ _ I ⟨_, rfl, rfl⟩ dX12_spot_43
    · have h := sg_ift h z
      refine lv_iconst (v := -1) hx hb dX12_spot_17 (by decide) ?_
      refine lv_goto (tgt := 43) hx hb dX12_spot_18 (by decide) ?_
      obtain rfl := Option.some.inj h
      exact hk _ _ _ _ _ I ⟨_, rfl, rfl⟩ dX12_spot_43
set_option maxHeartbeats 4000000 in
set_option maxRecDepth 100000 in
theorem c_X12_spot {l : Launch} {P : sgP} {N : Nat} {p1 : Int32} {p2 : Int32} {σ : sgS} {q : Int32} (h : f_X12_spot N p1 p2 σ = some q) : sg_Mi P shM 35 l yX12_spot cX12_spot 3 (some .int) 3 [.ref (sgA P 0), .int p1, .int p2] σ (q, σ) := by
  refine sg_mki (plainFor_of_name (by decide +kernel)) (Nat.le_of_ble_eq_true rfl) ?_
  intro p e R s m args below meth c Q A ls H locs X I hl hk
  exact b_X12_spot X I hl h hk
def f_X12_law (N : Nat) (p1 : Int32) (σ : sgS) : Option (Int32 × sgS) :=
  sg_cr (f_X12_in N p1 ((-1)) ((σ.1 0 13) - 1) σ) fun v1 =>
if v1 = 0 then
  (some (vp_nar .boolean 0, σ))
else
  (sg_pf σ 0 36 p1 fun s2 =>
  some (vp_nar .boolean 1, s2))
set_option maxHeartbeats 4000000 in
set_option maxRecDepth 100000 in
theorem b_X12_law {p : Program} {l : Launch} {e : Env} {R : Room} {s : State} {m : MethodId} {args : Array Value} {below : List Frame} {meth : Method} {c : Code} {Q : State → Prop} {P : sgP} {A : Nat → Prop} {N : Nat} {p1 : Int32} {σ : sgS} (X : sg_C P A 2 p R s m args c cX12_law 2 RX12) {H : Heap} {locs : List Loc} (I : sg_I P shM 35 A s.heap σ H locs) {ls : Array Slot} (hl : lv_has ls 2 [(0, .ref (sgA P 0)), (1, .int p1)]) {st : Int32 × sgS} (h : f_X12_law N p1 σ = some st) (hk : sg_Ri p l e R s m args below meth c Q P shM 35 A cX12_law (some .boolean) st) : W p l e R s m args below meth c H locs 0 0 Q (F0 m 0 ls []) := by
  unfold f_X12_law at h
  have hx := X.1.1
  have hb := X.1.2.1
  have hown := X.1.2.2.2.1
  have hts := X.1.2.2.2.2
  refine lv_iload_n hx hb dX12_law_0 rfl (lv_at hl 1 rfl) ?_
  refine lv_iconst (v := -1) hx hb dX12_law_1 (by decide) ?_
  refine lv_aload_n hx hb dX12_law_2 rfl (lv_at hl 0 rfl) ?_
  refine sg_geti X I fk_X12_310 (by decide) shM_0 rfl dX12_law_3 ?_
  refine lv_iconst (v := 1) hx hb dX12_law_6 (by decide) ?_
  refine lv_isub hx hb dX12_law_7 ?_
  refine sg_callSr (As := [.int p1, .int ((-1)), .int ((σ.1 0 13) - 1)]) X I mk_X12_235 (by decide) (fun q9 e9 => c_X12_in e9) h hl.1 rfl rfl (Nat.le_of_ble_eq_true rfl) dX12_law_8 (fun v1 H locs h I => ?_)
  refine lv_if_ne (tgt := 16) hx hb dX12_law_11 (by decide) (fun z => ?_) (fun z => ?_)
  · have h := sg_iff h z
    refine lv_aload_n hx hb dX12_law_16 rfl (lv_at hl 0 rfl) ?_
    refine lv_iload_n hx hb dX12_law_17 rfl (lv_at hl 1 rfl) ?_
    refine sg_puti X I fk_X12_76 wk_12_36 rfl rfl (by decide) shM_0 rfl h dX12_law_18 (fun s2 H locs h I => ?_)
    refine lv_iconst (v := 1) hx hb dX12_law_21 (by decide) ?_
    obtain rfl := Option.some.inj h
    exact hk _ _ _ _ _ I ⟨_, rfl, rfl⟩ dX12_law_22
  · have h := sg_ift h z
    refine lv_iconst (v := 0) hx hb dX12_law_14 (by decide) ?_
    obtain rfl := Option.some.inj h
    exact hk _ _ _ _ _ I ⟨_, rfl, rfl⟩ dX12_law_15
set_option maxHeartbeats 4000000 in
set_option maxRecDepth 100000 in
theorem c_X12_law {l : Launch} {P : sgP} {N : Nat} {p1 : Int32} {σ : sgS} {q : Int32 × sgS} (h : f_X12_law N p1 σ = some q) : sg_Mi P shM 35 l yX12_law cX12_law 2 (some .boolean) 2 [.ref (sgA P 0), .int p1] σ q := by
  refine sg_mki (plainFor_of_name (by decide +kernel)) (Nat.le_of_ble_eq_true rfl) ?_
  intro p e R s m args below meth c Q A ls H locs X I hl hk
  exact b_X12_law X I hl h hk
def f_X12_walked (N : Nat) (p1 : Int32) (p2 : Int32) (σ : sgS) : Option (Int32) :=
  sg_cr (f_X12_isWay N p1 σ) fun v1 =>
if v1 = 0 then
  (some ((-1)))
else
  (sg_ld σ 20 5 p1 fun v2 =>
  sg_cr (f_X12_in N p2 ((-1)) (v2 - 1) σ) fun v3 =>
  if v3 = 0 then
    (some ((-1)))
  else
    (if p2 = ((-1)) then
      (sg_ld σ 20 5 p1 fun v5 =>
      some v5)
    else
      (sg_ld σ 19 60 ((12 * p1) + p2) fun v4 =>
      some v4)))
set_option maxHeartbeats 4000000 in
set_option maxRecDepth 100000 in
theorem b_X12_walked {p : Program} {l : Launch} {e : Env} {R : Room} {s : State} {m : MethodId} {args : Array Value} {below : List Frame} {meth : Method} {c : Code} {Q : State → Prop} {P : sgP} {A : Nat → Prop} {N : Nat} {p1 : Int32} {p2 : Int32} {σ : sgS} (X : sg_C P A 3 p R s m args c cX12_walked 3 RX12) {H : Heap} {locs : List Loc} (I : sg_I P shM 35 A s.heap σ H locs) {ls : Array Slot} (hl : lv_has ls 3 [(0, .ref (sgA P 0)), (1, .int p1), (2, .int p2)]) {st : Int32} (h : f_X12_walked N p1 p2 σ = some st) (hk : sg_Ri p l e R s m args below meth c Q P shM 35 A cX12_walked (some .int) (st, σ)) : W p l e R s m args below meth c H locs 0 0 Q (F0 m 0 ls []) := by
  unfold f_X12_walked at h
  have hx := X.1.1
  have hb := X.1.2.1
  have hown := X.1.2.2.2.1
  have hts := X.1.2.2.2.2
  refine lv_aload_n hx hb dX12_walked_0 rfl (lv_at hl 0 rfl) ?_
  refine lv_iload_n hx hb dX12_walked_1 rfl (lv_at hl 1 rfl) ?_
  refine sg_callVr (As := [.int p1]) X I mk_X12_376 (by decide) (by decide) shM_0 rfl (fun q9 e9 => c_X12_isWay e9) h hl.1 rfl rfl (Nat.le_of_ble_eq_true rfl) dX12_walked_2 (fun v1 H locs h I => ?_)
  refine lv_if_eq (tgt := 24) hx hb dX12_walked_5 (by decide) (fun z => ?_) (fun z => ?_)
  · have h := sg_ift h z
    refine lv_iconst (v := -1) hx hb dX12_walked_24 (by decide) ?_
    obtain rfl := Option.some.inj h
    exact hk _ _ _ _ _ I ⟨_, rfl, rfl⟩ dX12_walked_25
  · have h := sg_iff h z
    refine lv_iload_n hx hb dX12_walked_8 rfl (lv_at hl 2 rfl) ?_
    refine lv_iconst (v := -1) hx hb dX12_walked_9 (by decide) ?_
    refine lv_aload_n hx hb dX12_walked_10 rfl (lv_at hl 0 rfl) ?_
    refine sg_getr X I fk_X12_67 (j := 20) (by decide) shM_0 rfl dX12_walked_11 ?_
    refine lv_iload_n hx hb dX12_walked_14 rfl (lv_at hl 1 rfl) ?_
    refine sg_iald X I (by decide) shM_20 h dX12_walked_15 (fun v2 h => ?_)
    refine lv_iconst (v := 1) hx hb dX12_walked_16 (by decide) ?_
    refine lv_isub hx hb dX12_walked_17 ?_
    refine sg_callSr (As := [.int p2, .int ((-1)), .int (v2 - 1)]) X I mk_X12_235 (by decide) (fun q9 e9 => c_X12_in e9) h hl.1 rfl rfl (Nat.le_of_ble_eq_true rfl) dX12_walked_18 (fun v3 H locs h I => ?_)
    refine lv_if_ne (tgt := 26) hx hb dX12_walked_21 (by decide) (fun z => ?_) (fun z => ?_)
    · have h := sg_iff h z
      refine lv_iload_n hx hb dX12_walked_26 rfl (lv_at hl 2 rfl) ?_
      refine lv_iconst (v := -1) hx hb dX12_walked_27 (by decide) ?_
      refine lv_icmp_ne (tgt := 40) hx hb dX12_walked_28 (by decide) (fun z => ?_) (fun z => ?_)
      · have h := sg_iff h z
        refine lv_aload_n hx hb dX12_walked_40 rfl (lv_at hl 0 rfl) ?_
        refine sg_getr X I fk_X12_64 (j := 19) (by decide) shM_0 rfl dX12_walked_41 ?_
        refine lv_bipush (v := 12) hx hb dX12_walked_44 (by decide) ?_
        refine lv_iload_n hx hb dX12_walked_46 rfl (lv_at hl 1 rfl) ?_
        refine lv_imul hx hb dX12_walked_47 ?_
        refine lv_iload_n hx hb dX12_walked_48 rfl (lv_at hl 2 rfl) ?_
        refine lv_iadd hx hb dX12_walked_49 ?_
        refine sg_iald X I (by decide) shM_19 h dX12_walked_50 (fun v4 h => ?_)
        obtain rfl := Option.some.inj h
        exact hk _ _ _ _ _ I ⟨_, rfl, rfl⟩ dX12_walked_51
      · have h := sg_ift h z
        refine lv_aload_n hx hb dX12_walked_31 rfl (lv_at hl 0 rfl) ?_
        refine sg_getr X I fk_X12_67 (j := 20) (by decide) shM_0 rfl dX12_walked_32 ?_
        refine lv_iload_n hx hb dX12_walked_35 rfl (lv_at hl 1 rfl) ?_
        refine sg_iald X I (by decide) shM_20 h dX12_walked_36 (fun v5 h => ?_)
        refine lv_goto (tgt := 51) hx hb dX12_walked_37 (by decide) ?_
        obtain rfl := Option.some.inj h
        exact hk _ _ _ _ _ I ⟨_, rfl, rfl⟩ dX12_walked_51
    · have h := sg_ift h z
      refine lv_iconst (v := -1) hx hb dX12_walked_24 (by decide) ?_
      obtain rfl := Option.some.inj h
      exact hk _ _ _ _ _ I ⟨_, rfl, rfl⟩ dX12_walked_25
set_option maxHeartbeats 4000000 in
set_option maxRecDepth 100000 in
theorem c_X12_walked {l : Launch} {P : sgP} {N : Nat} {p1 : Int32} {p2 : Int32} {σ : sgS} {q : Int32} (h : f_X12_walked N p1 p2 σ = some q) : sg_Mi P shM 35 l yX12_walked cX12_walked 3 (some .int) 3 [.ref (sgA P 0), .int p1, .int p2] σ (q, σ) := by
  refine sg_mki (plainFor_of_name (by decide +kernel)) (Nat.le_of_ble_eq_true rfl) ?_
  intro p e R s m args below meth c Q A ls H locs X I hl hk
  exact b_X12_walked X I hl h hk
def f_X12_keep_L54 (N : Nat) (x1 : Int32) (σ : sgS) : Option ((Int32 × sgS) ⊕ ((sgS × Int32) ⊕ (sgS))) :=
  if 215 ≤ x1 then
  (some (.inr (.inr σ)))
else
  (sg_ld σ 21 215 x1 fun v1 =>
  sg_st σ 25 8600 ((215 * (σ.1 0 42)) + x1) v1 fun s2 =>
  some (.inr (.inl (s2, x1 + 1))))
set_option maxHeartbeats 4000000 in
set_option maxRecDepth 100000 in
theorem b_X12_keep_L54 {p : Program} {l : Launch} {e : Env} {R : Room} {s : State} {m : MethodId} {args : Array Value} {below : List Frame} {meth : Method} {c : Code} {Q : State → Prop} {P : sgP} {A : Nat → Prop} {N : Nat} {x1 : Int32} {σ : sgS} (X : sg_C P A 1 p R s m args c cX12_keep 2 RX12) {H : Heap} {locs : List Loc} (I : sg_I P shM 35 A s.heap σ H locs) {ls : Array Slot} (hl : lv_has ls 2 [(0, .ref (sgA P 0)), (1, .int x1)]) {st : (Int32 × sgS) ⊕ ((sgS × Int32) ⊕ (sgS))} (h : f_X12_keep_L54 N x1 σ = some st) (hk : sg_k3 (sg_Rv p l e R s m args below meth c Q P shM 35 A cX12_keep) (fun x => sg_Wt p l e R s m args below meth c Q P shM 35 A 2 54 x.1 [(0, .ref (sgA P 0)), (1, .int x.2)]) (fun y => sg_Wt p l e R s m args below meth c Q P shM 35 A 2 88 y [(0, .ref (sgA P 0))]) st) : W p l e R s m args below meth c H locs 0 0 Q (F0 m 54 ls []) := by
  unfold f_X12_keep_L54 at h
  have hx := X.1.1
  have hb := X.1.2.1
  have hown := X.1.2.2.2.1
  have hts := X.1.2.2.2.2
  refine lv_iload_n hx hb dX12_keep_54 rfl (lv_at hl 1 rfl) ?_
  refine lv_sipush (v := 215) hx hb dX12_keep_55 (by decide) ?_
  refine lv_icmp_ge (tgt := 88) hx hb dX12_keep_58 (by decide) (fun z => ?_) (fun z => ?_)
  · have h := sg_ift h z
    obtain rfl := Option.some.inj h
    exact sg_go hk I (lv_sub hl [0] rfl)
  · have h := sg_iff h z
    refine lv_aload_n hx hb dX12_keep_61 rfl (lv_at hl 0 rfl) ?_
    refine sg_getr X I fk_X12_89 (j := 25) (by decide) shM_0 rfl dX12_keep_62 ?_
    refine lv_sipush (v := 215) hx hb dX12_keep_65 (by decide) ?_
    refine lv_aload_n hx hb dX12_keep_68 rfl (lv_at hl 0 rfl) ?_
    refine sg_geti X I fk_X12_300 (by decide) shM_0 rfl dX12_keep_69 ?_
    refine lv_imul hx hb dX12_keep_72 ?_
    refine lv_iload_n hx hb dX12_keep_73 rfl (lv_at hl 1 rfl) ?_
    refine lv_iadd hx hb dX12_keep_74 ?_
    refine lv_aload_n hx hb dX12_keep_75 rfl (lv_at hl 0 rfl) ?_
    refine sg_getr X I fk_X12_70 (j := 21) (by decide) shM_0 rfl dX12_keep_76 ?_
    refine lv_iload_n hx hb dX12_keep_79 rfl (lv_at hl 1 rfl) ?_
    refine sg_iald X I (by decide) shM_21 h dX12_keep_80 (fun v1 h => ?_)
    refine sg_iast X I (by decide) shM_25 h dX12_keep_81 (fun s2 H locs h I => ?_)
    refine lv_iinc (v := x1 + 1) (lv' := [(1, .int (x1 + 1)), (0, .ref (sgA P 0))]) hx hb dX12_keep_82 hl (k := 1) rfl rfl (by decide) rfl (fun ls hl => ?_)
    refine lv_goto (tgt := 54) hx hb dX12_keep_85 (by decide) ?_
    obtain rfl := Option.some.inj h
    exact sg_go hk I (lv_sub hl [1, 0] rfl)
def f_X12_keep_B52 (N : Nat) (σ : sgS) : Option (Int32 × sgS) :=
  sg_lb (sg_lp (fun x => f_X12_keep_L54 N x.2 x.1) N ((σ, 0))) (fun r => some r) fun y3 =>
sg_pf y3 0 42 ((y3.1 0 42) + 1) fun s4 =>
some (0, s4)
set_option maxHeartbeats 4000000 in
set_option maxRecDepth 100000 in
theorem b_X12_keep_B52 {p : Program} {l : Launch} {e : Env} {R : Room} {s : State} {m : MethodId} {args : Array Value} {below : List Frame} {meth : Method} {c : Code} {Q : State → Prop} {P : sgP} {A : Nat → Prop} {N : Nat} {σ : sgS} (X : sg_C P A 1 p R s m args c cX12_keep 2 RX12) {H : Heap} {locs : List Loc} (I : sg_I P shM 35 A s.heap σ H locs) {ls : Array Slot} (hl : lv_has ls 2 [(0, .ref (sgA P 0))]) {st : Int32 × sgS} (h : f_X12_keep_B52 N σ = some st) (hk : sg_Rv p l e R s m args below meth c Q P shM 35 A cX12_keep st) : W p l e R s m args below meth c H locs 0 0 Q (F0 m 52 ls []) := by
  unfold f_X12_keep_B52 at h
  have hx := X.1.1
  have hb := X.1.2.1
  have hown := X.1.2.2.2.1
  have hts := X.1.2.2.2.2
  refine lv_iconst (v := 0) hx hb dX12_keep_52 (by decide) ?_
  refine lv_istore_n (lv' := [(1, .int 0), (0, .ref (sgA P 0))]) hx hb dX12_keep_53 rfl hl (by decide) rfl (fun ls hl => ?_)
  obtain ⟨res, e9, k9⟩ := sg_lb_some h
  refine sg_go (sg_lp_W (a := (sg_Rv p l e R s m args below meth c Q P shM 35 A cX12_keep)) (w := (fun x => sg_Wt p l e R s m args below meth c Q P shM 35 A 2 54 x.1 [(0, .ref (sgA P 0)), (1, .int x.2)])) (c := (fun y => sg_Wt p l e R s m args below meth c Q P shM 35 A 2 88 y [(0, .ref (sgA P 0))])) (fun x st hb9 hk9 => ?_) N ((σ, 0)) res e9 (sg_k2_mono k9 (fun r h => ?_) (fun y3 h => ?_))) I (lv_sub hl [1, 0] rfl)
  · intro H locs ls I hl
    exact b_X12_keep_L54 X I hl hb9 hk9
  · obtain rfl := Option.some.inj h
    exact hk
  · intro H locs ls I hl
    refine lv_aload_n hx hb dX12_keep_88 rfl (lv_at hl 0 rfl) ?_
    refine lv_dup hx hb dX12_keep_89 rfl ?_
    refine sg_geti X I fk_X12_300 (by decide) shM_0 rfl dX12_keep_90 ?_
    refine lv_iconst (v := 1) hx hb dX12_keep_93 (by decide) ?_
    refine lv_iadd hx hb dX12_keep_94 ?_
    refine sg_puti X I fk_X12_300 wk_12_42 rfl rfl (by decide) shM_0 rfl h dX12_keep_95 (fun s4 H locs h I => ?_)
    obtain rfl := Option.some.inj h
    exact hk _ _ _ _ I dX12_keep_98
def f_X12_keep_L13 (N : Nat) (x1 : Int32) (σ : sgS) : Option ((Int32 × sgS) ⊕ ((sgS × Int32) ⊕ (sgS))) :=
  if 8600 ≤ x1 then
  (some (.inr (.inr σ)))
else
  (sg_ld σ 25 8600 x1 fun v5 =>
  sg_st σ 25 8600 (x1 - 215) v5 fun s6 =>
  some (.inr (.inl (s6, x1 + 1))))
set_option maxHeartbeats 4000000 in
set_option maxRecDepth 100000 in
theorem b_X12_keep_L13 {p : Program} {l : Launch} {e : Env} {R : Room} {s : State} {m : MethodId} {args : Array Value} {below : List Frame} {meth : Method} {c : Code} {Q : State → Prop} {P : sgP} {A : Nat → Prop} {N : Nat} {x1 : Int32} {σ : sgS} (X : sg_C P A 1 p R s m args c cX12_keep 2 RX12) {H : Heap} {locs : List Loc} (I : sg_I P shM 35 A s.heap σ H locs) {ls : Array Slot} (hl : lv_has ls 2 [(0, .ref (sgA P 0)), (1, .int x1)]) {st : (Int32 × sgS) ⊕ ((sgS × Int32) ⊕ (sgS))} (h : f_X12_keep_L13 N x1 σ = some st) (hk : sg_k3 (sg_Rv p l e R s m args below meth c Q P shM 35 A cX12_keep) (fun x => sg_Wt p l e R s m args below meth c Q P shM 35 A 2 13 x.1 [(0, .ref (sgA P 0)), (1, .int x.2)]) (fun y => sg_Wt p l e R s m args below meth c Q P shM 35 A 2 42 y [(0, .ref (sgA P 0))]) st) : W p l e R s m args below meth c H locs 0 0 Q (F0 m 13 ls []) := by
  unfold f_X12_keep_L13 at h
  have hx := X.1.1
  have hb := X.1.2.1
  have hown := X.1.2.2.2.1
  have hts := X.1.2.2.2.2
  refine lv_iload_n hx hb dX12_keep_13 rfl (lv_at hl 1 rfl) ?_
  refine lv_sipush (v := 8600) hx hb dX12_keep_14 (by decide) ?_
  refine lv_icmp_ge (tgt := 42) hx hb dX12_keep_17 (by decide) (fun z => ?_) (fun z => ?_)
  · have h := sg_ift h z
    obtain rfl := Option.some.inj h
    exact sg_go hk I (lv_sub hl [0] rfl)
  · have h := sg_iff h z
    refine lv_aload_n hx hb dX12_keep_20 rfl (lv_at hl 0 rfl) ?_
    refine sg_getr X I fk_X12_89 (j := 25) (by decide) shM_0 rfl dX12_keep_21 ?_
    refine lv_iload_n hx hb dX12_keep_24 rfl (lv_at hl 1 rfl) ?_
    refine lv_sipush (v := 215) hx hb dX12_keep_25 (by decide) ?_
    refine lv_isub hx hb dX12_keep_28 ?_
    refine lv_aload_n hx hb dX12_keep_29 rfl (lv_at hl 0 rfl) ?_
    refine sg_getr X I fk_X12_89 (j := 25) (by decide) shM_0 rfl dX12_keep_30 ?_
    refine lv_iload_n hx hb dX12_keep_33 rfl (lv_at hl 1 rfl) ?_
    refine sg_iald X I (by decide) shM_25 h dX12_keep_34 (fun v5 h => ?_)
    refine sg_iast X I (by decide) shM_25 h dX12_keep_35 (fun s6 H locs h I => ?_)
    refine lv_iinc (v := x1 + 1) (lv' := [(1, .int (x1 + 1)), (0, .ref (sgA P 0))]) hx hb dX12_keep_36 hl (k := 1) rfl rfl (by decide) rfl (fun ls hl => ?_)
    refine lv_goto (tgt := 13) hx hb dX12_keep_39 (by decide) ?_
    obtain rfl := Option.some.inj h
    exact sg_go hk I (lv_sub hl [1, 0] rfl)
def f_X12_keep (N : Nat) (σ : sgS) : Option (Int32 × sgS) :=
  if (σ.1 0 42) = 40 then
  (sg_lb (sg_lp (fun x => f_X12_keep_L13 N x.2 x.1) N ((σ, 215))) (fun r => some r) fun y7 =>
  sg_pf y7 0 42 ((y7.1 0 42) - 1) fun s8 =>
  f_X12_keep_B52 N s8)
else
  (f_X12_keep_B52 N σ)
set_option maxHeartbeats 4000000 in
set_option maxRecDepth 100000 in
theorem b_X12_keep {p : Program} {l : Launch} {e : Env} {R : Room} {s : State} {m : MethodId} {args : Array Value} {below : List Frame} {meth : Method} {c : Code} {Q : State → Prop} {P : sgP} {A : Nat → Prop} {N : Nat} {σ : sgS} (X : sg_C P A 1 p R s m args c cX12_keep 2 RX12) {H : Heap} {locs : List Loc} (I : sg_I P shM 35 A s.heap σ H locs) {ls : Array Slot} (hl : lv_has ls 2 [(0, .ref (sgA P 0))]) {st : Int32 × sgS} (h : f_X12_keep N σ = some st) (hk : sg_Rv p l e R s m args below meth c Q P shM 35 A cX12_keep st) : W p l e R s m args below meth c H locs 0 0 Q (F0 m 0 ls []) := by
  unfold f_X12_keep at h
  have hx := X.1.1
  have hb := X.1.2.1
  have hown := X.1.2.2.2.1
  have hts := X.1.2.2.2.2
  refine lv_aload_n hx hb dX12_keep_0 rfl (lv_at hl 0 rfl) ?_
  refine sg_geti X I fk_X12_300 (by decide) shM_0 rfl dX12_keep_1 ?_
  refine lv_bipush (v := 40) hx hb dX12_keep_4 (by decide) ?_
  refine lv_icmp_ne (tgt := 52) hx hb dX12_keep_6 (by decide) (fun z => ?_) (fun z => ?_)
  · have h := sg_iff h z
    exact b_X12_keep_B52 X I (lv_sub hl [0] rfl) h hk
  · have h := sg_ift h z
    refine lv_sipush (v := 215) hx hb dX12_keep_9 (by decide) ?_
    refine lv_istore_n (lv' := [(1, .int 215), (0, .ref (sgA P 0))]) hx hb dX12_keep_12 rfl hl (by decide) rfl (fun ls hl => ?_)
    obtain ⟨res, e9, k9⟩ := sg_lb_some h
    refine sg_go (sg_lp_W (a := (sg_Rv p l e R s m args below meth c Q P shM 35 A cX12_keep)) (w := (fun x => sg_Wt p l e R s m args below meth c Q P shM 35 A 2 13 x.1 [(0, .ref (sgA P 0)), (1, .int x.2)])) (c := (fun y => sg_Wt p l e R s m args below meth c Q P shM 35 A 2 42 y [(0, .ref (sgA P 0))])) (fun x st hb9 hk9 => ?_) N ((σ, 215)) res e9 (sg_k2_mono k9 (fun r h => ?_) (fun y7 h => ?_))) I (lv_sub hl [1, 0] rfl)
    · intro H locs ls I hl
      exact b_X12_keep_L13 X I hl hb9 hk9
    · obtain rfl := Option.some.inj h
      exact hk
    · intro H locs ls I hl
      refine lv_aload_n hx hb dX12_keep_42 rfl (lv_at hl 0 rfl) ?_
      refine lv_dup hx hb dX12_keep_43 rfl ?_
      refine sg_geti X I fk_X12_300 (by decide) shM_0 rfl dX12_keep_44 ?_
      refine lv_iconst (v := 1) hx hb dX12_keep_47 (by decide) ?_
      refine lv_isub hx hb dX12_keep_48 ?_
      refine sg_puti X I fk_X12_300 wk_12_42 rfl rfl (by decide) shM_0 rfl h dX12_keep_49 (fun s8 H locs h I => ?_)
      exact b_X12_keep_B52 X I (lv_sub hl [0] rfl) h hk
set_option maxHeartbeats 4000000 in
set_option maxRecDepth 100000 in
theorem c_X12_keep {l : Launch} {P : sgP} {N : Nat} {σ : sgS} {q : Int32 × sgS} (h : f_X12_keep N σ = some q) : sg_Mv P shM 35 l yX12_keep cX12_keep 2 none 1 [.ref (sgA P 0)] σ q := by
  refine sg_mkv (plainFor_of_name (by decide +kernel)) (Nat.le_of_ble_eq_true rfl) ?_
  intro p e R s m args below meth c Q A ls H locs X I hl hk
  exact b_X12_keep X I hl h hk
def f_X12_isRefused (N : Nat) (p1 : Int32) (σ : sgS) : Option (Int32 × sgS) :=
  if p1 = ((-1)) then
  (if p1 = ((-1)) then
    (some (vp_nar .boolean 0, σ))
  else
    (some (vp_nar .boolean 1, σ)))
else
  (sg_ld σ 22 5 p1 fun v1 =>
  sg_st σ 22 5 p1 (v1 + 1) fun s2 =>
  if p1 = ((-1)) then
    (some (vp_nar .boolean 0, s2))
  else
    (some (vp_nar .boolean 1, s2)))
set_option maxHeartbeats 4000000 in
set_option maxRecDepth 100000 in
theorem b_X12_isRefused {p : Program} {l : Launch} {e : Env} {R : Room} {s : State} {m : MethodId} {args : Array Value} {below : List Frame} {meth : Method} {c : Code} {Q : State → Prop} {P : sgP} {A : Nat → Prop} {N : Nat} {p1 : Int32} {σ : sgS} (X : sg_C P A 1 p R s m args c cX12_isRefused 2 RX12) {H : Heap} {locs : List Loc} (I : sg_I P shM 35 A s.heap σ H locs) {ls : Array Slot} (hl : lv_has ls 2 [(0, .ref (sgA P 0)), (1, .int p1)]) {st : Int32 × sgS} (h : f_X12_isRefused N p1 σ = some st) (hk : sg_Ri p l e R s m args below meth c Q P shM 35 A cX12_isRefused (some .boolean) st) : W p l e R s m args below meth c H locs 0 0 Q (F0 m 0 ls []) := by
  unfold f_X12_isRefused at h
  have hx := X.1.1
  have hb := X.1.2.1
  have hown := X.1.2.2.2.1
  have hts := X.1.2.2.2.2
  refine lv_iload_n hx hb dX12_isRefused_0 rfl (lv_at hl 1 rfl) ?_
  refine lv_iconst (v := -1) hx hb dX12_isRefused_1 (by decide) ?_
  refine lv_icmp_eq (tgt := 15) hx hb dX12_isRefused_2 (by decide) (fun z => ?_) (fun z => ?_)
  · have h := sg_ift h z
    refine lv_iload_n hx hb dX12_isRefused_15 rfl (lv_at hl 1 rfl) ?_
    refine lv_iconst (v := -1) hx hb dX12_isRefused_16 (by decide) ?_
    refine lv_icmp_eq (tgt := 24) hx hb dX12_isRefused_17 (by decide) (fun z => ?_) (fun z => ?_)
    · have h := sg_ift h z
      refine lv_iconst (v := 0) hx hb dX12_isRefused_24 (by decide) ?_
      obtain rfl := Option.some.inj h
      exact hk _ _ _ _ _ I ⟨_, rfl, rfl⟩ dX12_isRefused_25
    · have h := sg_iff h z
      refine lv_iconst (v := 1) hx hb dX12_isRefused_20 (by decide) ?_
      refine lv_goto (tgt := 25) hx hb dX12_isRefused_21 (by decide) ?_
      obtain rfl := Option.some.inj h
      exact hk _ _ _ _ _ I ⟨_, rfl, rfl⟩ dX12_isRefused_25
  · have h := sg_iff h z
    refine lv_aload_n hx hb dX12_isRefused_5 rfl (lv_at hl 0 rfl) ?_
    refine sg_getr X I fk_X12_73 (j := 22) (by decide) shM_0 rfl dX12_isRefused_6 ?_
    refine lv_iload_n hx hb dX12_isRefused_9 rfl (lv_at hl 1 rfl) ?_
    refine lv_dup2_11 hx hb dX12_isRefused_10 rfl rfl ?_
    refine sg_iald X I (by decide) shM_22 h dX12_isRefused_11 (fun v1 h => ?_)
    refine lv_iconst (v := 1) hx hb dX12_isRefused_12 (by decide) ?_
    refine lv_iadd hx hb dX12_isRefused_13 ?_
    refine sg_iast X I (by decide) shM_22 h dX12_isRefused_14 (fun s2 H locs h I => ?_)
    refine lv_iload_n hx hb dX12_isRefused_15 rfl (lv_at hl 1 rfl) ?_
    refine lv_iconst (v := -1) hx hb dX12_isRefused_16 (by decide) ?_
    refine lv_icmp_eq (tgt := 24) hx hb dX12_isRefused_17 (by decide) (fun z => ?_) (fun z => ?_)
    · have h := sg_ift h z
      refine lv_iconst (v := 0) hx hb dX12_isRefused_24 (by decide) ?_
      obtain rfl := Option.some.inj h
      exact hk _ _ _ _ _ I ⟨_, rfl, rfl⟩ dX12_isRefused_25
    · have h := sg_iff h z
      refine lv_iconst (v := 1) hx hb dX12_isRefused_20 (by decide) ?_
      refine lv_goto (tgt := 25) hx hb dX12_isRefused_21 (by decide) ?_
      obtain rfl := Option.some.inj h
      exact hk _ _ _ _ _ I ⟨_, rfl, rfl⟩ dX12_isRefused_25
set_option maxHeartbeats 4000000 in
set_option maxRecDepth 100000 in
theorem c_X12_isRefused {l : Launch} {P : sgP} {N : Nat} {p1 : Int32} {σ : sgS} {q : Int32 × sgS} (h : f_X12_isRefused N p1 σ = some q) : sg_Mi P shM 35 l yX12_isRefused cX12_isRefused 2 (some .boolean) 1 [.ref (sgA P 0), .int p1] σ q := by
  refine sg_mki (plainFor_of_name (by decide +kernel)) (Nat.le_of_ble_eq_true rfl) ?_
  intro p e R s m args below meth c Q A ls H locs X I hl hk
  exact b_X12_isRefused X I hl h hk
def f_X12_areDays (N : Nat) (p1 : Int32) (σ : sgS) : Option (Int32) :=
  sg_cr (f_X12_in N p1 1 60 σ) fun v1 =>
if v1 = 0 then
  (some (vp_nar .boolean 0))
else
  (sg_ld σ 21 215 33 fun v2 =>
  if 999 < (v2 + p1) then
    (some (vp_nar .boolean 0))
  else
    (some (vp_nar .boolean 1)))
set_option maxHeartbeats 4000000 in
set_option maxRecDepth 100000 in
theorem b_X12_areDays {p : Program} {l : Launch} {e : Env} {R : Room} {s : State} {m : MethodId} {args : Array Value} {below : List Frame} {meth : Method} {c : Code} {Q : State → Prop} {P : sgP} {A : Nat → Prop} {N : Nat} {p1 : Int32} {σ : sgS} (X : sg_C P A 2 p R s m args c cX12_areDays 2 RX12) {H : Heap} {locs : List Loc} (I : sg_I P shM 35 A s.heap σ H locs) {ls : Array Slot} (hl : lv_has ls 2 [(0, .ref (sgA P 0)), (1, .int p1)]) {st : Int32} (h : f_X12_areDays N p1 σ = some st) (hk : sg_Ri p l e R s m args below meth c Q P shM 35 A cX12_areDays (some .boolean) (st, σ)) : W p l e R s m args below meth c H locs 0 0 Q (F0 m 0 ls []) := by
  unfold f_X12_areDays at h
  have hx := X.1.1
  have hb := X.1.2.1
  have hown := X.1.2.2.2.1
  have hts := X.1.2.2.2.2
  refine lv_iload_n hx hb dX12_areDays_0 rfl (lv_at hl 1 rfl) ?_
  refine lv_iconst (v := 1) hx hb dX12_areDays_1 (by decide) ?_
  refine lv_bipush (v := 60) hx hb dX12_areDays_2 (by decide) ?_
  refine sg_callSr (As := [.int p1, .int 1, .int 60]) X I mk_X12_235 (by decide) (fun q9 e9 => c_X12_in e9) h hl.1 rfl rfl (Nat.le_of_ble_eq_true rfl) dX12_areDays_4 (fun v1 H locs h I => ?_)
  refine lv_if_eq (tgt := 29) hx hb dX12_areDays_7 (by decide) (fun z => ?_) (fun z => ?_)
  · have h := sg_ift h z
    refine lv_iconst (v := 0) hx hb dX12_areDays_29 (by decide) ?_
    obtain rfl := Option.some.inj h
    exact hk _ _ _ _ _ I ⟨_, rfl, rfl⟩ dX12_areDays_30
  · have h := sg_iff h z
    refine lv_aload_n hx hb dX12_areDays_10 rfl (lv_at hl 0 rfl) ?_
    refine sg_getr X I fk_X12_70 (j := 21) (by decide) shM_0 rfl dX12_areDays_11 ?_
    refine lv_bipush (v := 33) hx hb dX12_areDays_14 (by decide) ?_
    refine sg_iald X I (by decide) shM_21 h dX12_areDays_16 (fun v2 h => ?_)
    refine lv_iload_n hx hb dX12_areDays_17 rfl (lv_at hl 1 rfl) ?_
    refine lv_iadd hx hb dX12_areDays_18 ?_
    refine lv_sipush (v := 999) hx hb dX12_areDays_19 (by decide) ?_
    refine lv_icmp_gt (tgt := 29) hx hb dX12_areDays_22 (by decide) (fun z => ?_) (fun z => ?_)
    · have h := sg_ift h z
      refine lv_iconst (v := 0) hx hb dX12_areDays_29 (by decide) ?_
      obtain rfl := Option.some.inj h
      exact hk _ _ _ _ _ I ⟨_, rfl, rfl⟩ dX12_areDays_30
    · have h := sg_iff h z
      refine lv_iconst (v := 1) hx hb dX12_areDays_25 (by decide) ?_
      refine lv_goto (tgt := 30) hx hb dX12_areDays_26 (by decide) ?_
      obtain rfl := Option.some.inj h
      exact hk _ _ _ _ _ I ⟨_, rfl, rfl⟩ dX12_areDays_30
set_option maxHeartbeats 4000000 in
set_option maxRecDepth 100000 in
theorem c_X12_areDays {l : Launch} {P : sgP} {N : Nat} {p1 : Int32} {σ : sgS} {q : Int32} (h : f_X12_areDays N p1 σ = some q) : sg_Mi P shM 35 l yX12_areDays cX12_areDays 2 (some .boolean) 2 [.ref (sgA P 0), .int p1] σ (q, σ) := by
  refine sg_mki (plainFor_of_name (by decide +kernel)) (Nat.le_of_ble_eq_true rfl) ?_
  intro p e R s m args below meth c Q A ls H locs X I hl hk
  exact b_X12_areDays X I hl h hk
def f_X12_days_L49 (N : Nat) (p1 : Int32) (x2 : Int32) (σ : sgS) : Option ((Int32 × sgS) ⊕ ((sgS × Int32) ⊕ (sgS))) :=
  if p1 ≤ x2 then
  (some (.inr (.inr σ)))
else
  (sg_cl (f_X12_keep N σ) fun v5 s6 =>
  sg_cl (f_X12_passDay N s6) fun v7 s8 =>
  some (.inr (.inl (s8, x2 + 1))))
set_option maxHeartbeats 4000000 in
set_option maxRecDepth 100000 in
theorem b_X12_days_L49 {p : Program} {l : Launch} {e : Env} {R : Room} {s : State} {m : MethodId} {args : Array Value} {below : List Frame} {meth : Method} {c : Code} {Q : State → Prop} {P : sgP} {A : Nat → Prop} {N : Nat} {p1 : Int32} {x2 : Int32} {σ : sgS} (X : sg_C P A 10 p R s m args c cX12_days 3 RX12) {H : Heap} {locs : List Loc} (I : sg_I P shM 35 A s.heap σ H locs) {ls : Array Slot} (hl : lv_has ls 3 [(0, .ref (sgA P 0)), (1, .int p1), (2, .int x2)]) {st : (Int32 × sgS) ⊕ ((sgS × Int32) ⊕ (sgS))} (h : f_X12_days_L49 N p1 x2 σ = some st) (hk : sg_k3 (sg_Ri p l e R s m args below meth c Q P shM 35 A cX12_days (some .int)) (fun x => sg_Wt p l e R s m args below meth c Q P shM 35 A 3 49 x.1 [(0, .ref (sgA P 0)), (1, .int p1), (2, .int x.2)]) (fun y => sg_Wt p l e R s m args below meth c Q P shM 35 A 3 68 y [(0, .ref (sgA P 0))]) st) : W p l e R s m args below meth c H locs 0 0 Q (F0 m 49 ls []) := by
  unfold f_X12_days_L49 at h
  have hx := X.1.1
  have hb := X.1.2.1
  have hown := X.1.2.2.2.1
  have hts := X.1.2.2.2.2
  refine lv_iload_n hx hb dX12_days_49 rfl (lv_at hl 2 rfl) ?_
  refine lv_iload_n hx hb dX12_days_50 rfl (lv_at hl 1 rfl) ?_
  refine lv_icmp_ge (tgt := 68) hx hb dX12_days_51 (by decide) (fun z => ?_) (fun z => ?_)
  · have h := sg_ift h z
    obtain rfl := Option.some.inj h
    exact sg_go hk I (lv_sub hl [0] rfl)
  · have h := sg_iff h z
    refine lv_aload_n hx hb dX12_days_54 rfl (lv_at hl 0 rfl) ?_
    refine sg_callVv (As := []) X I mk_X12_385 (by decide) (by decide) shM_0 rfl (fun q9 e9 => c_X12_keep e9) h hl.1 rfl rfl (Nat.le_of_ble_eq_true rfl) dX12_days_55 (fun v5 s6 H locs h I => ?_)
    refine lv_aload_n hx hb dX12_days_58 rfl (lv_at hl 0 rfl) ?_
    refine sg_callVv (As := []) X I mk_X12_388 (by decide) (by decide) shM_0 rfl (fun q9 e9 => c_X12_passDay e9) h hl.1 rfl rfl (Nat.le_of_ble_eq_true rfl) dX12_days_59 (fun v7 s8 H locs h I => ?_)
    refine lv_iinc (v := x2 + 1) (lv' := [(2, .int (x2 + 1)), (0, .ref (sgA P 0)), (1, .int p1)]) hx hb dX12_days_62 hl (k := 2) rfl rfl (by decide) rfl (fun ls hl => ?_)
    refine lv_goto (tgt := 49) hx hb dX12_days_65 (by decide) ?_
    obtain rfl := Option.some.inj h
    exact sg_go hk I (lv_sub hl [1, 2, 0] rfl)
def f_X12_days_B39 (N : Nat) (p1 : Int32) (k1 : Int32) (σ : sgS) : Option (Int32 × sgS) :=
  sg_cl (f_X12_isRefused N k1 σ) fun v3 s4 =>
if v3 = 0 then
  (sg_lb (sg_lp (fun x => f_X12_days_L49 N p1 x.2 x.1) N ((s4, 0))) (fun r => some r) fun y9 =>
  sg_ld y9 21 215 33 fun v10 =>
  some (v10, y9))
else
  (some ((-1), s4))
set_option maxHeartbeats 4000000 in
set_option maxRecDepth 100000 in
theorem b_X12_days_B39 {p : Program} {l : Launch} {e : Env} {R : Room} {s : State} {m : MethodId} {args : Array Value} {below : List Frame} {meth : Method} {c : Code} {Q : State → Prop} {P : sgP} {A : Nat → Prop} {N : Nat} {p1 : Int32} {k1 : Int32} {σ : sgS} (X : sg_C P A 10 p R s m args c cX12_days 3 RX12) {H : Heap} {locs : List Loc} (I : sg_I P shM 35 A s.heap σ H locs) {ls : Array Slot} (hl : lv_has ls 3 [(0, .ref (sgA P 0)), (1, .int p1)]) {st : Int32 × sgS} (h : f_X12_days_B39 N p1 k1 σ = some st) (hk : sg_Ri p l e R s m args below meth c Q P shM 35 A cX12_days (some .int) st) : W p l e R s m args below meth c H locs 0 0 Q (F0 m 39 ls [.int k1, .ref (sgA P 0)]) := by
  unfold f_X12_days_B39 at h
  have hx := X.1.1
  have hb := X.1.2.1
  have hown := X.1.2.2.2.1
  have hts := X.1.2.2.2.2
  refine sg_callV (As := [.int k1]) X I mk_X12_382 (by decide) (by decide) shM_0 rfl (fun q9 e9 => c_X12_isRefused e9) h hl.1 rfl rfl (Nat.le_of_ble_eq_true rfl) dX12_days_39 (fun v3 s4 H locs h I => ?_)
  refine lv_if_eq (tgt := 47) hx hb dX12_days_42 (by decide) (fun z => ?_) (fun z => ?_)
  · have h := sg_ift h z
    refine lv_iconst (v := 0) hx hb dX12_days_47 (by decide) ?_
    refine lv_istore_n (lv' := [(2, .int 0), (0, .ref (sgA P 0)), (1, .int p1)]) hx hb dX12_days_48 rfl hl (by decide) rfl (fun ls hl => ?_)
    obtain ⟨res, e9, k9⟩ := sg_lb_some h
    refine sg_go (sg_lp_W (a := (sg_Ri p l e R s m args below meth c Q P shM 35 A cX12_days (some .int))) (w := (fun x => sg_Wt p l e R s m args below meth c Q P shM 35 A 3 49 x.1 [(0, .ref (sgA P 0)), (1, .int p1), (2, .int x.2)])) (c := (fun y => sg_Wt p l e R s m args below meth c Q P shM 35 A 3 68 y [(0, .ref (sgA P 0))])) (fun x st hb9 hk9 => ?_) N ((s4, 0)) res e9 (sg_k2_mono k9 (fun r h => ?_) (fun y9 h => ?_))) I (lv_sub hl [1, 2, 0] rfl)
    · intro H locs ls I hl
      exact b_X12_days_L49 X I hl hb9 hk9
    · obtain rfl := Option.some.inj h
      exact hk
    · intro H locs ls I hl
      refine lv_aload_n hx hb dX12_days_68 rfl (lv_at hl 0 rfl) ?_
      refine sg_getr X I fk_X12_70 (j := 21) (by decide) shM_0 rfl dX12_days_69 ?_
      refine lv_bipush (v := 33) hx hb dX12_days_72 (by decide) ?_
      refine sg_iald X I (by decide) shM_21 h dX12_days_74 (fun v10 h => ?_)
      obtain rfl := Option.some.inj h
      exact hk _ _ _ _ _ I ⟨_, rfl, rfl⟩ dX12_days_75
  · have h := sg_iff h z
    refine lv_iconst (v := -1) hx hb dX12_days_45 (by decide) ?_
    obtain rfl := Option.some.inj h
    exact hk _ _ _ _ _ I ⟨_, rfl, rfl⟩ dX12_days_46
def f_X12_days (N : Nat) (p1 : Int32) (σ : sgS) : Option (Int32 × sgS) :=
  if (σ.1 0 28) = 0 then
  (f_X12_days_B39 N p1 0 σ)
else
  (sg_cr (f_X12_in N p1 1 60 σ) fun v1 =>
  if v1 = 0 then
    (f_X12_days_B39 N p1 1 σ)
  else
    (sg_cr (f_X12_areDays N p1 σ) fun v2 =>
    if v2 = 0 then
      (f_X12_days_B39 N p1 4 σ)
    else
      (f_X12_days_B39 N p1 ((-1)) σ)))
set_option maxHeartbeats 4000000 in
set_option maxRecDepth 100000 in
theorem b_X12_days {p : Program} {l : Launch} {e : Env} {R : Room} {s : State} {m : MethodId} {args : Array Value} {below : List Frame} {meth : Method} {c : Code} {Q : State → Prop} {P : sgP} {A : Nat → Prop} {N : Nat} {p1 : Int32} {σ : sgS} (X : sg_C P A 10 p R s m args c cX12_days 3 RX12) {H : Heap} {locs : List Loc} (I : sg_I P shM 35 A s.heap σ H locs) {ls : Array Slot} (hl : lv_has ls 3 [(0, .ref (sgA P 0)), (1, .int p1)]) {st : Int32 × sgS} (h : f_X12_days N p1 σ = some st) (hk : sg_Ri p l e R s m args below meth c Q P shM 35 A cX12_days (some .int) st) : W p l e R s m args below meth c H locs 0 0 Q (F0 m 0 ls []) := by
  unfold f_X12_days at h
  have hx := X.1.1
  have hb := X.1.2.1
  have hown := X.1.2.2.2.1
  have hts := X.1.2.2.2.2
  refine lv_aload_n hx hb dX12_days_0 rfl (lv_at hl 0 rfl) ?_
  refine lv_aload_n hx hb dX12_days_1 rfl (lv_at hl 0 rfl) ?_
  refine sg_geti X I fk_X12_288 (by decide) shM_0 rfl dX12_days_2 ?_
  refine lv_if_ne (tgt := 12) hx hb dX12_days_5 (by decide) (fun z => ?_) (fun z => ?_)
  · have h := sg_iff h z
    refine lv_iload_n hx hb dX12_days_12 rfl (lv_at hl 1 rfl) ?_
    refine lv_iconst (v := 1) hx hb dX12_days_13 (by decide) ?_
    refine lv_bipush (v := 60) hx hb dX12_days_14 (by decide) ?_
    refine sg_callSr (As := [.int p1, .int 1, .int 60]) X I mk_X12_235 (by decide) (fun q9 e9 => c_X12_in e9) h hl.1 rfl rfl (Nat.le_of_ble_eq_true rfl) dX12_days_16 (fun v1 H locs h I => ?_)
    refine lv_if_ne (tgt := 26) hx hb dX12_days_19 (by decide) (fun z => ?_) (fun z => ?_)
    · have h := sg_iff h z
      refine lv_aload_n hx hb dX12_days_26 rfl (lv_at hl 0 rfl) ?_
      refine lv_iload_n hx hb dX12_days_27 rfl (lv_at hl 1 rfl) ?_
      refine sg_callVr (As := [.int p1]) X I mk_X12_379 (by decide) (by decide) shM_0 rfl (fun q9 e9 => c_X12_areDays e9) h hl.1 rfl rfl (Nat.le_of_ble_eq_true rfl) dX12_days_28 (fun v2 H locs h I => ?_)
      refine lv_if_ne (tgt := 38) hx hb dX12_days_31 (by decide) (fun z => ?_) (fun z => ?_)
      · have h := sg_iff h z
        refine lv_iconst (v := -1) hx hb dX12_days_38 (by decide) ?_
        exact b_X12_days_B39 X I (lv_sub hl [0, 1] rfl) h hk
      · have h := sg_ift h z
        refine lv_iconst (v := 4) hx hb dX12_days_34 (by decide) ?_
        refine lv_goto (tgt := 39) hx hb dX12_days_35 (by decide) ?_
        exact b_X12_days_B39 X I (lv_sub hl [0, 1] rfl) h hk
    · have h := sg_ift h z
      refine lv_iconst (v := 1) hx hb dX12_days_22 (by decide) ?_
      refine lv_goto (tgt := 39) hx hb dX12_days_23 (by decide) ?_
      exact b_X12_days_B39 X I (lv_sub hl [0, 1] rfl) h hk
  · have h := sg_ift h z
    refine lv_iconst (v := 0) hx hb dX12_days_8 (by decide) ?_
    refine lv_goto (tgt := 39) hx hb dX12_days_9 (by decide) ?_
    exact b_X12_days_B39 X I (lv_sub hl [0, 1] rfl) h hk
set_option maxHeartbeats 4000000 in
set_option maxRecDepth 100000 in
theorem c_X12_days {l : Launch} {P : sgP} {N : Nat} {p1 : Int32} {σ : sgS} {q : Int32 × sgS} (h : f_X12_days N p1 σ = some q) : sg_Mi P shM 35 l yX12_days cX12_days 3 (some .int) 10 [.ref (sgA P 0), .int p1] σ q := by
  refine sg_mki (plainFor_of_name (by decide +kernel)) (Nat.le_of_ble_eq_true rfl) ?_
  intro p e R s m args below meth c Q A ls H locs X I hl hk
  exact b_X12_days X I hl h hk
def f_X12_putNow (N : Nat) (p1 : Int32) (p2 : Int32) (σ : sgS) : Option (Int32 × sgS) :=
  sg_st σ 21 215 (4 + p1) p2 fun s1 =>
sg_st s1 21 215 (8 + p1) 1 fun s2 =>
some (0, s2)
set_option maxHeartbeats 4000000 in
set_option maxRecDepth 100000 in
theorem b_X12_putNow {p : Program} {l : Launch} {e : Env} {R : Room} {s : State} {m : MethodId} {args : Array Value} {below : List Frame} {meth : Method} {c : Code} {Q : State → Prop} {P : sgP} {A : Nat → Prop} {N : Nat} {p1 : Int32} {p2 : Int32} {σ : sgS} (X : sg_C P A 1 p R s m args c cX12_putNow 3 RX12) {H : Heap} {locs : List Loc} (I : sg_I P shM 35 A s.heap σ H locs) {ls : Array Slot} (hl : lv_has ls 3 [(0, .ref (sgA P 0)), (1, .int p1), (2, .int p2)]) {st : Int32 × sgS} (h : f_X12_putNow N p1 p2 σ = some st) (hk : sg_Rv p l e R s m args below meth c Q P shM 35 A cX12_putNow st) : W p l e R s m args below meth c H locs 0 0 Q (F0 m 0 ls []) := by
  unfold f_X12_putNow at h
  have hx := X.1.1
  have hb := X.1.2.1
  have hown := X.1.2.2.2.1
  have hts := X.1.2.2.2.2
  refine lv_aload_n hx hb dX12_putNow_0 rfl (lv_at hl 0 rfl) ?_
  refine sg_getr X I fk_X12_70 (j := 21) (by decide) shM_0 rfl dX12_putNow_1 ?_
  refine lv_iconst (v := 4) hx hb dX12_putNow_4 (by decide) ?_
  refine lv_iload_n hx hb dX12_putNow_5 rfl (lv_at hl 1 rfl) ?_
  refine lv_iadd hx hb dX12_putNow_6 ?_
  refine lv_iload_n hx hb dX12_putNow_7 rfl (lv_at hl 2 rfl) ?_
  refine sg_iast X I (by decide) shM_21 h dX12_putNow_8 (fun s1 H locs h I => ?_)
  refine lv_aload_n hx hb dX12_putNow_9 rfl (lv_at hl 0 rfl) ?_
  refine sg_getr X I fk_X12_70 (j := 21) (by decide) shM_0 rfl dX12_putNow_10 ?_
  refine lv_bipush (v := 8) hx hb dX12_putNow_13 (by decide) ?_
  refine lv_iload_n hx hb dX12_putNow_15 rfl (lv_at hl 1 rfl) ?_
  refine lv_iadd hx hb dX12_putNow_16 ?_
  refine lv_iconst (v := 1) hx hb dX12_putNow_17 (by decide) ?_
  refine sg_iast X I (by decide) shM_21 h dX12_putNow_18 (fun s2 H locs h I => ?_)
  obtain rfl := Option.some.inj h
  exact hk _ _ _ _ I dX12_putNow_19
set_option maxHeartbeats 4000000 in
set_option maxRecDepth 100000 in
theorem c_X12_putNow {l : Launch} {P : sgP} {N : Nat} {p1 : Int32} {p2 : Int32} {σ : sgS} {q : Int32 × sgS} (h : f_X12_putNow N p1 p2 σ = some q) : sg_Mv P shM 35 l yX12_putNow cX12_putNow 3 none 1 [.ref (sgA P 0), .int p1, .int p2] σ q := by
  refine sg_mkv (plainFor_of_name (by decide +kernel)) (Nat.le_of_ble_eq_true rfl) ?_
  intro p e R s m args below meth c Q A ls H locs X I hl hk
  exact b_X12_putNow X I hl h hk
def f_X12_beginsAt (N : Nat) (p1 : Int32) (p2 : Int32) (σ : sgS) : Option (Int32) :=
  sg_ld σ 19 60 (12 * p1) fun v1 =>
if v1 = p2 then
  (some (vp_nar .boolean 1))
else
  (some (vp_nar .boolean 0))
set_option maxHeartbeats 4000000 in
set_option maxRecDepth 100000 in
theorem b_X12_beginsAt {p : Program} {l : Launch} {e : Env} {R : Room} {s : State} {m : MethodId} {args : Array Value} {below : List Frame} {meth : Method} {c : Code} {Q : State → Prop} {P : sgP} {A : Nat → Prop} {N : Nat} {p1 : Int32} {p2 : Int32} {σ : sgS} (X : sg_C P A 1 p R s m args c cX12_beginsAt 3 RX12) {H : Heap} {locs : List Loc} (I : sg_I P shM 35 A s.heap σ H locs) {ls : Array Slot} (hl : lv_has ls 3 [(0, .ref (sgA P 0)), (1, .int p1), (2, .int p2)]) {st : Int32} (h : f_X12_beginsAt N p1 p2 σ = some st) (hk : sg_Ri p l e R s m args below meth c Q P shM 35 A cX12_beginsAt (some .boolean) (st, σ)) : W p l e R s m args below meth c H locs 0 0 Q (F0 m 0 ls []) := by
  unfold f_X12_beginsAt at h
  have hx := X.1.1
  have hb := X.1.2.1
  have hown := X.1.2.2.2.1
  have hts := X.1.2.2.2.2
  refine lv_aload_n hx hb dX12_beginsAt_0 rfl (lv_at hl 0 rfl) ?_
  refine sg_getr X I fk_X12_64 (j := 19) (by decide) shM_0 rfl dX12_beginsAt_1 ?_
  refine lv_bipush (v := 12) hx hb dX12_beginsAt_4 (by decide) ?_
  refine lv_iload_n hx hb dX12_beginsAt_6 rfl (lv_at hl 1 rfl) ?_
  refine lv_imul hx hb dX12_beginsAt_7 ?_
  refine sg_iald X I (by decide) shM_19 h dX12_beginsAt_8 (fun v1 h => ?_)
  refine lv_iload_n hx hb dX12_beginsAt_9 rfl (lv_at hl 2 rfl) ?_
  refine lv_icmp_ne (tgt := 17) hx hb dX12_beginsAt_10 (by decide) (fun z => ?_) (fun z => ?_)
  · have h := sg_iff h z
    refine lv_iconst (v := 0) hx hb dX12_beginsAt_17 (by decide) ?_
    obtain rfl := Option.some.inj h
    exact hk _ _ _ _ _ I ⟨_, rfl, rfl⟩ dX12_beginsAt_18
  · have h := sg_ift h z
    refine lv_iconst (v := 1) hx hb dX12_beginsAt_13 (by decide) ?_
    refine lv_goto (tgt := 18) hx hb dX12_beginsAt_14 (by decide) ?_
    obtain rfl := Option.some.inj h
    exact hk _ _ _ _ _ I ⟨_, rfl, rfl⟩ dX12_beginsAt_18
set_option maxHeartbeats 4000000 in
set_option maxRecDepth 100000 in
theorem c_X12_beginsAt {l : Launch} {P : sgP} {N : Nat} {p1 : Int32} {p2 : Int32} {σ : sgS} {q : Int32} (h : f_X12_beginsAt N p1 p2 σ = some q) : sg_Mi P shM 35 l yX12_beginsAt cX12_beginsAt 3 (some .boolean) 1 [.ref (sgA P 0), .int p1, .int p2] σ (q, σ) := by
  refine sg_mki (plainFor_of_name (by decide +kernel)) (Nat.le_of_ble_eq_true rfl) ?_
  intro p e R s m args below meth c Q A ls H locs X I hl hk
  exact b_X12_beginsAt X I hl h hk
