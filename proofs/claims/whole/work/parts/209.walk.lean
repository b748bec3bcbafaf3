def f_X12_readLaw_L9 (N : Nat) (p1 : Int32) (σ : sgS) : Option ((Int32 × sgS) ⊕ ((sgS) ⊕ (sgS))) :=
  if (σ.1 0 4) = ((-1)) then
  (sg_cl (f_X12_look N σ) fun v5 s6 =>
  if v5 = 59 then
    (sg_pf s6 0 3 ((s6.1 0 3) + 1) fun s7 =>
    sg_cl (f_X12_clause N s7) fun v8 s9 =>
    some (.inr (.inl s9)))
  else
    (some (.inr (.inr s6))))
else
  (some (.inr (.inr σ)))
set_option maxHeartbeats 4000000 in
set_option maxRecDepth 100000 in
theorem b_X12_readLaw_L9 {p : Program} {l : Launch} {e : Env} {R : Room} {s : State} {m : MethodId} {args : Array Value} {below : List Frame} {meth : Method} {c : Code} {Q : State → Prop} {P : sgP} {A : Nat → Prop} {N : Nat} {p1 : Int32} {σ : sgS} (X : sg_C P A 291 p R s m args c cX12_readLaw 2 RX12) {H : Heap} {locs : List Loc} (I : sg_I P shM 35 A s.heap σ H locs) {ls : Array Slot} (hl : lv_has ls 2 [(0, .ref (sgA P 0))]) {st : (Int32 × sgS) ⊕ ((sgS) ⊕ (sgS))} (h : f_X12_readLaw_L9 N p1 σ = some st) (hk : sg_k3 (sg_Ri p l e R s m args below meth c Q P shM 35 A cX12_readLaw (some .int)) (fun x => sg_Wt p l e R s m args below meth c Q P shM 35 A 2 9 x [(0, .ref (sgA P 0))]) (fun y => sg_Wt p l e R s m args below meth c Q P shM 35 A 2 43 y [(0, .ref (sgA P 0))]) st) : W p l e R s m args below meth c H locs 0 0 Q (F0 m 9 ls []) := by
  unfold f_X12_readLaw_L9 at h
  have hx := X.1.1
  have hb := X.1.2.1
  have hown := X.1.2.2.2.1
  have hts := X.1.2.2.2.2
  refine lv_aload_n hx hb dX12_readLaw_9 rfl (lv_at hl 0 rfl) ?_
  refine sg_geti X I fk_X12_137 (by decide) shM_0 rfl dX12_readLaw_10 ?_
  refine lv_iconst (v := -1) hx hb dX12_readLaw_13 (by decide) ?_
  refine lv_icmp_ne (tgt := 43) hx hb dX12_readLaw_14 (by decide) (fun z => ?_) (fun z => ?_)
  · have h := sg_iff h z
    obtain rfl := Option.some.inj h
    exact sg_go hk I (lv_sub hl [0] rfl)
  · have h := sg_ift h z
    refine lv_aload_n hx hb dX12_readLaw_17 rfl (lv_at hl 0 rfl) ?_
    refine sg_callV (As := []) X I mk_X12_149 (by decide) (by decide) shM_0 rfl (fun q9 e9 => c_X12_look e9) h hl.1 rfl rfl (Nat.le_of_ble_eq_true rfl) dX12_readLaw_18 (fun v5 s6 H locs h I => ?_)
    refine lv_bipush (v := 59) hx hb dX12_readLaw_21 (by decide) ?_
    refine lv_icmp_ne (tgt := 43) hx hb dX12_readLaw_23 (by decide) (fun z => ?_) (fun z => ?_)
    · have h := sg_iff h z
      obtain rfl := Option.some.inj h
      exact sg_go hk I (lv_sub hl [0] rfl)
    · have h := sg_ift h z
      refine lv_aload_n hx hb dX12_readLaw_26 rfl (lv_at hl 0 rfl) ?_
      refine lv_dup hx hb dX12_readLaw_27 rfl ?_
      refine sg_geti X I fk_X12_130 (by decide) shM_0 rfl dX12_readLaw_28 ?_
      refine lv_iconst (v := 1) hx hb dX12_readLaw_31 (by decide) ?_
      refine lv_iadd hx hb dX12_readLaw_32 ?_
      refine sg_puti X I fk_X12_130 wk_12_3 rfl rfl (by decide) shM_0 rfl h dX12_readLaw_33 (fun s7 H locs h I => ?_)
      refine lv_aload_n hx hb dX12_readLaw_36 rfl (lv_at hl 0 rfl) ?_
      refine sg_callVv (As := []) X I mk_X12_204 (by decide) (by decide) shM_0 rfl (fun q9 e9 => c_X12_clause e9) h hl.1 rfl rfl (Nat.le_of_ble_eq_true rfl) dX12_readLaw_37 (fun v8 s9 H locs h I => ?_)
      refine lv_goto (tgt := 9) hx hb dX12_readLaw_40 (by decide) ?_
      obtain rfl := Option.some.inj h
      exact sg_go hk I (lv_sub hl [0] rfl)
def f_X12_readLaw (N : Nat) (p1 : Int32) (σ : sgS) : Option (Int32 × sgS) :=
  sg_cl (f_X12_open N p1 σ) fun v1 s2 =>
sg_cl (f_X12_clause N s2) fun v3 s4 =>
sg_lb (sg_lp (fun x => f_X12_readLaw_L9 N p1 x) N s4) (fun r => some r) fun y10 =>
sg_cl (f_X12_atEnd N y10) fun v11 s12 =>
some (v11, s12)
set_option maxHeartbeats 4000000 in
set_option maxRecDepth 100000 in
theorem b_X12_readLaw {p : Program} {l : Launch} {e : Env} {R : Room} {s : State} {m : MethodId} {args : Array Value} {below : List Frame} {meth : Method} {c : Code} {Q : State → Prop} {P : sgP} {A : Nat → Prop} {N : Nat} {p1 : Int32} {σ : sgS} (X : sg_C P A 291 p R s m args c cX12_readLaw 2 RX12) {H : Heap} {locs : List Loc} (I : sg_I P shM 35 A s.heap σ H locs) {ls : Array Slot} (hl : lv_has ls 2 [(0, .ref (sgA P 0)), (1, .int p1)]) {st : Int32 × sgS} (h : f_X12_readLaw N p1 σ = some st) (hk : sg_Ri p l e R s m args below meth c Q P shM 35 A cX12_readLaw (some .int) st) : W p l e R s m args below meth c H locs 0 0 Q (F0 m 0 ls []) := by
  unfold f_X12_readLaw at h
  have hx := X.1.1
  have hb := X.1.2.1
  have hown := X.1.2.2.2.1
  have hts := X.1.2.2.2.2
  refine lv_aload_n hx hb dX12_readLaw_0 rfl (lv_at hl 0 rfl) ?_
  refine lv_iload_n hx hb dX12_readLaw_1 rfl (lv_at hl 1 rfl) ?_
  refine sg_callVv (As := [.int p1]) X I mk_X12_201 (by decide) (by decide) shM_0 rfl (fun q9 e9 => c_X12_open e9) h hl.1 rfl rfl (Nat.le_of_ble_eq_true rfl) dX12_readLaw_2 (fun v1 s2 H locs h I => ?_)
  refine lv_aload_n hx hb dX12_readLaw_5 rfl (lv_at hl 0 rfl) ?_
  refine sg_callVv (As := []) X I mk_X12_204 (by decide) (by decide) shM_0 rfl (fun q9 e9 => c_X12_clause e9) h hl.1 rfl rfl (Nat.le_of_ble_eq_true rfl) dX12_readLaw_6 (fun v3 s4 H locs h I => ?_)
  obtain ⟨res, e9, k9⟩ := sg_lb_some h
  refine sg_go (sg_lp_W (a := (sg_Ri p l e R s m args below meth c Q P shM 35 A cX12_readLaw (some .int))) (w := (fun x => sg_Wt p l e R s m args below meth c Q P shM 35 A 2 9 x [(0, .ref (sgA P 0))])) (c := (fun y => sg_Wt p l e R s m args below meth c Q P shM 35 A 2 43 y [(0, .ref (sgA P 0))])) (fun x st hb9 hk9 => ?_) N s4 res e9 (sg_k2_mono k9 (fun r h => ?_) (fun y10 h => ?_))) I (lv_sub hl [0] rfl)
  · intro H locs ls I hl
    exact b_X12_readLaw_L9 X I hl hb9 hk9
  · obtain rfl := Option.some.inj h
    exact hk
  · intro H locs ls I hl
    refine lv_aload_n hx hb dX12_readLaw_43 rfl (lv_at hl 0 rfl) ?_
    refine sg_callV (As := []) X I mk_X12_207 (by decide) (by decide) shM_0 rfl (fun q9 e9 => c_X12_atEnd e9) h hl.1 rfl rfl (Nat.le_of_ble_eq_true rfl) dX12_readLaw_44 (fun v11 s12 H locs h I => ?_)
    obtain rfl := Option.some.inj h
    exact hk _ _ _ _ _ I ⟨_, rfl, rfl⟩ dX12_readLaw_47
set_option maxHeartbeats 4000000 in
set_option maxRecDepth 100000 in
theorem c_X12_readLaw {l : Launch} {P : sgP} {N : Nat} {p1 : Int32} {σ : sgS} {q : Int32 × sgS} (h : f_X12_readLaw N p1 σ = some q) : sg_Mi P shM 35 l yX12_readLaw cX12_readLaw 2 (some .int) 291 [.ref (sgA P 0), .int p1] σ q := by
  refine sg_mki (plainFor_of_name (by decide +kernel)) (Nat.le_of_ble_eq_true rfl) ?_
  intro p e R s m args below meth c Q A ls H locs X I hl hk
  exact b_X12_readLaw X I hl h hk
def f_X12_bounded (N : Nat) (p0 : Int64) (σ : sgS) : Option (Int32) :=
  some (((if ((if p0 < 1000000 then p0 else 1000000)) < ((-1000000)) then ((-1000000)) else ((if p0 < 1000000 then p0 else 1000000)))).toInt32)
set_option maxHeartbeats 4000000 in
set_option maxRecDepth 100000 in
theorem b_X12_bounded {p : Program} {l : Launch} {e : Env} {R : Room} {s : State} {m : MethodId} {args : Array Value} {below : List Frame} {meth : Method} {c : Code} {Q : State → Prop} {P : sgP} {A : Nat → Prop} {N : Nat} {p0 : Int64} {σ : sgS} (X : sg_C P A 2 p R s m args c cX12_bounded 2 RX12) {H : Heap} {locs : List Loc} (I : sg_I P shM 35 A s.heap σ H locs) {ls : Array Slot} (hl : lv_has ls 2 [(0, .long p0)]) {st : Int32} (h : f_X12_bounded N p0 σ = some st) (hk : sg_Ri p l e R s m args below meth c Q P shM 35 A cX12_bounded (some .int) (st, σ)) : W p l e R s m args below meth c H locs 0 0 Q (F0 m 0 ls []) := by
  unfold f_X12_bounded at h
  have hx := X.1.1
  have hb := X.1.2.1
  have hown := X.1.2.2.2.1
  have hts := X.1.2.2.2.2
  refine lv_ldc2 (v := -1000000) hx hb hown (hts _ qw_775) dX12_bounded_0 ?_
  refine lv_ldc2 (v := 1000000) hx hb hown (hts _ qw_776) dX12_bounded_3 ?_
  refine lv_lload_n hx hb dX12_bounded_6 rfl (lv_at hl 0 rfl) ?_
  refine sg_mminl X hl.1 (by first | decide | omega) qw_777 qw_778 qw_286 qw_779 (Nat.le_of_ble_eq_true rfl) dX12_bounded_7 ?_
  refine sg_mmaxl X hl.1 (by first | decide | omega) qw_780 qw_781 qw_286 qw_782 (Nat.le_of_ble_eq_true rfl) dX12_bounded_10 ?_
  refine lv_l2i (v := ((if ((if p0 < 1000000 then p0 else 1000000)) < ((-1000000)) then ((-1000000)) else ((if p0 < 1000000 then p0 else 1000000)))).toInt32) hx hb dX12_bounded_13 rfl ?_
  obtain rfl := Option.some.inj h
  exact hk _ _ _ _ _ I ⟨_, rfl, rfl⟩ dX12_bounded_14
set_option maxHeartbeats 4000000 in
set_option maxRecDepth 100000 in
theorem c_X12_bounded {l : Launch} {P : sgP} {N : Nat} {p0 : Int64} {σ : sgS} {q : Int32} (h : f_X12_bounded N p0 σ = some q) : sg_Mi P shM 35 l yX12_bounded cX12_bounded 2 (some .int) 2 [.long p0] σ (q, σ) := by
  refine sg_mki (plainFor_of_name (by decide +kernel)) (Nat.le_of_ble_eq_true rfl) ?_
  intro p e R s m args below meth c Q A ls H locs X I hl hk
  exact b_X12_bounded X I hl h hk
def f_X12_worked_B144 (N : Nat) (p0 : Int32) (p1 : Int64) (p3 : Int64) (σ : sgS) : Option (Int32) :=
  if (lg_cmp p1 0) = 0 then
  (if (lg_cmp p3 0) = 0 then
    (some 0)
  else
    (some 1))
else
  (some 1)
set_option maxHeartbeats 4000000 in
set_option maxRecDepth 100000 in
theorem b_X12_worked_B144 {p : Program} {l : Launch} {e : Env} {R : Room} {s : State} {m : MethodId} {args : Array Value} {below : List Frame} {meth : Method} {c : Code} {Q : State → Prop} {P : sgP} {A : Nat → Prop} {N : Nat} {p0 : Int32} {p1 : Int64} {p3 : Int64} {σ : sgS} (X : sg_C P A 3 p R s m args c cX12_worked 5 RX12) {H : Heap} {locs : List Loc} (I : sg_I P shM 35 A s.heap σ H locs) {ls : Array Slot} (hl : lv_has ls 5 [(1, .long p1), (3, .long p3)]) {st : Int32} (h : f_X12_worked_B144 N p0 p1 p3 σ = some st) (hk : sg_Ri p l e R s m args below meth c Q P shM 35 A cX12_worked (some .int) (st, σ)) : W p l e R s m args below meth c H locs 0 0 Q (F0 m 144 ls []) := by
  unfold f_X12_worked_B144 at h
  have hx := X.1.1
  have hb := X.1.2.1
  have hown := X.1.2.2.2.1
  have hts := X.1.2.2.2.2
  refine lv_lload_n hx hb dX12_worked_144 rfl (lv_at hl 0 rfl) ?_
  refine lv_lconst (v := 0) hx hb dX12_worked_145 (by decide) ?_
  refine W.lcmp hx hb dX12_worked_146 ?_
  refine lv_if_ne (tgt := 156) hx hb dX12_worked_147 (by decide) (fun z => ?_) (fun z => ?_)
  · have h := sg_iff h z
    refine lv_iconst (v := 1) hx hb dX12_worked_156 (by decide) ?_
    refine lv_goto (tgt := 161) hx hb dX12_worked_157 (by decide) ?_
    obtain rfl := Option.some.inj h
    exact hk _ _ _ _ _ I ⟨_, rfl, rfl⟩ dX12_worked_161
  · have h := sg_ift h z
    refine lv_lload_n hx hb dX12_worked_150 rfl (lv_at hl 1 rfl) ?_
    refine lv_lconst (v := 0) hx hb dX12_worked_151 (by decide) ?_
    refine W.lcmp hx hb dX12_worked_152 ?_
    refine lv_if_eq (tgt := 160) hx hb dX12_worked_153 (by decide) (fun z => ?_) (fun z => ?_)
    · have h := sg_ift h z
      refine lv_iconst (v := 0) hx hb dX12_worked_160 (by decide) ?_
      obtain rfl := Option.some.inj h
      exact hk _ _ _ _ _ I ⟨_, rfl, rfl⟩ dX12_worked_161
    · have h := sg_iff h z
      refine lv_iconst (v := 1) hx hb dX12_worked_156 (by decide) ?_
      refine lv_goto (tgt := 161) hx hb dX12_worked_157 (by decide) ?_
      obtain rfl := Option.some.inj h
      exact hk _ _ _ _ _ I ⟨_, rfl, rfl⟩ dX12_worked_161
def f_X12_worked (N : Nat) (p0 : Int32) (p1 : Int64) (p3 : Int64) (σ : sgS) : Option (Int32) :=
  if p0 = 2 then
  (sg_cr (f_X12_bounded N (p1 + p3) σ) fun v1 =>
  some v1)
else
  (if p0 = 3 then
    (sg_cr (f_X12_bounded N (p1 - p3) σ) fun v2 =>
    some v2)
  else
    (if p0 = 4 then
      (sg_cr (f_X12_bounded N (p1 * p3) σ) fun v3 =>
      some v3)
    else
      (if p0 = 5 then
        (if (lg_cmp p3 0) = 0 then
          (some 0)
        else
          (sg_nzl p3 (
            sg_cr (f_X12_bounded N (p1 / p3) σ) fun v4 =>
            some v4)))
      else
        (if p0 = 6 then
          (if (lg_cmp p1 p3) = 0 then
            (some 1)
          else
            (some 0))
        else
          (if p0 = 7 then
            (if 0 ≤ (lg_cmp p1 p3) then
              (some 0)
            else
              (some 1))
          else
            (if p0 = 8 then
              (if (lg_cmp p1 p3) ≤ 0 then
                (some 0)
              else
                (some 1))
            else
              (if p0 = 9 then
                (f_X12_worked_B144 N p0 p1 p3 σ)
              else
                (if p0 = 10 then
                  (if (lg_cmp p1 0) = 0 then
                    (some 0)
                  else
                    (if (lg_cmp p3 0) = 0 then
                      (some 0)
                    else
                      (some 1)))
                else
                  (f_X12_worked_B144 N p0 p1 p3 σ)))))))))
set_option maxHeartbeats 4000000 in
set_option maxRecDepth 100000 in
theorem b_X12_worked {p : Program} {l : Launch} {e : Env} {R : Room} {s : State} {m : MethodId} {args : Array Value} {below : List Frame} {meth : Method} {c : Code} {Q : State → Prop} {P : sgP} {A : Nat → Prop} {N : Nat} {p0 : Int32} {p1 : Int64} {p3 : Int64} {σ : sgS} (X : sg_C P A 3 p R s m args c cX12_worked 5 RX12) {H : Heap} {locs : List Loc} (I : sg_I P shM 35 A s.heap σ H locs) {ls : Array Slot} (hl : lv_has ls 5 [(0, .int p0), (1, .long p1), (3, .long p3)]) {st : Int32} (h : f_X12_worked N p0 p1 p3 σ = some st) (hk : sg_Ri p l e R s m args below meth c Q P shM 35 A cX12_worked (some .int) (st, σ)) : W p l e R s m args below meth c H locs 0 0 Q (F0 m 0 ls []) := by
  unfold f_X12_worked at h
  have hx := X.1.1
  have hb := X.1.2.1
  have hown := X.1.2.2.2.1
  have hts := X.1.2.2.2.2
  refine lv_iload_n hx hb dX12_worked_0 rfl (lv_at hl 0 rfl) ?_
  by_cases c0 : p0 = 2
  · have h := sg_ift h c0
    refine sg_swIn (k := 2) (off := 51) (tgt := 52) hx hb dX12_worked_1 c0 (by decide) (by decide) (by decide +kernel) (by decide) ?_
    refine lv_lload_n hx hb dX12_worked_52 rfl (lv_at hl 1 rfl) ?_
    refine lv_lload_n hx hb dX12_worked_53 rfl (lv_at hl 2 rfl) ?_
    refine lv_ladd hx hb dX12_worked_54 ?_
    refine sg_callSr (As := [.long (p1 + p3)]) X I mk_X12_223 (by decide) (fun q9 e9 => c_X12_bounded e9) h hl.1 rfl rfl (Nat.le_of_ble_eq_true rfl) dX12_worked_55 (fun v1 H locs h I => ?_)
    obtain rfl := Option.some.inj h
    exact hk _ _ _ _ _ I ⟨_, rfl, rfl⟩ dX12_worked_58
  have h := sg_iff h c0
  have i0 := sg_ine (z := 2) (by decide) c0
  by_cases c1 : p0 = 3
  · have h := sg_ift h c1
    refine sg_swIn (k := 3) (off := 58) (tgt := 59) hx hb dX12_worked_1 c1 (by decide) (by decide) (by decide +kernel) (by decide) ?_
    refine lv_lload_n hx hb dX12_worked_59 rfl (lv_at hl 1 rfl) ?_
    refine lv_lload_n hx hb dX12_worked_60 rfl (lv_at hl 2 rfl) ?_
    refine lv_lsub hx hb dX12_worked_61 ?_
    refine sg_callSr (As := [.long (p1 - p3)]) X I mk_X12_223 (by decide) (fun q9 e9 => c_X12_bounded e9) h hl.1 rfl rfl (Nat.le_of_ble_eq_true rfl) dX12_worked_62 (fun v2 H locs h I => ?_)
    obtain rfl := Option.some.inj h
    exact hk _ _ _ _ _ I ⟨_, rfl, rfl⟩ dX12_worked_65
  have h := sg_iff h c1
  have i1 := sg_ine (z := 3) (by decide) c1
  by_cases c2 : p0 = 4
  · have h := sg_ift h c2
    refine sg_swIn (k := 4) (off := 65) (tgt := 66) hx hb dX12_worked_1 c2 (by decide) (by decide) (by decide +kernel) (by decide) ?_
    refine lv_lload_n hx hb dX12_worked_66 rfl (lv_at hl 1 rfl) ?_
    refine lv_lload_n hx hb dX12_worked_67 rfl (lv_at hl 2 rfl) ?_
    refine lv_lmul hx hb dX12_worked_68 ?_
    refine sg_callSr (As := [.long (p1 * p3)]) X I mk_X12_223 (by decide) (fun q9 e9 => c_X12_bounded e9) h hl.1 rfl rfl (Nat.le_of_ble_eq_true rfl) dX12_worked_69 (fun v3 H locs h I => ?_)
    obtain rfl := Option.some.inj h
    exact hk _ _ _ _ _ I ⟨_, rfl, rfl⟩ dX12_worked_72
  have h := sg_iff h c2
  have i2 := sg_ine (z := 4) (by decide) c2
  by_cases c3 : p0 = 5
  · have h := sg_ift h c3
    refine sg_swIn (k := 5) (off := 72) (tgt := 73) hx hb dX12_worked_1 c3 (by decide) (by decide) (by decide +kernel) (by decide) ?_
    refine lv_lload_n hx hb dX12_worked_73 rfl (lv_at hl 2 rfl) ?_
    refine lv_lconst (v := 0) hx hb dX12_worked_74 (by decide) ?_
    refine W.lcmp hx hb dX12_worked_75 ?_
    refine lv_if_ne (tgt := 83) hx hb dX12_worked_76 (by decide) (fun z => ?_) (fun z => ?_)
    · have h := sg_iff h z
      refine lv_lload_n hx hb dX12_worked_83 rfl (lv_at hl 1 rfl) ?_
      refine lv_lload_n hx hb dX12_worked_84 rfl (lv_at hl 2 rfl) ?_
      refine sg_nzlW (h := h) (fun z h => ?_)
      refine lv_ldiv hx hb dX12_worked_85 z ?_
      refine sg_callSr (As := [.long (p1 / p3)]) X I mk_X12_223 (by decide) (fun q9 e9 => c_X12_bounded e9) h hl.1 rfl rfl (Nat.le_of_ble_eq_true rfl) dX12_worked_86 (fun v4 H locs h I => ?_)
      obtain rfl := Option.some.inj h
      exact hk _ _ _ _ _ I ⟨_, rfl, rfl⟩ dX12_worked_89
    · have h := sg_ift h z
      refine lv_iconst (v := 0) hx hb dX12_worked_79 (by decide) ?_
      refine lv_goto (tgt := 89) hx hb dX12_worked_80 (by decide) ?_
      obtain rfl := Option.some.inj h
      exact hk _ _ _ _ _ I ⟨_, rfl, rfl⟩ dX12_worked_89
  have h := sg_iff h c3
  have i3 := sg_ine (z := 5) (by decide) c3
  by_cases c4 : p0 = 6
  · have h := sg_ift h c4
    refine sg_swIn (k := 6) (off := 89) (tgt := 90) hx hb dX12_worked_1 c4 (by decide) (by decide) (by decide +kernel) (by decide) ?_
    refine lv_lload_n hx hb dX12_worked_90 rfl (lv_at hl 1 rfl) ?_
    refine lv_lload_n hx hb dX12_worked_91 rfl (lv_at hl 2 rfl) ?_
    refine W.lcmp hx hb dX12_worked_92 ?_
    refine lv_if_ne (tgt := 100) hx hb dX12_worked_93 (by decide) (fun z => ?_) (fun z => ?_)
    · have h := sg_iff h z
      refine lv_iconst (v := 0) hx hb dX12_worked_100 (by decide) ?_
      obtain rfl := Option.some.inj h
      exact hk _ _ _ _ _ I ⟨_, rfl, rfl⟩ dX12_worked_101
    · have h := sg_ift h z
      refine lv_iconst (v := 1) hx hb dX12_worked_96 (by decide) ?_
      refine lv_goto (tgt := 101) hx hb dX12_worked_97 (by decide) ?_
      obtain rfl := Option.some.inj h
      exact hk _ _ _ _ _ I ⟨_, rfl, rfl⟩ dX12_worked_101
  have h := sg_iff h c4
  have i4 := sg_ine (z := 6) (by decide) c4
  by_cases c5 : p0 = 7
  · have h := sg_ift h c5
    refine sg_swIn (k := 7) (off := 101) (tgt := 102) hx hb dX12_worked_1 c5 (by decide) (by decide) (by decide +kernel) (by decide) ?_
    refine lv_lload_n hx hb dX12_worked_102 rfl (lv_at hl 1 rfl) ?_
    refine lv_lload_n hx hb dX12_worked_103 rfl (lv_at hl 2 rfl) ?_
    refine W.lcmp hx hb dX12_worked_104 ?_
    refine lv_if_ge (tgt := 112) hx hb dX12_worked_105 (by decide) (fun z => ?_) (fun z => ?_)
    · have h := sg_ift h z
      refine lv_iconst (v := 0) hx hb dX12_worked_112 (by decide) ?_
      obtain rfl := Option.some.inj h
      exact hk _ _ _ _ _ I ⟨_, rfl, rfl⟩ dX12_worked_113
    · have h := sg_iff h z
      refine lv_iconst (v := 1) hx hb dX12_worked_108 (by decide) ?_
      refine lv_goto (tgt := 113) hx hb dX12_worked_109 (by decide) ?_
      obtain rfl := Option.some.inj h
      exact hk _ _ _ _ _ I ⟨_, rfl, rfl⟩ dX12_worked_113
  have h := sg_iff h c5
  have i5 := sg_ine (z := 7) (by decide) c5
  by_cases c6 : p0 = 8
  · have h := sg_ift h c6
    refine sg_swIn (k := 8) (off := 113) (tgt := 114) hx hb dX12_worked_1 c6 (by decide) (by decide) (by decide +kernel) (by decide) ?_
    refine lv_lload_n hx hb dX12_worked_114 rfl (lv_at hl 1 rfl) ?_
    refine lv_lload_n hx hb dX12_worked_115 rfl (lv_at hl 2 rfl) ?_
    refine W.lcmp hx hb dX12_worked_116 ?_
    refine lv_if_le (tgt := 124) hx hb dX12_worked_117 (by decide) (fun z => ?_) (fun z => ?_)
    · have h := sg_ift h z
      refine lv_iconst (v := 0) hx hb dX12_worked_124 (by decide) ?_
      obtain rfl := Option.some.inj h
      exact hk _ _ _ _ _ I ⟨_, rfl, rfl⟩ dX12_worked_125
    · have h := sg_iff h z
      refine lv_iconst (v := 1) hx hb dX12_worked_120 (by decide) ?_
      refine lv_goto (tgt := 125) hx hb dX12_worked_121 (by decide) ?_
      obtain rfl := Option.some.inj h
      exact hk _ _ _ _ _ I ⟨_, rfl, rfl⟩ dX12_worked_125
  have h := sg_iff h c6
  have i6 := sg_ine (z := 8) (by decide) c6
  by_cases c7 : p0 = 9
  · have h := sg_ift h c7
    refine sg_swIn (k := 9) (off := 143) (tgt := 144) hx hb dX12_worked_1 c7 (by decide) (by decide) (by decide +kernel) (by decide) ?_
    exact b_X12_worked_B144 X I (lv_sub hl [1, 2] rfl) h hk
  have h := sg_iff h c7
  have i7 := sg_ine (z := 9) (by decide) c7
  by_cases c8 : p0 = 10
  · have h := sg_ift h c8
    refine sg_swIn (k := 10) (off := 125) (tgt := 126) hx hb dX12_worked_1 c8 (by decide) (by decide) (by decide +kernel) (by decide) ?_
    refine lv_lload_n hx hb dX12_worked_126 rfl (lv_at hl 1 rfl) ?_
    refine lv_lconst (v := 0) hx hb dX12_worked_127 (by decide) ?_
    refine W.lcmp hx hb dX12_worked_128 ?_
    refine lv_if_eq (tgt := 142) hx hb dX12_worked_129 (by decide) (fun z => ?_) (fun z => ?_)
    · have h := sg_ift h z
      refine lv_iconst (v := 0) hx hb dX12_worked_142 (by decide) ?_
      obtain rfl := Option.some.inj h
      exact hk _ _ _ _ _ I ⟨_, rfl, rfl⟩ dX12_worked_143
    · have h := sg_iff h z
      refine lv_lload_n hx hb dX12_worked_132 rfl (lv_at hl 2 rfl) ?_
      refine lv_lconst (v := 0) hx hb dX12_worked_133 (by decide) ?_
      refine W.lcmp hx hb dX12_worked_134 ?_
      refine lv_if_eq (tgt := 142) hx hb dX12_worked_135 (by decide) (fun z => ?_) (fun z => ?_)
      · have h := sg_ift h z
        refine lv_iconst (v := 0) hx hb dX12_worked_142 (by decide) ?_
        obtain rfl := Option.some.inj h
        exact hk _ _ _ _ _ I ⟨_, rfl, rfl⟩ dX12_worked_143
      · have h := sg_iff h z
        refine lv_iconst (v := 1) hx hb dX12_worked_138 (by decide) ?_
        refine lv_goto (tgt := 143) hx hb dX12_worked_139 (by decide) ?_
        obtain rfl := Option.some.inj h
        exact hk _ _ _ _ _ I ⟨_, rfl, rfl⟩ dX12_worked_143
  have h := sg_iff h c8
  have i8 := sg_ine (z := 10) (by decide) c8
  refine lv_tableOut (tgt := 144) hx hb dX12_worked_1 (by omega) (by decide) ?_
  exact b_X12_worked_B144 X I (lv_sub hl [1, 2] rfl) h hk
set_option maxHeartbeats 4000000 in
set_option maxRecDepth 100000 in
theorem c_X12_worked {l : Launch} {P : sgP} {N : Nat} {p0 : Int32} {p1 : Int64} {p3 : Int64} {σ : sgS} {q : Int32} (h : f_X12_worked N p0 p1 p3 σ = some q) : sg_Mi P shM 35 l yX12_worked cX12_worked 5 (some .int) 3 [.int p0, .long p1, .long p3] σ (q, σ) := by
  refine sg_mki (plainFor_of_name (by decide +kernel)) (Nat.le_of_ble_eq_true rfl) ?_
  intro p e R s m args below meth c Q A ls H locs X I hl hk
  exact b_X12_worked X I hl h hk
def f_X12_workOut_L12_B45 (N : Nat) (p1 : Int32) (p2 : Int32) (p3 : Int32) (u4 : Int32) (u5 : Int32) (σ : sgS) : Option ((Int32 × sgS) ⊕ ((sgS × Int32 × Int32) ⊕ (sgS))) :=
  sg_ld σ 2 2600 u5 fun v2 =>
if v2 = 0 then
  (sg_ld σ 3 2600 u5 fun v6 =>
  sg_st σ 10 80 u4 v6 fun s7 =>
  some (.inr (.inl (s7, u4 + 1, u5 + 1))))
else
  (sg_ld σ 3 2600 u5 fun v3 =>
  sg_ld σ 9 6 v3 fun v4 =>
  sg_st σ 10 80 u4 v4 fun s5 =>
  some (.inr (.inl (s5, u4 + 1, u5 + 1))))
set_option maxHeartbeats 4000000 in
set_option maxRecDepth 100000 in
theorem b_X12_workOut_L12_B45 {p : Program} {l : Launch} {e : Env} {R : Room} {s : State} {m : MethodId} {args : Array Value} {below : List Frame} {meth : Method} {c : Code} {Q : State → Prop} {P : sgP} {A : Nat → Prop} {N : Nat} {p1 : Int32} {p2 : Int32} {p3 : Int32} {u4 : Int32} {u5 : Int32} {σ : sgS} (X : sg_C P A 4 p R s m args c cX12_workOut 6 RX12) {H : Heap} {locs : List Loc} (I : sg_I P shM 35 A s.heap σ H locs) {ls : Array Slot} (hl : lv_has ls 6 [(0, .ref (sgA P 0)), (1, .int p1), (3, .int p3), (4, .int u4), (5, .int u5)]) {st : (Int32 × sgS) ⊕ ((sgS × Int32 × Int32) ⊕ (sgS))} (h : f_X12_workOut_L12_B45 N p1 p2 p3 u4 u5 σ = some st) (hk : sg_k3 (sg_Ri p l e R s m args below meth c Q P shM 35 A cX12_workOut (some .int)) (fun x => sg_Wt p l e R s m args below meth c Q P shM 35 A 6 12 x.1 [(0, .ref (sgA P 0)), (1, .int p1), (3, .int p3), (4, .int x.2.1), (5, .int x.2.2)]) (fun y => sg_Wt p l e R s m args below meth c Q P shM 35 A 6 171 y [(0, .ref (sgA P 0))]) st) : W p l e R s m args below meth c H locs 0 0 Q (F0 m 45 ls []) := by
  unfold f_X12_workOut_L12_B45 at h
  have hx := X.1.1
  have hb := X.1.2.1
  have hown := X.1.2.2.2.1
  have hts := X.1.2.2.2.2
  refine lv_aload_n hx hb dX12_workOut_45 rfl (lv_at hl 0 rfl) ?_
  refine sg_getr X I fk_X12_37 (j := 10) (by decide) shM_0 rfl dX12_workOut_46 ?_
  refine lv_iload hx hb dX12_workOut_49 (lv_at hl 3 rfl) ?_
  refine lv_aload_n hx hb dX12_workOut_51 rfl (lv_at hl 0 rfl) ?_
  refine sg_getr X I fk_X12_13 (j := 2) (by decide) shM_0 rfl dX12_workOut_52 ?_
  refine lv_iload hx hb dX12_workOut_55 (lv_at hl 4 rfl) ?_
  refine sg_iald X I (by decide) shM_2 h dX12_workOut_57 (fun v2 h => ?_)
  refine lv_if_ne (tgt := 71) hx hb dX12_workOut_58 (by decide) (fun z => ?_) (fun z => ?_)
  · have h := sg_iff h z
    refine lv_aload_n hx hb dX12_workOut_71 rfl (lv_at hl 0 rfl) ?_
    refine sg_getr X I fk_X12_34 (j := 9) (by decide) shM_0 rfl dX12_workOut_72 ?_
    refine lv_aload_n hx hb dX12_workOut_75 rfl (lv_at hl 0 rfl) ?_
    refine sg_getr X I fk_X12_16 (j := 3) (by decide) shM_0 rfl dX12_workOut_76 ?_
    refine lv_iload hx hb dX12_workOut_79 (lv_at hl 4 rfl) ?_
    refine sg_iald X I (by decide) shM_3 h dX12_workOut_81 (fun v3 h => ?_)
    refine sg_iald X I (by decide) shM_9 h dX12_workOut_82 (fun v4 h => ?_)
    refine sg_iast X I (by decide) shM_10 h dX12_workOut_83 (fun s5 H locs h I => ?_)
    refine lv_iinc (v := u4 + 1) (lv' := [(4, .int (u4 + 1)), (0, .ref (sgA P 0)), (1, .int p1), (3, .int p3), (5, .int u5)]) hx hb dX12_workOut_84 hl (k := 3) rfl rfl (by decide) rfl (fun ls hl => ?_)
    refine lv_goto (tgt := 165) hx hb dX12_workOut_87 (by decide) ?_
    refine lv_iinc (v := u5 + 1) (lv' := [(5, .int (u5 + 1)), (4, .int (u4 + 1)), (0, .ref (sgA P 0)), (1, .int p1), (3, .int p3)]) hx hb dX12_workOut_165 hl (k := 4) rfl rfl (by decide) rfl (fun ls hl => ?_)
    refine lv_goto (tgt := 12) hx hb dX12_workOut_168 (by decide) ?_
    obtain rfl := Option.some.inj h
    exact sg_go hk I (lv_sub hl [2, 3, 4, 1, 0] rfl)
  · have h := sg_ift h z
    refine lv_aload_n hx hb dX12_workOut_61 rfl (lv_at hl 0 rfl) ?_
    refine sg_getr X I fk_X12_16 (j := 3) (by decide) shM_0 rfl dX12_workOut_62 ?_
    refine lv_iload hx hb dX12_workOut_65 (lv_at hl 4 rfl) ?_
    refine sg_iald X I (by decide) shM_3 h dX12_workOut_67 (fun v6 h => ?_)
    refine lv_goto (tgt := 83) hx hb dX12_workOut_68 (by decide) ?_
    refine sg_iast X I (by decide) shM_10 h dX12_workOut_83 (fun s7 H locs h I => ?_)
    refine lv_iinc (v := u4 + 1) (lv' := [(4, .int (u4 + 1)), (0, .ref (sgA P 0)), (1, .int p1), (3, .int p3), (5, .int u5)]) hx hb dX12_workOut_84 hl (k := 3) rfl rfl (by decide) rfl (fun ls hl => ?_)
    refine lv_goto (tgt := 165) hx hb dX12_workOut_87 (by decide) ?_
    refine lv_iinc (v := u5 + 1) (lv' := [(5, .int (u5 + 1)), (4, .int (u4 + 1)), (0, .ref (sgA P 0)), (1, .int p1), (3, .int p3)]) hx hb dX12_workOut_165 hl (k := 4) rfl rfl (by decide) rfl (fun ls hl => ?_)
    refine lv_goto (tgt := 12) hx hb dX12_workOut_168 (by decide) ?_
    obtain rfl := Option.some.inj h
    exact sg_go hk I (lv_sub hl [2, 3, 4, 1, 0] rfl)
def f_X12_workOut_L12 (N : Nat) (p1 : Int32) (p2 : Int32) (p3 : Int32) (x4 : Int32) (x5 : Int32) (σ : sgS) : Option ((Int32 × sgS) ⊕ ((sgS × Int32 × Int32) ⊕ (sgS))) :=
  if ((520 * p1) + p3) ≤ x5 then
  (some (.inr (.inr σ)))
else
  (sg_ld σ 2 2600 x5 fun v1 =>
  if v1 = 0 then
    (f_X12_workOut_L12_B45 N p1 p2 p3 x4 x5 σ)
  else
    (sg_ld σ 2 2600 x5 fun v8 =>
    if v8 = 1 then
      (f_X12_workOut_L12_B45 N p1 p2 p3 x4 x5 σ)
    else
      (sg_ld σ 2 2600 x5 fun v9 =>
      if v9 = 9 then
        (sg_ld σ 10 80 (x4 - 1) fun v15 =>
        sg_st σ 10 80 (x4 - 1) (1 - v15) fun s16 =>
        some (.inr (.inl (s16, x4, x5 + 1))))
      else
        (sg_ld σ 2 2600 x5 fun v10 =>
        sg_ld σ 10 80 ((x4 + (-1)) - 1) fun v11 =>
        sg_ld σ 10 80 (x4 + (-1)) fun v12 =>
        sg_cr (f_X12_worked N v10 v11.toInt64 v12.toInt64 σ) fun v13 =>
        sg_st σ 10 80 ((x4 + (-1)) - 1) v13 fun s14 =>
        some (.inr (.inl (s14, x4 + (-1), x5 + 1)))))))
set_option maxHeartbeats 4000000 in
set_option maxRecDepth 100000 in
theorem b_X12_workOut_L12 {p : Program} {l : Launch} {e : Env} {R : Room} {s : State} {m : MethodId} {args : Array Value} {below : List Frame} {meth : Method} {c : Code} {Q : State → Prop} {P : sgP} {A : Nat → Prop} {N : Nat} {p1 : Int32} {p2 : Int32} {p3 : Int32} {x4 : Int32} {x5 : Int32} {σ : sgS} (X : sg_C P A 4 p R s m args c cX12_workOut 6 RX12) {H : Heap} {locs : List Loc} (I : sg_I P shM 35 A s.heap σ H locs) {ls : Array Slot} (hl : lv_has ls 6 [(0, .ref (sgA P 0)), (1, .int p1), (3, .int p3), (4, .int x4), (5, .int x5)]) {st : (Int32 × sgS) ⊕ ((sgS × Int32 × Int32) ⊕ (sgS))} (h : f_X12_workOut_L12 N p1 p2 p3 x4 x5 σ = some st) (hk : sg_k3 (sg_Ri p l e R s m args below meth c Q P shM 35 A cX12_workOut (some .int)) (fun x => sg_Wt p l e R s m args below meth c Q P shM 35 A 6 12 x.1 [(0, .ref (sgA P 0)), (1, .int p1), (3, .int p3), (4, .int x.2.1), (5, .int x.2.2)]) (fun y => sg_Wt p l e R s m args below meth c Q P shM 35 A 6 171 y [(0, .ref (sgA P 0))]) st) : W p l e R s m args below meth c H locs 0 0 Q (F0 m 12 ls []) := by
  unfold f_X12_workOut_L12 at h
  have hx := X.1.1
  have hb := X.1.2.1
  have hown := X.1.2.2.2.1
  have hts := X.1.2.2.2.2
  refine lv_iload hx hb dX12_workOut_12 (lv_at hl 4 rfl) ?_
  refine lv_sipush (v := 520) hx hb dX12_workOut_14 (by decide) ?_
  refine lv_iload_n hx hb dX12_workOut_17 rfl (lv_at hl 1 rfl) ?_
  refine lv_imul hx hb dX12_workOut_18 ?_
  refine lv_iload_n hx hb dX12_workOut_19 rfl (lv_at hl 2 rfl) ?_
  refine lv_iadd hx hb dX12_workOut_20 ?_
  refine lv_icmp_ge (tgt := 171) hx hb dX12_workOut_21 (by decide) (fun z => ?_) (fun z => ?_)
  · have h := sg_ift h z
    obtain rfl := Option.some.inj h
    exact sg_go hk I (lv_sub hl [0] rfl)
  · have h := sg_iff h z
    refine lv_aload_n hx hb dX12_workOut_24 rfl (lv_at hl 0 rfl) ?_
    refine sg_getr X I fk_X12_13 (j := 2) (by decide) shM_0 rfl dX12_workOut_25 ?_
    refine lv_iload hx hb dX12_workOut_28 (lv_at hl 4 rfl) ?_
    refine sg_iald X I (by decide) shM_2 h dX12_workOut_30 (fun v1 h => ?_)
    refine lv_if_eq (tgt := 45) hx hb dX12_workOut_31 (by decide) (fun z => ?_) (fun z => ?_)
    · have h := sg_ift h z
      exact b_X12_workOut_L12_B45 X I (lv_sub hl [0, 1, 2, 3, 4] rfl) h hk
    · have h := sg_iff h z
      refine lv_aload_n hx hb dX12_workOut_34 rfl (lv_at hl 0 rfl) ?_
      refine sg_getr X I fk_X12_13 (j := 2) (by decide) shM_0 rfl dX12_workOut_35 ?_
      refine lv_iload hx hb dX12_workOut_38 (lv_at hl 4 rfl) ?_
      refine sg_iald X I (by decide) shM_2 h dX12_workOut_40 (fun v8 h => ?_)
      refine lv_iconst (v := 1) hx hb dX12_workOut_41 (by decide) ?_
      refine lv_icmp_ne (tgt := 90) hx hb dX12_workOut_42 (by decide) (fun z => ?_) (fun z => ?_)
      · have h := sg_iff h z
        refine lv_aload_n hx hb dX12_workOut_90 rfl (lv_at hl 0 rfl) ?_
        refine sg_getr X I fk_X12_13 (j := 2) (by decide) shM_0 rfl dX12_workOut_91 ?_
        refine lv_iload hx hb dX12_workOut_94 (lv_at hl 4 rfl) ?_
        refine sg_iald X I (by decide) shM_2 h dX12_workOut_96 (fun v9 h => ?_)
        refine lv_bipush (v := 9) hx hb dX12_workOut_97 (by decide) ?_
        refine lv_icmp_ne (tgt := 125) hx hb dX12_workOut_99 (by decide) (fun z => ?_) (fun z => ?_)
        · have h := sg_iff h z
          refine lv_iinc (v := x4 + (-1)) (lv' := [(4, .int (x4 + (-1))), (0, .ref (sgA P 0)), (1, .int p1), (3, .int p3), (5, .int x5)]) hx hb dX12_workOut_125 hl (k := 3) rfl rfl (by decide) rfl (fun ls hl => ?_)
          refine lv_aload_n hx hb dX12_workOut_128 rfl (lv_at hl 1 rfl) ?_
          refine sg_getr X I fk_X12_37 (j := 10) (by decide) shM_0 rfl dX12_workOut_129 ?_
          refine lv_iload hx hb dX12_workOut_132 (lv_at hl 0 rfl) ?_
          refine lv_iconst (v := 1) hx hb dX12_workOut_134 (by decide) ?_
          refine lv_isub hx hb dX12_workOut_135 ?_
          refine lv_aload_n hx hb dX12_workOut_136 rfl (lv_at hl 1 rfl) ?_
          refine sg_getr X I fk_X12_13 (j := 2) (by decide) shM_0 rfl dX12_workOut_137 ?_
          refine lv_iload hx hb dX12_workOut_140 (lv_at hl 4 rfl) ?_
          refine sg_iald X I (by decide) shM_2 h dX12_workOut_142 (fun v10 h => ?_)
          refine lv_aload_n hx hb dX12_workOut_143 rfl (lv_at hl 1 rfl) ?_
          refine sg_getr X I fk_X12_37 (j := 10) (by decide) shM_0 rfl dX12_workOut_144 ?_
          refine lv_iload hx hb dX12_workOut_147 (lv_at hl 0 rfl) ?_
          refine lv_iconst (v := 1) hx hb dX12_workOut_149 (by decide) ?_
          refine lv_isub hx hb dX12_workOut_150 ?_
          refine sg_iald X I (by decide) shM_10 h dX12_workOut_151 (fun v11 h => ?_)
          refine lv_i2l (v := v11.toInt64) hx hb dX12_workOut_152 rfl ?_
          refine lv_aload_n hx hb dX12_workOut_153 rfl (lv_at hl 1 rfl) ?_
          refine sg_getr X I fk_X12_37 (j := 10) (by decide) shM_0 rfl dX12_workOut_154 ?_
          refine lv_iload hx hb dX12_workOut_157 (lv_at hl 0 rfl) ?_
          refine sg_iald X I (by decide) shM_10 h dX12_workOut_159 (fun v12 h => ?_)
          refine lv_i2l (v := v12.toInt64) hx hb dX12_workOut_160 rfl ?_
          refine sg_callSr (As := [.int v10, .long v11.toInt64, .long v12.toInt64]) X I mk_X12_227 (by decide) (fun q9 e9 => c_X12_worked e9) h hl.1 rfl rfl (Nat.le_of_ble_eq_true rfl) dX12_workOut_161 (fun v13 H locs h I => ?_)
          refine sg_iast X I (by decide) shM_10 h dX12_workOut_164 (fun s14 H locs h I => ?_)
          refine lv_iinc (v := x5 + 1) (lv' := [(5, .int (x5 + 1)), (4, .int (x4 + (-1))), (0, .ref (sgA P 0)), (1, .int p1), (3, .int p3)]) hx hb dX12_workOut_165 hl (k := 4) rfl rfl (by decide) rfl (fun ls hl => ?_)
          refine lv_goto (tgt := 12) hx hb dX12_workOut_168 (by decide) ?_
          obtain rfl := Option.some.inj h
          exact sg_go hk I (lv_sub hl [2, 3, 4, 1, 0] rfl)
        · have h := sg_ift h z
          refine lv_aload_n hx hb dX12_workOut_102 rfl (lv_at hl 0 rfl) ?_
          refine sg_getr X I fk_X12_37 (j := 10) (by decide) shM_0 rfl dX12_workOut_103 ?_
          refine lv_iload hx hb dX12_workOut_106 (lv_at hl 3 rfl) ?_
          refine lv_iconst (v := 1) hx hb dX12_workOut_108 (by decide) ?_
          refine lv_isub hx hb dX12_workOut_109 ?_
          refine lv_iconst (v := 1) hx hb dX12_workOut_110 (by decide) ?_
          refine lv_aload_n hx hb dX12_workOut_111 rfl (lv_at hl 0 rfl) ?_
          refine sg_getr X I fk_X12_37 (j := 10) (by decide) shM_0 rfl dX12_workOut_112 ?_
          refine lv_iload hx hb dX12_workOut_115 (lv_at hl 3 rfl) ?_
          refine lv_iconst (v := 1) hx hb dX12_workOut_117 (by decide) ?_
          refine lv_isub hx hb dX12_workOut_118 ?_
          refine sg_iald X I (by decide) shM_10 h dX12_workOut_119 (fun v15 h => ?_)
          refine lv_isub hx hb dX12_workOut_120 ?_
          refine sg_iast X I (by decide) shM_10 h dX12_workOut_121 (fun s16 H locs h I => ?_)
          refine lv_goto (tgt := 165) hx hb dX12_workOut_122 (by decide) ?_
          refine lv_iinc (v := x5 + 1) (lv' := [(5, .int (x5 + 1)), (0, .ref (sgA P 0)), (1, .int p1), (3, .int p3), (4, .int x4)]) hx hb dX12_workOut_165 hl (k := 4) rfl rfl (by decide) rfl (fun ls hl => ?_)
          refine lv_goto (tgt := 12) hx hb dX12_workOut_168 (by decide) ?_
          obtain rfl := Option.some.inj h
          exact sg_go hk I (lv_sub hl [1, 2, 3, 4, 0] rfl)
      · have h := sg_ift h z
        exact b_X12_workOut_L12_B45 X I (lv_sub hl [0, 1, 2, 3, 4] rfl) h hk
def f_X12_workOut (N : Nat) (p1 : Int32) (p2 : Int32) (p3 : Int32) (σ : sgS) : Option (Int32 × sgS) :=
  sg_lb (sg_lp (fun x => f_X12_workOut_L12 N p1 p2 p3 x.2.1 x.2.2 x.1) N ((σ, 0, (520 * p1) + p2))) (fun r => some r) fun y17 =>
sg_ld y17 10 80 0 fun v18 =>
some (v18, y17)
set_option maxHeartbeats 4000000 in
set_option maxRecDepth 100000 in
theorem b_X12_workOut {p : Program} {l : Launch} {e : Env} {R : Room} {s : State} {m : MethodId} {args : Array Value} {below : List Frame} {meth : Method} {c : Code} {Q : State → Prop} {P : sgP} {A : Nat → Prop} {N : Nat} {p1 : Int32} {p2 : Int32} {p3 : Int32} {σ : sgS} (X : sg_C P A 4 p R s m args c cX12_workOut 6 RX12) {H : Heap} {locs : List Loc} (I : sg_I P shM 35 A s.heap σ H locs) {ls : Array Slot} (hl : lv_has ls 6 [(0, .ref (sgA P 0)), (1, .int p1), (2, .int p2), (3, .int p3)]) {st : Int32 × sgS} (h : f_X12_workOut N p1 p2 p3 σ = some st) (hk : sg_Ri p l e R s m args below meth c Q P shM 35 A cX12_workOut (some .int) st) : W p l e R s m args below meth c H locs 0 0 Q (F0 m 0 ls []) := by
  unfold f_X12_workOut at h
  have hx := X.1.1
  have hb := X.1.2.1
  have hown := X.1.2.2.2.1
  have hts := X.1.2.2.2.2
  refine lv_iconst (v := 0) hx hb dX12_workOut_0 (by decide) ?_
  refine lv_istore (lv' := [(4, .int 0), (0, .ref (sgA P 0)), (1, .int p1), (2, .int p2), (3, .int p3)]) hx hb dX12_workOut_1 hl (by decide) rfl (fun ls hl => ?_)
  refine lv_sipush (v := 520) hx hb dX12_workOut_3 (by decide) ?_
  refine lv_iload_n hx hb dX12_workOut_6 rfl (lv_at hl 2 rfl) ?_
  refine lv_imul hx hb dX12_workOut_7 ?_
  refine lv_iload_n hx hb dX12_workOut_8 rfl (lv_at hl 3 rfl) ?_
  refine lv_iadd hx hb dX12_workOut_9 ?_
  refine lv_istore (lv' := [(5, .int ((520 * p1) + p2)), (4, .int 0), (0, .ref (sgA P 0)), (1, .int p1), (2, .int p2), (3, .int p3)]) hx hb dX12_workOut_10 hl (by decide) rfl (fun ls hl => ?_)
  obtain ⟨res, e9, k9⟩ := sg_lb_some h
  refine sg_go (sg_lp_W (a := (sg_Ri p l e R s m args below meth c Q P shM 35 A cX12_workOut (some .int))) (w := (fun x => sg_Wt p l e R s m args below meth c Q P shM 35 A 6 12 x.1 [(0, .ref (sgA P 0)), (1, .int p1), (3, .int p3), (4, .int x.2.1), (5, .int x.2.2)])) (c := (fun y => sg_Wt p l e R s m args below meth c Q P shM 35 A 6 171 y [(0, .ref (sgA P 0))])) (fun x st hb9 hk9 => ?_) N ((σ, 0, (520 * p1) + p2)) res e9 (sg_k2_mono k9 (fun r h => ?_) (fun y17 h => ?_))) I (lv_sub hl [2, 3, 5, 1, 0] rfl)
  · intro H locs ls I hl
    exact b_X12_workOut_L12 X I hl hb9 hk9
  · obtain rfl := Option.some.inj h
    exact hk
  · intro H locs ls I hl
    refine lv_aload_n hx hb dX12_workOut_171 rfl (lv_at hl 0 rfl) ?_
    refine sg_getr X I fk_X12_37 (j := 10) (by decide) shM_0 rfl dX12_workOut_172 ?_
    refine lv_iconst (v := 0) hx hb dX12_workOut_175 (by decide) ?_
    refine sg_iald X I (by decide) shM_10 h dX12_workOut_176 (fun v18 h => ?_)
    obtain rfl := Option.some.inj h
    exact hk _ _ _ _ _ I ⟨_, rfl, rfl⟩ dX12_workOut_177
set_option maxHeartbeats 4000000 in
set_option maxRecDepth 100000 in
theorem c_X12_workOut {l : Launch} {P : sgP} {N : Nat} {p1 : Int32} {p2 : Int32} {p3 : Int32} {σ : sgS} {q : Int32 × sgS} (h : f_X12_workOut N p1 p2 p3 σ = some q) : sg_Mi P shM 35 l yX12_workOut cX12_workOut 6 (some .int) 4 [.ref (sgA P 0), .int p1, .int p2, .int p3] σ q := by
  refine sg_mki (plainFor_of_name (by decide +kernel)) (Nat.le_of_ble_eq_true rfl) ?_
  intro p e R s m args below meth c Q A ls H locs X I hl hk
  exact b_X12_workOut X I hl h hk
def f_X12_worthOf_L6_B57 (N : Nat) (p1 : Int32) (u2 : Int32) (σ : sgS) : Option ((Int32 × sgS) ⊕ ((sgS × Int32) ⊕ (sgS))) :=
  sg_ld σ 7 700 u2 fun v4 =>
sg_ld σ 8 700 u2 fun v5 =>
sg_cl (f_X12_workOut N p1 v4 v5 σ) fun v6 s7 =>
some (.inl (v6, s7))
set_option maxHeartbeats 4000000 in
set_option maxRecDepth 100000 in
theorem b_X12_worthOf_L6_B57 {p : Program} {l : Launch} {e : Env} {R : Room} {s : State} {m : MethodId} {args : Array Value} {below : List Frame} {meth : Method} {c : Code} {Q : State → Prop} {P : sgP} {A : Nat → Prop} {N : Nat} {p1 : Int32} {u2 : Int32} {σ : sgS} (X : sg_C P A 5 p R s m args c cX12_worthOf 3 RX12) {H : Heap} {locs : List Loc} (I : sg_I P shM 35 A s.heap σ H locs) {ls : Array Slot} (hl : lv_has ls 3 [(0, .ref (sgA P 0)), (1, .int p1), (2, .int u2)]) {st : (Int32 × sgS) ⊕ ((sgS × Int32) ⊕ (sgS))} (h : f_X12_worthOf_L6_B57 N p1 u2 σ = some st) (hk : sg_k3 (sg_Ri p l e R s m args below meth c Q P shM 35 A cX12_worthOf (some .int)) (fun x => sg_Wt p l e R s m args below meth c Q P shM 35 A 3 6 x.1 [(0, .ref (sgA P 0)), (1, .int p1), (2, .int x.2)]) (fun y => sg_Wt p l e R s m args below meth c Q P shM 35 A 3 81 y []) st) : W p l e R s m args below meth c H locs 0 0 Q (F0 m 57 ls []) := by
  unfold f_X12_worthOf_L6_B57 at h
  have hx := X.1.1
  have hb := X.1.2.1
  have hown := X.1.2.2.2.1
  have hts := X.1.2.2.2.2
  refine lv_aload_n hx hb dX12_worthOf_57 rfl (lv_at hl 0 rfl) ?_
  refine lv_iload_n hx hb dX12_worthOf_58 rfl (lv_at hl 1 rfl) ?_
  refine lv_aload_n hx hb dX12_worthOf_59 rfl (lv_at hl 0 rfl) ?_
  refine sg_getr X I fk_X12_28 (j := 7) (by decide) shM_0 rfl dX12_worthOf_60 ?_
  refine lv_iload_n hx hb dX12_worthOf_63 rfl (lv_at hl 2 rfl) ?_
  refine sg_iald X I (by decide) shM_7 h dX12_worthOf_64 (fun v4 h => ?_)
  refine lv_aload_n hx hb dX12_worthOf_65 rfl (lv_at hl 0 rfl) ?_
  refine sg_getr X I fk_X12_31 (j := 8) (by decide) shM_0 rfl dX12_worthOf_66 ?_
  refine lv_iload_n hx hb dX12_worthOf_69 rfl (lv_at hl 2 rfl) ?_
  refine sg_iald X I (by decide) shM_8 h dX12_worthOf_70 (fun v5 h => ?_)
  refine sg_callV (As := [.int p1, .int v4, .int v5]) X I mk_X12_231 (by decide) (by decide) shM_0 rfl (fun q9 e9 => c_X12_workOut e9) h hl.1 rfl rfl (Nat.le_of_ble_eq_true rfl) dX12_worthOf_71 (fun v6 s7 H locs h I => ?_)
  obtain rfl := Option.some.inj h
  exact hk _ _ _ _ _ I ⟨_, rfl, rfl⟩ dX12_worthOf_74
def f_X12_worthOf_L6 (N : Nat) (p1 : Int32) (x2 : Int32) (σ : sgS) : Option ((Int32 × sgS) ⊕ ((sgS × Int32) ⊕ (sgS))) :=
  sg_ld σ 5 5 p1 fun v1 =>
if ((140 * p1) + v1) ≤ x2 then
  (some (.inr (.inr σ)))
else
  (sg_ld σ 6 700 x2 fun v2 =>
  sg_ld σ 7 700 x2 fun v3 =>
  if v2 = v3 then
    (f_X12_worthOf_L6_B57 N p1 x2 σ)
  else
    (sg_ld σ 6 700 x2 fun v8 =>
    sg_ld σ 7 700 x2 fun v9 =>
    sg_cl (f_X12_workOut N p1 v8 v9 σ) fun v10 s11 =>
    if v10 = 0 then
      (some (.inr (.inl (s11, x2 + 1))))
    else
      (f_X12_worthOf_L6_B57 N p1 x2 s11)))
set_option maxHeartbeats 4000000 in
set_option maxRecDepth 100000 in
theorem b_X12_worthOf_L6 {p : Program} {l : Launch} {e : Env} {R : Room} {s : State} {m : MethodId} {args : Array Value} {below : List Frame} {meth : Method} {c : Code} {Q : State → Prop} {P : sgP} {A : Nat → Prop} {N : Nat} {p1 : Int32} {x2 : Int32} {σ : sgS} (X : sg_C P A 5 p R s m args c cX12_worthOf 3 RX12) {H : Heap} {locs : List Loc} (I : sg_I P shM 35 A s.heap σ H locs) {ls : Array Slot} (hl : lv_has ls 3 [(0, .ref (sgA P 0)), (1, .int p1), (2, .int x2)]) {st : (Int32 × sgS) ⊕ ((sgS × Int32) ⊕ (sgS))} (h : f_X12_worthOf_L6 N p1 x2 σ = some st) (hk : sg_k3 (sg_Ri p l e R s m args below meth c Q P shM 35 A cX12_worthOf (some .int)) (fun x => sg_Wt p l e R s m args below meth c Q P shM 35 A 3 6 x.1 [(0, .ref (sgA P 0)), (1, .int p1), (2, .int x.2)]) (fun y => sg_Wt p l e R s m args below meth c Q P shM 35 A 3 81 y []) st) : W p l e R s m args below meth c H locs 0 0 Q (F0 m 6 ls []) := by
  unfold f_X12_worthOf_L6 at h
  have hx := X.1.1
  have hb := X.1.2.1
  have hown := X.1.2.2.2.1
  have hts := X.1.2.2.2.2
  refine lv_iload_n hx hb dX12_worthOf_6 rfl (lv_at hl 2 rfl) ?_
  refine lv_sipush (v := 140) hx hb dX12_worthOf_7 (by decide) ?_
  refine lv_iload_n hx hb dX12_worthOf_10 rfl (lv_at hl 1 rfl) ?_
  refine lv_imul hx hb dX12_worthOf_11 ?_
  refine lv_aload_n hx hb dX12_worthOf_12 rfl (lv_at hl 0 rfl) ?_
  refine sg_getr X I fk_X12_22 (j := 5) (by decide) shM_0 rfl dX12_worthOf_13 ?_
  refine lv_iload_n hx hb dX12_worthOf_16 rfl (lv_at hl 1 rfl) ?_
  refine sg_iald X I (by decide) shM_5 h dX12_worthOf_17 (fun v1 h => ?_)
  refine lv_iadd hx hb dX12_worthOf_18 ?_
  refine lv_icmp_ge (tgt := 81) hx hb dX12_worthOf_19 (by decide) (fun z => ?_) (fun z => ?_)
  · have h := sg_ift h z
    obtain rfl := Option.some.inj h
    exact sg_go hk I (lv_sub hl [] rfl)
  · have h := sg_iff h z
    refine lv_aload_n hx hb dX12_worthOf_22 rfl (lv_at hl 0 rfl) ?_
    refine sg_getr X I fk_X12_25 (j := 6) (by decide) shM_0 rfl dX12_worthOf_23 ?_
    refine lv_iload_n hx hb dX12_worthOf_26 rfl (lv_at hl 2 rfl) ?_
    refine sg_iald X I (by decide) shM_6 h dX12_worthOf_27 (fun v2 h => ?_)
    refine lv_aload_n hx hb dX12_worthOf_28 rfl (lv_at hl 0 rfl) ?_
    refine sg_getr X I fk_X12_28 (j := 7) (by decide) shM_0 rfl dX12_worthOf_29 ?_
    refine lv_iload_n hx hb dX12_worthOf_32 rfl (lv_at hl 2 rfl) ?_
    refine sg_iald X I (by decide) shM_7 h dX12_worthOf_33 (fun v3 h => ?_)
    refine lv_icmp_eq (tgt := 57) hx hb dX12_worthOf_34 (by decide) (fun z => ?_) (fun z => ?_)
    · have h := sg_ift h z
      exact b_X12_worthOf_L6_B57 X I (lv_sub hl [0, 1, 2] rfl) h hk
    · have h := sg_iff h z
      refine lv_aload_n hx hb dX12_worthOf_37 rfl (lv_at hl 0 rfl) ?_
      refine lv_iload_n hx hb dX12_worthOf_38 rfl (lv_at hl 1 rfl) ?_
      refine lv_aload_n hx hb dX12_worthOf_39 rfl (lv_at hl 0 rfl) ?_
      refine sg_getr X I fk_X12_25 (j := 6) (by decide) shM_0 rfl dX12_worthOf_40 ?_
      refine lv_iload_n hx hb dX12_worthOf_43 rfl (lv_at hl 2 rfl) ?_
      refine sg_iald X I (by decide) shM_6 h dX12_worthOf_44 (fun v8 h => ?_)
      refine lv_aload_n hx hb dX12_worthOf_45 rfl (lv_at hl 0 rfl) ?_
      refine sg_getr X I fk_X12_28 (j := 7) (by decide) shM_0 rfl dX12_worthOf_46 ?_
      refine lv_iload_n hx hb dX12_worthOf_49 rfl (lv_at hl 2 rfl) ?_
      refine sg_iald X I (by decide) shM_7 h dX12_worthOf_50 (fun v9 h => ?_)
      refine sg_callV (As := [.int p1, .int v8, .int v9]) X I mk_X12_231 (by decide) (by decide) shM_0 rfl (fun q9 e9 => c_X12_workOut e9) h hl.1 rfl rfl (Nat.le_of_ble_eq_true rfl) dX12_worthOf_51 (fun v10 s11 H locs h I => ?_)
      refine lv_if_eq (tgt := 75) hx hb dX12_worthOf_54 (by decide) (fun z => ?_) (fun z => ?_)
      · have h := sg_ift h z
        refine lv_iinc (v := x2 + 1) (lv' := [(2, .int (x2 + 1)), (0, .ref (sgA P 0)), (1, .int p1)]) hx hb dX12_worthOf_75 hl (k := 2) rfl rfl (by decide) rfl (fun ls hl => ?_)
        refine lv_goto (tgt := 6) hx hb dX12_worthOf_78 (by decide) ?_
        obtain rfl := Option.some.inj h
        exact sg_go hk I (lv_sub hl [1, 2, 0] rfl)
      · have h := sg_iff h z
        exact b_X12_worthOf_L6_B57 X I (lv_sub hl [0, 1, 2] rfl) h hk
def f_X12_worthOf (N : Nat) (p1 : Int32) (σ : sgS) : Option (Int32 × sgS) :=
  sg_lb (sg_lp (fun x => f_X12_worthOf_L6 N p1 x.2 x.1) N ((σ, 140 * p1))) (fun r => some r) fun y12 =>
some (0, y12)
set_option maxHeartbeats 4000000 in
set_option maxRecDepth 100000 in
theorem b_X12_worthOf {p : Program} {l : Launch} {e : Env} {R : Room} {s : State} {m : MethodId} {args : Array Value} {below : List Frame} {meth : Method} {c : Code} {Q : State → Prop} {P : sgP} {A : Nat → Prop} {N : Nat} {p1 : Int32} {σ : sgS} (X : sg_C P A 5 p R s m args c cX12_worthOf 3 RX12) {H : Heap} {locs : List Loc} (I : sg_I P shM 35 A s.heap σ H locs) {ls : Array Slot} (hl : lv_has ls 3 [(0, .ref (sgA P 0)), (1, .int p1)]) {st : Int32 × sgS} (h : f_X12_worthOf N p1 σ = some st) (hk : sg_Ri p l e R s m args below meth c Q P shM 35 A cX12_worthOf (some .int) st) : W p l e R s m args below meth c H locs 0 0 Q (F0 m 0 ls []) := by
  unfold f_X12_worthOf at h
  have hx := X.1.1
  have hb := X.1.2.1
  have hown := X.1.2.2.2.1
  have hts := X.1.2.2.2.2
  refine lv_sipush (v := 140) hx hb dX12_worthOf_0 (by decide) ?_
  refine lv_iload_n hx hb dX12_worthOf_3 rfl (lv_at hl 1 rfl) ?_
  refine lv_imul hx hb dX12_worthOf_4 ?_
  refine lv_istore_n (lv' := [(2, .int (140 * p1)), (0, .ref (sgA P 0)), (1, .int p1)]) hx hb dX12_worthOf_5 rfl hl (by decide) rfl (fun ls hl => ?_)
  obtain ⟨res, e9, k9⟩ := sg_lb_some h
  refine sg_go (sg_lp_W (a := (sg_Ri p l e R s m args below meth c Q P shM 35 A cX12_worthOf (some .int))) (w := (fun x => sg_Wt p l e R s m args below meth c Q P shM 35 A 3 6 x.1 [(0, .ref (sgA P 0)), (1, .int p1), (2, .int x.2)])) (c := (fun y => sg_Wt p l e R s m args below meth c Q P shM 35 A 3 81 y [])) (fun x st hb9 hk9 => ?_) N ((σ, 140 * p1)) res e9 (sg_k2_mono k9 (fun r h => ?_) (fun y12 h => ?_))) I (lv_sub hl [1, 2, 0] rfl)
  · intro H locs ls I hl
    exact b_X12_worthOf_L6 X I hl hb9 hk9
  · obtain rfl := Option.some.inj h
    exact hk
  · intro H locs ls I hl
    refine lv_iconst (v := 0) hx hb dX12_worthOf_81 (by decide) ?_
    obtain rfl := Option.some.inj h
    exact hk _ _ _ _ _ I ⟨_, rfl, rfl⟩ dX12_worthOf_82
set_option maxHeartbeats 4000000 in
set_option maxRecDepth 100000 in
theorem c_X12_worthOf {l : Launch} {P : sgP} {N : Nat} {p1 : Int32} {σ : sgS} {q : Int32 × sgS} (h : f_X12_worthOf N p1 σ = some q) : sg_Mi P shM 35 l yX12_worthOf cX12_worthOf 3 (some .int) 5 [.ref (sgA P 0), .int p1] σ q := by
  refine sg_mki (plainFor_of_name (by decide +kernel)) (Nat.le_of_ble_eq_true rfl) ?_
  intro p e R s m args below meth c Q A ls H locs X I hl hk
  exact b_X12_worthOf X I hl h hk
def f_X12_number_B67 (N : Nat) (p1 : Int32) (p2 : Int32) (u3 : Int32) (σ : sgS) : Option (Int32 × sgS) :=
  sg_cr (f_X12_here N σ) fun v8 =>
sg_cr (f_X12_isDigit N v8 σ) fun v9 =>
if v9 = 0 then
  (sg_cr (f_X12_in N u3 p1 p2 σ) fun v10 =>
  if v10 = 0 then
    (sg_pf σ 0 3 ((σ.1 0 3) - 1) fun s11 =>
    sg_cl (f_X12_bad N s11) fun v12 s13 =>
    some (u3, s13))
  else
    (some (u3, σ)))
else
  (sg_cl (f_X12_bad N σ) fun v14 s15 =>
  some (u3, s15))
set_option maxHeartbeats 4000000 in
set_option maxRecDepth 100000 in
theorem b_X12_number_B67 {p : Program} {l : Launch} {e : Env} {R : Room} {s : State} {m : MethodId} {args : Array Value} {below : List Frame} {meth : Method} {c : Code} {Q : State → Prop} {P : sgP} {A : Nat → Prop} {N : Nat} {p1 : Int32} {p2 : Int32} {u3 : Int32} {σ : sgS} (X : sg_C P A 3 p R s m args c cX12_number 4 RX12) {H : Heap} {locs : List Loc} (I : sg_I P shM 35 A s.heap σ H locs) {ls : Array Slot} (hl : lv_has ls 4 [(0, .ref (sgA P 0)), (1, .int p1), (2, .int p2), (3, .int u3)]) {st : Int32 × sgS} (h : f_X12_number_B67 N p1 p2 u3 σ = some st) (hk : sg_Ri p l e R s m args below meth c Q P shM 35 A cX12_number (some .int) st) : W p l e R s m args below meth c H locs 0 0 Q (F0 m 67 ls []) := by
  unfold f_X12_number_B67 at h
  have hx := X.1.1
  have hb := X.1.2.1
  have hown := X.1.2.2.2.1
  have hts := X.1.2.2.2.2
  refine lv_aload_n hx hb dX12_number_67 rfl (lv_at hl 0 rfl) ?_
  refine sg_callVr (As := []) X I mk_X12_133 (by decide) (by decide) shM_0 rfl (fun q9 e9 => c_X12_here e9) h hl.1 rfl rfl (Nat.le_of_ble_eq_true rfl) dX12_number_68 (fun v8 H locs h I => ?_)
  refine sg_callSr (As := [.int v8]) X I mk_X12_152 (by decide) (fun q9 e9 => c_X12_isDigit e9) h hl.1 rfl rfl (Nat.le_of_ble_eq_true rfl) dX12_number_71 (fun v9 H locs h I => ?_)
  refine lv_if_eq (tgt := 84) hx hb dX12_number_74 (by decide) (fun z => ?_) (fun z => ?_)
  · have h := sg_ift h z
    refine lv_iload_n hx hb dX12_number_84 rfl (lv_at hl 3 rfl) ?_
    refine lv_iload_n hx hb dX12_number_85 rfl (lv_at hl 1 rfl) ?_
    refine lv_iload_n hx hb dX12_number_86 rfl (lv_at hl 2 rfl) ?_
    refine sg_callSr (As := [.int u3, .int p1, .int p2]) X I mk_X12_235 (by decide) (fun q9 e9 => c_X12_in e9) h hl.1 rfl rfl (Nat.le_of_ble_eq_true rfl) dX12_number_87 (fun v10 H locs h I => ?_)
    refine lv_if_ne (tgt := 107) hx hb dX12_number_90 (by decide) (fun z => ?_) (fun z => ?_)
    · have h := sg_iff h z
      refine lv_iload_n hx hb dX12_number_107 rfl (lv_at hl 3 rfl) ?_
      obtain rfl := Option.some.inj h
      exact hk _ _ _ _ _ I ⟨_, rfl, rfl⟩ dX12_number_108
    · have h := sg_ift h z
      refine lv_aload_n hx hb dX12_number_93 rfl (lv_at hl 0 rfl) ?_
      refine lv_dup hx hb dX12_number_94 rfl ?_
      refine sg_geti X I fk_X12_130 (by decide) shM_0 rfl dX12_number_95 ?_
      refine lv_iconst (v := 1) hx hb dX12_number_98 (by decide) ?_
      refine lv_isub hx hb dX12_number_99 ?_
      refine sg_puti X I fk_X12_130 wk_12_3 rfl rfl (by decide) shM_0 rfl h dX12_number_100 (fun s11 H locs h I => ?_)
      refine lv_aload_n hx hb dX12_number_103 rfl (lv_at hl 0 rfl) ?_
      refine sg_callVv (As := []) X I mk_X12_146 (by decide) (by decide) shM_0 rfl (fun q9 e9 => c_X12_bad e9) h hl.1 rfl rfl (Nat.le_of_ble_eq_true rfl) dX12_number_104 (fun v12 s13 H locs h I => ?_)
      refine lv_iload_n hx hb dX12_number_107 rfl (lv_at hl 3 rfl) ?_
      obtain rfl := Option.some.inj h
      exact hk _ _ _ _ _ I ⟨_, rfl, rfl⟩ dX12_number_108
  · have h := sg_iff h z
    refine lv_aload_n hx hb dX12_number_77 rfl (lv_at hl 0 rfl) ?_
    refine sg_callVv (As := []) X I mk_X12_146 (by decide) (by decide) shM_0 rfl (fun q9 e9 => c_X12_bad e9) h hl.1 rfl rfl (Nat.le_of_ble_eq_true rfl) dX12_number_78 (fun v14 s15 H locs h I => ?_)
    refine lv_goto (tgt := 107) hx hb dX12_number_81 (by decide) ?_
    refine lv_iload_n hx hb dX12_number_107 rfl (lv_at hl 3 rfl) ?_
    obtain rfl := Option.some.inj h
    exact hk _ _ _ _ _ I ⟨_, rfl, rfl⟩ dX12_number_108
def f_X12_number (N : Nat) (p1 : Int32) (p2 : Int32) (σ : sgS) : Option (Int32 × sgS) :=
  sg_cl (f_X12_look N σ) fun v1 s2 =>
sg_cr (f_X12_isDigit N v1 s2) fun v3 =>
if v3 = 0 then
  (sg_cl (f_X12_bad N s2) fun v18 s19 =>
  some (p1, s19))
else
  (sg_cr (f_X12_here N s2) fun v4 =>
  sg_pf s2 0 3 ((s2.1 0 3) + 1) fun s5 =>
  sg_cr (f_X12_here N s5) fun v6 =>
  sg_cr (f_X12_isDigit N v6 s5) fun v7 =>
  if v7 = 0 then
    (f_X12_number_B67 N p1 p2 (v4 - 48) s5)
  else
    (sg_cr (f_X12_here N s5) fun v16 =>
    sg_pf s5 0 3 ((s5.1 0 3) + 1) fun s17 =>
    f_X12_number_B67 N p1 p2 (((10 * (v4 - 48)) + v16) - 48) s17))
set_option maxHeartbeats 4000000 in
set_option maxRecDepth 100000 in
theorem b_X12_number {p : Program} {l : Launch} {e : Env} {R : Room} {s : State} {m : MethodId} {args : Array Value} {below : List Frame} {meth : Method} {c : Code} {Q : State → Prop} {P : sgP} {A : Nat → Prop} {N : Nat} {p1 : Int32} {p2 : Int32} {σ : sgS} (X : sg_C P A 3 p R s m args c cX12_number 4 RX12) {H : Heap} {locs : List Loc} (I : sg_I P shM 35 A s.heap σ H locs) {ls : Array Slot} (hl : lv_has ls 4 [(0, .ref (sgA P 0)), (1, .int p1), (2, .int p2)]) {st : Int32 × sgS} (h : f_X12_number N p1 p2 σ = some st) (hk : sg_Ri p l e R s m args below meth c Q P shM 35 A cX12_number (some .int) st) : W p l e R s m args below meth c H locs 0 0 Q (F0 m 0 ls []) := by
  unfold f_X12_number at h
  have hx := X.1.1
  have hb := X.1.2.1
  have hown := X.1.2.2.2.1
  have hts := X.1.2.2.2.2
  refine lv_aload_n hx hb dX12_number_0 rfl (lv_at hl 0 rfl) ?_
  refine sg_callV (As := []) X I mk_X12_149 (by decide) (by decide) shM_0 rfl (fun q9 e9 => c_X12_look e9) h hl.1 rfl rfl (Nat.le_of_ble_eq_true rfl) dX12_number_1 (fun v1 s2 H locs h I => ?_)
  refine sg_callSr (As := [.int v1]) X I mk_X12_152 (by decide) (fun q9 e9 => c_X12_isDigit e9) h hl.1 rfl rfl (Nat.le_of_ble_eq_true rfl) dX12_number_4 (fun v3 H locs h I => ?_)
  refine lv_if_ne (tgt := 16) hx hb dX12_number_7 (by decide) (fun z => ?_) (fun z => ?_)
  · have h := sg_iff h z
    refine lv_aload_n hx hb dX12_number_16 rfl (lv_at hl 0 rfl) ?_
    refine sg_callVr (As := []) X I mk_X12_133 (by decide) (by decide) shM_0 rfl (fun q9 e9 => c_X12_here e9) h hl.1 rfl rfl (Nat.le_of_ble_eq_true rfl) dX12_number_17 (fun v4 H locs h I => ?_)
    refine lv_bipush (v := 48) hx hb dX12_number_20 (by decide) ?_
    refine lv_isub hx hb dX12_number_22 ?_
    refine lv_istore_n (lv' := [(3, .int (v4 - 48)), (0, .ref (sgA P 0)), (1, .int p1), (2, .int p2)]) hx hb dX12_number_23 rfl hl (by decide) rfl (fun ls hl => ?_)
    refine lv_aload_n hx hb dX12_number_24 rfl (lv_at hl 1 rfl) ?_
    refine lv_dup hx hb dX12_number_25 rfl ?_
    refine sg_geti X I fk_X12_130 (by decide) shM_0 rfl dX12_number_26 ?_
    refine lv_iconst (v := 1) hx hb dX12_number_29 (by decide) ?_
    refine lv_iadd hx hb dX12_number_30 ?_
    refine sg_puti X I fk_X12_130 wk_12_3 rfl rfl (by decide) shM_0 rfl h dX12_number_31 (fun s5 H locs h I => ?_)
    refine lv_aload_n hx hb dX12_number_34 rfl (lv_at hl 1 rfl) ?_
    refine sg_callVr (As := []) X I mk_X12_133 (by decide) (by decide) shM_0 rfl (fun q9 e9 => c_X12_here e9) h hl.1 rfl rfl (Nat.le_of_ble_eq_true rfl) dX12_number_35 (fun v6 H locs h I => ?_)
    refine sg_callSr (As := [.int v6]) X I mk_X12_152 (by decide) (fun q9 e9 => c_X12_isDigit e9) h hl.1 rfl rfl (Nat.le_of_ble_eq_true rfl) dX12_number_38 (fun v7 H locs h I => ?_)
    refine lv_if_eq (tgt := 67) hx hb dX12_number_41 (by decide) (fun z => ?_) (fun z => ?_)
    · have h := sg_ift h z
      exact b_X12_number_B67 X I (lv_sub hl [1, 2, 3, 0] rfl) h hk
    · have h := sg_iff h z
      refine lv_bipush (v := 10) hx hb dX12_number_44 (by decide) ?_
      refine lv_iload_n hx hb dX12_number_46 rfl (lv_at hl 0 rfl) ?_
      refine lv_imul hx hb dX12_number_47 ?_
      refine lv_aload_n hx hb dX12_number_48 rfl (lv_at hl 1 rfl) ?_
      refine sg_callVr (As := []) X I mk_X12_133 (by decide) (by decide) shM_0 rfl (fun q9 e9 => c_X12_here e9) h hl.1 rfl rfl (Nat.le_of_ble_eq_true rfl) dX12_number_49 (fun v16 H locs h I => ?_)
      refine lv_iadd hx hb dX12_number_52 ?_
      refine lv_bipush (v := 48) hx hb dX12_number_53 (by decide) ?_
      refine lv_isub hx hb dX12_number_55 ?_
      refine lv_istore_n (lv' := [(3, .int (((10 * (v4 - 48)) + v16) - 48)), (0, .ref (sgA P 0)), (1, .int p1), (2, .int p2)]) hx hb dX12_number_56 rfl hl (by decide) rfl (fun ls hl => ?_)
      refine lv_aload_n hx hb dX12_number_57 rfl (lv_at hl 1 rfl) ?_
      refine lv_dup hx hb dX12_number_58 rfl ?_
      refine sg_geti X I fk_X12_130 (by decide) shM_0 rfl dX12_number_59 ?_
      refine lv_iconst (v := 1) hx hb dX12_number_62 (by decide) ?_
      refine lv_iadd hx hb dX12_number_63 ?_
      refine sg_puti X I fk_X12_130 wk_12_3 rfl rfl (by decide) shM_0 rfl h dX12_number_64 (fun s17 H locs h I => ?_)
      exact b_X12_number_B67 X I (lv_sub hl [1, 2, 3, 0] rfl) h hk
  · have h := sg_ift h z
    refine lv_aload_n hx hb dX12_number_10 rfl (lv_at hl 0 rfl) ?_
    refine sg_callVv (As := []) X I mk_X12_146 (by decide) (by decide) shM_0 rfl (fun q9 e9 => c_X12_bad e9) h hl.1 rfl rfl (Nat.le_of_ble_eq_true rfl) dX12_number_11 (fun v18 s19 H locs h I => ?_)
    refine lv_iload_n hx hb dX12_number_14 rfl (lv_at hl 1 rfl) ?_
    obtain rfl := Option.some.inj h
    exact hk _ _ _ _ _ I ⟨_, rfl, rfl⟩ dX12_number_15
set_option maxHeartbeats 4000000 in
set_option maxRecDepth 100000 in
theorem c_X12_number {l : Launch} {P : sgP} {N : Nat} {p1 : Int32} {p2 : Int32} {σ : sgS} {q : Int32 × sgS} (h : f_X12_number N p1 p2 σ = some q) : sg_Mi P shM 35 l yX12_number cX12_number 4 (some .int) 3 [.ref (sgA P 0), .int p1, .int p2] σ q := by
  refine sg_mki (plainFor_of_name (by decide +kernel)) (Nat.le_of_ble_eq_true rfl) ?_
  intro p e R s m args below meth c Q A ls H locs X I hl hk
  exact b_X12_number X I hl h hk
def f_X12_itemOf (N : Nat) (p0 : Int32) (p1 : Int32) (σ : sgS) : Option (Int32) :=
  if p0 = 112 then
  (if p1 = 99 then
    (some 0)
  else
    (some ((-1))))
else
  (if p0 = 113 then
    (if p1 = 115 then
      (some 0)
    else
      (some ((-1))))
  else
    (if p0 = 114 then
      (if p1 = 97 then
        (some 0)
      else
        (if p1 = 98 then
          (some 1)
        else
          (if p1 = 108 then
            (some 2)
          else
            (if p1 = 100 then
              (some 3)
            else
              (some ((-1)))))))
    else
      (if p0 = 115 then
        (if p1 = 104 then
          (some 0)
        else
          (if p1 = 107 then
            (some 1)
          else
            (some ((-1)))))
      else
        (if p1 = 115 then
          (some 0)
        else
          (some ((-1)))))))
set_option maxHeartbeats 4000000 in
set_option maxRecDepth 100000 in
theorem b_X12_itemOf {p : Program} {l : Launch} {e : Env} {R : Room} {s : State} {m : MethodId} {args : Array Value} {below : List Frame} {meth : Method} {c : Code} {Q : State → Prop} {P : sgP} {A : Nat → Prop} {N : Nat} {p0 : Int32} {p1 : Int32} {σ : sgS} (X : sg_C P A 1 p R s m args c cX12_itemOf 2 RX12) {H : Heap} {locs : List Loc} (I : sg_I P shM 35 A s.heap σ H locs) {ls : Array Slot} (hl : lv_has ls 2 [(0, .int p0), (1, .int p1)]) {st : Int32} (h : f_X12_itemOf N p0 p1 σ = some st) (hk : sg_Ri p l e R s m args below meth c Q P shM 35 A cX12_itemOf (some .int) (st, σ)) : W p l e R s m args below meth c H locs 0 0 Q (F0 m 0 ls []) := by
  unfold f_X12_itemOf at h
  have hx := X.1.1
  have hb := X.1.2.1
  have hown := X.1.2.2.2.1
  have hts := X.1.2.2.2.2
  refine lv_iload_n hx hb dX12_itemOf_0 rfl (lv_at hl 0 rfl) ?_
  by_cases c0 : p0 = 112
  · have h := sg_ift h c0
    refine sg_swIn (k := 112) (off := 53) (tgt := 54) hx hb dX12_itemOf_1 c0 (by decide) (by decide) (by decide +kernel) (by decide) ?_
    refine lv_iload_n hx hb dX12_itemOf_54 rfl (lv_at hl 1 rfl) ?_
    refine lv_bipush (v := 99) hx hb dX12_itemOf_55 (by decide) ?_
    refine lv_icmp_ne (tgt := 64) hx hb dX12_itemOf_57 (by decide) (fun z => ?_) (fun z => ?_)
    · have h := sg_iff h z
      refine lv_iconst (v := -1) hx hb dX12_itemOf_64 (by decide) ?_
      obtain rfl := Option.some.inj h
      exact hk _ _ _ _ _ I ⟨_, rfl, rfl⟩ dX12_itemOf_65
    · have h := sg_ift h z
      refine lv_iconst (v := 0) hx hb dX12_itemOf_60 (by decide) ?_
      refine lv_goto (tgt := 65) hx hb dX12_itemOf_61 (by decide) ?_
      obtain rfl := Option.some.inj h
      exact hk _ _ _ _ _ I ⟨_, rfl, rfl⟩ dX12_itemOf_65
  have h := sg_iff h c0
  have i0 := sg_ine (z := 112) (by decide) c0
  by_cases c1 : p0 = 113
  · have h := sg_ift h c1
    refine sg_swIn (k := 113) (off := 107) (tgt := 108) hx hb dX12_itemOf_1 c1 (by decide) (by decide) (by decide +kernel) (by decide) ?_
    refine lv_iload_n hx hb dX12_itemOf_108 rfl (lv_at hl 1 rfl) ?_
    refine lv_bipush (v := 115) hx hb dX12_itemOf_109 (by decide) ?_
    refine lv_icmp_ne (tgt := 118) hx hb dX12_itemOf_111 (by decide) (fun z => ?_) (fun z => ?_)
    · have h := sg_iff h z
      refine lv_iconst (v := -1) hx hb dX12_itemOf_118 (by decide) ?_
      obtain rfl := Option.some.inj h
      exact hk _ _ _ _ _ I ⟨_, rfl, rfl⟩ dX12_itemOf_119
    · have h := sg_ift h z
      refine lv_iconst (v := 0) hx hb dX12_itemOf_114 (by decide) ?_
      refine lv_goto (tgt := 119) hx hb dX12_itemOf_115 (by decide) ?_
      obtain rfl := Option.some.inj h
      exact hk _ _ _ _ _ I ⟨_, rfl, rfl⟩ dX12_itemOf_119
  have h := sg_iff h c1
  have i1 := sg_ine (z := 113) (by decide) c1
  by_cases c2 : p0 = 114
  · have h := sg_ift h c2
    refine sg_swIn (k := 114) (off := 65) (tgt := 66) hx hb dX12_itemOf_1 c2 (by decide) (by decide) (by decide +kernel) (by decide) ?_
    refine lv_iload_n hx hb dX12_itemOf_66 rfl (lv_at hl 1 rfl) ?_
    refine lv_bipush (v := 97) hx hb dX12_itemOf_67 (by decide) ?_
    refine lv_icmp_ne (tgt := 76) hx hb dX12_itemOf_69 (by decide) (fun z => ?_) (fun z => ?_)
    · have h := sg_iff h z
      refine lv_iload_n hx hb dX12_itemOf_76 rfl (lv_at hl 1 rfl) ?_
      refine lv_bipush (v := 98) hx hb dX12_itemOf_77 (by decide) ?_
      refine lv_icmp_ne (tgt := 86) hx hb dX12_itemOf_79 (by decide) (fun z => ?_) (fun z => ?_)
      · have h := sg_iff h z
        refine lv_iload_n hx hb dX12_itemOf_86 rfl (lv_at hl 1 rfl) ?_
        refine lv_bipush (v := 108) hx hb dX12_itemOf_87 (by decide) ?_
        refine lv_icmp_ne (tgt := 96) hx hb dX12_itemOf_89 (by decide) (fun z => ?_) (fun z => ?_)
        · have h := sg_iff h z
          refine lv_iload_n hx hb dX12_itemOf_96 rfl (lv_at hl 1 rfl) ?_
          refine lv_bipush (v := 100) hx hb dX12_itemOf_97 (by decide) ?_
          refine lv_icmp_ne (tgt := 106) hx hb dX12_itemOf_99 (by decide) (fun z => ?_) (fun z => ?_)
          · have h := sg_iff h z
            refine lv_iconst (v := -1) hx hb dX12_itemOf_106 (by decide) ?_
            obtain rfl := Option.some.inj h
            exact hk _ _ _ _ _ I ⟨_, rfl, rfl⟩ dX12_itemOf_107
          · have h := sg_ift h z
            refine lv_iconst (v := 3) hx hb dX12_itemOf_102 (by decide) ?_
            refine lv_goto (tgt := 107) hx hb dX12_itemOf_103 (by decide) ?_
            obtain rfl := Option.some.inj h
            exact hk _ _ _ _ _ I ⟨_, rfl, rfl⟩ dX12_itemOf_107
        · have h := sg_ift h z
          refine lv_iconst (v := 2) hx hb dX12_itemOf_92 (by decide) ?_
          refine lv_goto (tgt := 107) hx hb dX12_itemOf_93 (by decide) ?_
          obtain rfl := Option.some.inj h
          exact hk _ _ _ _ _ I ⟨_, rfl, rfl⟩ dX12_itemOf_107
      · have h := sg_ift h z
        refine lv_iconst (v := 1) hx hb dX12_itemOf_82 (by decide) ?_
        refine lv_goto (tgt := 107) hx hb dX12_itemOf_83 (by decide) ?_
        obtain rfl := Option.some.inj h
        exact hk _ _ _ _ _ I ⟨_, rfl, rfl⟩ dX12_itemOf_107
    · have h := sg_ift h z
      refine lv_iconst (v := 0) hx hb dX12_itemOf_72 (by decide) ?_
      refine lv_goto (tgt := 107) hx hb dX12_itemOf_73 (by decide) ?_
      obtain rfl := Option.some.inj h
      exact hk _ _ _ _ _ I ⟨_, rfl, rfl⟩ dX12_itemOf_107
  have h := sg_iff h c2
  have i2 := sg_ine (z := 114) (by decide) c2
  by_cases c3 : p0 = 115
  · have h := sg_ift h c3
    refine sg_swIn (k := 115) (off := 31) (tgt := 32) hx hb dX12_itemOf_1 c3 (by decide) (by decide) (by decide +kernel) (by decide) ?_
    refine lv_iload_n hx hb dX12_itemOf_32 rfl (lv_at hl 1 rfl) ?_
    refine lv_bipush (v := 104) hx hb dX12_itemOf_33 (by decide) ?_
    refine lv_icmp_ne (tgt := 42) hx hb dX12_itemOf_35 (by decide) (fun z => ?_) (fun z => ?_)
    · have h := sg_iff h z
      refine lv_iload_n hx hb dX12_itemOf_42 rfl (lv_at hl 1 rfl) ?_
      refine lv_bipush (v := 107) hx hb dX12_itemOf_43 (by decide) ?_
      refine lv_icmp_ne (tgt := 52) hx hb dX12_itemOf_45 (by decide) (fun z => ?_) (fun z => ?_)
      · have h := sg_iff h z
        refine lv_iconst (v := -1) hx hb dX12_itemOf_52 (by decide) ?_
        obtain rfl := Option.some.inj h
        exact hk _ _ _ _ _ I ⟨_, rfl, rfl⟩ dX12_itemOf_53
      · have h := sg_ift h z
        refine lv_iconst (v := 1) hx hb dX12_itemOf_48 (by decide) ?_
        refine lv_goto (tgt := 53) hx hb dX12_itemOf_49 (by decide) ?_
        obtain rfl := Option.some.inj h
        exact hk _ _ _ _ _ I ⟨_, rfl, rfl⟩ dX12_itemOf_53
    · have h := sg_ift h z
      refine lv_iconst (v := 0) hx hb dX12_itemOf_38 (by decide) ?_
      refine lv_goto (tgt := 53) hx hb dX12_itemOf_39 (by decide) ?_
      obtain rfl := Option.some.inj h
      exact hk _ _ _ _ _ I ⟨_, rfl, rfl⟩ dX12_itemOf_53
  have h := sg_iff h c3
  have i3 := sg_ine (z := 115) (by decide) c3
  refine lv_tableOut (tgt := 108) hx hb dX12_itemOf_1 (by omega) (by decide) ?_
  refine lv_iload_n hx hb dX12_itemOf_108 rfl (lv_at hl 1 rfl) ?_
  refine lv_bipush (v := 115) hx hb dX12_itemOf_109 (by decide) ?_
  refine lv_icmp_ne (tgt := 118) hx hb dX12_itemOf_111 (by decide) (fun z => ?_) (fun z => ?_)
  · have h := sg_iff h z
    refine lv_iconst (v := -1) hx hb dX12_itemOf_118 (by decide) ?_
    obtain rfl := Option.some.inj h
    exact hk _ _ _ _ _ I ⟨_, rfl, rfl⟩ dX12_itemOf_119
  · have h := sg_ift h z
    refine lv_iconst (v := 0) hx hb dX12_itemOf_114 (by decide) ?_
    refine lv_goto (tgt := 119) hx hb dX12_itemOf_115 (by decide) ?_
    obtain rfl := Option.some.inj h
    exact hk _ _ _ _ _ I ⟨_, rfl, rfl⟩ dX12_itemOf_119
set_option maxHeartbeats 4000000 in
set_option maxRecDepth 100000 in
theorem c_X12_itemOf {l : Launch} {P : sgP} {N : Nat} {p0 : Int32} {p1 : Int32} {σ : sgS} {q : Int32} (h : f_X12_itemOf N p0 p1 σ = some q) : sg_Mi P shM 35 l yX12_itemOf cX12_itemOf 2 (some .int) 1 [.int p0, .int p1] σ (q, σ) := by
  refine sg_mki (plainFor_of_name (by decide +kernel)) (Nat.le_of_ble_eq_true rfl) ?_
  intro p e R s m args below meth c Q A ls H locs X I hl hk
  exact b_X12_itemOf X I hl h hk
def f_X12_lowest_B10 (N : Nat) (p0 : Int32) (p1 : Int32) (σ : sgS) : Option (Int32) :=
  if p0 = 114 then
  (if p1 = 2 then
    (some 1)
  else
    (some 0))
else
  (some 0)
set_option maxHeartbeats 4000000 in
set_option maxRecDepth 100000 in
theorem b_X12_lowest_B10 {p : Program} {l : Launch} {e : Env} {R : Room} {s : State} {m : MethodId} {args : Array Value} {below : List Frame} {meth : Method} {c : Code} {Q : State → Prop} {P : sgP} {A : Nat → Prop} {N : Nat} {p0 : Int32} {p1 : Int32} {σ : sgS} (X : sg_C P A 1 p R s m args c cX12_lowest 2 RX12) {H : Heap} {locs : List Loc} (I : sg_I P shM 35 A s.heap σ H locs) {ls : Array Slot} (hl : lv_has ls 2 [(0, .int p0), (1, .int p1)]) {st : Int32} (h : f_X12_lowest_B10 N p0 p1 σ = some st) (hk : sg_Ri p l e R s m args below meth c Q P shM 35 A cX12_lowest (some .int) (st, σ)) : W p l e R s m args below meth c H locs 0 0 Q (F0 m 10 ls []) := by
  unfold f_X12_lowest_B10 at h
  have hx := X.1.1
  have hb := X.1.2.1
  have hown := X.1.2.2.2.1
  have hts := X.1.2.2.2.2
  refine lv_iload_n hx hb dX12_lowest_10 rfl (lv_at hl 0 rfl) ?_
  refine lv_bipush (v := 114) hx hb dX12_lowest_11 (by decide) ?_
  refine lv_icmp_ne (tgt := 25) hx hb dX12_lowest_13 (by decide) (fun z => ?_) (fun z => ?_)
  · have h := sg_iff h z
    refine lv_iconst (v := 0) hx hb dX12_lowest_25 (by decide) ?_
    obtain rfl := Option.some.inj h
    exact hk _ _ _ _ _ I ⟨_, rfl, rfl⟩ dX12_lowest_26
  · have h := sg_ift h z
    refine lv_iload_n hx hb dX12_lowest_16 rfl (lv_at hl 1 rfl) ?_
    refine lv_iconst (v := 2) hx hb dX12_lowest_17 (by decide) ?_
    refine lv_icmp_ne (tgt := 25) hx hb dX12_lowest_18 (by decide) (fun z => ?_) (fun z => ?_)
    · have h := sg_iff h z
      refine lv_iconst (v := 0) hx hb dX12_lowest_25 (by decide) ?_
      obtain rfl := Option.some.inj h
      exact hk _ _ _ _ _ I ⟨_, rfl, rfl⟩ dX12_lowest_26
    · have h := sg_ift h z
      refine lv_iconst (v := 1) hx hb dX12_lowest_21 (by decide) ?_
      refine lv_goto (tgt := 26) hx hb dX12_lowest_22 (by decide) ?_
      obtain rfl := Option.some.inj h
      exact hk _ _ _ _ _ I ⟨_, rfl, rfl⟩ dX12_lowest_26
def f_X12_lowest (N : Nat) (p0 : Int32) (p1 : Int32) (σ : sgS) : Option (Int32) :=
  if p0 = 115 then
  (if p1 = 0 then
    (some 1)
  else
    (f_X12_lowest_B10 N p0 p1 σ))
else
  (f_X12_lowest_B10 N p0 p1 σ)
set_option maxHeartbeats 4000000 in
set_option maxRecDepth 100000 in
theorem b_X12_lowest {p : Program} {l : Launch} {e : Env} {R : Room} {s : State} {m : MethodId} {args : Array Value} {below : List Frame} {meth : Method} {c : Code} {Q : State → Prop} {P : sgP} {A : Nat → Prop} {N : Nat} {p0 : Int32} {p1 : Int32} {σ : sgS} (X : sg_C P A 1 p R s m args c cX12_lowest 2 RX12) {H : Heap} {locs : List Loc} (I : sg_I P shM 35 A s.heap σ H locs) {ls : Array Slot} (hl : lv_has ls 2 [(0, .int p0), (1, .int p1)]) {st : Int32} (h : f_X12_lowest N p0 p1 σ = some st) (hk : sg_Ri p l e R s m args below meth c Q P shM 35 A cX12_lowest (some .int) (st, σ)) : W p l e R s m args below meth c H locs 0 0 Q (F0 m 0 ls []) := by
  unfold f_X12_lowest at h
  have hx := X.1.1
  have hb := X.1.2.1
  have hown := X.1.2.2.2.1
  have hts := X.1.2.2.2.2
  refine lv_iload_n hx hb dX12_lowest_0 rfl (lv_at hl 0 rfl) ?_
  refine lv_bipush (v := 115) hx hb dX12_lowest_1 (by decide) ?_
  refine lv_icmp_ne (tgt := 10) hx hb dX12_lowest_3 (by decide) (fun z => ?_) (fun z => ?_)
  · have h := sg_iff h z
    exact b_X12_lowest_B10 X I (lv_sub hl [0, 1] rfl) h hk
  · have h := sg_ift h z
    refine lv_iload_n hx hb dX12_lowest_6 rfl (lv_at hl 1 rfl) ?_
    refine lv_if_eq (tgt := 21) hx hb dX12_lowest_7 (by decide) (fun z => ?_) (fun z => ?_)
    · have h := sg_ift h z
      refine lv_iconst (v := 1) hx hb dX12_lowest_21 (by decide) ?_
      refine lv_goto (tgt := 26) hx hb dX12_lowest_22 (by decide) ?_
      obtain rfl := Option.some.inj h
      exact hk _ _ _ _ _ I ⟨_, rfl, rfl⟩ dX12_lowest_26
    · have h := sg_iff h z
      exact b_X12_lowest_B10 X I (lv_sub hl [0, 1] rfl) h hk
set_option maxHeartbeats 4000000 in
set_option maxRecDepth 100000 in
theorem c_X12_lowest {l : Launch} {P : sgP} {N : Nat} {p0 : Int32} {p1 : Int32} {σ : sgS} {q : Int32} (h : f_X12_lowest N p0 p1 σ = some q) : sg_Mi P shM 35 l yX12_lowest cX12_lowest 2 (some .int) 1 [.int p0, .int p1] σ (q, σ) := by
  refine sg_mki (plainFor_of_name (by decide +kernel)) (Nat.le_of_ble_eq_true rfl) ?_
  intro p e R s m args below meth c Q A ls H locs X I hl hk
  exact b_X12_lowest X I hl h hk
def f_X12_highest (N : Nat) (p0 : Int32) (p1 : Int32) (σ : sgS) : Option (Int32) :=
  if p0 = 112 then
  (some 9)
else
  (if p0 = 113 then
    (some 6)
  else
    (if p0 = 114 then
      (if 2 ≤ p1 then
        (some 9)
      else
        (some 6))
    else
      (if p0 = 115 then
        (if p1 = 0 then
          (some 24)
        else
          (some 99))
      else
        (some 6))))
set_option maxHeartbeats 4000000 in
set_option maxRecDepth 100000 in
theorem b_X12_highest {p : Program} {l : Launch} {e : Env} {R : Room} {s : State} {m : MethodId} {args : Array Value} {below : List Frame} {meth : Method} {c : Code} {Q : State → Prop} {P : sgP} {A : Nat → Prop} {N : Nat} {p0 : Int32} {p1 : Int32} {σ : sgS} (X : sg_C P A 1 p R s m args c cX12_highest 2 RX12) {H : Heap} {locs : List Loc} (I : sg_I P shM 35 A s.heap σ H locs) {ls : Array Slot} (hl : lv_has ls 2 [(0, .int p0), (1, .int p1)]) {st : Int32} (h : f_X12_highest N p0 p1 σ = some st) (hk : sg_Ri p l e R s m args below meth c Q P shM 35 A cX12_highest (some .int) (st, σ)) : W p l e R s m args below meth c H locs 0 0 Q (F0 m 0 ls []) := by
  unfold f_X12_highest at h
  have hx := X.1.1
  have hb := X.1.2.1
  have hown := X.1.2.2.2.1
  have hts := X.1.2.2.2.2
  refine lv_iload_n hx hb dX12_highest_0 rfl (lv_at hl 0 rfl) ?_
  by_cases c0 : p0 = 112
  · have h := sg_ift h c0
    refine sg_swIn (k := 112) (off := 43) (tgt := 44) hx hb dX12_highest_1 c0 (by decide) (by decide) (by decide +kernel) (by decide) ?_
    refine lv_bipush (v := 9) hx hb dX12_highest_44 (by decide) ?_
    obtain rfl := Option.some.inj h
    exact hk _ _ _ _ _ I ⟨_, rfl, rfl⟩ dX12_highest_46
  have h := sg_iff h c0
  have i0 := sg_ine (z := 112) (by decide) c0
  by_cases c1 : p0 = 113
  · have h := sg_ift h c1
    refine sg_swIn (k := 113) (off := 59) (tgt := 60) hx hb dX12_highest_1 c1 (by decide) (by decide) (by decide +kernel) (by decide) ?_
    refine lv_bipush (v := 6) hx hb dX12_highest_60 (by decide) ?_
    obtain rfl := Option.some.inj h
    exact hk _ _ _ _ _ I ⟨_, rfl, rfl⟩ dX12_highest_62
  have h := sg_iff h c1
  have i1 := sg_ine (z := 113) (by decide) c1
  by_cases c2 : p0 = 114
  · have h := sg_ift h c2
    refine sg_swIn (k := 114) (off := 46) (tgt := 47) hx hb dX12_highest_1 c2 (by decide) (by decide) (by decide +kernel) (by decide) ?_
    refine lv_iload_n hx hb dX12_highest_47 rfl (lv_at hl 1 rfl) ?_
    refine lv_iconst (v := 2) hx hb dX12_highest_48 (by decide) ?_
    refine lv_icmp_ge (tgt := 57) hx hb dX12_highest_49 (by decide) (fun z => ?_) (fun z => ?_)
    · have h := sg_ift h z
      refine lv_bipush (v := 9) hx hb dX12_highest_57 (by decide) ?_
      obtain rfl := Option.some.inj h
      exact hk _ _ _ _ _ I ⟨_, rfl, rfl⟩ dX12_highest_59
    · have h := sg_iff h z
      refine lv_bipush (v := 6) hx hb dX12_highest_52 (by decide) ?_
      refine lv_goto (tgt := 59) hx hb dX12_highest_54 (by decide) ?_
      obtain rfl := Option.some.inj h
      exact hk _ _ _ _ _ I ⟨_, rfl, rfl⟩ dX12_highest_59
  have h := sg_iff h c2
  have i2 := sg_ine (z := 114) (by decide) c2
  by_cases c3 : p0 = 115
  · have h := sg_ift h c3
    refine sg_swIn (k := 115) (off := 31) (tgt := 32) hx hb dX12_highest_1 c3 (by decide) (by decide) (by decide +kernel) (by decide) ?_
    refine lv_iload_n hx hb dX12_highest_32 rfl (lv_at hl 1 rfl) ?_
    refine lv_if_ne (tgt := 41) hx hb dX12_highest_33 (by decide) (fun z => ?_) (fun z => ?_)
    · have h := sg_iff h z
      refine lv_bipush (v := 99) hx hb dX12_highest_41 (by decide) ?_
      obtain rfl := Option.some.inj h
      exact hk _ _ _ _ _ I ⟨_, rfl, rfl⟩ dX12_highest_43
    · have h := sg_ift h z
      refine lv_bipush (v := 24) hx hb dX12_highest_36 (by decide) ?_
      refine lv_goto (tgt := 43) hx hb dX12_highest_38 (by decide) ?_
      obtain rfl := Option.some.inj h
      exact hk _ _ _ _ _ I ⟨_, rfl, rfl⟩ dX12_highest_43
  have h := sg_iff h c3
  have i3 := sg_ine (z := 115) (by decide) c3
  refine lv_tableOut (tgt := 60) hx hb dX12_highest_1 (by omega) (by decide) ?_
  refine lv_bipush (v := 6) hx hb dX12_highest_60 (by decide) ?_
  obtain rfl := Option.some.inj h
  exact hk _ _ _ _ _ I ⟨_, rfl, rfl⟩ dX12_highest_62
set_option maxHeartbeats 4000000 in
set_option maxRecDepth 100000 in
theorem c_X12_highest {l : Launch} {P : sgP} {N : Nat} {p0 : Int32} {p1 : Int32} {σ : sgS} {q : Int32} (h : f_X12_highest N p0 p1 σ = some q) : sg_Mi P shM 35 l yX12_highest cX12_highest 2 (some .int) 1 [.int p0, .int p1] σ (q, σ) := by
  refine sg_mki (plainFor_of_name (by decide +kernel)) (Nat.le_of_ble_eq_true rfl) ?_
  intro p e R s m args below meth c Q A ls H locs X I hl hk
  exact b_X12_highest X I hl h hk
def f_X12_usual (N : Nat) (p0 : Int32) (p1 : Int32) (σ : sgS) : Option (Int32) :=
  if p0 = 112 then
  (some 3)
else
  (if p0 = 113 then
    (some 0)
  else
    (if p0 = 114 then
      (if p1 = 1 then
        (some 1)
      else
        (if p1 = 2 then
          (some 4)
        else
          (if p1 = 3 then
            (some 2)
          else
            (some 0))))
    else
      (if p0 = 115 then
        (if p1 = 0 then
          (some 12)
        else
          (some 20))
      else
        (some 0))))
set_option maxHeartbeats 4000000 in
set_option maxRecDepth 100000 in
theorem b_X12_usual {p : Program} {l : Launch} {e : Env} {R : Room} {s : State} {m : MethodId} {args : Array Value} {below : List Frame} {meth : Method} {c : Code} {Q : State → Prop} {P : sgP} {A : Nat → Prop} {N : Nat} {p0 : Int32} {p1 : Int32} {σ : sgS} (X : sg_C P A 1 p R s m args c cX12_usual 2 RX12) {H : Heap} {locs : List Loc} (I : sg_I P shM 35 A s.heap σ H locs) {ls : Array Slot} (hl : lv_has ls 2 [(0, .int p0), (1, .int p1)]) {st : Int32} (h : f_X12_usual N p0 p1 σ = some st) (hk : sg_Ri p l e R s m args below meth c Q P shM 35 A cX12_usual (some .int) (st, σ)) : W p l e R s m args below meth c H locs 0 0 Q (F0 m 0 ls []) := by
  unfold f_X12_usual at h
  have hx := X.1.1
  have hb := X.1.2.1
  have hown := X.1.2.2.2.1
  have hts := X.1.2.2.2.2
  refine lv_iload_n hx hb dX12_usual_0 rfl (lv_at hl 0 rfl) ?_
  by_cases c0 : p0 = 112
  · have h := sg_ift h c0
    refine sg_swIn (k := 112) (off := 43) (tgt := 44) hx hb dX12_usual_1 c0 (by decide) (by decide) (by decide +kernel) (by decide) ?_
    refine lv_iconst (v := 3) hx hb dX12_usual_44 (by decide) ?_
    obtain rfl := Option.some.inj h
    exact hk _ _ _ _ _ I ⟨_, rfl, rfl⟩ dX12_usual_45
  have h := sg_iff h c0
  have i0 := sg_ine (z := 112) (by decide) c0
  by_cases c1 : p0 = 113
  · have h := sg_ift h c1
    refine sg_swIn (k := 113) (off := 74) (tgt := 75) hx hb dX12_usual_1 c1 (by decide) (by decide) (by decide +kernel) (by decide) ?_
    refine lv_iconst (v := 0) hx hb dX12_usual_75 (by decide) ?_
    obtain rfl := Option.some.inj h
    exact hk _ _ _ _ _ I ⟨_, rfl, rfl⟩ dX12_usual_76
  have h := sg_iff h c1
  have i1 := sg_ine (z := 113) (by decide) c1
  by_cases c2 : p0 = 114
  · have h := sg_ift h c2
    refine sg_swIn (k := 114) (off := 45) (tgt := 46) hx hb dX12_usual_1 c2 (by decide) (by decide) (by decide +kernel) (by decide) ?_
    refine lv_iload_n hx hb dX12_usual_46 rfl (lv_at hl 1 rfl) ?_
    refine lv_iconst (v := 1) hx hb dX12_usual_47 (by decide) ?_
    refine lv_icmp_ne (tgt := 55) hx hb dX12_usual_48 (by decide) (fun z => ?_) (fun z => ?_)
    · have h := sg_iff h z
      refine lv_iload_n hx hb dX12_usual_55 rfl (lv_at hl 1 rfl) ?_
      refine lv_iconst (v := 2) hx hb dX12_usual_56 (by decide) ?_
      refine lv_icmp_ne (tgt := 64) hx hb dX12_usual_57 (by decide) (fun z => ?_) (fun z => ?_)
      · have h := sg_iff h z
        refine lv_iload_n hx hb dX12_usual_64 rfl (lv_at hl 1 rfl) ?_
        refine lv_iconst (v := 3) hx hb dX12_usual_65 (by decide) ?_
        refine lv_icmp_ne (tgt := 73) hx hb dX12_usual_66 (by decide) (fun z => ?_) (fun z => ?_)
        · have h := sg_iff h z
          refine lv_iconst (v := 0) hx hb dX12_usual_73 (by decide) ?_
          obtain rfl := Option.some.inj h
          exact hk _ _ _ _ _ I ⟨_, rfl, rfl⟩ dX12_usual_74
        · have h := sg_ift h z
          refine lv_iconst (v := 2) hx hb dX12_usual_69 (by decide) ?_
          refine lv_goto (tgt := 74) hx hb dX12_usual_70 (by decide) ?_
          obtain rfl := Option.some.inj h
          exact hk _ _ _ _ _ I ⟨_, rfl, rfl⟩ dX12_usual_74
      · have h := sg_ift h z
        refine lv_iconst (v := 4) hx hb dX12_usual_60 (by decide) ?_
        refine lv_goto (tgt := 74) hx hb dX12_usual_61 (by decide) ?_
        obtain rfl := Option.some.inj h
        exact hk _ _ _ _ _ I ⟨_, rfl, rfl⟩ dX12_usual_74
    · have h := sg_ift h z
      refine lv_iconst (v := 1) hx hb dX12_usual_51 (by decide) ?_
      refine lv_goto (tgt := 74) hx hb dX12_usual_52 (by decide) ?_
      obtain rfl := Option.some.inj h
      exact hk _ _ _ _ _ I ⟨_, rfl, rfl⟩ dX12_usual_74
  have h := sg_iff h c2
  have i2 := sg_ine (z := 114) (by decide) c2
  by_cases c3 : p0 = 115
  · have h := sg_ift h c3
    refine sg_swIn (k := 115) (off := 31) (tgt := 32) hx hb dX12_usual_1 c3 (by decide) (by decide) (by decide +kernel) (by decide) ?_
    refine lv_iload_n hx hb dX12_usual_32 rfl (lv_at hl 1 rfl) ?_
    refine lv_if_ne (tgt := 41) hx hb dX12_usual_33 (by decide) (fun z => ?_) (fun z => ?_)
    · have h := sg_iff h z
      refine lv_bipush (v := 20) hx hb dX12_usual_41 (by decide) ?_
      obtain rfl := Option.some.inj h
      exact hk _ _ _ _ _ I ⟨_, rfl, rfl⟩ dX12_usual_43
    · have h := sg_ift h z
      refine lv_bipush (v := 12) hx hb dX12_usual_36 (by decide) ?_
      refine lv_goto (tgt := 43) hx hb dX12_usual_38 (by decide) ?_
      obtain rfl := Option.some.inj h
      exact hk _ _ _ _ _ I ⟨_, rfl, rfl⟩ dX12_usual_43
  have h := sg_iff h c3
  have i3 := sg_ine (z := 115) (by decide) c3
  refine lv_tableOut (tgt := 75) hx hb dX12_usual_1 (by omega) (by decide) ?_
  refine lv_iconst (v := 0) hx hb dX12_usual_75 (by decide) ?_
  obtain rfl := Option.some.inj h
  exact hk _ _ _ _ _ I ⟨_, rfl, rfl⟩ dX12_usual_76
set_option maxHeartbeats 4000000 in
set_option maxRecDepth 100000 in
theorem c_X12_usual {l : Launch} {P : sgP} {N : Nat} {p0 : Int32} {p1 : Int32} {σ : sgS} {q : Int32} (h : f_X12_usual N p0 p1 σ = some q) : sg_Mi P shM 35 l yX12_usual cX12_usual 2 (some .int) 1 [.int p0, .int p1] σ (q, σ) := by
  refine sg_mki (plainFor_of_name (by decide +kernel)) (Nat.le_of_ble_eq_true rfl) ?_
  intro p e R s m args below meth c Q A ls H locs X I hl hk
  exact b_X12_usual X I hl h hk
def f_X12_items_L3 (N : Nat) (p1 : Int32) (p2 : Nat) (p2n : Nat) (p3 : Int32) (p4 : Int32) (x5 : Int32) (σ : sgS) : Option ((Int32 × sgS) ⊕ ((sgS × Int32) ⊕ (sgS))) :=
  if p4 ≤ x5 then
  (some (.inr (.inr σ)))
else
  (sg_cr (f_X12_usual N p1 x5 σ) fun v1 =>
  sg_st σ p2 p2n (p3 + x5) v1 fun s2 =>
  some (.inr (.inl (s2, x5 + 1))))
set_option maxHeartbeats 4000000 in
set_option maxRecDepth 100000 in
theorem b_X12_items_L3 {p : Program} {l : Launch} {e : Env} {R : Room} {s : State} {m : MethodId} {args : Array Value} {below : List Frame} {meth : Method} {c : Code} {Q : State → Prop} {P : sgP} {A : Nat → Prop} {N : Nat} {p1 : Int32} {p2 : Nat} {p2n : Nat} {p3 : Int32} {p4 : Int32} {x5 : Int32} {σ : sgS} (X : sg_C P A 4 p R s m args c cX12_items 7 RX12) (hp2 : p2 < 35) (gp2 : shM p2 = .inr (0, p2n, sg_g0)) {H : Heap} {locs : List Loc} (I : sg_I P shM 35 A s.heap σ H locs) {ls : Array Slot} (hl : lv_has ls 7 [(0, .ref (sgA P 0)), (1, .int p1), (2, .ref (sgA P p2)), (3, .int p3), (4, .int p4), (5, .int x5)]) {st : (Int32 × sgS) ⊕ ((sgS × Int32) ⊕ (sgS))} (h : f_X12_items_L3 N p1 p2 p2n p3 p4 x5 σ = some st) (hk : sg_k3 (sg_Rv p l e R s m args below meth c Q P shM 35 A cX12_items) (fun x => sg_Wt p l e R s m args below meth c Q P shM 35 A 7 3 x.1 [(0, .ref (sgA P 0)), (1, .int p1), (2, .ref (sgA P p2)), (3, .int p3), (4, .int p4), (5, .int x.2)]) (fun y => sg_Wt p l e R s m args below meth c Q P shM 35 A 7 28 y [(0, .ref (sgA P 0)), (1, .int p1), (2, .ref (sgA P p2)), (3, .int p3)]) st) : W p l e R s m args below meth c H locs 0 0 Q (F0 m 3 ls []) := by
  unfold f_X12_items_L3 at h
  have hx := X.1.1
  have hb := X.1.2.1
  have hown := X.1.2.2.2.1
  have hts := X.1.2.2.2.2
  refine lv_iload hx hb dX12_items_3 (lv_at hl 5 rfl) ?_
  refine lv_iload hx hb dX12_items_5 (lv_at hl 4 rfl) ?_
  refine lv_icmp_ge (tgt := 28) hx hb dX12_items_7 (by decide) (fun z => ?_) (fun z => ?_)
  · have h := sg_ift h z
    obtain rfl := Option.some.inj h
    exact sg_go hk I (lv_sub hl [0, 1, 2, 3] rfl)
  · have h := sg_iff h z
    refine lv_aload_n hx hb dX12_items_10 rfl (lv_at hl 2 rfl) ?_
    refine lv_iload_n hx hb dX12_items_11 rfl (lv_at hl 3 rfl) ?_
    refine lv_iload hx hb dX12_items_12 (lv_at hl 5 rfl) ?_
    refine lv_iadd hx hb dX12_items_14 ?_
    refine lv_iload_n hx hb dX12_items_15 rfl (lv_at hl 1 rfl) ?_
    refine lv_iload hx hb dX12_items_16 (lv_at hl 5 rfl) ?_
    refine sg_callSr (As := [.int p1, .int x5]) X I mk_X12_239 (by decide) (fun q9 e9 => c_X12_usual e9) h hl.1 rfl rfl (Nat.le_of_ble_eq_true rfl) dX12_items_18 (fun v1 H locs h I => ?_)
    refine sg_iast X I hp2 gp2 h dX12_items_21 (fun s2 H locs h I => ?_)
    refine lv_iinc (v := x5 + 1) (lv' := [(5, .int (x5 + 1)), (0, .ref (sgA P 0)), (1, .int p1), (2, .ref (sgA P p2)), (3, .int p3), (4, .int p4)]) hx hb dX12_items_22 hl (k := 5) rfl rfl (by decide) rfl (fun ls hl => ?_)
    refine lv_goto (tgt := 3) hx hb dX12_items_25 (by decide) ?_
    obtain rfl := Option.some.inj h
    exact sg_go hk I (lv_sub hl [1, 2, 3, 4, 5, 0] rfl)
def f_X12_items_L41 (N : Nat) (p1 : Int32) (p2 : Nat) (p2n : Nat) (p3 : Int32) (p4 : Int32) (x5 : Int32) (x6 : Int32) (σ : sgS) : Option ((Int32 × sgS) ⊕ ((sgS × Int32 × Int32) ⊕ (sgS))) :=
  if (σ.1 0 4) = ((-1)) then
  (if x6 = ((-1)) then
    (some (.inr (.inr σ)))
  else
    (sg_cr (f_X12_has N x5 x6 σ) fun v7 =>
    if v7 = 0 then
      (sg_pf σ 0 3 ((σ.1 0 3) + 1) fun s8 =>
      sg_cr (f_X12_lowest N p1 x6 s8) fun v9 =>
      sg_cr (f_X12_highest N p1 x6 s8) fun v10 =>
      sg_cl (f_X12_number N v9 v10 s8) fun v11 s12 =>
      sg_st s12 p2 p2n (p3 + x6) v11 fun s13 =>
      if (s13.1 0 4) = ((-1)) then
        (sg_cl (f_X12_look N s13) fun v14 s15 =>
        sg_cr (f_X12_itemOf N p1 v14 s15) fun v16 =>
        some (.inr (.inl (s15, x5 ||| (1 <<< (x6 &&& 31)), v16))))
      else
        (some (.inr (.inl (s13, x5 ||| (1 <<< (x6 &&& 31)), (-1))))))
    else
      (some (.inr (.inr σ)))))
else
  (some (.inr (.inr σ)))
set_option maxHeartbeats 4000000 in
set_option maxRecDepth 100000 in
theorem b_X12_items_L41 {p : Program} {l : Launch} {e : Env} {R : Room} {s : State} {m : MethodId} {args : Array Value} {below : List Frame} {meth : Method} {c : Code} {Q : State → Prop} {P : sgP} {A : Nat → Prop} {N : Nat} {p1 : Int32} {p2 : Nat} {p2n : Nat} {p3 : Int32} {p4 : Int32} {x5 : Int32} {x6 : Int32} {σ : sgS} (X : sg_C P A 4 p R s m args c cX12_items 7 RX12) (hp2 : p2 < 35) (gp2 : shM p2 = .inr (0, p2n, sg_g0)) {H : Heap} {locs : List Loc} (I : sg_I P shM 35 A s.heap σ H locs) {ls : Array Slot} (hl : lv_has ls 7 [(0, .ref (sgA P 0)), (1, .int p1), (2, .ref (sgA P p2)), (3, .int p3), (5, .int x5), (6, .int x6)]) {st : (Int32 × sgS) ⊕ ((sgS × Int32 × Int32) ⊕ (sgS))} (h : f_X12_items_L41 N p1 p2 p2n p3 p4 x5 x6 σ = some st) (hk : sg_k3 (sg_Rv p l e R s m args below meth c Q P shM 35 A cX12_items) (fun x => sg_Wt p l e R s m args below meth c Q P shM 35 A 7 41 x.1 [(0, .ref (sgA P 0)), (1, .int p1), (2, .ref (sgA P p2)), (3, .int p3), (5, .int x.2.1), (6, .int x.2.2)]) (fun y => sg_Wt p l e R s m args below meth c Q P shM 35 A 7 131 y []) st) : W p l e R s m args below meth c H locs 0 0 Q (F0 m 41 ls []) := by
  unfold f_X12_items_L41 at h
  have hx := X.1.1
  have hb := X.1.2.1
  have hown := X.1.2.2.2.1
  have hts := X.1.2.2.2.2
  refine lv_aload_n hx hb dX12_items_41 rfl (lv_at hl 0 rfl) ?_
  refine sg_geti X I fk_X12_137 (by decide) shM_0 rfl dX12_items_42 ?_
  refine lv_iconst (v := -1) hx hb dX12_items_45 (by decide) ?_
  refine lv_icmp_ne (tgt := 131) hx hb dX12_items_46 (by decide) (fun z => ?_) (fun z => ?_)
  · have h := sg_iff h z
    obtain rfl := Option.some.inj h
    exact sg_go hk I (lv_sub hl [] rfl)
  · have h := sg_ift h z
    refine lv_iload hx hb dX12_items_49 (lv_at hl 5 rfl) ?_
    refine lv_iconst (v := -1) hx hb dX12_items_51 (by decide) ?_
    refine lv_icmp_eq (tgt := 131) hx hb dX12_items_52 (by decide) (fun z => ?_) (fun z => ?_)
    · have h := sg_ift h z
      obtain rfl := Option.some.inj h
      exact sg_go hk I (lv_sub hl [] rfl)
    · have h := sg_iff h z
      refine lv_iload hx hb dX12_items_55 (lv_at hl 4 rfl) ?_
      refine lv_iload hx hb dX12_items_57 (lv_at hl 5 rfl) ?_
      refine sg_callSr (As := [.int x5, .int x6]) X I mk_X12_246 (by decide) (fun q9 e9 => c_X12_has e9) h hl.1 rfl rfl (Nat.le_of_ble_eq_true rfl) dX12_items_59 (fun v7 H locs h I => ?_)
      refine lv_if_ne (tgt := 131) hx hb dX12_items_62 (by decide) (fun z => ?_) (fun z => ?_)
      · have h := sg_iff h z
        obtain rfl := Option.some.inj h
        exact sg_go hk I (lv_sub hl [] rfl)
      · have h := sg_ift h z
        refine lv_iload hx hb dX12_items_65 (lv_at hl 4 rfl) ?_
        refine lv_iconst (v := 1) hx hb dX12_items_67 (by decide) ?_
        refine lv_iload hx hb dX12_items_68 (lv_at hl 5 rfl) ?_
        refine lv_ishl hx hb dX12_items_70 ?_
        refine lv_ior hx hb dX12_items_71 ?_
        refine lv_istore (lv' := [(5, .int (x5 ||| (1 <<< (x6 &&& 31)))), (0, .ref (sgA P 0)), (1, .int p1), (2, .ref (sgA P p2)), (3, .int p3), (6, .int x6)]) hx hb dX12_items_72 hl (by decide) rfl (fun ls hl => ?_)
        refine lv_aload_n hx hb dX12_items_74 rfl (lv_at hl 1 rfl) ?_
        refine lv_dup hx hb dX12_items_75 rfl ?_
        refine sg_geti X I fk_X12_130 (by decide) shM_0 rfl dX12_items_76 ?_
        refine lv_iconst (v := 1) hx hb dX12_items_79 (by decide) ?_
        refine lv_iadd hx hb dX12_items_80 ?_
        refine sg_puti X I fk_X12_130 wk_12_3 rfl rfl (by decide) shM_0 rfl h dX12_items_81 (fun s8 H locs h I => ?_)
        refine lv_aload_n hx hb dX12_items_84 rfl (lv_at hl 3 rfl) ?_
        refine lv_iload_n hx hb dX12_items_85 rfl (lv_at hl 4 rfl) ?_
        refine lv_iload hx hb dX12_items_86 (lv_at hl 5 rfl) ?_
        refine lv_iadd hx hb dX12_items_88 ?_
        refine lv_aload_n hx hb dX12_items_89 rfl (lv_at hl 1 rfl) ?_
        refine lv_iload_n hx hb dX12_items_90 rfl (lv_at hl 2 rfl) ?_
        refine lv_iload hx hb dX12_items_91 (lv_at hl 5 rfl) ?_
        refine sg_callSr (As := [.int p1, .int x6]) X I mk_X12_250 (by decide) (fun q9 e9 => c_X12_lowest e9) h hl.1 rfl rfl (Nat.le_of_ble_eq_true rfl) dX12_items_93 (fun v9 H locs h I => ?_)
        refine lv_iload_n hx hb dX12_items_96 rfl (lv_at hl 2 rfl) ?_
        refine lv_iload hx hb dX12_items_97 (lv_at hl 5 rfl) ?_
        refine sg_callSr (As := [.int p1, .int x6]) X I mk_X12_253 (by decide) (fun q9 e9 => c_X12_highest e9) h hl.1 rfl rfl (Nat.le_of_ble_eq_true rfl) dX12_items_99 (fun v10 H locs h I => ?_)
        refine sg_callV (As := [.int v9, .int v10]) X I mk_X12_256 (by decide) (by decide) shM_0 rfl (fun q9 e9 => c_X12_number e9) h hl.1 rfl rfl (Nat.le_of_ble_eq_true rfl) dX12_items_102 (fun v11 s12 H locs h I => ?_)
        refine sg_iast X I hp2 gp2 h dX12_items_105 (fun s13 H locs h I => ?_)
        refine lv_aload_n hx hb dX12_items_106 rfl (lv_at hl 1 rfl) ?_
        refine sg_geti X I fk_X12_137 (by decide) shM_0 rfl dX12_items_107 ?_
        refine lv_iconst (v := -1) hx hb dX12_items_110 (by decide) ?_
        refine lv_icmp_ne (tgt := 125) hx hb dX12_items_111 (by decide) (fun z => ?_) (fun z => ?_)
        · have h := sg_iff h z
          refine lv_iconst (v := -1) hx hb dX12_items_125 (by decide) ?_
          refine lv_istore (lv' := [(6, .int ((-1))), (5, .int (x5 ||| (1 <<< (x6 &&& 31)))), (0, .ref (sgA P 0)), (1, .int p1), (2, .ref (sgA P p2)), (3, .int p3)]) hx hb dX12_items_126 hl (by decide) rfl (fun ls hl => ?_)
          refine lv_goto (tgt := 41) hx hb dX12_items_128 (by decide) ?_
          obtain rfl := Option.some.inj h
          exact sg_go hk I (lv_sub hl [2, 3, 4, 5, 1, 0] rfl)
        · have h := sg_ift h z
          refine lv_iload_n hx hb dX12_items_114 rfl (lv_at hl 2 rfl) ?_
          refine lv_aload_n hx hb dX12_items_115 rfl (lv_at hl 1 rfl) ?_
          refine sg_callV (As := []) X I mk_X12_149 (by decide) (by decide) shM_0 rfl (fun q9 e9 => c_X12_look e9) h hl.1 rfl rfl (Nat.le_of_ble_eq_true rfl) dX12_items_116 (fun v14 s15 H locs h I => ?_)
          refine sg_callSr (As := [.int p1, .int v14]) X I mk_X12_243 (by decide) (fun q9 e9 => c_X12_itemOf e9) h hl.1 rfl rfl (Nat.le_of_ble_eq_true rfl) dX12_items_119 (fun v16 H locs h I => ?_)
          refine lv_goto (tgt := 126) hx hb dX12_items_122 (by decide) ?_
          refine lv_istore (lv' := [(6, .int v16), (5, .int (x5 ||| (1 <<< (x6 &&& 31)))), (0, .ref (sgA P 0)), (1, .int p1), (2, .ref (sgA P p2)), (3, .int p3)]) hx hb dX12_items_126 hl (by decide) rfl (fun ls hl => ?_)
          refine lv_goto (tgt := 41) hx hb dX12_items_128 (by decide) ?_
          obtain rfl := Option.some.inj h
          exact sg_go hk I (lv_sub hl [2, 3, 4, 5, 1, 0] rfl)
def f_X12_items (N : Nat) (p1 : Int32) (p2 : Nat) (p2n : Nat) (p3 : Int32) (p4 : Int32) (σ : sgS) : Option (Int32 × sgS) :=
  sg_lb (sg_lp (fun x => f_X12_items_L3 N p1 p2 p2n p3 p4 x.2 x.1) N ((σ, 0))) (fun r => some r) fun y3 =>
sg_cl (f_X12_look N y3) fun v4 s5 =>
sg_cr (f_X12_itemOf N p1 v4 s5) fun v6 =>
sg_lb (sg_lp (fun x => f_X12_items_L41 N p1 p2 p2n p3 p4 x.2.1 x.2.2 x.1) N ((s5, 0, v6))) (fun r => some r) fun y17 =>
some (0, y17)
set_option maxHeartbeats 4000000 in
set_option maxRecDepth 100000 in
theorem b_X12_items {p : Program} {l : Launch} {e : Env} {R : Room} {s : State} {m : MethodId} {args : Array Value} {below : List Frame} {meth : Method} {c : Code} {Q : State → Prop} {P : sgP} {A : Nat → Prop} {N : Nat} {p1 : Int32} {p2 : Nat} {p2n : Nat} {p3 : Int32} {p4 : Int32} {σ : sgS} (X : sg_C P A 4 p R s m args c cX12_items 7 RX12) (hp2 : p2 < 35) (gp2 : shM p2 = .inr (0, p2n, sg_g0)) {H : Heap} {locs : List Loc} (I : sg_I P shM 35 A s.heap σ H locs) {ls : Array Slot} (hl : lv_has ls 7 [(0, .ref (sgA P 0)), (1, .int p1), (2, .ref (sgA P p2)), (3, .int p3), (4, .int p4)]) {st : Int32 × sgS} (h : f_X12_items N p1 p2 p2n p3 p4 σ = some st) (hk : sg_Rv p l e R s m args below meth c Q P shM 35 A cX12_items st) : W p l e R s m args below meth c H locs 0 0 Q (F0 m 0 ls []) := by
  unfold f_X12_items at h
  have hx := X.1.1
  have hb := X.1.2.1
  have hown := X.1.2.2.2.1
  have hts := X.1.2.2.2.2
  refine lv_iconst (v := 0) hx hb dX12_items_0 (by decide) ?_
  refine lv_istore (lv' := [(5, .int 0), (0, .ref (sgA P 0)), (1, .int p1), (2, .ref (sgA P p2)), (3, .int p3), (4, .int p4)]) hx hb dX12_items_1 hl (by decide) rfl (fun ls hl => ?_)
  obtain ⟨res, e9, k9⟩ := sg_lb_some h
  refine sg_go (sg_lp_W (a := (sg_Rv p l e R s m args below meth c Q P shM 35 A cX12_items)) (w := (fun x => sg_Wt p l e R s m args below meth c Q P shM 35 A 7 3 x.1 [(0, .ref (sgA P 0)), (1, .int p1), (2, .ref (sgA P p2)), (3, .int p3), (4, .int p4), (5, .int x.2)])) (c := (fun y => sg_Wt p l e R s m args below meth c Q P shM 35 A 7 28 y [(0, .ref (sgA P 0)), (1, .int p1), (2, .ref (sgA P p2)), (3, .int p3)])) (fun x st hb9 hk9 => ?_) N ((σ, 0)) res e9 (sg_k2_mono k9 (fun r h => ?_) (fun y3 h => ?_))) I (lv_sub hl [1, 2, 3, 4, 5, 0] rfl)
  · intro H locs ls I hl
    exact b_X12_items_L3 X hp2 gp2 I hl hb9 hk9
  · obtain rfl := Option.some.inj h
    exact hk
  · intro H locs ls I hl
    refine lv_iconst (v := 0) hx hb dX12_items_28 (by decide) ?_
    refine lv_istore (lv' := [(5, .int 0), (0, .ref (sgA P 0)), (1, .int p1), (2, .ref (sgA P p2)), (3, .int p3)]) hx hb dX12_items_29 hl (by decide) rfl (fun ls hl => ?_)
    refine lv_iload_n hx hb dX12_items_31 rfl (lv_at hl 2 rfl) ?_
    refine lv_aload_n hx hb dX12_items_32 rfl (lv_at hl 1 rfl) ?_
    refine sg_callV (As := []) X I mk_X12_149 (by decide) (by decide) shM_0 rfl (fun q9 e9 => c_X12_look e9) h hl.1 rfl rfl (Nat.le_of_ble_eq_true rfl) dX12_items_33 (fun v4 s5 H locs h I => ?_)
    refine sg_callSr (As := [.int p1, .int v4]) X I mk_X12_243 (by decide) (fun q9 e9 => c_X12_itemOf e9) h hl.1 rfl rfl (Nat.le_of_ble_eq_true rfl) dX12_items_36 (fun v6 H locs h I => ?_)
    refine lv_istore (lv' := [(6, .int v6), (5, .int 0), (0, .ref (sgA P 0)), (1, .int p1), (2, .ref (sgA P p2)), (3, .int p3)]) hx hb dX12_items_39 hl (by decide) rfl (fun ls hl => ?_)
    obtain ⟨res, e9, k9⟩ := sg_lb_some h
    refine sg_go (sg_lp_W (a := (sg_Rv p l e R s m args below meth c Q P shM 35 A cX12_items)) (w := (fun x => sg_Wt p l e R s m args below meth c Q P shM 35 A 7 41 x.1 [(0, .ref (sgA P 0)), (1, .int p1), (2, .ref (sgA P p2)), (3, .int p3), (5, .int x.2.1), (6, .int x.2.2)])) (c := (fun y => sg_Wt p l e R s m args below meth c Q P shM 35 A 7 131 y [])) (fun x st hb9 hk9 => ?_) N ((s5, 0, v6)) res e9 (sg_k2_mono k9 (fun r h => ?_) (fun y17 h => ?_))) I (lv_sub hl [2, 3, 4, 5, 1, 0] rfl)
    · intro H locs ls I hl
      exact b_X12_items_L41 X hp2 gp2 I hl hb9 hk9
    · obtain rfl := Option.some.inj h
      exact hk
    · intro H locs ls I hl
      obtain rfl := Option.some.inj h
      exact hk _ _ _ _ I dX12_items_131
set_option maxHeartbeats 4000000 in
set_option maxRecDepth 100000 in
theorem c_X12_items {l : Launch} {P : sgP} {N : Nat} {p1 : Int32} {p2 : Nat} {p2n : Nat} {p3 : Int32} {p4 : Int32} {σ : sgS} (hp2 : p2 < 35) (gp2 : shM p2 = .inr (0, p2n, sg_g0)) {q : Int32 × sgS} (h : f_X12_items N p1 p2 p2n p3 p4 σ = some q) : sg_Mv P shM 35 l yX12_items cX12_items 7 none 4 [.ref (sgA P 0), .int p1, .ref (sgA P p2), .int p3, .int p4] σ q := by
  refine sg_mkv (plainFor_of_name (by decide +kernel)) (Nat.le_of_ble_eq_true rfl) ?_
  intro p e R s m args below meth c Q A ls H locs X I hl hk
  exact b_X12_items X hp2 gp2 I hl h hk
def f_X12_isWhole_L30 (N : Nat) (x1 : Int32) (x2 : Int32) (σ : sgS) : Option ((Int32) ⊕ ((Int32 × Int32) ⊕ (Int32))) :=
  if (σ.1 0 22) ≤ x2 then
  (some (.inr (.inr x1)))
else
  (sg_ld σ 13 48 ((4 * x2) + 0) fun v1 =>
  sg_ld σ 13 48 ((4 * x2) + 1) fun v2 =>
  if x1 = 0 then
    (some (.inr (.inl (0, x2 + 1))))
  else
    (if (σ.1 0 21) ≤ v1 then
      (some (.inr (.inl (0, x2 + 1))))
    else
      (if (σ.1 0 21) ≤ v2 then
        (some (.inr (.inl (0, x2 + 1))))
      else
        (if v1 = v2 then
          (some (.inr (.inl (0, x2 + 1))))
        else
          (some (.inr (.inl (1, x2 + 1))))))))
set_option maxHeartbeats 4000000 in
set_option maxRecDepth 100000 in
theorem b_X12_isWhole_L30 {p : Program} {l : Launch} {e : Env} {R : Room} {s : State} {m : MethodId} {args : Array Value} {below : List Frame} {meth : Method} {c : Code} {Q : State → Prop} {P : sgP} {A : Nat → Prop} {N : Nat} {x1 : Int32} {x2 : Int32} {σ : sgS} (X : sg_C P A 1 p R s m args c cX12_isWhole 5 RX12) {H : Heap} {locs : List Loc} (I : sg_I P shM 35 A s.heap σ H locs) {ls : Array Slot} (hl : lv_has ls 5 [(0, .ref (sgA P 0)), (1, .int x1), (2, .int x2)]) {st : (Int32) ⊕ ((Int32 × Int32) ⊕ (Int32))} (h : f_X12_isWhole_L30 N x1 x2 σ = some st) (hk : sg_k3 (fun r => sg_Ri p l e R s m args below meth c Q P shM 35 A cX12_isWhole (some .boolean) (r, σ)) (fun x => sg_Wt p l e R s m args below meth c Q P shM 35 A 5 30 σ [(0, .ref (sgA P 0)), (1, .int x.1), (2, .int x.2)]) (fun y => sg_Wt p l e R s m args below meth c Q P shM 35 A 5 100 σ [(0, .ref (sgA P 0)), (1, .int y)]) st) : W p l e R s m args below meth c H locs 0 0 Q (F0 m 30 ls []) := by
  unfold f_X12_isWhole_L30 at h
  have hx := X.1.1
  have hb := X.1.2.1
  have hown := X.1.2.2.2.1
  have hts := X.1.2.2.2.2
  refine lv_iload_n hx hb dX12_isWhole_30 rfl (lv_at hl 2 rfl) ?_
  refine lv_aload_n hx hb dX12_isWhole_31 rfl (lv_at hl 0 rfl) ?_
  refine sg_geti X I fk_X12_262 (by decide) shM_0 rfl dX12_isWhole_32 ?_
  refine lv_icmp_ge (tgt := 100) hx hb dX12_isWhole_35 (by decide) (fun z => ?_) (fun z => ?_)
  · have h := sg_ift h z
    obtain rfl := Option.some.inj h
    exact sg_go hk I (lv_sub hl [0, 1] rfl)
  · have h := sg_iff h z
    refine lv_aload_n hx hb dX12_isWhole_38 rfl (lv_at hl 0 rfl) ?_
    refine sg_getr X I fk_X12_46 (j := 13) (by decide) shM_0 rfl dX12_isWhole_39 ?_
    refine lv_iconst (v := 4) hx hb dX12_isWhole_42 (by decide) ?_
    refine lv_iload_n hx hb dX12_isWhole_43 rfl (lv_at hl 2 rfl) ?_
    refine lv_imul hx hb dX12_isWhole_44 ?_
    refine lv_iconst (v := 0) hx hb dX12_isWhole_45 (by decide) ?_
    refine lv_iadd hx hb dX12_isWhole_46 ?_
    refine sg_iald X I (by decide) shM_13 h dX12_isWhole_47 (fun v1 h => ?_)
    refine lv_istore_n (lv' := [(3, .int v1), (0, .ref (sgA P 0)), (1, .int x1), (2, .int x2)]) hx hb dX12_isWhole_48 rfl hl (by decide) rfl (fun ls hl => ?_)
    refine lv_aload_n hx hb dX12_isWhole_49 rfl (lv_at hl 1 rfl) ?_
    refine sg_getr X I fk_X12_46 (j := 13) (by decide) shM_0 rfl dX12_isWhole_50 ?_
    refine lv_iconst (v := 4) hx hb dX12_isWhole_53 (by decide) ?_
    refine lv_iload_n hx hb dX12_isWhole_54 rfl (lv_at hl 3 rfl) ?_
    refine lv_imul hx hb dX12_isWhole_55 ?_
    refine lv_iconst (v := 1) hx hb dX12_isWhole_56 (by decide) ?_
    refine lv_iadd hx hb dX12_isWhole_57 ?_
    refine sg_iald X I (by decide) shM_13 h dX12_isWhole_58 (fun v2 h => ?_)
    refine lv_istore (lv' := [(4, .int v2), (3, .int v1), (0, .ref (sgA P 0)), (1, .int x1), (2, .int x2)]) hx hb dX12_isWhole_59 hl (by decide) rfl (fun ls hl => ?_)
    refine lv_iload_n hx hb dX12_isWhole_61 rfl (lv_at hl 3 rfl) ?_
    refine lv_if_eq (tgt := 92) hx hb dX12_isWhole_62 (by decide) (fun z => ?_) (fun z => ?_)
    · have h := sg_ift h z
      refine lv_iconst (v := 0) hx hb dX12_isWhole_92 (by decide) ?_
      refine lv_istore_n (lv' := [(1, .int 0), (4, .int v2), (3, .int v1), (0, .ref (sgA P 0)), (2, .int x2)]) hx hb dX12_isWhole_93 rfl hl (by decide) rfl (fun ls hl => ?_)
      refine lv_iinc (v := x2 + 1) (lv' := [(2, .int (x2 + 1)), (1, .int 0), (4, .int v2), (3, .int v1), (0, .ref (sgA P 0))]) hx hb dX12_isWhole_94 hl (k := 4) rfl rfl (by decide) rfl (fun ls hl => ?_)
      refine lv_goto (tgt := 30) hx hb dX12_isWhole_97 (by decide) ?_
      obtain rfl := Option.some.inj h
      exact sg_go hk I (lv_sub hl [4, 1, 0] rfl)
    · have h := sg_iff h z
      refine lv_iload_n hx hb dX12_isWhole_65 rfl (lv_at hl 1 rfl) ?_
      refine lv_aload_n hx hb dX12_isWhole_66 rfl (lv_at hl 2 rfl) ?_
      refine sg_geti X I fk_X12_259 (by decide) shM_0 rfl dX12_isWhole_67 ?_
      refine lv_icmp_ge (tgt := 92) hx hb dX12_isWhole_70 (by decide) (fun z => ?_) (fun z => ?_)
      · have h := sg_ift h z
        refine lv_iconst (v := 0) hx hb dX12_isWhole_92 (by decide) ?_
        refine lv_istore_n (lv' := [(1, .int 0), (4, .int v2), (3, .int v1), (0, .ref (sgA P 0)), (2, .int x2)]) hx hb dX12_isWhole_93 rfl hl (by decide) rfl (fun ls hl => ?_)
        refine lv_iinc (v := x2 + 1) (lv' := [(2, .int (x2 + 1)), (1, .int 0), (4, .int v2), (3, .int v1), (0, .ref (sgA P 0))]) hx hb dX12_isWhole_94 hl (k := 4) rfl rfl (by decide) rfl (fun ls hl => ?_)
        refine lv_goto (tgt := 30) hx hb dX12_isWhole_97 (by decide) ?_
        obtain rfl := Option.some.inj h
        exact sg_go hk I (lv_sub hl [4, 1, 0] rfl)
      · have h := sg_iff h z
        refine lv_iload hx hb dX12_isWhole_73 (lv_at hl 0 rfl) ?_
        refine lv_aload_n hx hb dX12_isWhole_75 rfl (lv_at hl 2 rfl) ?_
        refine sg_geti X I fk_X12_259 (by decide) shM_0 rfl dX12_isWhole_76 ?_
        refine lv_icmp_ge (tgt := 92) hx hb dX12_isWhole_79 (by decide) (fun z => ?_) (fun z => ?_)
        · have h := sg_ift h z
          refine lv_iconst (v := 0) hx hb dX12_isWhole_92 (by decide) ?_
          refine lv_istore_n (lv' := [(1, .int 0), (4, .int v2), (3, .int v1), (0, .ref (sgA P 0)), (2, .int x2)]) hx hb dX12_isWhole_93 rfl hl (by decide) rfl (fun ls hl => ?_)
          refine lv_iinc (v := x2 + 1) (lv' := [(2, .int (x2 + 1)), (1, .int 0), (4, .int v2), (3, .int v1), (0, .ref (sgA P 0))]) hx hb dX12_isWhole_94 hl (k := 4) rfl rfl (by decide) rfl (fun ls hl => ?_)
          refine lv_goto (tgt := 30) hx hb dX12_isWhole_97 (by decide) ?_
          obtain rfl := Option.some.inj h
          exact sg_go hk I (lv_sub hl [4, 1, 0] rfl)
        · have h := sg_iff h z
          refine lv_iload_n hx hb dX12_isWhole_82 rfl (lv_at hl 1 rfl) ?_
          refine lv_iload hx hb dX12_isWhole_83 (lv_at hl 0 rfl) ?_
          refine lv_icmp_eq (tgt := 92) hx hb dX12_isWhole_85 (by decide) (fun z => ?_) (fun z => ?_)
          · have h := sg_ift h z
            refine lv_iconst (v := 0) hx hb dX12_isWhole_92 (by decide) ?_
            refine lv_istore_n (lv' := [(1, .int 0), (4, .int v2), (3, .int v1), (0, .ref (sgA P 0)), (2, .int x2)]) hx hb dX12_isWhole_93 rfl hl (by decide) rfl (fun ls hl => ?_)
            refine lv_iinc (v := x2 + 1) (lv' := [(2, .int (x2 + 1)), (1, .int 0), (4, .int v2), (3, .int v1), (0, .ref (sgA P 0))]) hx hb dX12_isWhole_94 hl (k := 4) rfl rfl (by decide) rfl (fun ls hl => ?_)
            refine lv_goto (tgt := 30) hx hb dX12_isWhole_97 (by decide) ?_
            obtain rfl := Option.some.inj h
            exact sg_go hk I (lv_sub hl [4, 1, 0] rfl)
          · have h := sg_iff h z
            refine lv_iconst (v := 1) hx hb dX12_isWhole_88 (by decide) ?_
            refine lv_goto (tgt := 93) hx hb dX12_isWhole_89 (by decide) ?_
            refine lv_istore_n (lv' := [(1, .int 1), (4, .int v2), (3, .int v1), (0, .ref (sgA P 0)), (2, .int x2)]) hx hb dX12_isWhole_93 rfl hl (by decide) rfl (fun ls hl => ?_)
            refine lv_iinc (v := x2 + 1) (lv' := [(2, .int (x2 + 1)), (1, .int 1), (4, .int v2), (3, .int v1), (0, .ref (sgA P 0))]) hx hb dX12_isWhole_94 hl (k := 4) rfl rfl (by decide) rfl (fun ls hl => ?_)
            refine lv_goto (tgt := 30) hx hb dX12_isWhole_97 (by decide) ?_
            obtain rfl := Option.some.inj h
            exact sg_go hk I (lv_sub hl [4, 1, 0] rfl)
def f_X12_isWhole_L102 (N : Nat) (x1 : Int32) (x2 : Int32) (σ : sgS) : Option ((Int32) ⊕ ((Int32 × Int32) ⊕ (Int32))) :=
  if (σ.1 0 23) ≤ x2 then
  (some (.inr (.inr x1)))
else
  (if x1 = 0 then
    (some (.inr (.inl (0, x2 + 1))))
  else
    (sg_ld σ 14 4 x2 fun v4 =>
    if (σ.1 0 21) ≤ v4 then
      (some (.inr (.inl (0, x2 + 1))))
    else
      (some (.inr (.inl (1, x2 + 1))))))
set_option maxHeartbeats 4000000 in
set_option maxRecDepth 100000 in
theorem b_X12_isWhole_L102 {p : Program} {l : Launch} {e : Env} {R : Room} {s : State} {m : MethodId} {args : Array Value} {below : List Frame} {meth : Method} {c : Code} {Q : State → Prop} {P : sgP} {A : Nat → Prop} {N : Nat} {x1 : Int32} {x2 : Int32} {σ : sgS} (X : sg_C P A 1 p R s m args c cX12_isWhole 5 RX12) {H : Heap} {locs : List Loc} (I : sg_I P shM 35 A s.heap σ H locs) {ls : Array Slot} (hl : lv_has ls 5 [(0, .ref (sgA P 0)), (1, .int x1), (2, .int x2)]) {st : (Int32) ⊕ ((Int32 × Int32) ⊕ (Int32))} (h : f_X12_isWhole_L102 N x1 x2 σ = some st) (hk : sg_k3 (fun r => sg_Ri p l e R s m args below meth c Q P shM 35 A cX12_isWhole (some .boolean) (r, σ)) (fun x => sg_Wt p l e R s m args below meth c Q P shM 35 A 5 102 σ [(0, .ref (sgA P 0)), (1, .int x.1), (2, .int x.2)]) (fun y => sg_Wt p l e R s m args below meth c Q P shM 35 A 5 139 σ [(1, .int y)]) st) : W p l e R s m args below meth c H locs 0 0 Q (F0 m 102 ls []) := by
  unfold f_X12_isWhole_L102 at h
  have hx := X.1.1
  have hb := X.1.2.1
  have hown := X.1.2.2.2.1
  have hts := X.1.2.2.2.2
  refine lv_iload_n hx hb dX12_isWhole_102 rfl (lv_at hl 2 rfl) ?_
  refine lv_aload_n hx hb dX12_isWhole_103 rfl (lv_at hl 0 rfl) ?_
  refine sg_geti X I fk_X12_265 (by decide) shM_0 rfl dX12_isWhole_104 ?_
  refine lv_icmp_ge (tgt := 139) hx hb dX12_isWhole_107 (by decide) (fun z => ?_) (fun z => ?_)
  · have h := sg_ift h z
    obtain rfl := Option.some.inj h
    exact sg_go hk I (lv_sub hl [1] rfl)
  · have h := sg_iff h z
    refine lv_iload_n hx hb dX12_isWhole_110 rfl (lv_at hl 1 rfl) ?_
    refine lv_if_eq (tgt := 131) hx hb dX12_isWhole_111 (by decide) (fun z => ?_) (fun z => ?_)
    · have h := sg_ift h z
      refine lv_iconst (v := 0) hx hb dX12_isWhole_131 (by decide) ?_
      refine lv_istore_n (lv' := [(1, .int 0), (0, .ref (sgA P 0)), (2, .int x2)]) hx hb dX12_isWhole_132 rfl hl (by decide) rfl (fun ls hl => ?_)
      refine lv_iinc (v := x2 + 1) (lv' := [(2, .int (x2 + 1)), (1, .int 0), (0, .ref (sgA P 0))]) hx hb dX12_isWhole_133 hl (k := 2) rfl rfl (by decide) rfl (fun ls hl => ?_)
      refine lv_goto (tgt := 102) hx hb dX12_isWhole_136 (by decide) ?_
      obtain rfl := Option.some.inj h
      exact sg_go hk I (lv_sub hl [2, 1, 0] rfl)
    · have h := sg_iff h z
      refine lv_aload_n hx hb dX12_isWhole_114 rfl (lv_at hl 0 rfl) ?_
      refine sg_getr X I fk_X12_49 (j := 14) (by decide) shM_0 rfl dX12_isWhole_115 ?_
      refine lv_iload_n hx hb dX12_isWhole_118 rfl (lv_at hl 2 rfl) ?_
      refine sg_iald X I (by decide) shM_14 h dX12_isWhole_119 (fun v4 h => ?_)
      refine lv_aload_n hx hb dX12_isWhole_120 rfl (lv_at hl 0 rfl) ?_
      refine sg_geti X I fk_X12_259 (by decide) shM_0 rfl dX12_isWhole_121 ?_
      refine lv_icmp_ge (tgt := 131) hx hb dX12_isWhole_124 (by decide) (fun z => ?_) (fun z => ?_)
      · have h := sg_ift h z
        refine lv_iconst (v := 0) hx hb dX12_isWhole_131 (by decide) ?_
        refine lv_istore_n (lv' := [(1, .int 0), (0, .ref (sgA P 0)), (2, .int x2)]) hx hb dX12_isWhole_132 rfl hl (by decide) rfl (fun ls hl => ?_)
        refine lv_iinc (v := x2 + 1) (lv' := [(2, .int (x2 + 1)), (1, .int 0), (0, .ref (sgA P 0))]) hx hb dX12_isWhole_133 hl (k := 2) rfl rfl (by decide) rfl (fun ls hl => ?_)
        refine lv_goto (tgt := 102) hx hb dX12_isWhole_136 (by decide) ?_
        obtain rfl := Option.some.inj h
        exact sg_go hk I (lv_sub hl [2, 1, 0] rfl)
      · have h := sg_iff h z
        refine lv_iconst (v := 1) hx hb dX12_isWhole_127 (by decide) ?_
        refine lv_goto (tgt := 132) hx hb dX12_isWhole_128 (by decide) ?_
        refine lv_istore_n (lv' := [(1, .int 1), (0, .ref (sgA P 0)), (2, .int x2)]) hx hb dX12_isWhole_132 rfl hl (by decide) rfl (fun ls hl => ?_)
        refine lv_iinc (v := x2 + 1) (lv' := [(2, .int (x2 + 1)), (1, .int 1), (0, .ref (sgA P 0))]) hx hb dX12_isWhole_133 hl (k := 2) rfl rfl (by decide) rfl (fun ls hl => ?_)
        refine lv_goto (tgt := 102) hx hb dX12_isWhole_136 (by decide) ?_
        obtain rfl := Option.some.inj h
        exact sg_go hk I (lv_sub hl [2, 1, 0] rfl)
def f_X12_isWhole_B27 (N : Nat) (k0 : Int32) (σ : sgS) : Option (Int32) :=
  sg_lb (sg_lp (fun x => f_X12_isWhole_L30 N x.1 x.2 σ) N ((k0, 0))) (fun r => some r) fun y3 =>
sg_lb (sg_lp (fun x => f_X12_isWhole_L102 N x.1 x.2 σ) N ((y3, 0))) (fun r => some r) fun y5 =>
some (vp_nar .boolean y5)
set_option maxHeartbeats 4000000 in
set_option maxRecDepth 100000 in
theorem b_X12_isWhole_B27 {p : Program} {l : Launch} {e : Env} {R : Room} {s : State} {m : MethodId} {args : Array Value} {below : List Frame} {meth : Method} {c : Code} {Q : State → Prop} {P : sgP} {A : Nat → Prop} {N : Nat} {k0 : Int32} {σ : sgS} (X : sg_C P A 1 p R s m args c cX12_isWhole 5 RX12) {H : Heap} {locs : List Loc} (I : sg_I P shM 35 A s.heap σ H locs) {ls : Array Slot} (hl : lv_has ls 5 [(0, .ref (sgA P 0))]) {st : Int32} (h : f_X12_isWhole_B27 N k0 σ = some st) (hk : sg_Ri p l e R s m args below meth c Q P shM 35 A cX12_isWhole (some .boolean) (st, σ)) : W p l e R s m args below meth c H locs 0 0 Q (F0 m 27 ls [.int k0]) := by
  unfold f_X12_isWhole_B27 at h
  have hx := X.1.1
  have hb := X.1.2.1
  have hown := X.1.2.2.2.1
  have hts := X.1.2.2.2.2
  refine lv_istore_n (lv' := [(1, .int k0), (0, .ref (sgA P 0))]) hx hb dX12_isWhole_27 rfl hl (by decide) rfl (fun ls hl => ?_)
  refine lv_iconst (v := 0) hx hb dX12_isWhole_28 (by decide) ?_
  refine lv_istore_n (lv' := [(2, .int 0), (1, .int k0), (0, .ref (sgA P 0))]) hx hb dX12_isWhole_29 rfl hl (by decide) rfl (fun ls hl => ?_)
  obtain ⟨res, e9, k9⟩ := sg_lb_some h
  refine sg_go (sg_lp_W (a := (fun r => sg_Ri p l e R s m args below meth c Q P shM 35 A cX12_isWhole (some .boolean) (r, σ))) (w := (fun x => sg_Wt p l e R s m args below meth c Q P shM 35 A 5 30 σ [(0, .ref (sgA P 0)), (1, .int x.1), (2, .int x.2)])) (c := (fun y => sg_Wt p l e R s m args below meth c Q P shM 35 A 5 100 σ [(0, .ref (sgA P 0)), (1, .int y)])) (fun x st hb9 hk9 => ?_) N ((k0, 0)) res e9 (sg_k2_mono k9 (fun r h => ?_) (fun y3 h => ?_))) I (lv_sub hl [2, 1, 0] rfl)
  · intro H locs ls I hl
    exact b_X12_isWhole_L30 X I hl hb9 hk9
  · obtain rfl := Option.some.inj h
    exact hk
  · intro H locs ls I hl
    refine lv_iconst (v := 0) hx hb dX12_isWhole_100 (by decide) ?_
    refine lv_istore_n (lv' := [(2, .int 0), (0, .ref (sgA P 0)), (1, .int y3)]) hx hb dX12_isWhole_101 rfl hl (by decide) rfl (fun ls hl => ?_)
    obtain ⟨res, e9, k9⟩ := sg_lb_some h
    refine sg_go (sg_lp_W (a := (fun r => sg_Ri p l e R s m args below meth c Q P shM 35 A cX12_isWhole (some .boolean) (r, σ))) (w := (fun x => sg_Wt p l e R s m args below meth c Q P shM 35 A 5 102 σ [(0, .ref (sgA P 0)), (1, .int x.1), (2, .int x.2)])) (c := (fun y => sg_Wt p l e R s m args below meth c Q P shM 35 A 5 139 σ [(1, .int y)])) (fun x st hb9 hk9 => ?_) N ((y3, 0)) res e9 (sg_k2_mono k9 (fun r h => ?_) (fun y5 h => ?_))) I (lv_sub hl [1, 2, 0] rfl)
    · intro H locs ls I hl
      exact b_X12_isWhole_L102 X I hl hb9 hk9
    · obtain rfl := Option.some.inj h
      exact hk
    · intro H locs ls I hl
      refine lv_iload_n hx hb dX12_isWhole_139 rfl (lv_at hl 0 rfl) ?_
      obtain rfl := Option.some.inj h
      exact hk _ _ _ _ _ I ⟨_, rfl, rfl⟩ dX12_isWhole_140
def f_X12_isWhole (N : Nat) (σ : sgS) : Option (Int32) :=
  if (σ.1 0 21) ≤ 1 then
  (f_X12_isWhole_B27 N 0 σ)
else
  (if (σ.1 0 22) ≤ 0 then
    (f_X12_isWhole_B27 N 0 σ)
  else
    (if (σ.1 0 23) ≤ 0 then
      (f_X12_isWhole_B27 N 0 σ)
    else
      (f_X12_isWhole_B27 N 1 σ)))
set_option maxHeartbeats 4000000 in
set_option maxRecDepth 100000 in
theorem b_X12_isWhole {p : Program} {l : Launch} {e : Env} {R : Room} {s : State} {m : MethodId} {args : Array Value} {below : List Frame} {meth : Method} {c : Code} {Q : State → Prop} {P : sgP} {A : Nat → Prop} {N : Nat} {σ : sgS} (X : sg_C P A 1 p R s m args c cX12_isWhole 5 RX12) {H : Heap} {locs : List Loc} (I : sg_I P shM 35 A s.heap σ H locs) {ls : Array Slot} (hl : lv_has ls 5 [(0, .ref (sgA P 0))]) {st : Int32} (h : f_X12_isWhole N σ = some st) (hk : sg_Ri p l e R s m args below meth c Q P shM 35 A cX12_isWhole (some .boolean) (st, σ)) : W p l e R s m args below meth c H locs 0 0 Q (F0 m 0 ls []) := by
  unfold f_X12_isWhole at h
  have hx := X.1.1
  have hb := X.1.2.1
  have hown := X.1.2.2.2.1
  have hts := X.1.2.2.2.2
  refine lv_aload_n hx hb dX12_isWhole_0 rfl (lv_at hl 0 rfl) ?_
  refine sg_geti X I fk_X12_259 (by decide) shM_0 rfl dX12_isWhole_1 ?_
  refine lv_iconst (v := 1) hx hb dX12_isWhole_4 (by decide) ?_
  refine lv_icmp_le (tgt := 26) hx hb dX12_isWhole_5 (by decide) (fun z => ?_) (fun z => ?_)
  · have h := sg_ift h z
    refine lv_iconst (v := 0) hx hb dX12_isWhole_26 (by decide) ?_
    exact b_X12_isWhole_B27 X I (lv_sub hl [0] rfl) h hk
  · have h := sg_iff h z
    refine lv_aload_n hx hb dX12_isWhole_8 rfl (lv_at hl 0 rfl) ?_
    refine sg_geti X I fk_X12_262 (by decide) shM_0 rfl dX12_isWhole_9 ?_
    refine lv_if_le (tgt := 26) hx hb dX12_isWhole_12 (by decide) (fun z => ?_) (fun z => ?_)
    · have h := sg_ift h z
      refine lv_iconst (v := 0) hx hb dX12_isWhole_26 (by decide) ?_
      exact b_X12_isWhole_B27 X I (lv_sub hl [0] rfl) h hk
    · have h := sg_iff h z
      refine lv_aload_n hx hb dX12_isWhole_15 rfl (lv_at hl 0 rfl) ?_
      refine sg_geti X I fk_X12_265 (by decide) shM_0 rfl dX12_isWhole_16 ?_
      refine lv_if_le (tgt := 26) hx hb dX12_isWhole_19 (by decide) (fun z => ?_) (fun z => ?_)
      · have h := sg_ift h z
        refine lv_iconst (v := 0) hx hb dX12_isWhole_26 (by decide) ?_
        exact b_X12_isWhole_B27 X I (lv_sub hl [0] rfl) h hk
      · have h := sg_iff h z
        refine lv_iconst (v := 1) hx hb dX12_isWhole_22 (by decide) ?_
        refine lv_goto (tgt := 27) hx hb dX12_isWhole_23 (by decide) ?_
        exact b_X12_isWhole_B27 X I (lv_sub hl [0] rfl) h hk
set_option maxHeartbeats 4000000 in
set_option maxRecDepth 100000 in
theorem c_X12_isWhole {l : Launch} {P : sgP} {N : Nat} {σ : sgS} {q : Int32} (h : f_X12_isWhole N σ = some q) : sg_Mi P shM 35 l yX12_isWhole cX12_isWhole 5 (some .boolean) 1 [.ref (sgA P 0)] σ (q, σ) := by
  refine sg_mki (plainFor_of_name (by decide +kernel)) (Nat.le_of_ble_eq_true rfl) ?_
  intro p e R s m args below meth c Q A ls H locs X I hl hk
  exact b_X12_isWhole X I hl h hk
