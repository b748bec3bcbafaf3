def f_X12_puts_B61 (N : Nat) (p1 : Int32) (p2 : Int32) (k1 : Int32) (σ : sgS) : Option (Int32 × sgS) :=
  sg_cl (f_X12_isRefused N k1 σ) fun v6 s7 =>
if v6 = 0 then
  (sg_cl (f_X12_keep N s7) fun v8 s9 =>
  sg_ld s9 21 215 32 fun v10 =>
  sg_st s9 21 215 32 (v10 - 3) fun s11 =>
  sg_cl (f_X12_putNow N p1 p2 s11) fun v12 s13 =>
  sg_ld s13 20 5 p2 fun v14 =>
  some (v14, s13))
else
  (some ((-1), s7))
set_option maxHeartbeats 4000000 in
set_option maxRecDepth 100000 in
theorem b_X12_puts_B61 {p : Program} {l : Launch} {e : Env} {R : Room} {s : State} {m : MethodId} {args : Array Value} {below : List Frame} {meth : Method} {c : Code} {Q : State → Prop} {P : sgP} {A : Nat → Prop} {N : Nat} {p1 : Int32} {p2 : Int32} {k1 : Int32} {σ : sgS} (X : sg_C P A 3 p R s m args c cX12_puts 3 RX12) {H : Heap} {locs : List Loc} (I : sg_I P shM 35 A s.heap σ H locs) {ls : Array Slot} (hl : lv_has ls 3 [(0, .ref (sgA P 0)), (1, .int p1), (2, .int p2)]) {st : Int32 × sgS} (h : f_X12_puts_B61 N p1 p2 k1 σ = some st) (hk : sg_Ri p l e R s m args below meth c Q P shM 35 A cX12_puts (some .int) st) : W p l e R s m args below meth c H locs 0 0 Q (F0 m 61 ls [.int k1, .ref (sgA P 0)]) := by
  unfold f_X12_puts_B61 at h
  have hx := X.1.1
  have hb := X.1.2.1
  have hown := X.1.2.2.2.1
  have hts := X.1.2.2.2.2
  refine sg_callV (As := [.int k1]) X I mk_X12_382 (by decide) (by decide) shM_0 rfl (fun q9 e9 => c_X12_isRefused e9) h hl.1 rfl rfl (Nat.le_of_ble_eq_true rfl) dX12_puts_61 (fun v6 s7 H locs h I => ?_)
  refine lv_if_eq (tgt := 69) hx hb dX12_puts_64 (by decide) (fun z => ?_) (fun z => ?_)
  · have h := sg_ift h z
    refine lv_aload_n hx hb dX12_puts_69 rfl (lv_at hl 0 rfl) ?_
    refine sg_callVv (As := []) X I mk_X12_385 (by decide) (by decide) shM_0 rfl (fun q9 e9 => c_X12_keep e9) h hl.1 rfl rfl (Nat.le_of_ble_eq_true rfl) dX12_puts_70 (fun v8 s9 H locs h I => ?_)
    refine lv_aload_n hx hb dX12_puts_73 rfl (lv_at hl 0 rfl) ?_
    refine sg_getr X I fk_X12_70 (j := 21) (by decide) shM_0 rfl dX12_puts_74 ?_
    refine lv_bipush (v := 32) hx hb dX12_puts_77 (by decide) ?_
    refine lv_dup2_11 hx hb dX12_puts_79 rfl rfl ?_
    refine sg_iald X I (by decide) shM_21 h dX12_puts_80 (fun v10 h => ?_)
    refine lv_iconst (v := 3) hx hb dX12_puts_81 (by decide) ?_
    refine lv_isub hx hb dX12_puts_82 ?_
    refine sg_iast X I (by decide) shM_21 h dX12_puts_83 (fun s11 H locs h I => ?_)
    refine lv_aload_n hx hb dX12_puts_84 rfl (lv_at hl 0 rfl) ?_
    refine lv_iload_n hx hb dX12_puts_85 rfl (lv_at hl 1 rfl) ?_
    refine lv_iload_n hx hb dX12_puts_86 rfl (lv_at hl 2 rfl) ?_
    refine sg_callVv (As := [.int p1, .int p2]) X I mk_X12_394 (by decide) (by decide) shM_0 rfl (fun q9 e9 => c_X12_putNow e9) h hl.1 rfl rfl (Nat.le_of_ble_eq_true rfl) dX12_puts_87 (fun v12 s13 H locs h I => ?_)
    refine lv_aload_n hx hb dX12_puts_90 rfl (lv_at hl 0 rfl) ?_
    refine sg_getr X I fk_X12_67 (j := 20) (by decide) shM_0 rfl dX12_puts_91 ?_
    refine lv_iload_n hx hb dX12_puts_94 rfl (lv_at hl 2 rfl) ?_
    refine sg_iald X I (by decide) shM_20 h dX12_puts_95 (fun v14 h => ?_)
    obtain rfl := Option.some.inj h
    exact hk _ _ _ _ _ I ⟨_, rfl, rfl⟩ dX12_puts_96
  · have h := sg_iff h z
    refine lv_iconst (v := -1) hx hb dX12_puts_67 (by decide) ?_
    obtain rfl := Option.some.inj h
    exact hk _ _ _ _ _ I ⟨_, rfl, rfl⟩ dX12_puts_68
def f_X12_puts (N : Nat) (p1 : Int32) (p2 : Int32) (σ : sgS) : Option (Int32 × sgS) :=
  sg_cr (f_X12_isSet N p1 σ) fun v1 =>
if v1 = 0 then
  (f_X12_puts_B61 N p1 p2 0 σ)
else
  (sg_cr (f_X12_isWay N p2 σ) fun v2 =>
  if v2 = 0 then
    (f_X12_puts_B61 N p1 p2 1 σ)
  else
    (sg_ld σ 21 215 (0 + p1) fun v3 =>
    sg_cr (f_X12_beginsAt N p2 v3 σ) fun v4 =>
    if v4 = 0 then
      (f_X12_puts_B61 N p1 p2 2 σ)
    else
      (sg_ld σ 21 215 32 fun v5 =>
      if 3 ≤ v5 then
        (f_X12_puts_B61 N p1 p2 ((-1)) σ)
      else
        (f_X12_puts_B61 N p1 p2 3 σ))))
set_option maxHeartbeats 4000000 in
set_option maxRecDepth 100000 in
theorem b_X12_puts {p : Program} {l : Launch} {e : Env} {R : Room} {s : State} {m : MethodId} {args : Array Value} {below : List Frame} {meth : Method} {c : Code} {Q : State → Prop} {P : sgP} {A : Nat → Prop} {N : Nat} {p1 : Int32} {p2 : Int32} {σ : sgS} (X : sg_C P A 3 p R s m args c cX12_puts 3 RX12) {H : Heap} {locs : List Loc} (I : sg_I P shM 35 A s.heap σ H locs) {ls : Array Slot} (hl : lv_has ls 3 [(0, .ref (sgA P 0)), (1, .int p1), (2, .int p2)]) {st : Int32 × sgS} (h : f_X12_puts N p1 p2 σ = some st) (hk : sg_Ri p l e R s m args below meth c Q P shM 35 A cX12_puts (some .int) st) : W p l e R s m args below meth c H locs 0 0 Q (F0 m 0 ls []) := by
  unfold f_X12_puts at h
  have hx := X.1.1
  have hb := X.1.2.1
  have hown := X.1.2.2.2.1
  have hts := X.1.2.2.2.2
  refine lv_aload_n hx hb dX12_puts_0 rfl (lv_at hl 0 rfl) ?_
  refine lv_aload_n hx hb dX12_puts_1 rfl (lv_at hl 0 rfl) ?_
  refine lv_iload_n hx hb dX12_puts_2 rfl (lv_at hl 1 rfl) ?_
  refine sg_callVr (As := [.int p1]) X I mk_X12_370 (by decide) (by decide) shM_0 rfl (fun q9 e9 => c_X12_isSet e9) h hl.1 rfl rfl (Nat.le_of_ble_eq_true rfl) dX12_puts_3 (fun v1 H locs h I => ?_)
  refine lv_if_ne (tgt := 13) hx hb dX12_puts_6 (by decide) (fun z => ?_) (fun z => ?_)
  · have h := sg_iff h z
    refine lv_aload_n hx hb dX12_puts_13 rfl (lv_at hl 0 rfl) ?_
    refine lv_iload_n hx hb dX12_puts_14 rfl (lv_at hl 2 rfl) ?_
    refine sg_callVr (As := [.int p2]) X I mk_X12_376 (by decide) (by decide) shM_0 rfl (fun q9 e9 => c_X12_isWay e9) h hl.1 rfl rfl (Nat.le_of_ble_eq_true rfl) dX12_puts_15 (fun v2 H locs h I => ?_)
    refine lv_if_ne (tgt := 25) hx hb dX12_puts_18 (by decide) (fun z => ?_) (fun z => ?_)
    · have h := sg_iff h z
      refine lv_aload_n hx hb dX12_puts_25 rfl (lv_at hl 0 rfl) ?_
      refine lv_iload_n hx hb dX12_puts_26 rfl (lv_at hl 2 rfl) ?_
      refine lv_aload_n hx hb dX12_puts_27 rfl (lv_at hl 0 rfl) ?_
      refine sg_getr X I fk_X12_70 (j := 21) (by decide) shM_0 rfl dX12_puts_28 ?_
      refine lv_iconst (v := 0) hx hb dX12_puts_31 (by decide) ?_
      refine lv_iload_n hx hb dX12_puts_32 rfl (lv_at hl 1 rfl) ?_
      refine lv_iadd hx hb dX12_puts_33 ?_
      refine sg_iald X I (by decide) shM_21 h dX12_puts_34 (fun v3 h => ?_)
      refine sg_callVr (As := [.int p2, .int v3]) X I mk_X12_391 (by decide) (by decide) shM_0 rfl (fun q9 e9 => c_X12_beginsAt e9) h hl.1 rfl rfl (Nat.le_of_ble_eq_true rfl) dX12_puts_35 (fun v4 H locs h I => ?_)
      refine lv_if_ne (tgt := 45) hx hb dX12_puts_38 (by decide) (fun z => ?_) (fun z => ?_)
      · have h := sg_iff h z
        refine lv_aload_n hx hb dX12_puts_45 rfl (lv_at hl 0 rfl) ?_
        refine sg_getr X I fk_X12_70 (j := 21) (by decide) shM_0 rfl dX12_puts_46 ?_
        refine lv_bipush (v := 32) hx hb dX12_puts_49 (by decide) ?_
        refine sg_iald X I (by decide) shM_21 h dX12_puts_51 (fun v5 h => ?_)
        refine lv_iconst (v := 3) hx hb dX12_puts_52 (by decide) ?_
        refine lv_icmp_ge (tgt := 60) hx hb dX12_puts_53 (by decide) (fun z => ?_) (fun z => ?_)
        · have h := sg_ift h z
          refine lv_iconst (v := -1) hx hb dX12_puts_60 (by decide) ?_
          exact b_X12_puts_B61 X I (lv_sub hl [0, 1, 2] rfl) h hk
        · have h := sg_iff h z
          refine lv_iconst (v := 3) hx hb dX12_puts_56 (by decide) ?_
          refine lv_goto (tgt := 61) hx hb dX12_puts_57 (by decide) ?_
          exact b_X12_puts_B61 X I (lv_sub hl [0, 1, 2] rfl) h hk
      · have h := sg_ift h z
        refine lv_iconst (v := 2) hx hb dX12_puts_41 (by decide) ?_
        refine lv_goto (tgt := 61) hx hb dX12_puts_42 (by decide) ?_
        exact b_X12_puts_B61 X I (lv_sub hl [0, 1, 2] rfl) h hk
    · have h := sg_ift h z
      refine lv_iconst (v := 1) hx hb dX12_puts_21 (by decide) ?_
      refine lv_goto (tgt := 61) hx hb dX12_puts_22 (by decide) ?_
      exact b_X12_puts_B61 X I (lv_sub hl [0, 1, 2] rfl) h hk
  · have h := sg_ift h z
    refine lv_iconst (v := 0) hx hb dX12_puts_9 (by decide) ?_
    refine lv_goto (tgt := 61) hx hb dX12_puts_10 (by decide) ?_
    exact b_X12_puts_B61 X I (lv_sub hl [0, 1, 2] rfl) h hk
set_option maxHeartbeats 4000000 in
set_option maxRecDepth 100000 in
theorem c_X12_puts {l : Launch} {P : sgP} {N : Nat} {p1 : Int32} {p2 : Int32} {σ : sgS} {q : Int32 × sgS} (h : f_X12_puts N p1 p2 σ = some q) : sg_Mi P shM 35 l yX12_puts cX12_puts 3 (some .int) 3 [.ref (sgA P 0), .int p1, .int p2] σ q := by
  refine sg_mki (plainFor_of_name (by decide +kernel)) (Nat.le_of_ble_eq_true rfl) ?_
  intro p e R s m args below meth c Q A ls H locs X I hl hk
  exact b_X12_puts X I hl h hk
def f_X12_carries_B57 (N : Nat) (p1 : Int32) (p2 : Int32) (k1 : Int32) (σ : sgS) : Option (Int32 × sgS) :=
  sg_cl (f_X12_isRefused N k1 σ) fun v5 s6 =>
if v5 = 0 then
  (sg_cl (f_X12_keep N s6) fun v7 s8 =>
  sg_ld s8 21 215 (0 + p1) fun v9 =>
  sg_ld s8 21 215 32 fun v10 =>
  sg_st s8 21 215 32 (v10 - 2) fun s11 =>
  sg_st s11 21 215 (0 + p1) p2 fun s12 =>
  sg_cl (f_X12_dropWay N p1 s12) fun v13 s14 =>
  some (v9, s14))
else
  (some ((-1), s6))
set_option maxHeartbeats 4000000 in
set_option maxRecDepth 100000 in
theorem b_X12_carries_B57 {p : Program} {l : Launch} {e : Env} {R : Room} {s : State} {m : MethodId} {args : Array Value} {below : List Frame} {meth : Method} {c : Code} {Q : State → Prop} {P : sgP} {A : Nat → Prop} {N : Nat} {p1 : Int32} {p2 : Int32} {k1 : Int32} {σ : sgS} (X : sg_C P A 3 p R s m args c cX12_carries 4 RX12) {H : Heap} {locs : List Loc} (I : sg_I P shM 35 A s.heap σ H locs) {ls : Array Slot} (hl : lv_has ls 4 [(0, .ref (sgA P 0)), (1, .int p1), (2, .int p2)]) {st : Int32 × sgS} (h : f_X12_carries_B57 N p1 p2 k1 σ = some st) (hk : sg_Ri p l e R s m args below meth c Q P shM 35 A cX12_carries (some .int) st) : W p l e R s m args below meth c H locs 0 0 Q (F0 m 57 ls [.int k1, .ref (sgA P 0)]) := by
  unfold f_X12_carries_B57 at h
  have hx := X.1.1
  have hb := X.1.2.1
  have hown := X.1.2.2.2.1
  have hts := X.1.2.2.2.2
  refine sg_callV (As := [.int k1]) X I mk_X12_382 (by decide) (by decide) shM_0 rfl (fun q9 e9 => c_X12_isRefused e9) h hl.1 rfl rfl (Nat.le_of_ble_eq_true rfl) dX12_carries_57 (fun v5 s6 H locs h I => ?_)
  refine lv_if_eq (tgt := 65) hx hb dX12_carries_60 (by decide) (fun z => ?_) (fun z => ?_)
  · have h := sg_ift h z
    refine lv_aload_n hx hb dX12_carries_65 rfl (lv_at hl 0 rfl) ?_
    refine sg_callVv (As := []) X I mk_X12_385 (by decide) (by decide) shM_0 rfl (fun q9 e9 => c_X12_keep e9) h hl.1 rfl rfl (Nat.le_of_ble_eq_true rfl) dX12_carries_66 (fun v7 s8 H locs h I => ?_)
    refine lv_aload_n hx hb dX12_carries_69 rfl (lv_at hl 0 rfl) ?_
    refine sg_getr X I fk_X12_70 (j := 21) (by decide) shM_0 rfl dX12_carries_70 ?_
    refine lv_iconst (v := 0) hx hb dX12_carries_73 (by decide) ?_
    refine lv_iload_n hx hb dX12_carries_74 rfl (lv_at hl 1 rfl) ?_
    refine lv_iadd hx hb dX12_carries_75 ?_
    refine sg_iald X I (by decide) shM_21 h dX12_carries_76 (fun v9 h => ?_)
    refine lv_istore_n (lv' := [(3, .int v9), (0, .ref (sgA P 0)), (1, .int p1), (2, .int p2)]) hx hb dX12_carries_77 rfl hl (by decide) rfl (fun ls hl => ?_)
    refine lv_aload_n hx hb dX12_carries_78 rfl (lv_at hl 1 rfl) ?_
    refine sg_getr X I fk_X12_70 (j := 21) (by decide) shM_0 rfl dX12_carries_79 ?_
    refine lv_bipush (v := 32) hx hb dX12_carries_82 (by decide) ?_
    refine lv_dup2_11 hx hb dX12_carries_84 rfl rfl ?_
    refine sg_iald X I (by decide) shM_21 h dX12_carries_85 (fun v10 h => ?_)
    refine lv_iconst (v := 2) hx hb dX12_carries_86 (by decide) ?_
    refine lv_isub hx hb dX12_carries_87 ?_
    refine sg_iast X I (by decide) shM_21 h dX12_carries_88 (fun s11 H locs h I => ?_)
    refine lv_aload_n hx hb dX12_carries_89 rfl (lv_at hl 1 rfl) ?_
    refine sg_getr X I fk_X12_70 (j := 21) (by decide) shM_0 rfl dX12_carries_90 ?_
    refine lv_iconst (v := 0) hx hb dX12_carries_93 (by decide) ?_
    refine lv_iload_n hx hb dX12_carries_94 rfl (lv_at hl 2 rfl) ?_
    refine lv_iadd hx hb dX12_carries_95 ?_
    refine lv_iload_n hx hb dX12_carries_96 rfl (lv_at hl 3 rfl) ?_
    refine sg_iast X I (by decide) shM_21 h dX12_carries_97 (fun s12 H locs h I => ?_)
    refine lv_aload_n hx hb dX12_carries_98 rfl (lv_at hl 1 rfl) ?_
    refine lv_iload_n hx hb dX12_carries_99 rfl (lv_at hl 2 rfl) ?_
    refine sg_callVv (As := [.int p1]) X I mk_X12_352 (by decide) (by decide) shM_0 rfl (fun q9 e9 => c_X12_dropWay e9) h hl.1 rfl rfl (Nat.le_of_ble_eq_true rfl) dX12_carries_100 (fun v13 s14 H locs h I => ?_)
    refine lv_iload_n hx hb dX12_carries_103 rfl (lv_at hl 0 rfl) ?_
    obtain rfl := Option.some.inj h
    exact hk _ _ _ _ _ I ⟨_, rfl, rfl⟩ dX12_carries_104
  · have h := sg_iff h z
    refine lv_iconst (v := -1) hx hb dX12_carries_63 (by decide) ?_
    obtain rfl := Option.some.inj h
    exact hk _ _ _ _ _ I ⟨_, rfl, rfl⟩ dX12_carries_64
def f_X12_carries (N : Nat) (p1 : Int32) (p2 : Int32) (σ : sgS) : Option (Int32 × sgS) :=
  sg_cr (f_X12_isSet N p1 σ) fun v1 =>
if v1 = 0 then
  (f_X12_carries_B57 N p1 p2 0 σ)
else
  (sg_cr (f_X12_isPlace N p2 σ) fun v2 =>
  if v2 = 0 then
    (f_X12_carries_B57 N p1 p2 1 σ)
  else
    (sg_ld σ 21 215 (0 + p1) fun v3 =>
    if v3 = p2 then
      (f_X12_carries_B57 N p1 p2 2 σ)
    else
      (sg_ld σ 21 215 32 fun v4 =>
      if 2 ≤ v4 then
        (f_X12_carries_B57 N p1 p2 ((-1)) σ)
      else
        (f_X12_carries_B57 N p1 p2 3 σ))))
set_option maxHeartbeats 4000000 in
set_option maxRecDepth 100000 in
theorem b_X12_carries {p : Program} {l : Launch} {e : Env} {R : Room} {s : State} {m : MethodId} {args : Array Value} {below : List Frame} {meth : Method} {c : Code} {Q : State → Prop} {P : sgP} {A : Nat → Prop} {N : Nat} {p1 : Int32} {p2 : Int32} {σ : sgS} (X : sg_C P A 3 p R s m args c cX12_carries 4 RX12) {H : Heap} {locs : List Loc} (I : sg_I P shM 35 A s.heap σ H locs) {ls : Array Slot} (hl : lv_has ls 4 [(0, .ref (sgA P 0)), (1, .int p1), (2, .int p2)]) {st : Int32 × sgS} (h : f_X12_carries N p1 p2 σ = some st) (hk : sg_Ri p l e R s m args below meth c Q P shM 35 A cX12_carries (some .int) st) : W p l e R s m args below meth c H locs 0 0 Q (F0 m 0 ls []) := by
  unfold f_X12_carries at h
  have hx := X.1.1
  have hb := X.1.2.1
  have hown := X.1.2.2.2.1
  have hts := X.1.2.2.2.2
  refine lv_aload_n hx hb dX12_carries_0 rfl (lv_at hl 0 rfl) ?_
  refine lv_aload_n hx hb dX12_carries_1 rfl (lv_at hl 0 rfl) ?_
  refine lv_iload_n hx hb dX12_carries_2 rfl (lv_at hl 1 rfl) ?_
  refine sg_callVr (As := [.int p1]) X I mk_X12_370 (by decide) (by decide) shM_0 rfl (fun q9 e9 => c_X12_isSet e9) h hl.1 rfl rfl (Nat.le_of_ble_eq_true rfl) dX12_carries_3 (fun v1 H locs h I => ?_)
  refine lv_if_ne (tgt := 13) hx hb dX12_carries_6 (by decide) (fun z => ?_) (fun z => ?_)
  · have h := sg_iff h z
    refine lv_aload_n hx hb dX12_carries_13 rfl (lv_at hl 0 rfl) ?_
    refine lv_iload_n hx hb dX12_carries_14 rfl (lv_at hl 2 rfl) ?_
    refine sg_callVr (As := [.int p2]) X I mk_X12_373 (by decide) (by decide) shM_0 rfl (fun q9 e9 => c_X12_isPlace e9) h hl.1 rfl rfl (Nat.le_of_ble_eq_true rfl) dX12_carries_15 (fun v2 H locs h I => ?_)
    refine lv_if_ne (tgt := 25) hx hb dX12_carries_18 (by decide) (fun z => ?_) (fun z => ?_)
    · have h := sg_iff h z
      refine lv_aload_n hx hb dX12_carries_25 rfl (lv_at hl 0 rfl) ?_
      refine sg_getr X I fk_X12_70 (j := 21) (by decide) shM_0 rfl dX12_carries_26 ?_
      refine lv_iconst (v := 0) hx hb dX12_carries_29 (by decide) ?_
      refine lv_iload_n hx hb dX12_carries_30 rfl (lv_at hl 1 rfl) ?_
      refine lv_iadd hx hb dX12_carries_31 ?_
      refine sg_iald X I (by decide) shM_21 h dX12_carries_32 (fun v3 h => ?_)
      refine lv_iload_n hx hb dX12_carries_33 rfl (lv_at hl 2 rfl) ?_
      refine lv_icmp_ne (tgt := 41) hx hb dX12_carries_34 (by decide) (fun z => ?_) (fun z => ?_)
      · have h := sg_iff h z
        refine lv_aload_n hx hb dX12_carries_41 rfl (lv_at hl 0 rfl) ?_
        refine sg_getr X I fk_X12_70 (j := 21) (by decide) shM_0 rfl dX12_carries_42 ?_
        refine lv_bipush (v := 32) hx hb dX12_carries_45 (by decide) ?_
        refine sg_iald X I (by decide) shM_21 h dX12_carries_47 (fun v4 h => ?_)
        refine lv_iconst (v := 2) hx hb dX12_carries_48 (by decide) ?_
        refine lv_icmp_ge (tgt := 56) hx hb dX12_carries_49 (by decide) (fun z => ?_) (fun z => ?_)
        · have h := sg_ift h z
          refine lv_iconst (v := -1) hx hb dX12_carries_56 (by decide) ?_
          exact b_X12_carries_B57 X I (lv_sub hl [0, 1, 2] rfl) h hk
        · have h := sg_iff h z
          refine lv_iconst (v := 3) hx hb dX12_carries_52 (by decide) ?_
          refine lv_goto (tgt := 57) hx hb dX12_carries_53 (by decide) ?_
          exact b_X12_carries_B57 X I (lv_sub hl [0, 1, 2] rfl) h hk
      · have h := sg_ift h z
        refine lv_iconst (v := 2) hx hb dX12_carries_37 (by decide) ?_
        refine lv_goto (tgt := 57) hx hb dX12_carries_38 (by decide) ?_
        exact b_X12_carries_B57 X I (lv_sub hl [0, 1, 2] rfl) h hk
    · have h := sg_ift h z
      refine lv_iconst (v := 1) hx hb dX12_carries_21 (by decide) ?_
      refine lv_goto (tgt := 57) hx hb dX12_carries_22 (by decide) ?_
      exact b_X12_carries_B57 X I (lv_sub hl [0, 1, 2] rfl) h hk
  · have h := sg_ift h z
    refine lv_iconst (v := 0) hx hb dX12_carries_9 (by decide) ?_
    refine lv_goto (tgt := 57) hx hb dX12_carries_10 (by decide) ?_
    exact b_X12_carries_B57 X I (lv_sub hl [0, 1, 2] rfl) h hk
set_option maxHeartbeats 4000000 in
set_option maxRecDepth 100000 in
theorem c_X12_carries {l : Launch} {P : sgP} {N : Nat} {p1 : Int32} {p2 : Int32} {σ : sgS} {q : Int32 × sgS} (h : f_X12_carries N p1 p2 σ = some q) : sg_Mi P shM 35 l yX12_carries cX12_carries 4 (some .int) 3 [.ref (sgA P 0), .int p1, .int p2] σ q := by
  refine sg_mki (plainFor_of_name (by decide +kernel)) (Nat.le_of_ble_eq_true rfl) ?_
  intro p e R s m args below meth c Q A ls H locs X I hl hk
  exact b_X12_carries X I hl h hk
def f_X12_bars_B29 (N : Nat) (p1 : Int32) (k1 : Int32) (σ : sgS) : Option (Int32 × sgS) :=
  sg_cl (f_X12_isRefused N k1 σ) fun v3 s4 =>
if v3 = 0 then
  (sg_cl (f_X12_keep N s4) fun v5 s6 =>
  sg_ld s6 21 215 32 fun v7 =>
  sg_st s6 21 215 32 (v7 - 1) fun s8 =>
  sg_ld s8 21 215 31 fun v9 =>
  sg_st s8 21 215 31 (v9 ^^^ (1 <<< (p1 &&& 31))) fun s10 =>
  sg_cr (f_X12_isClosed N p1 s10) fun v11 =>
  if v11 = 0 then
    (some (0, s10))
  else
    (some (1, s10)))
else
  (some ((-1), s4))
set_option maxHeartbeats 4000000 in
set_option maxRecDepth 100000 in
theorem b_X12_bars_B29 {p : Program} {l : Launch} {e : Env} {R : Room} {s : State} {m : MethodId} {args : Array Value} {below : List Frame} {meth : Method} {c : Code} {Q : State → Prop} {P : sgP} {A : Nat → Prop} {N : Nat} {p1 : Int32} {k1 : Int32} {σ : sgS} (X : sg_C P A 3 p R s m args c cX12_bars 2 RX12) {H : Heap} {locs : List Loc} (I : sg_I P shM 35 A s.heap σ H locs) {ls : Array Slot} (hl : lv_has ls 2 [(0, .ref (sgA P 0)), (1, .int p1)]) {st : Int32 × sgS} (h : f_X12_bars_B29 N p1 k1 σ = some st) (hk : sg_Ri p l e R s m args below meth c Q P shM 35 A cX12_bars (some .int) st) : W p l e R s m args below meth c H locs 0 0 Q (F0 m 29 ls [.int k1, .ref (sgA P 0)]) := by
  unfold f_X12_bars_B29 at h
  have hx := X.1.1
  have hb := X.1.2.1
  have hown := X.1.2.2.2.1
  have hts := X.1.2.2.2.2
  refine sg_callV (As := [.int k1]) X I mk_X12_382 (by decide) (by decide) shM_0 rfl (fun q9 e9 => c_X12_isRefused e9) h hl.1 rfl rfl (Nat.le_of_ble_eq_true rfl) dX12_bars_29 (fun v3 s4 H locs h I => ?_)
  refine lv_if_eq (tgt := 37) hx hb dX12_bars_32 (by decide) (fun z => ?_) (fun z => ?_)
  · have h := sg_ift h z
    refine lv_aload_n hx hb dX12_bars_37 rfl (lv_at hl 0 rfl) ?_
    refine sg_callVv (As := []) X I mk_X12_385 (by decide) (by decide) shM_0 rfl (fun q9 e9 => c_X12_keep e9) h hl.1 rfl rfl (Nat.le_of_ble_eq_true rfl) dX12_bars_38 (fun v5 s6 H locs h I => ?_)
    refine lv_aload_n hx hb dX12_bars_41 rfl (lv_at hl 0 rfl) ?_
    refine sg_getr X I fk_X12_70 (j := 21) (by decide) shM_0 rfl dX12_bars_42 ?_
    refine lv_bipush (v := 32) hx hb dX12_bars_45 (by decide) ?_
    refine lv_dup2_11 hx hb dX12_bars_47 rfl rfl ?_
    refine sg_iald X I (by decide) shM_21 h dX12_bars_48 (fun v7 h => ?_)
    refine lv_iconst (v := 1) hx hb dX12_bars_49 (by decide) ?_
    refine lv_isub hx hb dX12_bars_50 ?_
    refine sg_iast X I (by decide) shM_21 h dX12_bars_51 (fun s8 H locs h I => ?_)
    refine lv_aload_n hx hb dX12_bars_52 rfl (lv_at hl 0 rfl) ?_
    refine sg_getr X I fk_X12_70 (j := 21) (by decide) shM_0 rfl dX12_bars_53 ?_
    refine lv_bipush (v := 31) hx hb dX12_bars_56 (by decide) ?_
    refine lv_dup2_11 hx hb dX12_bars_58 rfl rfl ?_
    refine sg_iald X I (by decide) shM_21 h dX12_bars_59 (fun v9 h => ?_)
    refine lv_iconst (v := 1) hx hb dX12_bars_60 (by decide) ?_
    refine lv_iload_n hx hb dX12_bars_61 rfl (lv_at hl 1 rfl) ?_
    refine lv_ishl hx hb dX12_bars_62 ?_
    refine lv_ixor hx hb dX12_bars_63 ?_
    refine sg_iast X I (by decide) shM_21 h dX12_bars_64 (fun s10 H locs h I => ?_)
    refine lv_aload_n hx hb dX12_bars_65 rfl (lv_at hl 0 rfl) ?_
    refine lv_iload_n hx hb dX12_bars_66 rfl (lv_at hl 1 rfl) ?_
    refine sg_callVr (As := [.int p1]) X I mk_X12_334 (by decide) (by decide) shM_0 rfl (fun q9 e9 => c_X12_isClosed e9) h hl.1 rfl rfl (Nat.le_of_ble_eq_true rfl) dX12_bars_67 (fun v11 H locs h I => ?_)
    refine lv_if_eq (tgt := 77) hx hb dX12_bars_70 (by decide) (fun z => ?_) (fun z => ?_)
    · have h := sg_ift h z
      refine lv_iconst (v := 0) hx hb dX12_bars_77 (by decide) ?_
      obtain rfl := Option.some.inj h
      exact hk _ _ _ _ _ I ⟨_, rfl, rfl⟩ dX12_bars_78
    · have h := sg_iff h z
      refine lv_iconst (v := 1) hx hb dX12_bars_73 (by decide) ?_
      refine lv_goto (tgt := 78) hx hb dX12_bars_74 (by decide) ?_
      obtain rfl := Option.some.inj h
      exact hk _ _ _ _ _ I ⟨_, rfl, rfl⟩ dX12_bars_78
  · have h := sg_iff h z
    refine lv_iconst (v := -1) hx hb dX12_bars_35 (by decide) ?_
    obtain rfl := Option.some.inj h
    exact hk _ _ _ _ _ I ⟨_, rfl, rfl⟩ dX12_bars_36
def f_X12_bars (N : Nat) (p1 : Int32) (σ : sgS) : Option (Int32 × sgS) :=
  sg_cr (f_X12_isRoad N p1 σ) fun v1 =>
if v1 = 0 then
  (f_X12_bars_B29 N p1 0 σ)
else
  (sg_ld σ 21 215 32 fun v2 =>
  if 1 ≤ v2 then
    (f_X12_bars_B29 N p1 ((-1)) σ)
  else
    (f_X12_bars_B29 N p1 3 σ))
set_option maxHeartbeats 4000000 in
set_option maxRecDepth 100000 in
theorem b_X12_bars {p : Program} {l : Launch} {e : Env} {R : Room} {s : State} {m : MethodId} {args : Array Value} {below : List Frame} {meth : Method} {c : Code} {Q : State → Prop} {P : sgP} {A : Nat → Prop} {N : Nat} {p1 : Int32} {σ : sgS} (X : sg_C P A 3 p R s m args c cX12_bars 2 RX12) {H : Heap} {locs : List Loc} (I : sg_I P shM 35 A s.heap σ H locs) {ls : Array Slot} (hl : lv_has ls 2 [(0, .ref (sgA P 0)), (1, .int p1)]) {st : Int32 × sgS} (h : f_X12_bars N p1 σ = some st) (hk : sg_Ri p l e R s m args below meth c Q P shM 35 A cX12_bars (some .int) st) : W p l e R s m args below meth c H locs 0 0 Q (F0 m 0 ls []) := by
  unfold f_X12_bars at h
  have hx := X.1.1
  have hb := X.1.2.1
  have hown := X.1.2.2.2.1
  have hts := X.1.2.2.2.2
  refine lv_aload_n hx hb dX12_bars_0 rfl (lv_at hl 0 rfl) ?_
  refine lv_aload_n hx hb dX12_bars_1 rfl (lv_at hl 0 rfl) ?_
  refine lv_iload_n hx hb dX12_bars_2 rfl (lv_at hl 1 rfl) ?_
  refine sg_callVr (As := [.int p1]) X I mk_X12_367 (by decide) (by decide) shM_0 rfl (fun q9 e9 => c_X12_isRoad e9) h hl.1 rfl rfl (Nat.le_of_ble_eq_true rfl) dX12_bars_3 (fun v1 H locs h I => ?_)
  refine lv_if_ne (tgt := 13) hx hb dX12_bars_6 (by decide) (fun z => ?_) (fun z => ?_)
  · have h := sg_iff h z
    refine lv_aload_n hx hb dX12_bars_13 rfl (lv_at hl 0 rfl) ?_
    refine sg_getr X I fk_X12_70 (j := 21) (by decide) shM_0 rfl dX12_bars_14 ?_
    refine lv_bipush (v := 32) hx hb dX12_bars_17 (by decide) ?_
    refine sg_iald X I (by decide) shM_21 h dX12_bars_19 (fun v2 h => ?_)
    refine lv_iconst (v := 1) hx hb dX12_bars_20 (by decide) ?_
    refine lv_icmp_ge (tgt := 28) hx hb dX12_bars_21 (by decide) (fun z => ?_) (fun z => ?_)
    · have h := sg_ift h z
      refine lv_iconst (v := -1) hx hb dX12_bars_28 (by decide) ?_
      exact b_X12_bars_B29 X I (lv_sub hl [0, 1] rfl) h hk
    · have h := sg_iff h z
      refine lv_iconst (v := 3) hx hb dX12_bars_24 (by decide) ?_
      refine lv_goto (tgt := 29) hx hb dX12_bars_25 (by decide) ?_
      exact b_X12_bars_B29 X I (lv_sub hl [0, 1] rfl) h hk
  · have h := sg_ift h z
    refine lv_iconst (v := 0) hx hb dX12_bars_9 (by decide) ?_
    refine lv_goto (tgt := 29) hx hb dX12_bars_10 (by decide) ?_
    exact b_X12_bars_B29 X I (lv_sub hl [0, 1] rfl) h hk
set_option maxHeartbeats 4000000 in
set_option maxRecDepth 100000 in
theorem c_X12_bars {l : Launch} {P : sgP} {N : Nat} {p1 : Int32} {σ : sgS} {q : Int32 × sgS} (h : f_X12_bars N p1 σ = some q) : sg_Mi P shM 35 l yX12_bars cX12_bars 2 (some .int) 3 [.ref (sgA P 0), .int p1] σ q := by
  refine sg_mki (plainFor_of_name (by decide +kernel)) (Nat.le_of_ble_eq_true rfl) ?_
  intro p e R s m args below meth c Q A ls H locs X I hl hk
  exact b_X12_bars X I hl h hk
def f_X12_give_B42 (N : Nat) (p1 : Int32) (k1 : Int32) (σ : sgS) : Option (Int32 × sgS) :=
  sg_cl (f_X12_isRefused N k1 σ) fun v2 s3 =>
if v2 = 0 then
  (sg_cl (f_X12_keep N s3) fun v4 s5 =>
  sg_ld s5 21 215 32 fun v6 =>
  sg_st s5 21 215 32 (v6 + p1) fun s7 =>
  sg_ld s7 21 215 32 fun v8 =>
  some (v8, s7))
else
  (some ((-1), s3))
set_option maxHeartbeats 4000000 in
set_option maxRecDepth 100000 in
theorem b_X12_give_B42 {p : Program} {l : Launch} {e : Env} {R : Room} {s : State} {m : MethodId} {args : Array Value} {below : List Frame} {meth : Method} {c : Code} {Q : State → Prop} {P : sgP} {A : Nat → Prop} {N : Nat} {p1 : Int32} {k1 : Int32} {σ : sgS} (X : sg_C P A 2 p R s m args c cX12_give 2 RX12) {H : Heap} {locs : List Loc} (I : sg_I P shM 35 A s.heap σ H locs) {ls : Array Slot} (hl : lv_has ls 2 [(0, .ref (sgA P 0)), (1, .int p1)]) {st : Int32 × sgS} (h : f_X12_give_B42 N p1 k1 σ = some st) (hk : sg_Ri p l e R s m args below meth c Q P shM 35 A cX12_give (some .int) st) : W p l e R s m args below meth c H locs 0 0 Q (F0 m 42 ls [.int k1, .ref (sgA P 0)]) := by
  unfold f_X12_give_B42 at h
  have hx := X.1.1
  have hb := X.1.2.1
  have hown := X.1.2.2.2.1
  have hts := X.1.2.2.2.2
  refine sg_callV (As := [.int k1]) X I mk_X12_382 (by decide) (by decide) shM_0 rfl (fun q9 e9 => c_X12_isRefused e9) h hl.1 rfl rfl (Nat.le_of_ble_eq_true rfl) dX12_give_42 (fun v2 s3 H locs h I => ?_)
  refine lv_if_eq (tgt := 50) hx hb dX12_give_45 (by decide) (fun z => ?_) (fun z => ?_)
  · have h := sg_ift h z
    refine lv_aload_n hx hb dX12_give_50 rfl (lv_at hl 0 rfl) ?_
    refine sg_callVv (As := []) X I mk_X12_385 (by decide) (by decide) shM_0 rfl (fun q9 e9 => c_X12_keep e9) h hl.1 rfl rfl (Nat.le_of_ble_eq_true rfl) dX12_give_51 (fun v4 s5 H locs h I => ?_)
    refine lv_aload_n hx hb dX12_give_54 rfl (lv_at hl 0 rfl) ?_
    refine sg_getr X I fk_X12_70 (j := 21) (by decide) shM_0 rfl dX12_give_55 ?_
    refine lv_bipush (v := 32) hx hb dX12_give_58 (by decide) ?_
    refine lv_dup2_11 hx hb dX12_give_60 rfl rfl ?_
    refine sg_iald X I (by decide) shM_21 h dX12_give_61 (fun v6 h => ?_)
    refine lv_iload_n hx hb dX12_give_62 rfl (lv_at hl 1 rfl) ?_
    refine lv_iadd hx hb dX12_give_63 ?_
    refine sg_iast X I (by decide) shM_21 h dX12_give_64 (fun s7 H locs h I => ?_)
    refine lv_aload_n hx hb dX12_give_65 rfl (lv_at hl 0 rfl) ?_
    refine sg_getr X I fk_X12_70 (j := 21) (by decide) shM_0 rfl dX12_give_66 ?_
    refine lv_bipush (v := 32) hx hb dX12_give_69 (by decide) ?_
    refine sg_iald X I (by decide) shM_21 h dX12_give_71 (fun v8 h => ?_)
    obtain rfl := Option.some.inj h
    exact hk _ _ _ _ _ I ⟨_, rfl, rfl⟩ dX12_give_72
  · have h := sg_iff h z
    refine lv_iconst (v := -1) hx hb dX12_give_48 (by decide) ?_
    obtain rfl := Option.some.inj h
    exact hk _ _ _ _ _ I ⟨_, rfl, rfl⟩ dX12_give_49
def f_X12_give (N : Nat) (p1 : Int32) (σ : sgS) : Option (Int32 × sgS) :=
  if (σ.1 0 28) = 0 then
  (f_X12_give_B42 N p1 0 σ)
else
  (sg_cr (f_X12_in N p1 1 50 σ) fun v1 =>
  if v1 = 0 then
    (f_X12_give_B42 N p1 1 σ)
  else
    (sg_ld σ 21 215 32 fun v9 =>
    if (v9 + p1) ≤ 999 then
      (f_X12_give_B42 N p1 ((-1)) σ)
    else
      (f_X12_give_B42 N p1 1 σ)))
set_option maxHeartbeats 4000000 in
set_option maxRecDepth 100000 in
theorem b_X12_give {p : Program} {l : Launch} {e : Env} {R : Room} {s : State} {m : MethodId} {args : Array Value} {below : List Frame} {meth : Method} {c : Code} {Q : State → Prop} {P : sgP} {A : Nat → Prop} {N : Nat} {p1 : Int32} {σ : sgS} (X : sg_C P A 2 p R s m args c cX12_give 2 RX12) {H : Heap} {locs : List Loc} (I : sg_I P shM 35 A s.heap σ H locs) {ls : Array Slot} (hl : lv_has ls 2 [(0, .ref (sgA P 0)), (1, .int p1)]) {st : Int32 × sgS} (h : f_X12_give N p1 σ = some st) (hk : sg_Ri p l e R s m args below meth c Q P shM 35 A cX12_give (some .int) st) : W p l e R s m args below meth c H locs 0 0 Q (F0 m 0 ls []) := by
  unfold f_X12_give at h
  have hx := X.1.1
  have hb := X.1.2.1
  have hown := X.1.2.2.2.1
  have hts := X.1.2.2.2.2
  refine lv_aload_n hx hb dX12_give_0 rfl (lv_at hl 0 rfl) ?_
  refine lv_aload_n hx hb dX12_give_1 rfl (lv_at hl 0 rfl) ?_
  refine sg_geti X I fk_X12_288 (by decide) shM_0 rfl dX12_give_2 ?_
  refine lv_if_ne (tgt := 12) hx hb dX12_give_5 (by decide) (fun z => ?_) (fun z => ?_)
  · have h := sg_iff h z
    refine lv_iload_n hx hb dX12_give_12 rfl (lv_at hl 1 rfl) ?_
    refine lv_iconst (v := 1) hx hb dX12_give_13 (by decide) ?_
    refine lv_bipush (v := 50) hx hb dX12_give_14 (by decide) ?_
    refine sg_callSr (As := [.int p1, .int 1, .int 50]) X I mk_X12_235 (by decide) (fun q9 e9 => c_X12_in e9) h hl.1 rfl rfl (Nat.le_of_ble_eq_true rfl) dX12_give_16 (fun v1 H locs h I => ?_)
    refine lv_if_eq (tgt := 37) hx hb dX12_give_19 (by decide) (fun z => ?_) (fun z => ?_)
    · have h := sg_ift h z
      refine lv_iconst (v := 1) hx hb dX12_give_37 (by decide) ?_
      refine lv_goto (tgt := 42) hx hb dX12_give_38 (by decide) ?_
      exact b_X12_give_B42 X I (lv_sub hl [0, 1] rfl) h hk
    · have h := sg_iff h z
      refine lv_aload_n hx hb dX12_give_22 rfl (lv_at hl 0 rfl) ?_
      refine sg_getr X I fk_X12_70 (j := 21) (by decide) shM_0 rfl dX12_give_23 ?_
      refine lv_bipush (v := 32) hx hb dX12_give_26 (by decide) ?_
      refine sg_iald X I (by decide) shM_21 h dX12_give_28 (fun v9 h => ?_)
      refine lv_iload_n hx hb dX12_give_29 rfl (lv_at hl 1 rfl) ?_
      refine lv_iadd hx hb dX12_give_30 ?_
      refine lv_sipush (v := 999) hx hb dX12_give_31 (by decide) ?_
      refine lv_icmp_le (tgt := 41) hx hb dX12_give_34 (by decide) (fun z => ?_) (fun z => ?_)
      · have h := sg_ift h z
        refine lv_iconst (v := -1) hx hb dX12_give_41 (by decide) ?_
        exact b_X12_give_B42 X I (lv_sub hl [0, 1] rfl) h hk
      · have h := sg_iff h z
        refine lv_iconst (v := 1) hx hb dX12_give_37 (by decide) ?_
        refine lv_goto (tgt := 42) hx hb dX12_give_38 (by decide) ?_
        exact b_X12_give_B42 X I (lv_sub hl [0, 1] rfl) h hk
  · have h := sg_ift h z
    refine lv_iconst (v := 0) hx hb dX12_give_8 (by decide) ?_
    refine lv_goto (tgt := 42) hx hb dX12_give_9 (by decide) ?_
    exact b_X12_give_B42 X I (lv_sub hl [0, 1] rfl) h hk
set_option maxHeartbeats 4000000 in
set_option maxRecDepth 100000 in
theorem c_X12_give {l : Launch} {P : sgP} {N : Nat} {p1 : Int32} {σ : sgS} {q : Int32 × sgS} (h : f_X12_give N p1 σ = some q) : sg_Mi P shM 35 l yX12_give cX12_give 2 (some .int) 2 [.ref (sgA P 0), .int p1] σ q := by
  refine sg_mki (plainFor_of_name (by decide +kernel)) (Nat.le_of_ble_eq_true rfl) ?_
  intro p e R s m args below meth c Q A ls H locs X I hl hk
  exact b_X12_give X I hl h hk
def f_X12_flood (N : Nat) (p1 : Int32) (σ : sgS) : Option (Int32 × sgS) :=
  sg_cr (f_X12_in N p1 0 9 σ) fun v1 =>
if v1 = 0 then
  (some (vp_nar .boolean 0, σ))
else
  (if p1 = (σ.1 0 37) then
    (some (vp_nar .boolean 0, σ))
  else
    (sg_pf σ 0 37 p1 fun s2 =>
    some (vp_nar .boolean 1, s2)))
set_option maxHeartbeats 4000000 in
set_option maxRecDepth 100000 in
theorem b_X12_flood {p : Program} {l : Launch} {e : Env} {R : Room} {s : State} {m : MethodId} {args : Array Value} {below : List Frame} {meth : Method} {c : Code} {Q : State → Prop} {P : sgP} {A : Nat → Prop} {N : Nat} {p1 : Int32} {σ : sgS} (X : sg_C P A 2 p R s m args c cX12_flood 2 RX12) {H : Heap} {locs : List Loc} (I : sg_I P shM 35 A s.heap σ H locs) {ls : Array Slot} (hl : lv_has ls 2 [(0, .ref (sgA P 0)), (1, .int p1)]) {st : Int32 × sgS} (h : f_X12_flood N p1 σ = some st) (hk : sg_Ri p l e R s m args below meth c Q P shM 35 A cX12_flood (some .boolean) st) : W p l e R s m args below meth c H locs 0 0 Q (F0 m 0 ls []) := by
  unfold f_X12_flood at h
  have hx := X.1.1
  have hb := X.1.2.1
  have hown := X.1.2.2.2.1
  have hts := X.1.2.2.2.2
  refine lv_iload_n hx hb dX12_flood_0 rfl (lv_at hl 1 rfl) ?_
  refine lv_iconst (v := 0) hx hb dX12_flood_1 (by decide) ?_
  refine lv_bipush (v := 9) hx hb dX12_flood_2 (by decide) ?_
  refine sg_callSr (As := [.int p1, .int 0, .int 9]) X I mk_X12_235 (by decide) (fun q9 e9 => c_X12_in e9) h hl.1 rfl rfl (Nat.le_of_ble_eq_true rfl) dX12_flood_4 (fun v1 H locs h I => ?_)
  refine lv_if_eq (tgt := 18) hx hb dX12_flood_7 (by decide) (fun z => ?_) (fun z => ?_)
  · have h := sg_ift h z
    refine lv_iconst (v := 0) hx hb dX12_flood_18 (by decide) ?_
    obtain rfl := Option.some.inj h
    exact hk _ _ _ _ _ I ⟨_, rfl, rfl⟩ dX12_flood_19
  · have h := sg_iff h z
    refine lv_iload_n hx hb dX12_flood_10 rfl (lv_at hl 1 rfl) ?_
    refine lv_aload_n hx hb dX12_flood_11 rfl (lv_at hl 0 rfl) ?_
    refine sg_geti X I fk_X12_80 (by decide) shM_0 rfl dX12_flood_12 ?_
    refine lv_icmp_ne (tgt := 20) hx hb dX12_flood_15 (by decide) (fun z => ?_) (fun z => ?_)
    · have h := sg_iff h z
      refine lv_aload_n hx hb dX12_flood_20 rfl (lv_at hl 0 rfl) ?_
      refine lv_iload_n hx hb dX12_flood_21 rfl (lv_at hl 1 rfl) ?_
      refine sg_puti X I fk_X12_80 wk_12_37 rfl rfl (by decide) shM_0 rfl h dX12_flood_22 (fun s2 H locs h I => ?_)
      refine lv_iconst (v := 1) hx hb dX12_flood_25 (by decide) ?_
      obtain rfl := Option.some.inj h
      exact hk _ _ _ _ _ I ⟨_, rfl, rfl⟩ dX12_flood_26
    · have h := sg_ift h z
      refine lv_iconst (v := 0) hx hb dX12_flood_18 (by decide) ?_
      obtain rfl := Option.some.inj h
      exact hk _ _ _ _ _ I ⟨_, rfl, rfl⟩ dX12_flood_19
set_option maxHeartbeats 4000000 in
set_option maxRecDepth 100000 in
theorem c_X12_flood {l : Launch} {P : sgP} {N : Nat} {p1 : Int32} {σ : sgS} {q : Int32 × sgS} (h : f_X12_flood N p1 σ = some q) : sg_Mi P shM 35 l yX12_flood cX12_flood 2 (some .boolean) 2 [.ref (sgA P 0), .int p1] σ q := by
  refine sg_mki (plainFor_of_name (by decide +kernel)) (Nat.le_of_ble_eq_true rfl) ?_
  intro p e R s m args below meth c Q A ls H locs X I hl hk
  exact b_X12_flood X I hl h hk
def f_X12_draw (N : Nat) (p1 : Int32) (σ : sgS) : Option (Int32 × sgS) :=
  sg_pl σ 0 (((σ.2 0) * 6364136223846793005) + 1442695040888963407) fun s1 =>
sg_nzl p1.toInt64 (
  some (((sg_lushr (s1.2 0) 33) - (sg_lushr (s1.2 0) 33) / p1.toInt64 * p1.toInt64).toInt32, s1))
set_option maxHeartbeats 4000000 in
set_option maxRecDepth 100000 in
theorem b_X12_draw {p : Program} {l : Launch} {e : Env} {R : Room} {s : State} {m : MethodId} {args : Array Value} {below : List Frame} {meth : Method} {c : Code} {Q : State → Prop} {P : sgP} {A : Nat → Prop} {N : Nat} {p1 : Int32} {σ : sgS} (X : sg_C P A 1 p R s m args c cX12_draw 2 RX12) {H : Heap} {locs : List Loc} (I : sg_I P shM 35 A s.heap σ H locs) {ls : Array Slot} (hl : lv_has ls 2 [(0, .ref (sgA P 0)), (1, .int p1)]) {st : Int32 × sgS} (h : f_X12_draw N p1 σ = some st) (hk : sg_Ri p l e R s m args below meth c Q P shM 35 A cX12_draw (some .int) st) : W p l e R s m args below meth c H locs 0 0 Q (F0 m 0 ls []) := by
  unfold f_X12_draw at h
  have hx := X.1.1
  have hb := X.1.2.1
  have hown := X.1.2.2.2.1
  have hts := X.1.2.2.2.2
  refine lv_aload_n hx hb dX12_draw_0 rfl (lv_at hl 0 rfl) ?_
  refine lv_aload_n hx hb dX12_draw_1 rfl (lv_at hl 0 rfl) ?_
  refine sg_getl X I fk_X12_397 (by decide) shM_0 rfl dX12_draw_2 ?_
  refine lv_ldc2 (v := 6364136223846793005) hx hb hown (hts _ qw_1062) dX12_draw_5 ?_
  refine lv_lmul hx hb dX12_draw_8 ?_
  refine lv_ldc2 (v := 1442695040888963407) hx hb hown (hts _ qw_1063) dX12_draw_9 ?_
  refine lv_ladd hx hb dX12_draw_12 ?_
  refine sg_putl X I fk_X12_397 wk_12_43 (by decide) shM_0 rfl (by decide) (by decide) h dX12_draw_13 (fun s1 H locs h I => ?_)
  refine lv_aload_n hx hb dX12_draw_16 rfl (lv_at hl 0 rfl) ?_
  refine sg_getl X I fk_X12_397 (by decide) shM_0 rfl dX12_draw_17 ?_
  refine lv_bipush (v := 33) hx hb dX12_draw_20 (by decide) ?_
  refine lv_lushr (v := sg_lushr (s1.2 0) 33) hx hb dX12_draw_22 rfl ?_
  refine lv_iload_n hx hb dX12_draw_23 rfl (lv_at hl 1 rfl) ?_
  refine lv_i2l (v := p1.toInt64) hx hb dX12_draw_24 rfl ?_
  refine sg_nzlW (h := h) (fun z h => ?_)
  refine lv_lrem hx hb dX12_draw_25 z ?_
  refine lv_l2i (v := ((sg_lushr (s1.2 0) 33) - (sg_lushr (s1.2 0) 33) / p1.toInt64 * p1.toInt64).toInt32) hx hb dX12_draw_26 rfl ?_
  obtain rfl := Option.some.inj h
  exact hk _ _ _ _ _ I ⟨_, rfl, rfl⟩ dX12_draw_27
set_option maxHeartbeats 4000000 in
set_option maxRecDepth 100000 in
theorem c_X12_draw {l : Launch} {P : sgP} {N : Nat} {p1 : Int32} {σ : sgS} {q : Int32 × sgS} (h : f_X12_draw N p1 σ = some q) : sg_Mi P shM 35 l yX12_draw cX12_draw 2 (some .int) 1 [.ref (sgA P 0), .int p1] σ q := by
  refine sg_mki (plainFor_of_name (by decide +kernel)) (Nat.le_of_ble_eq_true rfl) ?_
  intro p e R s m args below meth c Q A ls H locs X I hl hk
  exact b_X12_draw X I hl h hk
def f_X12_drawDay_B33 (N : Nat) (σ : sgS) : Option (Int32 × sgS) :=
  sg_cl (f_X12_draw N (σ.1 0 30) σ) fun v3 s4 =>
sg_cl (f_X12_draw N 4 s4) fun v5 s6 =>
sg_cr (f_X12_isWay N v5 s6) fun v7 =>
if v7 = 0 then
  (some (0, s6))
else
  (sg_ld s6 21 215 (0 + v3) fun v8 =>
  sg_cr (f_X12_beginsAt N v5 v8 s6) fun v9 =>
  if v9 = 0 then
    (some (0, s6))
  else
    (sg_ld s6 21 215 (4 + v3) fun v10 =>
    if v10 = ((-1)) then
      (sg_cl (f_X12_putNow N v3 v5 s6) fun v11 s12 =>
      some (0, s12))
    else
      (some (0, s6))))
set_option maxHeartbeats 4000000 in
set_option maxRecDepth 100000 in
theorem b_X12_drawDay_B33 {p : Program} {l : Launch} {e : Env} {R : Room} {s : State} {m : MethodId} {args : Array Value} {below : List Frame} {meth : Method} {c : Code} {Q : State → Prop} {P : sgP} {A : Nat → Prop} {N : Nat} {σ : sgS} (X : sg_C P A 3 p R s m args c cX12_drawDay 3 RX12) {H : Heap} {locs : List Loc} (I : sg_I P shM 35 A s.heap σ H locs) {ls : Array Slot} (hl : lv_has ls 3 [(0, .ref (sgA P 0))]) {st : Int32 × sgS} (h : f_X12_drawDay_B33 N σ = some st) (hk : sg_Rv p l e R s m args below meth c Q P shM 35 A cX12_drawDay st) : W p l e R s m args below meth c H locs 0 0 Q (F0 m 33 ls []) := by
  unfold f_X12_drawDay_B33 at h
  have hx := X.1.1
  have hb := X.1.2.1
  have hown := X.1.2.2.2.1
  have hts := X.1.2.2.2.2
  refine lv_aload_n hx hb dX12_drawDay_33 rfl (lv_at hl 0 rfl) ?_
  refine lv_aload_n hx hb dX12_drawDay_34 rfl (lv_at hl 0 rfl) ?_
  refine sg_geti X I fk_X12_285 (by decide) shM_0 rfl dX12_drawDay_35 ?_
  refine sg_callV (As := [.int (σ.1 0 30)]) X I mk_X12_405 (by decide) (by decide) shM_0 rfl (fun q9 e9 => c_X12_draw e9) h hl.1 rfl rfl (Nat.le_of_ble_eq_true rfl) dX12_drawDay_38 (fun v3 s4 H locs h I => ?_)
  refine lv_istore_n (lv' := [(1, .int v3), (0, .ref (sgA P 0))]) hx hb dX12_drawDay_41 rfl hl (by decide) rfl (fun ls hl => ?_)
  refine lv_aload_n hx hb dX12_drawDay_42 rfl (lv_at hl 1 rfl) ?_
  refine lv_iconst (v := 4) hx hb dX12_drawDay_43 (by decide) ?_
  refine sg_callV (As := [.int 4]) X I mk_X12_405 (by decide) (by decide) shM_0 rfl (fun q9 e9 => c_X12_draw e9) h hl.1 rfl rfl (Nat.le_of_ble_eq_true rfl) dX12_drawDay_44 (fun v5 s6 H locs h I => ?_)
  refine lv_istore_n (lv' := [(2, .int v5), (1, .int v3), (0, .ref (sgA P 0))]) hx hb dX12_drawDay_47 rfl hl (by decide) rfl (fun ls hl => ?_)
  refine lv_aload_n hx hb dX12_drawDay_48 rfl (lv_at hl 2 rfl) ?_
  refine lv_iload_n hx hb dX12_drawDay_49 rfl (lv_at hl 0 rfl) ?_
  refine sg_callVr (As := [.int v5]) X I mk_X12_376 (by decide) (by decide) shM_0 rfl (fun q9 e9 => c_X12_isWay e9) h hl.1 rfl rfl (Nat.le_of_ble_eq_true rfl) dX12_drawDay_50 (fun v7 H locs h I => ?_)
  refine lv_if_eq (tgt := 90) hx hb dX12_drawDay_53 (by decide) (fun z => ?_) (fun z => ?_)
  · have h := sg_ift h z
    obtain rfl := Option.some.inj h
    exact hk _ _ _ _ I dX12_drawDay_90
  · have h := sg_iff h z
    refine lv_aload_n hx hb dX12_drawDay_56 rfl (lv_at hl 2 rfl) ?_
    refine lv_iload_n hx hb dX12_drawDay_57 rfl (lv_at hl 0 rfl) ?_
    refine lv_aload_n hx hb dX12_drawDay_58 rfl (lv_at hl 2 rfl) ?_
    refine sg_getr X I fk_X12_70 (j := 21) (by decide) shM_0 rfl dX12_drawDay_59 ?_
    refine lv_iconst (v := 0) hx hb dX12_drawDay_62 (by decide) ?_
    refine lv_iload_n hx hb dX12_drawDay_63 rfl (lv_at hl 1 rfl) ?_
    refine lv_iadd hx hb dX12_drawDay_64 ?_
    refine sg_iald X I (by decide) shM_21 h dX12_drawDay_65 (fun v8 h => ?_)
    refine sg_callVr (As := [.int v5, .int v8]) X I mk_X12_391 (by decide) (by decide) shM_0 rfl (fun q9 e9 => c_X12_beginsAt e9) h hl.1 rfl rfl (Nat.le_of_ble_eq_true rfl) dX12_drawDay_66 (fun v9 H locs h I => ?_)
    refine lv_if_eq (tgt := 90) hx hb dX12_drawDay_69 (by decide) (fun z => ?_) (fun z => ?_)
    · have h := sg_ift h z
      obtain rfl := Option.some.inj h
      exact hk _ _ _ _ I dX12_drawDay_90
    · have h := sg_iff h z
      refine lv_aload_n hx hb dX12_drawDay_72 rfl (lv_at hl 2 rfl) ?_
      refine sg_getr X I fk_X12_70 (j := 21) (by decide) shM_0 rfl dX12_drawDay_73 ?_
      refine lv_iconst (v := 4) hx hb dX12_drawDay_76 (by decide) ?_
      refine lv_iload_n hx hb dX12_drawDay_77 rfl (lv_at hl 1 rfl) ?_
      refine lv_iadd hx hb dX12_drawDay_78 ?_
      refine sg_iald X I (by decide) shM_21 h dX12_drawDay_79 (fun v10 h => ?_)
      refine lv_iconst (v := -1) hx hb dX12_drawDay_80 (by decide) ?_
      refine lv_icmp_ne (tgt := 90) hx hb dX12_drawDay_81 (by decide) (fun z => ?_) (fun z => ?_)
      · have h := sg_iff h z
        obtain rfl := Option.some.inj h
        exact hk _ _ _ _ I dX12_drawDay_90
      · have h := sg_ift h z
        refine lv_aload_n hx hb dX12_drawDay_84 rfl (lv_at hl 2 rfl) ?_
        refine lv_iload_n hx hb dX12_drawDay_85 rfl (lv_at hl 1 rfl) ?_
        refine lv_iload_n hx hb dX12_drawDay_86 rfl (lv_at hl 0 rfl) ?_
        refine sg_callVv (As := [.int v3, .int v5]) X I mk_X12_394 (by decide) (by decide) shM_0 rfl (fun q9 e9 => c_X12_putNow e9) h hl.1 rfl rfl (Nat.le_of_ble_eq_true rfl) dX12_drawDay_87 (fun v11 s12 H locs h I => ?_)
        obtain rfl := Option.some.inj h
        exact hk _ _ _ _ I dX12_drawDay_90
def f_X12_drawDay (N : Nat) (σ : sgS) : Option (Int32 × sgS) :=
  sg_cl (f_X12_draw N 10 σ) fun v1 s2 =>
if (s2.1 0 37) ≤ v1 then
  (f_X12_drawDay_B33 N s2)
else
  (sg_ld s2 21 215 31 fun v13 =>
  sg_cl (f_X12_draw N (s2.1 0 29) s2) fun v14 s15 =>
  sg_st s15 21 215 31 (v13 ^^^ (1 <<< (v14 &&& 31))) fun s16 =>
  f_X12_drawDay_B33 N s16)
set_option maxHeartbeats 4000000 in
set_option maxRecDepth 100000 in
theorem b_X12_drawDay {p : Program} {l : Launch} {e : Env} {R : Room} {s : State} {m : MethodId} {args : Array Value} {below : List Frame} {meth : Method} {c : Code} {Q : State → Prop} {P : sgP} {A : Nat → Prop} {N : Nat} {σ : sgS} (X : sg_C P A 3 p R s m args c cX12_drawDay 3 RX12) {H : Heap} {locs : List Loc} (I : sg_I P shM 35 A s.heap σ H locs) {ls : Array Slot} (hl : lv_has ls 3 [(0, .ref (sgA P 0))]) {st : Int32 × sgS} (h : f_X12_drawDay N σ = some st) (hk : sg_Rv p l e R s m args below meth c Q P shM 35 A cX12_drawDay st) : W p l e R s m args below meth c H locs 0 0 Q (F0 m 0 ls []) := by
  unfold f_X12_drawDay at h
  have hx := X.1.1
  have hb := X.1.2.1
  have hown := X.1.2.2.2.1
  have hts := X.1.2.2.2.2
  refine lv_aload_n hx hb dX12_drawDay_0 rfl (lv_at hl 0 rfl) ?_
  refine lv_bipush (v := 10) hx hb dX12_drawDay_1 (by decide) ?_
  refine sg_callV (As := [.int 10]) X I mk_X12_405 (by decide) (by decide) shM_0 rfl (fun q9 e9 => c_X12_draw e9) h hl.1 rfl rfl (Nat.le_of_ble_eq_true rfl) dX12_drawDay_3 (fun v1 s2 H locs h I => ?_)
  refine lv_aload_n hx hb dX12_drawDay_6 rfl (lv_at hl 0 rfl) ?_
  refine sg_geti X I fk_X12_80 (by decide) shM_0 rfl dX12_drawDay_7 ?_
  refine lv_icmp_ge (tgt := 33) hx hb dX12_drawDay_10 (by decide) (fun z => ?_) (fun z => ?_)
  · have h := sg_ift h z
    exact b_X12_drawDay_B33 X I (lv_sub hl [0] rfl) h hk
  · have h := sg_iff h z
    refine lv_aload_n hx hb dX12_drawDay_13 rfl (lv_at hl 0 rfl) ?_
    refine sg_getr X I fk_X12_70 (j := 21) (by decide) shM_0 rfl dX12_drawDay_14 ?_
    refine lv_bipush (v := 31) hx hb dX12_drawDay_17 (by decide) ?_
    refine lv_dup2_11 hx hb dX12_drawDay_19 rfl rfl ?_
    refine sg_iald X I (by decide) shM_21 h dX12_drawDay_20 (fun v13 h => ?_)
    refine lv_iconst (v := 1) hx hb dX12_drawDay_21 (by decide) ?_
    refine lv_aload_n hx hb dX12_drawDay_22 rfl (lv_at hl 0 rfl) ?_
    refine lv_aload_n hx hb dX12_drawDay_23 rfl (lv_at hl 0 rfl) ?_
    refine sg_geti X I fk_X12_291 (by decide) shM_0 rfl dX12_drawDay_24 ?_
    refine sg_callV (As := [.int (s2.1 0 29)]) X I mk_X12_405 (by decide) (by decide) shM_0 rfl (fun q9 e9 => c_X12_draw e9) h hl.1 rfl rfl (Nat.le_of_ble_eq_true rfl) dX12_drawDay_27 (fun v14 s15 H locs h I => ?_)
    refine lv_ishl hx hb dX12_drawDay_30 ?_
    refine lv_ixor hx hb dX12_drawDay_31 ?_
    refine sg_iast X I (by decide) shM_21 h dX12_drawDay_32 (fun s16 H locs h I => ?_)
    exact b_X12_drawDay_B33 X I (lv_sub hl [0] rfl) h hk
set_option maxHeartbeats 4000000 in
set_option maxRecDepth 100000 in
theorem c_X12_drawDay {l : Launch} {P : sgP} {N : Nat} {σ : sgS} {q : Int32 × sgS} (h : f_X12_drawDay N σ = some q) : sg_Mv P shM 35 l yX12_drawDay cX12_drawDay 3 none 3 [.ref (sgA P 0)] σ q := by
  refine sg_mkv (plainFor_of_name (by decide +kernel)) (Nat.le_of_ble_eq_true rfl) ?_
  intro p e R s m args below meth c Q A ls H locs X I hl hk
  exact b_X12_drawDay X I hl h hk
def f_X12_years_L25 (N : Nat) (p1 : Int32) (p2 : Int64) (x4 : Int32) (σ : sgS) : Option ((Int32 × sgS) ⊕ ((sgS × Int32) ⊕ (sgS))) :=
  if p1 ≤ x4 then
  (some (.inr (.inr σ)))
else
  (sg_cl (f_X12_keep N σ) fun v3 s4 =>
  sg_cl (f_X12_drawDay N s4) fun v5 s6 =>
  sg_cl (f_X12_passDay N s6) fun v7 s8 =>
  some (.inr (.inl (s8, x4 + 1))))
set_option maxHeartbeats 4000000 in
set_option maxRecDepth 100000 in
theorem b_X12_years_L25 {p : Program} {l : Launch} {e : Env} {R : Room} {s : State} {m : MethodId} {args : Array Value} {below : List Frame} {meth : Method} {c : Code} {Q : State → Prop} {P : sgP} {A : Nat → Prop} {N : Nat} {p1 : Int32} {p2 : Int64} {x4 : Int32} {σ : sgS} (X : sg_C P A 10 p R s m args c cX12_years 5 RX12) {H : Heap} {locs : List Loc} (I : sg_I P shM 35 A s.heap σ H locs) {ls : Array Slot} (hl : lv_has ls 5 [(0, .ref (sgA P 0)), (1, .int p1), (4, .int x4)]) {st : (Int32 × sgS) ⊕ ((sgS × Int32) ⊕ (sgS))} (h : f_X12_years_L25 N p1 p2 x4 σ = some st) (hk : sg_k3 (sg_Ri p l e R s m args below meth c Q P shM 35 A cX12_years (some .int)) (fun x => sg_Wt p l e R s m args below meth c Q P shM 35 A 5 25 x.1 [(0, .ref (sgA P 0)), (1, .int p1), (4, .int x.2)]) (fun y => sg_Wt p l e R s m args below meth c Q P shM 35 A 5 49 y [(0, .ref (sgA P 0))]) st) : W p l e R s m args below meth c H locs 0 0 Q (F0 m 25 ls []) := by
  unfold f_X12_years_L25 at h
  have hx := X.1.1
  have hb := X.1.2.1
  have hown := X.1.2.2.2.1
  have hts := X.1.2.2.2.2
  refine lv_iload hx hb dX12_years_25 (lv_at hl 2 rfl) ?_
  refine lv_iload_n hx hb dX12_years_27 rfl (lv_at hl 1 rfl) ?_
  refine lv_icmp_ge (tgt := 49) hx hb dX12_years_28 (by decide) (fun z => ?_) (fun z => ?_)
  · have h := sg_ift h z
    obtain rfl := Option.some.inj h
    exact sg_go hk I (lv_sub hl [0] rfl)
  · have h := sg_iff h z
    refine lv_aload_n hx hb dX12_years_31 rfl (lv_at hl 0 rfl) ?_
    refine sg_callVv (As := []) X I mk_X12_385 (by decide) (by decide) shM_0 rfl (fun q9 e9 => c_X12_keep e9) h hl.1 rfl rfl (Nat.le_of_ble_eq_true rfl) dX12_years_32 (fun v3 s4 H locs h I => ?_)
    refine lv_aload_n hx hb dX12_years_35 rfl (lv_at hl 0 rfl) ?_
    refine sg_callVv (As := []) X I mk_X12_408 (by decide) (by decide) shM_0 rfl (fun q9 e9 => c_X12_drawDay e9) h hl.1 rfl rfl (Nat.le_of_ble_eq_true rfl) dX12_years_36 (fun v5 s6 H locs h I => ?_)
    refine lv_aload_n hx hb dX12_years_39 rfl (lv_at hl 0 rfl) ?_
    refine sg_callVv (As := []) X I mk_X12_388 (by decide) (by decide) shM_0 rfl (fun q9 e9 => c_X12_passDay e9) h hl.1 rfl rfl (Nat.le_of_ble_eq_true rfl) dX12_years_40 (fun v7 s8 H locs h I => ?_)
    refine lv_iinc (v := x4 + 1) (lv' := [(4, .int (x4 + 1)), (0, .ref (sgA P 0)), (1, .int p1)]) hx hb dX12_years_43 hl (k := 2) rfl rfl (by decide) rfl (fun ls hl => ?_)
    refine lv_goto (tgt := 25) hx hb dX12_years_46 (by decide) ?_
    obtain rfl := Option.some.inj h
    exact sg_go hk I (lv_sub hl [1, 2, 0] rfl)
def f_X12_years (N : Nat) (p1 : Int32) (p2 : Int64) (σ : sgS) : Option (Int32 × sgS) :=
  if (σ.1 0 28) = 0 then
  (some ((-1), σ))
else
  (sg_cr (f_X12_areDays N p1 σ) fun v1 =>
  if v1 = 0 then
    (some ((-1), σ))
  else
    (sg_pl σ 0 p2 fun s2 =>
    sg_lb (sg_lp (fun x => f_X12_years_L25 N p1 p2 x.2 x.1) N ((s2, 0))) (fun r => some r) fun y9 =>
    sg_ld y9 21 215 33 fun v10 =>
    some (v10, y9)))
set_option maxHeartbeats 4000000 in
set_option maxRecDepth 100000 in
theorem b_X12_years {p : Program} {l : Launch} {e : Env} {R : Room} {s : State} {m : MethodId} {args : Array Value} {below : List Frame} {meth : Method} {c : Code} {Q : State → Prop} {P : sgP} {A : Nat → Prop} {N : Nat} {p1 : Int32} {p2 : Int64} {σ : sgS} (X : sg_C P A 10 p R s m args c cX12_years 5 RX12) {H : Heap} {locs : List Loc} (I : sg_I P shM 35 A s.heap σ H locs) {ls : Array Slot} (hl : lv_has ls 5 [(0, .ref (sgA P 0)), (1, .int p1), (2, .long p2)]) {st : Int32 × sgS} (h : f_X12_years N p1 p2 σ = some st) (hk : sg_Ri p l e R s m args below meth c Q P shM 35 A cX12_years (some .int) st) : W p l e R s m args below meth c H locs 0 0 Q (F0 m 0 ls []) := by
  unfold f_X12_years at h
  have hx := X.1.1
  have hb := X.1.2.1
  have hown := X.1.2.2.2.1
  have hts := X.1.2.2.2.2
  refine lv_aload_n hx hb dX12_years_0 rfl (lv_at hl 0 rfl) ?_
  refine sg_geti X I fk_X12_288 (by decide) shM_0 rfl dX12_years_1 ?_
  refine lv_if_eq (tgt := 15) hx hb dX12_years_4 (by decide) (fun z => ?_) (fun z => ?_)
  · have h := sg_ift h z
    refine lv_iconst (v := -1) hx hb dX12_years_15 (by decide) ?_
    obtain rfl := Option.some.inj h
    exact hk _ _ _ _ _ I ⟨_, rfl, rfl⟩ dX12_years_16
  · have h := sg_iff h z
    refine lv_aload_n hx hb dX12_years_7 rfl (lv_at hl 0 rfl) ?_
    refine lv_iload_n hx hb dX12_years_8 rfl (lv_at hl 1 rfl) ?_
    refine sg_callVr (As := [.int p1]) X I mk_X12_379 (by decide) (by decide) shM_0 rfl (fun q9 e9 => c_X12_areDays e9) h hl.1 rfl rfl (Nat.le_of_ble_eq_true rfl) dX12_years_9 (fun v1 H locs h I => ?_)
    refine lv_if_ne (tgt := 17) hx hb dX12_years_12 (by decide) (fun z => ?_) (fun z => ?_)
    · have h := sg_iff h z
      refine lv_aload_n hx hb dX12_years_17 rfl (lv_at hl 0 rfl) ?_
      refine lv_lload_n hx hb dX12_years_18 rfl (lv_at hl 2 rfl) ?_
      refine sg_putl X I fk_X12_397 wk_12_43 (by decide) shM_0 rfl (by decide) (by decide) h dX12_years_19 (fun s2 H locs h I => ?_)
      refine lv_iconst (v := 0) hx hb dX12_years_22 (by decide) ?_
      refine lv_istore (lv' := [(4, .int 0), (0, .ref (sgA P 0)), (1, .int p1), (2, .long p2)]) hx hb dX12_years_23 hl (by decide) rfl (fun ls hl => ?_)
      obtain ⟨res, e9, k9⟩ := sg_lb_some h
      refine sg_go (sg_lp_W (a := (sg_Ri p l e R s m args below meth c Q P shM 35 A cX12_years (some .int))) (w := (fun x => sg_Wt p l e R s m args below meth c Q P shM 35 A 5 25 x.1 [(0, .ref (sgA P 0)), (1, .int p1), (4, .int x.2)])) (c := (fun y => sg_Wt p l e R s m args below meth c Q P shM 35 A 5 49 y [(0, .ref (sgA P 0))])) (fun x st hb9 hk9 => ?_) N ((s2, 0)) res e9 (sg_k2_mono k9 (fun r h => ?_) (fun y9 h => ?_))) I (lv_sub hl [1, 2, 0] rfl)
      · intro H locs ls I hl
        exact b_X12_years_L25 X I hl hb9 hk9
      · obtain rfl := Option.some.inj h
        exact hk
      · intro H locs ls I hl
        refine lv_aload_n hx hb dX12_years_49 rfl (lv_at hl 0 rfl) ?_
        refine sg_getr X I fk_X12_70 (j := 21) (by decide) shM_0 rfl dX12_years_50 ?_
        refine lv_bipush (v := 33) hx hb dX12_years_53 (by decide) ?_
        refine sg_iald X I (by decide) shM_21 h dX12_years_55 (fun v10 h => ?_)
        obtain rfl := Option.some.inj h
        exact hk _ _ _ _ _ I ⟨_, rfl, rfl⟩ dX12_years_56
    · have h := sg_ift h z
      refine lv_iconst (v := -1) hx hb dX12_years_15 (by decide) ?_
      obtain rfl := Option.some.inj h
      exact hk _ _ _ _ _ I ⟨_, rfl, rfl⟩ dX12_years_16
set_option maxHeartbeats 4000000 in
set_option maxRecDepth 100000 in
theorem c_X12_years {l : Launch} {P : sgP} {N : Nat} {p1 : Int32} {p2 : Int64} {σ : sgS} {q : Int32 × sgS} (h : f_X12_years N p1 p2 σ = some q) : sg_Mi P shM 35 l yX12_years cX12_years 5 (some .int) 10 [.ref (sgA P 0), .int p1, .long p2] σ q := by
  refine sg_mki (plainFor_of_name (by decide +kernel)) (Nat.le_of_ble_eq_true rfl) ?_
  intro p e R s m args below meth c Q A ls H locs X I hl hk
  exact b_X12_years X I hl h hk
def f_X12_status (N : Nat) (p1 : Int32) (σ : sgS) : Option (Int32) :=
  sg_cr (f_X12_in N p1 0 4 σ) fun v1 =>
if v1 = 0 then
  (some ((-1)))
else
  (sg_ld σ 22 5 p1 fun v2 =>
  some v2)
set_option maxHeartbeats 4000000 in
set_option maxRecDepth 100000 in
theorem b_X12_status {p : Program} {l : Launch} {e : Env} {R : Room} {s : State} {m : MethodId} {args : Array Value} {below : List Frame} {meth : Method} {c : Code} {Q : State → Prop} {P : sgP} {A : Nat → Prop} {N : Nat} {p1 : Int32} {σ : sgS} (X : sg_C P A 2 p R s m args c cX12_status 2 RX12) {H : Heap} {locs : List Loc} (I : sg_I P shM 35 A s.heap σ H locs) {ls : Array Slot} (hl : lv_has ls 2 [(0, .ref (sgA P 0)), (1, .int p1)]) {st : Int32} (h : f_X12_status N p1 σ = some st) (hk : sg_Ri p l e R s m args below meth c Q P shM 35 A cX12_status (some .int) (st, σ)) : W p l e R s m args below meth c H locs 0 0 Q (F0 m 0 ls []) := by
  unfold f_X12_status at h
  have hx := X.1.1
  have hb := X.1.2.1
  have hown := X.1.2.2.2.1
  have hts := X.1.2.2.2.2
  refine lv_iload_n hx hb dX12_status_0 rfl (lv_at hl 1 rfl) ?_
  refine lv_iconst (v := 0) hx hb dX12_status_1 (by decide) ?_
  refine lv_iconst (v := 4) hx hb dX12_status_2 (by decide) ?_
  refine sg_callSr (As := [.int p1, .int 0, .int 4]) X I mk_X12_235 (by decide) (fun q9 e9 => c_X12_in e9) h hl.1 rfl rfl (Nat.le_of_ble_eq_true rfl) dX12_status_3 (fun v1 H locs h I => ?_)
  refine lv_if_eq (tgt := 18) hx hb dX12_status_6 (by decide) (fun z => ?_) (fun z => ?_)
  · have h := sg_ift h z
    refine lv_iconst (v := -1) hx hb dX12_status_18 (by decide) ?_
    obtain rfl := Option.some.inj h
    exact hk _ _ _ _ _ I ⟨_, rfl, rfl⟩ dX12_status_19
  · have h := sg_iff h z
    refine lv_aload_n hx hb dX12_status_9 rfl (lv_at hl 0 rfl) ?_
    refine sg_getr X I fk_X12_73 (j := 22) (by decide) shM_0 rfl dX12_status_10 ?_
    refine lv_iload_n hx hb dX12_status_13 rfl (lv_at hl 1 rfl) ?_
    refine sg_iald X I (by decide) shM_22 h dX12_status_14 (fun v2 h => ?_)
    refine lv_goto (tgt := 19) hx hb dX12_status_15 (by decide) ?_
    obtain rfl := Option.some.inj h
    exact hk _ _ _ _ _ I ⟨_, rfl, rfl⟩ dX12_status_19
set_option maxHeartbeats 4000000 in
set_option maxRecDepth 100000 in
theorem c_X12_status {l : Launch} {P : sgP} {N : Nat} {p1 : Int32} {σ : sgS} {q : Int32} (h : f_X12_status N p1 σ = some q) : sg_Mi P shM 35 l yX12_status cX12_status 2 (some .int) 2 [.ref (sgA P 0), .int p1] σ (q, σ) := by
  refine sg_mki (plainFor_of_name (by decide +kernel)) (Nat.le_of_ble_eq_true rfl) ?_
  intro p e R s m args below meth c Q A ls H locs X I hl hk
  exact b_X12_status X I hl h hk
def f_X12_undo_L21 (N : Nat) (x1 : Int32) (σ : sgS) : Option ((Int32 × sgS) ⊕ ((sgS × Int32) ⊕ (sgS))) :=
  if 215 ≤ x1 then
  (some (.inr (.inr σ)))
else
  (sg_ld σ 25 8600 ((215 * (σ.1 0 42)) + x1) fun v2 =>
  sg_st σ 21 215 x1 v2 fun s3 =>
  some (.inr (.inl (s3, x1 + 1))))
set_option maxHeartbeats 4000000 in
set_option maxRecDepth 100000 in
theorem b_X12_undo_L21 {p : Program} {l : Launch} {e : Env} {R : Room} {s : State} {m : MethodId} {args : Array Value} {below : List Frame} {meth : Method} {c : Code} {Q : State → Prop} {P : sgP} {A : Nat → Prop} {N : Nat} {x1 : Int32} {σ : sgS} (X : sg_C P A 1 p R s m args c cX12_undo 2 RX12) {H : Heap} {locs : List Loc} (I : sg_I P shM 35 A s.heap σ H locs) {ls : Array Slot} (hl : lv_has ls 2 [(0, .ref (sgA P 0)), (1, .int x1)]) {st : (Int32 × sgS) ⊕ ((sgS × Int32) ⊕ (sgS))} (h : f_X12_undo_L21 N x1 σ = some st) (hk : sg_k3 (sg_Ri p l e R s m args below meth c Q P shM 35 A cX12_undo (some .int)) (fun x => sg_Wt p l e R s m args below meth c Q P shM 35 A 2 21 x.1 [(0, .ref (sgA P 0)), (1, .int x.2)]) (fun y => sg_Wt p l e R s m args below meth c Q P shM 35 A 2 55 y [(0, .ref (sgA P 0))]) st) : W p l e R s m args below meth c H locs 0 0 Q (F0 m 21 ls []) := by
  unfold f_X12_undo_L21 at h
  have hx := X.1.1
  have hb := X.1.2.1
  have hown := X.1.2.2.2.1
  have hts := X.1.2.2.2.2
  refine lv_iload_n hx hb dX12_undo_21 rfl (lv_at hl 1 rfl) ?_
  refine lv_sipush (v := 215) hx hb dX12_undo_22 (by decide) ?_
  refine lv_icmp_ge (tgt := 55) hx hb dX12_undo_25 (by decide) (fun z => ?_) (fun z => ?_)
  · have h := sg_ift h z
    obtain rfl := Option.some.inj h
    exact sg_go hk I (lv_sub hl [0] rfl)
  · have h := sg_iff h z
    refine lv_aload_n hx hb dX12_undo_28 rfl (lv_at hl 0 rfl) ?_
    refine sg_getr X I fk_X12_70 (j := 21) (by decide) shM_0 rfl dX12_undo_29 ?_
    refine lv_iload_n hx hb dX12_undo_32 rfl (lv_at hl 1 rfl) ?_
    refine lv_aload_n hx hb dX12_undo_33 rfl (lv_at hl 0 rfl) ?_
    refine sg_getr X I fk_X12_89 (j := 25) (by decide) shM_0 rfl dX12_undo_34 ?_
    refine lv_sipush (v := 215) hx hb dX12_undo_37 (by decide) ?_
    refine lv_aload_n hx hb dX12_undo_40 rfl (lv_at hl 0 rfl) ?_
    refine sg_geti X I fk_X12_300 (by decide) shM_0 rfl dX12_undo_41 ?_
    refine lv_imul hx hb dX12_undo_44 ?_
    refine lv_iload_n hx hb dX12_undo_45 rfl (lv_at hl 1 rfl) ?_
    refine lv_iadd hx hb dX12_undo_46 ?_
    refine sg_iald X I (by decide) shM_25 h dX12_undo_47 (fun v2 h => ?_)
    refine sg_iast X I (by decide) shM_21 h dX12_undo_48 (fun s3 H locs h I => ?_)
    refine lv_iinc (v := x1 + 1) (lv' := [(1, .int (x1 + 1)), (0, .ref (sgA P 0))]) hx hb dX12_undo_49 hl (k := 1) rfl rfl (by decide) rfl (fun ls hl => ?_)
    refine lv_goto (tgt := 21) hx hb dX12_undo_52 (by decide) ?_
    obtain rfl := Option.some.inj h
    exact sg_go hk I (lv_sub hl [1, 0] rfl)
def f_X12_undo (N : Nat) (σ : sgS) : Option (Int32 × sgS) :=
  if (σ.1 0 42) = 0 then
  (some ((-1), σ))
else
  (sg_pf σ 0 42 ((σ.1 0 42) - 1) fun s1 =>
  sg_lb (sg_lp (fun x => f_X12_undo_L21 N x.2 x.1) N ((s1, 0))) (fun r => some r) fun y4 =>
  some (y4.1 0 42, y4))
set_option maxHeartbeats 4000000 in
set_option maxRecDepth 100000 in
theorem b_X12_undo {p : Program} {l : Launch} {e : Env} {R : Room} {s : State} {m : MethodId} {args : Array Value} {below : List Frame} {meth : Method} {c : Code} {Q : State → Prop} {P : sgP} {A : Nat → Prop} {N : Nat} {σ : sgS} (X : sg_C P A 1 p R s m args c cX12_undo 2 RX12) {H : Heap} {locs : List Loc} (I : sg_I P shM 35 A s.heap σ H locs) {ls : Array Slot} (hl : lv_has ls 2 [(0, .ref (sgA P 0))]) {st : Int32 × sgS} (h : f_X12_undo N σ = some st) (hk : sg_Ri p l e R s m args below meth c Q P shM 35 A cX12_undo (some .int) st) : W p l e R s m args below meth c H locs 0 0 Q (F0 m 0 ls []) := by
  unfold f_X12_undo at h
  have hx := X.1.1
  have hb := X.1.2.1
  have hown := X.1.2.2.2.1
  have hts := X.1.2.2.2.2
  refine lv_aload_n hx hb dX12_undo_0 rfl (lv_at hl 0 rfl) ?_
  refine sg_geti X I fk_X12_300 (by decide) shM_0 rfl dX12_undo_1 ?_
  refine lv_if_ne (tgt := 9) hx hb dX12_undo_4 (by decide) (fun z => ?_) (fun z => ?_)
  · have h := sg_iff h z
    refine lv_aload_n hx hb dX12_undo_9 rfl (lv_at hl 0 rfl) ?_
    refine lv_dup hx hb dX12_undo_10 rfl ?_
    refine sg_geti X I fk_X12_300 (by decide) shM_0 rfl dX12_undo_11 ?_
    refine lv_iconst (v := 1) hx hb dX12_undo_14 (by decide) ?_
    refine lv_isub hx hb dX12_undo_15 ?_
    refine sg_puti X I fk_X12_300 wk_12_42 rfl rfl (by decide) shM_0 rfl h dX12_undo_16 (fun s1 H locs h I => ?_)
    refine lv_iconst (v := 0) hx hb dX12_undo_19 (by decide) ?_
    refine lv_istore_n (lv' := [(1, .int 0), (0, .ref (sgA P 0))]) hx hb dX12_undo_20 rfl hl (by decide) rfl (fun ls hl => ?_)
    obtain ⟨res, e9, k9⟩ := sg_lb_some h
    refine sg_go (sg_lp_W (a := (sg_Ri p l e R s m args below meth c Q P shM 35 A cX12_undo (some .int))) (w := (fun x => sg_Wt p l e R s m args below meth c Q P shM 35 A 2 21 x.1 [(0, .ref (sgA P 0)), (1, .int x.2)])) (c := (fun y => sg_Wt p l e R s m args below meth c Q P shM 35 A 2 55 y [(0, .ref (sgA P 0))])) (fun x st hb9 hk9 => ?_) N ((s1, 0)) res e9 (sg_k2_mono k9 (fun r h => ?_) (fun y4 h => ?_))) I (lv_sub hl [1, 0] rfl)
    · intro H locs ls I hl
      exact b_X12_undo_L21 X I hl hb9 hk9
    · obtain rfl := Option.some.inj h
      exact hk
    · intro H locs ls I hl
      refine lv_aload_n hx hb dX12_undo_55 rfl (lv_at hl 0 rfl) ?_
      refine sg_geti X I fk_X12_300 (by decide) shM_0 rfl dX12_undo_56 ?_
      obtain rfl := Option.some.inj h
      exact hk _ _ _ _ _ I ⟨_, rfl, rfl⟩ dX12_undo_59
  · have h := sg_ift h z
    refine lv_iconst (v := -1) hx hb dX12_undo_7 (by decide) ?_
    obtain rfl := Option.some.inj h
    exact hk _ _ _ _ _ I ⟨_, rfl, rfl⟩ dX12_undo_8
set_option maxHeartbeats 4000000 in
set_option maxRecDepth 100000 in
theorem c_X12_undo {l : Launch} {P : sgP} {N : Nat} {σ : sgS} {q : Int32 × sgS} (h : f_X12_undo N σ = some q) : sg_Mi P shM 35 l yX12_undo cX12_undo 2 (some .int) 1 [.ref (sgA P 0)] σ q := by
  refine sg_mki (plainFor_of_name (by decide +kernel)) (Nat.le_of_ble_eq_true rfl) ?_
  intro p e R s m args below meth c Q A ls H locs X I hl hk
  exact b_X12_undo X I hl h hk
def f_X12_log (N : Nat) (p1 : Int32) (p2 : Int32) (σ : sgS) : Option (Int32) :=
  sg_ld σ 21 215 34 fun v1 =>
sg_cr (f_X12_in N p1 0 (v1 - 1) σ) fun v2 =>
if v2 = 0 then
  (some ((-1)))
else
  (sg_cr (f_X12_in N p2 0 2 σ) fun v3 =>
  if v3 = 0 then
    (some ((-1)))
  else
    (sg_ld σ 21 215 34 fun v4 =>
    sg_ld σ 21 215 ((35 + (3 * ((v4 - 1) - p1))) + p2) fun v5 =>
    some v5))
set_option maxHeartbeats 4000000 in
set_option maxRecDepth 100000 in
theorem b_X12_log {p : Program} {l : Launch} {e : Env} {R : Room} {s : State} {m : MethodId} {args : Array Value} {below : List Frame} {meth : Method} {c : Code} {Q : State → Prop} {P : sgP} {A : Nat → Prop} {N : Nat} {p1 : Int32} {p2 : Int32} {σ : sgS} (X : sg_C P A 2 p R s m args c cX12_log 3 RX12) {H : Heap} {locs : List Loc} (I : sg_I P shM 35 A s.heap σ H locs) {ls : Array Slot} (hl : lv_has ls 3 [(0, .ref (sgA P 0)), (1, .int p1), (2, .int p2)]) {st : Int32} (h : f_X12_log N p1 p2 σ = some st) (hk : sg_Ri p l e R s m args below meth c Q P shM 35 A cX12_log (some .int) (st, σ)) : W p l e R s m args below meth c H locs 0 0 Q (F0 m 0 ls []) := by
  unfold f_X12_log at h
  have hx := X.1.1
  have hb := X.1.2.1
  have hown := X.1.2.2.2.1
  have hts := X.1.2.2.2.2
  refine lv_iload_n hx hb dX12_log_0 rfl (lv_at hl 1 rfl) ?_
  refine lv_iconst (v := 0) hx hb dX12_log_1 (by decide) ?_
  refine lv_aload_n hx hb dX12_log_2 rfl (lv_at hl 0 rfl) ?_
  refine sg_getr X I fk_X12_70 (j := 21) (by decide) shM_0 rfl dX12_log_3 ?_
  refine lv_bipush (v := 34) hx hb dX12_log_6 (by decide) ?_
  refine sg_iald X I (by decide) shM_21 h dX12_log_8 (fun v1 h => ?_)
  refine lv_iconst (v := 1) hx hb dX12_log_9 (by decide) ?_
  refine lv_isub hx hb dX12_log_10 ?_
  refine sg_callSr (As := [.int p1, .int 0, .int (v1 - 1)]) X I mk_X12_235 (by decide) (fun q9 e9 => c_X12_in e9) h hl.1 rfl rfl (Nat.le_of_ble_eq_true rfl) dX12_log_11 (fun v2 H locs h I => ?_)
  refine lv_if_eq (tgt := 52) hx hb dX12_log_14 (by decide) (fun z => ?_) (fun z => ?_)
  · have h := sg_ift h z
    refine lv_iconst (v := -1) hx hb dX12_log_52 (by decide) ?_
    obtain rfl := Option.some.inj h
    exact hk _ _ _ _ _ I ⟨_, rfl, rfl⟩ dX12_log_53
  · have h := sg_iff h z
    refine lv_iload_n hx hb dX12_log_17 rfl (lv_at hl 2 rfl) ?_
    refine lv_iconst (v := 0) hx hb dX12_log_18 (by decide) ?_
    refine lv_iconst (v := 2) hx hb dX12_log_19 (by decide) ?_
    refine sg_callSr (As := [.int p2, .int 0, .int 2]) X I mk_X12_235 (by decide) (fun q9 e9 => c_X12_in e9) h hl.1 rfl rfl (Nat.le_of_ble_eq_true rfl) dX12_log_20 (fun v3 H locs h I => ?_)
    refine lv_if_eq (tgt := 52) hx hb dX12_log_23 (by decide) (fun z => ?_) (fun z => ?_)
    · have h := sg_ift h z
      refine lv_iconst (v := -1) hx hb dX12_log_52 (by decide) ?_
      obtain rfl := Option.some.inj h
      exact hk _ _ _ _ _ I ⟨_, rfl, rfl⟩ dX12_log_53
    · have h := sg_iff h z
      refine lv_aload_n hx hb dX12_log_26 rfl (lv_at hl 0 rfl) ?_
      refine sg_getr X I fk_X12_70 (j := 21) (by decide) shM_0 rfl dX12_log_27 ?_
      refine lv_bipush (v := 35) hx hb dX12_log_30 (by decide) ?_
      refine lv_iconst (v := 3) hx hb dX12_log_32 (by decide) ?_
      refine lv_aload_n hx hb dX12_log_33 rfl (lv_at hl 0 rfl) ?_
      refine sg_getr X I fk_X12_70 (j := 21) (by decide) shM_0 rfl dX12_log_34 ?_
      refine lv_bipush (v := 34) hx hb dX12_log_37 (by decide) ?_
      refine sg_iald X I (by decide) shM_21 h dX12_log_39 (fun v4 h => ?_)
      refine lv_iconst (v := 1) hx hb dX12_log_40 (by decide) ?_
      refine lv_isub hx hb dX12_log_41 ?_
      refine lv_iload_n hx hb dX12_log_42 rfl (lv_at hl 1 rfl) ?_
      refine lv_isub hx hb dX12_log_43 ?_
      refine lv_imul hx hb dX12_log_44 ?_
      refine lv_iadd hx hb dX12_log_45 ?_
      refine lv_iload_n hx hb dX12_log_46 rfl (lv_at hl 2 rfl) ?_
      refine lv_iadd hx hb dX12_log_47 ?_
      refine sg_iald X I (by decide) shM_21 h dX12_log_48 (fun v5 h => ?_)
      refine lv_goto (tgt := 53) hx hb dX12_log_49 (by decide) ?_
      obtain rfl := Option.some.inj h
      exact hk _ _ _ _ _ I ⟨_, rfl, rfl⟩ dX12_log_53
set_option maxHeartbeats 4000000 in
set_option maxRecDepth 100000 in
theorem c_X12_log {l : Launch} {P : sgP} {N : Nat} {p1 : Int32} {p2 : Int32} {σ : sgS} {q : Int32} (h : f_X12_log N p1 p2 σ = some q) : sg_Mi P shM 35 l yX12_log cX12_log 3 (some .int) 2 [.ref (sgA P 0), .int p1, .int p2] σ (q, σ) := by
  refine sg_mki (plainFor_of_name (by decide +kernel)) (Nat.le_of_ble_eq_true rfl) ?_
  intro p e R s m args below meth c Q A ls H locs X I hl hk
  exact b_X12_log X I hl h hk
def f_X12_layAway_L6_B73 (N : Nat) (u1 : Int32) (k1 : Int32) (k2 : Int32) (σ : sgS) : Option ((Int32 × sgS) ⊕ ((sgS × Int32) ⊕ (sgS))) :=
  sg_st σ 26 49 k1 k2 fun s4 =>
sg_nz 7 (
  sg_nz 7 (
    if (u1 / 7) = (u1 - u1 / 7 * 7) then
      (sg_st s4 27 49 u1 0 fun s7 =>
      some (.inr (.inl (s7, u1 + 1))))
    else
      (sg_ld s4 26 49 u1 fun v5 =>
      sg_st s4 27 49 u1 v5 fun s6 =>
      some (.inr (.inl (s6, u1 + 1))))))
set_option maxHeartbeats 4000000 in
set_option maxRecDepth 100000 in
theorem b_X12_layAway_L6_B73 {p : Program} {l : Launch} {e : Env} {R : Room} {s : State} {m : MethodId} {args : Array Value} {below : List Frame} {meth : Method} {c : Code} {Q : State → Prop} {P : sgP} {A : Nat → Prop} {N : Nat} {u1 : Int32} {k1 : Int32} {k2 : Int32} {σ : sgS} (X : sg_C P A 8 p R s m args c cX12_layAway 3 RX12) {H : Heap} {locs : List Loc} (I : sg_I P shM 35 A s.heap σ H locs) {ls : Array Slot} (hl : lv_has ls 3 [(0, .ref (sgA P 0)), (1, .int u1)]) {st : (Int32 × sgS) ⊕ ((sgS × Int32) ⊕ (sgS))} (h : f_X12_layAway_L6_B73 N u1 k1 k2 σ = some st) (hk : sg_k3 (sg_Rv p l e R s m args below meth c Q P shM 35 A cX12_layAway) (fun x => sg_Wt p l e R s m args below meth c Q P shM 35 A 3 6 x.1 [(0, .ref (sgA P 0)), (1, .int x.2)]) (fun y => sg_Wt p l e R s m args below meth c Q P shM 35 A 3 107 y [(0, .ref (sgA P 0))]) st) : W p l e R s m args below meth c H locs 0 0 Q (F0 m 73 ls [.int k2, .int k1, .ref (sgA P 26)]) := by
  unfold f_X12_layAway_L6_B73 at h
  have hx := X.1.1
  have hb := X.1.2.1
  have hown := X.1.2.2.2.1
  have hts := X.1.2.2.2.2
  refine sg_iast X I (by decide) shM_26 h dX12_layAway_73 (fun s4 H locs h I => ?_)
  refine lv_aload_n hx hb dX12_layAway_74 rfl (lv_at hl 0 rfl) ?_
  refine sg_getr X I fk_X12_95 (j := 27) (by decide) shM_0 rfl dX12_layAway_75 ?_
  refine lv_iload_n hx hb dX12_layAway_78 rfl (lv_at hl 1 rfl) ?_
  refine lv_iload_n hx hb dX12_layAway_79 rfl (lv_at hl 1 rfl) ?_
  refine lv_bipush (v := 7) hx hb dX12_layAway_80 (by decide) ?_
  refine sg_nzW (h := h) (fun z h => ?_)
  refine lv_idiv hx hb dX12_layAway_82 z ?_
  refine lv_iload_n hx hb dX12_layAway_83 rfl (lv_at hl 1 rfl) ?_
  refine lv_bipush (v := 7) hx hb dX12_layAway_84 (by decide) ?_
  refine sg_nzW (h := h) (fun z h => ?_)
  refine lv_irem hx hb dX12_layAway_86 z ?_
  refine lv_icmp_ne (tgt := 94) hx hb dX12_layAway_87 (by decide) (fun z => ?_) (fun z => ?_)
  · have h := sg_iff h z
    refine lv_aload_n hx hb dX12_layAway_94 rfl (lv_at hl 0 rfl) ?_
    refine sg_getr X I fk_X12_92 (j := 26) (by decide) shM_0 rfl dX12_layAway_95 ?_
    refine lv_iload_n hx hb dX12_layAway_98 rfl (lv_at hl 1 rfl) ?_
    refine sg_iald X I (by decide) shM_26 h dX12_layAway_99 (fun v5 h => ?_)
    refine sg_iast X I (by decide) shM_27 h dX12_layAway_100 (fun s6 H locs h I => ?_)
    refine lv_iinc (v := u1 + 1) (lv' := [(1, .int (u1 + 1)), (0, .ref (sgA P 0))]) hx hb dX12_layAway_101 hl (k := 1) rfl rfl (by decide) rfl (fun ls hl => ?_)
    refine lv_goto (tgt := 6) hx hb dX12_layAway_104 (by decide) ?_
    obtain rfl := Option.some.inj h
    exact sg_go hk I (lv_sub hl [1, 0] rfl)
  · have h := sg_ift h z
    refine lv_iconst (v := 0) hx hb dX12_layAway_90 (by decide) ?_
    refine lv_goto (tgt := 100) hx hb dX12_layAway_91 (by decide) ?_
    refine sg_iast X I (by decide) shM_27 h dX12_layAway_100 (fun s7 H locs h I => ?_)
    refine lv_iinc (v := u1 + 1) (lv' := [(1, .int (u1 + 1)), (0, .ref (sgA P 0))]) hx hb dX12_layAway_101 hl (k := 1) rfl rfl (by decide) rfl (fun ls hl => ?_)
    refine lv_goto (tgt := 6) hx hb dX12_layAway_104 (by decide) ?_
    obtain rfl := Option.some.inj h
    exact sg_go hk I (lv_sub hl [1, 0] rfl)
def f_X12_layAway_L6_B50 (N : Nat) (u1 : Int32) (k0 : Int32) (σ : sgS) : Option ((Int32 × sgS) ⊕ ((sgS × Int32) ⊕ (sgS))) :=
  if k0 = ((-1)) then
  (f_X12_layAway_L6_B73 N u1 u1 100000 σ)
else
  (sg_ld σ 23 12 k0 fun v3 =>
  f_X12_layAway_L6_B73 N u1 u1 v3 σ)
set_option maxHeartbeats 4000000 in
set_option maxRecDepth 100000 in
theorem b_X12_layAway_L6_B50 {p : Program} {l : Launch} {e : Env} {R : Room} {s : State} {m : MethodId} {args : Array Value} {below : List Frame} {meth : Method} {c : Code} {Q : State → Prop} {P : sgP} {A : Nat → Prop} {N : Nat} {u1 : Int32} {k0 : Int32} {σ : sgS} (X : sg_C P A 8 p R s m args c cX12_layAway 3 RX12) {H : Heap} {locs : List Loc} (I : sg_I P shM 35 A s.heap σ H locs) {ls : Array Slot} (hl : lv_has ls 3 [(0, .ref (sgA P 0)), (1, .int u1)]) {st : (Int32 × sgS) ⊕ ((sgS × Int32) ⊕ (sgS))} (h : f_X12_layAway_L6_B50 N u1 k0 σ = some st) (hk : sg_k3 (sg_Rv p l e R s m args below meth c Q P shM 35 A cX12_layAway) (fun x => sg_Wt p l e R s m args below meth c Q P shM 35 A 3 6 x.1 [(0, .ref (sgA P 0)), (1, .int x.2)]) (fun y => sg_Wt p l e R s m args below meth c Q P shM 35 A 3 107 y [(0, .ref (sgA P 0))]) st) : W p l e R s m args below meth c H locs 0 0 Q (F0 m 50 ls [.int k0]) := by
  unfold f_X12_layAway_L6_B50 at h
  have hx := X.1.1
  have hb := X.1.2.1
  have hown := X.1.2.2.2.1
  have hts := X.1.2.2.2.2
  refine lv_istore_n (lv' := [(2, .int k0), (0, .ref (sgA P 0)), (1, .int u1)]) hx hb dX12_layAway_50 rfl hl (by decide) rfl (fun ls hl => ?_)
  refine lv_aload_n hx hb dX12_layAway_51 rfl (lv_at hl 1 rfl) ?_
  refine sg_getr X I fk_X12_92 (j := 26) (by decide) shM_0 rfl dX12_layAway_52 ?_
  refine lv_iload_n hx hb dX12_layAway_55 rfl (lv_at hl 2 rfl) ?_
  refine lv_iload_n hx hb dX12_layAway_56 rfl (lv_at hl 0 rfl) ?_
  refine lv_iconst (v := -1) hx hb dX12_layAway_57 (by decide) ?_
  refine lv_icmp_ne (tgt := 67) hx hb dX12_layAway_58 (by decide) (fun z => ?_) (fun z => ?_)
  · have h := sg_iff h z
    refine lv_aload_n hx hb dX12_layAway_67 rfl (lv_at hl 1 rfl) ?_
    refine sg_getr X I fk_X12_83 (j := 23) (by decide) shM_0 rfl dX12_layAway_68 ?_
    refine lv_iload_n hx hb dX12_layAway_71 rfl (lv_at hl 0 rfl) ?_
    refine sg_iald X I (by decide) shM_23 h dX12_layAway_72 (fun v3 h => ?_)
    exact b_X12_layAway_L6_B73 X I (lv_sub hl [1, 2] rfl) h hk
  · have h := sg_ift h z
    refine lv_ldcw (v := 100000) hx hb hown (hts _ qw_1128) dX12_layAway_61 ?_
    refine lv_goto (tgt := 73) hx hb dX12_layAway_64 (by decide) ?_
    exact b_X12_layAway_L6_B73 X I (lv_sub hl [1, 2] rfl) h hk
def f_X12_layAway_L6 (N : Nat) (x1 : Int32) (σ : sgS) : Option ((Int32 × sgS) ⊕ ((sgS × Int32) ⊕ (sgS))) :=
  if 49 ≤ x1 then
  (some (.inr (.inr σ)))
else
  (sg_nz 7 (
    if (σ.1 0 28) ≤ (x1 / 7) then
      (f_X12_layAway_L6_B50 N x1 ((-1)) σ)
    else
      (sg_nz 7 (
        if (σ.1 0 28) ≤ (x1 - x1 / 7 * 7) then
          (f_X12_layAway_L6_B50 N x1 ((-1)) σ)
        else
          (sg_nz 7 (
            sg_nz 7 (
              sg_cr (f_X12_roadBetween N (x1 / 7) (x1 - x1 / 7 * 7) σ) fun v8 =>
              f_X12_layAway_L6_B50 N x1 v8 σ)))))))
set_option maxHeartbeats 4000000 in
set_option maxRecDepth 100000 in
theorem b_X12_layAway_L6 {p : Program} {l : Launch} {e : Env} {R : Room} {s : State} {m : MethodId} {args : Array Value} {below : List Frame} {meth : Method} {c : Code} {Q : State → Prop} {P : sgP} {A : Nat → Prop} {N : Nat} {x1 : Int32} {σ : sgS} (X : sg_C P A 8 p R s m args c cX12_layAway 3 RX12) {H : Heap} {locs : List Loc} (I : sg_I P shM 35 A s.heap σ H locs) {ls : Array Slot} (hl : lv_has ls 3 [(0, .ref (sgA P 0)), (1, .int x1)]) {st : (Int32 × sgS) ⊕ ((sgS × Int32) ⊕ (sgS))} (h : f_X12_layAway_L6 N x1 σ = some st) (hk : sg_k3 (sg_Rv p l e R s m args below meth c Q P shM 35 A cX12_layAway) (fun x => sg_Wt p l e R s m args below meth c Q P shM 35 A 3 6 x.1 [(0, .ref (sgA P 0)), (1, .int x.2)]) (fun y => sg_Wt p l e R s m args below meth c Q P shM 35 A 3 107 y [(0, .ref (sgA P 0))]) st) : W p l e R s m args below meth c H locs 0 0 Q (F0 m 6 ls []) := by
  unfold f_X12_layAway_L6 at h
  have hx := X.1.1
  have hb := X.1.2.1
  have hown := X.1.2.2.2.1
  have hts := X.1.2.2.2.2
  refine lv_iload_n hx hb dX12_layAway_6 rfl (lv_at hl 1 rfl) ?_
  refine lv_bipush (v := 49) hx hb dX12_layAway_7 (by decide) ?_
  refine lv_icmp_ge (tgt := 107) hx hb dX12_layAway_9 (by decide) (fun z => ?_) (fun z => ?_)
  · have h := sg_ift h z
    obtain rfl := Option.some.inj h
    exact sg_go hk I (lv_sub hl [0] rfl)
  · have h := sg_iff h z
    refine lv_iload_n hx hb dX12_layAway_12 rfl (lv_at hl 1 rfl) ?_
    refine lv_bipush (v := 7) hx hb dX12_layAway_13 (by decide) ?_
    refine sg_nzW (h := h) (fun z h => ?_)
    refine lv_idiv hx hb dX12_layAway_15 z ?_
    refine lv_aload_n hx hb dX12_layAway_16 rfl (lv_at hl 0 rfl) ?_
    refine sg_geti X I fk_X12_288 (by decide) shM_0 rfl dX12_layAway_17 ?_
    refine lv_icmp_ge (tgt := 49) hx hb dX12_layAway_20 (by decide) (fun z => ?_) (fun z => ?_)
    · have h := sg_ift h z
      refine lv_iconst (v := -1) hx hb dX12_layAway_49 (by decide) ?_
      exact b_X12_layAway_L6_B50 X I (lv_sub hl [0, 1] rfl) h hk
    · have h := sg_iff h z
      refine lv_iload_n hx hb dX12_layAway_23 rfl (lv_at hl 1 rfl) ?_
      refine lv_bipush (v := 7) hx hb dX12_layAway_24 (by decide) ?_
      refine sg_nzW (h := h) (fun z h => ?_)
      refine lv_irem hx hb dX12_layAway_26 z ?_
      refine lv_aload_n hx hb dX12_layAway_27 rfl (lv_at hl 0 rfl) ?_
      refine sg_geti X I fk_X12_288 (by decide) shM_0 rfl dX12_layAway_28 ?_
      refine lv_icmp_ge (tgt := 49) hx hb dX12_layAway_31 (by decide) (fun z => ?_) (fun z => ?_)
      · have h := sg_ift h z
        refine lv_iconst (v := -1) hx hb dX12_layAway_49 (by decide) ?_
        exact b_X12_layAway_L6_B50 X I (lv_sub hl [0, 1] rfl) h hk
      · have h := sg_iff h z
        refine lv_aload_n hx hb dX12_layAway_34 rfl (lv_at hl 0 rfl) ?_
        refine lv_iload_n hx hb dX12_layAway_35 rfl (lv_at hl 1 rfl) ?_
        refine lv_bipush (v := 7) hx hb dX12_layAway_36 (by decide) ?_
        refine sg_nzW (h := h) (fun z h => ?_)
        refine lv_idiv hx hb dX12_layAway_38 z ?_
        refine lv_iload_n hx hb dX12_layAway_39 rfl (lv_at hl 1 rfl) ?_
        refine lv_bipush (v := 7) hx hb dX12_layAway_40 (by decide) ?_
        refine sg_nzW (h := h) (fun z h => ?_)
        refine lv_irem hx hb dX12_layAway_42 z ?_
        refine sg_callVr (As := [.int (x1 / 7), .int (x1 - x1 / 7 * 7)]) X I mk_X12_346 (by decide) (by decide) shM_0 rfl (fun q9 e9 => c_X12_roadBetween e9) h hl.1 rfl rfl (Nat.le_of_ble_eq_true rfl) dX12_layAway_43 (fun v8 H locs h I => ?_)
        refine lv_goto (tgt := 50) hx hb dX12_layAway_46 (by decide) ?_
        exact b_X12_layAway_L6_B50 X I (lv_sub hl [0, 1] rfl) h hk
def f_X12_layAway_L119 (N : Nat) (w1 : Int32) (x2 : Int32) (σ : sgS) : Option ((Int32 × sgS) ⊕ ((sgS × Int32) ⊕ (sgS))) :=
  if 49 ≤ x2 then
  (some (.inr (.inr σ)))
else
  (sg_ld σ 27 49 x2 fun v10 =>
  sg_nz 7 (
    sg_ld σ 27 49 ((7 * (x2 / 7)) + w1) fun v11 =>
    sg_nz 7 (
      sg_ld σ 27 49 ((7 * w1) + (x2 - x2 / 7 * 7)) fun v12 =>
      sg_st σ 27 49 x2 ((if (v11 + v12) < v10 then (v11 + v12) else v10)) fun s13 =>
      some (.inr (.inl (s13, x2 + 1))))))
set_option maxHeartbeats 4000000 in
set_option maxRecDepth 100000 in
theorem b_X12_layAway_L119 {p : Program} {l : Launch} {e : Env} {R : Room} {s : State} {m : MethodId} {args : Array Value} {below : List Frame} {meth : Method} {c : Code} {Q : State → Prop} {P : sgP} {A : Nat → Prop} {N : Nat} {w1 : Int32} {x2 : Int32} {σ : sgS} (X : sg_C P A 8 p R s m args c cX12_layAway 3 RX12) {H : Heap} {locs : List Loc} (I : sg_I P shM 35 A s.heap σ H locs) {ls : Array Slot} (hl : lv_has ls 3 [(0, .ref (sgA P 0)), (1, .int w1), (2, .int x2)]) {st : (Int32 × sgS) ⊕ ((sgS × Int32) ⊕ (sgS))} (h : f_X12_layAway_L119 N w1 x2 σ = some st) (hk : sg_k3 (sg_Rv p l e R s m args below meth c Q P shM 35 A cX12_layAway) (fun x => sg_Wt p l e R s m args below meth c Q P shM 35 A 3 119 x.1 [(0, .ref (sgA P 0)), (1, .int w1), (2, .int x.2)]) (fun y => sg_Wt p l e R s m args below meth c Q P shM 35 A 3 175 y [(0, .ref (sgA P 0)), (1, .int w1)]) st) : W p l e R s m args below meth c H locs 0 0 Q (F0 m 119 ls []) := by
  unfold f_X12_layAway_L119 at h
  have hx := X.1.1
  have hb := X.1.2.1
  have hown := X.1.2.2.2.1
  have hts := X.1.2.2.2.2
  refine lv_iload_n hx hb dX12_layAway_119 rfl (lv_at hl 2 rfl) ?_
  refine lv_bipush (v := 49) hx hb dX12_layAway_120 (by decide) ?_
  refine lv_icmp_ge (tgt := 175) hx hb dX12_layAway_122 (by decide) (fun z => ?_) (fun z => ?_)
  · have h := sg_ift h z
    obtain rfl := Option.some.inj h
    exact sg_go hk I (lv_sub hl [0, 1] rfl)
  · have h := sg_iff h z
    refine lv_aload_n hx hb dX12_layAway_125 rfl (lv_at hl 0 rfl) ?_
    refine sg_getr X I fk_X12_95 (j := 27) (by decide) shM_0 rfl dX12_layAway_126 ?_
    refine lv_iload_n hx hb dX12_layAway_129 rfl (lv_at hl 2 rfl) ?_
    refine lv_aload_n hx hb dX12_layAway_130 rfl (lv_at hl 0 rfl) ?_
    refine sg_getr X I fk_X12_95 (j := 27) (by decide) shM_0 rfl dX12_layAway_131 ?_
    refine lv_iload_n hx hb dX12_layAway_134 rfl (lv_at hl 2 rfl) ?_
    refine sg_iald X I (by decide) shM_27 h dX12_layAway_135 (fun v10 h => ?_)
    refine lv_aload_n hx hb dX12_layAway_136 rfl (lv_at hl 0 rfl) ?_
    refine sg_getr X I fk_X12_95 (j := 27) (by decide) shM_0 rfl dX12_layAway_137 ?_
    refine lv_bipush (v := 7) hx hb dX12_layAway_140 (by decide) ?_
    refine lv_iload_n hx hb dX12_layAway_142 rfl (lv_at hl 2 rfl) ?_
    refine lv_bipush (v := 7) hx hb dX12_layAway_143 (by decide) ?_
    refine sg_nzW (h := h) (fun z h => ?_)
    refine lv_idiv hx hb dX12_layAway_145 z ?_
    refine lv_imul hx hb dX12_layAway_146 ?_
    refine lv_iload_n hx hb dX12_layAway_147 rfl (lv_at hl 1 rfl) ?_
    refine lv_iadd hx hb dX12_layAway_148 ?_
    refine sg_iald X I (by decide) shM_27 h dX12_layAway_149 (fun v11 h => ?_)
    refine lv_aload_n hx hb dX12_layAway_150 rfl (lv_at hl 0 rfl) ?_
    refine sg_getr X I fk_X12_95 (j := 27) (by decide) shM_0 rfl dX12_layAway_151 ?_
    refine lv_bipush (v := 7) hx hb dX12_layAway_154 (by decide) ?_
    refine lv_iload_n hx hb dX12_layAway_156 rfl (lv_at hl 1 rfl) ?_
    refine lv_imul hx hb dX12_layAway_157 ?_
    refine lv_iload_n hx hb dX12_layAway_158 rfl (lv_at hl 2 rfl) ?_
    refine lv_bipush (v := 7) hx hb dX12_layAway_159 (by decide) ?_
    refine sg_nzW (h := h) (fun z h => ?_)
    refine lv_irem hx hb dX12_layAway_161 z ?_
    refine lv_iadd hx hb dX12_layAway_162 ?_
    refine sg_iald X I (by decide) shM_27 h dX12_layAway_163 (fun v12 h => ?_)
    refine lv_iadd hx hb dX12_layAway_164 ?_
    refine sg_mmin X hl.1 (by first | decide | omega) qw_754 qw_289 qw_286 qw_290 (Nat.le_of_ble_eq_true rfl) dX12_layAway_165 ?_
    refine sg_iast X I (by decide) shM_27 h dX12_layAway_168 (fun s13 H locs h I => ?_)
    refine lv_iinc (v := x2 + 1) (lv' := [(2, .int (x2 + 1)), (0, .ref (sgA P 0)), (1, .int w1)]) hx hb dX12_layAway_169 hl (k := 2) rfl rfl (by decide) rfl (fun ls hl => ?_)
    refine lv_goto (tgt := 119) hx hb dX12_layAway_172 (by decide) ?_
    obtain rfl := Option.some.inj h
    exact sg_go hk I (lv_sub hl [1, 2, 0] rfl)
def f_X12_layAway_L109 (N : Nat) (x1 : Int32) (σ : sgS) : Option ((Int32 × sgS) ⊕ ((sgS × Int32) ⊕ (sgS))) :=
  if (σ.1 0 28) ≤ x1 then
  (some (.inr (.inr σ)))
else
  (sg_lb (sg_lp (fun x => f_X12_layAway_L119 N x1 x.2 x.1) N ((σ, 0))) (fun r => some (.inl r)) fun y14 =>
  some (.inr (.inl (y14, x1 + 1))))
set_option maxHeartbeats 4000000 in
set_option maxRecDepth 100000 in
theorem b_X12_layAway_L109 {p : Program} {l : Launch} {e : Env} {R : Room} {s : State} {m : MethodId} {args : Array Value} {below : List Frame} {meth : Method} {c : Code} {Q : State → Prop} {P : sgP} {A : Nat → Prop} {N : Nat} {x1 : Int32} {σ : sgS} (X : sg_C P A 8 p R s m args c cX12_layAway 3 RX12) {H : Heap} {locs : List Loc} (I : sg_I P shM 35 A s.heap σ H locs) {ls : Array Slot} (hl : lv_has ls 3 [(0, .ref (sgA P 0)), (1, .int x1)]) {st : (Int32 × sgS) ⊕ ((sgS × Int32) ⊕ (sgS))} (h : f_X12_layAway_L109 N x1 σ = some st) (hk : sg_k3 (sg_Rv p l e R s m args below meth c Q P shM 35 A cX12_layAway) (fun x => sg_Wt p l e R s m args below meth c Q P shM 35 A 3 109 x.1 [(0, .ref (sgA P 0)), (1, .int x.2)]) (fun y => sg_Wt p l e R s m args below meth c Q P shM 35 A 3 181 y []) st) : W p l e R s m args below meth c H locs 0 0 Q (F0 m 109 ls []) := by
  unfold f_X12_layAway_L109 at h
  have hx := X.1.1
  have hb := X.1.2.1
  have hown := X.1.2.2.2.1
  have hts := X.1.2.2.2.2
  refine lv_iload_n hx hb dX12_layAway_109 rfl (lv_at hl 1 rfl) ?_
  refine lv_aload_n hx hb dX12_layAway_110 rfl (lv_at hl 0 rfl) ?_
  refine sg_geti X I fk_X12_288 (by decide) shM_0 rfl dX12_layAway_111 ?_
  refine lv_icmp_ge (tgt := 181) hx hb dX12_layAway_114 (by decide) (fun z => ?_) (fun z => ?_)
  · have h := sg_ift h z
    obtain rfl := Option.some.inj h
    exact sg_go hk I (lv_sub hl [] rfl)
  · have h := sg_iff h z
    refine lv_iconst (v := 0) hx hb dX12_layAway_117 (by decide) ?_
    refine lv_istore_n (lv' := [(2, .int 0), (0, .ref (sgA P 0)), (1, .int x1)]) hx hb dX12_layAway_118 rfl hl (by decide) rfl (fun ls hl => ?_)
    obtain ⟨res, e9, k9⟩ := sg_lb_some h
    refine sg_go (sg_lp_W (a := (sg_Rv p l e R s m args below meth c Q P shM 35 A cX12_layAway)) (w := (fun x => sg_Wt p l e R s m args below meth c Q P shM 35 A 3 119 x.1 [(0, .ref (sgA P 0)), (1, .int x1), (2, .int x.2)])) (c := (fun y => sg_Wt p l e R s m args below meth c Q P shM 35 A 3 175 y [(0, .ref (sgA P 0)), (1, .int x1)])) (fun x st hb9 hk9 => ?_) N ((σ, 0)) res e9 (sg_k2_mono k9 (fun r h => ?_) (fun y14 h => ?_))) I (lv_sub hl [1, 2, 0] rfl)
    · intro H locs ls I hl
      exact b_X12_layAway_L119 X I hl hb9 hk9
    · obtain rfl := Option.some.inj h
      exact hk
    · intro H locs ls I hl
      refine lv_iinc (v := x1 + 1) (lv' := [(1, .int (x1 + 1)), (0, .ref (sgA P 0))]) hx hb dX12_layAway_175 hl (k := 1) rfl rfl (by decide) rfl (fun ls hl => ?_)
      refine lv_goto (tgt := 109) hx hb dX12_layAway_178 (by decide) ?_
      obtain rfl := Option.some.inj h
      exact sg_go hk I (lv_sub hl [1, 0] rfl)
def f_X12_layAway (N : Nat) (σ : sgS) : Option (Int32 × sgS) :=
  sg_cl (f_X12_layLongs N σ) fun v1 s2 =>
sg_lb (sg_lp (fun x => f_X12_layAway_L6 N x.2 x.1) N ((s2, 0))) (fun r => some r) fun y9 =>
sg_lb (sg_lp (fun x => f_X12_layAway_L109 N x.2 x.1) N ((y9, 0))) (fun r => some r) fun y15 =>
some (0, y15)
set_option maxHeartbeats 4000000 in
set_option maxRecDepth 100000 in
theorem b_X12_layAway {p : Program} {l : Launch} {e : Env} {R : Room} {s : State} {m : MethodId} {args : Array Value} {below : List Frame} {meth : Method} {c : Code} {Q : State → Prop} {P : sgP} {A : Nat → Prop} {N : Nat} {σ : sgS} (X : sg_C P A 8 p R s m args c cX12_layAway 3 RX12) {H : Heap} {locs : List Loc} (I : sg_I P shM 35 A s.heap σ H locs) {ls : Array Slot} (hl : lv_has ls 3 [(0, .ref (sgA P 0))]) {st : Int32 × sgS} (h : f_X12_layAway N σ = some st) (hk : sg_Rv p l e R s m args below meth c Q P shM 35 A cX12_layAway st) : W p l e R s m args below meth c H locs 0 0 Q (F0 m 0 ls []) := by
  unfold f_X12_layAway at h
  have hx := X.1.1
  have hb := X.1.2.1
  have hown := X.1.2.2.2.1
  have hts := X.1.2.2.2.2
  refine lv_aload_n hx hb dX12_layAway_0 rfl (lv_at hl 0 rfl) ?_
  refine sg_callVv (As := []) X I mk_X12_355 (by decide) (by decide) shM_0 rfl (fun q9 e9 => c_X12_layLongs e9) h hl.1 rfl rfl (Nat.le_of_ble_eq_true rfl) dX12_layAway_1 (fun v1 s2 H locs h I => ?_)
  refine lv_iconst (v := 0) hx hb dX12_layAway_4 (by decide) ?_
  refine lv_istore_n (lv' := [(1, .int 0), (0, .ref (sgA P 0))]) hx hb dX12_layAway_5 rfl hl (by decide) rfl (fun ls hl => ?_)
  obtain ⟨res, e9, k9⟩ := sg_lb_some h
  refine sg_go (sg_lp_W (a := (sg_Rv p l e R s m args below meth c Q P shM 35 A cX12_layAway)) (w := (fun x => sg_Wt p l e R s m args below meth c Q P shM 35 A 3 6 x.1 [(0, .ref (sgA P 0)), (1, .int x.2)])) (c := (fun y => sg_Wt p l e R s m args below meth c Q P shM 35 A 3 107 y [(0, .ref (sgA P 0))])) (fun x st hb9 hk9 => ?_) N ((s2, 0)) res e9 (sg_k2_mono k9 (fun r h => ?_) (fun y9 h => ?_))) I (lv_sub hl [1, 0] rfl)
  · intro H locs ls I hl
    exact b_X12_layAway_L6 X I hl hb9 hk9
  · obtain rfl := Option.some.inj h
    exact hk
  · intro H locs ls I hl
    refine lv_iconst (v := 0) hx hb dX12_layAway_107 (by decide) ?_
    refine lv_istore_n (lv' := [(1, .int 0), (0, .ref (sgA P 0))]) hx hb dX12_layAway_108 rfl hl (by decide) rfl (fun ls hl => ?_)
    obtain ⟨res, e9, k9⟩ := sg_lb_some h
    refine sg_go (sg_lp_W (a := (sg_Rv p l e R s m args below meth c Q P shM 35 A cX12_layAway)) (w := (fun x => sg_Wt p l e R s m args below meth c Q P shM 35 A 3 109 x.1 [(0, .ref (sgA P 0)), (1, .int x.2)])) (c := (fun y => sg_Wt p l e R s m args below meth c Q P shM 35 A 3 181 y [])) (fun x st hb9 hk9 => ?_) N ((y9, 0)) res e9 (sg_k2_mono k9 (fun r h => ?_) (fun y15 h => ?_))) I (lv_sub hl [1, 0] rfl)
    · intro H locs ls I hl
      exact b_X12_layAway_L109 X I hl hb9 hk9
    · obtain rfl := Option.some.inj h
      exact hk
    · intro H locs ls I hl
      obtain rfl := Option.some.inj h
      exact hk _ _ _ _ I dX12_layAway_181
set_option maxHeartbeats 4000000 in
set_option maxRecDepth 100000 in
theorem c_X12_layAway {l : Launch} {P : sgP} {N : Nat} {σ : sgS} {q : Int32 × sgS} (h : f_X12_layAway N σ = some q) : sg_Mv P shM 35 l yX12_layAway cX12_layAway 3 none 8 [.ref (sgA P 0)] σ q := by
  refine sg_mkv (plainFor_of_name (by decide +kernel)) (Nat.le_of_ble_eq_true rfl) ?_
  intro p e R s m args below meth c Q A ls H locs X I hl hk
  exact b_X12_layAway X I hl h hk
def f_X12_awayOf (N : Nat) (p1 : Int32) (p2 : Int32) (σ : sgS) : Option (Int32) :=
  sg_ld σ 27 49 ((7 * p1) + p2) fun v1 =>
some v1
set_option maxHeartbeats 4000000 in
set_option maxRecDepth 100000 in
theorem b_X12_awayOf {p : Program} {l : Launch} {e : Env} {R : Room} {s : State} {m : MethodId} {args : Array Value} {below : List Frame} {meth : Method} {c : Code} {Q : State → Prop} {P : sgP} {A : Nat → Prop} {N : Nat} {p1 : Int32} {p2 : Int32} {σ : sgS} (X : sg_C P A 1 p R s m args c cX12_awayOf 3 RX12) {H : Heap} {locs : List Loc} (I : sg_I P shM 35 A s.heap σ H locs) {ls : Array Slot} (hl : lv_has ls 3 [(0, .ref (sgA P 0)), (1, .int p1), (2, .int p2)]) {st : Int32} (h : f_X12_awayOf N p1 p2 σ = some st) (hk : sg_Ri p l e R s m args below meth c Q P shM 35 A cX12_awayOf (some .int) (st, σ)) : W p l e R s m args below meth c H locs 0 0 Q (F0 m 0 ls []) := by
  unfold f_X12_awayOf at h
  have hx := X.1.1
  have hb := X.1.2.1
  have hown := X.1.2.2.2.1
  have hts := X.1.2.2.2.2
  refine lv_aload_n hx hb dX12_awayOf_0 rfl (lv_at hl 0 rfl) ?_
  refine sg_getr X I fk_X12_95 (j := 27) (by decide) shM_0 rfl dX12_awayOf_1 ?_
  refine lv_bipush (v := 7) hx hb dX12_awayOf_4 (by decide) ?_
  refine lv_iload_n hx hb dX12_awayOf_6 rfl (lv_at hl 1 rfl) ?_
  refine lv_imul hx hb dX12_awayOf_7 ?_
  refine lv_iload_n hx hb dX12_awayOf_8 rfl (lv_at hl 2 rfl) ?_
  refine lv_iadd hx hb dX12_awayOf_9 ?_
  refine sg_iald X I (by decide) shM_27 h dX12_awayOf_10 (fun v1 h => ?_)
  obtain rfl := Option.some.inj h
  exact hk _ _ _ _ _ I ⟨_, rfl, rfl⟩ dX12_awayOf_11
set_option maxHeartbeats 4000000 in
set_option maxRecDepth 100000 in
theorem c_X12_awayOf {l : Launch} {P : sgP} {N : Nat} {p1 : Int32} {p2 : Int32} {σ : sgS} {q : Int32} (h : f_X12_awayOf N p1 p2 σ = some q) : sg_Mi P shM 35 l yX12_awayOf cX12_awayOf 3 (some .int) 1 [.ref (sgA P 0), .int p1, .int p2] σ (q, σ) := by
  refine sg_mki (plainFor_of_name (by decide +kernel)) (Nat.le_of_ble_eq_true rfl) ?_
  intro p e R s m args below meth c Q A ls H locs X I hl hk
  exact b_X12_awayOf X I hl h hk
def f_X12_far (N : Nat) (p1 : Int32) (p2 : Int32) (σ : sgS) : Option (Int32 × sgS) :=
  sg_cr (f_X12_isPlace N p1 σ) fun v1 =>
if v1 = 0 then
  (some ((-1), σ))
else
  (sg_cr (f_X12_isPlace N p2 σ) fun v2 =>
  if v2 = 0 then
    (some ((-1), σ))
  else
    (sg_cl (f_X12_layAway N σ) fun v3 s4 =>
    sg_cr (f_X12_awayOf N p1 p2 s4) fun v5 =>
    if v5 < 100000 then
      (sg_cr (f_X12_awayOf N p1 p2 s4) fun v6 =>
      some (v6, s4))
    else
      (some ((-1), s4))))
set_option maxHeartbeats 4000000 in
set_option maxRecDepth 100000 in
theorem b_X12_far {p : Program} {l : Launch} {e : Env} {R : Room} {s : State} {m : MethodId} {args : Array Value} {below : List Frame} {meth : Method} {c : Code} {Q : State → Prop} {P : sgP} {A : Nat → Prop} {N : Nat} {p1 : Int32} {p2 : Int32} {σ : sgS} (X : sg_C P A 9 p R s m args c cX12_far 3 RX12) {H : Heap} {locs : List Loc} (I : sg_I P shM 35 A s.heap σ H locs) {ls : Array Slot} (hl : lv_has ls 3 [(0, .ref (sgA P 0)), (1, .int p1), (2, .int p2)]) {st : Int32 × sgS} (h : f_X12_far N p1 p2 σ = some st) (hk : sg_Ri p l e R s m args below meth c Q P shM 35 A cX12_far (some .int) st) : W p l e R s m args below meth c H locs 0 0 Q (F0 m 0 ls []) := by
  unfold f_X12_far at h
  have hx := X.1.1
  have hb := X.1.2.1
  have hown := X.1.2.2.2.1
  have hts := X.1.2.2.2.2
  refine lv_aload_n hx hb dX12_far_0 rfl (lv_at hl 0 rfl) ?_
  refine lv_iload_n hx hb dX12_far_1 rfl (lv_at hl 1 rfl) ?_
  refine sg_callVr (As := [.int p1]) X I mk_X12_373 (by decide) (by decide) shM_0 rfl (fun q9 e9 => c_X12_isPlace e9) h hl.1 rfl rfl (Nat.le_of_ble_eq_true rfl) dX12_far_2 (fun v1 H locs h I => ?_)
  refine lv_if_eq (tgt := 16) hx hb dX12_far_5 (by decide) (fun z => ?_) (fun z => ?_)
  · have h := sg_ift h z
    refine lv_iconst (v := -1) hx hb dX12_far_16 (by decide) ?_
    obtain rfl := Option.some.inj h
    exact hk _ _ _ _ _ I ⟨_, rfl, rfl⟩ dX12_far_17
  · have h := sg_iff h z
    refine lv_aload_n hx hb dX12_far_8 rfl (lv_at hl 0 rfl) ?_
    refine lv_iload_n hx hb dX12_far_9 rfl (lv_at hl 2 rfl) ?_
    refine sg_callVr (As := [.int p2]) X I mk_X12_373 (by decide) (by decide) shM_0 rfl (fun q9 e9 => c_X12_isPlace e9) h hl.1 rfl rfl (Nat.le_of_ble_eq_true rfl) dX12_far_10 (fun v2 H locs h I => ?_)
    refine lv_if_ne (tgt := 18) hx hb dX12_far_13 (by decide) (fun z => ?_) (fun z => ?_)
    · have h := sg_iff h z
      refine lv_aload_n hx hb dX12_far_18 rfl (lv_at hl 0 rfl) ?_
      refine sg_callVv (As := []) X I mk_X12_412 (by decide) (by decide) shM_0 rfl (fun q9 e9 => c_X12_layAway e9) h hl.1 rfl rfl (Nat.le_of_ble_eq_true rfl) dX12_far_19 (fun v3 s4 H locs h I => ?_)
      refine lv_aload_n hx hb dX12_far_22 rfl (lv_at hl 0 rfl) ?_
      refine lv_iload_n hx hb dX12_far_23 rfl (lv_at hl 1 rfl) ?_
      refine lv_iload_n hx hb dX12_far_24 rfl (lv_at hl 2 rfl) ?_
      refine sg_callVr (As := [.int p1, .int p2]) X I mk_X12_415 (by decide) (by decide) shM_0 rfl (fun q9 e9 => c_X12_awayOf e9) h hl.1 rfl rfl (Nat.le_of_ble_eq_true rfl) dX12_far_25 (fun v5 H locs h I => ?_)
      refine lv_ldcw (v := 100000) hx hb hown (hts _ qw_1128) dX12_far_28 ?_
      refine lv_icmp_lt (tgt := 38) hx hb dX12_far_31 (by decide) (fun z => ?_) (fun z => ?_)
      · have h := sg_ift h z
        refine lv_aload_n hx hb dX12_far_38 rfl (lv_at hl 0 rfl) ?_
        refine lv_iload_n hx hb dX12_far_39 rfl (lv_at hl 1 rfl) ?_
        refine lv_iload_n hx hb dX12_far_40 rfl (lv_at hl 2 rfl) ?_
        refine sg_callVr (As := [.int p1, .int p2]) X I mk_X12_415 (by decide) (by decide) shM_0 rfl (fun q9 e9 => c_X12_awayOf e9) h hl.1 rfl rfl (Nat.le_of_ble_eq_true rfl) dX12_far_41 (fun v6 H locs h I => ?_)
        obtain rfl := Option.some.inj h
        exact hk _ _ _ _ _ I ⟨_, rfl, rfl⟩ dX12_far_44
      · have h := sg_iff h z
        refine lv_iconst (v := -1) hx hb dX12_far_34 (by decide) ?_
        refine lv_goto (tgt := 44) hx hb dX12_far_35 (by decide) ?_
        obtain rfl := Option.some.inj h
        exact hk _ _ _ _ _ I ⟨_, rfl, rfl⟩ dX12_far_44
    · have h := sg_ift h z
      refine lv_iconst (v := -1) hx hb dX12_far_16 (by decide) ?_
      obtain rfl := Option.some.inj h
      exact hk _ _ _ _ _ I ⟨_, rfl, rfl⟩ dX12_far_17
set_option maxHeartbeats 4000000 in
set_option maxRecDepth 100000 in
theorem c_X12_far {l : Launch} {P : sgP} {N : Nat} {p1 : Int32} {p2 : Int32} {σ : sgS} {q : Int32 × sgS} (h : f_X12_far N p1 p2 σ = some q) : sg_Mi P shM 35 l yX12_far cX12_far 3 (some .int) 9 [.ref (sgA P 0), .int p1, .int p2] σ q := by
  refine sg_mki (plainFor_of_name (by decide +kernel)) (Nat.le_of_ble_eq_true rfl) ?_
  intro p e R s m args below meth c Q A ls H locs X I hl hk
  exact b_X12_far X I hl h hk
def f_X12_tryRow_b_L54 (N : Nat) (rec : Int32 → Int32 → Int32 → Int32 → sgS → Option (Int32 × sgS)) (p1 : Int32) (p2 : Int32) (p3 : Int32) (p4 : Int32) (x5 : Int32) (σ : sgS) : Option ((Int32 × sgS) ⊕ ((sgS × Int32) ⊕ (sgS))) :=
  if (σ.1 0 28) ≤ x5 then
  (some (.inr (.inr σ)))
else
  (if x5 = p1 then
    (some (.inr (.inl (σ, x5 + 1))))
  else
    (sg_ld σ 26 49 ((7 * p1) + x5) fun v1 =>
    if 100000 ≤ v1 then
      (some (.inr (.inl (σ, x5 + 1))))
    else
      (sg_ld σ 26 49 ((7 * p1) + x5) fun v2 =>
      sg_cr (f_X12_awayOf N x5 p2 σ) fun v3 =>
      sg_cr (f_X12_awayOf N p1 p2 σ) fun v4 =>
      if (v2 + v3) = v4 then
        (sg_cl (rec x5 p2 ((10 * p3) + x5) (p4 + 1) σ) fun v5 s6 =>
        some (.inr (.inl (s6, x5 + 1))))
      else
        (some (.inr (.inl (σ, x5 + 1)))))))
set_option maxHeartbeats 4000000 in
set_option maxRecDepth 100000 in
theorem b_X12_tryRow_b_L54 {p : Program} {l : Launch} {e : Env} {R : Room} {s : State} {m : MethodId} {args : Array Value} {below : List Frame} {meth : Method} {c : Code} {Q : State → Prop} {P : sgP} {A : Nat → Prop} {lv : Nat} {N : Nat} {rec : Int32 → Int32 → Int32 → Int32 → sgS → Option (Int32 × sgS)} {p1 : Int32} {p2 : Int32} {p3 : Int32} {p4 : Int32} {x5 : Int32} {σ : sgS} (X : sg_C P A (lv + 1) p R s m args c cX12_tryRow 6 RX12) (hlv : 2 ≤ lv) (hrec : ∀ (p1 : Int32) (p2 : Int32) (p3 : Int32) (p4 : Int32) (σ : sgS) (q : Int32 × sgS), rec p1 p2 p3 p4 σ = some q → sg_Mv P shM 35 l yX12_tryRow cX12_tryRow 6 none lv [.ref (sgA P 0), .int p1, .int p2, .int p3, .int p4] σ q) {H : Heap} {locs : List Loc} (I : sg_I P shM 35 A s.heap σ H locs) {ls : Array Slot} (hl : lv_has ls 6 [(0, .ref (sgA P 0)), (1, .int p1), (2, .int p2), (3, .int p3), (4, .int p4), (5, .int x5)]) {st : (Int32 × sgS) ⊕ ((sgS × Int32) ⊕ (sgS))} (h : f_X12_tryRow_b_L54 N rec p1 p2 p3 p4 x5 σ = some st) (hk : sg_k3 (sg_Rv p l e R s m args below meth c Q P shM 35 A cX12_tryRow) (fun x => sg_Wt p l e R s m args below meth c Q P shM 35 A 6 54 x.1 [(0, .ref (sgA P 0)), (1, .int p1), (2, .int p2), (3, .int p3), (4, .int p4), (5, .int x.2)]) (fun y => sg_Wt p l e R s m args below meth c Q P shM 35 A 6 140 y []) st) : W p l e R s m args below meth c H locs 0 0 Q (F0 m 54 ls []) := by
  unfold f_X12_tryRow_b_L54 at h
  have hx := X.1.1
  have hb := X.1.2.1
  have hown := X.1.2.2.2.1
  have hts := X.1.2.2.2.2
  refine lv_iload hx hb dX12_tryRow_54 (lv_at hl 5 rfl) ?_
  refine lv_aload_n hx hb dX12_tryRow_56 rfl (lv_at hl 0 rfl) ?_
  refine sg_geti X I fk_X12_288 (by decide) shM_0 rfl dX12_tryRow_57 ?_
  refine lv_icmp_ge (tgt := 140) hx hb dX12_tryRow_60 (by decide) (fun z => ?_) (fun z => ?_)
  · have h := sg_ift h z
    obtain rfl := Option.some.inj h
    exact sg_go hk I (lv_sub hl [] rfl)
  · have h := sg_iff h z
    refine lv_iload hx hb dX12_tryRow_63 (lv_at hl 5 rfl) ?_
    refine lv_iload_n hx hb dX12_tryRow_65 rfl (lv_at hl 1 rfl) ?_
    refine lv_icmp_eq (tgt := 134) hx hb dX12_tryRow_66 (by decide) (fun z => ?_) (fun z => ?_)
    · have h := sg_ift h z
      refine lv_iinc (v := x5 + 1) (lv' := [(5, .int (x5 + 1)), (0, .ref (sgA P 0)), (1, .int p1), (2, .int p2), (3, .int p3), (4, .int p4)]) hx hb dX12_tryRow_134 hl (k := 5) rfl rfl (by decide) rfl (fun ls hl => ?_)
      refine lv_goto (tgt := 54) hx hb dX12_tryRow_137 (by decide) ?_
      obtain rfl := Option.some.inj h
      exact sg_go hk I (lv_sub hl [1, 2, 3, 4, 5, 0] rfl)
    · have h := sg_iff h z
      refine lv_aload_n hx hb dX12_tryRow_69 rfl (lv_at hl 0 rfl) ?_
      refine sg_getr X I fk_X12_92 (j := 26) (by decide) shM_0 rfl dX12_tryRow_70 ?_
      refine lv_bipush (v := 7) hx hb dX12_tryRow_73 (by decide) ?_
      refine lv_iload_n hx hb dX12_tryRow_75 rfl (lv_at hl 1 rfl) ?_
      refine lv_imul hx hb dX12_tryRow_76 ?_
      refine lv_iload hx hb dX12_tryRow_77 (lv_at hl 5 rfl) ?_
      refine lv_iadd hx hb dX12_tryRow_79 ?_
      refine sg_iald X I (by decide) shM_26 h dX12_tryRow_80 (fun v1 h => ?_)
      refine lv_ldcw (v := 100000) hx hb hown (hts _ qw_1128) dX12_tryRow_81 ?_
      refine lv_icmp_ge (tgt := 134) hx hb dX12_tryRow_84 (by decide) (fun z => ?_) (fun z => ?_)
      · have h := sg_ift h z
        refine lv_iinc (v := x5 + 1) (lv' := [(5, .int (x5 + 1)), (0, .ref (sgA P 0)), (1, .int p1), (2, .int p2), (3, .int p3), (4, .int p4)]) hx hb dX12_tryRow_134 hl (k := 5) rfl rfl (by decide) rfl (fun ls hl => ?_)
        refine lv_goto (tgt := 54) hx hb dX12_tryRow_137 (by decide) ?_
        obtain rfl := Option.some.inj h
        exact sg_go hk I (lv_sub hl [1, 2, 3, 4, 5, 0] rfl)
      · have h := sg_iff h z
        refine lv_aload_n hx hb dX12_tryRow_87 rfl (lv_at hl 0 rfl) ?_
        refine sg_getr X I fk_X12_92 (j := 26) (by decide) shM_0 rfl dX12_tryRow_88 ?_
        refine lv_bipush (v := 7) hx hb dX12_tryRow_91 (by decide) ?_
        refine lv_iload_n hx hb dX12_tryRow_93 rfl (lv_at hl 1 rfl) ?_
        refine lv_imul hx hb dX12_tryRow_94 ?_
        refine lv_iload hx hb dX12_tryRow_95 (lv_at hl 5 rfl) ?_
        refine lv_iadd hx hb dX12_tryRow_97 ?_
        refine sg_iald X I (by decide) shM_26 h dX12_tryRow_98 (fun v2 h => ?_)
        refine lv_aload_n hx hb dX12_tryRow_99 rfl (lv_at hl 0 rfl) ?_
        refine lv_iload hx hb dX12_tryRow_100 (lv_at hl 5 rfl) ?_
        refine lv_iload_n hx hb dX12_tryRow_102 rfl (lv_at hl 2 rfl) ?_
        refine sg_callVr (As := [.int x5, .int p2]) X I mk_X12_415 (by omega) (by decide) shM_0 rfl (fun q9 e9 => c_X12_awayOf e9) h hl.1 rfl rfl (Nat.le_of_ble_eq_true rfl) dX12_tryRow_103 (fun v3 H locs h I => ?_)
        refine lv_iadd hx hb dX12_tryRow_106 ?_
        refine lv_aload_n hx hb dX12_tryRow_107 rfl (lv_at hl 0 rfl) ?_
        refine lv_iload_n hx hb dX12_tryRow_108 rfl (lv_at hl 1 rfl) ?_
        refine lv_iload_n hx hb dX12_tryRow_109 rfl (lv_at hl 2 rfl) ?_
        refine sg_callVr (As := [.int p1, .int p2]) X I mk_X12_415 (by omega) (by decide) shM_0 rfl (fun q9 e9 => c_X12_awayOf e9) h hl.1 rfl rfl (Nat.le_of_ble_eq_true rfl) dX12_tryRow_110 (fun v4 H locs h I => ?_)
        refine lv_icmp_ne (tgt := 134) hx hb dX12_tryRow_113 (by decide) (fun z => ?_) (fun z => ?_)
        · have h := sg_iff h z
          refine lv_iinc (v := x5 + 1) (lv' := [(5, .int (x5 + 1)), (0, .ref (sgA P 0)), (1, .int p1), (2, .int p2), (3, .int p3), (4, .int p4)]) hx hb dX12_tryRow_134 hl (k := 5) rfl rfl (by decide) rfl (fun ls hl => ?_)
          refine lv_goto (tgt := 54) hx hb dX12_tryRow_137 (by decide) ?_
          obtain rfl := Option.some.inj h
          exact sg_go hk I (lv_sub hl [1, 2, 3, 4, 5, 0] rfl)
        · have h := sg_ift h z
          refine lv_aload_n hx hb dX12_tryRow_116 rfl (lv_at hl 0 rfl) ?_
          refine lv_iload hx hb dX12_tryRow_117 (lv_at hl 5 rfl) ?_
          refine lv_iload_n hx hb dX12_tryRow_119 rfl (lv_at hl 2 rfl) ?_
          refine lv_bipush (v := 10) hx hb dX12_tryRow_120 (by decide) ?_
          refine lv_iload_n hx hb dX12_tryRow_122 rfl (lv_at hl 3 rfl) ?_
          refine lv_imul hx hb dX12_tryRow_123 ?_
          refine lv_iload hx hb dX12_tryRow_124 (lv_at hl 5 rfl) ?_
          refine lv_iadd hx hb dX12_tryRow_126 ?_
          refine lv_iload hx hb dX12_tryRow_127 (lv_at hl 4 rfl) ?_
          refine lv_iconst (v := 1) hx hb dX12_tryRow_129 (by decide) ?_
          refine lv_iadd hx hb dX12_tryRow_130 ?_
          refine sg_callVv (As := [.int x5, .int p2, .int ((10 * p3) + x5), .int (p4 + 1)]) X I mk_X12_424 (by omega) (by decide) shM_0 rfl (fun q9 e9 => hrec _ _ _ _ _ _ e9) h hl.1 rfl rfl (Nat.le_of_ble_eq_true rfl) dX12_tryRow_131 (fun v5 s6 H locs h I => ?_)
          refine lv_iinc (v := x5 + 1) (lv' := [(5, .int (x5 + 1)), (0, .ref (sgA P 0)), (1, .int p1), (2, .int p2), (3, .int p3), (4, .int p4)]) hx hb dX12_tryRow_134 hl (k := 5) rfl rfl (by decide) rfl (fun ls hl => ?_)
          refine lv_goto (tgt := 54) hx hb dX12_tryRow_137 (by decide) ?_
          obtain rfl := Option.some.inj h
          exact sg_go hk I (lv_sub hl [1, 2, 3, 4, 5, 0] rfl)
def f_X12_tryRow_b (N : Nat) (rec : Int32 → Int32 → Int32 → Int32 → sgS → Option (Int32 × sgS)) (p1 : Int32) (p2 : Int32) (p3 : Int32) (p4 : Int32) (σ : sgS) : Option (Int32 × sgS) :=
  if p1 = p2 then
  (if (σ.1 0 46) = ((-1)) then
    (sg_pf σ 0 46 p3 fun s8 =>
    sg_pf s8 0 48 p4 fun s9 =>
    some (0, s9))
  else
    (if p4 < (σ.1 0 48) then
      (sg_pf σ 0 46 p3 fun s10 =>
      sg_pf s10 0 48 p4 fun s11 =>
      some (0, s11))
    else
      (if p4 = (σ.1 0 48) then
        (if (σ.1 0 46) ≤ p3 then
          (some (0, σ))
        else
          (sg_pf σ 0 46 p3 fun s12 =>
          sg_pf s12 0 48 p4 fun s13 =>
          some (0, s13)))
      else
        (some (0, σ)))))
else
  (sg_lb (sg_lp (fun x => f_X12_tryRow_b_L54 N rec p1 p2 p3 p4 x.2 x.1) N ((σ, 0))) (fun r => some r) fun y7 =>
  some (0, y7))
set_option maxHeartbeats 4000000 in
set_option maxRecDepth 100000 in
theorem b_X12_tryRow_b {p : Program} {l : Launch} {e : Env} {R : Room} {s : State} {m : MethodId} {args : Array Value} {below : List Frame} {meth : Method} {c : Code} {Q : State → Prop} {P : sgP} {A : Nat → Prop} {lv : Nat} {N : Nat} {rec : Int32 → Int32 → Int32 → Int32 → sgS → Option (Int32 × sgS)} {p1 : Int32} {p2 : Int32} {p3 : Int32} {p4 : Int32} {σ : sgS} (X : sg_C P A (lv + 1) p R s m args c cX12_tryRow 6 RX12) (hlv : 2 ≤ lv) (hrec : ∀ (p1 : Int32) (p2 : Int32) (p3 : Int32) (p4 : Int32) (σ : sgS) (q : Int32 × sgS), rec p1 p2 p3 p4 σ = some q → sg_Mv P shM 35 l yX12_tryRow cX12_tryRow 6 none lv [.ref (sgA P 0), .int p1, .int p2, .int p3, .int p4] σ q) {H : Heap} {locs : List Loc} (I : sg_I P shM 35 A s.heap σ H locs) {ls : Array Slot} (hl : lv_has ls 6 [(0, .ref (sgA P 0)), (1, .int p1), (2, .int p2), (3, .int p3), (4, .int p4)]) {st : Int32 × sgS} (h : f_X12_tryRow_b N rec p1 p2 p3 p4 σ = some st) (hk : sg_Rv p l e R s m args below meth c Q P shM 35 A cX12_tryRow st) : W p l e R s m args below meth c H locs 0 0 Q (F0 m 0 ls []) := by
  unfold f_X12_tryRow_b at h
  have hx := X.1.1
  have hb := X.1.2.1
  have hown := X.1.2.2.2.1
  have hts := X.1.2.2.2.2
  refine lv_iload_n hx hb dX12_tryRow_0 rfl (lv_at hl 1 rfl) ?_
  refine lv_iload_n hx hb dX12_tryRow_1 rfl (lv_at hl 2 rfl) ?_
  refine lv_icmp_ne (tgt := 51) hx hb dX12_tryRow_2 (by decide) (fun z => ?_) (fun z => ?_)
  · have h := sg_iff h z
    refine lv_iconst (v := 0) hx hb dX12_tryRow_51 (by decide) ?_
    refine lv_istore (lv' := [(5, .int 0), (0, .ref (sgA P 0)), (1, .int p1), (2, .int p2), (3, .int p3), (4, .int p4)]) hx hb dX12_tryRow_52 hl (by decide) rfl (fun ls hl => ?_)
    obtain ⟨res, e9, k9⟩ := sg_lb_some h
    refine sg_go (sg_lp_W (a := (sg_Rv p l e R s m args below meth c Q P shM 35 A cX12_tryRow)) (w := (fun x => sg_Wt p l e R s m args below meth c Q P shM 35 A 6 54 x.1 [(0, .ref (sgA P 0)), (1, .int p1), (2, .int p2), (3, .int p3), (4, .int p4), (5, .int x.2)])) (c := (fun y => sg_Wt p l e R s m args below meth c Q P shM 35 A 6 140 y [])) (fun x st hb9 hk9 => ?_) N ((σ, 0)) res e9 (sg_k2_mono k9 (fun r h => ?_) (fun y7 h => ?_))) I (lv_sub hl [1, 2, 3, 4, 5, 0] rfl)
    · intro H locs ls I hl
      exact b_X12_tryRow_b_L54 X hlv hrec I hl hb9 hk9
    · obtain rfl := Option.some.inj h
      exact hk
    · intro H locs ls I hl
      obtain rfl := Option.some.inj h
      exact hk _ _ _ _ I dX12_tryRow_140
  · have h := sg_ift h z
    refine lv_aload_n hx hb dX12_tryRow_5 rfl (lv_at hl 0 rfl) ?_
    refine sg_geti X I fk_X12_418 (by decide) shM_0 rfl dX12_tryRow_6 ?_
    refine lv_iconst (v := -1) hx hb dX12_tryRow_9 (by decide) ?_
    refine lv_icmp_eq (tgt := 39) hx hb dX12_tryRow_10 (by decide) (fun z => ?_) (fun z => ?_)
    · have h := sg_ift h z
      refine lv_aload_n hx hb dX12_tryRow_39 rfl (lv_at hl 0 rfl) ?_
      refine lv_iload_n hx hb dX12_tryRow_40 rfl (lv_at hl 3 rfl) ?_
      refine sg_puti X I fk_X12_418 wk_12_46 rfl rfl (by decide) shM_0 rfl h dX12_tryRow_41 (fun s8 H locs h I => ?_)
      refine lv_aload_n hx hb dX12_tryRow_44 rfl (lv_at hl 0 rfl) ?_
      refine lv_iload hx hb dX12_tryRow_45 (lv_at hl 4 rfl) ?_
      refine sg_puti X I fk_X12_421 wk_12_48 rfl rfl (by decide) shM_0 rfl h dX12_tryRow_47 (fun s9 H locs h I => ?_)
      obtain rfl := Option.some.inj h
      exact hk _ _ _ _ I dX12_tryRow_50
    · have h := sg_iff h z
      refine lv_iload hx hb dX12_tryRow_13 (lv_at hl 4 rfl) ?_
      refine lv_aload_n hx hb dX12_tryRow_15 rfl (lv_at hl 0 rfl) ?_
      refine sg_geti X I fk_X12_421 (by decide) shM_0 rfl dX12_tryRow_16 ?_
      refine lv_icmp_lt (tgt := 39) hx hb dX12_tryRow_19 (by decide) (fun z => ?_) (fun z => ?_)
      · have h := sg_ift h z
        refine lv_aload_n hx hb dX12_tryRow_39 rfl (lv_at hl 0 rfl) ?_
        refine lv_iload_n hx hb dX12_tryRow_40 rfl (lv_at hl 3 rfl) ?_
        refine sg_puti X I fk_X12_418 wk_12_46 rfl rfl (by decide) shM_0 rfl h dX12_tryRow_41 (fun s10 H locs h I => ?_)
        refine lv_aload_n hx hb dX12_tryRow_44 rfl (lv_at hl 0 rfl) ?_
        refine lv_iload hx hb dX12_tryRow_45 (lv_at hl 4 rfl) ?_
        refine sg_puti X I fk_X12_421 wk_12_48 rfl rfl (by decide) shM_0 rfl h dX12_tryRow_47 (fun s11 H locs h I => ?_)
        obtain rfl := Option.some.inj h
        exact hk _ _ _ _ I dX12_tryRow_50
      · have h := sg_iff h z
        refine lv_iload hx hb dX12_tryRow_22 (lv_at hl 4 rfl) ?_
        refine lv_aload_n hx hb dX12_tryRow_24 rfl (lv_at hl 0 rfl) ?_
        refine sg_geti X I fk_X12_421 (by decide) shM_0 rfl dX12_tryRow_25 ?_
        refine lv_icmp_ne (tgt := 50) hx hb dX12_tryRow_28 (by decide) (fun z => ?_) (fun z => ?_)
        · have h := sg_iff h z
          obtain rfl := Option.some.inj h
          exact hk _ _ _ _ I dX12_tryRow_50
        · have h := sg_ift h z
          refine lv_iload_n hx hb dX12_tryRow_31 rfl (lv_at hl 3 rfl) ?_
          refine lv_aload_n hx hb dX12_tryRow_32 rfl (lv_at hl 0 rfl) ?_
          refine sg_geti X I fk_X12_418 (by decide) shM_0 rfl dX12_tryRow_33 ?_
          refine lv_icmp_ge (tgt := 50) hx hb dX12_tryRow_36 (by decide) (fun z => ?_) (fun z => ?_)
          · have h := sg_ift h z
            obtain rfl := Option.some.inj h
            exact hk _ _ _ _ I dX12_tryRow_50
          · have h := sg_iff h z
            refine lv_aload_n hx hb dX12_tryRow_39 rfl (lv_at hl 0 rfl) ?_
            refine lv_iload_n hx hb dX12_tryRow_40 rfl (lv_at hl 3 rfl) ?_
            refine sg_puti X I fk_X12_418 wk_12_46 rfl rfl (by decide) shM_0 rfl h dX12_tryRow_41 (fun s12 H locs h I => ?_)
            refine lv_aload_n hx hb dX12_tryRow_44 rfl (lv_at hl 0 rfl) ?_
            refine lv_iload hx hb dX12_tryRow_45 (lv_at hl 4 rfl) ?_
            refine sg_puti X I fk_X12_421 wk_12_48 rfl rfl (by decide) shM_0 rfl h dX12_tryRow_47 (fun s13 H locs h I => ?_)
            obtain rfl := Option.some.inj h
            exact hk _ _ _ _ I dX12_tryRow_50
set_option maxHeartbeats 4000000 in
set_option maxRecDepth 100000 in
theorem c_X12_tryRow_b {l : Launch} {P : sgP} {lv : Nat} {N : Nat} {rec : Int32 → Int32 → Int32 → Int32 → sgS → Option (Int32 × sgS)} {p1 : Int32} {p2 : Int32} {p3 : Int32} {p4 : Int32} {σ : sgS} (hlv : 2 ≤ lv) (hrec : ∀ (p1 : Int32) (p2 : Int32) (p3 : Int32) (p4 : Int32) (σ : sgS) (q : Int32 × sgS), rec p1 p2 p3 p4 σ = some q → sg_Mv P shM 35 l yX12_tryRow cX12_tryRow 6 none lv [.ref (sgA P 0), .int p1, .int p2, .int p3, .int p4] σ q) {q : Int32 × sgS} (h : f_X12_tryRow_b N rec p1 p2 p3 p4 σ = some q) : sg_Mv P shM 35 l yX12_tryRow cX12_tryRow 6 none (lv + 1) [.ref (sgA P 0), .int p1, .int p2, .int p3, .int p4] σ q := by
  refine sg_mkv (plainFor_of_name (by decide +kernel)) (Nat.le_of_ble_eq_true rfl) ?_
  intro p e R s m args below meth c Q A ls H locs X I hl hk
  exact b_X12_tryRow_b X hlv hrec I hl h hk
def f_X12_tryRow : Nat → Nat → Int32 → Int32 → Int32 → Int32 → sgS → Option (Int32 × sgS)
  | 0, _, _, _, _, _, _ => none
  | d + 1, N, p1, p2, p3, p4, σ => f_X12_tryRow_b N (f_X12_tryRow d N) p1 p2 p3 p4 σ
set_option maxHeartbeats 4000000 in
set_option maxRecDepth 100000 in
theorem cd_X12_tryRow {l : Launch} {P : sgP} {N : Nat} : ∀ (d : Nat) (p1 : Int32) (p2 : Int32) (p3 : Int32) (p4 : Int32) (σ : sgS) (q : Int32 × sgS), f_X12_tryRow d N p1 p2 p3 p4 σ = some q → sg_Mv P shM 35 l yX12_tryRow cX12_tryRow 6 none (2 + 1 * d) [.ref (sgA P 0), .int p1, .int p2, .int p3, .int p4] σ q := by
  intro d
  induction d with
  | zero => intro p1 p2 p3 p4 σ q h; cases h
  | succ d ih =>
    intro p1 p2 p3 p4 σ q h
    have e : 2 + 1 * (d + 1) = 2 + 1 * d + 1 := by omega
    rw [e]
    exact c_X12_tryRow_b (by omega) ih h
set_option maxHeartbeats 4000000 in
set_option maxRecDepth 100000 in
theorem c_X12_tryRow {l : Launch} {P : sgP} {N : Nat} {p1 : Int32} {p2 : Int32} {p3 : Int32} {p4 : Int32} {σ : sgS} {q : Int32 × sgS} (h : f_X12_tryRow 40 N p1 p2 p3 p4 σ = some q) : sg_Mv P shM 35 l yX12_tryRow cX12_tryRow 6 none 42 [.ref (sgA P 0), .int p1, .int p2, .int p3, .int p4] σ q := cd_X12_tryRow 40 p1 p2 p3 p4 σ q h
def f_X12_row (N : Nat) (p1 : Int32) (p2 : Int32) (σ : sgS) : Option (Int32 × sgS) :=
  sg_cl (f_X12_far N p1 p2 σ) fun v1 s2 =>
if v1 = ((-1)) then
  (some ((-1), s2))
else
  (sg_pf s2 0 46 ((-1)) fun s3 =>
  sg_cl (f_X12_tryRow 40 N p1 p2 p1 1 s3) fun v4 s5 =>
  some (s5.1 0 46, s5))
set_option maxHeartbeats 4000000 in
set_option maxRecDepth 100000 in
theorem b_X12_row {p : Program} {l : Launch} {e : Env} {R : Room} {s : State} {m : MethodId} {args : Array Value} {below : List Frame} {meth : Method} {c : Code} {Q : State → Prop} {P : sgP} {A : Nat → Prop} {N : Nat} {p1 : Int32} {p2 : Int32} {σ : sgS} (X : sg_C P A 43 p R s m args c cX12_row 3 RX12) {H : Heap} {locs : List Loc} (I : sg_I P shM 35 A s.heap σ H locs) {ls : Array Slot} (hl : lv_has ls 3 [(0, .ref (sgA P 0)), (1, .int p1), (2, .int p2)]) {st : Int32 × sgS} (h : f_X12_row N p1 p2 σ = some st) (hk : sg_Ri p l e R s m args below meth c Q P shM 35 A cX12_row (some .int) st) : W p l e R s m args below meth c H locs 0 0 Q (F0 m 0 ls []) := by
  unfold f_X12_row at h
  have hx := X.1.1
  have hb := X.1.2.1
  have hown := X.1.2.2.2.1
  have hts := X.1.2.2.2.2
  refine lv_aload_n hx hb dX12_row_0 rfl (lv_at hl 0 rfl) ?_
  refine lv_iload_n hx hb dX12_row_1 rfl (lv_at hl 1 rfl) ?_
  refine lv_iload_n hx hb dX12_row_2 rfl (lv_at hl 2 rfl) ?_
  refine sg_callV (As := [.int p1, .int p2]) X I mk_X12_428 (by decide) (by decide) shM_0 rfl (fun q9 e9 => c_X12_far e9) h hl.1 rfl rfl (Nat.le_of_ble_eq_true rfl) dX12_row_3 (fun v1 s2 H locs h I => ?_)
  refine lv_iconst (v := -1) hx hb dX12_row_6 (by decide) ?_
  refine lv_icmp_ne (tgt := 12) hx hb dX12_row_7 (by decide) (fun z => ?_) (fun z => ?_)
  · have h := sg_iff h z
    refine lv_aload_n hx hb dX12_row_12 rfl (lv_at hl 0 rfl) ?_
    refine lv_iconst (v := -1) hx hb dX12_row_13 (by decide) ?_
    refine sg_puti X I fk_X12_418 wk_12_46 rfl rfl (by decide) shM_0 rfl h dX12_row_14 (fun s3 H locs h I => ?_)
    refine lv_aload_n hx hb dX12_row_17 rfl (lv_at hl 0 rfl) ?_
    refine lv_iload_n hx hb dX12_row_18 rfl (lv_at hl 1 rfl) ?_
    refine lv_iload_n hx hb dX12_row_19 rfl (lv_at hl 2 rfl) ?_
    refine lv_iload_n hx hb dX12_row_20 rfl (lv_at hl 1 rfl) ?_
    refine lv_iconst (v := 1) hx hb dX12_row_21 (by decide) ?_
    refine sg_callVv (As := [.int p1, .int p2, .int p1, .int 1]) X I mk_X12_424 (by decide) (by decide) shM_0 rfl (fun q9 e9 => c_X12_tryRow e9) h hl.1 rfl rfl (Nat.le_of_ble_eq_true rfl) dX12_row_22 (fun v4 s5 H locs h I => ?_)
    refine lv_aload_n hx hb dX12_row_25 rfl (lv_at hl 0 rfl) ?_
    refine sg_geti X I fk_X12_418 (by decide) shM_0 rfl dX12_row_26 ?_
    obtain rfl := Option.some.inj h
    exact hk _ _ _ _ _ I ⟨_, rfl, rfl⟩ dX12_row_29
  · have h := sg_ift h z
    refine lv_iconst (v := -1) hx hb dX12_row_10 (by decide) ?_
    obtain rfl := Option.some.inj h
    exact hk _ _ _ _ _ I ⟨_, rfl, rfl⟩ dX12_row_11
set_option maxHeartbeats 4000000 in
set_option maxRecDepth 100000 in
theorem c_X12_row {l : Launch} {P : sgP} {N : Nat} {p1 : Int32} {p2 : Int32} {σ : sgS} {q : Int32 × sgS} (h : f_X12_row N p1 p2 σ = some q) : sg_Mi P shM 35 l yX12_row cX12_row 3 (some .int) 43 [.ref (sgA P 0), .int p1, .int p2] σ q := by
  refine sg_mki (plainFor_of_name (by decide +kernel)) (Nat.le_of_ble_eq_true rfl) ?_
  intro p e R s m args below meth c Q A ls H locs X I hl hk
  exact b_X12_row X I hl h hk
def f_X12_putAside_L2 (N : Nat) (x1 : Int32) (σ : sgS) : Option ((Int32 × sgS) ⊕ ((sgS × Int32) ⊕ (sgS))) :=
  if 34 ≤ x1 then
  (some (.inr (.inr σ)))
else
  (sg_ld σ 21 215 x1 fun v1 =>
  sg_st σ 28 34 x1 v1 fun s2 =>
  some (.inr (.inl (s2, x1 + 1))))
set_option maxHeartbeats 4000000 in
set_option maxRecDepth 100000 in
theorem b_X12_putAside_L2 {p : Program} {l : Launch} {e : Env} {R : Room} {s : State} {m : MethodId} {args : Array Value} {below : List Frame} {meth : Method} {c : Code} {Q : State → Prop} {P : sgP} {A : Nat → Prop} {N : Nat} {x1 : Int32} {σ : sgS} (X : sg_C P A 1 p R s m args c cX12_putAside 2 RX12) {H : Heap} {locs : List Loc} (I : sg_I P shM 35 A s.heap σ H locs) {ls : Array Slot} (hl : lv_has ls 2 [(0, .ref (sgA P 0)), (1, .int x1)]) {st : (Int32 × sgS) ⊕ ((sgS × Int32) ⊕ (sgS))} (h : f_X12_putAside_L2 N x1 σ = some st) (hk : sg_k3 (sg_Rv p l e R s m args below meth c Q P shM 35 A cX12_putAside) (fun x => sg_Wt p l e R s m args below meth c Q P shM 35 A 2 2 x.1 [(0, .ref (sgA P 0)), (1, .int x.2)]) (fun y => sg_Wt p l e R s m args below meth c Q P shM 35 A 2 26 y []) st) : W p l e R s m args below meth c H locs 0 0 Q (F0 m 2 ls []) := by
  unfold f_X12_putAside_L2 at h
  have hx := X.1.1
  have hb := X.1.2.1
  have hown := X.1.2.2.2.1
  have hts := X.1.2.2.2.2
  refine lv_iload_n hx hb dX12_putAside_2 rfl (lv_at hl 1 rfl) ?_
  refine lv_bipush (v := 34) hx hb dX12_putAside_3 (by decide) ?_
  refine lv_icmp_ge (tgt := 26) hx hb dX12_putAside_5 (by decide) (fun z => ?_) (fun z => ?_)
  · have h := sg_ift h z
    obtain rfl := Option.some.inj h
    exact sg_go hk I (lv_sub hl [] rfl)
  · have h := sg_iff h z
    refine lv_aload_n hx hb dX12_putAside_8 rfl (lv_at hl 0 rfl) ?_
    refine sg_getr X I fk_X12_98 (j := 28) (by decide) shM_0 rfl dX12_putAside_9 ?_
    refine lv_iload_n hx hb dX12_putAside_12 rfl (lv_at hl 1 rfl) ?_
    refine lv_aload_n hx hb dX12_putAside_13 rfl (lv_at hl 0 rfl) ?_
    refine sg_getr X I fk_X12_70 (j := 21) (by decide) shM_0 rfl dX12_putAside_14 ?_
    refine lv_iload_n hx hb dX12_putAside_17 rfl (lv_at hl 1 rfl) ?_
    refine sg_iald X I (by decide) shM_21 h dX12_putAside_18 (fun v1 h => ?_)
    refine sg_iast X I (by decide) shM_28 h dX12_putAside_19 (fun s2 H locs h I => ?_)
    refine lv_iinc (v := x1 + 1) (lv' := [(1, .int (x1 + 1)), (0, .ref (sgA P 0))]) hx hb dX12_putAside_20 hl (k := 1) rfl rfl (by decide) rfl (fun ls hl => ?_)
    refine lv_goto (tgt := 2) hx hb dX12_putAside_23 (by decide) ?_
    obtain rfl := Option.some.inj h
    exact sg_go hk I (lv_sub hl [1, 0] rfl)
def f_X12_putAside (N : Nat) (σ : sgS) : Option (Int32 × sgS) :=
  sg_lb (sg_lp (fun x => f_X12_putAside_L2 N x.2 x.1) N ((σ, 0))) (fun r => some r) fun y3 =>
some (0, y3)
set_option maxHeartbeats 4000000 in
set_option maxRecDepth 100000 in
theorem b_X12_putAside {p : Program} {l : Launch} {e : Env} {R : Room} {s : State} {m : MethodId} {args : Array Value} {below : List Frame} {meth : Method} {c : Code} {Q : State → Prop} {P : sgP} {A : Nat → Prop} {N : Nat} {σ : sgS} (X : sg_C P A 1 p R s m args c cX12_putAside 2 RX12) {H : Heap} {locs : List Loc} (I : sg_I P shM 35 A s.heap σ H locs) {ls : Array Slot} (hl : lv_has ls 2 [(0, .ref (sgA P 0))]) {st : Int32 × sgS} (h : f_X12_putAside N σ = some st) (hk : sg_Rv p l e R s m args below meth c Q P shM 35 A cX12_putAside st) : W p l e R s m args below meth c H locs 0 0 Q (F0 m 0 ls []) := by
  unfold f_X12_putAside at h
  have hx := X.1.1
  have hb := X.1.2.1
  have hown := X.1.2.2.2.1
  have hts := X.1.2.2.2.2
  refine lv_iconst (v := 0) hx hb dX12_putAside_0 (by decide) ?_
  refine lv_istore_n (lv' := [(1, .int 0), (0, .ref (sgA P 0))]) hx hb dX12_putAside_1 rfl hl (by decide) rfl (fun ls hl => ?_)
  obtain ⟨res, e9, k9⟩ := sg_lb_some h
  refine sg_go (sg_lp_W (a := (sg_Rv p l e R s m args below meth c Q P shM 35 A cX12_putAside)) (w := (fun x => sg_Wt p l e R s m args below meth c Q P shM 35 A 2 2 x.1 [(0, .ref (sgA P 0)), (1, .int x.2)])) (c := (fun y => sg_Wt p l e R s m args below meth c Q P shM 35 A 2 26 y [])) (fun x st hb9 hk9 => ?_) N ((σ, 0)) res e9 (sg_k2_mono k9 (fun r h => ?_) (fun y3 h => ?_))) I (lv_sub hl [1, 0] rfl)
  · intro H locs ls I hl
    exact b_X12_putAside_L2 X I hl hb9 hk9
  · obtain rfl := Option.some.inj h
    exact hk
  · intro H locs ls I hl
    obtain rfl := Option.some.inj h
    exact hk _ _ _ _ I dX12_putAside_26
set_option maxHeartbeats 4000000 in
set_option maxRecDepth 100000 in
theorem c_X12_putAside {l : Launch} {P : sgP} {N : Nat} {σ : sgS} {q : Int32 × sgS} (h : f_X12_putAside N σ = some q) : sg_Mv P shM 35 l yX12_putAside cX12_putAside 2 none 1 [.ref (sgA P 0)] σ q := by
  refine sg_mkv (plainFor_of_name (by decide +kernel)) (Nat.le_of_ble_eq_true rfl) ?_
  intro p e R s m args below meth c Q A ls H locs X I hl hk
  exact b_X12_putAside X I hl h hk
def f_X12_takeBack_L2 (N : Nat) (x1 : Int32) (σ : sgS) : Option ((Int32 × sgS) ⊕ ((sgS × Int32) ⊕ (sgS))) :=
  if 34 ≤ x1 then
  (some (.inr (.inr σ)))
else
  (sg_ld σ 28 34 x1 fun v1 =>
  sg_st σ 21 215 x1 v1 fun s2 =>
  some (.inr (.inl (s2, x1 + 1))))
set_option maxHeartbeats 4000000 in
set_option maxRecDepth 100000 in
theorem b_X12_takeBack_L2 {p : Program} {l : Launch} {e : Env} {R : Room} {s : State} {m : MethodId} {args : Array Value} {below : List Frame} {meth : Method} {c : Code} {Q : State → Prop} {P : sgP} {A : Nat → Prop} {N : Nat} {x1 : Int32} {σ : sgS} (X : sg_C P A 1 p R s m args c cX12_takeBack 2 RX12) {H : Heap} {locs : List Loc} (I : sg_I P shM 35 A s.heap σ H locs) {ls : Array Slot} (hl : lv_has ls 2 [(0, .ref (sgA P 0)), (1, .int x1)]) {st : (Int32 × sgS) ⊕ ((sgS × Int32) ⊕ (sgS))} (h : f_X12_takeBack_L2 N x1 σ = some st) (hk : sg_k3 (sg_Rv p l e R s m args below meth c Q P shM 35 A cX12_takeBack) (fun x => sg_Wt p l e R s m args below meth c Q P shM 35 A 2 2 x.1 [(0, .ref (sgA P 0)), (1, .int x.2)]) (fun y => sg_Wt p l e R s m args below meth c Q P shM 35 A 2 26 y []) st) : W p l e R s m args below meth c H locs 0 0 Q (F0 m 2 ls []) := by
  unfold f_X12_takeBack_L2 at h
  have hx := X.1.1
  have hb := X.1.2.1
  have hown := X.1.2.2.2.1
  have hts := X.1.2.2.2.2
  refine lv_iload_n hx hb dX12_takeBack_2 rfl (lv_at hl 1 rfl) ?_
  refine lv_bipush (v := 34) hx hb dX12_takeBack_3 (by decide) ?_
  refine lv_icmp_ge (tgt := 26) hx hb dX12_takeBack_5 (by decide) (fun z => ?_) (fun z => ?_)
  · have h := sg_ift h z
    obtain rfl := Option.some.inj h
    exact sg_go hk I (lv_sub hl [] rfl)
  · have h := sg_iff h z
    refine lv_aload_n hx hb dX12_takeBack_8 rfl (lv_at hl 0 rfl) ?_
    refine sg_getr X I fk_X12_70 (j := 21) (by decide) shM_0 rfl dX12_takeBack_9 ?_
    refine lv_iload_n hx hb dX12_takeBack_12 rfl (lv_at hl 1 rfl) ?_
    refine lv_aload_n hx hb dX12_takeBack_13 rfl (lv_at hl 0 rfl) ?_
    refine sg_getr X I fk_X12_98 (j := 28) (by decide) shM_0 rfl dX12_takeBack_14 ?_
    refine lv_iload_n hx hb dX12_takeBack_17 rfl (lv_at hl 1 rfl) ?_
    refine sg_iald X I (by decide) shM_28 h dX12_takeBack_18 (fun v1 h => ?_)
    refine sg_iast X I (by decide) shM_21 h dX12_takeBack_19 (fun s2 H locs h I => ?_)
    refine lv_iinc (v := x1 + 1) (lv' := [(1, .int (x1 + 1)), (0, .ref (sgA P 0))]) hx hb dX12_takeBack_20 hl (k := 1) rfl rfl (by decide) rfl (fun ls hl => ?_)
    refine lv_goto (tgt := 2) hx hb dX12_takeBack_23 (by decide) ?_
    obtain rfl := Option.some.inj h
    exact sg_go hk I (lv_sub hl [1, 0] rfl)
def f_X12_takeBack (N : Nat) (σ : sgS) : Option (Int32 × sgS) :=
  sg_lb (sg_lp (fun x => f_X12_takeBack_L2 N x.2 x.1) N ((σ, 0))) (fun r => some r) fun y3 =>
some (0, y3)
set_option maxHeartbeats 4000000 in
set_option maxRecDepth 100000 in
theorem b_X12_takeBack {p : Program} {l : Launch} {e : Env} {R : Room} {s : State} {m : MethodId} {args : Array Value} {below : List Frame} {meth : Method} {c : Code} {Q : State → Prop} {P : sgP} {A : Nat → Prop} {N : Nat} {σ : sgS} (X : sg_C P A 1 p R s m args c cX12_takeBack 2 RX12) {H : Heap} {locs : List Loc} (I : sg_I P shM 35 A s.heap σ H locs) {ls : Array Slot} (hl : lv_has ls 2 [(0, .ref (sgA P 0))]) {st : Int32 × sgS} (h : f_X12_takeBack N σ = some st) (hk : sg_Rv p l e R s m args below meth c Q P shM 35 A cX12_takeBack st) : W p l e R s m args below meth c H locs 0 0 Q (F0 m 0 ls []) := by
  unfold f_X12_takeBack at h
  have hx := X.1.1
  have hb := X.1.2.1
  have hown := X.1.2.2.2.1
  have hts := X.1.2.2.2.2
  refine lv_iconst (v := 0) hx hb dX12_takeBack_0 (by decide) ?_
  refine lv_istore_n (lv' := [(1, .int 0), (0, .ref (sgA P 0))]) hx hb dX12_takeBack_1 rfl hl (by decide) rfl (fun ls hl => ?_)
  obtain ⟨res, e9, k9⟩ := sg_lb_some h
  refine sg_go (sg_lp_W (a := (sg_Rv p l e R s m args below meth c Q P shM 35 A cX12_takeBack)) (w := (fun x => sg_Wt p l e R s m args below meth c Q P shM 35 A 2 2 x.1 [(0, .ref (sgA P 0)), (1, .int x.2)])) (c := (fun y => sg_Wt p l e R s m args below meth c Q P shM 35 A 2 26 y [])) (fun x st hb9 hk9 => ?_) N ((σ, 0)) res e9 (sg_k2_mono k9 (fun r h => ?_) (fun y3 h => ?_))) I (lv_sub hl [1, 0] rfl)
  · intro H locs ls I hl
    exact b_X12_takeBack_L2 X I hl hb9 hk9
  · obtain rfl := Option.some.inj h
    exact hk
  · intro H locs ls I hl
    obtain rfl := Option.some.inj h
    exact hk _ _ _ _ I dX12_takeBack_26
set_option maxHeartbeats 4000000 in
set_option maxRecDepth 100000 in
theorem c_X12_takeBack {l : Launch} {P : sgP} {N : Nat} {σ : sgS} {q : Int32 × sgS} (h : f_X12_takeBack N σ = some q) : sg_Mv P shM 35 l yX12_takeBack cX12_takeBack 2 none 1 [.ref (sgA P 0)] σ q := by
  refine sg_mkv (plainFor_of_name (by decide +kernel)) (Nat.le_of_ble_eq_true rfl) ?_
  intro p e R s m args below meth c Q A ls H locs X I hl hk
  exact b_X12_takeBack X I hl h hk
def f_X12_where_L26 (N : Nat) (p1 : Int32) (p2 : Int32) (x3 : Int32) (σ : sgS) : Option ((Int32 × sgS) ⊕ ((sgS × Int32) ⊕ (sgS))) :=
  if p2 ≤ x3 then
  (some (.inr (.inr σ)))
else
  (sg_cl (f_X12_live N σ) fun v5 s6 =>
  some (.inr (.inl (s6, x3 + 1))))
set_option maxHeartbeats 4000000 in
set_option maxRecDepth 100000 in
theorem b_X12_where_L26 {p : Program} {l : Launch} {e : Env} {R : Room} {s : State} {m : MethodId} {args : Array Value} {below : List Frame} {meth : Method} {c : Code} {Q : State → Prop} {P : sgP} {A : Nat → Prop} {N : Nat} {p1 : Int32} {p2 : Int32} {x3 : Int32} {σ : sgS} (X : sg_C P A 9 p R s m args c cX12_where 4 RX12) {H : Heap} {locs : List Loc} (I : sg_I P shM 35 A s.heap σ H locs) {ls : Array Slot} (hl : lv_has ls 4 [(0, .ref (sgA P 0)), (1, .int p1), (2, .int p2), (3, .int x3)]) {st : (Int32 × sgS) ⊕ ((sgS × Int32) ⊕ (sgS))} (h : f_X12_where_L26 N p1 p2 x3 σ = some st) (hk : sg_k3 (sg_Ri p l e R s m args below meth c Q P shM 35 A cX12_where (some .int)) (fun x => sg_Wt p l e R s m args below meth c Q P shM 35 A 4 26 x.1 [(0, .ref (sgA P 0)), (1, .int p1), (2, .int p2), (3, .int x.2)]) (fun y => sg_Wt p l e R s m args below meth c Q P shM 35 A 4 41 y [(0, .ref (sgA P 0)), (1, .int p1)]) st) : W p l e R s m args below meth c H locs 0 0 Q (F0 m 26 ls []) := by
  unfold f_X12_where_L26 at h
  have hx := X.1.1
  have hb := X.1.2.1
  have hown := X.1.2.2.2.1
  have hts := X.1.2.2.2.2
  refine lv_iload_n hx hb dX12_where_26 rfl (lv_at hl 3 rfl) ?_
  refine lv_iload_n hx hb dX12_where_27 rfl (lv_at hl 2 rfl) ?_
  refine lv_icmp_ge (tgt := 41) hx hb dX12_where_28 (by decide) (fun z => ?_) (fun z => ?_)
  · have h := sg_ift h z
    obtain rfl := Option.some.inj h
    exact sg_go hk I (lv_sub hl [0, 1] rfl)
  · have h := sg_iff h z
    refine lv_aload_n hx hb dX12_where_31 rfl (lv_at hl 0 rfl) ?_
    refine sg_callVv (As := []) X I mk_X12_361 (by decide) (by decide) shM_0 rfl (fun q9 e9 => c_X12_live e9) h hl.1 rfl rfl (Nat.le_of_ble_eq_true rfl) dX12_where_32 (fun v5 s6 H locs h I => ?_)
    refine lv_iinc (v := x3 + 1) (lv' := [(3, .int (x3 + 1)), (0, .ref (sgA P 0)), (1, .int p1), (2, .int p2)]) hx hb dX12_where_35 hl (k := 3) rfl rfl (by decide) rfl (fun ls hl => ?_)
    refine lv_goto (tgt := 26) hx hb dX12_where_38 (by decide) ?_
    obtain rfl := Option.some.inj h
    exact sg_go hk I (lv_sub hl [1, 2, 3, 0] rfl)
def f_X12_where (N : Nat) (p1 : Int32) (p2 : Int32) (σ : sgS) : Option (Int32 × sgS) :=
  sg_cr (f_X12_isSet N p1 σ) fun v1 =>
if v1 = 0 then
  (some ((-1), σ))
else
  (sg_cr (f_X12_in N p2 0 60 σ) fun v2 =>
  if v2 = 0 then
    (some ((-1), σ))
  else
    (sg_cl (f_X12_putAside N σ) fun v3 s4 =>
    sg_lb (sg_lp (fun x => f_X12_where_L26 N p1 p2 x.2 x.1) N ((s4, 0))) (fun r => some r) fun y7 =>
    sg_ld y7 21 215 (0 + p1) fun v8 =>
    sg_cl (f_X12_takeBack N y7) fun v9 s10 =>
    some (v8, s10)))
set_option maxHeartbeats 4000000 in
set_option maxRecDepth 100000 in
theorem b_X12_where {p : Program} {l : Launch} {e : Env} {R : Room} {s : State} {m : MethodId} {args : Array Value} {below : List Frame} {meth : Method} {c : Code} {Q : State → Prop} {P : sgP} {A : Nat → Prop} {N : Nat} {p1 : Int32} {p2 : Int32} {σ : sgS} (X : sg_C P A 9 p R s m args c cX12_where 4 RX12) {H : Heap} {locs : List Loc} (I : sg_I P shM 35 A s.heap σ H locs) {ls : Array Slot} (hl : lv_has ls 4 [(0, .ref (sgA P 0)), (1, .int p1), (2, .int p2)]) {st : Int32 × sgS} (h : f_X12_where N p1 p2 σ = some st) (hk : sg_Ri p l e R s m args below meth c Q P shM 35 A cX12_where (some .int) st) : W p l e R s m args below meth c H locs 0 0 Q (F0 m 0 ls []) := by
  unfold f_X12_where at h
  have hx := X.1.1
  have hb := X.1.2.1
  have hown := X.1.2.2.2.1
  have hts := X.1.2.2.2.2
  refine lv_aload_n hx hb dX12_where_0 rfl (lv_at hl 0 rfl) ?_
  refine lv_iload_n hx hb dX12_where_1 rfl (lv_at hl 1 rfl) ?_
  refine sg_callVr (As := [.int p1]) X I mk_X12_370 (by decide) (by decide) shM_0 rfl (fun q9 e9 => c_X12_isSet e9) h hl.1 rfl rfl (Nat.le_of_ble_eq_true rfl) dX12_where_2 (fun v1 H locs h I => ?_)
  refine lv_if_eq (tgt := 18) hx hb dX12_where_5 (by decide) (fun z => ?_) (fun z => ?_)
  · have h := sg_ift h z
    refine lv_iconst (v := -1) hx hb dX12_where_18 (by decide) ?_
    obtain rfl := Option.some.inj h
    exact hk _ _ _ _ _ I ⟨_, rfl, rfl⟩ dX12_where_19
  · have h := sg_iff h z
    refine lv_iload_n hx hb dX12_where_8 rfl (lv_at hl 2 rfl) ?_
    refine lv_iconst (v := 0) hx hb dX12_where_9 (by decide) ?_
    refine lv_bipush (v := 60) hx hb dX12_where_10 (by decide) ?_
    refine sg_callSr (As := [.int p2, .int 0, .int 60]) X I mk_X12_235 (by decide) (fun q9 e9 => c_X12_in e9) h hl.1 rfl rfl (Nat.le_of_ble_eq_true rfl) dX12_where_12 (fun v2 H locs h I => ?_)
    refine lv_if_ne (tgt := 20) hx hb dX12_where_15 (by decide) (fun z => ?_) (fun z => ?_)
    · have h := sg_iff h z
      refine lv_aload_n hx hb dX12_where_20 rfl (lv_at hl 0 rfl) ?_
      refine sg_callVv (As := []) X I mk_X12_431 (by decide) (by decide) shM_0 rfl (fun q9 e9 => c_X12_putAside e9) h hl.1 rfl rfl (Nat.le_of_ble_eq_true rfl) dX12_where_21 (fun v3 s4 H locs h I => ?_)
      refine lv_iconst (v := 0) hx hb dX12_where_24 (by decide) ?_
      refine lv_istore_n (lv' := [(3, .int 0), (0, .ref (sgA P 0)), (1, .int p1), (2, .int p2)]) hx hb dX12_where_25 rfl hl (by decide) rfl (fun ls hl => ?_)
      obtain ⟨res, e9, k9⟩ := sg_lb_some h
      refine sg_go (sg_lp_W (a := (sg_Ri p l e R s m args below meth c Q P shM 35 A cX12_where (some .int))) (w := (fun x => sg_Wt p l e R s m args below meth c Q P shM 35 A 4 26 x.1 [(0, .ref (sgA P 0)), (1, .int p1), (2, .int p2), (3, .int x.2)])) (c := (fun y => sg_Wt p l e R s m args below meth c Q P shM 35 A 4 41 y [(0, .ref (sgA P 0)), (1, .int p1)])) (fun x st hb9 hk9 => ?_) N ((s4, 0)) res e9 (sg_k2_mono k9 (fun r h => ?_) (fun y7 h => ?_))) I (lv_sub hl [1, 2, 3, 0] rfl)
      · intro H locs ls I hl
        exact b_X12_where_L26 X I hl hb9 hk9
      · obtain rfl := Option.some.inj h
        exact hk
      · intro H locs ls I hl
        refine lv_aload_n hx hb dX12_where_41 rfl (lv_at hl 0 rfl) ?_
        refine sg_getr X I fk_X12_70 (j := 21) (by decide) shM_0 rfl dX12_where_42 ?_
        refine lv_iconst (v := 0) hx hb dX12_where_45 (by decide) ?_
        refine lv_iload_n hx hb dX12_where_46 rfl (lv_at hl 1 rfl) ?_
        refine lv_iadd hx hb dX12_where_47 ?_
        refine sg_iald X I (by decide) shM_21 h dX12_where_48 (fun v8 h => ?_)
        refine lv_istore_n (lv' := [(3, .int v8), (0, .ref (sgA P 0)), (1, .int p1)]) hx hb dX12_where_49 rfl hl (by decide) rfl (fun ls hl => ?_)
        refine lv_aload_n hx hb dX12_where_50 rfl (lv_at hl 1 rfl) ?_
        refine sg_callVv (As := []) X I mk_X12_434 (by decide) (by decide) shM_0 rfl (fun q9 e9 => c_X12_takeBack e9) h hl.1 rfl rfl (Nat.le_of_ble_eq_true rfl) dX12_where_51 (fun v9 s10 H locs h I => ?_)
        refine lv_iload_n hx hb dX12_where_54 rfl (lv_at hl 0 rfl) ?_
        obtain rfl := Option.some.inj h
        exact hk _ _ _ _ _ I ⟨_, rfl, rfl⟩ dX12_where_55
    · have h := sg_ift h z
      refine lv_iconst (v := -1) hx hb dX12_where_18 (by decide) ?_
      obtain rfl := Option.some.inj h
      exact hk _ _ _ _ _ I ⟨_, rfl, rfl⟩ dX12_where_19
set_option maxHeartbeats 4000000 in
set_option maxRecDepth 100000 in
theorem c_X12_where {l : Launch} {P : sgP} {N : Nat} {p1 : Int32} {p2 : Int32} {σ : sgS} {q : Int32 × sgS} (h : f_X12_where N p1 p2 σ = some q) : sg_Mi P shM 35 l yX12_where cX12_where 4 (some .int) 9 [.ref (sgA P 0), .int p1, .int p2] σ q := by
  refine sg_mki (plainFor_of_name (by decide +kernel)) (Nat.le_of_ble_eq_true rfl) ?_
  intro p e R s m args below meth c Q A ls H locs X I hl hk
  exact b_X12_where X I hl h hk
