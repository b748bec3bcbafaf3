def f_X11_fault (N : Nat) (p1 : Int32) (σ : sgS) : Option (Int32 × sgS) :=
  if p1 < 0 then
  (some ((-2), σ))
else
  (if p1 ≤ 2 then
    (sg_cl (f_X11_reads N p1 σ) fun v1 s2 =>
    if v1 = 0 then
      (some (s2.1 1 2, s2))
    else
      (some ((-1), s2)))
  else
    (some ((-2), σ)))
set_option maxHeartbeats 4000000 in
set_option maxRecDepth 100000 in
theorem b_X11_fault {p : Program} {l : Launch} {e : Env} {R : Room} {s : State} {m : MethodId} {args : Array Value} {below : List Frame} {meth : Method} {c : Code} {Q : State → Prop} {P : sgP} {A : Nat → Prop} {N : Nat} {p1 : Int32} {σ : sgS} (X : sg_C P A 294 p R s m args c cX11_fault 2 RX11) {H : Heap} {locs : List Loc} (I : sg_I P shC 332 A s.heap σ H locs) {ls : Array Slot} (hl : lv_has ls 2 [(0, .ref (sgA P 0)), (1, .int p1)]) {st : Int32 × sgS} (h : f_X11_fault N p1 σ = some st) (hk : sg_Ri p l e R s m args below meth c Q P shC 332 A cX11_fault (some .int) st) : W p l e R s m args below meth c H locs 0 0 Q (F0 m 0 ls []) := by
  unfold f_X11_fault at h
  have hx := X.1.1
  have hb := X.1.2.1
  have hown := X.1.2.2.2.1
  have hts := X.1.2.2.2.2
  refine lv_iload_n hx hb dX11_fault_0 rfl (lv_at hl 1 rfl) ?_
  refine lv_if_lt (tgt := 9) hx hb dX11_fault_1 (by decide) (fun z => ?_) (fun z => ?_)
  · have h := sg_ift h z
    refine lv_bipush (v := -2) hx hb dX11_fault_9 (by decide) ?_
    obtain rfl := Option.some.inj h
    exact hk _ _ _ _ _ I ⟨_, rfl, rfl⟩ dX11_fault_11
  · have h := sg_iff h z
    refine lv_iload_n hx hb dX11_fault_4 rfl (lv_at hl 1 rfl) ?_
    refine lv_iconst (v := 2) hx hb dX11_fault_5 (by decide) ?_
    refine lv_icmp_le (tgt := 12) hx hb dX11_fault_6 (by decide) (fun z => ?_) (fun z => ?_)
    · have h := sg_ift h z
      refine lv_aload_n hx hb dX11_fault_12 rfl (lv_at hl 0 rfl) ?_
      refine lv_iload_n hx hb dX11_fault_13 rfl (lv_at hl 1 rfl) ?_
      refine sg_callV (As := [.int p1]) X I mk_X11_121 (by decide) (by decide) shC_0 rfl (fun q9 e9 => c_X11_reads e9) h hl.1 rfl rfl (Nat.le_of_ble_eq_true rfl) dX11_fault_14 (fun v1 s2 H locs h I => ?_)
      refine lv_if_eq (tgt := 24) hx hb dX11_fault_17 (by decide) (fun z => ?_) (fun z => ?_)
      · have h := sg_ift h z
        refine lv_aload_n hx hb dX11_fault_24 rfl (lv_at hl 0 rfl) ?_
        refine sg_getr X I fk_X11_10 (j := 1) (by decide) shC_0 rfl dX11_fault_25 ?_
        refine sg_getiN X I fn_X11_125 (by decide) shC_1 rfl dX11_fault_28 ?_
        obtain rfl := Option.some.inj h
        exact hk _ _ _ _ _ I ⟨_, rfl, rfl⟩ dX11_fault_31
      · have h := sg_iff h z
        refine lv_iconst (v := -1) hx hb dX11_fault_20 (by decide) ?_
        refine lv_goto (tgt := 31) hx hb dX11_fault_21 (by decide) ?_
        obtain rfl := Option.some.inj h
        exact hk _ _ _ _ _ I ⟨_, rfl, rfl⟩ dX11_fault_31
    · have h := sg_iff h z
      refine lv_bipush (v := -2) hx hb dX11_fault_9 (by decide) ?_
      obtain rfl := Option.some.inj h
      exact hk _ _ _ _ _ I ⟨_, rfl, rfl⟩ dX11_fault_11
set_option maxHeartbeats 4000000 in
set_option maxRecDepth 100000 in
theorem c_X11_fault {l : Launch} {P : sgP} {N : Nat} {p1 : Int32} {σ : sgS} {q : Int32 × sgS} (h : f_X11_fault N p1 σ = some q) : sg_Mi P shC 332 l yX11_fault cX11_fault 2 (some .int) 294 [.ref (sgA P 0), .int p1] σ q := by
  refine sg_mki (plainFor_of_name (by decide +kernel)) (Nat.le_of_ble_eq_true rfl) ?_
  intro p e R s m args below meth c Q A ls H locs X I hl hk
  exact b_X11_fault X I hl h hk
def f_X11_hasRoomFor (N : Nat) (p1 : Int32) (σ : sgS) : Option (Int32) :=
  if p1 = 1 then
  (if 4 ≤ (σ.1 21 4) then
    (some (vp_nar .boolean 0))
  else
    (some (vp_nar .boolean 1)))
else
  (if p1 = 2 then
    (if 4 ≤ (σ.1 29 4) then
      (some (vp_nar .boolean 0))
    else
      (some (vp_nar .boolean 1)))
  else
    (some (vp_nar .boolean 1)))
set_option maxHeartbeats 4000000 in
set_option maxRecDepth 100000 in
theorem b_X11_hasRoomFor {p : Program} {l : Launch} {e : Env} {R : Room} {s : State} {m : MethodId} {args : Array Value} {below : List Frame} {meth : Method} {c : Code} {Q : State → Prop} {P : sgP} {A : Nat → Prop} {N : Nat} {p1 : Int32} {σ : sgS} (X : sg_C P A 1 p R s m args c cX11_hasRoomFor 2 RX11) {H : Heap} {locs : List Loc} (I : sg_I P shC 332 A s.heap σ H locs) {ls : Array Slot} (hl : lv_has ls 2 [(0, .ref (sgA P 0)), (1, .int p1)]) {st : Int32} (h : f_X11_hasRoomFor N p1 σ = some st) (hk : sg_Ri p l e R s m args below meth c Q P shC 332 A cX11_hasRoomFor (some .boolean) (st, σ)) : W p l e R s m args below meth c H locs 0 0 Q (F0 m 0 ls []) := by
  unfold f_X11_hasRoomFor at h
  have hx := X.1.1
  have hb := X.1.2.1
  have hown := X.1.2.2.2.1
  have hts := X.1.2.2.2.2
  refine lv_iload_n hx hb dX11_hasRoomFor_0 rfl (lv_at hl 1 rfl) ?_
  refine lv_iconst (v := 1) hx hb dX11_hasRoomFor_1 (by decide) ?_
  refine lv_icmp_ne (tgt := 22) hx hb dX11_hasRoomFor_2 (by decide) (fun z => ?_) (fun z => ?_)
  · have h := sg_iff h z
    refine lv_iload_n hx hb dX11_hasRoomFor_22 rfl (lv_at hl 1 rfl) ?_
    refine lv_iconst (v := 2) hx hb dX11_hasRoomFor_23 (by decide) ?_
    refine lv_icmp_ne (tgt := 38) hx hb dX11_hasRoomFor_24 (by decide) (fun z => ?_) (fun z => ?_)
    · have h := sg_iff h z
      refine lv_iconst (v := 1) hx hb dX11_hasRoomFor_38 (by decide) ?_
      refine lv_goto (tgt := 43) hx hb dX11_hasRoomFor_39 (by decide) ?_
      obtain rfl := Option.some.inj h
      exact hk _ _ _ _ _ I ⟨_, rfl, rfl⟩ dX11_hasRoomFor_43
    · have h := sg_ift h z
      refine lv_aload_n hx hb dX11_hasRoomFor_27 rfl (lv_at hl 0 rfl) ?_
      refine sg_getr X I fk_X11_45 (j := 29) (by decide) shC_0 rfl dX11_hasRoomFor_28 ?_
      refine sg_getiN X I fn_X11_157 (by decide) shC_29 rfl dX11_hasRoomFor_31 ?_
      refine lv_iconst (v := 4) hx hb dX11_hasRoomFor_34 (by decide) ?_
      refine lv_icmp_ge (tgt := 42) hx hb dX11_hasRoomFor_35 (by decide) (fun z => ?_) (fun z => ?_)
      · have h := sg_ift h z
        refine lv_iconst (v := 0) hx hb dX11_hasRoomFor_42 (by decide) ?_
        obtain rfl := Option.some.inj h
        exact hk _ _ _ _ _ I ⟨_, rfl, rfl⟩ dX11_hasRoomFor_43
      · have h := sg_iff h z
        refine lv_iconst (v := 1) hx hb dX11_hasRoomFor_38 (by decide) ?_
        refine lv_goto (tgt := 43) hx hb dX11_hasRoomFor_39 (by decide) ?_
        obtain rfl := Option.some.inj h
        exact hk _ _ _ _ _ I ⟨_, rfl, rfl⟩ dX11_hasRoomFor_43
  · have h := sg_ift h z
    refine lv_aload_n hx hb dX11_hasRoomFor_5 rfl (lv_at hl 0 rfl) ?_
    refine sg_getr X I fk_X11_38 (j := 21) (by decide) shC_0 rfl dX11_hasRoomFor_6 ?_
    refine sg_getiN X I fn_X11_154 (by decide) shC_21 rfl dX11_hasRoomFor_9 ?_
    refine lv_iconst (v := 4) hx hb dX11_hasRoomFor_12 (by decide) ?_
    refine lv_icmp_ge (tgt := 20) hx hb dX11_hasRoomFor_13 (by decide) (fun z => ?_) (fun z => ?_)
    · have h := sg_ift h z
      refine lv_iconst (v := 0) hx hb dX11_hasRoomFor_20 (by decide) ?_
      obtain rfl := Option.some.inj h
      exact hk _ _ _ _ _ I ⟨_, rfl, rfl⟩ dX11_hasRoomFor_21
    · have h := sg_iff h z
      refine lv_iconst (v := 1) hx hb dX11_hasRoomFor_16 (by decide) ?_
      refine lv_goto (tgt := 21) hx hb dX11_hasRoomFor_17 (by decide) ?_
      obtain rfl := Option.some.inj h
      exact hk _ _ _ _ _ I ⟨_, rfl, rfl⟩ dX11_hasRoomFor_21
set_option maxHeartbeats 4000000 in
set_option maxRecDepth 100000 in
theorem c_X11_hasRoomFor {l : Launch} {P : sgP} {N : Nat} {p1 : Int32} {σ : sgS} {q : Int32} (h : f_X11_hasRoomFor N p1 σ = some q) : sg_Mi P shC 332 l yX11_hasRoomFor cX11_hasRoomFor 2 (some .boolean) 1 [.ref (sgA P 0), .int p1] σ (q, σ) := by
  refine sg_mki (plainFor_of_name (by decide +kernel)) (Nat.le_of_ble_eq_true rfl) ?_
  intro p e R s m args below meth c Q A ls H locs X I hl hk
  exact b_X11_hasRoomFor X I hl h hk
def f_X11_beginCounty (N : Nat) (σ : sgS) : Option (Int32 × sgS) :=
  sg_cl (f_X0_copyFrom N 3 11 σ) fun v1 s2 =>
sg_cl (f_X8_begin N 37 3 s2) fun v3 s4 =>
sg_cl (f_X6_forget N s4) fun v5 s6 =>
sg_pf s6 320 9 0 fun s7 =>
some (s7.1 3 3, s7)
set_option maxHeartbeats 4000000 in
set_option maxRecDepth 100000 in
theorem b_X11_beginCounty {p : Program} {l : Launch} {e : Env} {R : Room} {s : State} {m : MethodId} {args : Array Value} {below : List Frame} {meth : Method} {c : Code} {Q : State → Prop} {P : sgP} {A : Nat → Prop} {N : Nat} {σ : sgS} (X : sg_C P A 3 p R s m args c cX11_beginCounty 1 RX11) {H : Heap} {locs : List Loc} (I : sg_I P shC 332 A s.heap σ H locs) {ls : Array Slot} (hl : lv_has ls 1 [(0, .ref (sgA P 0))]) {st : Int32 × sgS} (h : f_X11_beginCounty N σ = some st) (hk : sg_Ri p l e R s m args below meth c Q P shC 332 A cX11_beginCounty (some .int) st) : W p l e R s m args below meth c H locs 0 0 Q (F0 m 0 ls []) := by
  unfold f_X11_beginCounty at h
  have hx := X.1.1
  have hb := X.1.2.1
  have hown := X.1.2.2.2.1
  have hts := X.1.2.2.2.2
  refine lv_aload_n hx hb dX11_beginCounty_0 rfl (lv_at hl 0 rfl) ?_
  refine sg_getr X I fk_X11_19 (j := 3) (by decide) shC_0 rfl dX11_beginCounty_1 ?_
  refine lv_aload_n hx hb dX11_beginCounty_4 rfl (lv_at hl 0 rfl) ?_
  refine sg_getr X I fk_X11_23 (j := 11) (by decide) shC_0 rfl dX11_beginCounty_5 ?_
  refine sg_callVv (As := [.ref (sgA P 11)]) X I mk_X11_158 (by decide) (by decide) shC_3 rfl (fun q9 e9 => c_X0_copyFrom isCo_3 isCo_11 e9) h hl.1 rfl rfl (Nat.le_of_ble_eq_true rfl) dX11_beginCounty_8 (fun v1 s2 H locs h I => ?_)
  refine lv_aload_n hx hb dX11_beginCounty_11 rfl (lv_at hl 0 rfl) ?_
  refine sg_getr X I fk_X11_52 (j := 37) (by decide) shC_0 rfl dX11_beginCounty_12 ?_
  refine lv_aload_n hx hb dX11_beginCounty_15 rfl (lv_at hl 0 rfl) ?_
  refine sg_getr X I fk_X11_19 (j := 3) (by decide) shC_0 rfl dX11_beginCounty_16 ?_
  refine sg_callVv (As := [.ref (sgA P 3)]) X I mk_X11_162 (by decide) (isSt_i0 isSt_37) (isSt_s0 isSt_37) rfl (fun q9 e9 => c_X8_begin isSt_37 isCo_3 e9) h hl.1 rfl rfl (Nat.le_of_ble_eq_true rfl) dX11_beginCounty_19 (fun v3 s4 H locs h I => ?_)
  refine lv_aload_n hx hb dX11_beginCounty_22 rfl (lv_at hl 0 rfl) ?_
  refine sg_getr X I fk_X11_71 (j := 52) (by decide) shC_0 rfl dX11_beginCounty_23 ?_
  refine sg_callVv (As := []) X I mk_X11_165 (by decide) (by decide) shC_52 rfl (fun q9 e9 => c_X6_forget e9) h hl.1 rfl rfl (Nat.le_of_ble_eq_true rfl) dX11_beginCounty_26 (fun v5 s6 H locs h I => ?_)
  refine lv_aload_n hx hb dX11_beginCounty_29 rfl (lv_at hl 0 rfl) ?_
  refine sg_getr X I fk_X11_89 (j := 320) (by decide) shC_0 rfl dX11_beginCounty_30 ?_
  refine lv_iconst (v := 0) hx hb dX11_beginCounty_33 (by decide) ?_
  refine sg_putiN X I fn_X11_168 wk_7_9 rfl rfl (by decide) shC_320 rfl h dX11_beginCounty_34 (fun s7 H locs h I => ?_)
  refine lv_aload_n hx hb dX11_beginCounty_37 rfl (lv_at hl 0 rfl) ?_
  refine sg_getr X I fk_X11_19 (j := 3) (by decide) shC_0 rfl dX11_beginCounty_38 ?_
  refine sg_getiN X I fn_X11_169 (by decide) shC_3 rfl dX11_beginCounty_41 ?_
  obtain rfl := Option.some.inj h
  exact hk _ _ _ _ _ I ⟨_, rfl, rfl⟩ dX11_beginCounty_44
set_option maxHeartbeats 4000000 in
set_option maxRecDepth 100000 in
theorem c_X11_beginCounty {l : Launch} {P : sgP} {N : Nat} {σ : sgS} {q : Int32 × sgS} (h : f_X11_beginCounty N σ = some q) : sg_Mi P shC 332 l yX11_beginCounty cX11_beginCounty 1 (some .int) 3 [.ref (sgA P 0)] σ q := by
  refine sg_mki (plainFor_of_name (by decide +kernel)) (Nat.le_of_ble_eq_true rfl) ?_
  intro p e R s m args below meth c Q A ls H locs X I hl hk
  exact b_X11_beginCounty X I hl h hk
def f_X11_text (N : Nat) (p1 : Int32) (σ : sgS) : Option (Int32 × sgS) :=
  sg_cl (f_X11_reads N p1 σ) fun v1 s2 =>
if v1 = 0 then
  (some ((-1), s2))
else
  (sg_cr (f_X11_hasRoomFor N p1 s2) fun v3 =>
  if v3 = 0 then
    (some ((-1), s2))
  else
    (sg_pf s2 1 1 0 fun s4 =>
    if p1 = 1 then
      (sg_cl (f_X4_keep N 20 240 (s4.1 19 2) s4) fun v9 s10 =>
      some (v9, s10))
    else
      (if p1 = 2 then
        (sg_cl (f_X10_keep N s4) fun v7 s8 =>
        some (v7, s8))
      else
        (sg_cl (f_X11_beginCounty N s4) fun v5 s6 =>
        some (v5, s6)))))
set_option maxHeartbeats 4000000 in
set_option maxRecDepth 100000 in
theorem b_X11_text {p : Program} {l : Launch} {e : Env} {R : Room} {s : State} {m : MethodId} {args : Array Value} {below : List Frame} {meth : Method} {c : Code} {Q : State → Prop} {P : sgP} {A : Nat → Prop} {N : Nat} {p1 : Int32} {σ : sgS} (X : sg_C P A 294 p R s m args c cX11_text 2 RX11) {H : Heap} {locs : List Loc} (I : sg_I P shC 332 A s.heap σ H locs) {ls : Array Slot} (hl : lv_has ls 2 [(0, .ref (sgA P 0)), (1, .int p1)]) {st : Int32 × sgS} (h : f_X11_text N p1 σ = some st) (hk : sg_Ri p l e R s m args below meth c Q P shC 332 A cX11_text (some .int) st) : W p l e R s m args below meth c H locs 0 0 Q (F0 m 0 ls []) := by
  unfold f_X11_text at h
  have hx := X.1.1
  have hb := X.1.2.1
  have hown := X.1.2.2.2.1
  have hts := X.1.2.2.2.2
  refine lv_aload_n hx hb dX11_text_0 rfl (lv_at hl 0 rfl) ?_
  refine lv_iload_n hx hb dX11_text_1 rfl (lv_at hl 1 rfl) ?_
  refine sg_callV (As := [.int p1]) X I mk_X11_121 (by decide) (by decide) shC_0 rfl (fun q9 e9 => c_X11_reads e9) h hl.1 rfl rfl (Nat.le_of_ble_eq_true rfl) dX11_text_2 (fun v1 s2 H locs h I => ?_)
  refine lv_if_eq (tgt := 16) hx hb dX11_text_5 (by decide) (fun z => ?_) (fun z => ?_)
  · have h := sg_ift h z
    refine lv_iconst (v := -1) hx hb dX11_text_16 (by decide) ?_
    obtain rfl := Option.some.inj h
    exact hk _ _ _ _ _ I ⟨_, rfl, rfl⟩ dX11_text_17
  · have h := sg_iff h z
    refine lv_aload_n hx hb dX11_text_8 rfl (lv_at hl 0 rfl) ?_
    refine lv_iload_n hx hb dX11_text_9 rfl (lv_at hl 1 rfl) ?_
    refine sg_callVr (As := [.int p1]) X I mk_X11_137 (by decide) (by decide) shC_0 rfl (fun q9 e9 => c_X11_hasRoomFor e9) h hl.1 rfl rfl (Nat.le_of_ble_eq_true rfl) dX11_text_10 (fun v3 H locs h I => ?_)
    refine lv_if_ne (tgt := 18) hx hb dX11_text_13 (by decide) (fun z => ?_) (fun z => ?_)
    · have h := sg_iff h z
      refine lv_aload_n hx hb dX11_text_18 rfl (lv_at hl 0 rfl) ?_
      refine sg_getr X I fk_X11_10 (j := 1) (by decide) shC_0 rfl dX11_text_19 ?_
      refine lv_iconst (v := 0) hx hb dX11_text_22 (by decide) ?_
      refine sg_putiN X I fn_X11_114 wk_9_1 rfl rfl (by decide) shC_1 rfl h dX11_text_23 (fun s4 H locs h I => ?_)
      refine lv_iload_n hx hb dX11_text_26 rfl (lv_at hl 1 rfl) ?_
      refine lv_iconst (v := 1) hx hb dX11_text_27 (by decide) ?_
      refine lv_icmp_ne (tgt := 53) hx hb dX11_text_28 (by decide) (fun z => ?_) (fun z => ?_)
      · have h := sg_iff h z
        refine lv_iload_n hx hb dX11_text_53 rfl (lv_at hl 1 rfl) ?_
        refine lv_iconst (v := 2) hx hb dX11_text_54 (by decide) ?_
        refine lv_icmp_ne (tgt := 68) hx hb dX11_text_55 (by decide) (fun z => ?_) (fun z => ?_)
        · have h := sg_iff h z
          refine lv_aload_n hx hb dX11_text_68 rfl (lv_at hl 0 rfl) ?_
          refine sg_callV (As := []) X I mk_X11_151 (by decide) (by decide) shC_0 rfl (fun q9 e9 => c_X11_beginCounty e9) h hl.1 rfl rfl (Nat.le_of_ble_eq_true rfl) dX11_text_69 (fun v5 s6 H locs h I => ?_)
          obtain rfl := Option.some.inj h
          exact hk _ _ _ _ _ I ⟨_, rfl, rfl⟩ dX11_text_72
        · have h := sg_ift h z
          refine lv_aload_n hx hb dX11_text_58 rfl (lv_at hl 0 rfl) ?_
          refine sg_getr X I fk_X11_45 (j := 29) (by decide) shC_0 rfl dX11_text_59 ?_
          refine sg_callV (As := []) X I mk_X11_148 (by decide) (by decide) shC_29 rfl (fun q9 e9 => c_X10_keep e9) h hl.1 rfl rfl (Nat.le_of_ble_eq_true rfl) dX11_text_62 (fun v7 s8 H locs h I => ?_)
          refine lv_goto (tgt := 72) hx hb dX11_text_65 (by decide) ?_
          obtain rfl := Option.some.inj h
          exact hk _ _ _ _ _ I ⟨_, rfl, rfl⟩ dX11_text_72
      · have h := sg_ift h z
        refine lv_aload_n hx hb dX11_text_31 rfl (lv_at hl 0 rfl) ?_
        refine sg_getr X I fk_X11_38 (j := 21) (by decide) shC_0 rfl dX11_text_32 ?_
        refine lv_aload_n hx hb dX11_text_35 rfl (lv_at hl 0 rfl) ?_
        refine sg_getr X I fk_X11_31 (j := 19) (by decide) shC_0 rfl dX11_text_36 ?_
        refine sg_getrN X I fn_X11_140 (j := 20) (by decide) shC_19 rfl dX11_text_39 ?_
        refine lv_aload_n hx hb dX11_text_42 rfl (lv_at hl 0 rfl) ?_
        refine sg_getr X I fk_X11_31 (j := 19) (by decide) shC_0 rfl dX11_text_43 ?_
        refine sg_getiN X I fn_X11_143 (by decide) shC_19 rfl dX11_text_46 ?_
        refine sg_callV (As := [.ref (sgA P 20), .int (s4.1 19 2)]) X I mk_X11_144 (by decide) (by decide) shC_21 rfl (fun q9 e9 => c_X4_keep (by decide) shC_20 e9) h hl.1 rfl rfl (Nat.le_of_ble_eq_true rfl) dX11_text_49 (fun v9 s10 H locs h I => ?_)
        obtain rfl := Option.some.inj h
        exact hk _ _ _ _ _ I ⟨_, rfl, rfl⟩ dX11_text_52
    · have h := sg_ift h z
      refine lv_iconst (v := -1) hx hb dX11_text_16 (by decide) ?_
      obtain rfl := Option.some.inj h
      exact hk _ _ _ _ _ I ⟨_, rfl, rfl⟩ dX11_text_17
set_option maxHeartbeats 4000000 in
set_option maxRecDepth 100000 in
theorem c_X11_text {l : Launch} {P : sgP} {N : Nat} {p1 : Int32} {σ : sgS} {q : Int32 × sgS} (h : f_X11_text N p1 σ = some q) : sg_Mi P shC 332 l yX11_text cX11_text 2 (some .int) 294 [.ref (sgA P 0), .int p1] σ q := by
  refine sg_mki (plainFor_of_name (by decide +kernel)) (Nat.le_of_ble_eq_true rfl) ?_
  intro p e R s m args below meth c Q A ls H locs X I hl hk
  exact b_X11_text X I hl h hk
def f_X11_rule (N : Nat) (p1 : Int32) (σ : sgS) : Option (Int32) :=
  sg_cr (f_X0_isTold N 3 σ) fun v1 =>
if v1 = 0 then
  (some ((-1)))
else
  (if p1 = 0 then
    (some (σ.1 3 1))
  else
    (if p1 = 1 then
      (some (σ.1 37 6))
    else
      (some ((-1)))))
set_option maxHeartbeats 4000000 in
set_option maxRecDepth 100000 in
theorem b_X11_rule {p : Program} {l : Launch} {e : Env} {R : Room} {s : State} {m : MethodId} {args : Array Value} {below : List Frame} {meth : Method} {c : Code} {Q : State → Prop} {P : sgP} {A : Nat → Prop} {N : Nat} {p1 : Int32} {σ : sgS} (X : sg_C P A 2 p R s m args c cX11_rule 2 RX11) {H : Heap} {locs : List Loc} (I : sg_I P shC 332 A s.heap σ H locs) {ls : Array Slot} (hl : lv_has ls 2 [(0, .ref (sgA P 0)), (1, .int p1)]) {st : Int32} (h : f_X11_rule N p1 σ = some st) (hk : sg_Ri p l e R s m args below meth c Q P shC 332 A cX11_rule (some .int) (st, σ)) : W p l e R s m args below meth c H locs 0 0 Q (F0 m 0 ls []) := by
  unfold f_X11_rule at h
  have hx := X.1.1
  have hb := X.1.2.1
  have hown := X.1.2.2.2.1
  have hts := X.1.2.2.2.2
  refine lv_aload_n hx hb dX11_rule_0 rfl (lv_at hl 0 rfl) ?_
  refine sg_getr X I fk_X11_19 (j := 3) (by decide) shC_0 rfl dX11_rule_1 ?_
  refine sg_callVr (As := []) X I mk_X11_172 (by decide) (by decide) shC_3 rfl (fun q9 e9 => c_X0_isTold isCo_3 e9) h hl.1 rfl rfl (Nat.le_of_ble_eq_true rfl) dX11_rule_4 (fun v1 H locs h I => ?_)
  refine lv_if_ne (tgt := 12) hx hb dX11_rule_7 (by decide) (fun z => ?_) (fun z => ?_)
  · have h := sg_iff h z
    refine lv_iload_n hx hb dX11_rule_12 rfl (lv_at hl 1 rfl) ?_
    by_cases c0 : p1 = 0
    · have h := sg_ift h c0
      refine sg_lkIn (k := 0) (off := 27) (tgt := 40) hx hb dX11_rule_13 c0 (by decide +kernel) (by decide +kernel) (by decide) ?_
      refine lv_aload_n hx hb dX11_rule_40 rfl (lv_at hl 0 rfl) ?_
      refine sg_getr X I fk_X11_19 (j := 3) (by decide) shC_0 rfl dX11_rule_41 ?_
      refine sg_getiN X I fn_X11_175 (by decide) shC_3 rfl dX11_rule_44 ?_
      obtain rfl := Option.some.inj h
      exact hk _ _ _ _ _ I ⟨_, rfl, rfl⟩ dX11_rule_47
    have h := sg_iff h c0
    have i0 := sg_ine (z := 0) (by decide) c0
    by_cases c1 : p1 = 1
    · have h := sg_ift h c1
      refine sg_lkIn (k := 1) (off := 35) (tgt := 48) hx hb dX11_rule_13 c1 (by decide +kernel) (by decide +kernel) (by decide) ?_
      refine lv_aload_n hx hb dX11_rule_48 rfl (lv_at hl 0 rfl) ?_
      refine sg_getr X I fk_X11_52 (j := 37) (by decide) shC_0 rfl dX11_rule_49 ?_
      refine sg_getiN X I fn_X11_178 (isSt_i0 isSt_37) (isSt_s0 isSt_37) rfl dX11_rule_52 ?_
      obtain rfl := Option.some.inj h
      exact hk _ _ _ _ _ I ⟨_, rfl, rfl⟩ dX11_rule_55
    have h := sg_iff h c1
    have i1 := sg_ine (z := 1) (by decide) c1
    refine lv_lookup (off := 43) (tgt := 56) hx hb dX11_rule_13 (by decide +kernel) (by simp [Op.lookupswitch.offset, Ne.symm i0, i0, Ne.symm i1, i1]) (by decide) ?_
    refine lv_iconst (v := -1) hx hb dX11_rule_56 (by decide) ?_
    obtain rfl := Option.some.inj h
    exact hk _ _ _ _ _ I ⟨_, rfl, rfl⟩ dX11_rule_57
  · have h := sg_ift h z
    refine lv_iconst (v := -1) hx hb dX11_rule_10 (by decide) ?_
    obtain rfl := Option.some.inj h
    exact hk _ _ _ _ _ I ⟨_, rfl, rfl⟩ dX11_rule_11
set_option maxHeartbeats 4000000 in
set_option maxRecDepth 100000 in
theorem c_X11_rule {l : Launch} {P : sgP} {N : Nat} {p1 : Int32} {σ : sgS} {q : Int32} (h : f_X11_rule N p1 σ = some q) : sg_Mi P shC 332 l yX11_rule cX11_rule 2 (some .int) 2 [.ref (sgA P 0), .int p1] σ (q, σ) := by
  refine sg_mki (plainFor_of_name (by decide +kernel)) (Nat.le_of_ble_eq_true rfl) ?_
  intro p e R s m args below meth c Q A ls H locs X I hl hk
  exact b_X11_rule X I hl h hk
def f_X11_road (N : Nat) (p1 : Int32) (p2 : Int32) (σ : sgS) : Option (Int32 × sgS) :=
  sg_cr (f_X0_hasRoad N 3 p1 σ) fun v1 =>
if v1 = 0 then
  (some ((-1), σ))
else
  (if p2 = 0 then
    (sg_ld σ 5 12 p1 fun v2 =>
    some (v2, σ))
  else
    (if p2 = 1 then
      (sg_ld σ 6 12 p1 fun v3 =>
      some (v3, σ))
    else
      (if p2 = 2 then
        (sg_ld σ 7 12 p1 fun v4 =>
        some (v4, σ))
      else
        (if p2 = 3 then
          (sg_ld σ 8 12 p1 fun v5 =>
          some (v5, σ))
        else
          (if p2 = 4 then
            (sg_cl (f_X1_measure N 37 σ) fun v6 s7 =>
            sg_ld s7 51 12 p1 fun v8 =>
            some (v8, s7))
          else
            (if p2 = 5 then
              (sg_ld σ (37 + 4) 12 p1 fun v9 =>
              some (v9, σ))
            else
              (if p2 = 6 then
                (some (((σ.1 37 5) >>> (p1 &&& 31)) &&& 1, σ))
              else
                (some ((-1), σ)))))))))
set_option maxHeartbeats 4000000 in
set_option maxRecDepth 100000 in
theorem b_X11_road {p : Program} {l : Launch} {e : Env} {R : Room} {s : State} {m : MethodId} {args : Array Value} {below : List Frame} {meth : Method} {c : Code} {Q : State → Prop} {P : sgP} {A : Nat → Prop} {N : Nat} {p1 : Int32} {p2 : Int32} {σ : sgS} (X : sg_C P A 5 p R s m args c cX11_road 3 RX11) {H : Heap} {locs : List Loc} (I : sg_I P shC 332 A s.heap σ H locs) {ls : Array Slot} (hl : lv_has ls 3 [(0, .ref (sgA P 0)), (1, .int p1), (2, .int p2)]) {st : Int32 × sgS} (h : f_X11_road N p1 p2 σ = some st) (hk : sg_Ri p l e R s m args below meth c Q P shC 332 A cX11_road (some .int) st) : W p l e R s m args below meth c H locs 0 0 Q (F0 m 0 ls []) := by
  unfold f_X11_road at h
  have hx := X.1.1
  have hb := X.1.2.1
  have hown := X.1.2.2.2.1
  have hts := X.1.2.2.2.2
  refine lv_aload_n hx hb dX11_road_0 rfl (lv_at hl 0 rfl) ?_
  refine sg_getr X I fk_X11_19 (j := 3) (by decide) shC_0 rfl dX11_road_1 ?_
  refine lv_iload_n hx hb dX11_road_4 rfl (lv_at hl 1 rfl) ?_
  refine sg_callVr (As := [.int p1]) X I mk_X11_181 (by decide) (by decide) shC_3 rfl (fun q9 e9 => c_X0_hasRoad isCo_3 e9) h hl.1 rfl rfl (Nat.le_of_ble_eq_true rfl) dX11_road_5 (fun v1 H locs h I => ?_)
  refine lv_if_ne (tgt := 13) hx hb dX11_road_8 (by decide) (fun z => ?_) (fun z => ?_)
  · have h := sg_iff h z
    refine lv_iload_n hx hb dX11_road_13 rfl (lv_at hl 2 rfl) ?_
    by_cases c0 : p2 = 0
    · have h := sg_ift h c0
      refine sg_swIn (k := 0) (off := 42) (tgt := 56) hx hb dX11_road_14 c0 (by decide) (by decide) (by decide +kernel) (by decide) ?_
      refine lv_aload_n hx hb dX11_road_56 rfl (lv_at hl 0 rfl) ?_
      refine sg_getr X I fk_X11_19 (j := 3) (by decide) shC_0 rfl dX11_road_57 ?_
      refine sg_getrN X I fn_X11_184 (j := 5) (by decide) shC_3 rfl dX11_road_60 ?_
      refine lv_iload_n hx hb dX11_road_63 rfl (lv_at hl 1 rfl) ?_
      refine sg_iald X I (by decide) shC_5 h dX11_road_64 (fun v2 h => ?_)
      obtain rfl := Option.some.inj h
      exact hk _ _ _ _ _ I ⟨_, rfl, rfl⟩ dX11_road_65
    have h := sg_iff h c0
    have i0 := sg_ine (z := 0) (by decide) c0
    by_cases c1 : p2 = 1
    · have h := sg_ift h c1
      refine sg_swIn (k := 1) (off := 52) (tgt := 66) hx hb dX11_road_14 c1 (by decide) (by decide) (by decide +kernel) (by decide) ?_
      refine lv_aload_n hx hb dX11_road_66 rfl (lv_at hl 0 rfl) ?_
      refine sg_getr X I fk_X11_19 (j := 3) (by decide) shC_0 rfl dX11_road_67 ?_
      refine sg_getrN X I fn_X11_187 (j := 6) (by decide) shC_3 rfl dX11_road_70 ?_
      refine lv_iload_n hx hb dX11_road_73 rfl (lv_at hl 1 rfl) ?_
      refine sg_iald X I (by decide) shC_6 h dX11_road_74 (fun v3 h => ?_)
      obtain rfl := Option.some.inj h
      exact hk _ _ _ _ _ I ⟨_, rfl, rfl⟩ dX11_road_75
    have h := sg_iff h c1
    have i1 := sg_ine (z := 1) (by decide) c1
    by_cases c2 : p2 = 2
    · have h := sg_ift h c2
      refine sg_swIn (k := 2) (off := 62) (tgt := 76) hx hb dX11_road_14 c2 (by decide) (by decide) (by decide +kernel) (by decide) ?_
      refine lv_aload_n hx hb dX11_road_76 rfl (lv_at hl 0 rfl) ?_
      refine sg_getr X I fk_X11_19 (j := 3) (by decide) shC_0 rfl dX11_road_77 ?_
      refine sg_getrN X I fn_X11_190 (j := 7) (by decide) shC_3 rfl dX11_road_80 ?_
      refine lv_iload_n hx hb dX11_road_83 rfl (lv_at hl 1 rfl) ?_
      refine sg_iald X I (by decide) shC_7 h dX11_road_84 (fun v4 h => ?_)
      obtain rfl := Option.some.inj h
      exact hk _ _ _ _ _ I ⟨_, rfl, rfl⟩ dX11_road_85
    have h := sg_iff h c2
    have i2 := sg_ine (z := 2) (by decide) c2
    by_cases c3 : p2 = 3
    · have h := sg_ift h c3
      refine sg_swIn (k := 3) (off := 72) (tgt := 86) hx hb dX11_road_14 c3 (by decide) (by decide) (by decide +kernel) (by decide) ?_
      refine lv_aload_n hx hb dX11_road_86 rfl (lv_at hl 0 rfl) ?_
      refine sg_getr X I fk_X11_19 (j := 3) (by decide) shC_0 rfl dX11_road_87 ?_
      refine sg_getrN X I fn_X11_193 (j := 8) (by decide) shC_3 rfl dX11_road_90 ?_
      refine lv_iload_n hx hb dX11_road_93 rfl (lv_at hl 1 rfl) ?_
      refine sg_iald X I (by decide) shC_8 h dX11_road_94 (fun v5 h => ?_)
      obtain rfl := Option.some.inj h
      exact hk _ _ _ _ _ I ⟨_, rfl, rfl⟩ dX11_road_95
    have h := sg_iff h c3
    have i3 := sg_ine (z := 3) (by decide) c3
    by_cases c4 : p2 = 4
    · have h := sg_ift h c4
      refine sg_swIn (k := 4) (off := 82) (tgt := 96) hx hb dX11_road_14 c4 (by decide) (by decide) (by decide +kernel) (by decide) ?_
      refine lv_aload_n hx hb dX11_road_96 rfl (lv_at hl 0 rfl) ?_
      refine sg_getr X I fk_X11_64 (j := 49) (by decide) shC_0 rfl dX11_road_97 ?_
      refine lv_aload_n hx hb dX11_road_100 rfl (lv_at hl 0 rfl) ?_
      refine sg_getr X I fk_X11_52 (j := 37) (by decide) shC_0 rfl dX11_road_101 ?_
      refine sg_callVv (As := [.ref (sgA P 37)]) X I mk_X11_196 (by decide) (by decide) shC_49 rfl (fun q9 e9 => c_X1_measure isSt_37 e9) h hl.1 rfl rfl (Nat.le_of_ble_eq_true rfl) dX11_road_104 (fun v6 s7 H locs h I => ?_)
      refine lv_aload_n hx hb dX11_road_107 rfl (lv_at hl 0 rfl) ?_
      refine sg_getr X I fk_X11_64 (j := 49) (by decide) shC_0 rfl dX11_road_108 ?_
      refine sg_getrN X I fn_X11_200 (j := 51) (by decide) shC_49 rfl dX11_road_111 ?_
      refine lv_iload_n hx hb dX11_road_114 rfl (lv_at hl 1 rfl) ?_
      refine sg_iald X I (by decide) shC_51 h dX11_road_115 (fun v8 h => ?_)
      obtain rfl := Option.some.inj h
      exact hk _ _ _ _ _ I ⟨_, rfl, rfl⟩ dX11_road_116
    have h := sg_iff h c4
    have i4 := sg_ine (z := 4) (by decide) c4
    by_cases c5 : p2 = 5
    · have h := sg_ift h c5
      refine sg_swIn (k := 5) (off := 103) (tgt := 117) hx hb dX11_road_14 c5 (by decide) (by decide) (by decide +kernel) (by decide) ?_
      refine lv_aload_n hx hb dX11_road_117 rfl (lv_at hl 0 rfl) ?_
      refine sg_getr X I fk_X11_52 (j := 37) (by decide) shC_0 rfl dX11_road_118 ?_
      refine sg_getrN X I fn_X11_203 (j := 37 + 4) (isSt_i0 isSt_37) (isSt_s0 isSt_37) rfl dX11_road_121 ?_
      refine lv_iload_n hx hb dX11_road_124 rfl (lv_at hl 1 rfl) ?_
      refine sg_iald X I (isSt_i4 isSt_37) (isSt_s4 isSt_37) h dX11_road_125 (fun v9 h => ?_)
      obtain rfl := Option.some.inj h
      exact hk _ _ _ _ _ I ⟨_, rfl, rfl⟩ dX11_road_126
    have h := sg_iff h c5
    have i5 := sg_ine (z := 5) (by decide) c5
    by_cases c6 : p2 = 6
    · have h := sg_ift h c6
      refine sg_swIn (k := 6) (off := 113) (tgt := 127) hx hb dX11_road_14 c6 (by decide) (by decide) (by decide +kernel) (by decide) ?_
      refine lv_aload_n hx hb dX11_road_127 rfl (lv_at hl 0 rfl) ?_
      refine sg_getr X I fk_X11_52 (j := 37) (by decide) shC_0 rfl dX11_road_128 ?_
      refine sg_getiN X I fn_X11_206 (isSt_i0 isSt_37) (isSt_s0 isSt_37) rfl dX11_road_131 ?_
      refine lv_iload_n hx hb dX11_road_134 rfl (lv_at hl 1 rfl) ?_
      refine lv_ishr hx hb dX11_road_135 ?_
      refine lv_iconst (v := 1) hx hb dX11_road_136 (by decide) ?_
      refine lv_iand hx hb dX11_road_137 ?_
      obtain rfl := Option.some.inj h
      exact hk _ _ _ _ _ I ⟨_, rfl, rfl⟩ dX11_road_138
    have h := sg_iff h c6
    have i6 := sg_ine (z := 6) (by decide) c6
    refine lv_tableOut (tgt := 139) hx hb dX11_road_14 (by omega) (by decide) ?_
    refine lv_iconst (v := -1) hx hb dX11_road_139 (by decide) ?_
    obtain rfl := Option.some.inj h
    exact hk _ _ _ _ _ I ⟨_, rfl, rfl⟩ dX11_road_140
  · have h := sg_ift h z
    refine lv_iconst (v := -1) hx hb dX11_road_11 (by decide) ?_
    obtain rfl := Option.some.inj h
    exact hk _ _ _ _ _ I ⟨_, rfl, rfl⟩ dX11_road_12
set_option maxHeartbeats 4000000 in
set_option maxRecDepth 100000 in
theorem c_X11_road {l : Launch} {P : sgP} {N : Nat} {p1 : Int32} {p2 : Int32} {σ : sgS} {q : Int32 × sgS} (h : f_X11_road N p1 p2 σ = some q) : sg_Mi P shC 332 l yX11_road cX11_road 3 (some .int) 5 [.ref (sgA P 0), .int p1, .int p2] σ q := by
  refine sg_mki (plainFor_of_name (by decide +kernel)) (Nat.le_of_ble_eq_true rfl) ?_
  intro p e R s m args below meth c Q A ls H locs X I hl hk
  exact b_X11_road X I hl h hk
def f_X11_spot (N : Nat) (p1 : Int32) (p2 : Int32) (σ : sgS) : Option (Int32) :=
  sg_cr (f_X0_hasPlace N 3 p1 σ) fun v1 =>
if v1 = 0 then
  (some ((-1)))
else
  (if p2 = 0 then
    (sg_ld σ 4 7 p1 fun v2 =>
    some v2)
  else
    (if p2 = 1 then
      (sg_ld σ (37 + 5) 7 p1 fun v3 =>
      some v3)
    else
      (some ((-1)))))
set_option maxHeartbeats 4000000 in
set_option maxRecDepth 100000 in
theorem b_X11_spot {p : Program} {l : Launch} {e : Env} {R : Room} {s : State} {m : MethodId} {args : Array Value} {below : List Frame} {meth : Method} {c : Code} {Q : State → Prop} {P : sgP} {A : Nat → Prop} {N : Nat} {p1 : Int32} {p2 : Int32} {σ : sgS} (X : sg_C P A 2 p R s m args c cX11_spot 3 RX11) {H : Heap} {locs : List Loc} (I : sg_I P shC 332 A s.heap σ H locs) {ls : Array Slot} (hl : lv_has ls 3 [(0, .ref (sgA P 0)), (1, .int p1), (2, .int p2)]) {st : Int32} (h : f_X11_spot N p1 p2 σ = some st) (hk : sg_Ri p l e R s m args below meth c Q P shC 332 A cX11_spot (some .int) (st, σ)) : W p l e R s m args below meth c H locs 0 0 Q (F0 m 0 ls []) := by
  unfold f_X11_spot at h
  have hx := X.1.1
  have hb := X.1.2.1
  have hown := X.1.2.2.2.1
  have hts := X.1.2.2.2.2
  refine lv_aload_n hx hb dX11_spot_0 rfl (lv_at hl 0 rfl) ?_
  refine sg_getr X I fk_X11_19 (j := 3) (by decide) shC_0 rfl dX11_spot_1 ?_
  refine lv_iload_n hx hb dX11_spot_4 rfl (lv_at hl 1 rfl) ?_
  refine sg_callVr (As := [.int p1]) X I mk_X11_224 (by decide) (by decide) shC_3 rfl (fun q9 e9 => c_X0_hasPlace isCo_3 e9) h hl.1 rfl rfl (Nat.le_of_ble_eq_true rfl) dX11_spot_5 (fun v1 H locs h I => ?_)
  refine lv_if_ne (tgt := 13) hx hb dX11_spot_8 (by decide) (fun z => ?_) (fun z => ?_)
  · have h := sg_iff h z
    refine lv_iload_n hx hb dX11_spot_13 rfl (lv_at hl 2 rfl) ?_
    by_cases c0 : p2 = 0
    · have h := sg_ift h c0
      refine sg_lkIn (k := 0) (off := 26) (tgt := 40) hx hb dX11_spot_14 c0 (by decide +kernel) (by decide +kernel) (by decide) ?_
      refine lv_aload_n hx hb dX11_spot_40 rfl (lv_at hl 0 rfl) ?_
      refine sg_getr X I fk_X11_19 (j := 3) (by decide) shC_0 rfl dX11_spot_41 ?_
      refine sg_getrN X I fn_X11_227 (j := 4) (by decide) shC_3 rfl dX11_spot_44 ?_
      refine lv_iload_n hx hb dX11_spot_47 rfl (lv_at hl 1 rfl) ?_
      refine sg_iald X I (by decide) shC_4 h dX11_spot_48 (fun v2 h => ?_)
      obtain rfl := Option.some.inj h
      exact hk _ _ _ _ _ I ⟨_, rfl, rfl⟩ dX11_spot_49
    have h := sg_iff h c0
    have i0 := sg_ine (z := 0) (by decide) c0
    by_cases c1 : p2 = 1
    · have h := sg_ift h c1
      refine sg_lkIn (k := 1) (off := 36) (tgt := 50) hx hb dX11_spot_14 c1 (by decide +kernel) (by decide +kernel) (by decide) ?_
      refine lv_aload_n hx hb dX11_spot_50 rfl (lv_at hl 0 rfl) ?_
      refine sg_getr X I fk_X11_52 (j := 37) (by decide) shC_0 rfl dX11_spot_51 ?_
      refine sg_getrN X I fn_X11_230 (j := 37 + 5) (isSt_i0 isSt_37) (isSt_s0 isSt_37) rfl dX11_spot_54 ?_
      refine lv_iload_n hx hb dX11_spot_57 rfl (lv_at hl 1 rfl) ?_
      refine sg_iald X I (isSt_i5 isSt_37) (isSt_s5 isSt_37) h dX11_spot_58 (fun v3 h => ?_)
      obtain rfl := Option.some.inj h
      exact hk _ _ _ _ _ I ⟨_, rfl, rfl⟩ dX11_spot_59
    have h := sg_iff h c1
    have i1 := sg_ine (z := 1) (by decide) c1
    refine lv_lookup (off := 46) (tgt := 60) hx hb dX11_spot_14 (by decide +kernel) (by simp [Op.lookupswitch.offset, Ne.symm i0, i0, Ne.symm i1, i1]) (by decide) ?_
    refine lv_iconst (v := -1) hx hb dX11_spot_60 (by decide) ?_
    obtain rfl := Option.some.inj h
    exact hk _ _ _ _ _ I ⟨_, rfl, rfl⟩ dX11_spot_61
  · have h := sg_ift h z
    refine lv_iconst (v := -1) hx hb dX11_spot_11 (by decide) ?_
    obtain rfl := Option.some.inj h
    exact hk _ _ _ _ _ I ⟨_, rfl, rfl⟩ dX11_spot_12
set_option maxHeartbeats 4000000 in
set_option maxRecDepth 100000 in
theorem c_X11_spot {l : Launch} {P : sgP} {N : Nat} {p1 : Int32} {p2 : Int32} {σ : sgS} {q : Int32} (h : f_X11_spot N p1 p2 σ = some q) : sg_Mi P shC 332 l yX11_spot cX11_spot 3 (some .int) 2 [.ref (sgA P 0), .int p1, .int p2] σ (q, σ) := by
  refine sg_mki (plainFor_of_name (by decide +kernel)) (Nat.le_of_ble_eq_true rfl) ?_
  intro p e R s m args below meth c Q A ls H locs X I hl hk
  exact b_X11_spot X I hl h hk
def f_X11_law (N : Nat) (p1 : Int32) (σ : sgS) : Option (Int32 × sgS) :=
  if p1 < ((-1)) then
  (some (vp_nar .boolean 0, σ))
else
  (if p1 < (σ.1 21 4) then
    (sg_pf σ 21 5 p1 fun s1 =>
    some (vp_nar .boolean 1, s1))
  else
    (some (vp_nar .boolean 0, σ)))
set_option maxHeartbeats 4000000 in
set_option maxRecDepth 100000 in
theorem b_X11_law {p : Program} {l : Launch} {e : Env} {R : Room} {s : State} {m : MethodId} {args : Array Value} {below : List Frame} {meth : Method} {c : Code} {Q : State → Prop} {P : sgP} {A : Nat → Prop} {N : Nat} {p1 : Int32} {σ : sgS} (X : sg_C P A 1 p R s m args c cX11_law 2 RX11) {H : Heap} {locs : List Loc} (I : sg_I P shC 332 A s.heap σ H locs) {ls : Array Slot} (hl : lv_has ls 2 [(0, .ref (sgA P 0)), (1, .int p1)]) {st : Int32 × sgS} (h : f_X11_law N p1 σ = some st) (hk : sg_Ri p l e R s m args below meth c Q P shC 332 A cX11_law (some .boolean) st) : W p l e R s m args below meth c H locs 0 0 Q (F0 m 0 ls []) := by
  unfold f_X11_law at h
  have hx := X.1.1
  have hb := X.1.2.1
  have hown := X.1.2.2.2.1
  have hts := X.1.2.2.2.2
  refine lv_iload_n hx hb dX11_law_0 rfl (lv_at hl 1 rfl) ?_
  refine lv_iconst (v := -1) hx hb dX11_law_1 (by decide) ?_
  refine lv_icmp_lt (tgt := 16) hx hb dX11_law_2 (by decide) (fun z => ?_) (fun z => ?_)
  · have h := sg_ift h z
    refine lv_iconst (v := 0) hx hb dX11_law_16 (by decide) ?_
    obtain rfl := Option.some.inj h
    exact hk _ _ _ _ _ I ⟨_, rfl, rfl⟩ dX11_law_17
  · have h := sg_iff h z
    refine lv_iload_n hx hb dX11_law_5 rfl (lv_at hl 1 rfl) ?_
    refine lv_aload_n hx hb dX11_law_6 rfl (lv_at hl 0 rfl) ?_
    refine sg_getr X I fk_X11_38 (j := 21) (by decide) shC_0 rfl dX11_law_7 ?_
    refine sg_getiN X I fn_X11_154 (by decide) shC_21 rfl dX11_law_10 ?_
    refine lv_icmp_lt (tgt := 18) hx hb dX11_law_13 (by decide) (fun z => ?_) (fun z => ?_)
    · have h := sg_ift h z
      refine lv_aload_n hx hb dX11_law_18 rfl (lv_at hl 0 rfl) ?_
      refine sg_getr X I fk_X11_38 (j := 21) (by decide) shC_0 rfl dX11_law_19 ?_
      refine lv_iload_n hx hb dX11_law_22 rfl (lv_at hl 1 rfl) ?_
      refine sg_putiN X I fn_X11_233 wk_4_5 rfl rfl (by decide) shC_21 rfl h dX11_law_23 (fun s1 H locs h I => ?_)
      refine lv_iconst (v := 1) hx hb dX11_law_26 (by decide) ?_
      obtain rfl := Option.some.inj h
      exact hk _ _ _ _ _ I ⟨_, rfl, rfl⟩ dX11_law_27
    · have h := sg_iff h z
      refine lv_iconst (v := 0) hx hb dX11_law_16 (by decide) ?_
      obtain rfl := Option.some.inj h
      exact hk _ _ _ _ _ I ⟨_, rfl, rfl⟩ dX11_law_17
set_option maxHeartbeats 4000000 in
set_option maxRecDepth 100000 in
theorem c_X11_law {l : Launch} {P : sgP} {N : Nat} {p1 : Int32} {σ : sgS} {q : Int32 × sgS} (h : f_X11_law N p1 σ = some q) : sg_Mi P shC 332 l yX11_law cX11_law 2 (some .boolean) 1 [.ref (sgA P 0), .int p1] σ q := by
  refine sg_mki (plainFor_of_name (by decide +kernel)) (Nat.le_of_ble_eq_true rfl) ?_
  intro p e R s m args below meth c Q A ls H locs X I hl hk
  exact b_X11_law X I hl h hk
def f_X11_walked (N : Nat) (p1 : Int32) (p2 : Int32) (σ : sgS) : Option (Int32) :=
  sg_cr (f_X10_has N p1 σ) fun v1 =>
if v1 = 0 then
  (some ((-1)))
else
  (if p2 = ((-1)) then
    (sg_ld σ 35 4 p1 fun v3 =>
    some v3)
  else
    (sg_cr (f_X10_placeAt N p1 p2 σ) fun v2 =>
    some v2))
set_option maxHeartbeats 4000000 in
set_option maxRecDepth 100000 in
theorem b_X11_walked {p : Program} {l : Launch} {e : Env} {R : Room} {s : State} {m : MethodId} {args : Array Value} {below : List Frame} {meth : Method} {c : Code} {Q : State → Prop} {P : sgP} {A : Nat → Prop} {N : Nat} {p1 : Int32} {p2 : Int32} {σ : sgS} (X : sg_C P A 3 p R s m args c cX11_walked 3 RX11) {H : Heap} {locs : List Loc} (I : sg_I P shC 332 A s.heap σ H locs) {ls : Array Slot} (hl : lv_has ls 3 [(0, .ref (sgA P 0)), (1, .int p1), (2, .int p2)]) {st : Int32} (h : f_X11_walked N p1 p2 σ = some st) (hk : sg_Ri p l e R s m args below meth c Q P shC 332 A cX11_walked (some .int) (st, σ)) : W p l e R s m args below meth c H locs 0 0 Q (F0 m 0 ls []) := by
  unfold f_X11_walked at h
  have hx := X.1.1
  have hb := X.1.2.1
  have hown := X.1.2.2.2.1
  have hts := X.1.2.2.2.2
  refine lv_aload_n hx hb dX11_walked_0 rfl (lv_at hl 0 rfl) ?_
  refine sg_getr X I fk_X11_45 (j := 29) (by decide) shC_0 rfl dX11_walked_1 ?_
  refine lv_iload_n hx hb dX11_walked_4 rfl (lv_at hl 1 rfl) ?_
  refine sg_callVr (As := [.int p1]) X I mk_X11_236 (by decide) (by decide) shC_29 rfl (fun q9 e9 => c_X10_has e9) h hl.1 rfl rfl (Nat.le_of_ble_eq_true rfl) dX11_walked_5 (fun v1 H locs h I => ?_)
  refine lv_if_ne (tgt := 13) hx hb dX11_walked_8 (by decide) (fun z => ?_) (fun z => ?_)
  · have h := sg_iff h z
    refine lv_iload_n hx hb dX11_walked_13 rfl (lv_at hl 2 rfl) ?_
    refine lv_iconst (v := -1) hx hb dX11_walked_14 (by decide) ?_
    refine lv_icmp_ne (tgt := 30) hx hb dX11_walked_15 (by decide) (fun z => ?_) (fun z => ?_)
    · have h := sg_iff h z
      refine lv_aload_n hx hb dX11_walked_30 rfl (lv_at hl 0 rfl) ?_
      refine sg_getr X I fk_X11_45 (j := 29) (by decide) shC_0 rfl dX11_walked_31 ?_
      refine lv_iload_n hx hb dX11_walked_34 rfl (lv_at hl 1 rfl) ?_
      refine lv_iload_n hx hb dX11_walked_35 rfl (lv_at hl 2 rfl) ?_
      refine sg_callVr (As := [.int p1, .int p2]) X I mk_X11_242 (by decide) (by decide) shC_29 rfl (fun q9 e9 => c_X10_placeAt e9) h hl.1 rfl rfl (Nat.le_of_ble_eq_true rfl) dX11_walked_36 (fun v2 H locs h I => ?_)
      obtain rfl := Option.some.inj h
      exact hk _ _ _ _ _ I ⟨_, rfl, rfl⟩ dX11_walked_39
    · have h := sg_ift h z
      refine lv_aload_n hx hb dX11_walked_18 rfl (lv_at hl 0 rfl) ?_
      refine sg_getr X I fk_X11_45 (j := 29) (by decide) shC_0 rfl dX11_walked_19 ?_
      refine sg_getrN X I fn_X11_239 (j := 35) (by decide) shC_29 rfl dX11_walked_22 ?_
      refine lv_iload_n hx hb dX11_walked_25 rfl (lv_at hl 1 rfl) ?_
      refine sg_iald X I (by decide) shC_35 h dX11_walked_26 (fun v3 h => ?_)
      refine lv_goto (tgt := 39) hx hb dX11_walked_27 (by decide) ?_
      obtain rfl := Option.some.inj h
      exact hk _ _ _ _ _ I ⟨_, rfl, rfl⟩ dX11_walked_39
  · have h := sg_ift h z
    refine lv_iconst (v := -1) hx hb dX11_walked_11 (by decide) ?_
    obtain rfl := Option.some.inj h
    exact hk _ _ _ _ _ I ⟨_, rfl, rfl⟩ dX11_walked_12
set_option maxHeartbeats 4000000 in
set_option maxRecDepth 100000 in
theorem c_X11_walked {l : Launch} {P : sgP} {N : Nat} {p1 : Int32} {p2 : Int32} {σ : sgS} {q : Int32} (h : f_X11_walked N p1 p2 σ = some q) : sg_Mi P shC 332 l yX11_walked cX11_walked 3 (some .int) 3 [.ref (sgA P 0), .int p1, .int p2] σ (q, σ) := by
  refine sg_mki (plainFor_of_name (by decide +kernel)) (Nat.le_of_ble_eq_true rfl) ?_
  intro p e R s m args below meth c Q A ls H locs X I hl hk
  exact b_X11_walked X I hl h hk
def f_X11_refuse (N : Nat) (p1 : Int32) (σ : sgS) : Option (Int32 × sgS) :=
  sg_ld σ 331 5 p1 fun v1 =>
sg_st σ 331 5 p1 (v1 + 1) fun s2 =>
some ((-1), s2)
set_option maxHeartbeats 4000000 in
set_option maxRecDepth 100000 in
theorem b_X11_refuse {p : Program} {l : Launch} {e : Env} {R : Room} {s : State} {m : MethodId} {args : Array Value} {below : List Frame} {meth : Method} {c : Code} {Q : State → Prop} {P : sgP} {A : Nat → Prop} {N : Nat} {p1 : Int32} {σ : sgS} (X : sg_C P A 1 p R s m args c cX11_refuse 2 RX11) {H : Heap} {locs : List Loc} (I : sg_I P shC 332 A s.heap σ H locs) {ls : Array Slot} (hl : lv_has ls 2 [(0, .ref (sgA P 0)), (1, .int p1)]) {st : Int32 × sgS} (h : f_X11_refuse N p1 σ = some st) (hk : sg_Ri p l e R s m args below meth c Q P shC 332 A cX11_refuse (some .int) st) : W p l e R s m args below meth c H locs 0 0 Q (F0 m 0 ls []) := by
  unfold f_X11_refuse at h
  have hx := X.1.1
  have hb := X.1.2.1
  have hown := X.1.2.2.2.1
  have hts := X.1.2.2.2.2
  refine lv_aload_n hx hb dX11_refuse_0 rfl (lv_at hl 0 rfl) ?_
  refine sg_getr X I fk_X11_102 (j := 331) (by decide) shC_0 rfl dX11_refuse_1 ?_
  refine lv_iload_n hx hb dX11_refuse_4 rfl (lv_at hl 1 rfl) ?_
  refine lv_dup2_11 hx hb dX11_refuse_5 rfl rfl ?_
  refine sg_iald X I (by decide) shC_331 h dX11_refuse_6 (fun v1 h => ?_)
  refine lv_iconst (v := 1) hx hb dX11_refuse_7 (by decide) ?_
  refine lv_iadd hx hb dX11_refuse_8 ?_
  refine sg_iast X I (by decide) shC_331 h dX11_refuse_9 (fun s2 H locs h I => ?_)
  refine lv_iconst (v := -1) hx hb dX11_refuse_10 (by decide) ?_
  obtain rfl := Option.some.inj h
  exact hk _ _ _ _ _ I ⟨_, rfl, rfl⟩ dX11_refuse_11
set_option maxHeartbeats 4000000 in
set_option maxRecDepth 100000 in
theorem c_X11_refuse {l : Launch} {P : sgP} {N : Nat} {p1 : Int32} {σ : sgS} {q : Int32 × sgS} (h : f_X11_refuse N p1 σ = some q) : sg_Mi P shC 332 l yX11_refuse cX11_refuse 2 (some .int) 1 [.ref (sgA P 0), .int p1] σ q := by
  refine sg_mki (plainFor_of_name (by decide +kernel)) (Nat.le_of_ble_eq_true rfl) ?_
  intro p e R s m args below meth c Q A ls H locs X I hl hk
  exact b_X11_refuse X I hl h hk
def f_X11_passDay (N : Nat) (σ : sgS) : Option (Int32 × sgS) :=
  sg_cl (f_X1_pass N 37 σ) fun v1 s2 =>
sg_cr (f_X8_setsOnWay N 37 s2) fun v3 =>
sg_cl (f_X6_note N (s2.1 37 7) v1 v3 (s2.1 37 5) s2) fun v4 s5 =>
some (0, s5)
set_option maxHeartbeats 4000000 in
set_option maxRecDepth 100000 in
theorem b_X11_passDay {p : Program} {l : Launch} {e : Env} {R : Room} {s : State} {m : MethodId} {args : Array Value} {below : List Frame} {meth : Method} {c : Code} {Q : State → Prop} {P : sgP} {A : Nat → Prop} {N : Nat} {σ : sgS} (X : sg_C P A 6 p R s m args c cX11_passDay 2 RX11) {H : Heap} {locs : List Loc} (I : sg_I P shC 332 A s.heap σ H locs) {ls : Array Slot} (hl : lv_has ls 2 [(0, .ref (sgA P 0))]) {st : Int32 × sgS} (h : f_X11_passDay N σ = some st) (hk : sg_Rv p l e R s m args below meth c Q P shC 332 A cX11_passDay st) : W p l e R s m args below meth c H locs 0 0 Q (F0 m 0 ls []) := by
  unfold f_X11_passDay at h
  have hx := X.1.1
  have hb := X.1.2.1
  have hown := X.1.2.2.2.1
  have hts := X.1.2.2.2.2
  refine lv_aload_n hx hb dX11_passDay_0 rfl (lv_at hl 0 rfl) ?_
  refine sg_getr X I fk_X11_64 (j := 49) (by decide) shC_0 rfl dX11_passDay_1 ?_
  refine lv_aload_n hx hb dX11_passDay_4 rfl (lv_at hl 0 rfl) ?_
  refine sg_getr X I fk_X11_52 (j := 37) (by decide) shC_0 rfl dX11_passDay_5 ?_
  refine sg_callV (As := [.ref (sgA P 37)]) X I mk_X11_258 (by decide) (by decide) shC_49 rfl (fun q9 e9 => c_X1_pass isSt_37 e9) h hl.1 rfl rfl (Nat.le_of_ble_eq_true rfl) dX11_passDay_8 (fun v1 s2 H locs h I => ?_)
  refine lv_istore_n (lv' := [(1, .int v1), (0, .ref (sgA P 0))]) hx hb dX11_passDay_11 rfl hl (by decide) rfl (fun ls hl => ?_)
  refine lv_aload_n hx hb dX11_passDay_12 rfl (lv_at hl 1 rfl) ?_
  refine sg_getr X I fk_X11_71 (j := 52) (by decide) shC_0 rfl dX11_passDay_13 ?_
  refine lv_aload_n hx hb dX11_passDay_16 rfl (lv_at hl 1 rfl) ?_
  refine sg_getr X I fk_X11_52 (j := 37) (by decide) shC_0 rfl dX11_passDay_17 ?_
  refine sg_getiN X I fn_X11_249 (isSt_i0 isSt_37) (isSt_s0 isSt_37) rfl dX11_passDay_20 ?_
  refine lv_iload_n hx hb dX11_passDay_23 rfl (lv_at hl 0 rfl) ?_
  refine lv_aload_n hx hb dX11_passDay_24 rfl (lv_at hl 1 rfl) ?_
  refine sg_getr X I fk_X11_52 (j := 37) (by decide) shC_0 rfl dX11_passDay_25 ?_
  refine sg_callVr (As := []) X I mk_X11_262 (by decide) (isSt_i0 isSt_37) (isSt_s0 isSt_37) rfl (fun q9 e9 => c_X8_setsOnWay isSt_37 e9) h hl.1 rfl rfl (Nat.le_of_ble_eq_true rfl) dX11_passDay_28 (fun v3 H locs h I => ?_)
  refine lv_aload_n hx hb dX11_passDay_31 rfl (lv_at hl 1 rfl) ?_
  refine sg_getr X I fk_X11_52 (j := 37) (by decide) shC_0 rfl dX11_passDay_32 ?_
  refine sg_getiN X I fn_X11_206 (isSt_i0 isSt_37) (isSt_s0 isSt_37) rfl dX11_passDay_35 ?_
  refine sg_callVv (As := [.int (s2.1 37 7), .int v1, .int v3, .int (s2.1 37 5)]) X I mk_X11_265 (by decide) (by decide) shC_52 rfl (fun q9 e9 => c_X6_note e9) h hl.1 rfl rfl (Nat.le_of_ble_eq_true rfl) dX11_passDay_38 (fun v4 s5 H locs h I => ?_)
  obtain rfl := Option.some.inj h
  exact hk _ _ _ _ I dX11_passDay_41
set_option maxHeartbeats 4000000 in
set_option maxRecDepth 100000 in
theorem c_X11_passDay {l : Launch} {P : sgP} {N : Nat} {σ : sgS} {q : Int32 × sgS} (h : f_X11_passDay N σ = some q) : sg_Mv P shC 332 l yX11_passDay cX11_passDay 2 none 6 [.ref (sgA P 0)] σ q := by
  refine sg_mkv (plainFor_of_name (by decide +kernel)) (Nat.le_of_ble_eq_true rfl) ?_
  intro p e R s m args below meth c Q A ls H locs X I hl hk
  exact b_X11_passDay X I hl h hk
def f_X11_days_L56 (N : Nat) (p1 : Int32) (x2 : Int32) (σ : sgS) : Option ((Int32 × sgS) ⊕ ((sgS × Int32) ⊕ (sgS))) :=
  if p1 ≤ x2 then
  (some (.inr (.inr σ)))
else
  (sg_cl (f_X6_remember N 37 σ) fun v4 s5 =>
  sg_cl (f_X11_passDay N s5) fun v6 s7 =>
  some (.inr (.inl (s7, x2 + 1))))
set_option maxHeartbeats 4000000 in
set_option maxRecDepth 100000 in
theorem b_X11_days_L56 {p : Program} {l : Launch} {e : Env} {R : Room} {s : State} {m : MethodId} {args : Array Value} {below : List Frame} {meth : Method} {c : Code} {Q : State → Prop} {P : sgP} {A : Nat → Prop} {N : Nat} {p1 : Int32} {x2 : Int32} {σ : sgS} (X : sg_C P A 7 p R s m args c cX11_days 3 RX11) {H : Heap} {locs : List Loc} (I : sg_I P shC 332 A s.heap σ H locs) {ls : Array Slot} (hl : lv_has ls 3 [(0, .ref (sgA P 0)), (1, .int p1), (2, .int x2)]) {st : (Int32 × sgS) ⊕ ((sgS × Int32) ⊕ (sgS))} (h : f_X11_days_L56 N p1 x2 σ = some st) (hk : sg_k3 (sg_Ri p l e R s m args below meth c Q P shC 332 A cX11_days (some .int)) (fun x => sg_Wt p l e R s m args below meth c Q P shC 332 A 3 56 x.1 [(0, .ref (sgA P 0)), (1, .int p1), (2, .int x.2)]) (fun y => sg_Wt p l e R s m args below meth c Q P shC 332 A 3 82 y [(0, .ref (sgA P 0))]) st) : W p l e R s m args below meth c H locs 0 0 Q (F0 m 56 ls []) := by
  unfold f_X11_days_L56 at h
  have hx := X.1.1
  have hb := X.1.2.1
  have hown := X.1.2.2.2.1
  have hts := X.1.2.2.2.2
  refine lv_iload_n hx hb dX11_days_56 rfl (lv_at hl 2 rfl) ?_
  refine lv_iload_n hx hb dX11_days_57 rfl (lv_at hl 1 rfl) ?_
  refine lv_icmp_ge (tgt := 82) hx hb dX11_days_58 (by decide) (fun z => ?_) (fun z => ?_)
  · have h := sg_ift h z
    obtain rfl := Option.some.inj h
    exact sg_go hk I (lv_sub hl [0] rfl)
  · have h := sg_iff h z
    refine lv_aload_n hx hb dX11_days_61 rfl (lv_at hl 0 rfl) ?_
    refine sg_getr X I fk_X11_71 (j := 52) (by decide) shC_0 rfl dX11_days_62 ?_
    refine lv_aload_n hx hb dX11_days_65 rfl (lv_at hl 0 rfl) ?_
    refine sg_getr X I fk_X11_52 (j := 37) (by decide) shC_0 rfl dX11_days_66 ?_
    refine sg_callVv (As := [.ref (sgA P 37)]) X I mk_X11_252 (by decide) (by decide) shC_52 rfl (fun q9 e9 => c_X6_remember isSt_37 e9) h hl.1 rfl rfl (Nat.le_of_ble_eq_true rfl) dX11_days_69 (fun v4 s5 H locs h I => ?_)
    refine lv_aload_n hx hb dX11_days_72 rfl (lv_at hl 0 rfl) ?_
    refine sg_callVv (As := []) X I mk_X11_255 (by decide) (by decide) shC_0 rfl (fun q9 e9 => c_X11_passDay e9) h hl.1 rfl rfl (Nat.le_of_ble_eq_true rfl) dX11_days_73 (fun v6 s7 H locs h I => ?_)
    refine lv_iinc (v := x2 + 1) (lv' := [(2, .int (x2 + 1)), (0, .ref (sgA P 0)), (1, .int p1)]) hx hb dX11_days_76 hl (k := 2) rfl rfl (by decide) rfl (fun ls hl => ?_)
    refine lv_goto (tgt := 56) hx hb dX11_days_79 (by decide) ?_
    obtain rfl := Option.some.inj h
    exact sg_go hk I (lv_sub hl [1, 2, 0] rfl)
def f_X11_days (N : Nat) (p1 : Int32) (σ : sgS) : Option (Int32 × sgS) :=
  sg_cr (f_X0_isTold N 3 σ) fun v1 =>
if v1 = 0 then
  (sg_cl (f_X11_refuse N 0 σ) fun v13 s14 =>
  some (v13, s14))
else
  (if p1 < 1 then
    (sg_cl (f_X11_refuse N 1 σ) fun v2 s3 =>
    some (v2, s3))
  else
    (if p1 ≤ 60 then
      (if ((σ.1 37 7) + p1) ≤ 999 then
        (sg_lb (sg_lp (fun x => f_X11_days_L56 N p1 x.2 x.1) N ((σ, 0))) (fun r => some r) fun y8 =>
        some (y8.1 37 7, y8))
      else
        (sg_cl (f_X11_refuse N 4 σ) fun v9 s10 =>
        some (v9, s10)))
    else
      (sg_cl (f_X11_refuse N 1 σ) fun v11 s12 =>
      some (v11, s12))))
set_option maxHeartbeats 4000000 in
set_option maxRecDepth 100000 in
theorem b_X11_days {p : Program} {l : Launch} {e : Env} {R : Room} {s : State} {m : MethodId} {args : Array Value} {below : List Frame} {meth : Method} {c : Code} {Q : State → Prop} {P : sgP} {A : Nat → Prop} {N : Nat} {p1 : Int32} {σ : sgS} (X : sg_C P A 7 p R s m args c cX11_days 3 RX11) {H : Heap} {locs : List Loc} (I : sg_I P shC 332 A s.heap σ H locs) {ls : Array Slot} (hl : lv_has ls 3 [(0, .ref (sgA P 0)), (1, .int p1)]) {st : Int32 × sgS} (h : f_X11_days N p1 σ = some st) (hk : sg_Ri p l e R s m args below meth c Q P shC 332 A cX11_days (some .int) st) : W p l e R s m args below meth c H locs 0 0 Q (F0 m 0 ls []) := by
  unfold f_X11_days at h
  have hx := X.1.1
  have hb := X.1.2.1
  have hown := X.1.2.2.2.1
  have hts := X.1.2.2.2.2
  refine lv_aload_n hx hb dX11_days_0 rfl (lv_at hl 0 rfl) ?_
  refine sg_getr X I fk_X11_19 (j := 3) (by decide) shC_0 rfl dX11_days_1 ?_
  refine sg_callVr (As := []) X I mk_X11_172 (by decide) (by decide) shC_3 rfl (fun q9 e9 => c_X0_isTold isCo_3 e9) h hl.1 rfl rfl (Nat.le_of_ble_eq_true rfl) dX11_days_4 (fun v1 H locs h I => ?_)
  refine lv_if_ne (tgt := 16) hx hb dX11_days_7 (by decide) (fun z => ?_) (fun z => ?_)
  · have h := sg_iff h z
    refine lv_iload_n hx hb dX11_days_16 rfl (lv_at hl 1 rfl) ?_
    refine lv_iconst (v := 1) hx hb dX11_days_17 (by decide) ?_
    refine lv_icmp_lt (tgt := 27) hx hb dX11_days_18 (by decide) (fun z => ?_) (fun z => ?_)
    · have h := sg_ift h z
      refine lv_aload_n hx hb dX11_days_27 rfl (lv_at hl 0 rfl) ?_
      refine lv_iconst (v := 1) hx hb dX11_days_28 (by decide) ?_
      refine sg_callV (As := [.int 1]) X I mk_X11_246 (by decide) (by decide) shC_0 rfl (fun q9 e9 => c_X11_refuse e9) h hl.1 rfl rfl (Nat.le_of_ble_eq_true rfl) dX11_days_29 (fun v2 s3 H locs h I => ?_)
      obtain rfl := Option.some.inj h
      exact hk _ _ _ _ _ I ⟨_, rfl, rfl⟩ dX11_days_32
    · have h := sg_iff h z
      refine lv_iload_n hx hb dX11_days_21 rfl (lv_at hl 1 rfl) ?_
      refine lv_bipush (v := 60) hx hb dX11_days_22 (by decide) ?_
      refine lv_icmp_le (tgt := 33) hx hb dX11_days_24 (by decide) (fun z => ?_) (fun z => ?_)
      · have h := sg_ift h z
        refine lv_aload_n hx hb dX11_days_33 rfl (lv_at hl 0 rfl) ?_
        refine sg_getr X I fk_X11_52 (j := 37) (by decide) shC_0 rfl dX11_days_34 ?_
        refine sg_getiN X I fn_X11_249 (isSt_i0 isSt_37) (isSt_s0 isSt_37) rfl dX11_days_37 ?_
        refine lv_iload_n hx hb dX11_days_40 rfl (lv_at hl 1 rfl) ?_
        refine lv_iadd hx hb dX11_days_41 ?_
        refine lv_sipush (v := 999) hx hb dX11_days_42 (by decide) ?_
        refine lv_icmp_le (tgt := 54) hx hb dX11_days_45 (by decide) (fun z => ?_) (fun z => ?_)
        · have h := sg_ift h z
          refine lv_iconst (v := 0) hx hb dX11_days_54 (by decide) ?_
          refine lv_istore_n (lv' := [(2, .int 0), (0, .ref (sgA P 0)), (1, .int p1)]) hx hb dX11_days_55 rfl hl (by decide) rfl (fun ls hl => ?_)
          obtain ⟨res, e9, k9⟩ := sg_lb_some h
          refine sg_go (sg_lp_W (a := (sg_Ri p l e R s m args below meth c Q P shC 332 A cX11_days (some .int))) (w := (fun x => sg_Wt p l e R s m args below meth c Q P shC 332 A 3 56 x.1 [(0, .ref (sgA P 0)), (1, .int p1), (2, .int x.2)])) (c := (fun y => sg_Wt p l e R s m args below meth c Q P shC 332 A 3 82 y [(0, .ref (sgA P 0))])) (fun x st hb9 hk9 => ?_) N ((σ, 0)) res e9 (sg_k2_mono k9 (fun r h => ?_) (fun y8 h => ?_))) I (lv_sub hl [1, 2, 0] rfl)
          · intro H locs ls I hl
            exact b_X11_days_L56 X I hl hb9 hk9
          · obtain rfl := Option.some.inj h
            exact hk
          · intro H locs ls I hl
            refine lv_aload_n hx hb dX11_days_82 rfl (lv_at hl 0 rfl) ?_
            refine sg_getr X I fk_X11_52 (j := 37) (by decide) shC_0 rfl dX11_days_83 ?_
            refine sg_getiN X I fn_X11_249 (isSt_i0 isSt_37) (isSt_s0 isSt_37) rfl dX11_days_86 ?_
            obtain rfl := Option.some.inj h
            exact hk _ _ _ _ _ I ⟨_, rfl, rfl⟩ dX11_days_89
        · have h := sg_iff h z
          refine lv_aload_n hx hb dX11_days_48 rfl (lv_at hl 0 rfl) ?_
          refine lv_iconst (v := 4) hx hb dX11_days_49 (by decide) ?_
          refine sg_callV (As := [.int 4]) X I mk_X11_246 (by decide) (by decide) shC_0 rfl (fun q9 e9 => c_X11_refuse e9) h hl.1 rfl rfl (Nat.le_of_ble_eq_true rfl) dX11_days_50 (fun v9 s10 H locs h I => ?_)
          obtain rfl := Option.some.inj h
          exact hk _ _ _ _ _ I ⟨_, rfl, rfl⟩ dX11_days_53
      · have h := sg_iff h z
        refine lv_aload_n hx hb dX11_days_27 rfl (lv_at hl 0 rfl) ?_
        refine lv_iconst (v := 1) hx hb dX11_days_28 (by decide) ?_
        refine sg_callV (As := [.int 1]) X I mk_X11_246 (by decide) (by decide) shC_0 rfl (fun q9 e9 => c_X11_refuse e9) h hl.1 rfl rfl (Nat.le_of_ble_eq_true rfl) dX11_days_29 (fun v11 s12 H locs h I => ?_)
        obtain rfl := Option.some.inj h
        exact hk _ _ _ _ _ I ⟨_, rfl, rfl⟩ dX11_days_32
  · have h := sg_ift h z
    refine lv_aload_n hx hb dX11_days_10 rfl (lv_at hl 0 rfl) ?_
    refine lv_iconst (v := 0) hx hb dX11_days_11 (by decide) ?_
    refine sg_callV (As := [.int 0]) X I mk_X11_246 (by decide) (by decide) shC_0 rfl (fun q9 e9 => c_X11_refuse e9) h hl.1 rfl rfl (Nat.le_of_ble_eq_true rfl) dX11_days_12 (fun v13 s14 H locs h I => ?_)
    obtain rfl := Option.some.inj h
    exact hk _ _ _ _ _ I ⟨_, rfl, rfl⟩ dX11_days_15
set_option maxHeartbeats 4000000 in
set_option maxRecDepth 100000 in
theorem c_X11_days {l : Launch} {P : sgP} {N : Nat} {p1 : Int32} {σ : sgS} {q : Int32 × sgS} (h : f_X11_days N p1 σ = some q) : sg_Mi P shC 332 l yX11_days cX11_days 3 (some .int) 7 [.ref (sgA P 0), .int p1] σ q := by
  refine sg_mki (plainFor_of_name (by decide +kernel)) (Nat.le_of_ble_eq_true rfl) ?_
  intro p e R s m args below meth c Q A ls H locs X I hl hk
  exact b_X11_days X I hl h hk
def f_X11_puts (N : Nat) (p1 : Int32) (p2 : Int32) (σ : sgS) : Option (Int32 × sgS) :=
  sg_cr (f_X0_hasSet N 3 p1 σ) fun v1 =>
if v1 = 0 then
  (sg_cl (f_X11_refuse N 0 σ) fun v17 s18 =>
  some (v17, s18))
else
  (sg_cr (f_X10_has N p2 σ) fun v2 =>
  if v2 = 0 then
    (sg_cl (f_X11_refuse N 1 σ) fun v15 s16 =>
    some (v15, s16))
  else
    (sg_cr (f_X10_placeAt N p2 0 σ) fun v3 =>
    sg_ld σ (37 + 1) 4 p1 fun v4 =>
    if v3 = v4 then
      (if 3 ≤ (σ.1 37 6) then
        (sg_cl (f_X6_remember N 37 σ) fun v5 s6 =>
        sg_pf s6 37 6 ((s6.1 37 6) - 3) fun s7 =>
        sg_cl (f_X8_putTo N 37 p1 p2 s7) fun v8 s9 =>
        sg_ld s9 35 4 p2 fun v10 =>
        some (v10, s9))
      else
        (sg_cl (f_X11_refuse N 3 σ) fun v11 s12 =>
        some (v11, s12)))
    else
      (sg_cl (f_X11_refuse N 2 σ) fun v13 s14 =>
      some (v13, s14))))
set_option maxHeartbeats 4000000 in
set_option maxRecDepth 100000 in
theorem b_X11_puts {p : Program} {l : Launch} {e : Env} {R : Room} {s : State} {m : MethodId} {args : Array Value} {below : List Frame} {meth : Method} {c : Code} {Q : State → Prop} {P : sgP} {A : Nat → Prop} {N : Nat} {p1 : Int32} {p2 : Int32} {σ : sgS} (X : sg_C P A 4 p R s m args c cX11_puts 3 RX11) {H : Heap} {locs : List Loc} (I : sg_I P shC 332 A s.heap σ H locs) {ls : Array Slot} (hl : lv_has ls 3 [(0, .ref (sgA P 0)), (1, .int p1), (2, .int p2)]) {st : Int32 × sgS} (h : f_X11_puts N p1 p2 σ = some st) (hk : sg_Ri p l e R s m args below meth c Q P shC 332 A cX11_puts (some .int) st) : W p l e R s m args below meth c H locs 0 0 Q (F0 m 0 ls []) := by
  unfold f_X11_puts at h
  have hx := X.1.1
  have hb := X.1.2.1
  have hown := X.1.2.2.2.1
  have hts := X.1.2.2.2.2
  refine lv_aload_n hx hb dX11_puts_0 rfl (lv_at hl 0 rfl) ?_
  refine sg_getr X I fk_X11_19 (j := 3) (by decide) shC_0 rfl dX11_puts_1 ?_
  refine lv_iload_n hx hb dX11_puts_4 rfl (lv_at hl 1 rfl) ?_
  refine sg_callVr (As := [.int p1]) X I mk_X11_209 (by decide) (by decide) shC_3 rfl (fun q9 e9 => c_X0_hasSet isCo_3 e9) h hl.1 rfl rfl (Nat.le_of_ble_eq_true rfl) dX11_puts_5 (fun v1 H locs h I => ?_)
  refine lv_if_ne (tgt := 17) hx hb dX11_puts_8 (by decide) (fun z => ?_) (fun z => ?_)
  · have h := sg_iff h z
    refine lv_aload_n hx hb dX11_puts_17 rfl (lv_at hl 0 rfl) ?_
    refine sg_getr X I fk_X11_45 (j := 29) (by decide) shC_0 rfl dX11_puts_18 ?_
    refine lv_iload_n hx hb dX11_puts_21 rfl (lv_at hl 2 rfl) ?_
    refine sg_callVr (As := [.int p2]) X I mk_X11_236 (by decide) (by decide) shC_29 rfl (fun q9 e9 => c_X10_has e9) h hl.1 rfl rfl (Nat.le_of_ble_eq_true rfl) dX11_puts_22 (fun v2 H locs h I => ?_)
    refine lv_if_ne (tgt := 34) hx hb dX11_puts_25 (by decide) (fun z => ?_) (fun z => ?_)
    · have h := sg_iff h z
      refine lv_aload_n hx hb dX11_puts_34 rfl (lv_at hl 0 rfl) ?_
      refine sg_getr X I fk_X11_45 (j := 29) (by decide) shC_0 rfl dX11_puts_35 ?_
      refine lv_iload_n hx hb dX11_puts_38 rfl (lv_at hl 2 rfl) ?_
      refine lv_iconst (v := 0) hx hb dX11_puts_39 (by decide) ?_
      refine sg_callVr (As := [.int p2, .int 0]) X I mk_X11_242 (by decide) (by decide) shC_29 rfl (fun q9 e9 => c_X10_placeAt e9) h hl.1 rfl rfl (Nat.le_of_ble_eq_true rfl) dX11_puts_40 (fun v3 H locs h I => ?_)
      refine lv_aload_n hx hb dX11_puts_43 rfl (lv_at hl 0 rfl) ?_
      refine sg_getr X I fk_X11_52 (j := 37) (by decide) shC_0 rfl dX11_puts_44 ?_
      refine sg_getrN X I fn_X11_215 (j := 37 + 1) (isSt_i0 isSt_37) (isSt_s0 isSt_37) rfl dX11_puts_47 ?_
      refine lv_iload_n hx hb dX11_puts_50 rfl (lv_at hl 1 rfl) ?_
      refine sg_iald X I (isSt_i1 isSt_37) (isSt_s1 isSt_37) h dX11_puts_51 (fun v4 h => ?_)
      refine lv_icmp_eq (tgt := 61) hx hb dX11_puts_52 (by decide) (fun z => ?_) (fun z => ?_)
      · have h := sg_ift h z
        refine lv_aload_n hx hb dX11_puts_61 rfl (lv_at hl 0 rfl) ?_
        refine sg_getr X I fk_X11_52 (j := 37) (by decide) shC_0 rfl dX11_puts_62 ?_
        refine sg_getiN X I fn_X11_178 (isSt_i0 isSt_37) (isSt_s0 isSt_37) rfl dX11_puts_65 ?_
        refine lv_iconst (v := 3) hx hb dX11_puts_68 (by decide) ?_
        refine lv_icmp_ge (tgt := 78) hx hb dX11_puts_69 (by decide) (fun z => ?_) (fun z => ?_)
        · have h := sg_ift h z
          refine lv_aload_n hx hb dX11_puts_78 rfl (lv_at hl 0 rfl) ?_
          refine sg_getr X I fk_X11_71 (j := 52) (by decide) shC_0 rfl dX11_puts_79 ?_
          refine lv_aload_n hx hb dX11_puts_82 rfl (lv_at hl 0 rfl) ?_
          refine sg_getr X I fk_X11_52 (j := 37) (by decide) shC_0 rfl dX11_puts_83 ?_
          refine sg_callVv (As := [.ref (sgA P 37)]) X I mk_X11_252 (by decide) (by decide) shC_52 rfl (fun q9 e9 => c_X6_remember isSt_37 e9) h hl.1 rfl rfl (Nat.le_of_ble_eq_true rfl) dX11_puts_86 (fun v5 s6 H locs h I => ?_)
          refine lv_aload_n hx hb dX11_puts_89 rfl (lv_at hl 0 rfl) ?_
          refine sg_getr X I fk_X11_52 (j := 37) (by decide) shC_0 rfl dX11_puts_90 ?_
          refine lv_dup hx hb dX11_puts_93 rfl ?_
          refine sg_getiN X I fn_X11_178 (isSt_i0 isSt_37) (isSt_s0 isSt_37) rfl dX11_puts_94 ?_
          refine lv_iconst (v := 3) hx hb dX11_puts_97 (by decide) ?_
          refine lv_isub hx hb dX11_puts_98 ?_
          refine sg_putiN X I fn_X11_178 wk_8_6 rfl rfl (isSt_i0 isSt_37) (isSt_s0 isSt_37) rfl h dX11_puts_99 (fun s7 H locs h I => ?_)
          refine lv_aload_n hx hb dX11_puts_102 rfl (lv_at hl 0 rfl) ?_
          refine sg_getr X I fk_X11_52 (j := 37) (by decide) shC_0 rfl dX11_puts_103 ?_
          refine lv_iload_n hx hb dX11_puts_106 rfl (lv_at hl 1 rfl) ?_
          refine lv_iload_n hx hb dX11_puts_107 rfl (lv_at hl 2 rfl) ?_
          refine sg_callVv (As := [.int p1, .int p2]) X I mk_X11_269 (by decide) (isSt_i0 isSt_37) (isSt_s0 isSt_37) rfl (fun q9 e9 => c_X8_putTo isSt_37 e9) h hl.1 rfl rfl (Nat.le_of_ble_eq_true rfl) dX11_puts_108 (fun v8 s9 H locs h I => ?_)
          refine lv_aload_n hx hb dX11_puts_111 rfl (lv_at hl 0 rfl) ?_
          refine sg_getr X I fk_X11_45 (j := 29) (by decide) shC_0 rfl dX11_puts_112 ?_
          refine sg_getrN X I fn_X11_239 (j := 35) (by decide) shC_29 rfl dX11_puts_115 ?_
          refine lv_iload_n hx hb dX11_puts_118 rfl (lv_at hl 2 rfl) ?_
          refine sg_iald X I (by decide) shC_35 h dX11_puts_119 (fun v10 h => ?_)
          obtain rfl := Option.some.inj h
          exact hk _ _ _ _ _ I ⟨_, rfl, rfl⟩ dX11_puts_120
        · have h := sg_iff h z
          refine lv_aload_n hx hb dX11_puts_72 rfl (lv_at hl 0 rfl) ?_
          refine lv_iconst (v := 3) hx hb dX11_puts_73 (by decide) ?_
          refine sg_callV (As := [.int 3]) X I mk_X11_246 (by decide) (by decide) shC_0 rfl (fun q9 e9 => c_X11_refuse e9) h hl.1 rfl rfl (Nat.le_of_ble_eq_true rfl) dX11_puts_74 (fun v11 s12 H locs h I => ?_)
          obtain rfl := Option.some.inj h
          exact hk _ _ _ _ _ I ⟨_, rfl, rfl⟩ dX11_puts_77
      · have h := sg_iff h z
        refine lv_aload_n hx hb dX11_puts_55 rfl (lv_at hl 0 rfl) ?_
        refine lv_iconst (v := 2) hx hb dX11_puts_56 (by decide) ?_
        refine sg_callV (As := [.int 2]) X I mk_X11_246 (by decide) (by decide) shC_0 rfl (fun q9 e9 => c_X11_refuse e9) h hl.1 rfl rfl (Nat.le_of_ble_eq_true rfl) dX11_puts_57 (fun v13 s14 H locs h I => ?_)
        obtain rfl := Option.some.inj h
        exact hk _ _ _ _ _ I ⟨_, rfl, rfl⟩ dX11_puts_60
    · have h := sg_ift h z
      refine lv_aload_n hx hb dX11_puts_28 rfl (lv_at hl 0 rfl) ?_
      refine lv_iconst (v := 1) hx hb dX11_puts_29 (by decide) ?_
      refine sg_callV (As := [.int 1]) X I mk_X11_246 (by decide) (by decide) shC_0 rfl (fun q9 e9 => c_X11_refuse e9) h hl.1 rfl rfl (Nat.le_of_ble_eq_true rfl) dX11_puts_30 (fun v15 s16 H locs h I => ?_)
      obtain rfl := Option.some.inj h
      exact hk _ _ _ _ _ I ⟨_, rfl, rfl⟩ dX11_puts_33
  · have h := sg_ift h z
    refine lv_aload_n hx hb dX11_puts_11 rfl (lv_at hl 0 rfl) ?_
    refine lv_iconst (v := 0) hx hb dX11_puts_12 (by decide) ?_
    refine sg_callV (As := [.int 0]) X I mk_X11_246 (by decide) (by decide) shC_0 rfl (fun q9 e9 => c_X11_refuse e9) h hl.1 rfl rfl (Nat.le_of_ble_eq_true rfl) dX11_puts_13 (fun v17 s18 H locs h I => ?_)
    obtain rfl := Option.some.inj h
    exact hk _ _ _ _ _ I ⟨_, rfl, rfl⟩ dX11_puts_16
set_option maxHeartbeats 4000000 in
set_option maxRecDepth 100000 in
theorem c_X11_puts {l : Launch} {P : sgP} {N : Nat} {p1 : Int32} {p2 : Int32} {σ : sgS} {q : Int32 × sgS} (h : f_X11_puts N p1 p2 σ = some q) : sg_Mi P shC 332 l yX11_puts cX11_puts 3 (some .int) 4 [.ref (sgA P 0), .int p1, .int p2] σ q := by
  refine sg_mki (plainFor_of_name (by decide +kernel)) (Nat.le_of_ble_eq_true rfl) ?_
  intro p e R s m args below meth c Q A ls H locs X I hl hk
  exact b_X11_puts X I hl h hk
def f_X11_carries (N : Nat) (p1 : Int32) (p2 : Int32) (σ : sgS) : Option (Int32 × sgS) :=
  sg_cr (f_X0_hasSet N 3 p1 σ) fun v1 =>
if v1 = 0 then
  (sg_cl (f_X11_refuse N 0 σ) fun v16 s17 =>
  some (v16, s17))
else
  (sg_cr (f_X0_hasPlace N 3 p2 σ) fun v2 =>
  if v2 = 0 then
    (sg_cl (f_X11_refuse N 1 σ) fun v14 s15 =>
    some (v14, s15))
  else
    (sg_ld σ (37 + 1) 4 p1 fun v3 =>
    if v3 = p2 then
      (sg_cl (f_X11_refuse N 2 σ) fun v12 s13 =>
      some (v12, s13))
    else
      (if 2 ≤ (σ.1 37 6) then
        (sg_cl (f_X6_remember N 37 σ) fun v4 s5 =>
        sg_pf s5 37 6 ((s5.1 37 6) - 2) fun s6 =>
        sg_st s6 (37 + 1) 4 p1 p2 fun s7 =>
        sg_cl (f_X8_takeWay N 37 p1 s7) fun v8 s9 =>
        some (v3, s9))
      else
        (sg_cl (f_X11_refuse N 3 σ) fun v10 s11 =>
        some (v10, s11)))))
set_option maxHeartbeats 4000000 in
set_option maxRecDepth 100000 in
theorem b_X11_carries {p : Program} {l : Launch} {e : Env} {R : Room} {s : State} {m : MethodId} {args : Array Value} {below : List Frame} {meth : Method} {c : Code} {Q : State → Prop} {P : sgP} {A : Nat → Prop} {N : Nat} {p1 : Int32} {p2 : Int32} {σ : sgS} (X : sg_C P A 4 p R s m args c cX11_carries 4 RX11) {H : Heap} {locs : List Loc} (I : sg_I P shC 332 A s.heap σ H locs) {ls : Array Slot} (hl : lv_has ls 4 [(0, .ref (sgA P 0)), (1, .int p1), (2, .int p2)]) {st : Int32 × sgS} (h : f_X11_carries N p1 p2 σ = some st) (hk : sg_Ri p l e R s m args below meth c Q P shC 332 A cX11_carries (some .int) st) : W p l e R s m args below meth c H locs 0 0 Q (F0 m 0 ls []) := by
  unfold f_X11_carries at h
  have hx := X.1.1
  have hb := X.1.2.1
  have hown := X.1.2.2.2.1
  have hts := X.1.2.2.2.2
  refine lv_aload_n hx hb dX11_carries_0 rfl (lv_at hl 0 rfl) ?_
  refine sg_getr X I fk_X11_19 (j := 3) (by decide) shC_0 rfl dX11_carries_1 ?_
  refine lv_iload_n hx hb dX11_carries_4 rfl (lv_at hl 1 rfl) ?_
  refine sg_callVr (As := [.int p1]) X I mk_X11_209 (by decide) (by decide) shC_3 rfl (fun q9 e9 => c_X0_hasSet isCo_3 e9) h hl.1 rfl rfl (Nat.le_of_ble_eq_true rfl) dX11_carries_5 (fun v1 H locs h I => ?_)
  refine lv_if_ne (tgt := 17) hx hb dX11_carries_8 (by decide) (fun z => ?_) (fun z => ?_)
  · have h := sg_iff h z
    refine lv_aload_n hx hb dX11_carries_17 rfl (lv_at hl 0 rfl) ?_
    refine sg_getr X I fk_X11_19 (j := 3) (by decide) shC_0 rfl dX11_carries_18 ?_
    refine lv_iload_n hx hb dX11_carries_21 rfl (lv_at hl 2 rfl) ?_
    refine sg_callVr (As := [.int p2]) X I mk_X11_224 (by decide) (by decide) shC_3 rfl (fun q9 e9 => c_X0_hasPlace isCo_3 e9) h hl.1 rfl rfl (Nat.le_of_ble_eq_true rfl) dX11_carries_22 (fun v2 H locs h I => ?_)
    refine lv_if_ne (tgt := 34) hx hb dX11_carries_25 (by decide) (fun z => ?_) (fun z => ?_)
    · have h := sg_iff h z
      refine lv_aload_n hx hb dX11_carries_34 rfl (lv_at hl 0 rfl) ?_
      refine sg_getr X I fk_X11_52 (j := 37) (by decide) shC_0 rfl dX11_carries_35 ?_
      refine sg_getrN X I fn_X11_215 (j := 37 + 1) (isSt_i0 isSt_37) (isSt_s0 isSt_37) rfl dX11_carries_38 ?_
      refine lv_iload_n hx hb dX11_carries_41 rfl (lv_at hl 1 rfl) ?_
      refine sg_iald X I (isSt_i1 isSt_37) (isSt_s1 isSt_37) h dX11_carries_42 (fun v3 h => ?_)
      refine lv_istore_n (lv' := [(3, .int v3), (0, .ref (sgA P 0)), (1, .int p1), (2, .int p2)]) hx hb dX11_carries_43 rfl hl (by decide) rfl (fun ls hl => ?_)
      refine lv_iload_n hx hb dX11_carries_44 rfl (lv_at hl 0 rfl) ?_
      refine lv_iload_n hx hb dX11_carries_45 rfl (lv_at hl 3 rfl) ?_
      refine lv_icmp_ne (tgt := 55) hx hb dX11_carries_46 (by decide) (fun z => ?_) (fun z => ?_)
      · have h := sg_iff h z
        refine lv_aload_n hx hb dX11_carries_55 rfl (lv_at hl 1 rfl) ?_
        refine sg_getr X I fk_X11_52 (j := 37) (by decide) shC_0 rfl dX11_carries_56 ?_
        refine sg_getiN X I fn_X11_178 (isSt_i0 isSt_37) (isSt_s0 isSt_37) rfl dX11_carries_59 ?_
        refine lv_iconst (v := 2) hx hb dX11_carries_62 (by decide) ?_
        refine lv_icmp_ge (tgt := 72) hx hb dX11_carries_63 (by decide) (fun z => ?_) (fun z => ?_)
        · have h := sg_ift h z
          refine lv_aload_n hx hb dX11_carries_72 rfl (lv_at hl 1 rfl) ?_
          refine sg_getr X I fk_X11_71 (j := 52) (by decide) shC_0 rfl dX11_carries_73 ?_
          refine lv_aload_n hx hb dX11_carries_76 rfl (lv_at hl 1 rfl) ?_
          refine sg_getr X I fk_X11_52 (j := 37) (by decide) shC_0 rfl dX11_carries_77 ?_
          refine sg_callVv (As := [.ref (sgA P 37)]) X I mk_X11_252 (by decide) (by decide) shC_52 rfl (fun q9 e9 => c_X6_remember isSt_37 e9) h hl.1 rfl rfl (Nat.le_of_ble_eq_true rfl) dX11_carries_80 (fun v4 s5 H locs h I => ?_)
          refine lv_aload_n hx hb dX11_carries_83 rfl (lv_at hl 1 rfl) ?_
          refine sg_getr X I fk_X11_52 (j := 37) (by decide) shC_0 rfl dX11_carries_84 ?_
          refine lv_dup hx hb dX11_carries_87 rfl ?_
          refine sg_getiN X I fn_X11_178 (isSt_i0 isSt_37) (isSt_s0 isSt_37) rfl dX11_carries_88 ?_
          refine lv_iconst (v := 2) hx hb dX11_carries_91 (by decide) ?_
          refine lv_isub hx hb dX11_carries_92 ?_
          refine sg_putiN X I fn_X11_178 wk_8_6 rfl rfl (isSt_i0 isSt_37) (isSt_s0 isSt_37) rfl h dX11_carries_93 (fun s6 H locs h I => ?_)
          refine lv_aload_n hx hb dX11_carries_96 rfl (lv_at hl 1 rfl) ?_
          refine sg_getr X I fk_X11_52 (j := 37) (by decide) shC_0 rfl dX11_carries_97 ?_
          refine sg_getrN X I fn_X11_215 (j := 37 + 1) (isSt_i0 isSt_37) (isSt_s0 isSt_37) rfl dX11_carries_100 ?_
          refine lv_iload_n hx hb dX11_carries_103 rfl (lv_at hl 2 rfl) ?_
          refine lv_iload_n hx hb dX11_carries_104 rfl (lv_at hl 3 rfl) ?_
          refine sg_iast X I (isSt_i1 isSt_37) (isSt_s1 isSt_37) h dX11_carries_105 (fun s7 H locs h I => ?_)
          refine lv_aload_n hx hb dX11_carries_106 rfl (lv_at hl 1 rfl) ?_
          refine sg_getr X I fk_X11_52 (j := 37) (by decide) shC_0 rfl dX11_carries_107 ?_
          refine lv_iload_n hx hb dX11_carries_110 rfl (lv_at hl 2 rfl) ?_
          refine sg_callVv (As := [.int p1]) X I mk_X11_273 (by decide) (isSt_i0 isSt_37) (isSt_s0 isSt_37) rfl (fun q9 e9 => c_X8_takeWay isSt_37 e9) h hl.1 rfl rfl (Nat.le_of_ble_eq_true rfl) dX11_carries_111 (fun v8 s9 H locs h I => ?_)
          refine lv_iload_n hx hb dX11_carries_114 rfl (lv_at hl 0 rfl) ?_
          obtain rfl := Option.some.inj h
          exact hk _ _ _ _ _ I ⟨_, rfl, rfl⟩ dX11_carries_115
        · have h := sg_iff h z
          refine lv_aload_n hx hb dX11_carries_66 rfl (lv_at hl 1 rfl) ?_
          refine lv_iconst (v := 3) hx hb dX11_carries_67 (by decide) ?_
          refine sg_callV (As := [.int 3]) X I mk_X11_246 (by decide) (by decide) shC_0 rfl (fun q9 e9 => c_X11_refuse e9) h hl.1 rfl rfl (Nat.le_of_ble_eq_true rfl) dX11_carries_68 (fun v10 s11 H locs h I => ?_)
          obtain rfl := Option.some.inj h
          exact hk _ _ _ _ _ I ⟨_, rfl, rfl⟩ dX11_carries_71
      · have h := sg_ift h z
        refine lv_aload_n hx hb dX11_carries_49 rfl (lv_at hl 1 rfl) ?_
        refine lv_iconst (v := 2) hx hb dX11_carries_50 (by decide) ?_
        refine sg_callV (As := [.int 2]) X I mk_X11_246 (by decide) (by decide) shC_0 rfl (fun q9 e9 => c_X11_refuse e9) h hl.1 rfl rfl (Nat.le_of_ble_eq_true rfl) dX11_carries_51 (fun v12 s13 H locs h I => ?_)
        obtain rfl := Option.some.inj h
        exact hk _ _ _ _ _ I ⟨_, rfl, rfl⟩ dX11_carries_54
    · have h := sg_ift h z
      refine lv_aload_n hx hb dX11_carries_28 rfl (lv_at hl 0 rfl) ?_
      refine lv_iconst (v := 1) hx hb dX11_carries_29 (by decide) ?_
      refine sg_callV (As := [.int 1]) X I mk_X11_246 (by decide) (by decide) shC_0 rfl (fun q9 e9 => c_X11_refuse e9) h hl.1 rfl rfl (Nat.le_of_ble_eq_true rfl) dX11_carries_30 (fun v14 s15 H locs h I => ?_)
      obtain rfl := Option.some.inj h
      exact hk _ _ _ _ _ I ⟨_, rfl, rfl⟩ dX11_carries_33
  · have h := sg_ift h z
    refine lv_aload_n hx hb dX11_carries_11 rfl (lv_at hl 0 rfl) ?_
    refine lv_iconst (v := 0) hx hb dX11_carries_12 (by decide) ?_
    refine sg_callV (As := [.int 0]) X I mk_X11_246 (by decide) (by decide) shC_0 rfl (fun q9 e9 => c_X11_refuse e9) h hl.1 rfl rfl (Nat.le_of_ble_eq_true rfl) dX11_carries_13 (fun v16 s17 H locs h I => ?_)
    obtain rfl := Option.some.inj h
    exact hk _ _ _ _ _ I ⟨_, rfl, rfl⟩ dX11_carries_16
set_option maxHeartbeats 4000000 in
set_option maxRecDepth 100000 in
theorem c_X11_carries {l : Launch} {P : sgP} {N : Nat} {p1 : Int32} {p2 : Int32} {σ : sgS} {q : Int32 × sgS} (h : f_X11_carries N p1 p2 σ = some q) : sg_Mi P shC 332 l yX11_carries cX11_carries 4 (some .int) 4 [.ref (sgA P 0), .int p1, .int p2] σ q := by
  refine sg_mki (plainFor_of_name (by decide +kernel)) (Nat.le_of_ble_eq_true rfl) ?_
  intro p e R s m args below meth c Q A ls H locs X I hl hk
  exact b_X11_carries X I hl h hk
def f_X11_bars (N : Nat) (p1 : Int32) (σ : sgS) : Option (Int32 × sgS) :=
  sg_cr (f_X0_hasRoad N 3 p1 σ) fun v1 =>
if v1 = 0 then
  (sg_cl (f_X11_refuse N 0 σ) fun v8 s9 =>
  some (v8, s9))
else
  (if 1 ≤ (σ.1 37 6) then
    (sg_cl (f_X6_remember N 37 σ) fun v2 s3 =>
    sg_pf s3 37 6 ((s3.1 37 6) - 1) fun s4 =>
    sg_pf s4 37 5 ((s4.1 37 5) ^^^ (1 <<< (p1 &&& 31))) fun s5 =>
    some (((s5.1 37 5) >>> (p1 &&& 31)) &&& 1, s5))
  else
    (sg_cl (f_X11_refuse N 3 σ) fun v6 s7 =>
    some (v6, s7)))
set_option maxHeartbeats 4000000 in
set_option maxRecDepth 100000 in
theorem b_X11_bars {p : Program} {l : Launch} {e : Env} {R : Room} {s : State} {m : MethodId} {args : Array Value} {below : List Frame} {meth : Method} {c : Code} {Q : State → Prop} {P : sgP} {A : Nat → Prop} {N : Nat} {p1 : Int32} {σ : sgS} (X : sg_C P A 4 p R s m args c cX11_bars 2 RX11) {H : Heap} {locs : List Loc} (I : sg_I P shC 332 A s.heap σ H locs) {ls : Array Slot} (hl : lv_has ls 2 [(0, .ref (sgA P 0)), (1, .int p1)]) {st : Int32 × sgS} (h : f_X11_bars N p1 σ = some st) (hk : sg_Ri p l e R s m args below meth c Q P shC 332 A cX11_bars (some .int) st) : W p l e R s m args below meth c H locs 0 0 Q (F0 m 0 ls []) := by
  unfold f_X11_bars at h
  have hx := X.1.1
  have hb := X.1.2.1
  have hown := X.1.2.2.2.1
  have hts := X.1.2.2.2.2
  refine lv_aload_n hx hb dX11_bars_0 rfl (lv_at hl 0 rfl) ?_
  refine sg_getr X I fk_X11_19 (j := 3) (by decide) shC_0 rfl dX11_bars_1 ?_
  refine lv_iload_n hx hb dX11_bars_4 rfl (lv_at hl 1 rfl) ?_
  refine sg_callVr (As := [.int p1]) X I mk_X11_181 (by decide) (by decide) shC_3 rfl (fun q9 e9 => c_X0_hasRoad isCo_3 e9) h hl.1 rfl rfl (Nat.le_of_ble_eq_true rfl) dX11_bars_5 (fun v1 H locs h I => ?_)
  refine lv_if_ne (tgt := 17) hx hb dX11_bars_8 (by decide) (fun z => ?_) (fun z => ?_)
  · have h := sg_iff h z
    refine lv_aload_n hx hb dX11_bars_17 rfl (lv_at hl 0 rfl) ?_
    refine sg_getr X I fk_X11_52 (j := 37) (by decide) shC_0 rfl dX11_bars_18 ?_
    refine sg_getiN X I fn_X11_178 (isSt_i0 isSt_37) (isSt_s0 isSt_37) rfl dX11_bars_21 ?_
    refine lv_iconst (v := 1) hx hb dX11_bars_24 (by decide) ?_
    refine lv_icmp_ge (tgt := 34) hx hb dX11_bars_25 (by decide) (fun z => ?_) (fun z => ?_)
    · have h := sg_ift h z
      refine lv_aload_n hx hb dX11_bars_34 rfl (lv_at hl 0 rfl) ?_
      refine sg_getr X I fk_X11_71 (j := 52) (by decide) shC_0 rfl dX11_bars_35 ?_
      refine lv_aload_n hx hb dX11_bars_38 rfl (lv_at hl 0 rfl) ?_
      refine sg_getr X I fk_X11_52 (j := 37) (by decide) shC_0 rfl dX11_bars_39 ?_
      refine sg_callVv (As := [.ref (sgA P 37)]) X I mk_X11_252 (by decide) (by decide) shC_52 rfl (fun q9 e9 => c_X6_remember isSt_37 e9) h hl.1 rfl rfl (Nat.le_of_ble_eq_true rfl) dX11_bars_42 (fun v2 s3 H locs h I => ?_)
      refine lv_aload_n hx hb dX11_bars_45 rfl (lv_at hl 0 rfl) ?_
      refine sg_getr X I fk_X11_52 (j := 37) (by decide) shC_0 rfl dX11_bars_46 ?_
      refine lv_dup hx hb dX11_bars_49 rfl ?_
      refine sg_getiN X I fn_X11_178 (isSt_i0 isSt_37) (isSt_s0 isSt_37) rfl dX11_bars_50 ?_
      refine lv_iconst (v := 1) hx hb dX11_bars_53 (by decide) ?_
      refine lv_isub hx hb dX11_bars_54 ?_
      refine sg_putiN X I fn_X11_178 wk_8_6 rfl rfl (isSt_i0 isSt_37) (isSt_s0 isSt_37) rfl h dX11_bars_55 (fun s4 H locs h I => ?_)
      refine lv_aload_n hx hb dX11_bars_58 rfl (lv_at hl 0 rfl) ?_
      refine sg_getr X I fk_X11_52 (j := 37) (by decide) shC_0 rfl dX11_bars_59 ?_
      refine lv_dup hx hb dX11_bars_62 rfl ?_
      refine sg_getiN X I fn_X11_206 (isSt_i0 isSt_37) (isSt_s0 isSt_37) rfl dX11_bars_63 ?_
      refine lv_iconst (v := 1) hx hb dX11_bars_66 (by decide) ?_
      refine lv_iload_n hx hb dX11_bars_67 rfl (lv_at hl 1 rfl) ?_
      refine lv_ishl hx hb dX11_bars_68 ?_
      refine lv_ixor hx hb dX11_bars_69 ?_
      refine sg_putiN X I fn_X11_206 wk_8_5 rfl rfl (isSt_i0 isSt_37) (isSt_s0 isSt_37) rfl h dX11_bars_70 (fun s5 H locs h I => ?_)
      refine lv_aload_n hx hb dX11_bars_73 rfl (lv_at hl 0 rfl) ?_
      refine sg_getr X I fk_X11_52 (j := 37) (by decide) shC_0 rfl dX11_bars_74 ?_
      refine sg_getiN X I fn_X11_206 (isSt_i0 isSt_37) (isSt_s0 isSt_37) rfl dX11_bars_77 ?_
      refine lv_iload_n hx hb dX11_bars_80 rfl (lv_at hl 1 rfl) ?_
      refine lv_ishr hx hb dX11_bars_81 ?_
      refine lv_iconst (v := 1) hx hb dX11_bars_82 (by decide) ?_
      refine lv_iand hx hb dX11_bars_83 ?_
      obtain rfl := Option.some.inj h
      exact hk _ _ _ _ _ I ⟨_, rfl, rfl⟩ dX11_bars_84
    · have h := sg_iff h z
      refine lv_aload_n hx hb dX11_bars_28 rfl (lv_at hl 0 rfl) ?_
      refine lv_iconst (v := 3) hx hb dX11_bars_29 (by decide) ?_
      refine sg_callV (As := [.int 3]) X I mk_X11_246 (by decide) (by decide) shC_0 rfl (fun q9 e9 => c_X11_refuse e9) h hl.1 rfl rfl (Nat.le_of_ble_eq_true rfl) dX11_bars_30 (fun v6 s7 H locs h I => ?_)
      obtain rfl := Option.some.inj h
      exact hk _ _ _ _ _ I ⟨_, rfl, rfl⟩ dX11_bars_33
  · have h := sg_ift h z
    refine lv_aload_n hx hb dX11_bars_11 rfl (lv_at hl 0 rfl) ?_
    refine lv_iconst (v := 0) hx hb dX11_bars_12 (by decide) ?_
    refine sg_callV (As := [.int 0]) X I mk_X11_246 (by decide) (by decide) shC_0 rfl (fun q9 e9 => c_X11_refuse e9) h hl.1 rfl rfl (Nat.le_of_ble_eq_true rfl) dX11_bars_13 (fun v8 s9 H locs h I => ?_)
    obtain rfl := Option.some.inj h
    exact hk _ _ _ _ _ I ⟨_, rfl, rfl⟩ dX11_bars_16
set_option maxHeartbeats 4000000 in
set_option maxRecDepth 100000 in
theorem c_X11_bars {l : Launch} {P : sgP} {N : Nat} {p1 : Int32} {σ : sgS} {q : Int32 × sgS} (h : f_X11_bars N p1 σ = some q) : sg_Mi P shC 332 l yX11_bars cX11_bars 2 (some .int) 4 [.ref (sgA P 0), .int p1] σ q := by
  refine sg_mki (plainFor_of_name (by decide +kernel)) (Nat.le_of_ble_eq_true rfl) ?_
  intro p e R s m args below meth c Q A ls H locs X I hl hk
  exact b_X11_bars X I hl h hk
def f_X11_give (N : Nat) (p1 : Int32) (σ : sgS) : Option (Int32 × sgS) :=
  sg_cr (f_X0_isTold N 3 σ) fun v1 =>
if v1 = 0 then
  (sg_cl (f_X11_refuse N 0 σ) fun v11 s12 =>
  some (v11, s12))
else
  (if p1 < 1 then
    (sg_cl (f_X11_refuse N 1 σ) fun v2 s3 =>
    some (v2, s3))
  else
    (if 50 < p1 then
      (sg_cl (f_X11_refuse N 1 σ) fun v4 s5 =>
      some (v4, s5))
    else
      (if ((σ.1 37 6) + p1) ≤ 999 then
        (sg_cl (f_X6_remember N 37 σ) fun v6 s7 =>
        sg_pf s7 37 6 ((s7.1 37 6) + p1) fun s8 =>
        some (s8.1 37 6, s8))
      else
        (sg_cl (f_X11_refuse N 1 σ) fun v9 s10 =>
        some (v9, s10)))))
set_option maxHeartbeats 4000000 in
set_option maxRecDepth 100000 in
theorem b_X11_give {p : Program} {l : Launch} {e : Env} {R : Room} {s : State} {m : MethodId} {args : Array Value} {below : List Frame} {meth : Method} {c : Code} {Q : State → Prop} {P : sgP} {A : Nat → Prop} {N : Nat} {p1 : Int32} {σ : sgS} (X : sg_C P A 4 p R s m args c cX11_give 2 RX11) {H : Heap} {locs : List Loc} (I : sg_I P shC 332 A s.heap σ H locs) {ls : Array Slot} (hl : lv_has ls 2 [(0, .ref (sgA P 0)), (1, .int p1)]) {st : Int32 × sgS} (h : f_X11_give N p1 σ = some st) (hk : sg_Ri p l e R s m args below meth c Q P shC 332 A cX11_give (some .int) st) : W p l e R s m args below meth c H locs 0 0 Q (F0 m 0 ls []) := by
  unfold f_X11_give at h
  have hx := X.1.1
  have hb := X.1.2.1
  have hown := X.1.2.2.2.1
  have hts := X.1.2.2.2.2
  refine lv_aload_n hx hb dX11_give_0 rfl (lv_at hl 0 rfl) ?_
  refine sg_getr X I fk_X11_19 (j := 3) (by decide) shC_0 rfl dX11_give_1 ?_
  refine sg_callVr (As := []) X I mk_X11_172 (by decide) (by decide) shC_3 rfl (fun q9 e9 => c_X0_isTold isCo_3 e9) h hl.1 rfl rfl (Nat.le_of_ble_eq_true rfl) dX11_give_4 (fun v1 H locs h I => ?_)
  refine lv_if_ne (tgt := 16) hx hb dX11_give_7 (by decide) (fun z => ?_) (fun z => ?_)
  · have h := sg_iff h z
    refine lv_iload_n hx hb dX11_give_16 rfl (lv_at hl 1 rfl) ?_
    refine lv_iconst (v := 1) hx hb dX11_give_17 (by decide) ?_
    refine lv_icmp_lt (tgt := 42) hx hb dX11_give_18 (by decide) (fun z => ?_) (fun z => ?_)
    · have h := sg_ift h z
      refine lv_aload_n hx hb dX11_give_42 rfl (lv_at hl 0 rfl) ?_
      refine lv_iconst (v := 1) hx hb dX11_give_43 (by decide) ?_
      refine sg_callV (As := [.int 1]) X I mk_X11_246 (by decide) (by decide) shC_0 rfl (fun q9 e9 => c_X11_refuse e9) h hl.1 rfl rfl (Nat.le_of_ble_eq_true rfl) dX11_give_44 (fun v2 s3 H locs h I => ?_)
      obtain rfl := Option.some.inj h
      exact hk _ _ _ _ _ I ⟨_, rfl, rfl⟩ dX11_give_47
    · have h := sg_iff h z
      refine lv_iload_n hx hb dX11_give_21 rfl (lv_at hl 1 rfl) ?_
      refine lv_bipush (v := 50) hx hb dX11_give_22 (by decide) ?_
      refine lv_icmp_gt (tgt := 42) hx hb dX11_give_24 (by decide) (fun z => ?_) (fun z => ?_)
      · have h := sg_ift h z
        refine lv_aload_n hx hb dX11_give_42 rfl (lv_at hl 0 rfl) ?_
        refine lv_iconst (v := 1) hx hb dX11_give_43 (by decide) ?_
        refine sg_callV (As := [.int 1]) X I mk_X11_246 (by decide) (by decide) shC_0 rfl (fun q9 e9 => c_X11_refuse e9) h hl.1 rfl rfl (Nat.le_of_ble_eq_true rfl) dX11_give_44 (fun v4 s5 H locs h I => ?_)
        obtain rfl := Option.some.inj h
        exact hk _ _ _ _ _ I ⟨_, rfl, rfl⟩ dX11_give_47
      · have h := sg_iff h z
        refine lv_aload_n hx hb dX11_give_27 rfl (lv_at hl 0 rfl) ?_
        refine sg_getr X I fk_X11_52 (j := 37) (by decide) shC_0 rfl dX11_give_28 ?_
        refine sg_getiN X I fn_X11_178 (isSt_i0 isSt_37) (isSt_s0 isSt_37) rfl dX11_give_31 ?_
        refine lv_iload_n hx hb dX11_give_34 rfl (lv_at hl 1 rfl) ?_
        refine lv_iadd hx hb dX11_give_35 ?_
        refine lv_sipush (v := 999) hx hb dX11_give_36 (by decide) ?_
        refine lv_icmp_le (tgt := 48) hx hb dX11_give_39 (by decide) (fun z => ?_) (fun z => ?_)
        · have h := sg_ift h z
          refine lv_aload_n hx hb dX11_give_48 rfl (lv_at hl 0 rfl) ?_
          refine sg_getr X I fk_X11_71 (j := 52) (by decide) shC_0 rfl dX11_give_49 ?_
          refine lv_aload_n hx hb dX11_give_52 rfl (lv_at hl 0 rfl) ?_
          refine sg_getr X I fk_X11_52 (j := 37) (by decide) shC_0 rfl dX11_give_53 ?_
          refine sg_callVv (As := [.ref (sgA P 37)]) X I mk_X11_252 (by decide) (by decide) shC_52 rfl (fun q9 e9 => c_X6_remember isSt_37 e9) h hl.1 rfl rfl (Nat.le_of_ble_eq_true rfl) dX11_give_56 (fun v6 s7 H locs h I => ?_)
          refine lv_aload_n hx hb dX11_give_59 rfl (lv_at hl 0 rfl) ?_
          refine sg_getr X I fk_X11_52 (j := 37) (by decide) shC_0 rfl dX11_give_60 ?_
          refine lv_dup hx hb dX11_give_63 rfl ?_
          refine sg_getiN X I fn_X11_178 (isSt_i0 isSt_37) (isSt_s0 isSt_37) rfl dX11_give_64 ?_
          refine lv_iload_n hx hb dX11_give_67 rfl (lv_at hl 1 rfl) ?_
          refine lv_iadd hx hb dX11_give_68 ?_
          refine sg_putiN X I fn_X11_178 wk_8_6 rfl rfl (isSt_i0 isSt_37) (isSt_s0 isSt_37) rfl h dX11_give_69 (fun s8 H locs h I => ?_)
          refine lv_aload_n hx hb dX11_give_72 rfl (lv_at hl 0 rfl) ?_
          refine sg_getr X I fk_X11_52 (j := 37) (by decide) shC_0 rfl dX11_give_73 ?_
          refine sg_getiN X I fn_X11_178 (isSt_i0 isSt_37) (isSt_s0 isSt_37) rfl dX11_give_76 ?_
          obtain rfl := Option.some.inj h
          exact hk _ _ _ _ _ I ⟨_, rfl, rfl⟩ dX11_give_79
        · have h := sg_iff h z
          refine lv_aload_n hx hb dX11_give_42 rfl (lv_at hl 0 rfl) ?_
          refine lv_iconst (v := 1) hx hb dX11_give_43 (by decide) ?_
          refine sg_callV (As := [.int 1]) X I mk_X11_246 (by decide) (by decide) shC_0 rfl (fun q9 e9 => c_X11_refuse e9) h hl.1 rfl rfl (Nat.le_of_ble_eq_true rfl) dX11_give_44 (fun v9 s10 H locs h I => ?_)
          obtain rfl := Option.some.inj h
          exact hk _ _ _ _ _ I ⟨_, rfl, rfl⟩ dX11_give_47
  · have h := sg_ift h z
    refine lv_aload_n hx hb dX11_give_10 rfl (lv_at hl 0 rfl) ?_
    refine lv_iconst (v := 0) hx hb dX11_give_11 (by decide) ?_
    refine sg_callV (As := [.int 0]) X I mk_X11_246 (by decide) (by decide) shC_0 rfl (fun q9 e9 => c_X11_refuse e9) h hl.1 rfl rfl (Nat.le_of_ble_eq_true rfl) dX11_give_12 (fun v11 s12 H locs h I => ?_)
    obtain rfl := Option.some.inj h
    exact hk _ _ _ _ _ I ⟨_, rfl, rfl⟩ dX11_give_15
set_option maxHeartbeats 4000000 in
set_option maxRecDepth 100000 in
theorem c_X11_give {l : Launch} {P : sgP} {N : Nat} {p1 : Int32} {σ : sgS} {q : Int32 × sgS} (h : f_X11_give N p1 σ = some q) : sg_Mi P shC 332 l yX11_give cX11_give 2 (some .int) 4 [.ref (sgA P 0), .int p1] σ q := by
  refine sg_mki (plainFor_of_name (by decide +kernel)) (Nat.le_of_ble_eq_true rfl) ?_
  intro p e R s m args below meth c Q A ls H locs X I hl hk
  exact b_X11_give X I hl h hk
def f_X11_flood (N : Nat) (p1 : Int32) (σ : sgS) : Option (Int32 × sgS) :=
  if p1 < 0 then
  (some (vp_nar .boolean 0, σ))
else
  (if 9 < p1 then
    (some (vp_nar .boolean 0, σ))
  else
    (if p1 = (σ.1 0 14) then
      (some (vp_nar .boolean 0, σ))
    else
      (sg_pf σ 0 14 p1 fun s1 =>
      some (vp_nar .boolean 1, s1))))
set_option maxHeartbeats 4000000 in
set_option maxRecDepth 100000 in
theorem b_X11_flood {p : Program} {l : Launch} {e : Env} {R : Room} {s : State} {m : MethodId} {args : Array Value} {below : List Frame} {meth : Method} {c : Code} {Q : State → Prop} {P : sgP} {A : Nat → Prop} {N : Nat} {p1 : Int32} {σ : sgS} (X : sg_C P A 1 p R s m args c cX11_flood 2 RX11) {H : Heap} {locs : List Loc} (I : sg_I P shC 332 A s.heap σ H locs) {ls : Array Slot} (hl : lv_has ls 2 [(0, .ref (sgA P 0)), (1, .int p1)]) {st : Int32 × sgS} (h : f_X11_flood N p1 σ = some st) (hk : sg_Ri p l e R s m args below meth c Q P shC 332 A cX11_flood (some .boolean) st) : W p l e R s m args below meth c H locs 0 0 Q (F0 m 0 ls []) := by
  unfold f_X11_flood at h
  have hx := X.1.1
  have hb := X.1.2.1
  have hown := X.1.2.2.2.1
  have hts := X.1.2.2.2.2
  refine lv_iload_n hx hb dX11_flood_0 rfl (lv_at hl 1 rfl) ?_
  refine lv_if_lt (tgt := 18) hx hb dX11_flood_1 (by decide) (fun z => ?_) (fun z => ?_)
  · have h := sg_ift h z
    refine lv_iconst (v := 0) hx hb dX11_flood_18 (by decide) ?_
    obtain rfl := Option.some.inj h
    exact hk _ _ _ _ _ I ⟨_, rfl, rfl⟩ dX11_flood_19
  · have h := sg_iff h z
    refine lv_iload_n hx hb dX11_flood_4 rfl (lv_at hl 1 rfl) ?_
    refine lv_bipush (v := 9) hx hb dX11_flood_5 (by decide) ?_
    refine lv_icmp_gt (tgt := 18) hx hb dX11_flood_7 (by decide) (fun z => ?_) (fun z => ?_)
    · have h := sg_ift h z
      refine lv_iconst (v := 0) hx hb dX11_flood_18 (by decide) ?_
      obtain rfl := Option.some.inj h
      exact hk _ _ _ _ _ I ⟨_, rfl, rfl⟩ dX11_flood_19
    · have h := sg_iff h z
      refine lv_iload_n hx hb dX11_flood_10 rfl (lv_at hl 1 rfl) ?_
      refine lv_aload_n hx hb dX11_flood_11 rfl (lv_at hl 0 rfl) ?_
      refine sg_geti X I fk_X11_106 (by decide) shC_0 rfl dX11_flood_12 ?_
      refine lv_icmp_ne (tgt := 20) hx hb dX11_flood_15 (by decide) (fun z => ?_) (fun z => ?_)
      · have h := sg_iff h z
        refine lv_aload_n hx hb dX11_flood_20 rfl (lv_at hl 0 rfl) ?_
        refine lv_iload_n hx hb dX11_flood_21 rfl (lv_at hl 1 rfl) ?_
        refine sg_puti X I fk_X11_106 wk_11_14 rfl rfl (by decide) shC_0 rfl h dX11_flood_22 (fun s1 H locs h I => ?_)
        refine lv_iconst (v := 1) hx hb dX11_flood_25 (by decide) ?_
        obtain rfl := Option.some.inj h
        exact hk _ _ _ _ _ I ⟨_, rfl, rfl⟩ dX11_flood_26
      · have h := sg_ift h z
        refine lv_iconst (v := 0) hx hb dX11_flood_18 (by decide) ?_
        obtain rfl := Option.some.inj h
        exact hk _ _ _ _ _ I ⟨_, rfl, rfl⟩ dX11_flood_19
set_option maxHeartbeats 4000000 in
set_option maxRecDepth 100000 in
theorem c_X11_flood {l : Launch} {P : sgP} {N : Nat} {p1 : Int32} {σ : sgS} {q : Int32 × sgS} (h : f_X11_flood N p1 σ = some q) : sg_Mi P shC 332 l yX11_flood cX11_flood 2 (some .boolean) 1 [.ref (sgA P 0), .int p1] σ q := by
  refine sg_mki (plainFor_of_name (by decide +kernel)) (Nat.le_of_ble_eq_true rfl) ?_
  intro p e R s m args below meth c Q A ls H locs X I hl hk
  exact b_X11_flood X I hl h hk
def f_X11_draw (N : Nat) (p1 : Int32) (σ : sgS) : Option (Int32 × sgS) :=
  sg_pl σ 0 (((σ.2 0) * 6364136223846793005) + 1442695040888963407) fun s1 =>
if p1 ≤ 0 then
  (some (0, s1))
else
  (sg_nzl p1.toInt64 (
    some (((sg_lushr (s1.2 0) 33) - (sg_lushr (s1.2 0) 33) / p1.toInt64 * p1.toInt64).toInt32, s1)))
set_option maxHeartbeats 4000000 in
set_option maxRecDepth 100000 in
theorem b_X11_draw {p : Program} {l : Launch} {e : Env} {R : Room} {s : State} {m : MethodId} {args : Array Value} {below : List Frame} {meth : Method} {c : Code} {Q : State → Prop} {P : sgP} {A : Nat → Prop} {N : Nat} {p1 : Int32} {σ : sgS} (X : sg_C P A 1 p R s m args c cX11_draw 2 RX11) {H : Heap} {locs : List Loc} (I : sg_I P shC 332 A s.heap σ H locs) {ls : Array Slot} (hl : lv_has ls 2 [(0, .ref (sgA P 0)), (1, .int p1)]) {st : Int32 × sgS} (h : f_X11_draw N p1 σ = some st) (hk : sg_Ri p l e R s m args below meth c Q P shC 332 A cX11_draw (some .int) st) : W p l e R s m args below meth c H locs 0 0 Q (F0 m 0 ls []) := by
  unfold f_X11_draw at h
  have hx := X.1.1
  have hb := X.1.2.1
  have hown := X.1.2.2.2.1
  have hts := X.1.2.2.2.2
  refine lv_aload_n hx hb dX11_draw_0 rfl (lv_at hl 0 rfl) ?_
  refine lv_aload_n hx hb dX11_draw_1 rfl (lv_at hl 0 rfl) ?_
  refine sg_getl X I fk_X11_276 (by decide) shC_0 rfl dX11_draw_2 ?_
  refine lv_ldc2 (v := 6364136223846793005) hx hb hown (hts _ qw_1043) dX11_draw_5 ?_
  refine lv_lmul hx hb dX11_draw_8 ?_
  refine lv_ldc2 (v := 1442695040888963407) hx hb hown (hts _ qw_1044) dX11_draw_9 ?_
  refine lv_ladd hx hb dX11_draw_12 ?_
  refine sg_putl X I fk_X11_276 wk_11_15 (by decide) shC_0 rfl (by decide) (by decide) h dX11_draw_13 (fun s1 H locs h I => ?_)
  refine lv_iload_n hx hb dX11_draw_16 rfl (lv_at hl 1 rfl) ?_
  refine lv_if_le (tgt := 34) hx hb dX11_draw_17 (by decide) (fun z => ?_) (fun z => ?_)
  · have h := sg_ift h z
    refine lv_iconst (v := 0) hx hb dX11_draw_34 (by decide) ?_
    obtain rfl := Option.some.inj h
    exact hk _ _ _ _ _ I ⟨_, rfl, rfl⟩ dX11_draw_35
  · have h := sg_iff h z
    refine lv_aload_n hx hb dX11_draw_20 rfl (lv_at hl 0 rfl) ?_
    refine sg_getl X I fk_X11_276 (by decide) shC_0 rfl dX11_draw_21 ?_
    refine lv_bipush (v := 33) hx hb dX11_draw_24 (by decide) ?_
    refine lv_lushr (v := sg_lushr (s1.2 0) 33) hx hb dX11_draw_26 rfl ?_
    refine lv_iload_n hx hb dX11_draw_27 rfl (lv_at hl 1 rfl) ?_
    refine lv_i2l (v := p1.toInt64) hx hb dX11_draw_28 rfl ?_
    refine sg_nzlW (h := h) (fun z h => ?_)
    refine lv_lrem hx hb dX11_draw_29 z ?_
    refine lv_l2i (v := ((sg_lushr (s1.2 0) 33) - (sg_lushr (s1.2 0) 33) / p1.toInt64 * p1.toInt64).toInt32) hx hb dX11_draw_30 rfl ?_
    refine lv_goto (tgt := 35) hx hb dX11_draw_31 (by decide) ?_
    obtain rfl := Option.some.inj h
    exact hk _ _ _ _ _ I ⟨_, rfl, rfl⟩ dX11_draw_35
set_option maxHeartbeats 4000000 in
set_option maxRecDepth 100000 in
theorem c_X11_draw {l : Launch} {P : sgP} {N : Nat} {p1 : Int32} {σ : sgS} {q : Int32 × sgS} (h : f_X11_draw N p1 σ = some q) : sg_Mi P shC 332 l yX11_draw cX11_draw 2 (some .int) 1 [.ref (sgA P 0), .int p1] σ q := by
  refine sg_mki (plainFor_of_name (by decide +kernel)) (Nat.le_of_ble_eq_true rfl) ?_
  intro p e R s m args below meth c Q A ls H locs X I hl hk
  exact b_X11_draw X I hl h hk
def f_X11_drawFlood (N : Nat) (σ : sgS) : Option (Int32 × sgS) :=
  sg_cl (f_X11_draw N 10 σ) fun v1 s2 =>
if (s2.1 0 14) ≤ v1 then
  (some (0, s2))
else
  (sg_cl (f_X11_draw N (s2.1 3 4) s2) fun v3 s4 =>
  sg_pf s4 37 5 ((s2.1 37 5) ^^^ (1 <<< (v3 &&& 31))) fun s5 =>
  some (0, s5))
set_option maxHeartbeats 4000000 in
set_option maxRecDepth 100000 in
theorem b_X11_drawFlood {p : Program} {l : Launch} {e : Env} {R : Room} {s : State} {m : MethodId} {args : Array Value} {below : List Frame} {meth : Method} {c : Code} {Q : State → Prop} {P : sgP} {A : Nat → Prop} {N : Nat} {σ : sgS} (X : sg_C P A 2 p R s m args c cX11_drawFlood 1 RX11) {H : Heap} {locs : List Loc} (I : sg_I P shC 332 A s.heap σ H locs) {ls : Array Slot} (hl : lv_has ls 1 [(0, .ref (sgA P 0))]) {st : Int32 × sgS} (h : f_X11_drawFlood N σ = some st) (hk : sg_Rv p l e R s m args below meth c Q P shC 332 A cX11_drawFlood st) : W p l e R s m args below meth c H locs 0 0 Q (F0 m 0 ls []) := by
  unfold f_X11_drawFlood at h
  have hx := X.1.1
  have hb := X.1.2.1
  have hown := X.1.2.2.2.1
  have hts := X.1.2.2.2.2
  refine lv_aload_n hx hb dX11_drawFlood_0 rfl (lv_at hl 0 rfl) ?_
  refine lv_bipush (v := 10) hx hb dX11_drawFlood_1 (by decide) ?_
  refine sg_callV (As := [.int 10]) X I mk_X11_286 (by decide) (by decide) shC_0 rfl (fun q9 e9 => c_X11_draw e9) h hl.1 rfl rfl (Nat.le_of_ble_eq_true rfl) dX11_drawFlood_3 (fun v1 s2 H locs h I => ?_)
  refine lv_aload_n hx hb dX11_drawFlood_6 rfl (lv_at hl 0 rfl) ?_
  refine sg_geti X I fk_X11_106 (by decide) shC_0 rfl dX11_drawFlood_7 ?_
  refine lv_icmp_ge (tgt := 38) hx hb dX11_drawFlood_10 (by decide) (fun z => ?_) (fun z => ?_)
  · have h := sg_ift h z
    obtain rfl := Option.some.inj h
    exact hk _ _ _ _ I dX11_drawFlood_38
  · have h := sg_iff h z
    refine lv_aload_n hx hb dX11_drawFlood_13 rfl (lv_at hl 0 rfl) ?_
    refine sg_getr X I fk_X11_52 (j := 37) (by decide) shC_0 rfl dX11_drawFlood_14 ?_
    refine lv_dup hx hb dX11_drawFlood_17 rfl ?_
    refine sg_getiN X I fn_X11_206 (isSt_i0 isSt_37) (isSt_s0 isSt_37) rfl dX11_drawFlood_18 ?_
    refine lv_iconst (v := 1) hx hb dX11_drawFlood_21 (by decide) ?_
    refine lv_aload_n hx hb dX11_drawFlood_22 rfl (lv_at hl 0 rfl) ?_
    refine lv_aload_n hx hb dX11_drawFlood_23 rfl (lv_at hl 0 rfl) ?_
    refine sg_getr X I fk_X11_19 (j := 3) (by decide) shC_0 rfl dX11_drawFlood_24 ?_
    refine sg_getiN X I fn_X11_289 (by decide) shC_3 rfl dX11_drawFlood_27 ?_
    refine sg_callV (As := [.int (s2.1 3 4)]) X I mk_X11_286 (by decide) (by decide) shC_0 rfl (fun q9 e9 => c_X11_draw e9) h hl.1 rfl rfl (Nat.le_of_ble_eq_true rfl) dX11_drawFlood_30 (fun v3 s4 H locs h I => ?_)
    refine lv_ishl hx hb dX11_drawFlood_33 ?_
    refine lv_ixor hx hb dX11_drawFlood_34 ?_
    refine sg_putiN X I fn_X11_206 wk_8_5 rfl rfl (isSt_i0 isSt_37) (isSt_s0 isSt_37) rfl h dX11_drawFlood_35 (fun s5 H locs h I => ?_)
    obtain rfl := Option.some.inj h
    exact hk _ _ _ _ I dX11_drawFlood_38
set_option maxHeartbeats 4000000 in
set_option maxRecDepth 100000 in
theorem c_X11_drawFlood {l : Launch} {P : sgP} {N : Nat} {σ : sgS} {q : Int32 × sgS} (h : f_X11_drawFlood N σ = some q) : sg_Mv P shC 332 l yX11_drawFlood cX11_drawFlood 1 none 2 [.ref (sgA P 0)] σ q := by
  refine sg_mkv (plainFor_of_name (by decide +kernel)) (Nat.le_of_ble_eq_true rfl) ?_
  intro p e R s m args below meth c Q A ls H locs X I hl hk
  exact b_X11_drawFlood X I hl h hk
def f_X11_drawPut (N : Nat) (σ : sgS) : Option (Int32 × sgS) :=
  sg_cl (f_X11_draw N (σ.1 3 5) σ) fun v1 s2 =>
sg_cl (f_X11_draw N 4 s2) fun v3 s4 =>
sg_cr (f_X0_hasSet N 3 v1 s4) fun v5 =>
if v5 = 0 then
  (some (0, s4))
else
  (sg_ld s4 (37 + 2) 4 v1 fun v6 =>
  if v6 = ((-1)) then
    (sg_cr (f_X10_has N v3 s4) fun v7 =>
    if v7 = 0 then
      (some (0, s4))
    else
      (sg_cr (f_X10_placeAt N v3 0 s4) fun v8 =>
      sg_ld s4 (37 + 1) 4 v1 fun v9 =>
      if v8 = v9 then
        (sg_cl (f_X8_putTo N 37 v1 v3 s4) fun v10 s11 =>
        some (0, s11))
      else
        (some (0, s4))))
  else
    (some (0, s4)))
set_option maxHeartbeats 4000000 in
set_option maxRecDepth 100000 in
theorem b_X11_drawPut {p : Program} {l : Launch} {e : Env} {R : Room} {s : State} {m : MethodId} {args : Array Value} {below : List Frame} {meth : Method} {c : Code} {Q : State → Prop} {P : sgP} {A : Nat → Prop} {N : Nat} {σ : sgS} (X : sg_C P A 3 p R s m args c cX11_drawPut 3 RX11) {H : Heap} {locs : List Loc} (I : sg_I P shC 332 A s.heap σ H locs) {ls : Array Slot} (hl : lv_has ls 3 [(0, .ref (sgA P 0))]) {st : Int32 × sgS} (h : f_X11_drawPut N σ = some st) (hk : sg_Rv p l e R s m args below meth c Q P shC 332 A cX11_drawPut st) : W p l e R s m args below meth c H locs 0 0 Q (F0 m 0 ls []) := by
  unfold f_X11_drawPut at h
  have hx := X.1.1
  have hb := X.1.2.1
  have hown := X.1.2.2.2.1
  have hts := X.1.2.2.2.2
  refine lv_aload_n hx hb dX11_drawPut_0 rfl (lv_at hl 0 rfl) ?_
  refine lv_aload_n hx hb dX11_drawPut_1 rfl (lv_at hl 0 rfl) ?_
  refine sg_getr X I fk_X11_19 (j := 3) (by decide) shC_0 rfl dX11_drawPut_2 ?_
  refine sg_getiN X I fn_X11_292 (by decide) shC_3 rfl dX11_drawPut_5 ?_
  refine sg_callV (As := [.int (σ.1 3 5)]) X I mk_X11_286 (by decide) (by decide) shC_0 rfl (fun q9 e9 => c_X11_draw e9) h hl.1 rfl rfl (Nat.le_of_ble_eq_true rfl) dX11_drawPut_8 (fun v1 s2 H locs h I => ?_)
  refine lv_istore_n (lv' := [(1, .int v1), (0, .ref (sgA P 0))]) hx hb dX11_drawPut_11 rfl hl (by decide) rfl (fun ls hl => ?_)
  refine lv_aload_n hx hb dX11_drawPut_12 rfl (lv_at hl 1 rfl) ?_
  refine lv_iconst (v := 4) hx hb dX11_drawPut_13 (by decide) ?_
  refine sg_callV (As := [.int 4]) X I mk_X11_286 (by decide) (by decide) shC_0 rfl (fun q9 e9 => c_X11_draw e9) h hl.1 rfl rfl (Nat.le_of_ble_eq_true rfl) dX11_drawPut_14 (fun v3 s4 H locs h I => ?_)
  refine lv_istore_n (lv' := [(2, .int v3), (1, .int v1), (0, .ref (sgA P 0))]) hx hb dX11_drawPut_17 rfl hl (by decide) rfl (fun ls hl => ?_)
  refine lv_aload_n hx hb dX11_drawPut_18 rfl (lv_at hl 2 rfl) ?_
  refine sg_getr X I fk_X11_19 (j := 3) (by decide) shC_0 rfl dX11_drawPut_19 ?_
  refine lv_iload_n hx hb dX11_drawPut_22 rfl (lv_at hl 1 rfl) ?_
  refine sg_callVr (As := [.int v1]) X I mk_X11_209 (by decide) (by decide) shC_3 rfl (fun q9 e9 => c_X0_hasSet isCo_3 e9) h hl.1 rfl rfl (Nat.le_of_ble_eq_true rfl) dX11_drawPut_23 (fun v5 H locs h I => ?_)
  refine lv_if_eq (tgt := 83) hx hb dX11_drawPut_26 (by decide) (fun z => ?_) (fun z => ?_)
  · have h := sg_ift h z
    obtain rfl := Option.some.inj h
    exact hk _ _ _ _ I dX11_drawPut_83
  · have h := sg_iff h z
    refine lv_aload_n hx hb dX11_drawPut_29 rfl (lv_at hl 2 rfl) ?_
    refine sg_getr X I fk_X11_52 (j := 37) (by decide) shC_0 rfl dX11_drawPut_30 ?_
    refine sg_getrN X I fn_X11_218 (j := 37 + 2) (isSt_i0 isSt_37) (isSt_s0 isSt_37) rfl dX11_drawPut_33 ?_
    refine lv_iload_n hx hb dX11_drawPut_36 rfl (lv_at hl 1 rfl) ?_
    refine sg_iald X I (isSt_i2 isSt_37) (isSt_s2 isSt_37) h dX11_drawPut_37 (fun v6 h => ?_)
    refine lv_iconst (v := -1) hx hb dX11_drawPut_38 (by decide) ?_
    refine lv_icmp_ne (tgt := 83) hx hb dX11_drawPut_39 (by decide) (fun z => ?_) (fun z => ?_)
    · have h := sg_iff h z
      obtain rfl := Option.some.inj h
      exact hk _ _ _ _ I dX11_drawPut_83
    · have h := sg_ift h z
      refine lv_aload_n hx hb dX11_drawPut_42 rfl (lv_at hl 2 rfl) ?_
      refine sg_getr X I fk_X11_45 (j := 29) (by decide) shC_0 rfl dX11_drawPut_43 ?_
      refine lv_iload_n hx hb dX11_drawPut_46 rfl (lv_at hl 0 rfl) ?_
      refine sg_callVr (As := [.int v3]) X I mk_X11_236 (by decide) (by decide) shC_29 rfl (fun q9 e9 => c_X10_has e9) h hl.1 rfl rfl (Nat.le_of_ble_eq_true rfl) dX11_drawPut_47 (fun v7 H locs h I => ?_)
      refine lv_if_eq (tgt := 83) hx hb dX11_drawPut_50 (by decide) (fun z => ?_) (fun z => ?_)
      · have h := sg_ift h z
        obtain rfl := Option.some.inj h
        exact hk _ _ _ _ I dX11_drawPut_83
      · have h := sg_iff h z
        refine lv_aload_n hx hb dX11_drawPut_53 rfl (lv_at hl 2 rfl) ?_
        refine sg_getr X I fk_X11_45 (j := 29) (by decide) shC_0 rfl dX11_drawPut_54 ?_
        refine lv_iload_n hx hb dX11_drawPut_57 rfl (lv_at hl 0 rfl) ?_
        refine lv_iconst (v := 0) hx hb dX11_drawPut_58 (by decide) ?_
        refine sg_callVr (As := [.int v3, .int 0]) X I mk_X11_242 (by decide) (by decide) shC_29 rfl (fun q9 e9 => c_X10_placeAt e9) h hl.1 rfl rfl (Nat.le_of_ble_eq_true rfl) dX11_drawPut_59 (fun v8 H locs h I => ?_)
        refine lv_aload_n hx hb dX11_drawPut_62 rfl (lv_at hl 2 rfl) ?_
        refine sg_getr X I fk_X11_52 (j := 37) (by decide) shC_0 rfl dX11_drawPut_63 ?_
        refine sg_getrN X I fn_X11_215 (j := 37 + 1) (isSt_i0 isSt_37) (isSt_s0 isSt_37) rfl dX11_drawPut_66 ?_
        refine lv_iload_n hx hb dX11_drawPut_69 rfl (lv_at hl 1 rfl) ?_
        refine sg_iald X I (isSt_i1 isSt_37) (isSt_s1 isSt_37) h dX11_drawPut_70 (fun v9 h => ?_)
        refine lv_icmp_ne (tgt := 83) hx hb dX11_drawPut_71 (by decide) (fun z => ?_) (fun z => ?_)
        · have h := sg_iff h z
          obtain rfl := Option.some.inj h
          exact hk _ _ _ _ I dX11_drawPut_83
        · have h := sg_ift h z
          refine lv_aload_n hx hb dX11_drawPut_74 rfl (lv_at hl 2 rfl) ?_
          refine sg_getr X I fk_X11_52 (j := 37) (by decide) shC_0 rfl dX11_drawPut_75 ?_
          refine lv_iload_n hx hb dX11_drawPut_78 rfl (lv_at hl 1 rfl) ?_
          refine lv_iload_n hx hb dX11_drawPut_79 rfl (lv_at hl 0 rfl) ?_
          refine sg_callVv (As := [.int v1, .int v3]) X I mk_X11_269 (by decide) (isSt_i0 isSt_37) (isSt_s0 isSt_37) rfl (fun q9 e9 => c_X8_putTo isSt_37 e9) h hl.1 rfl rfl (Nat.le_of_ble_eq_true rfl) dX11_drawPut_80 (fun v10 s11 H locs h I => ?_)
          obtain rfl := Option.some.inj h
          exact hk _ _ _ _ I dX11_drawPut_83
set_option maxHeartbeats 4000000 in
set_option maxRecDepth 100000 in
theorem c_X11_drawPut {l : Launch} {P : sgP} {N : Nat} {σ : sgS} {q : Int32 × sgS} (h : f_X11_drawPut N σ = some q) : sg_Mv P shC 332 l yX11_drawPut cX11_drawPut 3 none 3 [.ref (sgA P 0)] σ q := by
  refine sg_mkv (plainFor_of_name (by decide +kernel)) (Nat.le_of_ble_eq_true rfl) ?_
  intro p e R s m args below meth c Q A ls H locs X I hl hk
  exact b_X11_drawPut X I hl h hk
def f_X11_years_L46 (N : Nat) (p1 : Int32) (p2 : Int64) (x4 : Int32) (σ : sgS) : Option ((Int32 × sgS) ⊕ ((sgS × Int32) ⊕ (sgS))) :=
  if p1 ≤ x4 then
  (some (.inr (.inr σ)))
else
  (sg_cl (f_X6_remember N 37 σ) fun v3 s4 =>
  sg_cl (f_X11_drawFlood N s4) fun v5 s6 =>
  sg_cl (f_X11_drawPut N s6) fun v7 s8 =>
  sg_cl (f_X11_passDay N s8) fun v9 s10 =>
  some (.inr (.inl (s10, x4 + 1))))
set_option maxHeartbeats 4000000 in
set_option maxRecDepth 100000 in
theorem b_X11_years_L46 {p : Program} {l : Launch} {e : Env} {R : Room} {s : State} {m : MethodId} {args : Array Value} {below : List Frame} {meth : Method} {c : Code} {Q : State → Prop} {P : sgP} {A : Nat → Prop} {N : Nat} {p1 : Int32} {p2 : Int64} {x4 : Int32} {σ : sgS} (X : sg_C P A 7 p R s m args c cX11_years 5 RX11) {H : Heap} {locs : List Loc} (I : sg_I P shC 332 A s.heap σ H locs) {ls : Array Slot} (hl : lv_has ls 5 [(0, .ref (sgA P 0)), (1, .int p1), (4, .int x4)]) {st : (Int32 × sgS) ⊕ ((sgS × Int32) ⊕ (sgS))} (h : f_X11_years_L46 N p1 p2 x4 σ = some st) (hk : sg_k3 (sg_Ri p l e R s m args below meth c Q P shC 332 A cX11_years (some .int)) (fun x => sg_Wt p l e R s m args below meth c Q P shC 332 A 5 46 x.1 [(0, .ref (sgA P 0)), (1, .int p1), (4, .int x.2)]) (fun y => sg_Wt p l e R s m args below meth c Q P shC 332 A 5 81 y [(0, .ref (sgA P 0))]) st) : W p l e R s m args below meth c H locs 0 0 Q (F0 m 46 ls []) := by
  unfold f_X11_years_L46 at h
  have hx := X.1.1
  have hb := X.1.2.1
  have hown := X.1.2.2.2.1
  have hts := X.1.2.2.2.2
  refine lv_iload hx hb dX11_years_46 (lv_at hl 2 rfl) ?_
  refine lv_iload_n hx hb dX11_years_48 rfl (lv_at hl 1 rfl) ?_
  refine lv_icmp_ge (tgt := 81) hx hb dX11_years_49 (by decide) (fun z => ?_) (fun z => ?_)
  · have h := sg_ift h z
    obtain rfl := Option.some.inj h
    exact sg_go hk I (lv_sub hl [0] rfl)
  · have h := sg_iff h z
    refine lv_aload_n hx hb dX11_years_52 rfl (lv_at hl 0 rfl) ?_
    refine sg_getr X I fk_X11_71 (j := 52) (by decide) shC_0 rfl dX11_years_53 ?_
    refine lv_aload_n hx hb dX11_years_56 rfl (lv_at hl 0 rfl) ?_
    refine sg_getr X I fk_X11_52 (j := 37) (by decide) shC_0 rfl dX11_years_57 ?_
    refine sg_callVv (As := [.ref (sgA P 37)]) X I mk_X11_252 (by decide) (by decide) shC_52 rfl (fun q9 e9 => c_X6_remember isSt_37 e9) h hl.1 rfl rfl (Nat.le_of_ble_eq_true rfl) dX11_years_60 (fun v3 s4 H locs h I => ?_)
    refine lv_aload_n hx hb dX11_years_63 rfl (lv_at hl 0 rfl) ?_
    refine sg_callVv (As := []) X I mk_X11_280 (by decide) (by decide) shC_0 rfl (fun q9 e9 => c_X11_drawFlood e9) h hl.1 rfl rfl (Nat.le_of_ble_eq_true rfl) dX11_years_64 (fun v5 s6 H locs h I => ?_)
    refine lv_aload_n hx hb dX11_years_67 rfl (lv_at hl 0 rfl) ?_
    refine sg_callVv (As := []) X I mk_X11_283 (by decide) (by decide) shC_0 rfl (fun q9 e9 => c_X11_drawPut e9) h hl.1 rfl rfl (Nat.le_of_ble_eq_true rfl) dX11_years_68 (fun v7 s8 H locs h I => ?_)
    refine lv_aload_n hx hb dX11_years_71 rfl (lv_at hl 0 rfl) ?_
    refine sg_callVv (As := []) X I mk_X11_255 (by decide) (by decide) shC_0 rfl (fun q9 e9 => c_X11_passDay e9) h hl.1 rfl rfl (Nat.le_of_ble_eq_true rfl) dX11_years_72 (fun v9 s10 H locs h I => ?_)
    refine lv_iinc (v := x4 + 1) (lv' := [(4, .int (x4 + 1)), (0, .ref (sgA P 0)), (1, .int p1)]) hx hb dX11_years_75 hl (k := 2) rfl rfl (by decide) rfl (fun ls hl => ?_)
    refine lv_goto (tgt := 46) hx hb dX11_years_78 (by decide) ?_
    obtain rfl := Option.some.inj h
    exact sg_go hk I (lv_sub hl [1, 2, 0] rfl)
def f_X11_years (N : Nat) (p1 : Int32) (p2 : Int64) (σ : sgS) : Option (Int32 × sgS) :=
  sg_cr (f_X0_isTold N 3 σ) fun v1 =>
if v1 = 0 then
  (some ((-1), σ))
else
  (if p1 < 1 then
    (some ((-1), σ))
  else
    (if 60 < p1 then
      (some ((-1), σ))
    else
      (if ((σ.1 37 7) + p1) ≤ 999 then
        (sg_pl σ 0 p2 fun s2 =>
        sg_lb (sg_lp (fun x => f_X11_years_L46 N p1 p2 x.2 x.1) N ((s2, 0))) (fun r => some r) fun y11 =>
        some (y11.1 37 7, y11))
      else
        (some ((-1), σ)))))
set_option maxHeartbeats 4000000 in
set_option maxRecDepth 100000 in
theorem b_X11_years {p : Program} {l : Launch} {e : Env} {R : Room} {s : State} {m : MethodId} {args : Array Value} {below : List Frame} {meth : Method} {c : Code} {Q : State → Prop} {P : sgP} {A : Nat → Prop} {N : Nat} {p1 : Int32} {p2 : Int64} {σ : sgS} (X : sg_C P A 7 p R s m args c cX11_years 5 RX11) {H : Heap} {locs : List Loc} (I : sg_I P shC 332 A s.heap σ H locs) {ls : Array Slot} (hl : lv_has ls 5 [(0, .ref (sgA P 0)), (1, .int p1), (2, .long p2)]) {st : Int32 × sgS} (h : f_X11_years N p1 p2 σ = some st) (hk : sg_Ri p l e R s m args below meth c Q P shC 332 A cX11_years (some .int) st) : W p l e R s m args below meth c H locs 0 0 Q (F0 m 0 ls []) := by
  unfold f_X11_years at h
  have hx := X.1.1
  have hb := X.1.2.1
  have hown := X.1.2.2.2.1
  have hts := X.1.2.2.2.2
  refine lv_aload_n hx hb dX11_years_0 rfl (lv_at hl 0 rfl) ?_
  refine sg_getr X I fk_X11_19 (j := 3) (by decide) shC_0 rfl dX11_years_1 ?_
  refine sg_callVr (As := []) X I mk_X11_172 (by decide) (by decide) shC_3 rfl (fun q9 e9 => c_X0_isTold isCo_3 e9) h hl.1 rfl rfl (Nat.le_of_ble_eq_true rfl) dX11_years_4 (fun v1 H locs h I => ?_)
  refine lv_if_eq (tgt := 36) hx hb dX11_years_7 (by decide) (fun z => ?_) (fun z => ?_)
  · have h := sg_ift h z
    refine lv_iconst (v := -1) hx hb dX11_years_36 (by decide) ?_
    obtain rfl := Option.some.inj h
    exact hk _ _ _ _ _ I ⟨_, rfl, rfl⟩ dX11_years_37
  · have h := sg_iff h z
    refine lv_iload_n hx hb dX11_years_10 rfl (lv_at hl 1 rfl) ?_
    refine lv_iconst (v := 1) hx hb dX11_years_11 (by decide) ?_
    refine lv_icmp_lt (tgt := 36) hx hb dX11_years_12 (by decide) (fun z => ?_) (fun z => ?_)
    · have h := sg_ift h z
      refine lv_iconst (v := -1) hx hb dX11_years_36 (by decide) ?_
      obtain rfl := Option.some.inj h
      exact hk _ _ _ _ _ I ⟨_, rfl, rfl⟩ dX11_years_37
    · have h := sg_iff h z
      refine lv_iload_n hx hb dX11_years_15 rfl (lv_at hl 1 rfl) ?_
      refine lv_bipush (v := 60) hx hb dX11_years_16 (by decide) ?_
      refine lv_icmp_gt (tgt := 36) hx hb dX11_years_18 (by decide) (fun z => ?_) (fun z => ?_)
      · have h := sg_ift h z
        refine lv_iconst (v := -1) hx hb dX11_years_36 (by decide) ?_
        obtain rfl := Option.some.inj h
        exact hk _ _ _ _ _ I ⟨_, rfl, rfl⟩ dX11_years_37
      · have h := sg_iff h z
        refine lv_aload_n hx hb dX11_years_21 rfl (lv_at hl 0 rfl) ?_
        refine sg_getr X I fk_X11_52 (j := 37) (by decide) shC_0 rfl dX11_years_22 ?_
        refine sg_getiN X I fn_X11_249 (isSt_i0 isSt_37) (isSt_s0 isSt_37) rfl dX11_years_25 ?_
        refine lv_iload_n hx hb dX11_years_28 rfl (lv_at hl 1 rfl) ?_
        refine lv_iadd hx hb dX11_years_29 ?_
        refine lv_sipush (v := 999) hx hb dX11_years_30 (by decide) ?_
        refine lv_icmp_le (tgt := 38) hx hb dX11_years_33 (by decide) (fun z => ?_) (fun z => ?_)
        · have h := sg_ift h z
          refine lv_aload_n hx hb dX11_years_38 rfl (lv_at hl 0 rfl) ?_
          refine lv_lload_n hx hb dX11_years_39 rfl (lv_at hl 2 rfl) ?_
          refine sg_putl X I fk_X11_276 wk_11_15 (by decide) shC_0 rfl (by decide) (by decide) h dX11_years_40 (fun s2 H locs h I => ?_)
          refine lv_iconst (v := 0) hx hb dX11_years_43 (by decide) ?_
          refine lv_istore (lv' := [(4, .int 0), (0, .ref (sgA P 0)), (1, .int p1), (2, .long p2)]) hx hb dX11_years_44 hl (by decide) rfl (fun ls hl => ?_)
          obtain ⟨res, e9, k9⟩ := sg_lb_some h
          refine sg_go (sg_lp_W (a := (sg_Ri p l e R s m args below meth c Q P shC 332 A cX11_years (some .int))) (w := (fun x => sg_Wt p l e R s m args below meth c Q P shC 332 A 5 46 x.1 [(0, .ref (sgA P 0)), (1, .int p1), (4, .int x.2)])) (c := (fun y => sg_Wt p l e R s m args below meth c Q P shC 332 A 5 81 y [(0, .ref (sgA P 0))])) (fun x st hb9 hk9 => ?_) N ((s2, 0)) res e9 (sg_k2_mono k9 (fun r h => ?_) (fun y11 h => ?_))) I (lv_sub hl [1, 2, 0] rfl)
          · intro H locs ls I hl
            exact b_X11_years_L46 X I hl hb9 hk9
          · obtain rfl := Option.some.inj h
            exact hk
          · intro H locs ls I hl
            refine lv_aload_n hx hb dX11_years_81 rfl (lv_at hl 0 rfl) ?_
            refine sg_getr X I fk_X11_52 (j := 37) (by decide) shC_0 rfl dX11_years_82 ?_
            refine sg_getiN X I fn_X11_249 (isSt_i0 isSt_37) (isSt_s0 isSt_37) rfl dX11_years_85 ?_
            obtain rfl := Option.some.inj h
            exact hk _ _ _ _ _ I ⟨_, rfl, rfl⟩ dX11_years_88
        · have h := sg_iff h z
          refine lv_iconst (v := -1) hx hb dX11_years_36 (by decide) ?_
          obtain rfl := Option.some.inj h
          exact hk _ _ _ _ _ I ⟨_, rfl, rfl⟩ dX11_years_37
set_option maxHeartbeats 4000000 in
set_option maxRecDepth 100000 in
theorem c_X11_years {l : Launch} {P : sgP} {N : Nat} {p1 : Int32} {p2 : Int64} {σ : sgS} {q : Int32 × sgS} (h : f_X11_years N p1 p2 σ = some q) : sg_Mi P shC 332 l yX11_years cX11_years 5 (some .int) 7 [.ref (sgA P 0), .int p1, .long p2] σ q := by
  refine sg_mki (plainFor_of_name (by decide +kernel)) (Nat.le_of_ble_eq_true rfl) ?_
  intro p e R s m args below meth c Q A ls H locs X I hl hk
  exact b_X11_years X I hl h hk
def f_X11_status (N : Nat) (p1 : Int32) (σ : sgS) : Option (Int32) :=
  if p1 < 0 then
  (some ((-1)))
else
  (if p1 < 5 then
    (sg_ld σ 331 5 p1 fun v1 =>
    some v1)
  else
    (some ((-1))))
set_option maxHeartbeats 4000000 in
set_option maxRecDepth 100000 in
theorem b_X11_status {p : Program} {l : Launch} {e : Env} {R : Room} {s : State} {m : MethodId} {args : Array Value} {below : List Frame} {meth : Method} {c : Code} {Q : State → Prop} {P : sgP} {A : Nat → Prop} {N : Nat} {p1 : Int32} {σ : sgS} (X : sg_C P A 1 p R s m args c cX11_status 2 RX11) {H : Heap} {locs : List Loc} (I : sg_I P shC 332 A s.heap σ H locs) {ls : Array Slot} (hl : lv_has ls 2 [(0, .ref (sgA P 0)), (1, .int p1)]) {st : Int32} (h : f_X11_status N p1 σ = some st) (hk : sg_Ri p l e R s m args below meth c Q P shC 332 A cX11_status (some .int) (st, σ)) : W p l e R s m args below meth c H locs 0 0 Q (F0 m 0 ls []) := by
  unfold f_X11_status at h
  have hx := X.1.1
  have hb := X.1.2.1
  have hown := X.1.2.2.2.1
  have hts := X.1.2.2.2.2
  refine lv_iload_n hx hb dX11_status_0 rfl (lv_at hl 1 rfl) ?_
  refine lv_if_lt (tgt := 9) hx hb dX11_status_1 (by decide) (fun z => ?_) (fun z => ?_)
  · have h := sg_ift h z
    refine lv_iconst (v := -1) hx hb dX11_status_9 (by decide) ?_
    refine lv_goto (tgt := 19) hx hb dX11_status_10 (by decide) ?_
    obtain rfl := Option.some.inj h
    exact hk _ _ _ _ _ I ⟨_, rfl, rfl⟩ dX11_status_19
  · have h := sg_iff h z
    refine lv_iload_n hx hb dX11_status_4 rfl (lv_at hl 1 rfl) ?_
    refine lv_iconst (v := 5) hx hb dX11_status_5 (by decide) ?_
    refine lv_icmp_lt (tgt := 13) hx hb dX11_status_6 (by decide) (fun z => ?_) (fun z => ?_)
    · have h := sg_ift h z
      refine lv_aload_n hx hb dX11_status_13 rfl (lv_at hl 0 rfl) ?_
      refine sg_getr X I fk_X11_102 (j := 331) (by decide) shC_0 rfl dX11_status_14 ?_
      refine lv_iload_n hx hb dX11_status_17 rfl (lv_at hl 1 rfl) ?_
      refine sg_iald X I (by decide) shC_331 h dX11_status_18 (fun v1 h => ?_)
      obtain rfl := Option.some.inj h
      exact hk _ _ _ _ _ I ⟨_, rfl, rfl⟩ dX11_status_19
    · have h := sg_iff h z
      refine lv_iconst (v := -1) hx hb dX11_status_9 (by decide) ?_
      refine lv_goto (tgt := 19) hx hb dX11_status_10 (by decide) ?_
      obtain rfl := Option.some.inj h
      exact hk _ _ _ _ _ I ⟨_, rfl, rfl⟩ dX11_status_19
set_option maxHeartbeats 4000000 in
set_option maxRecDepth 100000 in
theorem c_X11_status {l : Launch} {P : sgP} {N : Nat} {p1 : Int32} {σ : sgS} {q : Int32} (h : f_X11_status N p1 σ = some q) : sg_Mi P shC 332 l yX11_status cX11_status 2 (some .int) 1 [.ref (sgA P 0), .int p1] σ (q, σ) := by
  refine sg_mki (plainFor_of_name (by decide +kernel)) (Nat.le_of_ble_eq_true rfl) ?_
  intro p e R s m args below meth c Q A ls H locs X I hl hk
  exact b_X11_status X I hl h hk
def f_X11_undo (N : Nat) (σ : sgS) : Option (Int32 × sgS) :=
  sg_cl (f_X6_undoOne N 37 σ) fun v1 s2 =>
some (v1, s2)
set_option maxHeartbeats 4000000 in
set_option maxRecDepth 100000 in
theorem b_X11_undo {p : Program} {l : Launch} {e : Env} {R : Room} {s : State} {m : MethodId} {args : Array Value} {below : List Frame} {meth : Method} {c : Code} {Q : State → Prop} {P : sgP} {A : Nat → Prop} {N : Nat} {σ : sgS} (X : sg_C P A 4 p R s m args c cX11_undo 1 RX11) {H : Heap} {locs : List Loc} (I : sg_I P shC 332 A s.heap σ H locs) {ls : Array Slot} (hl : lv_has ls 1 [(0, .ref (sgA P 0))]) {st : Int32 × sgS} (h : f_X11_undo N σ = some st) (hk : sg_Ri p l e R s m args below meth c Q P shC 332 A cX11_undo (some .int) st) : W p l e R s m args below meth c H locs 0 0 Q (F0 m 0 ls []) := by
  unfold f_X11_undo at h
  have hx := X.1.1
  have hb := X.1.2.1
  have hown := X.1.2.2.2.1
  have hts := X.1.2.2.2.2
  refine lv_aload_n hx hb dX11_undo_0 rfl (lv_at hl 0 rfl) ?_
  refine sg_getr X I fk_X11_71 (j := 52) (by decide) shC_0 rfl dX11_undo_1 ?_
  refine lv_aload_n hx hb dX11_undo_4 rfl (lv_at hl 0 rfl) ?_
  refine sg_getr X I fk_X11_52 (j := 37) (by decide) shC_0 rfl dX11_undo_5 ?_
  refine sg_callV (As := [.ref (sgA P 37)]) X I mk_X11_299 (by decide) (by decide) shC_52 rfl (fun q9 e9 => c_X6_undoOne isSt_37 e9) h hl.1 rfl rfl (Nat.le_of_ble_eq_true rfl) dX11_undo_8 (fun v1 s2 H locs h I => ?_)
  obtain rfl := Option.some.inj h
  exact hk _ _ _ _ _ I ⟨_, rfl, rfl⟩ dX11_undo_11
set_option maxHeartbeats 4000000 in
set_option maxRecDepth 100000 in
theorem c_X11_undo {l : Launch} {P : sgP} {N : Nat} {σ : sgS} {q : Int32 × sgS} (h : f_X11_undo N σ = some q) : sg_Mi P shC 332 l yX11_undo cX11_undo 1 (some .int) 4 [.ref (sgA P 0)] σ q := by
  refine sg_mki (plainFor_of_name (by decide +kernel)) (Nat.le_of_ble_eq_true rfl) ?_
  intro p e R s m args below meth c Q A ls H locs X I hl hk
  exact b_X11_undo X I hl h hk
def f_X11_log (N : Nat) (p1 : Int32) (p2 : Int32) (σ : sgS) : Option (Int32) :=
  if p1 < 0 then
  (some ((-1)))
else
  (sg_cr (f_X6_logSize N (σ.1 37 7) σ) fun v1 =>
  if v1 ≤ p1 then
    (some ((-1)))
  else
    (if p2 < 0 then
      (some ((-1)))
    else
      (if p2 ≤ 2 then
        (sg_cr (f_X6_noted N ((σ.1 37 7) - p1) p2 σ) fun v2 =>
        some v2)
      else
        (some ((-1))))))
set_option maxHeartbeats 4000000 in
set_option maxRecDepth 100000 in
theorem b_X11_log {p : Program} {l : Launch} {e : Env} {R : Room} {s : State} {m : MethodId} {args : Array Value} {below : List Frame} {meth : Method} {c : Code} {Q : State → Prop} {P : sgP} {A : Nat → Prop} {N : Nat} {p1 : Int32} {p2 : Int32} {σ : sgS} (X : sg_C P A 4 p R s m args c cX11_log 3 RX11) {H : Heap} {locs : List Loc} (I : sg_I P shC 332 A s.heap σ H locs) {ls : Array Slot} (hl : lv_has ls 3 [(0, .ref (sgA P 0)), (1, .int p1), (2, .int p2)]) {st : Int32} (h : f_X11_log N p1 p2 σ = some st) (hk : sg_Ri p l e R s m args below meth c Q P shC 332 A cX11_log (some .int) (st, σ)) : W p l e R s m args below meth c H locs 0 0 Q (F0 m 0 ls []) := by
  unfold f_X11_log at h
  have hx := X.1.1
  have hb := X.1.2.1
  have hown := X.1.2.2.2.1
  have hts := X.1.2.2.2.2
  refine lv_iload_n hx hb dX11_log_0 rfl (lv_at hl 1 rfl) ?_
  refine lv_if_lt (tgt := 27) hx hb dX11_log_1 (by decide) (fun z => ?_) (fun z => ?_)
  · have h := sg_ift h z
    refine lv_iconst (v := -1) hx hb dX11_log_27 (by decide) ?_
    obtain rfl := Option.some.inj h
    exact hk _ _ _ _ _ I ⟨_, rfl, rfl⟩ dX11_log_28
  · have h := sg_iff h z
    refine lv_iload_n hx hb dX11_log_4 rfl (lv_at hl 1 rfl) ?_
    refine lv_aload_n hx hb dX11_log_5 rfl (lv_at hl 0 rfl) ?_
    refine sg_getr X I fk_X11_52 (j := 37) (by decide) shC_0 rfl dX11_log_6 ?_
    refine sg_getiN X I fn_X11_249 (isSt_i0 isSt_37) (isSt_s0 isSt_37) rfl dX11_log_9 ?_
    refine sg_callSr (As := [.int (σ.1 37 7)]) X I mk_X11_302 (by decide) (fun q9 e9 => c_X6_logSize e9) h hl.1 rfl rfl (Nat.le_of_ble_eq_true rfl) dX11_log_12 (fun v1 H locs h I => ?_)
    refine lv_icmp_ge (tgt := 27) hx hb dX11_log_15 (by decide) (fun z => ?_) (fun z => ?_)
    · have h := sg_ift h z
      refine lv_iconst (v := -1) hx hb dX11_log_27 (by decide) ?_
      obtain rfl := Option.some.inj h
      exact hk _ _ _ _ _ I ⟨_, rfl, rfl⟩ dX11_log_28
    · have h := sg_iff h z
      refine lv_iload_n hx hb dX11_log_18 rfl (lv_at hl 2 rfl) ?_
      refine lv_if_lt (tgt := 27) hx hb dX11_log_19 (by decide) (fun z => ?_) (fun z => ?_)
      · have h := sg_ift h z
        refine lv_iconst (v := -1) hx hb dX11_log_27 (by decide) ?_
        obtain rfl := Option.some.inj h
        exact hk _ _ _ _ _ I ⟨_, rfl, rfl⟩ dX11_log_28
      · have h := sg_iff h z
        refine lv_iload_n hx hb dX11_log_22 rfl (lv_at hl 2 rfl) ?_
        refine lv_iconst (v := 2) hx hb dX11_log_23 (by decide) ?_
        refine lv_icmp_le (tgt := 29) hx hb dX11_log_24 (by decide) (fun z => ?_) (fun z => ?_)
        · have h := sg_ift h z
          refine lv_aload_n hx hb dX11_log_29 rfl (lv_at hl 0 rfl) ?_
          refine sg_getr X I fk_X11_71 (j := 52) (by decide) shC_0 rfl dX11_log_30 ?_
          refine lv_aload_n hx hb dX11_log_33 rfl (lv_at hl 0 rfl) ?_
          refine sg_getr X I fk_X11_52 (j := 37) (by decide) shC_0 rfl dX11_log_34 ?_
          refine sg_getiN X I fn_X11_249 (isSt_i0 isSt_37) (isSt_s0 isSt_37) rfl dX11_log_37 ?_
          refine lv_iload_n hx hb dX11_log_40 rfl (lv_at hl 1 rfl) ?_
          refine lv_isub hx hb dX11_log_41 ?_
          refine lv_iload_n hx hb dX11_log_42 rfl (lv_at hl 2 rfl) ?_
          refine sg_callVr (As := [.int ((σ.1 37 7) - p1), .int p2]) X I mk_X11_305 (by decide) (by decide) shC_52 rfl (fun q9 e9 => c_X6_noted e9) h hl.1 rfl rfl (Nat.le_of_ble_eq_true rfl) dX11_log_43 (fun v2 H locs h I => ?_)
          obtain rfl := Option.some.inj h
          exact hk _ _ _ _ _ I ⟨_, rfl, rfl⟩ dX11_log_46
        · have h := sg_iff h z
          refine lv_iconst (v := -1) hx hb dX11_log_27 (by decide) ?_
          obtain rfl := Option.some.inj h
          exact hk _ _ _ _ _ I ⟨_, rfl, rfl⟩ dX11_log_28
set_option maxHeartbeats 4000000 in
set_option maxRecDepth 100000 in
theorem c_X11_log {l : Launch} {P : sgP} {N : Nat} {p1 : Int32} {p2 : Int32} {σ : sgS} {q : Int32} (h : f_X11_log N p1 p2 σ = some q) : sg_Mi P shC 332 l yX11_log cX11_log 3 (some .int) 4 [.ref (sgA P 0), .int p1, .int p2] σ (q, σ) := by
  refine sg_mki (plainFor_of_name (by decide +kernel)) (Nat.le_of_ble_eq_true rfl) ?_
  intro p e R s m args below meth c Q A ls H locs X I hl hk
  exact b_X11_log X I hl h hk
def f_X11_far (N : Nat) (p1 : Int32) (p2 : Int32) (σ : sgS) : Option (Int32 × sgS) :=
  sg_cr (f_X0_hasPlaces N 3 p1 p2 σ) fun v1 =>
if v1 = 0 then
  (some ((-1), σ))
else
  (sg_cl (f_X5_measure N 37 σ) fun v2 s3 =>
  sg_cr (f_X5_reaches N p1 p2 s3) fun v4 =>
  if v4 = 0 then
    (some ((-1), s3))
  else
    (sg_rf 7 p1 fun j6 =>
    sg_ld s3 (312 + j6) 7 p2 fun v7 =>
    some (v7, s3)))
set_option maxHeartbeats 4000000 in
set_option maxRecDepth 100000 in
theorem b_X11_far {p : Program} {l : Launch} {e : Env} {R : Room} {s : State} {m : MethodId} {args : Array Value} {below : List Frame} {meth : Method} {c : Code} {Q : State → Prop} {P : sgP} {A : Nat → Prop} {N : Nat} {p1 : Int32} {p2 : Int32} {σ : sgS} (X : sg_C P A 6 p R s m args c cX11_far 3 RX11) {H : Heap} {locs : List Loc} (I : sg_I P shC 332 A s.heap σ H locs) {ls : Array Slot} (hl : lv_has ls 3 [(0, .ref (sgA P 0)), (1, .int p1), (2, .int p2)]) {st : Int32 × sgS} (h : f_X11_far N p1 p2 σ = some st) (hk : sg_Ri p l e R s m args below meth c Q P shC 332 A cX11_far (some .int) st) : W p l e R s m args below meth c H locs 0 0 Q (F0 m 0 ls []) := by
  unfold f_X11_far at h
  have hx := X.1.1
  have hb := X.1.2.1
  have hown := X.1.2.2.2.1
  have hts := X.1.2.2.2.2
  refine lv_aload_n hx hb dX11_far_0 rfl (lv_at hl 0 rfl) ?_
  refine sg_getr X I fk_X11_19 (j := 3) (by decide) shC_0 rfl dX11_far_1 ?_
  refine lv_iload_n hx hb dX11_far_4 rfl (lv_at hl 1 rfl) ?_
  refine lv_iload_n hx hb dX11_far_5 rfl (lv_at hl 2 rfl) ?_
  refine sg_callVr (As := [.int p1, .int p2]) X I mk_X11_308 (by decide) (by decide) shC_3 rfl (fun q9 e9 => c_X0_hasPlaces isCo_3 e9) h hl.1 rfl rfl (Nat.le_of_ble_eq_true rfl) dX11_far_6 (fun v1 H locs h I => ?_)
  refine lv_if_ne (tgt := 14) hx hb dX11_far_9 (by decide) (fun z => ?_) (fun z => ?_)
  · have h := sg_iff h z
    refine lv_aload_n hx hb dX11_far_14 rfl (lv_at hl 0 rfl) ?_
    refine sg_getr X I fk_X11_80 (j := 302) (by decide) shC_0 rfl dX11_far_15 ?_
    refine lv_aload_n hx hb dX11_far_18 rfl (lv_at hl 0 rfl) ?_
    refine sg_getr X I fk_X11_52 (j := 37) (by decide) shC_0 rfl dX11_far_19 ?_
    refine sg_callVv (As := [.ref (sgA P 37)]) X I mk_X11_312 (by decide) (by decide) shC_302 rfl (fun q9 e9 => c_X5_measure isSt_37 e9) h hl.1 rfl rfl (Nat.le_of_ble_eq_true rfl) dX11_far_22 (fun v2 s3 H locs h I => ?_)
    refine lv_aload_n hx hb dX11_far_25 rfl (lv_at hl 0 rfl) ?_
    refine sg_getr X I fk_X11_80 (j := 302) (by decide) shC_0 rfl dX11_far_26 ?_
    refine lv_iload_n hx hb dX11_far_29 rfl (lv_at hl 1 rfl) ?_
    refine lv_iload_n hx hb dX11_far_30 rfl (lv_at hl 2 rfl) ?_
    refine sg_callVr (As := [.int p1, .int p2]) X I mk_X11_313 (by decide) (by decide) shC_302 rfl (fun q9 e9 => c_X5_reaches e9) h hl.1 rfl rfl (Nat.le_of_ble_eq_true rfl) dX11_far_31 (fun v4 H locs h I => ?_)
    refine lv_if_eq (tgt := 51) hx hb dX11_far_34 (by decide) (fun z => ?_) (fun z => ?_)
    · have h := sg_ift h z
      refine lv_iconst (v := -1) hx hb dX11_far_51 (by decide) ?_
      obtain rfl := Option.some.inj h
      exact hk _ _ _ _ _ I ⟨_, rfl, rfl⟩ dX11_far_52
    · have h := sg_iff h z
      refine lv_aload_n hx hb dX11_far_37 rfl (lv_at hl 0 rfl) ?_
      refine sg_getr X I fk_X11_80 (j := 302) (by decide) shC_0 rfl dX11_far_38 ?_
      refine sg_getrN X I fn_X11_316 (j := 311) (by decide) shC_302 rfl dX11_far_41 ?_
      refine lv_iload_n hx hb dX11_far_44 rfl (lv_at hl 1 rfl) ?_
      refine sg_aalda X I (by decide) shC_311 (r := fun k => 312 + k) (fun _ _ => rfl) h dX11_far_45 (fun j6 hj6 h => ?_)
      refine lv_iload_n hx hb dX11_far_46 rfl (lv_at hl 2 rfl) ?_
      refine sg_iald X I (shC_311i hj6) (shC_311s hj6) h dX11_far_47 (fun v7 h => ?_)
      refine lv_goto (tgt := 52) hx hb dX11_far_48 (by decide) ?_
      obtain rfl := Option.some.inj h
      exact hk _ _ _ _ _ I ⟨_, rfl, rfl⟩ dX11_far_52
  · have h := sg_ift h z
    refine lv_iconst (v := -1) hx hb dX11_far_12 (by decide) ?_
    obtain rfl := Option.some.inj h
    exact hk _ _ _ _ _ I ⟨_, rfl, rfl⟩ dX11_far_13
set_option maxHeartbeats 4000000 in
set_option maxRecDepth 100000 in
theorem c_X11_far {l : Launch} {P : sgP} {N : Nat} {p1 : Int32} {p2 : Int32} {σ : sgS} {q : Int32 × sgS} (h : f_X11_far N p1 p2 σ = some q) : sg_Mi P shC 332 l yX11_far cX11_far 3 (some .int) 6 [.ref (sgA P 0), .int p1, .int p2] σ q := by
  refine sg_mki (plainFor_of_name (by decide +kernel)) (Nat.le_of_ble_eq_true rfl) ?_
  intro p e R s m args below meth c Q A ls H locs X I hl hk
  exact b_X11_far X I hl h hk
def f_X11_row (N : Nat) (p1 : Int32) (p2 : Int32) (σ : sgS) : Option (Int32 × sgS) :=
  sg_cr (f_X0_hasPlaces N 3 p1 p2 σ) fun v1 =>
if v1 = 0 then
  (some ((-1), σ))
else
  (sg_cl (f_X5_measure N 37 σ) fun v2 s3 =>
  sg_cr (f_X5_reaches N p1 p2 s3) fun v4 =>
  if v4 = 0 then
    (some ((-1), s3))
  else
    (sg_cl (f_X5_shortestRow N p1 p2 s3) fun v5 s6 =>
    some (v5, s6)))
set_option maxHeartbeats 4000000 in
set_option maxRecDepth 100000 in
theorem b_X11_row {p : Program} {l : Launch} {e : Env} {R : Room} {s : State} {m : MethodId} {args : Array Value} {below : List Frame} {meth : Method} {c : Code} {Q : State → Prop} {P : sgP} {A : Nat → Prop} {N : Nat} {p1 : Int32} {p2 : Int32} {σ : sgS} (X : sg_C P A 6 p R s m args c cX11_row 3 RX11) {H : Heap} {locs : List Loc} (I : sg_I P shC 332 A s.heap σ H locs) {ls : Array Slot} (hl : lv_has ls 3 [(0, .ref (sgA P 0)), (1, .int p1), (2, .int p2)]) {st : Int32 × sgS} (h : f_X11_row N p1 p2 σ = some st) (hk : sg_Ri p l e R s m args below meth c Q P shC 332 A cX11_row (some .int) st) : W p l e R s m args below meth c H locs 0 0 Q (F0 m 0 ls []) := by
  unfold f_X11_row at h
  have hx := X.1.1
  have hb := X.1.2.1
  have hown := X.1.2.2.2.1
  have hts := X.1.2.2.2.2
  refine lv_aload_n hx hb dX11_row_0 rfl (lv_at hl 0 rfl) ?_
  refine sg_getr X I fk_X11_19 (j := 3) (by decide) shC_0 rfl dX11_row_1 ?_
  refine lv_iload_n hx hb dX11_row_4 rfl (lv_at hl 1 rfl) ?_
  refine lv_iload_n hx hb dX11_row_5 rfl (lv_at hl 2 rfl) ?_
  refine sg_callVr (As := [.int p1, .int p2]) X I mk_X11_308 (by decide) (by decide) shC_3 rfl (fun q9 e9 => c_X0_hasPlaces isCo_3 e9) h hl.1 rfl rfl (Nat.le_of_ble_eq_true rfl) dX11_row_6 (fun v1 H locs h I => ?_)
  refine lv_if_ne (tgt := 14) hx hb dX11_row_9 (by decide) (fun z => ?_) (fun z => ?_)
  · have h := sg_iff h z
    refine lv_aload_n hx hb dX11_row_14 rfl (lv_at hl 0 rfl) ?_
    refine sg_getr X I fk_X11_80 (j := 302) (by decide) shC_0 rfl dX11_row_15 ?_
    refine lv_aload_n hx hb dX11_row_18 rfl (lv_at hl 0 rfl) ?_
    refine sg_getr X I fk_X11_52 (j := 37) (by decide) shC_0 rfl dX11_row_19 ?_
    refine sg_callVv (As := [.ref (sgA P 37)]) X I mk_X11_312 (by decide) (by decide) shC_302 rfl (fun q9 e9 => c_X5_measure isSt_37 e9) h hl.1 rfl rfl (Nat.le_of_ble_eq_true rfl) dX11_row_22 (fun v2 s3 H locs h I => ?_)
    refine lv_aload_n hx hb dX11_row_25 rfl (lv_at hl 0 rfl) ?_
    refine sg_getr X I fk_X11_80 (j := 302) (by decide) shC_0 rfl dX11_row_26 ?_
    refine lv_iload_n hx hb dX11_row_29 rfl (lv_at hl 1 rfl) ?_
    refine lv_iload_n hx hb dX11_row_30 rfl (lv_at hl 2 rfl) ?_
    refine sg_callVr (As := [.int p1, .int p2]) X I mk_X11_313 (by decide) (by decide) shC_302 rfl (fun q9 e9 => c_X5_reaches e9) h hl.1 rfl rfl (Nat.le_of_ble_eq_true rfl) dX11_row_31 (fun v4 H locs h I => ?_)
    refine lv_if_eq (tgt := 49) hx hb dX11_row_34 (by decide) (fun z => ?_) (fun z => ?_)
    · have h := sg_ift h z
      refine lv_iconst (v := -1) hx hb dX11_row_49 (by decide) ?_
      obtain rfl := Option.some.inj h
      exact hk _ _ _ _ _ I ⟨_, rfl, rfl⟩ dX11_row_50
    · have h := sg_iff h z
      refine lv_aload_n hx hb dX11_row_37 rfl (lv_at hl 0 rfl) ?_
      refine sg_getr X I fk_X11_80 (j := 302) (by decide) shC_0 rfl dX11_row_38 ?_
      refine lv_iload_n hx hb dX11_row_41 rfl (lv_at hl 1 rfl) ?_
      refine lv_iload_n hx hb dX11_row_42 rfl (lv_at hl 2 rfl) ?_
      refine sg_callV (As := [.int p1, .int p2]) X I mk_X11_319 (by decide) (by decide) shC_302 rfl (fun q9 e9 => c_X5_shortestRow e9) h hl.1 rfl rfl (Nat.le_of_ble_eq_true rfl) dX11_row_43 (fun v5 s6 H locs h I => ?_)
      refine lv_goto (tgt := 50) hx hb dX11_row_46 (by decide) ?_
      obtain rfl := Option.some.inj h
      exact hk _ _ _ _ _ I ⟨_, rfl, rfl⟩ dX11_row_50
  · have h := sg_ift h z
    refine lv_iconst (v := -1) hx hb dX11_row_12 (by decide) ?_
    obtain rfl := Option.some.inj h
    exact hk _ _ _ _ _ I ⟨_, rfl, rfl⟩ dX11_row_13
set_option maxHeartbeats 4000000 in
set_option maxRecDepth 100000 in
theorem c_X11_row {l : Launch} {P : sgP} {N : Nat} {p1 : Int32} {p2 : Int32} {σ : sgS} {q : Int32 × sgS} (h : f_X11_row N p1 p2 σ = some q) : sg_Mi P shC 332 l yX11_row cX11_row 3 (some .int) 6 [.ref (sgA P 0), .int p1, .int p2] σ q := by
  refine sg_mki (plainFor_of_name (by decide +kernel)) (Nat.le_of_ble_eq_true rfl) ?_
  intro p e R s m args below meth c Q A ls H locs X I hl hk
  exact b_X11_row X I hl h hk
def f_X11_where_L36 (N : Nat) (p1 : Int32) (p2 : Int32) (x3 : Int32) (σ : sgS) : Option ((Int32 × sgS) ⊕ ((sgS × Int32) ⊕ (sgS))) :=
  if p2 ≤ x3 then
  (some (.inr (.inr σ)))
else
  (sg_cl (f_X1_pass N 43 σ) fun v4 s5 =>
  some (.inr (.inl (s5, x3 + 1))))
set_option maxHeartbeats 4000000 in
set_option maxRecDepth 100000 in
theorem b_X11_where_L36 {p : Program} {l : Launch} {e : Env} {R : Room} {s : State} {m : MethodId} {args : Array Value} {below : List Frame} {meth : Method} {c : Code} {Q : State → Prop} {P : sgP} {A : Nat → Prop} {N : Nat} {p1 : Int32} {p2 : Int32} {x3 : Int32} {σ : sgS} (X : sg_C P A 6 p R s m args c cX11_where 4 RX11) {H : Heap} {locs : List Loc} (I : sg_I P shC 332 A s.heap σ H locs) {ls : Array Slot} (hl : lv_has ls 4 [(0, .ref (sgA P 0)), (1, .int p1), (2, .int p2), (3, .int x3)]) {st : (Int32 × sgS) ⊕ ((sgS × Int32) ⊕ (sgS))} (h : f_X11_where_L36 N p1 p2 x3 σ = some st) (hk : sg_k3 (sg_Ri p l e R s m args below meth c Q P shC 332 A cX11_where (some .int)) (fun x => sg_Wt p l e R s m args below meth c Q P shC 332 A 4 36 x.1 [(0, .ref (sgA P 0)), (1, .int p1), (2, .int p2), (3, .int x.2)]) (fun y => sg_Wt p l e R s m args below meth c Q P shC 332 A 4 59 y [(0, .ref (sgA P 0)), (1, .int p1)]) st) : W p l e R s m args below meth c H locs 0 0 Q (F0 m 36 ls []) := by
  unfold f_X11_where_L36 at h
  have hx := X.1.1
  have hb := X.1.2.1
  have hown := X.1.2.2.2.1
  have hts := X.1.2.2.2.2
  refine lv_iload_n hx hb dX11_where_36 rfl (lv_at hl 3 rfl) ?_
  refine lv_iload_n hx hb dX11_where_37 rfl (lv_at hl 2 rfl) ?_
  refine lv_icmp_ge (tgt := 59) hx hb dX11_where_38 (by decide) (fun z => ?_) (fun z => ?_)
  · have h := sg_ift h z
    obtain rfl := Option.some.inj h
    exact sg_go hk I (lv_sub hl [0, 1] rfl)
  · have h := sg_iff h z
    refine lv_aload_n hx hb dX11_where_41 rfl (lv_at hl 0 rfl) ?_
    refine sg_getr X I fk_X11_64 (j := 49) (by decide) shC_0 rfl dX11_where_42 ?_
    refine lv_aload_n hx hb dX11_where_45 rfl (lv_at hl 0 rfl) ?_
    refine sg_getr X I fk_X11_56 (j := 43) (by decide) shC_0 rfl dX11_where_46 ?_
    refine sg_callV (As := [.ref (sgA P 43)]) X I mk_X11_258 (by decide) (by decide) shC_49 rfl (fun q9 e9 => c_X1_pass isSt_43 e9) h hl.1 rfl rfl (Nat.le_of_ble_eq_true rfl) dX11_where_49 (fun v4 s5 H locs h I => ?_)
    refine lv_pop hx hb dX11_where_52 rfl ?_
    refine lv_iinc (v := x3 + 1) (lv' := [(3, .int (x3 + 1)), (0, .ref (sgA P 0)), (1, .int p1), (2, .int p2)]) hx hb dX11_where_53 hl (k := 3) rfl rfl (by decide) rfl (fun ls hl => ?_)
    refine lv_goto (tgt := 36) hx hb dX11_where_56 (by decide) ?_
    obtain rfl := Option.some.inj h
    exact sg_go hk I (lv_sub hl [1, 2, 3, 0] rfl)
def f_X11_where (N : Nat) (p1 : Int32) (p2 : Int32) (σ : sgS) : Option (Int32 × sgS) :=
  sg_cr (f_X0_hasSet N 3 p1 σ) fun v1 =>
if v1 = 0 then
  (some ((-1), σ))
else
  (if p2 < 0 then
    (some ((-1), σ))
  else
    (if p2 ≤ 60 then
      (sg_cl (f_X8_copyFrom N 43 37 σ) fun v2 s3 =>
      sg_lb (sg_lp (fun x => f_X11_where_L36 N p1 p2 x.2 x.1) N ((s3, 0))) (fun r => some r) fun y6 =>
      sg_ld y6 (43 + 1) 4 p1 fun v7 =>
      some (v7, y6))
    else
      (some ((-1), σ))))
set_option maxHeartbeats 4000000 in
set_option maxRecDepth 100000 in
theorem b_X11_where {p : Program} {l : Launch} {e : Env} {R : Room} {s : State} {m : MethodId} {args : Array Value} {below : List Frame} {meth : Method} {c : Code} {Q : State → Prop} {P : sgP} {A : Nat → Prop} {N : Nat} {p1 : Int32} {p2 : Int32} {σ : sgS} (X : sg_C P A 6 p R s m args c cX11_where 4 RX11) {H : Heap} {locs : List Loc} (I : sg_I P shC 332 A s.heap σ H locs) {ls : Array Slot} (hl : lv_has ls 4 [(0, .ref (sgA P 0)), (1, .int p1), (2, .int p2)]) {st : Int32 × sgS} (h : f_X11_where N p1 p2 σ = some st) (hk : sg_Ri p l e R s m args below meth c Q P shC 332 A cX11_where (some .int) st) : W p l e R s m args below meth c H locs 0 0 Q (F0 m 0 ls []) := by
  unfold f_X11_where at h
  have hx := X.1.1
  have hb := X.1.2.1
  have hown := X.1.2.2.2.1
  have hts := X.1.2.2.2.2
  refine lv_aload_n hx hb dX11_where_0 rfl (lv_at hl 0 rfl) ?_
  refine sg_getr X I fk_X11_19 (j := 3) (by decide) shC_0 rfl dX11_where_1 ?_
  refine lv_iload_n hx hb dX11_where_4 rfl (lv_at hl 1 rfl) ?_
  refine sg_callVr (As := [.int p1]) X I mk_X11_209 (by decide) (by decide) shC_3 rfl (fun q9 e9 => c_X0_hasSet isCo_3 e9) h hl.1 rfl rfl (Nat.le_of_ble_eq_true rfl) dX11_where_5 (fun v1 H locs h I => ?_)
  refine lv_if_eq (tgt := 21) hx hb dX11_where_8 (by decide) (fun z => ?_) (fun z => ?_)
  · have h := sg_ift h z
    refine lv_iconst (v := -1) hx hb dX11_where_21 (by decide) ?_
    obtain rfl := Option.some.inj h
    exact hk _ _ _ _ _ I ⟨_, rfl, rfl⟩ dX11_where_22
  · have h := sg_iff h z
    refine lv_iload_n hx hb dX11_where_11 rfl (lv_at hl 2 rfl) ?_
    refine lv_if_lt (tgt := 21) hx hb dX11_where_12 (by decide) (fun z => ?_) (fun z => ?_)
    · have h := sg_ift h z
      refine lv_iconst (v := -1) hx hb dX11_where_21 (by decide) ?_
      obtain rfl := Option.some.inj h
      exact hk _ _ _ _ _ I ⟨_, rfl, rfl⟩ dX11_where_22
    · have h := sg_iff h z
      refine lv_iload_n hx hb dX11_where_15 rfl (lv_at hl 2 rfl) ?_
      refine lv_bipush (v := 60) hx hb dX11_where_16 (by decide) ?_
      refine lv_icmp_le (tgt := 23) hx hb dX11_where_18 (by decide) (fun z => ?_) (fun z => ?_)
      · have h := sg_ift h z
        refine lv_aload_n hx hb dX11_where_23 rfl (lv_at hl 0 rfl) ?_
        refine sg_getr X I fk_X11_56 (j := 43) (by decide) shC_0 rfl dX11_where_24 ?_
        refine lv_aload_n hx hb dX11_where_27 rfl (lv_at hl 0 rfl) ?_
        refine sg_getr X I fk_X11_52 (j := 37) (by decide) shC_0 rfl dX11_where_28 ?_
        refine sg_callVv (As := [.ref (sgA P 37)]) X I mk_X11_322 (by decide) (isSt_i0 isSt_43) (isSt_s0 isSt_43) rfl (fun q9 e9 => c_X8_copyFrom isSt_43 isSt_37 e9) h hl.1 rfl rfl (Nat.le_of_ble_eq_true rfl) dX11_where_31 (fun v2 s3 H locs h I => ?_)
        refine lv_iconst (v := 0) hx hb dX11_where_34 (by decide) ?_
        refine lv_istore_n (lv' := [(3, .int 0), (0, .ref (sgA P 0)), (1, .int p1), (2, .int p2)]) hx hb dX11_where_35 rfl hl (by decide) rfl (fun ls hl => ?_)
        obtain ⟨res, e9, k9⟩ := sg_lb_some h
        refine sg_go (sg_lp_W (a := (sg_Ri p l e R s m args below meth c Q P shC 332 A cX11_where (some .int))) (w := (fun x => sg_Wt p l e R s m args below meth c Q P shC 332 A 4 36 x.1 [(0, .ref (sgA P 0)), (1, .int p1), (2, .int p2), (3, .int x.2)])) (c := (fun y => sg_Wt p l e R s m args below meth c Q P shC 332 A 4 59 y [(0, .ref (sgA P 0)), (1, .int p1)])) (fun x st hb9 hk9 => ?_) N ((s3, 0)) res e9 (sg_k2_mono k9 (fun r h => ?_) (fun y6 h => ?_))) I (lv_sub hl [1, 2, 3, 0] rfl)
        · intro H locs ls I hl
          exact b_X11_where_L36 X I hl hb9 hk9
        · obtain rfl := Option.some.inj h
          exact hk
        · intro H locs ls I hl
          refine lv_aload_n hx hb dX11_where_59 rfl (lv_at hl 0 rfl) ?_
          refine sg_getr X I fk_X11_56 (j := 43) (by decide) shC_0 rfl dX11_where_60 ?_
          refine sg_getrN X I fn_X11_215 (j := 43 + 1) (isSt_i0 isSt_43) (isSt_s0 isSt_43) rfl dX11_where_63 ?_
          refine lv_iload_n hx hb dX11_where_66 rfl (lv_at hl 1 rfl) ?_
          refine sg_iald X I (isSt_i1 isSt_43) (isSt_s1 isSt_43) h dX11_where_67 (fun v7 h => ?_)
          obtain rfl := Option.some.inj h
          exact hk _ _ _ _ _ I ⟨_, rfl, rfl⟩ dX11_where_68
      · have h := sg_iff h z
        refine lv_iconst (v := -1) hx hb dX11_where_21 (by decide) ?_
        obtain rfl := Option.some.inj h
        exact hk _ _ _ _ _ I ⟨_, rfl, rfl⟩ dX11_where_22
set_option maxHeartbeats 4000000 in
set_option maxRecDepth 100000 in
theorem c_X11_where {l : Launch} {P : sgP} {N : Nat} {p1 : Int32} {p2 : Int32} {σ : sgS} {q : Int32 × sgS} (h : f_X11_where N p1 p2 σ = some q) : sg_Mi P shC 332 l yX11_where cX11_where 4 (some .int) 6 [.ref (sgA P 0), .int p1, .int p2] σ q := by
  refine sg_mki (plainFor_of_name (by decide +kernel)) (Nat.le_of_ble_eq_true rfl) ?_
  intro p e R s m args below meth c Q A ls H locs X I hl hk
  exact b_X11_where X I hl h hk
