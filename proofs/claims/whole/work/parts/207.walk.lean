def f_X11_done_L26 (N : Nat) (p1 : Int32) (x2 : Int32) (σ : sgS) : Option ((Int32 × sgS) ⊕ ((sgS × Int32) ⊕ (sgS))) :=
  if 60 < x2 then
  (some (.inr (.inr σ)))
else
  (sg_ld σ (43 + 2) 4 p1 fun v4 =>
  if v4 = ((-1)) then
    (some (.inl (x2, σ)))
  else
    (sg_cl (f_X1_pass N 43 σ) fun v5 s6 =>
    some (.inr (.inl (s6, x2 + 1)))))
set_option maxHeartbeats 4000000 in
set_option maxRecDepth 100000 in
theorem b_X11_done_L26 {p : Program} {l : Launch} {e : Env} {R : Room} {s : State} {m : MethodId} {args : Array Value} {below : List Frame} {meth : Method} {c : Code} {Q : State → Prop} {P : sgP} {A : Nat → Prop} {N : Nat} {p1 : Int32} {x2 : Int32} {σ : sgS} (X : sg_C P A 6 p R s m args c cX11_done 3 RX11) {H : Heap} {locs : List Loc} (I : sg_I P shC 332 A s.heap σ H locs) {ls : Array Slot} (hl : lv_has ls 3 [(0, .ref (sgA P 0)), (1, .int p1), (2, .int x2)]) {st : (Int32 × sgS) ⊕ ((sgS × Int32) ⊕ (sgS))} (h : f_X11_done_L26 N p1 x2 σ = some st) (hk : sg_k3 (sg_Ri p l e R s m args below meth c Q P shC 332 A cX11_done (some .int)) (fun x => sg_Wt p l e R s m args below meth c Q P shC 332 A 3 26 x.1 [(0, .ref (sgA P 0)), (1, .int p1), (2, .int x.2)]) (fun y => sg_Wt p l e R s m args below meth c Q P shC 332 A 3 65 y []) st) : W p l e R s m args below meth c H locs 0 0 Q (F0 m 26 ls []) := by
  unfold f_X11_done_L26 at h
  have hx := X.1.1
  have hb := X.1.2.1
  have hown := X.1.2.2.2.1
  have hts := X.1.2.2.2.2
  refine lv_iload_n hx hb dX11_done_26 rfl (lv_at hl 2 rfl) ?_
  refine lv_bipush (v := 60) hx hb dX11_done_27 (by decide) ?_
  refine lv_icmp_gt (tgt := 65) hx hb dX11_done_29 (by decide) (fun z => ?_) (fun z => ?_)
  · have h := sg_ift h z
    obtain rfl := Option.some.inj h
    exact sg_go hk I (lv_sub hl [] rfl)
  · have h := sg_iff h z
    refine lv_aload_n hx hb dX11_done_32 rfl (lv_at hl 0 rfl) ?_
    refine sg_getr X I fk_X11_56 (j := 43) (by decide) shC_0 rfl dX11_done_33 ?_
    refine sg_getrN X I fn_X11_218 (j := 43 + 2) (isSt_i0 isSt_43) (isSt_s0 isSt_43) rfl dX11_done_36 ?_
    refine lv_iload_n hx hb dX11_done_39 rfl (lv_at hl 1 rfl) ?_
    refine sg_iald X I (isSt_i2 isSt_43) (isSt_s2 isSt_43) h dX11_done_40 (fun v4 h => ?_)
    refine lv_iconst (v := -1) hx hb dX11_done_41 (by decide) ?_
    refine lv_icmp_ne (tgt := 47) hx hb dX11_done_42 (by decide) (fun z => ?_) (fun z => ?_)
    · have h := sg_iff h z
      refine lv_aload_n hx hb dX11_done_47 rfl (lv_at hl 0 rfl) ?_
      refine sg_getr X I fk_X11_64 (j := 49) (by decide) shC_0 rfl dX11_done_48 ?_
      refine lv_aload_n hx hb dX11_done_51 rfl (lv_at hl 0 rfl) ?_
      refine sg_getr X I fk_X11_56 (j := 43) (by decide) shC_0 rfl dX11_done_52 ?_
      refine sg_callV (As := [.ref (sgA P 43)]) X I mk_X11_258 (by decide) (by decide) shC_49 rfl (fun q9 e9 => c_X1_pass isSt_43 e9) h hl.1 rfl rfl (Nat.le_of_ble_eq_true rfl) dX11_done_55 (fun v5 s6 H locs h I => ?_)
      refine lv_pop hx hb dX11_done_58 rfl ?_
      refine lv_iinc (v := x2 + 1) (lv' := [(2, .int (x2 + 1)), (0, .ref (sgA P 0)), (1, .int p1)]) hx hb dX11_done_59 hl (k := 2) rfl rfl (by decide) rfl (fun ls hl => ?_)
      refine lv_goto (tgt := 26) hx hb dX11_done_62 (by decide) ?_
      obtain rfl := Option.some.inj h
      exact sg_go hk I (lv_sub hl [1, 2, 0] rfl)
    · have h := sg_ift h z
      refine lv_iload_n hx hb dX11_done_45 rfl (lv_at hl 2 rfl) ?_
      obtain rfl := Option.some.inj h
      exact hk _ _ _ _ _ I ⟨_, rfl, rfl⟩ dX11_done_46
def f_X11_done (N : Nat) (p1 : Int32) (σ : sgS) : Option (Int32 × sgS) :=
  sg_cr (f_X0_hasSet N 3 p1 σ) fun v1 =>
if v1 = 0 then
  (some ((-1), σ))
else
  (sg_cl (f_X8_copyFrom N 43 37 σ) fun v2 s3 =>
  sg_lb (sg_lp (fun x => f_X11_done_L26 N p1 x.2 x.1) N ((s3, 0))) (fun r => some r) fun y7 =>
  some ((-1), y7))
set_option maxHeartbeats 4000000 in
set_option maxRecDepth 100000 in
theorem b_X11_done {p : Program} {l : Launch} {e : Env} {R : Room} {s : State} {m : MethodId} {args : Array Value} {below : List Frame} {meth : Method} {c : Code} {Q : State → Prop} {P : sgP} {A : Nat → Prop} {N : Nat} {p1 : Int32} {σ : sgS} (X : sg_C P A 6 p R s m args c cX11_done 3 RX11) {H : Heap} {locs : List Loc} (I : sg_I P shC 332 A s.heap σ H locs) {ls : Array Slot} (hl : lv_has ls 3 [(0, .ref (sgA P 0)), (1, .int p1)]) {st : Int32 × sgS} (h : f_X11_done N p1 σ = some st) (hk : sg_Ri p l e R s m args below meth c Q P shC 332 A cX11_done (some .int) st) : W p l e R s m args below meth c H locs 0 0 Q (F0 m 0 ls []) := by
  unfold f_X11_done at h
  have hx := X.1.1
  have hb := X.1.2.1
  have hown := X.1.2.2.2.1
  have hts := X.1.2.2.2.2
  refine lv_aload_n hx hb dX11_done_0 rfl (lv_at hl 0 rfl) ?_
  refine sg_getr X I fk_X11_19 (j := 3) (by decide) shC_0 rfl dX11_done_1 ?_
  refine lv_iload_n hx hb dX11_done_4 rfl (lv_at hl 1 rfl) ?_
  refine sg_callVr (As := [.int p1]) X I mk_X11_209 (by decide) (by decide) shC_3 rfl (fun q9 e9 => c_X0_hasSet isCo_3 e9) h hl.1 rfl rfl (Nat.le_of_ble_eq_true rfl) dX11_done_5 (fun v1 H locs h I => ?_)
  refine lv_if_ne (tgt := 13) hx hb dX11_done_8 (by decide) (fun z => ?_) (fun z => ?_)
  · have h := sg_iff h z
    refine lv_aload_n hx hb dX11_done_13 rfl (lv_at hl 0 rfl) ?_
    refine sg_getr X I fk_X11_56 (j := 43) (by decide) shC_0 rfl dX11_done_14 ?_
    refine lv_aload_n hx hb dX11_done_17 rfl (lv_at hl 0 rfl) ?_
    refine sg_getr X I fk_X11_52 (j := 37) (by decide) shC_0 rfl dX11_done_18 ?_
    refine sg_callVv (As := [.ref (sgA P 37)]) X I mk_X11_322 (by decide) (isSt_i0 isSt_43) (isSt_s0 isSt_43) rfl (fun q9 e9 => c_X8_copyFrom isSt_43 isSt_37 e9) h hl.1 rfl rfl (Nat.le_of_ble_eq_true rfl) dX11_done_21 (fun v2 s3 H locs h I => ?_)
    refine lv_iconst (v := 0) hx hb dX11_done_24 (by decide) ?_
    refine lv_istore_n (lv' := [(2, .int 0), (0, .ref (sgA P 0)), (1, .int p1)]) hx hb dX11_done_25 rfl hl (by decide) rfl (fun ls hl => ?_)
    obtain ⟨res, e9, k9⟩ := sg_lb_some h
    refine sg_go (sg_lp_W (a := (sg_Ri p l e R s m args below meth c Q P shC 332 A cX11_done (some .int))) (w := (fun x => sg_Wt p l e R s m args below meth c Q P shC 332 A 3 26 x.1 [(0, .ref (sgA P 0)), (1, .int p1), (2, .int x.2)])) (c := (fun y => sg_Wt p l e R s m args below meth c Q P shC 332 A 3 65 y [])) (fun x st hb9 hk9 => ?_) N ((s3, 0)) res e9 (sg_k2_mono k9 (fun r h => ?_) (fun y7 h => ?_))) I (lv_sub hl [1, 2, 0] rfl)
    · intro H locs ls I hl
      exact b_X11_done_L26 X I hl hb9 hk9
    · obtain rfl := Option.some.inj h
      exact hk
    · intro H locs ls I hl
      refine lv_iconst (v := -1) hx hb dX11_done_65 (by decide) ?_
      obtain rfl := Option.some.inj h
      exact hk _ _ _ _ _ I ⟨_, rfl, rfl⟩ dX11_done_66
  · have h := sg_ift h z
    refine lv_iconst (v := -1) hx hb dX11_done_11 (by decide) ?_
    obtain rfl := Option.some.inj h
    exact hk _ _ _ _ _ I ⟨_, rfl, rfl⟩ dX11_done_12
set_option maxHeartbeats 4000000 in
set_option maxRecDepth 100000 in
theorem c_X11_done {l : Launch} {P : sgP} {N : Nat} {p1 : Int32} {σ : sgS} {q : Int32 × sgS} (h : f_X11_done N p1 σ = some q) : sg_Mi P shC 332 l yX11_done cX11_done 3 (some .int) 6 [.ref (sgA P 0), .int p1] σ q := by
  refine sg_mki (plainFor_of_name (by decide +kernel)) (Nat.le_of_ble_eq_true rfl) ?_
  intro p e R s m args below meth c Q A ls H locs X I hl hk
  exact b_X11_done X I hl h hk
def f_X11_parted (N : Nat) (p1 : Int32) (p2 : Int32) (σ : sgS) : Option (Int32) :=
  sg_cr (f_X0_hasPlaces N 3 p1 p2 σ) fun v1 =>
if v1 = 0 then
  (some ((-1)))
else
  (if p1 = p2 then
    (some ((-1)))
  else
    (sg_cr (f_X0_allRoads N 3 σ) fun v2 =>
    sg_cr (f_X5_fewestToPart N p1 p2 (v2 &&& ((σ.1 37 5) ^^^ ((-1)))) σ) fun v3 =>
    some v3))
set_option maxHeartbeats 4000000 in
set_option maxRecDepth 100000 in
theorem b_X11_parted {p : Program} {l : Launch} {e : Env} {R : Room} {s : State} {m : MethodId} {args : Array Value} {below : List Frame} {meth : Method} {c : Code} {Q : State → Prop} {P : sgP} {A : Nat → Prop} {N : Nat} {p1 : Int32} {p2 : Int32} {σ : sgS} (X : sg_C P A 4 p R s m args c cX11_parted 3 RX11) {H : Heap} {locs : List Loc} (I : sg_I P shC 332 A s.heap σ H locs) {ls : Array Slot} (hl : lv_has ls 3 [(0, .ref (sgA P 0)), (1, .int p1), (2, .int p2)]) {st : Int32} (h : f_X11_parted N p1 p2 σ = some st) (hk : sg_Ri p l e R s m args below meth c Q P shC 332 A cX11_parted (some .int) (st, σ)) : W p l e R s m args below meth c H locs 0 0 Q (F0 m 0 ls []) := by
  unfold f_X11_parted at h
  have hx := X.1.1
  have hb := X.1.2.1
  have hown := X.1.2.2.2.1
  have hts := X.1.2.2.2.2
  refine lv_aload_n hx hb dX11_parted_0 rfl (lv_at hl 0 rfl) ?_
  refine sg_getr X I fk_X11_19 (j := 3) (by decide) shC_0 rfl dX11_parted_1 ?_
  refine lv_iload_n hx hb dX11_parted_4 rfl (lv_at hl 1 rfl) ?_
  refine lv_iload_n hx hb dX11_parted_5 rfl (lv_at hl 2 rfl) ?_
  refine sg_callVr (As := [.int p1, .int p2]) X I mk_X11_308 (by decide) (by decide) shC_3 rfl (fun q9 e9 => c_X0_hasPlaces isCo_3 e9) h hl.1 rfl rfl (Nat.le_of_ble_eq_true rfl) dX11_parted_6 (fun v1 H locs h I => ?_)
  refine lv_if_eq (tgt := 17) hx hb dX11_parted_9 (by decide) (fun z => ?_) (fun z => ?_)
  · have h := sg_ift h z
    refine lv_iconst (v := -1) hx hb dX11_parted_17 (by decide) ?_
    obtain rfl := Option.some.inj h
    exact hk _ _ _ _ _ I ⟨_, rfl, rfl⟩ dX11_parted_18
  · have h := sg_iff h z
    refine lv_iload_n hx hb dX11_parted_12 rfl (lv_at hl 1 rfl) ?_
    refine lv_iload_n hx hb dX11_parted_13 rfl (lv_at hl 2 rfl) ?_
    refine lv_icmp_ne (tgt := 19) hx hb dX11_parted_14 (by decide) (fun z => ?_) (fun z => ?_)
    · have h := sg_iff h z
      refine lv_aload_n hx hb dX11_parted_19 rfl (lv_at hl 0 rfl) ?_
      refine sg_getr X I fk_X11_80 (j := 302) (by decide) shC_0 rfl dX11_parted_20 ?_
      refine lv_iload_n hx hb dX11_parted_23 rfl (lv_at hl 1 rfl) ?_
      refine lv_iload_n hx hb dX11_parted_24 rfl (lv_at hl 2 rfl) ?_
      refine lv_aload_n hx hb dX11_parted_25 rfl (lv_at hl 0 rfl) ?_
      refine sg_getr X I fk_X11_19 (j := 3) (by decide) shC_0 rfl dX11_parted_26 ?_
      refine sg_callVr (As := []) X I mk_X11_324 (by decide) (by decide) shC_3 rfl (fun q9 e9 => c_X0_allRoads isCo_3 e9) h hl.1 rfl rfl (Nat.le_of_ble_eq_true rfl) dX11_parted_29 (fun v2 H locs h I => ?_)
      refine lv_aload_n hx hb dX11_parted_32 rfl (lv_at hl 0 rfl) ?_
      refine sg_getr X I fk_X11_52 (j := 37) (by decide) shC_0 rfl dX11_parted_33 ?_
      refine sg_getiN X I fn_X11_206 (isSt_i0 isSt_37) (isSt_s0 isSt_37) rfl dX11_parted_36 ?_
      refine lv_iconst (v := -1) hx hb dX11_parted_39 (by decide) ?_
      refine lv_ixor hx hb dX11_parted_40 ?_
      refine lv_iand hx hb dX11_parted_41 ?_
      refine sg_callVr (As := [.int p1, .int p2, .int (v2 &&& ((σ.1 37 5) ^^^ ((-1))))]) X I mk_X11_327 (by decide) (by decide) shC_302 rfl (fun q9 e9 => c_X5_fewestToPart e9) h hl.1 rfl rfl (Nat.le_of_ble_eq_true rfl) dX11_parted_42 (fun v3 H locs h I => ?_)
      obtain rfl := Option.some.inj h
      exact hk _ _ _ _ _ I ⟨_, rfl, rfl⟩ dX11_parted_45
    · have h := sg_ift h z
      refine lv_iconst (v := -1) hx hb dX11_parted_17 (by decide) ?_
      obtain rfl := Option.some.inj h
      exact hk _ _ _ _ _ I ⟨_, rfl, rfl⟩ dX11_parted_18
set_option maxHeartbeats 4000000 in
set_option maxRecDepth 100000 in
theorem c_X11_parted {l : Launch} {P : sgP} {N : Nat} {p1 : Int32} {p2 : Int32} {σ : sgS} {q : Int32} (h : f_X11_parted N p1 p2 σ = some q) : sg_Mi P shC 332 l yX11_parted cX11_parted 3 (some .int) 4 [.ref (sgA P 0), .int p1, .int p2] σ (q, σ) := by
  refine sg_mki (plainFor_of_name (by decide +kernel)) (Nat.le_of_ble_eq_true rfl) ?_
  intro p e R s m args below meth c Q A ls H locs X I hl hk
  exact b_X11_parted X I hl h hk
def f_X11_joined (N : Nat) (p1 : Int32) (p2 : Int32) (σ : sgS) : Option (Int32) :=
  sg_cr (f_X0_hasPlaces N 3 p1 p2 σ) fun v1 =>
if v1 = 0 then
  (some ((-1)))
else
  (if p1 = p2 then
    (some ((-1)))
  else
    (sg_cr (f_X0_allRoads N 3 σ) fun v2 =>
    sg_cr (f_X5_fewestToJoin N p1 p2 (v2 &&& ((σ.1 37 5) ^^^ ((-1)))) σ) fun v3 =>
    some v3))
set_option maxHeartbeats 4000000 in
set_option maxRecDepth 100000 in
theorem b_X11_joined {p : Program} {l : Launch} {e : Env} {R : Room} {s : State} {m : MethodId} {args : Array Value} {below : List Frame} {meth : Method} {c : Code} {Q : State → Prop} {P : sgP} {A : Nat → Prop} {N : Nat} {p1 : Int32} {p2 : Int32} {σ : sgS} (X : sg_C P A 4 p R s m args c cX11_joined 3 RX11) {H : Heap} {locs : List Loc} (I : sg_I P shC 332 A s.heap σ H locs) {ls : Array Slot} (hl : lv_has ls 3 [(0, .ref (sgA P 0)), (1, .int p1), (2, .int p2)]) {st : Int32} (h : f_X11_joined N p1 p2 σ = some st) (hk : sg_Ri p l e R s m args below meth c Q P shC 332 A cX11_joined (some .int) (st, σ)) : W p l e R s m args below meth c H locs 0 0 Q (F0 m 0 ls []) := by
  unfold f_X11_joined at h
  have hx := X.1.1
  have hb := X.1.2.1
  have hown := X.1.2.2.2.1
  have hts := X.1.2.2.2.2
  refine lv_aload_n hx hb dX11_joined_0 rfl (lv_at hl 0 rfl) ?_
  refine sg_getr X I fk_X11_19 (j := 3) (by decide) shC_0 rfl dX11_joined_1 ?_
  refine lv_iload_n hx hb dX11_joined_4 rfl (lv_at hl 1 rfl) ?_
  refine lv_iload_n hx hb dX11_joined_5 rfl (lv_at hl 2 rfl) ?_
  refine sg_callVr (As := [.int p1, .int p2]) X I mk_X11_308 (by decide) (by decide) shC_3 rfl (fun q9 e9 => c_X0_hasPlaces isCo_3 e9) h hl.1 rfl rfl (Nat.le_of_ble_eq_true rfl) dX11_joined_6 (fun v1 H locs h I => ?_)
  refine lv_if_eq (tgt := 17) hx hb dX11_joined_9 (by decide) (fun z => ?_) (fun z => ?_)
  · have h := sg_ift h z
    refine lv_iconst (v := -1) hx hb dX11_joined_17 (by decide) ?_
    obtain rfl := Option.some.inj h
    exact hk _ _ _ _ _ I ⟨_, rfl, rfl⟩ dX11_joined_18
  · have h := sg_iff h z
    refine lv_iload_n hx hb dX11_joined_12 rfl (lv_at hl 1 rfl) ?_
    refine lv_iload_n hx hb dX11_joined_13 rfl (lv_at hl 2 rfl) ?_
    refine lv_icmp_ne (tgt := 19) hx hb dX11_joined_14 (by decide) (fun z => ?_) (fun z => ?_)
    · have h := sg_iff h z
      refine lv_aload_n hx hb dX11_joined_19 rfl (lv_at hl 0 rfl) ?_
      refine sg_getr X I fk_X11_80 (j := 302) (by decide) shC_0 rfl dX11_joined_20 ?_
      refine lv_iload_n hx hb dX11_joined_23 rfl (lv_at hl 1 rfl) ?_
      refine lv_iload_n hx hb dX11_joined_24 rfl (lv_at hl 2 rfl) ?_
      refine lv_aload_n hx hb dX11_joined_25 rfl (lv_at hl 0 rfl) ?_
      refine sg_getr X I fk_X11_19 (j := 3) (by decide) shC_0 rfl dX11_joined_26 ?_
      refine sg_callVr (As := []) X I mk_X11_324 (by decide) (by decide) shC_3 rfl (fun q9 e9 => c_X0_allRoads isCo_3 e9) h hl.1 rfl rfl (Nat.le_of_ble_eq_true rfl) dX11_joined_29 (fun v2 H locs h I => ?_)
      refine lv_aload_n hx hb dX11_joined_32 rfl (lv_at hl 0 rfl) ?_
      refine sg_getr X I fk_X11_52 (j := 37) (by decide) shC_0 rfl dX11_joined_33 ?_
      refine sg_getiN X I fn_X11_206 (isSt_i0 isSt_37) (isSt_s0 isSt_37) rfl dX11_joined_36 ?_
      refine lv_iconst (v := -1) hx hb dX11_joined_39 (by decide) ?_
      refine lv_ixor hx hb dX11_joined_40 ?_
      refine lv_iand hx hb dX11_joined_41 ?_
      refine sg_callVr (As := [.int p1, .int p2, .int (v2 &&& ((σ.1 37 5) ^^^ ((-1))))]) X I mk_X11_331 (by decide) (by decide) shC_302 rfl (fun q9 e9 => c_X5_fewestToJoin e9) h hl.1 rfl rfl (Nat.le_of_ble_eq_true rfl) dX11_joined_42 (fun v3 H locs h I => ?_)
      obtain rfl := Option.some.inj h
      exact hk _ _ _ _ _ I ⟨_, rfl, rfl⟩ dX11_joined_45
    · have h := sg_ift h z
      refine lv_iconst (v := -1) hx hb dX11_joined_17 (by decide) ?_
      obtain rfl := Option.some.inj h
      exact hk _ _ _ _ _ I ⟨_, rfl, rfl⟩ dX11_joined_18
set_option maxHeartbeats 4000000 in
set_option maxRecDepth 100000 in
theorem c_X11_joined {l : Launch} {P : sgP} {N : Nat} {p1 : Int32} {p2 : Int32} {σ : sgS} {q : Int32} (h : f_X11_joined N p1 p2 σ = some q) : sg_Mi P shC 332 l yX11_joined cX11_joined 3 (some .int) 4 [.ref (sgA P 0), .int p1, .int p2] σ (q, σ) := by
  refine sg_mki (plainFor_of_name (by decide +kernel)) (Nat.le_of_ble_eq_true rfl) ?_
  intro p e R s m args below meth c Q A ls H locs X I hl hk
  exact b_X11_joined X I hl h hk
def f_X11_seen (N : Nat) (p1 : Int32) (p2 : Int32) (p3 : Int32) (p4 : Int32) (σ : sgS) : Option (Int32 × sgS) :=
  sg_cr (f_X0_hasSet N 3 p1 σ) fun v1 =>
if v1 = 0 then
  (some ((-1), σ))
else
  (sg_cr (f_X0_hasPlace N 3 p2 σ) fun v2 =>
  if v2 = 0 then
    (some ((-1), σ))
  else
    (if p3 < 1 then
      (some ((-1), σ))
    else
      (if p3 ≤ 9 then
        (sg_cl (f_X7_keep N p1 p2 p3 p4 σ) fun v3 s4 =>
        some (v3, s4))
      else
        (some ((-1), σ)))))
set_option maxHeartbeats 4000000 in
set_option maxRecDepth 100000 in
theorem b_X11_seen {p : Program} {l : Launch} {e : Env} {R : Room} {s : State} {m : MethodId} {args : Array Value} {below : List Frame} {meth : Method} {c : Code} {Q : State → Prop} {P : sgP} {A : Nat → Prop} {N : Nat} {p1 : Int32} {p2 : Int32} {p3 : Int32} {p4 : Int32} {σ : sgS} (X : sg_C P A 2 p R s m args c cX11_seen 5 RX11) {H : Heap} {locs : List Loc} (I : sg_I P shC 332 A s.heap σ H locs) {ls : Array Slot} (hl : lv_has ls 5 [(0, .ref (sgA P 0)), (1, .int p1), (2, .int p2), (3, .int p3), (4, .int p4)]) {st : Int32 × sgS} (h : f_X11_seen N p1 p2 p3 p4 σ = some st) (hk : sg_Ri p l e R s m args below meth c Q P shC 332 A cX11_seen (some .int) st) : W p l e R s m args below meth c H locs 0 0 Q (F0 m 0 ls []) := by
  unfold f_X11_seen at h
  have hx := X.1.1
  have hb := X.1.2.1
  have hown := X.1.2.2.2.1
  have hts := X.1.2.2.2.2
  refine lv_aload_n hx hb dX11_seen_0 rfl (lv_at hl 0 rfl) ?_
  refine sg_getr X I fk_X11_19 (j := 3) (by decide) shC_0 rfl dX11_seen_1 ?_
  refine lv_iload_n hx hb dX11_seen_4 rfl (lv_at hl 1 rfl) ?_
  refine sg_callVr (As := [.int p1]) X I mk_X11_209 (by decide) (by decide) shC_3 rfl (fun q9 e9 => c_X0_hasSet isCo_3 e9) h hl.1 rfl rfl (Nat.le_of_ble_eq_true rfl) dX11_seen_5 (fun v1 H locs h I => ?_)
  refine lv_if_eq (tgt := 33) hx hb dX11_seen_8 (by decide) (fun z => ?_) (fun z => ?_)
  · have h := sg_ift h z
    refine lv_iconst (v := -1) hx hb dX11_seen_33 (by decide) ?_
    obtain rfl := Option.some.inj h
    exact hk _ _ _ _ _ I ⟨_, rfl, rfl⟩ dX11_seen_34
  · have h := sg_iff h z
    refine lv_aload_n hx hb dX11_seen_11 rfl (lv_at hl 0 rfl) ?_
    refine sg_getr X I fk_X11_19 (j := 3) (by decide) shC_0 rfl dX11_seen_12 ?_
    refine lv_iload_n hx hb dX11_seen_15 rfl (lv_at hl 2 rfl) ?_
    refine sg_callVr (As := [.int p2]) X I mk_X11_224 (by decide) (by decide) shC_3 rfl (fun q9 e9 => c_X0_hasPlace isCo_3 e9) h hl.1 rfl rfl (Nat.le_of_ble_eq_true rfl) dX11_seen_16 (fun v2 H locs h I => ?_)
    refine lv_if_eq (tgt := 33) hx hb dX11_seen_19 (by decide) (fun z => ?_) (fun z => ?_)
    · have h := sg_ift h z
      refine lv_iconst (v := -1) hx hb dX11_seen_33 (by decide) ?_
      obtain rfl := Option.some.inj h
      exact hk _ _ _ _ _ I ⟨_, rfl, rfl⟩ dX11_seen_34
    · have h := sg_iff h z
      refine lv_iload_n hx hb dX11_seen_22 rfl (lv_at hl 3 rfl) ?_
      refine lv_iconst (v := 1) hx hb dX11_seen_23 (by decide) ?_
      refine lv_icmp_lt (tgt := 33) hx hb dX11_seen_24 (by decide) (fun z => ?_) (fun z => ?_)
      · have h := sg_ift h z
        refine lv_iconst (v := -1) hx hb dX11_seen_33 (by decide) ?_
        obtain rfl := Option.some.inj h
        exact hk _ _ _ _ _ I ⟨_, rfl, rfl⟩ dX11_seen_34
      · have h := sg_iff h z
        refine lv_iload_n hx hb dX11_seen_27 rfl (lv_at hl 3 rfl) ?_
        refine lv_bipush (v := 9) hx hb dX11_seen_28 (by decide) ?_
        refine lv_icmp_le (tgt := 35) hx hb dX11_seen_30 (by decide) (fun z => ?_) (fun z => ?_)
        · have h := sg_ift h z
          refine lv_aload_n hx hb dX11_seen_35 rfl (lv_at hl 0 rfl) ?_
          refine sg_getr X I fk_X11_89 (j := 320) (by decide) shC_0 rfl dX11_seen_36 ?_
          refine lv_iload_n hx hb dX11_seen_39 rfl (lv_at hl 1 rfl) ?_
          refine lv_iload_n hx hb dX11_seen_40 rfl (lv_at hl 2 rfl) ?_
          refine lv_iload_n hx hb dX11_seen_41 rfl (lv_at hl 3 rfl) ?_
          refine lv_iload hx hb dX11_seen_42 (lv_at hl 4 rfl) ?_
          refine sg_callV (As := [.int p1, .int p2, .int p3, .int p4]) X I mk_X11_334 (by decide) (by decide) shC_320 rfl (fun q9 e9 => c_X7_keep e9) h hl.1 rfl rfl (Nat.le_of_ble_eq_true rfl) dX11_seen_44 (fun v3 s4 H locs h I => ?_)
          obtain rfl := Option.some.inj h
          exact hk _ _ _ _ _ I ⟨_, rfl, rfl⟩ dX11_seen_47
        · have h := sg_iff h z
          refine lv_iconst (v := -1) hx hb dX11_seen_33 (by decide) ?_
          obtain rfl := Option.some.inj h
          exact hk _ _ _ _ _ I ⟨_, rfl, rfl⟩ dX11_seen_34
set_option maxHeartbeats 4000000 in
set_option maxRecDepth 100000 in
theorem c_X11_seen {l : Launch} {P : sgP} {N : Nat} {p1 : Int32} {p2 : Int32} {p3 : Int32} {p4 : Int32} {σ : sgS} {q : Int32 × sgS} (h : f_X11_seen N p1 p2 p3 p4 σ = some q) : sg_Mi P shC 332 l yX11_seen cX11_seen 5 (some .int) 2 [.ref (sgA P 0), .int p1, .int p2, .int p3, .int p4] σ q := by
  refine sg_mki (plainFor_of_name (by decide +kernel)) (Nat.le_of_ble_eq_true rfl) ?_
  intro p e R s m args below meth c Q A ls H locs X I hl hk
  exact b_X11_seen X I hl h hk
def f_X11_fits (N : Nat) (p1 : Int32) (σ : sgS) : Option (Int32 × sgS) :=
  sg_cr (f_X0_hasSet N 3 p1 σ) fun v1 =>
if v1 = 0 then
  (some ((-1), σ))
else
  (sg_cl (f_X7_fittingWays N p1 σ) fun v2 s3 =>
  some (v2, s3))
set_option maxHeartbeats 4000000 in
set_option maxRecDepth 100000 in
theorem b_X11_fits {p : Program} {l : Launch} {e : Env} {R : Room} {s : State} {m : MethodId} {args : Array Value} {below : List Frame} {meth : Method} {c : Code} {Q : State → Prop} {P : sgP} {A : Nat → Prop} {N : Nat} {p1 : Int32} {σ : sgS} (X : sg_C P A 8 p R s m args c cX11_fits 2 RX11) {H : Heap} {locs : List Loc} (I : sg_I P shC 332 A s.heap σ H locs) {ls : Array Slot} (hl : lv_has ls 2 [(0, .ref (sgA P 0)), (1, .int p1)]) {st : Int32 × sgS} (h : f_X11_fits N p1 σ = some st) (hk : sg_Ri p l e R s m args below meth c Q P shC 332 A cX11_fits (some .int) st) : W p l e R s m args below meth c H locs 0 0 Q (F0 m 0 ls []) := by
  unfold f_X11_fits at h
  have hx := X.1.1
  have hb := X.1.2.1
  have hown := X.1.2.2.2.1
  have hts := X.1.2.2.2.2
  refine lv_aload_n hx hb dX11_fits_0 rfl (lv_at hl 0 rfl) ?_
  refine sg_getr X I fk_X11_19 (j := 3) (by decide) shC_0 rfl dX11_fits_1 ?_
  refine lv_iload_n hx hb dX11_fits_4 rfl (lv_at hl 1 rfl) ?_
  refine sg_callVr (As := [.int p1]) X I mk_X11_209 (by decide) (by decide) shC_3 rfl (fun q9 e9 => c_X0_hasSet isCo_3 e9) h hl.1 rfl rfl (Nat.le_of_ble_eq_true rfl) dX11_fits_5 (fun v1 H locs h I => ?_)
  refine lv_if_eq (tgt := 22) hx hb dX11_fits_8 (by decide) (fun z => ?_) (fun z => ?_)
  · have h := sg_ift h z
    refine lv_iconst (v := -1) hx hb dX11_fits_22 (by decide) ?_
    obtain rfl := Option.some.inj h
    exact hk _ _ _ _ _ I ⟨_, rfl, rfl⟩ dX11_fits_23
  · have h := sg_iff h z
    refine lv_aload_n hx hb dX11_fits_11 rfl (lv_at hl 0 rfl) ?_
    refine sg_getr X I fk_X11_89 (j := 320) (by decide) shC_0 rfl dX11_fits_12 ?_
    refine lv_iload_n hx hb dX11_fits_15 rfl (lv_at hl 1 rfl) ?_
    refine sg_callV (As := [.int p1]) X I mk_X11_337 (by decide) (by decide) shC_320 rfl (fun q9 e9 => c_X7_fittingWays e9) h hl.1 rfl rfl (Nat.le_of_ble_eq_true rfl) dX11_fits_16 (fun v2 s3 H locs h I => ?_)
    refine lv_goto (tgt := 23) hx hb dX11_fits_19 (by decide) ?_
    obtain rfl := Option.some.inj h
    exact hk _ _ _ _ _ I ⟨_, rfl, rfl⟩ dX11_fits_23
set_option maxHeartbeats 4000000 in
set_option maxRecDepth 100000 in
theorem c_X11_fits {l : Launch} {P : sgP} {N : Nat} {p1 : Int32} {σ : sgS} {q : Int32 × sgS} (h : f_X11_fits N p1 σ = some q) : sg_Mi P shC 332 l yX11_fits cX11_fits 2 (some .int) 8 [.ref (sgA P 0), .int p1] σ q := by
  refine sg_mki (plainFor_of_name (by decide +kernel)) (Nat.le_of_ble_eq_true rfl) ?_
  intro p e R s m args below meth c Q A ls H locs X I hl hk
  exact b_X11_fits X I hl h hk
def f_X11_ask_B23 (N : Nat) (p1 : Int32) (k0 : Int32) (σ : sgS) : Option (Int32 × sgS) :=
  if k0 = 0 then
  (some ((-1), σ))
else
  (sg_cr (f_X7_bestDayFor N k0 σ) fun v2 =>
  some (v2, σ))
set_option maxHeartbeats 4000000 in
set_option maxRecDepth 100000 in
theorem b_X11_ask_B23 {p : Program} {l : Launch} {e : Env} {R : Room} {s : State} {m : MethodId} {args : Array Value} {below : List Frame} {meth : Method} {c : Code} {Q : State → Prop} {P : sgP} {A : Nat → Prop} {N : Nat} {p1 : Int32} {k0 : Int32} {σ : sgS} (X : sg_C P A 8 p R s m args c cX11_ask 3 RX11) {H : Heap} {locs : List Loc} (I : sg_I P shC 332 A s.heap σ H locs) {ls : Array Slot} (hl : lv_has ls 3 [(0, .ref (sgA P 0))]) {st : Int32 × sgS} (h : f_X11_ask_B23 N p1 k0 σ = some st) (hk : sg_Ri p l e R s m args below meth c Q P shC 332 A cX11_ask (some .int) st) : W p l e R s m args below meth c H locs 0 0 Q (F0 m 23 ls [.int k0]) := by
  unfold f_X11_ask_B23 at h
  have hx := X.1.1
  have hb := X.1.2.1
  have hown := X.1.2.2.2.1
  have hts := X.1.2.2.2.2
  refine lv_istore_n (lv' := [(2, .int k0), (0, .ref (sgA P 0))]) hx hb dX11_ask_23 rfl hl (by decide) rfl (fun ls hl => ?_)
  refine lv_iload_n hx hb dX11_ask_24 rfl (lv_at hl 0 rfl) ?_
  refine lv_if_ne (tgt := 32) hx hb dX11_ask_25 (by decide) (fun z => ?_) (fun z => ?_)
  · have h := sg_iff h z
    refine lv_aload_n hx hb dX11_ask_32 rfl (lv_at hl 1 rfl) ?_
    refine sg_getr X I fk_X11_89 (j := 320) (by decide) shC_0 rfl dX11_ask_33 ?_
    refine lv_iload_n hx hb dX11_ask_36 rfl (lv_at hl 0 rfl) ?_
    refine sg_callVr (As := [.int k0]) X I mk_X11_340 (by decide) (by decide) shC_320 rfl (fun q9 e9 => c_X7_bestDayFor e9) h hl.1 rfl rfl (Nat.le_of_ble_eq_true rfl) dX11_ask_37 (fun v2 H locs h I => ?_)
    obtain rfl := Option.some.inj h
    exact hk _ _ _ _ _ I ⟨_, rfl, rfl⟩ dX11_ask_40
  · have h := sg_ift h z
    refine lv_iconst (v := -1) hx hb dX11_ask_28 (by decide) ?_
    refine lv_goto (tgt := 40) hx hb dX11_ask_29 (by decide) ?_
    obtain rfl := Option.some.inj h
    exact hk _ _ _ _ _ I ⟨_, rfl, rfl⟩ dX11_ask_40
def f_X11_ask (N : Nat) (p1 : Int32) (σ : sgS) : Option (Int32 × sgS) :=
  sg_cr (f_X0_hasSet N 3 p1 σ) fun v1 =>
if v1 = 0 then
  (f_X11_ask_B23 N p1 0 σ)
else
  (sg_cl (f_X7_fittingWays N p1 σ) fun v3 s4 =>
  f_X11_ask_B23 N p1 v3 s4)
set_option maxHeartbeats 4000000 in
set_option maxRecDepth 100000 in
theorem b_X11_ask {p : Program} {l : Launch} {e : Env} {R : Room} {s : State} {m : MethodId} {args : Array Value} {below : List Frame} {meth : Method} {c : Code} {Q : State → Prop} {P : sgP} {A : Nat → Prop} {N : Nat} {p1 : Int32} {σ : sgS} (X : sg_C P A 8 p R s m args c cX11_ask 3 RX11) {H : Heap} {locs : List Loc} (I : sg_I P shC 332 A s.heap σ H locs) {ls : Array Slot} (hl : lv_has ls 3 [(0, .ref (sgA P 0)), (1, .int p1)]) {st : Int32 × sgS} (h : f_X11_ask N p1 σ = some st) (hk : sg_Ri p l e R s m args below meth c Q P shC 332 A cX11_ask (some .int) st) : W p l e R s m args below meth c H locs 0 0 Q (F0 m 0 ls []) := by
  unfold f_X11_ask at h
  have hx := X.1.1
  have hb := X.1.2.1
  have hown := X.1.2.2.2.1
  have hts := X.1.2.2.2.2
  refine lv_aload_n hx hb dX11_ask_0 rfl (lv_at hl 0 rfl) ?_
  refine sg_getr X I fk_X11_19 (j := 3) (by decide) shC_0 rfl dX11_ask_1 ?_
  refine lv_iload_n hx hb dX11_ask_4 rfl (lv_at hl 1 rfl) ?_
  refine sg_callVr (As := [.int p1]) X I mk_X11_209 (by decide) (by decide) shC_3 rfl (fun q9 e9 => c_X0_hasSet isCo_3 e9) h hl.1 rfl rfl (Nat.le_of_ble_eq_true rfl) dX11_ask_5 (fun v1 H locs h I => ?_)
  refine lv_if_eq (tgt := 22) hx hb dX11_ask_8 (by decide) (fun z => ?_) (fun z => ?_)
  · have h := sg_ift h z
    refine lv_iconst (v := 0) hx hb dX11_ask_22 (by decide) ?_
    exact b_X11_ask_B23 X I (lv_sub hl [0] rfl) h hk
  · have h := sg_iff h z
    refine lv_aload_n hx hb dX11_ask_11 rfl (lv_at hl 0 rfl) ?_
    refine sg_getr X I fk_X11_89 (j := 320) (by decide) shC_0 rfl dX11_ask_12 ?_
    refine lv_iload_n hx hb dX11_ask_15 rfl (lv_at hl 1 rfl) ?_
    refine sg_callV (As := [.int p1]) X I mk_X11_337 (by decide) (by decide) shC_320 rfl (fun q9 e9 => c_X7_fittingWays e9) h hl.1 rfl rfl (Nat.le_of_ble_eq_true rfl) dX11_ask_16 (fun v3 s4 H locs h I => ?_)
    refine lv_goto (tgt := 23) hx hb dX11_ask_19 (by decide) ?_
    exact b_X11_ask_B23 X I (lv_sub hl [0] rfl) h hk
set_option maxHeartbeats 4000000 in
set_option maxRecDepth 100000 in
theorem c_X11_ask {l : Launch} {P : sgP} {N : Nat} {p1 : Int32} {σ : sgS} {q : Int32 × sgS} (h : f_X11_ask N p1 σ = some q) : sg_Mi P shC 332 l yX11_ask cX11_ask 3 (some .int) 8 [.ref (sgA P 0), .int p1] σ q := by
  refine sg_mki (plainFor_of_name (by decide +kernel)) (Nat.le_of_ble_eq_true rfl) ?_
  intro p e R s m args below meth c Q A ls H locs X I hl hk
  exact b_X11_ask X I hl h hk
def f_X11_tour (N : Nat) (p1 : Int32) (p2 : Int32) (p3 : Int32) (σ : sgS) : Option (Int32 × sgS) :=
  sg_cr (f_X0_hasPlace N 3 p1 σ) fun v1 =>
if v1 = 0 then
  (some ((-1), σ))
else
  (sg_cr (f_X0_hasAnyOf N 3 p2 σ) fun v2 =>
  if v2 = 0 then
    (some ((-1), σ))
  else
    (if p3 < 0 then
      (some ((-1), σ))
    else
      (if p3 ≤ 1 then
        (sg_cl (f_X5_measure N 37 σ) fun v3 s4 =>
        sg_cl (f_X2_findTour N p1 p2 s4) fun v5 s6 =>
        if v5 = 0 then
          (some ((-1), s6))
        else
          (if p3 = 0 then
            (some (s6.1 330 5, s6))
          else
            (some (s6.1 330 6, s6))))
      else
        (some ((-1), σ)))))
set_option maxHeartbeats 4000000 in
set_option maxRecDepth 100000 in
theorem b_X11_tour {p : Program} {l : Launch} {e : Env} {R : Room} {s : State} {m : MethodId} {args : Array Value} {below : List Frame} {meth : Method} {c : Code} {Q : State → Prop} {P : sgP} {A : Nat → Prop} {N : Nat} {p1 : Int32} {p2 : Int32} {p3 : Int32} {σ : sgS} (X : sg_C P A 44 p R s m args c cX11_tour 4 RX11) {H : Heap} {locs : List Loc} (I : sg_I P shC 332 A s.heap σ H locs) {ls : Array Slot} (hl : lv_has ls 4 [(0, .ref (sgA P 0)), (1, .int p1), (2, .int p2), (3, .int p3)]) {st : Int32 × sgS} (h : f_X11_tour N p1 p2 p3 σ = some st) (hk : sg_Ri p l e R s m args below meth c Q P shC 332 A cX11_tour (some .int) st) : W p l e R s m args below meth c H locs 0 0 Q (F0 m 0 ls []) := by
  unfold f_X11_tour at h
  have hx := X.1.1
  have hb := X.1.2.1
  have hown := X.1.2.2.2.1
  have hts := X.1.2.2.2.2
  refine lv_aload_n hx hb dX11_tour_0 rfl (lv_at hl 0 rfl) ?_
  refine sg_getr X I fk_X11_19 (j := 3) (by decide) shC_0 rfl dX11_tour_1 ?_
  refine lv_iload_n hx hb dX11_tour_4 rfl (lv_at hl 1 rfl) ?_
  refine sg_callVr (As := [.int p1]) X I mk_X11_224 (by decide) (by decide) shC_3 rfl (fun q9 e9 => c_X0_hasPlace isCo_3 e9) h hl.1 rfl rfl (Nat.le_of_ble_eq_true rfl) dX11_tour_5 (fun v1 H locs h I => ?_)
  refine lv_if_eq (tgt := 31) hx hb dX11_tour_8 (by decide) (fun z => ?_) (fun z => ?_)
  · have h := sg_ift h z
    refine lv_iconst (v := -1) hx hb dX11_tour_31 (by decide) ?_
    obtain rfl := Option.some.inj h
    exact hk _ _ _ _ _ I ⟨_, rfl, rfl⟩ dX11_tour_32
  · have h := sg_iff h z
    refine lv_aload_n hx hb dX11_tour_11 rfl (lv_at hl 0 rfl) ?_
    refine sg_getr X I fk_X11_19 (j := 3) (by decide) shC_0 rfl dX11_tour_12 ?_
    refine lv_iload_n hx hb dX11_tour_15 rfl (lv_at hl 2 rfl) ?_
    refine sg_callVr (As := [.int p2]) X I mk_X11_343 (by decide) (by decide) shC_3 rfl (fun q9 e9 => c_X0_hasAnyOf isCo_3 e9) h hl.1 rfl rfl (Nat.le_of_ble_eq_true rfl) dX11_tour_16 (fun v2 H locs h I => ?_)
    refine lv_if_eq (tgt := 31) hx hb dX11_tour_19 (by decide) (fun z => ?_) (fun z => ?_)
    · have h := sg_ift h z
      refine lv_iconst (v := -1) hx hb dX11_tour_31 (by decide) ?_
      obtain rfl := Option.some.inj h
      exact hk _ _ _ _ _ I ⟨_, rfl, rfl⟩ dX11_tour_32
    · have h := sg_iff h z
      refine lv_iload_n hx hb dX11_tour_22 rfl (lv_at hl 3 rfl) ?_
      refine lv_if_lt (tgt := 31) hx hb dX11_tour_23 (by decide) (fun z => ?_) (fun z => ?_)
      · have h := sg_ift h z
        refine lv_iconst (v := -1) hx hb dX11_tour_31 (by decide) ?_
        obtain rfl := Option.some.inj h
        exact hk _ _ _ _ _ I ⟨_, rfl, rfl⟩ dX11_tour_32
      · have h := sg_iff h z
        refine lv_iload_n hx hb dX11_tour_26 rfl (lv_at hl 3 rfl) ?_
        refine lv_iconst (v := 1) hx hb dX11_tour_27 (by decide) ?_
        refine lv_icmp_le (tgt := 33) hx hb dX11_tour_28 (by decide) (fun z => ?_) (fun z => ?_)
        · have h := sg_ift h z
          refine lv_aload_n hx hb dX11_tour_33 rfl (lv_at hl 0 rfl) ?_
          refine sg_getr X I fk_X11_80 (j := 302) (by decide) shC_0 rfl dX11_tour_34 ?_
          refine lv_aload_n hx hb dX11_tour_37 rfl (lv_at hl 0 rfl) ?_
          refine sg_getr X I fk_X11_52 (j := 37) (by decide) shC_0 rfl dX11_tour_38 ?_
          refine sg_callVv (As := [.ref (sgA P 37)]) X I mk_X11_312 (by decide) (by decide) shC_302 rfl (fun q9 e9 => c_X5_measure isSt_37 e9) h hl.1 rfl rfl (Nat.le_of_ble_eq_true rfl) dX11_tour_41 (fun v3 s4 H locs h I => ?_)
          refine lv_aload_n hx hb dX11_tour_44 rfl (lv_at hl 0 rfl) ?_
          refine sg_getr X I fk_X11_98 (j := 330) (by decide) shC_0 rfl dX11_tour_45 ?_
          refine lv_iload_n hx hb dX11_tour_48 rfl (lv_at hl 1 rfl) ?_
          refine lv_iload_n hx hb dX11_tour_49 rfl (lv_at hl 2 rfl) ?_
          refine sg_callV (As := [.int p1, .int p2]) X I mk_X11_346 (by decide) (by decide) shC_330 rfl (fun q9 e9 => c_X2_findTour e9) h hl.1 rfl rfl (Nat.le_of_ble_eq_true rfl) dX11_tour_50 (fun v5 s6 H locs h I => ?_)
          refine lv_if_ne (tgt := 58) hx hb dX11_tour_53 (by decide) (fun z => ?_) (fun z => ?_)
          · have h := sg_iff h z
            refine lv_iload_n hx hb dX11_tour_58 rfl (lv_at hl 3 rfl) ?_
            refine lv_if_ne (tgt := 72) hx hb dX11_tour_59 (by decide) (fun z => ?_) (fun z => ?_)
            · have h := sg_iff h z
              refine lv_aload_n hx hb dX11_tour_72 rfl (lv_at hl 0 rfl) ?_
              refine sg_getr X I fk_X11_98 (j := 330) (by decide) shC_0 rfl dX11_tour_73 ?_
              refine sg_getiN X I fn_X11_352 (by decide) shC_330 rfl dX11_tour_76 ?_
              obtain rfl := Option.some.inj h
              exact hk _ _ _ _ _ I ⟨_, rfl, rfl⟩ dX11_tour_79
            · have h := sg_ift h z
              refine lv_aload_n hx hb dX11_tour_62 rfl (lv_at hl 0 rfl) ?_
              refine sg_getr X I fk_X11_98 (j := 330) (by decide) shC_0 rfl dX11_tour_63 ?_
              refine sg_getiN X I fn_X11_349 (by decide) shC_330 rfl dX11_tour_66 ?_
              refine lv_goto (tgt := 79) hx hb dX11_tour_69 (by decide) ?_
              obtain rfl := Option.some.inj h
              exact hk _ _ _ _ _ I ⟨_, rfl, rfl⟩ dX11_tour_79
          · have h := sg_ift h z
            refine lv_iconst (v := -1) hx hb dX11_tour_56 (by decide) ?_
            obtain rfl := Option.some.inj h
            exact hk _ _ _ _ _ I ⟨_, rfl, rfl⟩ dX11_tour_57
        · have h := sg_iff h z
          refine lv_iconst (v := -1) hx hb dX11_tour_31 (by decide) ?_
          obtain rfl := Option.some.inj h
          exact hk _ _ _ _ _ I ⟨_, rfl, rfl⟩ dX11_tour_32
set_option maxHeartbeats 4000000 in
set_option maxRecDepth 100000 in
theorem c_X11_tour {l : Launch} {P : sgP} {N : Nat} {p1 : Int32} {p2 : Int32} {p3 : Int32} {σ : sgS} {q : Int32 × sgS} (h : f_X11_tour N p1 p2 p3 σ = some q) : sg_Mi P shC 332 l yX11_tour cX11_tour 4 (some .int) 44 [.ref (sgA P 0), .int p1, .int p2, .int p3] σ q := by
  refine sg_mki (plainFor_of_name (by decide +kernel)) (Nat.le_of_ble_eq_true rfl) ?_
  intro p e R s m args below meth c Q A ls H locs X I hl hk
  exact b_X11_tour X I hl h hk
def f_X11_doors (N : Nat) (p1 : Int32) (p2 : Int32) (σ : sgS) : Option (Int32 × sgS) :=
  sg_cr (f_X0_hasAnyOf N 3 p1 σ) fun v1 =>
if v1 = 0 then
  (some ((-1), σ))
else
  (if p2 < 0 then
    (some ((-1), σ))
  else
    (if p2 ≤ 1 then
      (sg_cl (f_X5_measure N 37 σ) fun v2 s3 =>
      sg_cl (f_X2_findDoors N p1 s3) fun v4 s5 =>
      if p2 = 0 then
        (some (s5.1 330 6, s5))
      else
        (some (s5.1 330 5, s5)))
    else
      (some ((-1), σ))))
set_option maxHeartbeats 4000000 in
set_option maxRecDepth 100000 in
theorem b_X11_doors {p : Program} {l : Launch} {e : Env} {R : Room} {s : State} {m : MethodId} {args : Array Value} {below : List Frame} {meth : Method} {c : Code} {Q : State → Prop} {P : sgP} {A : Nat → Prop} {N : Nat} {p1 : Int32} {p2 : Int32} {σ : sgS} (X : sg_C P A 44 p R s m args c cX11_doors 3 RX11) {H : Heap} {locs : List Loc} (I : sg_I P shC 332 A s.heap σ H locs) {ls : Array Slot} (hl : lv_has ls 3 [(0, .ref (sgA P 0)), (1, .int p1), (2, .int p2)]) {st : Int32 × sgS} (h : f_X11_doors N p1 p2 σ = some st) (hk : sg_Ri p l e R s m args below meth c Q P shC 332 A cX11_doors (some .int) st) : W p l e R s m args below meth c H locs 0 0 Q (F0 m 0 ls []) := by
  unfold f_X11_doors at h
  have hx := X.1.1
  have hb := X.1.2.1
  have hown := X.1.2.2.2.1
  have hts := X.1.2.2.2.2
  refine lv_aload_n hx hb dX11_doors_0 rfl (lv_at hl 0 rfl) ?_
  refine sg_getr X I fk_X11_19 (j := 3) (by decide) shC_0 rfl dX11_doors_1 ?_
  refine lv_iload_n hx hb dX11_doors_4 rfl (lv_at hl 1 rfl) ?_
  refine sg_callVr (As := [.int p1]) X I mk_X11_343 (by decide) (by decide) shC_3 rfl (fun q9 e9 => c_X0_hasAnyOf isCo_3 e9) h hl.1 rfl rfl (Nat.le_of_ble_eq_true rfl) dX11_doors_5 (fun v1 H locs h I => ?_)
  refine lv_if_eq (tgt := 20) hx hb dX11_doors_8 (by decide) (fun z => ?_) (fun z => ?_)
  · have h := sg_ift h z
    refine lv_iconst (v := -1) hx hb dX11_doors_20 (by decide) ?_
    obtain rfl := Option.some.inj h
    exact hk _ _ _ _ _ I ⟨_, rfl, rfl⟩ dX11_doors_21
  · have h := sg_iff h z
    refine lv_iload_n hx hb dX11_doors_11 rfl (lv_at hl 2 rfl) ?_
    refine lv_if_lt (tgt := 20) hx hb dX11_doors_12 (by decide) (fun z => ?_) (fun z => ?_)
    · have h := sg_ift h z
      refine lv_iconst (v := -1) hx hb dX11_doors_20 (by decide) ?_
      obtain rfl := Option.some.inj h
      exact hk _ _ _ _ _ I ⟨_, rfl, rfl⟩ dX11_doors_21
    · have h := sg_iff h z
      refine lv_iload_n hx hb dX11_doors_15 rfl (lv_at hl 2 rfl) ?_
      refine lv_iconst (v := 1) hx hb dX11_doors_16 (by decide) ?_
      refine lv_icmp_le (tgt := 22) hx hb dX11_doors_17 (by decide) (fun z => ?_) (fun z => ?_)
      · have h := sg_ift h z
        refine lv_aload_n hx hb dX11_doors_22 rfl (lv_at hl 0 rfl) ?_
        refine sg_getr X I fk_X11_80 (j := 302) (by decide) shC_0 rfl dX11_doors_23 ?_
        refine lv_aload_n hx hb dX11_doors_26 rfl (lv_at hl 0 rfl) ?_
        refine sg_getr X I fk_X11_52 (j := 37) (by decide) shC_0 rfl dX11_doors_27 ?_
        refine sg_callVv (As := [.ref (sgA P 37)]) X I mk_X11_312 (by decide) (by decide) shC_302 rfl (fun q9 e9 => c_X5_measure isSt_37 e9) h hl.1 rfl rfl (Nat.le_of_ble_eq_true rfl) dX11_doors_30 (fun v2 s3 H locs h I => ?_)
        refine lv_aload_n hx hb dX11_doors_33 rfl (lv_at hl 0 rfl) ?_
        refine sg_getr X I fk_X11_98 (j := 330) (by decide) shC_0 rfl dX11_doors_34 ?_
        refine lv_iload_n hx hb dX11_doors_37 rfl (lv_at hl 1 rfl) ?_
        refine sg_callVv (As := [.int p1]) X I mk_X11_355 (by decide) (by decide) shC_330 rfl (fun q9 e9 => c_X2_findDoors e9) h hl.1 rfl rfl (Nat.le_of_ble_eq_true rfl) dX11_doors_38 (fun v4 s5 H locs h I => ?_)
        refine lv_iload_n hx hb dX11_doors_41 rfl (lv_at hl 2 rfl) ?_
        refine lv_if_ne (tgt := 55) hx hb dX11_doors_42 (by decide) (fun z => ?_) (fun z => ?_)
        · have h := sg_iff h z
          refine lv_aload_n hx hb dX11_doors_55 rfl (lv_at hl 0 rfl) ?_
          refine sg_getr X I fk_X11_98 (j := 330) (by decide) shC_0 rfl dX11_doors_56 ?_
          refine sg_getiN X I fn_X11_349 (by decide) shC_330 rfl dX11_doors_59 ?_
          obtain rfl := Option.some.inj h
          exact hk _ _ _ _ _ I ⟨_, rfl, rfl⟩ dX11_doors_62
        · have h := sg_ift h z
          refine lv_aload_n hx hb dX11_doors_45 rfl (lv_at hl 0 rfl) ?_
          refine sg_getr X I fk_X11_98 (j := 330) (by decide) shC_0 rfl dX11_doors_46 ?_
          refine sg_getiN X I fn_X11_352 (by decide) shC_330 rfl dX11_doors_49 ?_
          refine lv_goto (tgt := 62) hx hb dX11_doors_52 (by decide) ?_
          obtain rfl := Option.some.inj h
          exact hk _ _ _ _ _ I ⟨_, rfl, rfl⟩ dX11_doors_62
      · have h := sg_iff h z
        refine lv_iconst (v := -1) hx hb dX11_doors_20 (by decide) ?_
        obtain rfl := Option.some.inj h
        exact hk _ _ _ _ _ I ⟨_, rfl, rfl⟩ dX11_doors_21
set_option maxHeartbeats 4000000 in
set_option maxRecDepth 100000 in
theorem c_X11_doors {l : Launch} {P : sgP} {N : Nat} {p1 : Int32} {p2 : Int32} {σ : sgS} {q : Int32 × sgS} (h : f_X11_doors N p1 p2 σ = some q) : sg_Mi P shC 332 l yX11_doors cX11_doors 3 (some .int) 44 [.ref (sgA P 0), .int p1, .int p2] σ q := by
  refine sg_mki (plainFor_of_name (by decide +kernel)) (Nat.le_of_ble_eq_true rfl) ?_
  intro p e R s m args below meth c Q A ls H locs X I hl hk
  exact b_X11_doors X I hl h hk
def f_X11_game (N : Nat) (p1 : Int32) (p2 : Int32) (p3 : Int32) (p4 : Int32) (p5 : Int32) (σ : sgS) : Option (Int32 × sgS) :=
  sg_cr (f_X0_hasTwoSets N 3 p1 p2 σ) fun v1 =>
if v1 = 0 then
  (some ((-1000000), σ))
else
  (if p5 < 0 then
    (some ((-1000000), σ))
  else
    (if p5 ≤ 1 then
      (if p3 < 0 then
        (some ((-1000000), σ))
      else
        (if 7 ≤ p3 then
          (some ((-1000000), σ))
        else
          (if p4 < 0 then
            (some ((-1000000), σ))
          else
            (if p4 < 7 then
              (sg_cl (f_X5_measure N 37 σ) fun v2 s3 =>
              if p5 = 0 then
                (if p3 = p4 then
                  (sg_cr (f_X2_gain N p1 p3 1 s3) fun v7 =>
                  some (v7, s3))
                else
                  (sg_cr (f_X2_gain N p1 p3 0 s3) fun v6 =>
                  some (v6, s3)))
              else
                (if p3 = p4 then
                  (sg_cr (f_X2_gain N p2 p4 1 s3) fun v5 =>
                  some (v5, s3))
                else
                  (sg_cr (f_X2_gain N p2 p4 0 s3) fun v4 =>
                  some (v4, s3))))
            else
              (some ((-1000000), σ))))))
    else
      (some ((-1000000), σ))))
set_option maxHeartbeats 4000000 in
set_option maxRecDepth 100000 in
theorem b_X11_game {p : Program} {l : Launch} {e : Env} {R : Room} {s : State} {m : MethodId} {args : Array Value} {below : List Frame} {meth : Method} {c : Code} {Q : State → Prop} {P : sgP} {A : Nat → Prop} {N : Nat} {p1 : Int32} {p2 : Int32} {p3 : Int32} {p4 : Int32} {p5 : Int32} {σ : sgS} (X : sg_C P A 6 p R s m args c cX11_game 6 RX11) {H : Heap} {locs : List Loc} (I : sg_I P shC 332 A s.heap σ H locs) {ls : Array Slot} (hl : lv_has ls 6 [(0, .ref (sgA P 0)), (1, .int p1), (2, .int p2), (3, .int p3), (4, .int p4), (5, .int p5)]) {st : Int32 × sgS} (h : f_X11_game N p1 p2 p3 p4 p5 σ = some st) (hk : sg_Ri p l e R s m args below meth c Q P shC 332 A cX11_game (some .int) st) : W p l e R s m args below meth c H locs 0 0 Q (F0 m 0 ls []) := by
  unfold f_X11_game at h
  have hx := X.1.1
  have hb := X.1.2.1
  have hown := X.1.2.2.2.1
  have hts := X.1.2.2.2.2
  refine lv_aload_n hx hb dX11_game_0 rfl (lv_at hl 0 rfl) ?_
  refine sg_getr X I fk_X11_19 (j := 3) (by decide) shC_0 rfl dX11_game_1 ?_
  refine lv_iload_n hx hb dX11_game_4 rfl (lv_at hl 1 rfl) ?_
  refine lv_iload_n hx hb dX11_game_5 rfl (lv_at hl 2 rfl) ?_
  refine sg_callVr (As := [.int p1, .int p2]) X I mk_X11_358 (by decide) (by decide) shC_3 rfl (fun q9 e9 => c_X0_hasTwoSets isCo_3 e9) h hl.1 rfl rfl (Nat.le_of_ble_eq_true rfl) dX11_game_6 (fun v1 H locs h I => ?_)
  refine lv_if_eq (tgt := 23) hx hb dX11_game_9 (by decide) (fun z => ?_) (fun z => ?_)
  · have h := sg_ift h z
    refine lv_ldcw (v := -1000000) hx hb hown (hts _ qw_1374) dX11_game_23 ?_
    obtain rfl := Option.some.inj h
    exact hk _ _ _ _ _ I ⟨_, rfl, rfl⟩ dX11_game_26
  · have h := sg_iff h z
    refine lv_iload hx hb dX11_game_12 (lv_at hl 5 rfl) ?_
    refine lv_if_lt (tgt := 23) hx hb dX11_game_14 (by decide) (fun z => ?_) (fun z => ?_)
    · have h := sg_ift h z
      refine lv_ldcw (v := -1000000) hx hb hown (hts _ qw_1374) dX11_game_23 ?_
      obtain rfl := Option.some.inj h
      exact hk _ _ _ _ _ I ⟨_, rfl, rfl⟩ dX11_game_26
    · have h := sg_iff h z
      refine lv_iload hx hb dX11_game_17 (lv_at hl 5 rfl) ?_
      refine lv_iconst (v := 1) hx hb dX11_game_19 (by decide) ?_
      refine lv_icmp_le (tgt := 27) hx hb dX11_game_20 (by decide) (fun z => ?_) (fun z => ?_)
      · have h := sg_ift h z
        refine lv_iload_n hx hb dX11_game_27 rfl (lv_at hl 3 rfl) ?_
        refine lv_if_lt (tgt := 49) hx hb dX11_game_28 (by decide) (fun z => ?_) (fun z => ?_)
        · have h := sg_ift h z
          refine lv_ldcw (v := -1000000) hx hb hown (hts _ qw_1374) dX11_game_49 ?_
          obtain rfl := Option.some.inj h
          exact hk _ _ _ _ _ I ⟨_, rfl, rfl⟩ dX11_game_52
        · have h := sg_iff h z
          refine lv_iload_n hx hb dX11_game_31 rfl (lv_at hl 3 rfl) ?_
          refine lv_bipush (v := 7) hx hb dX11_game_32 (by decide) ?_
          refine lv_icmp_ge (tgt := 49) hx hb dX11_game_34 (by decide) (fun z => ?_) (fun z => ?_)
          · have h := sg_ift h z
            refine lv_ldcw (v := -1000000) hx hb hown (hts _ qw_1374) dX11_game_49 ?_
            obtain rfl := Option.some.inj h
            exact hk _ _ _ _ _ I ⟨_, rfl, rfl⟩ dX11_game_52
          · have h := sg_iff h z
            refine lv_iload hx hb dX11_game_37 (lv_at hl 4 rfl) ?_
            refine lv_if_lt (tgt := 49) hx hb dX11_game_39 (by decide) (fun z => ?_) (fun z => ?_)
            · have h := sg_ift h z
              refine lv_ldcw (v := -1000000) hx hb hown (hts _ qw_1374) dX11_game_49 ?_
              obtain rfl := Option.some.inj h
              exact hk _ _ _ _ _ I ⟨_, rfl, rfl⟩ dX11_game_52
            · have h := sg_iff h z
              refine lv_iload hx hb dX11_game_42 (lv_at hl 4 rfl) ?_
              refine lv_bipush (v := 7) hx hb dX11_game_44 (by decide) ?_
              refine lv_icmp_lt (tgt := 53) hx hb dX11_game_46 (by decide) (fun z => ?_) (fun z => ?_)
              · have h := sg_ift h z
                refine lv_aload_n hx hb dX11_game_53 rfl (lv_at hl 0 rfl) ?_
                refine sg_getr X I fk_X11_80 (j := 302) (by decide) shC_0 rfl dX11_game_54 ?_
                refine lv_aload_n hx hb dX11_game_57 rfl (lv_at hl 0 rfl) ?_
                refine sg_getr X I fk_X11_52 (j := 37) (by decide) shC_0 rfl dX11_game_58 ?_
                refine sg_callVv (As := [.ref (sgA P 37)]) X I mk_X11_312 (by decide) (by decide) shC_302 rfl (fun q9 e9 => c_X5_measure isSt_37 e9) h hl.1 rfl rfl (Nat.le_of_ble_eq_true rfl) dX11_game_61 (fun v2 s3 H locs h I => ?_)
                refine lv_iload hx hb dX11_game_64 (lv_at hl 5 rfl) ?_
                refine lv_if_ne (tgt := 92) hx hb dX11_game_66 (by decide) (fun z => ?_) (fun z => ?_)
                · have h := sg_iff h z
                  refine lv_aload_n hx hb dX11_game_92 rfl (lv_at hl 0 rfl) ?_
                  refine sg_getr X I fk_X11_98 (j := 330) (by decide) shC_0 rfl dX11_game_93 ?_
                  refine lv_iload_n hx hb dX11_game_96 rfl (lv_at hl 2 rfl) ?_
                  refine lv_iload hx hb dX11_game_97 (lv_at hl 4 rfl) ?_
                  refine lv_iload_n hx hb dX11_game_99 rfl (lv_at hl 3 rfl) ?_
                  refine lv_iload hx hb dX11_game_100 (lv_at hl 4 rfl) ?_
                  refine lv_icmp_ne (tgt := 109) hx hb dX11_game_102 (by decide) (fun z => ?_) (fun z => ?_)
                  · have h := sg_iff h z
                    refine lv_iconst (v := 0) hx hb dX11_game_109 (by decide) ?_
                    refine sg_callVr (As := [.int p2, .int p4, .int 0]) X I mk_X11_362 (by decide) (by decide) shC_330 rfl (fun q9 e9 => c_X2_gain e9) h hl.1 rfl rfl (Nat.le_of_ble_eq_true rfl) dX11_game_110 (fun v4 H locs h I => ?_)
                    obtain rfl := Option.some.inj h
                    exact hk _ _ _ _ _ I ⟨_, rfl, rfl⟩ dX11_game_113
                  · have h := sg_ift h z
                    refine lv_iconst (v := 1) hx hb dX11_game_105 (by decide) ?_
                    refine lv_goto (tgt := 110) hx hb dX11_game_106 (by decide) ?_
                    refine sg_callVr (As := [.int p2, .int p4, .int 1]) X I mk_X11_362 (by decide) (by decide) shC_330 rfl (fun q9 e9 => c_X2_gain e9) h hl.1 rfl rfl (Nat.le_of_ble_eq_true rfl) dX11_game_110 (fun v5 H locs h I => ?_)
                    obtain rfl := Option.some.inj h
                    exact hk _ _ _ _ _ I ⟨_, rfl, rfl⟩ dX11_game_113
                · have h := sg_ift h z
                  refine lv_aload_n hx hb dX11_game_69 rfl (lv_at hl 0 rfl) ?_
                  refine sg_getr X I fk_X11_98 (j := 330) (by decide) shC_0 rfl dX11_game_70 ?_
                  refine lv_iload_n hx hb dX11_game_73 rfl (lv_at hl 1 rfl) ?_
                  refine lv_iload_n hx hb dX11_game_74 rfl (lv_at hl 3 rfl) ?_
                  refine lv_iload_n hx hb dX11_game_75 rfl (lv_at hl 3 rfl) ?_
                  refine lv_iload hx hb dX11_game_76 (lv_at hl 4 rfl) ?_
                  refine lv_icmp_ne (tgt := 85) hx hb dX11_game_78 (by decide) (fun z => ?_) (fun z => ?_)
                  · have h := sg_iff h z
                    refine lv_iconst (v := 0) hx hb dX11_game_85 (by decide) ?_
                    refine sg_callVr (As := [.int p1, .int p3, .int 0]) X I mk_X11_362 (by decide) (by decide) shC_330 rfl (fun q9 e9 => c_X2_gain e9) h hl.1 rfl rfl (Nat.le_of_ble_eq_true rfl) dX11_game_86 (fun v6 H locs h I => ?_)
                    refine lv_goto (tgt := 113) hx hb dX11_game_89 (by decide) ?_
                    obtain rfl := Option.some.inj h
                    exact hk _ _ _ _ _ I ⟨_, rfl, rfl⟩ dX11_game_113
                  · have h := sg_ift h z
                    refine lv_iconst (v := 1) hx hb dX11_game_81 (by decide) ?_
                    refine lv_goto (tgt := 86) hx hb dX11_game_82 (by decide) ?_
                    refine sg_callVr (As := [.int p1, .int p3, .int 1]) X I mk_X11_362 (by decide) (by decide) shC_330 rfl (fun q9 e9 => c_X2_gain e9) h hl.1 rfl rfl (Nat.le_of_ble_eq_true rfl) dX11_game_86 (fun v7 H locs h I => ?_)
                    refine lv_goto (tgt := 113) hx hb dX11_game_89 (by decide) ?_
                    obtain rfl := Option.some.inj h
                    exact hk _ _ _ _ _ I ⟨_, rfl, rfl⟩ dX11_game_113
              · have h := sg_iff h z
                refine lv_ldcw (v := -1000000) hx hb hown (hts _ qw_1374) dX11_game_49 ?_
                obtain rfl := Option.some.inj h
                exact hk _ _ _ _ _ I ⟨_, rfl, rfl⟩ dX11_game_52
      · have h := sg_iff h z
        refine lv_ldcw (v := -1000000) hx hb hown (hts _ qw_1374) dX11_game_23 ?_
        obtain rfl := Option.some.inj h
        exact hk _ _ _ _ _ I ⟨_, rfl, rfl⟩ dX11_game_26
set_option maxHeartbeats 4000000 in
set_option maxRecDepth 100000 in
theorem c_X11_game {l : Launch} {P : sgP} {N : Nat} {p1 : Int32} {p2 : Int32} {p3 : Int32} {p4 : Int32} {p5 : Int32} {σ : sgS} {q : Int32 × sgS} (h : f_X11_game N p1 p2 p3 p4 p5 σ = some q) : sg_Mi P shC 332 l yX11_game cX11_game 6 (some .int) 6 [.ref (sgA P 0), .int p1, .int p2, .int p3, .int p4, .int p5] σ q := by
  refine sg_mki (plainFor_of_name (by decide +kernel)) (Nat.le_of_ble_eq_true rfl) ?_
  intro p e R s m args below meth c Q A ls H locs X I hl hk
  exact b_X11_game X I hl h hk
def f_X11_rests (N : Nat) (p1 : Int32) (p2 : Int32) (p3 : Int32) (σ : sgS) : Option (Int32 × sgS) :=
  sg_cr (f_X0_hasTwoSets N 3 p1 p2 σ) fun v1 =>
if v1 = 0 then
  (some ((-1), σ))
else
  (if ((-1)) ≤ p3 then
    (sg_cl (f_X5_measure N 37 σ) fun v2 s3 =>
    if p3 = ((-1)) then
      (sg_cr (f_X2_howManyRests N p1 p2 s3) fun v5 =>
      some (v5, s3))
    else
      (sg_cr (f_X2_restAt N p1 p2 p3 s3) fun v4 =>
      some (v4, s3)))
  else
    (some ((-1), σ)))
set_option maxHeartbeats 4000000 in
set_option maxRecDepth 100000 in
theorem b_X11_rests {p : Program} {l : Launch} {e : Env} {R : Room} {s : State} {m : MethodId} {args : Array Value} {below : List Frame} {meth : Method} {c : Code} {Q : State → Prop} {P : sgP} {A : Nat → Prop} {N : Nat} {p1 : Int32} {p2 : Int32} {p3 : Int32} {σ : sgS} (X : sg_C P A 6 p R s m args c cX11_rests 4 RX11) {H : Heap} {locs : List Loc} (I : sg_I P shC 332 A s.heap σ H locs) {ls : Array Slot} (hl : lv_has ls 4 [(0, .ref (sgA P 0)), (1, .int p1), (2, .int p2), (3, .int p3)]) {st : Int32 × sgS} (h : f_X11_rests N p1 p2 p3 σ = some st) (hk : sg_Ri p l e R s m args below meth c Q P shC 332 A cX11_rests (some .int) st) : W p l e R s m args below meth c H locs 0 0 Q (F0 m 0 ls []) := by
  unfold f_X11_rests at h
  have hx := X.1.1
  have hb := X.1.2.1
  have hown := X.1.2.2.2.1
  have hts := X.1.2.2.2.2
  refine lv_aload_n hx hb dX11_rests_0 rfl (lv_at hl 0 rfl) ?_
  refine sg_getr X I fk_X11_19 (j := 3) (by decide) shC_0 rfl dX11_rests_1 ?_
  refine lv_iload_n hx hb dX11_rests_4 rfl (lv_at hl 1 rfl) ?_
  refine lv_iload_n hx hb dX11_rests_5 rfl (lv_at hl 2 rfl) ?_
  refine sg_callVr (As := [.int p1, .int p2]) X I mk_X11_358 (by decide) (by decide) shC_3 rfl (fun q9 e9 => c_X0_hasTwoSets isCo_3 e9) h hl.1 rfl rfl (Nat.le_of_ble_eq_true rfl) dX11_rests_6 (fun v1 H locs h I => ?_)
  refine lv_if_eq (tgt := 17) hx hb dX11_rests_9 (by decide) (fun z => ?_) (fun z => ?_)
  · have h := sg_ift h z
    refine lv_iconst (v := -1) hx hb dX11_rests_17 (by decide) ?_
    obtain rfl := Option.some.inj h
    exact hk _ _ _ _ _ I ⟨_, rfl, rfl⟩ dX11_rests_18
  · have h := sg_iff h z
    refine lv_iload_n hx hb dX11_rests_12 rfl (lv_at hl 3 rfl) ?_
    refine lv_iconst (v := -1) hx hb dX11_rests_13 (by decide) ?_
    refine lv_icmp_ge (tgt := 19) hx hb dX11_rests_14 (by decide) (fun z => ?_) (fun z => ?_)
    · have h := sg_ift h z
      refine lv_aload_n hx hb dX11_rests_19 rfl (lv_at hl 0 rfl) ?_
      refine sg_getr X I fk_X11_80 (j := 302) (by decide) shC_0 rfl dX11_rests_20 ?_
      refine lv_aload_n hx hb dX11_rests_23 rfl (lv_at hl 0 rfl) ?_
      refine sg_getr X I fk_X11_52 (j := 37) (by decide) shC_0 rfl dX11_rests_24 ?_
      refine sg_callVv (As := [.ref (sgA P 37)]) X I mk_X11_312 (by decide) (by decide) shC_302 rfl (fun q9 e9 => c_X5_measure isSt_37 e9) h hl.1 rfl rfl (Nat.le_of_ble_eq_true rfl) dX11_rests_27 (fun v2 s3 H locs h I => ?_)
      refine lv_iload_n hx hb dX11_rests_30 rfl (lv_at hl 3 rfl) ?_
      refine lv_iconst (v := -1) hx hb dX11_rests_31 (by decide) ?_
      refine lv_icmp_ne (tgt := 47) hx hb dX11_rests_32 (by decide) (fun z => ?_) (fun z => ?_)
      · have h := sg_iff h z
        refine lv_aload_n hx hb dX11_rests_47 rfl (lv_at hl 0 rfl) ?_
        refine sg_getr X I fk_X11_98 (j := 330) (by decide) shC_0 rfl dX11_rests_48 ?_
        refine lv_iload_n hx hb dX11_rests_51 rfl (lv_at hl 1 rfl) ?_
        refine lv_iload_n hx hb dX11_rests_52 rfl (lv_at hl 2 rfl) ?_
        refine lv_iload_n hx hb dX11_rests_53 rfl (lv_at hl 3 rfl) ?_
        refine sg_callVr (As := [.int p1, .int p2, .int p3]) X I mk_X11_369 (by decide) (by decide) shC_330 rfl (fun q9 e9 => c_X2_restAt e9) h hl.1 rfl rfl (Nat.le_of_ble_eq_true rfl) dX11_rests_54 (fun v4 H locs h I => ?_)
        obtain rfl := Option.some.inj h
        exact hk _ _ _ _ _ I ⟨_, rfl, rfl⟩ dX11_rests_57
      · have h := sg_ift h z
        refine lv_aload_n hx hb dX11_rests_35 rfl (lv_at hl 0 rfl) ?_
        refine sg_getr X I fk_X11_98 (j := 330) (by decide) shC_0 rfl dX11_rests_36 ?_
        refine lv_iload_n hx hb dX11_rests_39 rfl (lv_at hl 1 rfl) ?_
        refine lv_iload_n hx hb dX11_rests_40 rfl (lv_at hl 2 rfl) ?_
        refine sg_callVr (As := [.int p1, .int p2]) X I mk_X11_366 (by decide) (by decide) shC_330 rfl (fun q9 e9 => c_X2_howManyRests e9) h hl.1 rfl rfl (Nat.le_of_ble_eq_true rfl) dX11_rests_41 (fun v5 H locs h I => ?_)
        refine lv_goto (tgt := 57) hx hb dX11_rests_44 (by decide) ?_
        obtain rfl := Option.some.inj h
        exact hk _ _ _ _ _ I ⟨_, rfl, rfl⟩ dX11_rests_57
    · have h := sg_iff h z
      refine lv_iconst (v := -1) hx hb dX11_rests_17 (by decide) ?_
      obtain rfl := Option.some.inj h
      exact hk _ _ _ _ _ I ⟨_, rfl, rfl⟩ dX11_rests_18
set_option maxHeartbeats 4000000 in
set_option maxRecDepth 100000 in
theorem c_X11_rests {l : Launch} {P : sgP} {N : Nat} {p1 : Int32} {p2 : Int32} {p3 : Int32} {σ : sgS} {q : Int32 × sgS} (h : f_X11_rests N p1 p2 p3 σ = some q) : sg_Mi P shC 332 l yX11_rests cX11_rests 4 (some .int) 6 [.ref (sgA P 0), .int p1, .int p2, .int p3] σ q := by
  refine sg_mki (plainFor_of_name (by decide +kernel)) (Nat.le_of_ble_eq_true rfl) ?_
  intro p e R s m args below meth c Q A ls H locs X I hl hk
  exact b_X11_rests X I hl h hk
def f_X11_odds (N : Nat) (p1 : Int32) (p2 : Int32) (p3 : Int32) (σ : sgS) : Option (Int32) :=
  sg_cr (f_X0_hasPlaces N 3 p1 p2 σ) fun v1 =>
if v1 = 0 then
  (some ((-1)))
else
  (if p3 < 0 then
    (some ((-1)))
  else
    (if p3 ≤ 100 then
      (sg_cr (f_X0_allRoads N 3 σ) fun v2 =>
      sg_cr (f_X5_partsThatJoin N p1 p2 p3 (v2 &&& ((σ.1 37 5) ^^^ ((-1)))) σ) fun v3 =>
      some v3)
    else
      (some ((-1)))))
set_option maxHeartbeats 4000000 in
set_option maxRecDepth 100000 in
theorem b_X11_odds {p : Program} {l : Launch} {e : Env} {R : Room} {s : State} {m : MethodId} {args : Array Value} {below : List Frame} {meth : Method} {c : Code} {Q : State → Prop} {P : sgP} {A : Nat → Prop} {N : Nat} {p1 : Int32} {p2 : Int32} {p3 : Int32} {σ : sgS} (X : sg_C P A 45 p R s m args c cX11_odds 4 RX11) {H : Heap} {locs : List Loc} (I : sg_I P shC 332 A s.heap σ H locs) {ls : Array Slot} (hl : lv_has ls 4 [(0, .ref (sgA P 0)), (1, .int p1), (2, .int p2), (3, .int p3)]) {st : Int32} (h : f_X11_odds N p1 p2 p3 σ = some st) (hk : sg_Ri p l e R s m args below meth c Q P shC 332 A cX11_odds (some .int) (st, σ)) : W p l e R s m args below meth c H locs 0 0 Q (F0 m 0 ls []) := by
  unfold f_X11_odds at h
  have hx := X.1.1
  have hb := X.1.2.1
  have hown := X.1.2.2.2.1
  have hts := X.1.2.2.2.2
  refine lv_aload_n hx hb dX11_odds_0 rfl (lv_at hl 0 rfl) ?_
  refine sg_getr X I fk_X11_19 (j := 3) (by decide) shC_0 rfl dX11_odds_1 ?_
  refine lv_iload_n hx hb dX11_odds_4 rfl (lv_at hl 1 rfl) ?_
  refine lv_iload_n hx hb dX11_odds_5 rfl (lv_at hl 2 rfl) ?_
  refine sg_callVr (As := [.int p1, .int p2]) X I mk_X11_308 (by decide) (by decide) shC_3 rfl (fun q9 e9 => c_X0_hasPlaces isCo_3 e9) h hl.1 rfl rfl (Nat.le_of_ble_eq_true rfl) dX11_odds_6 (fun v1 H locs h I => ?_)
  refine lv_if_eq (tgt := 22) hx hb dX11_odds_9 (by decide) (fun z => ?_) (fun z => ?_)
  · have h := sg_ift h z
    refine lv_iconst (v := -1) hx hb dX11_odds_22 (by decide) ?_
    obtain rfl := Option.some.inj h
    exact hk _ _ _ _ _ I ⟨_, rfl, rfl⟩ dX11_odds_23
  · have h := sg_iff h z
    refine lv_iload_n hx hb dX11_odds_12 rfl (lv_at hl 3 rfl) ?_
    refine lv_if_lt (tgt := 22) hx hb dX11_odds_13 (by decide) (fun z => ?_) (fun z => ?_)
    · have h := sg_ift h z
      refine lv_iconst (v := -1) hx hb dX11_odds_22 (by decide) ?_
      obtain rfl := Option.some.inj h
      exact hk _ _ _ _ _ I ⟨_, rfl, rfl⟩ dX11_odds_23
    · have h := sg_iff h z
      refine lv_iload_n hx hb dX11_odds_16 rfl (lv_at hl 3 rfl) ?_
      refine lv_bipush (v := 100) hx hb dX11_odds_17 (by decide) ?_
      refine lv_icmp_le (tgt := 24) hx hb dX11_odds_19 (by decide) (fun z => ?_) (fun z => ?_)
      · have h := sg_ift h z
        refine lv_aload_n hx hb dX11_odds_24 rfl (lv_at hl 0 rfl) ?_
        refine sg_getr X I fk_X11_80 (j := 302) (by decide) shC_0 rfl dX11_odds_25 ?_
        refine lv_iload_n hx hb dX11_odds_28 rfl (lv_at hl 1 rfl) ?_
        refine lv_iload_n hx hb dX11_odds_29 rfl (lv_at hl 2 rfl) ?_
        refine lv_iload_n hx hb dX11_odds_30 rfl (lv_at hl 3 rfl) ?_
        refine lv_aload_n hx hb dX11_odds_31 rfl (lv_at hl 0 rfl) ?_
        refine sg_getr X I fk_X11_19 (j := 3) (by decide) shC_0 rfl dX11_odds_32 ?_
        refine sg_callVr (As := []) X I mk_X11_324 (by decide) (by decide) shC_3 rfl (fun q9 e9 => c_X0_allRoads isCo_3 e9) h hl.1 rfl rfl (Nat.le_of_ble_eq_true rfl) dX11_odds_35 (fun v2 H locs h I => ?_)
        refine lv_aload_n hx hb dX11_odds_38 rfl (lv_at hl 0 rfl) ?_
        refine sg_getr X I fk_X11_52 (j := 37) (by decide) shC_0 rfl dX11_odds_39 ?_
        refine sg_getiN X I fn_X11_206 (isSt_i0 isSt_37) (isSt_s0 isSt_37) rfl dX11_odds_42 ?_
        refine lv_iconst (v := -1) hx hb dX11_odds_45 (by decide) ?_
        refine lv_ixor hx hb dX11_odds_46 ?_
        refine lv_iand hx hb dX11_odds_47 ?_
        refine sg_callVr (As := [.int p1, .int p2, .int p3, .int (v2 &&& ((σ.1 37 5) ^^^ ((-1))))]) X I mk_X11_372 (by decide) (by decide) shC_302 rfl (fun q9 e9 => c_X5_partsThatJoin e9) h hl.1 rfl rfl (Nat.le_of_ble_eq_true rfl) dX11_odds_48 (fun v3 H locs h I => ?_)
        obtain rfl := Option.some.inj h
        exact hk _ _ _ _ _ I ⟨_, rfl, rfl⟩ dX11_odds_51
      · have h := sg_iff h z
        refine lv_iconst (v := -1) hx hb dX11_odds_22 (by decide) ?_
        obtain rfl := Option.some.inj h
        exact hk _ _ _ _ _ I ⟨_, rfl, rfl⟩ dX11_odds_23
set_option maxHeartbeats 4000000 in
set_option maxRecDepth 100000 in
theorem c_X11_odds {l : Launch} {P : sgP} {N : Nat} {p1 : Int32} {p2 : Int32} {p3 : Int32} {σ : sgS} {q : Int32} (h : f_X11_odds N p1 p2 p3 σ = some q) : sg_Mi P shC 332 l yX11_odds cX11_odds 4 (some .int) 45 [.ref (sgA P 0), .int p1, .int p2, .int p3] σ (q, σ) := by
  refine sg_mki (plainFor_of_name (by decide +kernel)) (Nat.le_of_ble_eq_true rfl) ?_
  intro p e R s m args below meth c Q A ls H locs X I hl hk
  exact b_X11_odds X I hl h hk
def f_X11_dead (N : Nat) (p1 : Int32) (σ : sgS) : Option (Int32) :=
  sg_cr (f_X0_hasPlace N 3 p1 σ) fun v1 =>
if v1 = 0 then
  (some ((-1)))
else
  (sg_cr (f_X0_allRoads N 3 σ) fun v2 =>
  sg_cr (f_X5_reachedFrom N p1 (v2 &&& ((σ.1 37 5) ^^^ ((-1)))) σ) fun v3 =>
  sg_cr (f_J6_bitCount_0f7a4 N v3 σ) fun v4 =>
  some ((σ.1 3 3) - v4))
set_option maxHeartbeats 4000000 in
set_option maxRecDepth 100000 in
theorem b_X11_dead {p : Program} {l : Launch} {e : Env} {R : Room} {s : State} {m : MethodId} {args : Array Value} {below : List Frame} {meth : Method} {c : Code} {Q : State → Prop} {P : sgP} {A : Nat → Prop} {N : Nat} {p1 : Int32} {σ : sgS} (X : sg_C P A 2 p R s m args c cX11_dead 3 RX11) {H : Heap} {locs : List Loc} (I : sg_I P shC 332 A s.heap σ H locs) {ls : Array Slot} (hl : lv_has ls 3 [(0, .ref (sgA P 0)), (1, .int p1)]) {st : Int32} (h : f_X11_dead N p1 σ = some st) (hk : sg_Ri p l e R s m args below meth c Q P shC 332 A cX11_dead (some .int) (st, σ)) : W p l e R s m args below meth c H locs 0 0 Q (F0 m 0 ls []) := by
  unfold f_X11_dead at h
  have hx := X.1.1
  have hb := X.1.2.1
  have hown := X.1.2.2.2.1
  have hts := X.1.2.2.2.2
  refine lv_aload_n hx hb dX11_dead_0 rfl (lv_at hl 0 rfl) ?_
  refine sg_getr X I fk_X11_19 (j := 3) (by decide) shC_0 rfl dX11_dead_1 ?_
  refine lv_iload_n hx hb dX11_dead_4 rfl (lv_at hl 1 rfl) ?_
  refine sg_callVr (As := [.int p1]) X I mk_X11_224 (by decide) (by decide) shC_3 rfl (fun q9 e9 => c_X0_hasPlace isCo_3 e9) h hl.1 rfl rfl (Nat.le_of_ble_eq_true rfl) dX11_dead_5 (fun v1 H locs h I => ?_)
  refine lv_if_ne (tgt := 13) hx hb dX11_dead_8 (by decide) (fun z => ?_) (fun z => ?_)
  · have h := sg_iff h z
    refine lv_aload_n hx hb dX11_dead_13 rfl (lv_at hl 0 rfl) ?_
    refine sg_getr X I fk_X11_80 (j := 302) (by decide) shC_0 rfl dX11_dead_14 ?_
    refine lv_iload_n hx hb dX11_dead_17 rfl (lv_at hl 1 rfl) ?_
    refine lv_aload_n hx hb dX11_dead_18 rfl (lv_at hl 0 rfl) ?_
    refine sg_getr X I fk_X11_19 (j := 3) (by decide) shC_0 rfl dX11_dead_19 ?_
    refine sg_callVr (As := []) X I mk_X11_324 (by decide) (by decide) shC_3 rfl (fun q9 e9 => c_X0_allRoads isCo_3 e9) h hl.1 rfl rfl (Nat.le_of_ble_eq_true rfl) dX11_dead_22 (fun v2 H locs h I => ?_)
    refine lv_aload_n hx hb dX11_dead_25 rfl (lv_at hl 0 rfl) ?_
    refine sg_getr X I fk_X11_52 (j := 37) (by decide) shC_0 rfl dX11_dead_26 ?_
    refine sg_getiN X I fn_X11_206 (isSt_i0 isSt_37) (isSt_s0 isSt_37) rfl dX11_dead_29 ?_
    refine lv_iconst (v := -1) hx hb dX11_dead_32 (by decide) ?_
    refine lv_ixor hx hb dX11_dead_33 ?_
    refine lv_iand hx hb dX11_dead_34 ?_
    refine sg_callVr (As := [.int p1, .int (v2 &&& ((σ.1 37 5) ^^^ ((-1))))]) X I mk_X11_376 (by decide) (by decide) shC_302 rfl (fun q9 e9 => c_X5_reachedFrom e9) h hl.1 rfl rfl (Nat.le_of_ble_eq_true rfl) dX11_dead_35 (fun v3 H locs h I => ?_)
    refine lv_istore_n (lv' := [(2, .int v3), (0, .ref (sgA P 0)), (1, .int p1)]) hx hb dX11_dead_38 rfl hl (by decide) rfl (fun ls hl => ?_)
    refine lv_aload_n hx hb dX11_dead_39 rfl (lv_at hl 1 rfl) ?_
    refine sg_getr X I fk_X11_19 (j := 3) (by decide) shC_0 rfl dX11_dead_40 ?_
    refine sg_getiN X I fn_X11_169 (by decide) shC_3 rfl dX11_dead_43 ?_
    refine lv_iload_n hx hb dX11_dead_46 rfl (lv_at hl 0 rfl) ?_
    refine sg_callSr (As := [.int v3]) X I mk_X11_379 (by decide) (fun q9 e9 => c_J6_bitCount_0f7a4 e9) h hl.1 rfl rfl (Nat.le_of_ble_eq_true rfl) dX11_dead_47 (fun v4 H locs h I => ?_)
    refine lv_isub hx hb dX11_dead_50 ?_
    obtain rfl := Option.some.inj h
    exact hk _ _ _ _ _ I ⟨_, rfl, rfl⟩ dX11_dead_51
  · have h := sg_ift h z
    refine lv_iconst (v := -1) hx hb dX11_dead_11 (by decide) ?_
    obtain rfl := Option.some.inj h
    exact hk _ _ _ _ _ I ⟨_, rfl, rfl⟩ dX11_dead_12
set_option maxHeartbeats 4000000 in
set_option maxRecDepth 100000 in
theorem c_X11_dead {l : Launch} {P : sgP} {N : Nat} {p1 : Int32} {σ : sgS} {q : Int32} (h : f_X11_dead N p1 σ = some q) : sg_Mi P shC 332 l yX11_dead cX11_dead 3 (some .int) 2 [.ref (sgA P 0), .int p1] σ (q, σ) := by
  refine sg_mki (plainFor_of_name (by decide +kernel)) (Nat.le_of_ble_eq_true rfl) ?_
  intro p e R s m args below meth c Q A ls H locs X I hl hk
  exact b_X11_dead X I hl h hk
def f_X11_shares_L29 (N : Nat) (p1 : Int32) (p2 : Int32) (x3 : Int32) (x4 : Int32) (σ : sgS) : Option ((Int32) ⊕ ((Int32 × Int32) ⊕ (Int32))) :=
  if (σ.1 3 3) ≤ x4 then
  (some (.inr (.inr x3)))
else
  (sg_ld σ (37 + 5) 7 x4 fun v2 =>
  some (.inr (.inl (x3 + v2, x4 + 1))))
set_option maxHeartbeats 4000000 in
set_option maxRecDepth 100000 in
theorem b_X11_shares_L29 {p : Program} {l : Launch} {e : Env} {R : Room} {s : State} {m : MethodId} {args : Array Value} {below : List Frame} {meth : Method} {c : Code} {Q : State → Prop} {P : sgP} {A : Nat → Prop} {N : Nat} {p1 : Int32} {p2 : Int32} {x3 : Int32} {x4 : Int32} {σ : sgS} (X : sg_C P A 2 p R s m args c cX11_shares 5 RX11) {H : Heap} {locs : List Loc} (I : sg_I P shC 332 A s.heap σ H locs) {ls : Array Slot} (hl : lv_has ls 5 [(0, .ref (sgA P 0)), (1, .int p1), (2, .int p2), (3, .int x3), (4, .int x4)]) {st : (Int32) ⊕ ((Int32 × Int32) ⊕ (Int32))} (h : f_X11_shares_L29 N p1 p2 x3 x4 σ = some st) (hk : sg_k3 (fun r => sg_Ri p l e R s m args below meth c Q P shC 332 A cX11_shares (some .int) (r, σ)) (fun x => sg_Wt p l e R s m args below meth c Q P shC 332 A 5 29 σ [(0, .ref (sgA P 0)), (1, .int p1), (2, .int p2), (3, .int x.1), (4, .int x.2)]) (fun y => sg_Wt p l e R s m args below meth c Q P shC 332 A 5 60 σ [(0, .ref (sgA P 0)), (1, .int p1), (2, .int p2), (3, .int y)]) st) : W p l e R s m args below meth c H locs 0 0 Q (F0 m 29 ls []) := by
  unfold f_X11_shares_L29 at h
  have hx := X.1.1
  have hb := X.1.2.1
  have hown := X.1.2.2.2.1
  have hts := X.1.2.2.2.2
  refine lv_iload hx hb dX11_shares_29 (lv_at hl 4 rfl) ?_
  refine lv_aload_n hx hb dX11_shares_31 rfl (lv_at hl 0 rfl) ?_
  refine sg_getr X I fk_X11_19 (j := 3) (by decide) shC_0 rfl dX11_shares_32 ?_
  refine sg_getiN X I fn_X11_169 (by decide) shC_3 rfl dX11_shares_35 ?_
  refine lv_icmp_ge (tgt := 60) hx hb dX11_shares_38 (by decide) (fun z => ?_) (fun z => ?_)
  · have h := sg_ift h z
    obtain rfl := Option.some.inj h
    exact sg_go hk I (lv_sub hl [0, 1, 2, 3] rfl)
  · have h := sg_iff h z
    refine lv_iload_n hx hb dX11_shares_41 rfl (lv_at hl 3 rfl) ?_
    refine lv_aload_n hx hb dX11_shares_42 rfl (lv_at hl 0 rfl) ?_
    refine sg_getr X I fk_X11_52 (j := 37) (by decide) shC_0 rfl dX11_shares_43 ?_
    refine sg_getrN X I fn_X11_230 (j := 37 + 5) (isSt_i0 isSt_37) (isSt_s0 isSt_37) rfl dX11_shares_46 ?_
    refine lv_iload hx hb dX11_shares_49 (lv_at hl 4 rfl) ?_
    refine sg_iald X I (isSt_i5 isSt_37) (isSt_s5 isSt_37) h dX11_shares_51 (fun v2 h => ?_)
    refine lv_iadd hx hb dX11_shares_52 ?_
    refine lv_istore_n (lv' := [(3, .int (x3 + v2)), (0, .ref (sgA P 0)), (1, .int p1), (2, .int p2), (4, .int x4)]) hx hb dX11_shares_53 rfl hl (by decide) rfl (fun ls hl => ?_)
    refine lv_iinc (v := x4 + 1) (lv' := [(4, .int (x4 + 1)), (3, .int (x3 + v2)), (0, .ref (sgA P 0)), (1, .int p1), (2, .int p2)]) hx hb dX11_shares_54 hl (k := 4) rfl rfl (by decide) rfl (fun ls hl => ?_)
    refine lv_goto (tgt := 29) hx hb dX11_shares_57 (by decide) ?_
    obtain rfl := Option.some.inj h
    exact sg_go hk I (lv_sub hl [2, 3, 4, 1, 0] rfl)
def f_X11_shares (N : Nat) (p1 : Int32) (p2 : Int32) (σ : sgS) : Option (Int32) :=
  sg_cr (f_X0_hasPlace N 3 p1 σ) fun v1 =>
if v1 = 0 then
  (some ((-1)))
else
  (if p2 < 0 then
    (some ((-1)))
  else
    (if p2 ≤ 999 then
      (sg_lb (sg_lp (fun x => f_X11_shares_L29 N p1 p2 x.1 x.2 σ) N ((0, 0))) (fun r => some r) fun y3 =>
      if y3 = 0 then
        (some 0)
      else
        (sg_ld σ (37 + 5) 7 p1 fun v4 =>
        sg_nz y3 (
          some ((p2 * v4) / y3))))
    else
      (some ((-1)))))
set_option maxHeartbeats 4000000 in
set_option maxRecDepth 100000 in
theorem b_X11_shares {p : Program} {l : Launch} {e : Env} {R : Room} {s : State} {m : MethodId} {args : Array Value} {below : List Frame} {meth : Method} {c : Code} {Q : State → Prop} {P : sgP} {A : Nat → Prop} {N : Nat} {p1 : Int32} {p2 : Int32} {σ : sgS} (X : sg_C P A 2 p R s m args c cX11_shares 5 RX11) {H : Heap} {locs : List Loc} (I : sg_I P shC 332 A s.heap σ H locs) {ls : Array Slot} (hl : lv_has ls 5 [(0, .ref (sgA P 0)), (1, .int p1), (2, .int p2)]) {st : Int32} (h : f_X11_shares N p1 p2 σ = some st) (hk : sg_Ri p l e R s m args below meth c Q P shC 332 A cX11_shares (some .int) (st, σ)) : W p l e R s m args below meth c H locs 0 0 Q (F0 m 0 ls []) := by
  unfold f_X11_shares at h
  have hx := X.1.1
  have hb := X.1.2.1
  have hown := X.1.2.2.2.1
  have hts := X.1.2.2.2.2
  refine lv_aload_n hx hb dX11_shares_0 rfl (lv_at hl 0 rfl) ?_
  refine sg_getr X I fk_X11_19 (j := 3) (by decide) shC_0 rfl dX11_shares_1 ?_
  refine lv_iload_n hx hb dX11_shares_4 rfl (lv_at hl 1 rfl) ?_
  refine sg_callVr (As := [.int p1]) X I mk_X11_224 (by decide) (by decide) shC_3 rfl (fun q9 e9 => c_X0_hasPlace isCo_3 e9) h hl.1 rfl rfl (Nat.le_of_ble_eq_true rfl) dX11_shares_5 (fun v1 H locs h I => ?_)
  refine lv_if_eq (tgt := 22) hx hb dX11_shares_8 (by decide) (fun z => ?_) (fun z => ?_)
  · have h := sg_ift h z
    refine lv_iconst (v := -1) hx hb dX11_shares_22 (by decide) ?_
    obtain rfl := Option.some.inj h
    exact hk _ _ _ _ _ I ⟨_, rfl, rfl⟩ dX11_shares_23
  · have h := sg_iff h z
    refine lv_iload_n hx hb dX11_shares_11 rfl (lv_at hl 2 rfl) ?_
    refine lv_if_lt (tgt := 22) hx hb dX11_shares_12 (by decide) (fun z => ?_) (fun z => ?_)
    · have h := sg_ift h z
      refine lv_iconst (v := -1) hx hb dX11_shares_22 (by decide) ?_
      obtain rfl := Option.some.inj h
      exact hk _ _ _ _ _ I ⟨_, rfl, rfl⟩ dX11_shares_23
    · have h := sg_iff h z
      refine lv_iload_n hx hb dX11_shares_15 rfl (lv_at hl 2 rfl) ?_
      refine lv_sipush (v := 999) hx hb dX11_shares_16 (by decide) ?_
      refine lv_icmp_le (tgt := 24) hx hb dX11_shares_19 (by decide) (fun z => ?_) (fun z => ?_)
      · have h := sg_ift h z
        refine lv_iconst (v := 0) hx hb dX11_shares_24 (by decide) ?_
        refine lv_istore_n (lv' := [(3, .int 0), (0, .ref (sgA P 0)), (1, .int p1), (2, .int p2)]) hx hb dX11_shares_25 rfl hl (by decide) rfl (fun ls hl => ?_)
        refine lv_iconst (v := 0) hx hb dX11_shares_26 (by decide) ?_
        refine lv_istore (lv' := [(4, .int 0), (3, .int 0), (0, .ref (sgA P 0)), (1, .int p1), (2, .int p2)]) hx hb dX11_shares_27 hl (by decide) rfl (fun ls hl => ?_)
        obtain ⟨res, e9, k9⟩ := sg_lb_some h
        refine sg_go (sg_lp_W (a := (fun r => sg_Ri p l e R s m args below meth c Q P shC 332 A cX11_shares (some .int) (r, σ))) (w := (fun x => sg_Wt p l e R s m args below meth c Q P shC 332 A 5 29 σ [(0, .ref (sgA P 0)), (1, .int p1), (2, .int p2), (3, .int x.1), (4, .int x.2)])) (c := (fun y => sg_Wt p l e R s m args below meth c Q P shC 332 A 5 60 σ [(0, .ref (sgA P 0)), (1, .int p1), (2, .int p2), (3, .int y)])) (fun x st hb9 hk9 => ?_) N ((0, 0)) res e9 (sg_k2_mono k9 (fun r h => ?_) (fun y3 h => ?_))) I (lv_sub hl [2, 3, 4, 1, 0] rfl)
        · intro H locs ls I hl
          exact b_X11_shares_L29 X I hl hb9 hk9
        · obtain rfl := Option.some.inj h
          exact hk
        · intro H locs ls I hl
          refine lv_iload_n hx hb dX11_shares_60 rfl (lv_at hl 3 rfl) ?_
          refine lv_if_ne (tgt := 68) hx hb dX11_shares_61 (by decide) (fun z => ?_) (fun z => ?_)
          · have h := sg_iff h z
            refine lv_iload_n hx hb dX11_shares_68 rfl (lv_at hl 2 rfl) ?_
            refine lv_aload_n hx hb dX11_shares_69 rfl (lv_at hl 0 rfl) ?_
            refine sg_getr X I fk_X11_52 (j := 37) (by decide) shC_0 rfl dX11_shares_70 ?_
            refine sg_getrN X I fn_X11_230 (j := 37 + 5) (isSt_i0 isSt_37) (isSt_s0 isSt_37) rfl dX11_shares_73 ?_
            refine lv_iload_n hx hb dX11_shares_76 rfl (lv_at hl 1 rfl) ?_
            refine sg_iald X I (isSt_i5 isSt_37) (isSt_s5 isSt_37) h dX11_shares_77 (fun v4 h => ?_)
            refine lv_imul hx hb dX11_shares_78 ?_
            refine lv_iload_n hx hb dX11_shares_79 rfl (lv_at hl 3 rfl) ?_
            refine sg_nzW (h := h) (fun z h => ?_)
            refine lv_idiv hx hb dX11_shares_80 z ?_
            obtain rfl := Option.some.inj h
            exact hk _ _ _ _ _ I ⟨_, rfl, rfl⟩ dX11_shares_81
          · have h := sg_ift h z
            refine lv_iconst (v := 0) hx hb dX11_shares_64 (by decide) ?_
            refine lv_goto (tgt := 81) hx hb dX11_shares_65 (by decide) ?_
            obtain rfl := Option.some.inj h
            exact hk _ _ _ _ _ I ⟨_, rfl, rfl⟩ dX11_shares_81
      · have h := sg_iff h z
        refine lv_iconst (v := -1) hx hb dX11_shares_22 (by decide) ?_
        obtain rfl := Option.some.inj h
        exact hk _ _ _ _ _ I ⟨_, rfl, rfl⟩ dX11_shares_23
set_option maxHeartbeats 4000000 in
set_option maxRecDepth 100000 in
theorem c_X11_shares {l : Launch} {P : sgP} {N : Nat} {p1 : Int32} {p2 : Int32} {σ : sgS} {q : Int32} (h : f_X11_shares N p1 p2 σ = some q) : sg_Mi P shC 332 l yX11_shares cX11_shares 5 (some .int) 2 [.ref (sgA P 0), .int p1, .int p2] σ (q, σ) := by
  refine sg_mki (plainFor_of_name (by decide +kernel)) (Nat.le_of_ble_eq_true rfl) ?_
  intro p e R s m args below meth c Q A ls H locs X I hl hk
  exact b_X11_shares X I hl h hk
def f_X11_firstGreatest_L4 (N : Nat) (p0 : Nat) (p0n : Nat) (p1 : Int32) (x2 : Int32) (x3 : Int32) (σ : sgS) : Option ((Int32) ⊕ ((Int32 × Int32) ⊕ (Int32))) :=
  if p1 ≤ x3 then
  (some (.inr (.inr x2)))
else
  (if (Int32.ofNat p0n) ≤ x3 then
    (some (.inr (.inr x2)))
  else
    (sg_ld σ p0 p0n x3 fun v1 =>
    sg_ld σ p0 p0n x2 fun v2 =>
    if v1 ≤ v2 then
      (some (.inr (.inl (x2, x3 + 1))))
    else
      (some (.inr (.inl (x3, x3 + 1))))))
set_option maxHeartbeats 4000000 in
set_option maxRecDepth 100000 in
theorem b_X11_firstGreatest_L4 {p : Program} {l : Launch} {e : Env} {R : Room} {s : State} {m : MethodId} {args : Array Value} {below : List Frame} {meth : Method} {c : Code} {Q : State → Prop} {P : sgP} {A : Nat → Prop} {N : Nat} {p0 : Nat} {p0n : Nat} {p1 : Int32} {x2 : Int32} {x3 : Int32} {σ : sgS} (X : sg_C P A 1 p R s m args c cX11_firstGreatest 4 RX11) (hp0 : p0 < 332) (gp0 : shC p0 = .inr (0, p0n, sg_g0)) {H : Heap} {locs : List Loc} (I : sg_I P shC 332 A s.heap σ H locs) {ls : Array Slot} (hl : lv_has ls 4 [(0, .ref (sgA P p0)), (1, .int p1), (2, .int x2), (3, .int x3)]) {st : (Int32) ⊕ ((Int32 × Int32) ⊕ (Int32))} (h : f_X11_firstGreatest_L4 N p0 p0n p1 x2 x3 σ = some st) (hk : sg_k3 (fun r => sg_Ri p l e R s m args below meth c Q P shC 332 A cX11_firstGreatest (some .int) (r, σ)) (fun x => sg_Wt p l e R s m args below meth c Q P shC 332 A 4 4 σ [(0, .ref (sgA P p0)), (1, .int p1), (2, .int x.1), (3, .int x.2)]) (fun y => sg_Wt p l e R s m args below meth c Q P shC 332 A 4 32 σ [(2, .int y)]) st) : W p l e R s m args below meth c H locs 0 0 Q (F0 m 4 ls []) := by
  unfold f_X11_firstGreatest_L4 at h
  have hx := X.1.1
  have hb := X.1.2.1
  have hown := X.1.2.2.2.1
  have hts := X.1.2.2.2.2
  refine lv_iload_n hx hb dX11_firstGreatest_4 rfl (lv_at hl 3 rfl) ?_
  refine lv_iload_n hx hb dX11_firstGreatest_5 rfl (lv_at hl 1 rfl) ?_
  refine lv_icmp_ge (tgt := 32) hx hb dX11_firstGreatest_6 (by decide) (fun z => ?_) (fun z => ?_)
  · have h := sg_ift h z
    obtain rfl := Option.some.inj h
    exact sg_go hk I (lv_sub hl [2] rfl)
  · have h := sg_iff h z
    refine lv_iload_n hx hb dX11_firstGreatest_9 rfl (lv_at hl 3 rfl) ?_
    refine lv_aload_n hx hb dX11_firstGreatest_10 rfl (lv_at hl 0 rfl) ?_
    refine sg_alen X I (v := Int32.ofNat p0n) hp0 gp0 rfl dX11_firstGreatest_11 ?_
    refine lv_icmp_ge (tgt := 32) hx hb dX11_firstGreatest_12 (by decide) (fun z => ?_) (fun z => ?_)
    · have h := sg_ift h z
      obtain rfl := Option.some.inj h
      exact sg_go hk I (lv_sub hl [2] rfl)
    · have h := sg_iff h z
      refine lv_aload_n hx hb dX11_firstGreatest_15 rfl (lv_at hl 0 rfl) ?_
      refine lv_iload_n hx hb dX11_firstGreatest_16 rfl (lv_at hl 3 rfl) ?_
      refine sg_iald X I hp0 gp0 h dX11_firstGreatest_17 (fun v1 h => ?_)
      refine lv_aload_n hx hb dX11_firstGreatest_18 rfl (lv_at hl 0 rfl) ?_
      refine lv_iload_n hx hb dX11_firstGreatest_19 rfl (lv_at hl 2 rfl) ?_
      refine sg_iald X I hp0 gp0 h dX11_firstGreatest_20 (fun v2 h => ?_)
      refine lv_icmp_le (tgt := 26) hx hb dX11_firstGreatest_21 (by decide) (fun z => ?_) (fun z => ?_)
      · have h := sg_ift h z
        refine lv_iinc (v := x3 + 1) (lv' := [(3, .int (x3 + 1)), (0, .ref (sgA P p0)), (1, .int p1), (2, .int x2)]) hx hb dX11_firstGreatest_26 hl (k := 3) rfl rfl (by decide) rfl (fun ls hl => ?_)
        refine lv_goto (tgt := 4) hx hb dX11_firstGreatest_29 (by decide) ?_
        obtain rfl := Option.some.inj h
        exact sg_go hk I (lv_sub hl [1, 2, 3, 0] rfl)
      · have h := sg_iff h z
        refine lv_iload_n hx hb dX11_firstGreatest_24 rfl (lv_at hl 3 rfl) ?_
        refine lv_istore_n (lv' := [(2, .int x3), (0, .ref (sgA P p0)), (1, .int p1), (3, .int x3)]) hx hb dX11_firstGreatest_25 rfl hl (by decide) rfl (fun ls hl => ?_)
        refine lv_iinc (v := x3 + 1) (lv' := [(3, .int (x3 + 1)), (2, .int x3), (0, .ref (sgA P p0)), (1, .int p1)]) hx hb dX11_firstGreatest_26 hl (k := 3) rfl rfl (by decide) rfl (fun ls hl => ?_)
        refine lv_goto (tgt := 4) hx hb dX11_firstGreatest_29 (by decide) ?_
        obtain rfl := Option.some.inj h
        exact sg_go hk I (lv_sub hl [2, 3, 1, 0] rfl)
def f_X11_firstGreatest (N : Nat) (p0 : Nat) (p0n : Nat) (p1 : Int32) (σ : sgS) : Option (Int32) :=
  sg_lb (sg_lp (fun x => f_X11_firstGreatest_L4 N p0 p0n p1 x.1 x.2 σ) N ((0, 1))) (fun r => some r) fun y3 =>
some y3
set_option maxHeartbeats 4000000 in
set_option maxRecDepth 100000 in
theorem b_X11_firstGreatest {p : Program} {l : Launch} {e : Env} {R : Room} {s : State} {m : MethodId} {args : Array Value} {below : List Frame} {meth : Method} {c : Code} {Q : State → Prop} {P : sgP} {A : Nat → Prop} {N : Nat} {p0 : Nat} {p0n : Nat} {p1 : Int32} {σ : sgS} (X : sg_C P A 1 p R s m args c cX11_firstGreatest 4 RX11) (hp0 : p0 < 332) (gp0 : shC p0 = .inr (0, p0n, sg_g0)) {H : Heap} {locs : List Loc} (I : sg_I P shC 332 A s.heap σ H locs) {ls : Array Slot} (hl : lv_has ls 4 [(0, .ref (sgA P p0)), (1, .int p1)]) {st : Int32} (h : f_X11_firstGreatest N p0 p0n p1 σ = some st) (hk : sg_Ri p l e R s m args below meth c Q P shC 332 A cX11_firstGreatest (some .int) (st, σ)) : W p l e R s m args below meth c H locs 0 0 Q (F0 m 0 ls []) := by
  unfold f_X11_firstGreatest at h
  have hx := X.1.1
  have hb := X.1.2.1
  have hown := X.1.2.2.2.1
  have hts := X.1.2.2.2.2
  refine lv_iconst (v := 0) hx hb dX11_firstGreatest_0 (by decide) ?_
  refine lv_istore_n (lv' := [(2, .int 0), (0, .ref (sgA P p0)), (1, .int p1)]) hx hb dX11_firstGreatest_1 rfl hl (by decide) rfl (fun ls hl => ?_)
  refine lv_iconst (v := 1) hx hb dX11_firstGreatest_2 (by decide) ?_
  refine lv_istore_n (lv' := [(3, .int 1), (2, .int 0), (0, .ref (sgA P p0)), (1, .int p1)]) hx hb dX11_firstGreatest_3 rfl hl (by decide) rfl (fun ls hl => ?_)
  obtain ⟨res, e9, k9⟩ := sg_lb_some h
  refine sg_go (sg_lp_W (a := (fun r => sg_Ri p l e R s m args below meth c Q P shC 332 A cX11_firstGreatest (some .int) (r, σ))) (w := (fun x => sg_Wt p l e R s m args below meth c Q P shC 332 A 4 4 σ [(0, .ref (sgA P p0)), (1, .int p1), (2, .int x.1), (3, .int x.2)])) (c := (fun y => sg_Wt p l e R s m args below meth c Q P shC 332 A 4 32 σ [(2, .int y)])) (fun x st hb9 hk9 => ?_) N ((0, 1)) res e9 (sg_k2_mono k9 (fun r h => ?_) (fun y3 h => ?_))) I (lv_sub hl [2, 3, 1, 0] rfl)
  · intro H locs ls I hl
    exact b_X11_firstGreatest_L4 X hp0 gp0 I hl hb9 hk9
  · obtain rfl := Option.some.inj h
    exact hk
  · intro H locs ls I hl
    refine lv_iload_n hx hb dX11_firstGreatest_32 rfl (lv_at hl 0 rfl) ?_
    obtain rfl := Option.some.inj h
    exact hk _ _ _ _ _ I ⟨_, rfl, rfl⟩ dX11_firstGreatest_33
set_option maxHeartbeats 4000000 in
set_option maxRecDepth 100000 in
theorem c_X11_firstGreatest {l : Launch} {P : sgP} {N : Nat} {p0 : Nat} {p0n : Nat} {p1 : Int32} {σ : sgS} (hp0 : p0 < 332) (gp0 : shC p0 = .inr (0, p0n, sg_g0)) {q : Int32} (h : f_X11_firstGreatest N p0 p0n p1 σ = some q) : sg_Mi P shC 332 l yX11_firstGreatest cX11_firstGreatest 4 (some .int) 1 [.ref (sgA P p0), .int p1] σ (q, σ) := by
  refine sg_mki (plainFor_of_name (by decide +kernel)) (Nat.le_of_ble_eq_true rfl) ?_
  intro p e R s m args below meth c Q A ls H locs X I hl hk
  exact b_X11_firstGreatest X hp0 gp0 I hl h hk
def f_X11_most (N : Nat) (p1 : Int32) (σ : sgS) : Option (Int32 × sgS) :=
  sg_cr (f_X0_isTold N 3 σ) fun v1 =>
if v1 = 0 then
  (some ((-1), σ))
else
  (sg_cl (f_X5_measure N 37 σ) fun v2 s3 =>
  if p1 = 0 then
    (sg_cr (f_X11_firstGreatest N (37 + 5) 7 (s3.1 3 3) s3) fun v4 =>
    some (v4, s3))
  else
    (if p1 = 1 then
      (sg_cr (f_X11_firstGreatest N 4 7 (s3.1 3 3) s3) fun v5 =>
      some (v5, s3))
    else
      (if p1 = 2 then
        (sg_cr (f_X11_firstGreatest N 51 12 (s3.1 3 4) s3) fun v6 =>
        some (v6, s3))
      else
        (if p1 = 3 then
          (sg_cr (f_X11_firstGreatest N (37 + 4) 12 (s3.1 3 4) s3) fun v7 =>
          some (v7, s3))
        else
          (if p1 = 4 then
            (sg_cr (f_X5_middle N s3) fun v8 =>
            some (v8, s3))
          else
            (if p1 = 5 then
              (sg_cr (f_X5_bridges N s3) fun v9 =>
              some (v9, s3))
            else
              (if p1 = 6 then
                (some (s3.1 37 5, s3))
              else
                (if p1 = 7 then
                  (sg_cr (f_X8_setsOnWay N 37 s3) fun v10 =>
                  some (v10, s3))
                else
                  (if p1 = 8 then
                    (sg_cr (f_X5_openHours N s3) fun v11 =>
                    some (v11, s3))
                  else
                    (if p1 = 9 then
                      (sg_cr (f_X5_parts N s3) fun v12 =>
                      some (v12, s3))
                    else
                      (some ((-1), s3))))))))))))
set_option maxHeartbeats 4000000 in
set_option maxRecDepth 100000 in
theorem b_X11_most {p : Program} {l : Launch} {e : Env} {R : Room} {s : State} {m : MethodId} {args : Array Value} {below : List Frame} {meth : Method} {c : Code} {Q : State → Prop} {P : sgP} {A : Nat → Prop} {N : Nat} {p1 : Int32} {σ : sgS} (X : sg_C P A 6 p R s m args c cX11_most 2 RX11) {H : Heap} {locs : List Loc} (I : sg_I P shC 332 A s.heap σ H locs) {ls : Array Slot} (hl : lv_has ls 2 [(0, .ref (sgA P 0)), (1, .int p1)]) {st : Int32 × sgS} (h : f_X11_most N p1 σ = some st) (hk : sg_Ri p l e R s m args below meth c Q P shC 332 A cX11_most (some .int) st) : W p l e R s m args below meth c H locs 0 0 Q (F0 m 0 ls []) := by
  unfold f_X11_most at h
  have hx := X.1.1
  have hb := X.1.2.1
  have hown := X.1.2.2.2.1
  have hts := X.1.2.2.2.2
  refine lv_aload_n hx hb dX11_most_0 rfl (lv_at hl 0 rfl) ?_
  refine sg_getr X I fk_X11_19 (j := 3) (by decide) shC_0 rfl dX11_most_1 ?_
  refine sg_callVr (As := []) X I mk_X11_172 (by decide) (by decide) shC_3 rfl (fun q9 e9 => c_X0_isTold isCo_3 e9) h hl.1 rfl rfl (Nat.le_of_ble_eq_true rfl) dX11_most_4 (fun v1 H locs h I => ?_)
  refine lv_if_ne (tgt := 12) hx hb dX11_most_7 (by decide) (fun z => ?_) (fun z => ?_)
  · have h := sg_iff h z
    refine lv_aload_n hx hb dX11_most_12 rfl (lv_at hl 0 rfl) ?_
    refine sg_getr X I fk_X11_80 (j := 302) (by decide) shC_0 rfl dX11_most_13 ?_
    refine lv_aload_n hx hb dX11_most_16 rfl (lv_at hl 0 rfl) ?_
    refine sg_getr X I fk_X11_52 (j := 37) (by decide) shC_0 rfl dX11_most_17 ?_
    refine sg_callVv (As := [.ref (sgA P 37)]) X I mk_X11_312 (by decide) (by decide) shC_302 rfl (fun q9 e9 => c_X5_measure isSt_37 e9) h hl.1 rfl rfl (Nat.le_of_ble_eq_true rfl) dX11_most_20 (fun v2 s3 H locs h I => ?_)
    refine lv_iload_n hx hb dX11_most_23 rfl (lv_at hl 1 rfl) ?_
    by_cases c0 : p1 = 0
    · have h := sg_ift h c0
      refine sg_swIn (k := 0) (off := 56) (tgt := 80) hx hb dX11_most_24 c0 (by decide) (by decide) (by decide +kernel) (by decide) ?_
      refine lv_aload_n hx hb dX11_most_80 rfl (lv_at hl 0 rfl) ?_
      refine sg_getr X I fk_X11_52 (j := 37) (by decide) shC_0 rfl dX11_most_81 ?_
      refine sg_getrN X I fn_X11_230 (j := 37 + 5) (isSt_i0 isSt_37) (isSt_s0 isSt_37) rfl dX11_most_84 ?_
      refine lv_aload_n hx hb dX11_most_87 rfl (lv_at hl 0 rfl) ?_
      refine sg_getr X I fk_X11_19 (j := 3) (by decide) shC_0 rfl dX11_most_88 ?_
      refine sg_getiN X I fn_X11_169 (by decide) shC_3 rfl dX11_most_91 ?_
      refine sg_callSr (As := [.ref (sgA P (37 + 5)), .int (s3.1 3 3)]) X I mk_X11_384 (by decide) (fun q9 e9 => c_X11_firstGreatest (isSt_i5 isSt_37) (isSt_s5 isSt_37) e9) h hl.1 rfl rfl (Nat.le_of_ble_eq_true rfl) dX11_most_94 (fun v4 H locs h I => ?_)
      obtain rfl := Option.some.inj h
      exact hk _ _ _ _ _ I ⟨_, rfl, rfl⟩ dX11_most_97
    have h := sg_iff h c0
    have i0 := sg_ine (z := 0) (by decide) c0
    by_cases c1 : p1 = 1
    · have h := sg_ift h c1
      refine sg_swIn (k := 1) (off := 74) (tgt := 98) hx hb dX11_most_24 c1 (by decide) (by decide) (by decide +kernel) (by decide) ?_
      refine lv_aload_n hx hb dX11_most_98 rfl (lv_at hl 0 rfl) ?_
      refine sg_getr X I fk_X11_19 (j := 3) (by decide) shC_0 rfl dX11_most_99 ?_
      refine sg_getrN X I fn_X11_227 (j := 4) (by decide) shC_3 rfl dX11_most_102 ?_
      refine lv_aload_n hx hb dX11_most_105 rfl (lv_at hl 0 rfl) ?_
      refine sg_getr X I fk_X11_19 (j := 3) (by decide) shC_0 rfl dX11_most_106 ?_
      refine sg_getiN X I fn_X11_169 (by decide) shC_3 rfl dX11_most_109 ?_
      refine sg_callSr (As := [.ref (sgA P 4), .int (s3.1 3 3)]) X I mk_X11_384 (by decide) (fun q9 e9 => c_X11_firstGreatest (by decide) shC_4 e9) h hl.1 rfl rfl (Nat.le_of_ble_eq_true rfl) dX11_most_112 (fun v5 H locs h I => ?_)
      obtain rfl := Option.some.inj h
      exact hk _ _ _ _ _ I ⟨_, rfl, rfl⟩ dX11_most_115
    have h := sg_iff h c1
    have i1 := sg_ine (z := 1) (by decide) c1
    by_cases c2 : p1 = 2
    · have h := sg_ift h c2
      refine sg_swIn (k := 2) (off := 92) (tgt := 116) hx hb dX11_most_24 c2 (by decide) (by decide) (by decide +kernel) (by decide) ?_
      refine lv_aload_n hx hb dX11_most_116 rfl (lv_at hl 0 rfl) ?_
      refine sg_getr X I fk_X11_64 (j := 49) (by decide) shC_0 rfl dX11_most_117 ?_
      refine sg_getrN X I fn_X11_200 (j := 51) (by decide) shC_49 rfl dX11_most_120 ?_
      refine lv_aload_n hx hb dX11_most_123 rfl (lv_at hl 0 rfl) ?_
      refine sg_getr X I fk_X11_19 (j := 3) (by decide) shC_0 rfl dX11_most_124 ?_
      refine sg_getiN X I fn_X11_289 (by decide) shC_3 rfl dX11_most_127 ?_
      refine sg_callSr (As := [.ref (sgA P 51), .int (s3.1 3 4)]) X I mk_X11_384 (by decide) (fun q9 e9 => c_X11_firstGreatest (by decide) shC_51 e9) h hl.1 rfl rfl (Nat.le_of_ble_eq_true rfl) dX11_most_130 (fun v6 H locs h I => ?_)
      obtain rfl := Option.some.inj h
      exact hk _ _ _ _ _ I ⟨_, rfl, rfl⟩ dX11_most_133
    have h := sg_iff h c2
    have i2 := sg_ine (z := 2) (by decide) c2
    by_cases c3 : p1 = 3
    · have h := sg_ift h c3
      refine sg_swIn (k := 3) (off := 110) (tgt := 134) hx hb dX11_most_24 c3 (by decide) (by decide) (by decide +kernel) (by decide) ?_
      refine lv_aload_n hx hb dX11_most_134 rfl (lv_at hl 0 rfl) ?_
      refine sg_getr X I fk_X11_52 (j := 37) (by decide) shC_0 rfl dX11_most_135 ?_
      refine sg_getrN X I fn_X11_203 (j := 37 + 4) (isSt_i0 isSt_37) (isSt_s0 isSt_37) rfl dX11_most_138 ?_
      refine lv_aload_n hx hb dX11_most_141 rfl (lv_at hl 0 rfl) ?_
      refine sg_getr X I fk_X11_19 (j := 3) (by decide) shC_0 rfl dX11_most_142 ?_
      refine sg_getiN X I fn_X11_289 (by decide) shC_3 rfl dX11_most_145 ?_
      refine sg_callSr (As := [.ref (sgA P (37 + 4)), .int (s3.1 3 4)]) X I mk_X11_384 (by decide) (fun q9 e9 => c_X11_firstGreatest (isSt_i4 isSt_37) (isSt_s4 isSt_37) e9) h hl.1 rfl rfl (Nat.le_of_ble_eq_true rfl) dX11_most_148 (fun v7 H locs h I => ?_)
      obtain rfl := Option.some.inj h
      exact hk _ _ _ _ _ I ⟨_, rfl, rfl⟩ dX11_most_151
    have h := sg_iff h c3
    have i3 := sg_ine (z := 3) (by decide) c3
    by_cases c4 : p1 = 4
    · have h := sg_ift h c4
      refine sg_swIn (k := 4) (off := 128) (tgt := 152) hx hb dX11_most_24 c4 (by decide) (by decide) (by decide +kernel) (by decide) ?_
      refine lv_aload_n hx hb dX11_most_152 rfl (lv_at hl 0 rfl) ?_
      refine sg_getr X I fk_X11_80 (j := 302) (by decide) shC_0 rfl dX11_most_153 ?_
      refine sg_callVr (As := []) X I mk_X11_387 (by decide) (by decide) shC_302 rfl (fun q9 e9 => c_X5_middle e9) h hl.1 rfl rfl (Nat.le_of_ble_eq_true rfl) dX11_most_156 (fun v8 H locs h I => ?_)
      obtain rfl := Option.some.inj h
      exact hk _ _ _ _ _ I ⟨_, rfl, rfl⟩ dX11_most_159
    have h := sg_iff h c4
    have i4 := sg_ine (z := 4) (by decide) c4
    by_cases c5 : p1 = 5
    · have h := sg_ift h c5
      refine sg_swIn (k := 5) (off := 136) (tgt := 160) hx hb dX11_most_24 c5 (by decide) (by decide) (by decide +kernel) (by decide) ?_
      refine lv_aload_n hx hb dX11_most_160 rfl (lv_at hl 0 rfl) ?_
      refine sg_getr X I fk_X11_80 (j := 302) (by decide) shC_0 rfl dX11_most_161 ?_
      refine sg_callVr (As := []) X I mk_X11_390 (by decide) (by decide) shC_302 rfl (fun q9 e9 => c_X5_bridges e9) h hl.1 rfl rfl (Nat.le_of_ble_eq_true rfl) dX11_most_164 (fun v9 H locs h I => ?_)
      obtain rfl := Option.some.inj h
      exact hk _ _ _ _ _ I ⟨_, rfl, rfl⟩ dX11_most_167
    have h := sg_iff h c5
    have i5 := sg_ine (z := 5) (by decide) c5
    by_cases c6 : p1 = 6
    · have h := sg_ift h c6
      refine sg_swIn (k := 6) (off := 144) (tgt := 168) hx hb dX11_most_24 c6 (by decide) (by decide) (by decide +kernel) (by decide) ?_
      refine lv_aload_n hx hb dX11_most_168 rfl (lv_at hl 0 rfl) ?_
      refine sg_getr X I fk_X11_52 (j := 37) (by decide) shC_0 rfl dX11_most_169 ?_
      refine sg_getiN X I fn_X11_206 (isSt_i0 isSt_37) (isSt_s0 isSt_37) rfl dX11_most_172 ?_
      obtain rfl := Option.some.inj h
      exact hk _ _ _ _ _ I ⟨_, rfl, rfl⟩ dX11_most_175
    have h := sg_iff h c6
    have i6 := sg_ine (z := 6) (by decide) c6
    by_cases c7 : p1 = 7
    · have h := sg_ift h c7
      refine sg_swIn (k := 7) (off := 152) (tgt := 176) hx hb dX11_most_24 c7 (by decide) (by decide) (by decide +kernel) (by decide) ?_
      refine lv_aload_n hx hb dX11_most_176 rfl (lv_at hl 0 rfl) ?_
      refine sg_getr X I fk_X11_52 (j := 37) (by decide) shC_0 rfl dX11_most_177 ?_
      refine sg_callVr (As := []) X I mk_X11_262 (by decide) (isSt_i0 isSt_37) (isSt_s0 isSt_37) rfl (fun q9 e9 => c_X8_setsOnWay isSt_37 e9) h hl.1 rfl rfl (Nat.le_of_ble_eq_true rfl) dX11_most_180 (fun v10 H locs h I => ?_)
      obtain rfl := Option.some.inj h
      exact hk _ _ _ _ _ I ⟨_, rfl, rfl⟩ dX11_most_183
    have h := sg_iff h c7
    have i7 := sg_ine (z := 7) (by decide) c7
    by_cases c8 : p1 = 8
    · have h := sg_ift h c8
      refine sg_swIn (k := 8) (off := 160) (tgt := 184) hx hb dX11_most_24 c8 (by decide) (by decide) (by decide +kernel) (by decide) ?_
      refine lv_aload_n hx hb dX11_most_184 rfl (lv_at hl 0 rfl) ?_
      refine sg_getr X I fk_X11_80 (j := 302) (by decide) shC_0 rfl dX11_most_185 ?_
      refine sg_callVr (As := []) X I mk_X11_393 (by decide) (by decide) shC_302 rfl (fun q9 e9 => c_X5_openHours e9) h hl.1 rfl rfl (Nat.le_of_ble_eq_true rfl) dX11_most_188 (fun v11 H locs h I => ?_)
      obtain rfl := Option.some.inj h
      exact hk _ _ _ _ _ I ⟨_, rfl, rfl⟩ dX11_most_191
    have h := sg_iff h c8
    have i8 := sg_ine (z := 8) (by decide) c8
    by_cases c9 : p1 = 9
    · have h := sg_ift h c9
      refine sg_swIn (k := 9) (off := 168) (tgt := 192) hx hb dX11_most_24 c9 (by decide) (by decide) (by decide +kernel) (by decide) ?_
      refine lv_aload_n hx hb dX11_most_192 rfl (lv_at hl 0 rfl) ?_
      refine sg_getr X I fk_X11_80 (j := 302) (by decide) shC_0 rfl dX11_most_193 ?_
      refine sg_callVr (As := []) X I mk_X11_396 (by decide) (by decide) shC_302 rfl (fun q9 e9 => c_X5_parts e9) h hl.1 rfl rfl (Nat.le_of_ble_eq_true rfl) dX11_most_196 (fun v12 H locs h I => ?_)
      obtain rfl := Option.some.inj h
      exact hk _ _ _ _ _ I ⟨_, rfl, rfl⟩ dX11_most_199
    have h := sg_iff h c9
    have i9 := sg_ine (z := 9) (by decide) c9
    refine lv_tableOut (tgt := 200) hx hb dX11_most_24 (by omega) (by decide) ?_
    refine lv_iconst (v := -1) hx hb dX11_most_200 (by decide) ?_
    obtain rfl := Option.some.inj h
    exact hk _ _ _ _ _ I ⟨_, rfl, rfl⟩ dX11_most_201
  · have h := sg_ift h z
    refine lv_iconst (v := -1) hx hb dX11_most_10 (by decide) ?_
    obtain rfl := Option.some.inj h
    exact hk _ _ _ _ _ I ⟨_, rfl, rfl⟩ dX11_most_11
set_option maxHeartbeats 4000000 in
set_option maxRecDepth 100000 in
theorem c_X11_most {l : Launch} {P : sgP} {N : Nat} {p1 : Int32} {σ : sgS} {q : Int32 × sgS} (h : f_X11_most N p1 σ = some q) : sg_Mi P shC 332 l yX11_most cX11_most 2 (some .int) 6 [.ref (sgA P 0), .int p1] σ q := by
  refine sg_mki (plainFor_of_name (by decide +kernel)) (Nat.le_of_ble_eq_true rfl) ?_
  intro p e R s m args below meth c Q A ls H locs X I hl hk
  exact b_X11_most X I hl h hk
def f_X11_image (N : Nat) (σ : sgS) : Option (Int32 × sgS) :=
  sg_cr (f_X0_isTold N 3 σ) fun v1 =>
if v1 = 0 then
  (some ((-1), σ))
else
  (sg_cl (f_X6_keepImage N 37 σ) fun v2 s3 =>
  some (s3.1 37 7, s3))
set_option maxHeartbeats 4000000 in
set_option maxRecDepth 100000 in
theorem b_X11_image {p : Program} {l : Launch} {e : Env} {R : Room} {s : State} {m : MethodId} {args : Array Value} {below : List Frame} {meth : Method} {c : Code} {Q : State → Prop} {P : sgP} {A : Nat → Prop} {N : Nat} {σ : sgS} (X : sg_C P A 4 p R s m args c cX11_image 1 RX11) {H : Heap} {locs : List Loc} (I : sg_I P shC 332 A s.heap σ H locs) {ls : Array Slot} (hl : lv_has ls 1 [(0, .ref (sgA P 0))]) {st : Int32 × sgS} (h : f_X11_image N σ = some st) (hk : sg_Ri p l e R s m args below meth c Q P shC 332 A cX11_image (some .int) st) : W p l e R s m args below meth c H locs 0 0 Q (F0 m 0 ls []) := by
  unfold f_X11_image at h
  have hx := X.1.1
  have hb := X.1.2.1
  have hown := X.1.2.2.2.1
  have hts := X.1.2.2.2.2
  refine lv_aload_n hx hb dX11_image_0 rfl (lv_at hl 0 rfl) ?_
  refine sg_getr X I fk_X11_19 (j := 3) (by decide) shC_0 rfl dX11_image_1 ?_
  refine sg_callVr (As := []) X I mk_X11_172 (by decide) (by decide) shC_3 rfl (fun q9 e9 => c_X0_isTold isCo_3 e9) h hl.1 rfl rfl (Nat.le_of_ble_eq_true rfl) dX11_image_4 (fun v1 H locs h I => ?_)
  refine lv_if_ne (tgt := 12) hx hb dX11_image_7 (by decide) (fun z => ?_) (fun z => ?_)
  · have h := sg_iff h z
    refine lv_aload_n hx hb dX11_image_12 rfl (lv_at hl 0 rfl) ?_
    refine sg_getr X I fk_X11_71 (j := 52) (by decide) shC_0 rfl dX11_image_13 ?_
    refine lv_aload_n hx hb dX11_image_16 rfl (lv_at hl 0 rfl) ?_
    refine sg_getr X I fk_X11_52 (j := 37) (by decide) shC_0 rfl dX11_image_17 ?_
    refine sg_callVv (As := [.ref (sgA P 37)]) X I mk_X11_399 (by decide) (by decide) shC_52 rfl (fun q9 e9 => c_X6_keepImage isSt_37 e9) h hl.1 rfl rfl (Nat.le_of_ble_eq_true rfl) dX11_image_20 (fun v2 s3 H locs h I => ?_)
    refine lv_aload_n hx hb dX11_image_23 rfl (lv_at hl 0 rfl) ?_
    refine sg_getr X I fk_X11_52 (j := 37) (by decide) shC_0 rfl dX11_image_24 ?_
    refine sg_getiN X I fn_X11_249 (isSt_i0 isSt_37) (isSt_s0 isSt_37) rfl dX11_image_27 ?_
    obtain rfl := Option.some.inj h
    exact hk _ _ _ _ _ I ⟨_, rfl, rfl⟩ dX11_image_30
  · have h := sg_ift h z
    refine lv_iconst (v := -1) hx hb dX11_image_10 (by decide) ?_
    obtain rfl := Option.some.inj h
    exact hk _ _ _ _ _ I ⟨_, rfl, rfl⟩ dX11_image_11
set_option maxHeartbeats 4000000 in
set_option maxRecDepth 100000 in
theorem c_X11_image {l : Launch} {P : sgP} {N : Nat} {σ : sgS} {q : Int32 × sgS} (h : f_X11_image N σ = some q) : sg_Mi P shC 332 l yX11_image cX11_image 1 (some .int) 4 [.ref (sgA P 0)] σ q := by
  refine sg_mki (plainFor_of_name (by decide +kernel)) (Nat.le_of_ble_eq_true rfl) ?_
  intro p e R s m args below meth c Q A ls H locs X I hl hk
  exact b_X11_image X I hl h hk
def f_X11_back (N : Nat) (σ : sgS) : Option (Int32 × sgS) :=
  sg_cl (f_X6_goBack N 37 σ) fun v1 s2 =>
if v1 = 0 then
  (some ((-1), s2))
else
  (some (s2.1 37 7, s2))
set_option maxHeartbeats 4000000 in
set_option maxRecDepth 100000 in
theorem b_X11_back {p : Program} {l : Launch} {e : Env} {R : Room} {s : State} {m : MethodId} {args : Array Value} {below : List Frame} {meth : Method} {c : Code} {Q : State → Prop} {P : sgP} {A : Nat → Prop} {N : Nat} {σ : sgS} (X : sg_C P A 4 p R s m args c cX11_back 1 RX11) {H : Heap} {locs : List Loc} (I : sg_I P shC 332 A s.heap σ H locs) {ls : Array Slot} (hl : lv_has ls 1 [(0, .ref (sgA P 0))]) {st : Int32 × sgS} (h : f_X11_back N σ = some st) (hk : sg_Ri p l e R s m args below meth c Q P shC 332 A cX11_back (some .int) st) : W p l e R s m args below meth c H locs 0 0 Q (F0 m 0 ls []) := by
  unfold f_X11_back at h
  have hx := X.1.1
  have hb := X.1.2.1
  have hown := X.1.2.2.2.1
  have hts := X.1.2.2.2.2
  refine lv_aload_n hx hb dX11_back_0 rfl (lv_at hl 0 rfl) ?_
  refine sg_getr X I fk_X11_71 (j := 52) (by decide) shC_0 rfl dX11_back_1 ?_
  refine lv_aload_n hx hb dX11_back_4 rfl (lv_at hl 0 rfl) ?_
  refine sg_getr X I fk_X11_52 (j := 37) (by decide) shC_0 rfl dX11_back_5 ?_
  refine sg_callV (As := [.ref (sgA P 37)]) X I mk_X11_402 (by decide) (by decide) shC_52 rfl (fun q9 e9 => c_X6_goBack isSt_37 e9) h hl.1 rfl rfl (Nat.le_of_ble_eq_true rfl) dX11_back_8 (fun v1 s2 H locs h I => ?_)
  refine lv_if_eq (tgt := 24) hx hb dX11_back_11 (by decide) (fun z => ?_) (fun z => ?_)
  · have h := sg_ift h z
    refine lv_iconst (v := -1) hx hb dX11_back_24 (by decide) ?_
    obtain rfl := Option.some.inj h
    exact hk _ _ _ _ _ I ⟨_, rfl, rfl⟩ dX11_back_25
  · have h := sg_iff h z
    refine lv_aload_n hx hb dX11_back_14 rfl (lv_at hl 0 rfl) ?_
    refine sg_getr X I fk_X11_52 (j := 37) (by decide) shC_0 rfl dX11_back_15 ?_
    refine sg_getiN X I fn_X11_249 (isSt_i0 isSt_37) (isSt_s0 isSt_37) rfl dX11_back_18 ?_
    refine lv_goto (tgt := 25) hx hb dX11_back_21 (by decide) ?_
    obtain rfl := Option.some.inj h
    exact hk _ _ _ _ _ I ⟨_, rfl, rfl⟩ dX11_back_25
set_option maxHeartbeats 4000000 in
set_option maxRecDepth 100000 in
theorem c_X11_back {l : Launch} {P : sgP} {N : Nat} {σ : sgS} {q : Int32 × sgS} (h : f_X11_back N σ = some q) : sg_Mi P shC 332 l yX11_back cX11_back 1 (some .int) 4 [.ref (sgA P 0)] σ q := by
  refine sg_mki (plainFor_of_name (by decide +kernel)) (Nat.le_of_ble_eq_true rfl) ?_
  intro p e R s m args below meth c Q A ls H locs X I hl hk
  exact b_X11_back X I hl h hk
def f_X11_count (N : Nat) (p1 : Int32) (σ : sgS) : Option (Int32) :=
  if p1 = 0 then
  (some (σ.1 3 3))
else
  (if p1 = 1 then
    (some (σ.1 3 4))
  else
    (if p1 = 2 then
      (some (σ.1 3 5))
    else
      (if p1 = 3 then
        (some (σ.1 21 4))
      else
        (if p1 = 4 then
          (some (σ.1 29 4))
        else
          (if p1 = 5 then
            (some (σ.1 1 1))
          else
            (if p1 = 6 then
              (some (σ.1 21 5))
            else
              (if p1 = 7 then
                (some (σ.1 37 7))
              else
                (if p1 = 8 then
                  (some (σ.1 0 14))
                else
                  (if p1 = 9 then
                    (some (σ.1 320 9))
                  else
                    (if p1 = 10 then
                      (sg_cr (f_X6_logSize N (σ.1 37 7) σ) fun v1 =>
                      some v1)
                    else
                      (if p1 = 11 then
                        (some (σ.1 52 1))
                      else
                        (some ((-1000000))))))))))))))
set_option maxHeartbeats 4000000 in
set_option maxRecDepth 100000 in
theorem b_X11_count {p : Program} {l : Launch} {e : Env} {R : Room} {s : State} {m : MethodId} {args : Array Value} {below : List Frame} {meth : Method} {c : Code} {Q : State → Prop} {P : sgP} {A : Nat → Prop} {N : Nat} {p1 : Int32} {σ : sgS} (X : sg_C P A 3 p R s m args c cX11_count 2 RX11) {H : Heap} {locs : List Loc} (I : sg_I P shC 332 A s.heap σ H locs) {ls : Array Slot} (hl : lv_has ls 2 [(0, .ref (sgA P 0)), (1, .int p1)]) {st : Int32} (h : f_X11_count N p1 σ = some st) (hk : sg_Ri p l e R s m args below meth c Q P shC 332 A cX11_count (some .int) (st, σ)) : W p l e R s m args below meth c H locs 0 0 Q (F0 m 0 ls []) := by
  unfold f_X11_count at h
  have hx := X.1.1
  have hb := X.1.2.1
  have hown := X.1.2.2.2.1
  have hts := X.1.2.2.2.2
  refine lv_iload_n hx hb dX11_count_0 rfl (lv_at hl 1 rfl) ?_
  by_cases c0 : p1 = 0
  · have h := sg_ift h c0
    refine sg_swIn (k := 0) (off := 63) (tgt := 64) hx hb dX11_count_1 c0 (by decide) (by decide) (by decide +kernel) (by decide) ?_
    refine lv_aload_n hx hb dX11_count_64 rfl (lv_at hl 0 rfl) ?_
    refine sg_getr X I fk_X11_19 (j := 3) (by decide) shC_0 rfl dX11_count_65 ?_
    refine sg_getiN X I fn_X11_169 (by decide) shC_3 rfl dX11_count_68 ?_
    obtain rfl := Option.some.inj h
    exact hk _ _ _ _ _ I ⟨_, rfl, rfl⟩ dX11_count_71
  have h := sg_iff h c0
  have i0 := sg_ine (z := 0) (by decide) c0
  by_cases c1 : p1 = 1
  · have h := sg_ift h c1
    refine sg_swIn (k := 1) (off := 71) (tgt := 72) hx hb dX11_count_1 c1 (by decide) (by decide) (by decide +kernel) (by decide) ?_
    refine lv_aload_n hx hb dX11_count_72 rfl (lv_at hl 0 rfl) ?_
    refine sg_getr X I fk_X11_19 (j := 3) (by decide) shC_0 rfl dX11_count_73 ?_
    refine sg_getiN X I fn_X11_289 (by decide) shC_3 rfl dX11_count_76 ?_
    obtain rfl := Option.some.inj h
    exact hk _ _ _ _ _ I ⟨_, rfl, rfl⟩ dX11_count_79
  have h := sg_iff h c1
  have i1 := sg_ine (z := 1) (by decide) c1
  by_cases c2 : p1 = 2
  · have h := sg_ift h c2
    refine sg_swIn (k := 2) (off := 79) (tgt := 80) hx hb dX11_count_1 c2 (by decide) (by decide) (by decide +kernel) (by decide) ?_
    refine lv_aload_n hx hb dX11_count_80 rfl (lv_at hl 0 rfl) ?_
    refine sg_getr X I fk_X11_19 (j := 3) (by decide) shC_0 rfl dX11_count_81 ?_
    refine sg_getiN X I fn_X11_292 (by decide) shC_3 rfl dX11_count_84 ?_
    obtain rfl := Option.some.inj h
    exact hk _ _ _ _ _ I ⟨_, rfl, rfl⟩ dX11_count_87
  have h := sg_iff h c2
  have i2 := sg_ine (z := 2) (by decide) c2
  by_cases c3 : p1 = 3
  · have h := sg_ift h c3
    refine sg_swIn (k := 3) (off := 87) (tgt := 88) hx hb dX11_count_1 c3 (by decide) (by decide) (by decide +kernel) (by decide) ?_
    refine lv_aload_n hx hb dX11_count_88 rfl (lv_at hl 0 rfl) ?_
    refine sg_getr X I fk_X11_38 (j := 21) (by decide) shC_0 rfl dX11_count_89 ?_
    refine sg_getiN X I fn_X11_154 (by decide) shC_21 rfl dX11_count_92 ?_
    obtain rfl := Option.some.inj h
    exact hk _ _ _ _ _ I ⟨_, rfl, rfl⟩ dX11_count_95
  have h := sg_iff h c3
  have i3 := sg_ine (z := 3) (by decide) c3
  by_cases c4 : p1 = 4
  · have h := sg_ift h c4
    refine sg_swIn (k := 4) (off := 95) (tgt := 96) hx hb dX11_count_1 c4 (by decide) (by decide) (by decide +kernel) (by decide) ?_
    refine lv_aload_n hx hb dX11_count_96 rfl (lv_at hl 0 rfl) ?_
    refine sg_getr X I fk_X11_45 (j := 29) (by decide) shC_0 rfl dX11_count_97 ?_
    refine sg_getiN X I fn_X11_157 (by decide) shC_29 rfl dX11_count_100 ?_
    obtain rfl := Option.some.inj h
    exact hk _ _ _ _ _ I ⟨_, rfl, rfl⟩ dX11_count_103
  have h := sg_iff h c4
  have i4 := sg_ine (z := 4) (by decide) c4
  by_cases c5 : p1 = 5
  · have h := sg_ift h c5
    refine sg_swIn (k := 5) (off := 103) (tgt := 104) hx hb dX11_count_1 c5 (by decide) (by decide) (by decide +kernel) (by decide) ?_
    refine lv_aload_n hx hb dX11_count_104 rfl (lv_at hl 0 rfl) ?_
    refine sg_getr X I fk_X11_10 (j := 1) (by decide) shC_0 rfl dX11_count_105 ?_
    refine sg_getiN X I fn_X11_114 (by decide) shC_1 rfl dX11_count_108 ?_
    obtain rfl := Option.some.inj h
    exact hk _ _ _ _ _ I ⟨_, rfl, rfl⟩ dX11_count_111
  have h := sg_iff h c5
  have i5 := sg_ine (z := 5) (by decide) c5
  by_cases c6 : p1 = 6
  · have h := sg_ift h c6
    refine sg_swIn (k := 6) (off := 111) (tgt := 112) hx hb dX11_count_1 c6 (by decide) (by decide) (by decide +kernel) (by decide) ?_
    refine lv_aload_n hx hb dX11_count_112 rfl (lv_at hl 0 rfl) ?_
    refine sg_getr X I fk_X11_38 (j := 21) (by decide) shC_0 rfl dX11_count_113 ?_
    refine sg_getiN X I fn_X11_233 (by decide) shC_21 rfl dX11_count_116 ?_
    obtain rfl := Option.some.inj h
    exact hk _ _ _ _ _ I ⟨_, rfl, rfl⟩ dX11_count_119
  have h := sg_iff h c6
  have i6 := sg_ine (z := 6) (by decide) c6
  by_cases c7 : p1 = 7
  · have h := sg_ift h c7
    refine sg_swIn (k := 7) (off := 119) (tgt := 120) hx hb dX11_count_1 c7 (by decide) (by decide) (by decide +kernel) (by decide) ?_
    refine lv_aload_n hx hb dX11_count_120 rfl (lv_at hl 0 rfl) ?_
    refine sg_getr X I fk_X11_52 (j := 37) (by decide) shC_0 rfl dX11_count_121 ?_
    refine sg_getiN X I fn_X11_249 (isSt_i0 isSt_37) (isSt_s0 isSt_37) rfl dX11_count_124 ?_
    obtain rfl := Option.some.inj h
    exact hk _ _ _ _ _ I ⟨_, rfl, rfl⟩ dX11_count_127
  have h := sg_iff h c7
  have i7 := sg_ine (z := 7) (by decide) c7
  by_cases c8 : p1 = 8
  · have h := sg_ift h c8
    refine sg_swIn (k := 8) (off := 127) (tgt := 128) hx hb dX11_count_1 c8 (by decide) (by decide) (by decide +kernel) (by decide) ?_
    refine lv_aload_n hx hb dX11_count_128 rfl (lv_at hl 0 rfl) ?_
    refine sg_geti X I fk_X11_106 (by decide) shC_0 rfl dX11_count_129 ?_
    obtain rfl := Option.some.inj h
    exact hk _ _ _ _ _ I ⟨_, rfl, rfl⟩ dX11_count_132
  have h := sg_iff h c8
  have i8 := sg_ine (z := 8) (by decide) c8
  by_cases c9 : p1 = 9
  · have h := sg_ift h c9
    refine sg_swIn (k := 9) (off := 132) (tgt := 133) hx hb dX11_count_1 c9 (by decide) (by decide) (by decide +kernel) (by decide) ?_
    refine lv_aload_n hx hb dX11_count_133 rfl (lv_at hl 0 rfl) ?_
    refine sg_getr X I fk_X11_89 (j := 320) (by decide) shC_0 rfl dX11_count_134 ?_
    refine sg_getiN X I fn_X11_168 (by decide) shC_320 rfl dX11_count_137 ?_
    obtain rfl := Option.some.inj h
    exact hk _ _ _ _ _ I ⟨_, rfl, rfl⟩ dX11_count_140
  have h := sg_iff h c9
  have i9 := sg_ine (z := 9) (by decide) c9
  by_cases c10 : p1 = 10
  · have h := sg_ift h c10
    refine sg_swIn (k := 10) (off := 140) (tgt := 141) hx hb dX11_count_1 c10 (by decide) (by decide) (by decide +kernel) (by decide) ?_
    refine lv_aload_n hx hb dX11_count_141 rfl (lv_at hl 0 rfl) ?_
    refine sg_getr X I fk_X11_52 (j := 37) (by decide) shC_0 rfl dX11_count_142 ?_
    refine sg_getiN X I fn_X11_249 (isSt_i0 isSt_37) (isSt_s0 isSt_37) rfl dX11_count_145 ?_
    refine sg_callSr (As := [.int (σ.1 37 7)]) X I mk_X11_302 (by decide) (fun q9 e9 => c_X6_logSize e9) h hl.1 rfl rfl (Nat.le_of_ble_eq_true rfl) dX11_count_148 (fun v1 H locs h I => ?_)
    obtain rfl := Option.some.inj h
    exact hk _ _ _ _ _ I ⟨_, rfl, rfl⟩ dX11_count_151
  have h := sg_iff h c10
  have i10 := sg_ine (z := 10) (by decide) c10
  by_cases c11 : p1 = 11
  · have h := sg_ift h c11
    refine sg_swIn (k := 11) (off := 151) (tgt := 152) hx hb dX11_count_1 c11 (by decide) (by decide) (by decide +kernel) (by decide) ?_
    refine lv_aload_n hx hb dX11_count_152 rfl (lv_at hl 0 rfl) ?_
    refine sg_getr X I fk_X11_71 (j := 52) (by decide) shC_0 rfl dX11_count_153 ?_
    refine sg_getiN X I fn_X11_406 (by decide) shC_52 rfl dX11_count_156 ?_
    obtain rfl := Option.some.inj h
    exact hk _ _ _ _ _ I ⟨_, rfl, rfl⟩ dX11_count_159
  have h := sg_iff h c11
  have i11 := sg_ine (z := 11) (by decide) c11
  refine lv_tableOut (tgt := 160) hx hb dX11_count_1 (by omega) (by decide) ?_
  refine lv_ldcw (v := -1000000) hx hb hown (hts _ qw_1374) dX11_count_160 ?_
  obtain rfl := Option.some.inj h
  exact hk _ _ _ _ _ I ⟨_, rfl, rfl⟩ dX11_count_163
set_option maxHeartbeats 4000000 in
set_option maxRecDepth 100000 in
theorem c_X11_count {l : Launch} {P : sgP} {N : Nat} {p1 : Int32} {σ : sgS} {q : Int32} (h : f_X11_count N p1 σ = some q) : sg_Mi P shC 332 l yX11_count cX11_count 2 (some .int) 3 [.ref (sgA P 0), .int p1] σ (q, σ) := by
  refine sg_mki (plainFor_of_name (by decide +kernel)) (Nat.le_of_ble_eq_true rfl) ?_
  intro p e R s m args below meth c Q A ls H locs X I hl hk
  exact b_X11_count X I hl h hk
def f_X12_in (N : Nat) (p0 : Int32) (p1 : Int32) (p2 : Int32) (σ : sgS) : Option (Int32) :=
  if p0 < p1 then
  (some (vp_nar .boolean 0))
else
  (if p2 < p0 then
    (some (vp_nar .boolean 0))
  else
    (some (vp_nar .boolean 1)))
set_option maxHeartbeats 4000000 in
set_option maxRecDepth 100000 in
theorem b_X12_in {p : Program} {l : Launch} {e : Env} {R : Room} {s : State} {m : MethodId} {args : Array Value} {below : List Frame} {meth : Method} {c : Code} {Q : State → Prop} {P : sgP} {A : Nat → Prop} {N : Nat} {p0 : Int32} {p1 : Int32} {p2 : Int32} {σ : sgS} (X : sg_C P A 1 p R s m args c cX12_in 3 RX12) {H : Heap} {locs : List Loc} (I : sg_I P shM 35 A s.heap σ H locs) {ls : Array Slot} (hl : lv_has ls 3 [(0, .int p0), (1, .int p1), (2, .int p2)]) {st : Int32} (h : f_X12_in N p0 p1 p2 σ = some st) (hk : sg_Ri p l e R s m args below meth c Q P shM 35 A cX12_in (some .boolean) (st, σ)) : W p l e R s m args below meth c H locs 0 0 Q (F0 m 0 ls []) := by
  unfold f_X12_in at h
  have hx := X.1.1
  have hb := X.1.2.1
  have hown := X.1.2.2.2.1
  have hts := X.1.2.2.2.2
  refine lv_iload_n hx hb dX12_in_0 rfl (lv_at hl 0 rfl) ?_
  refine lv_iload_n hx hb dX12_in_1 rfl (lv_at hl 1 rfl) ?_
  refine lv_icmp_lt (tgt := 14) hx hb dX12_in_2 (by decide) (fun z => ?_) (fun z => ?_)
  · have h := sg_ift h z
    refine lv_iconst (v := 0) hx hb dX12_in_14 (by decide) ?_
    obtain rfl := Option.some.inj h
    exact hk _ _ _ _ _ I ⟨_, rfl, rfl⟩ dX12_in_15
  · have h := sg_iff h z
    refine lv_iload_n hx hb dX12_in_5 rfl (lv_at hl 0 rfl) ?_
    refine lv_iload_n hx hb dX12_in_6 rfl (lv_at hl 2 rfl) ?_
    refine lv_icmp_gt (tgt := 14) hx hb dX12_in_7 (by decide) (fun z => ?_) (fun z => ?_)
    · have h := sg_ift h z
      refine lv_iconst (v := 0) hx hb dX12_in_14 (by decide) ?_
      obtain rfl := Option.some.inj h
      exact hk _ _ _ _ _ I ⟨_, rfl, rfl⟩ dX12_in_15
    · have h := sg_iff h z
      refine lv_iconst (v := 1) hx hb dX12_in_10 (by decide) ?_
      refine lv_goto (tgt := 15) hx hb dX12_in_11 (by decide) ?_
      obtain rfl := Option.some.inj h
      exact hk _ _ _ _ _ I ⟨_, rfl, rfl⟩ dX12_in_15
set_option maxHeartbeats 4000000 in
set_option maxRecDepth 100000 in
theorem c_X12_in {l : Launch} {P : sgP} {N : Nat} {p0 : Int32} {p1 : Int32} {p2 : Int32} {σ : sgS} {q : Int32} (h : f_X12_in N p0 p1 p2 σ = some q) : sg_Mi P shM 35 l yX12_in cX12_in 3 (some .boolean) 1 [.int p0, .int p1, .int p2] σ (q, σ) := by
  refine sg_mki (plainFor_of_name (by decide +kernel)) (Nat.le_of_ble_eq_true rfl) ?_
  intro p e R s m args below meth c Q A ls H locs X I hl hk
  exact b_X12_in X I hl h hk
def f_X12_has (N : Nat) (p0 : Int32) (p1 : Int32) (σ : sgS) : Option (Int32) :=
  if ((p0 >>> (p1 &&& 31)) &&& 1) = 1 then
  (some (vp_nar .boolean 1))
else
  (some (vp_nar .boolean 0))
set_option maxHeartbeats 4000000 in
set_option maxRecDepth 100000 in
theorem b_X12_has {p : Program} {l : Launch} {e : Env} {R : Room} {s : State} {m : MethodId} {args : Array Value} {below : List Frame} {meth : Method} {c : Code} {Q : State → Prop} {P : sgP} {A : Nat → Prop} {N : Nat} {p0 : Int32} {p1 : Int32} {σ : sgS} (X : sg_C P A 1 p R s m args c cX12_has 2 RX12) {H : Heap} {locs : List Loc} (I : sg_I P shM 35 A s.heap σ H locs) {ls : Array Slot} (hl : lv_has ls 2 [(0, .int p0), (1, .int p1)]) {st : Int32} (h : f_X12_has N p0 p1 σ = some st) (hk : sg_Ri p l e R s m args below meth c Q P shM 35 A cX12_has (some .boolean) (st, σ)) : W p l e R s m args below meth c H locs 0 0 Q (F0 m 0 ls []) := by
  unfold f_X12_has at h
  have hx := X.1.1
  have hb := X.1.2.1
  have hown := X.1.2.2.2.1
  have hts := X.1.2.2.2.2
  refine lv_iload_n hx hb dX12_has_0 rfl (lv_at hl 0 rfl) ?_
  refine lv_iload_n hx hb dX12_has_1 rfl (lv_at hl 1 rfl) ?_
  refine lv_ishr hx hb dX12_has_2 ?_
  refine lv_iconst (v := 1) hx hb dX12_has_3 (by decide) ?_
  refine lv_iand hx hb dX12_has_4 ?_
  refine lv_iconst (v := 1) hx hb dX12_has_5 (by decide) ?_
  refine lv_icmp_ne (tgt := 13) hx hb dX12_has_6 (by decide) (fun z => ?_) (fun z => ?_)
  · have h := sg_iff h z
    refine lv_iconst (v := 0) hx hb dX12_has_13 (by decide) ?_
    obtain rfl := Option.some.inj h
    exact hk _ _ _ _ _ I ⟨_, rfl, rfl⟩ dX12_has_14
  · have h := sg_ift h z
    refine lv_iconst (v := 1) hx hb dX12_has_9 (by decide) ?_
    refine lv_goto (tgt := 14) hx hb dX12_has_10 (by decide) ?_
    obtain rfl := Option.some.inj h
    exact hk _ _ _ _ _ I ⟨_, rfl, rfl⟩ dX12_has_14
set_option maxHeartbeats 4000000 in
set_option maxRecDepth 100000 in
theorem c_X12_has {l : Launch} {P : sgP} {N : Nat} {p0 : Int32} {p1 : Int32} {σ : sgS} {q : Int32} (h : f_X12_has N p0 p1 σ = some q) : sg_Mi P shM 35 l yX12_has cX12_has 2 (some .boolean) 1 [.int p0, .int p1] σ (q, σ) := by
  refine sg_mki (plainFor_of_name (by decide +kernel)) (Nat.le_of_ble_eq_true rfl) ?_
  intro p e R s m args below meth c Q A ls H locs X I hl hk
  exact b_X12_has X I hl h hk
def f_X12_thrown (N : Nat) (σ : sgS) : Option (Int32) :=
  some (σ.1 0 0)
set_option maxHeartbeats 4000000 in
set_option maxRecDepth 100000 in
theorem b_X12_thrown {p : Program} {l : Launch} {e : Env} {R : Room} {s : State} {m : MethodId} {args : Array Value} {below : List Frame} {meth : Method} {c : Code} {Q : State → Prop} {P : sgP} {A : Nat → Prop} {N : Nat} {σ : sgS} (X : sg_C P A 1 p R s m args c cX12_thrown 1 RX12) {H : Heap} {locs : List Loc} (I : sg_I P shM 35 A s.heap σ H locs) {ls : Array Slot} (hl : lv_has ls 1 [(0, .ref (sgA P 0))]) {st : Int32} (h : f_X12_thrown N σ = some st) (hk : sg_Ri p l e R s m args below meth c Q P shM 35 A cX12_thrown (some .int) (st, σ)) : W p l e R s m args below meth c H locs 0 0 Q (F0 m 0 ls []) := by
  unfold f_X12_thrown at h
  have hx := X.1.1
  have hb := X.1.2.1
  have hown := X.1.2.2.2.1
  have hts := X.1.2.2.2.2
  refine lv_aload_n hx hb dX12_thrown_0 rfl (lv_at hl 0 rfl) ?_
  refine sg_geti X I fk_X12_120 (by decide) shM_0 rfl dX12_thrown_1 ?_
  obtain rfl := Option.some.inj h
  exact hk _ _ _ _ _ I ⟨_, rfl, rfl⟩ dX12_thrown_4
set_option maxHeartbeats 4000000 in
set_option maxRecDepth 100000 in
theorem c_X12_thrown {l : Launch} {P : sgP} {N : Nat} {σ : sgS} {q : Int32} (h : f_X12_thrown N σ = some q) : sg_Mi P shM 35 l yX12_thrown cX12_thrown 1 (some .int) 1 [.ref (sgA P 0)] σ (q, σ) := by
  refine sg_mki (plainFor_of_name (by decide +kernel)) (Nat.le_of_ble_eq_true rfl) ?_
  intro p e R s m args below meth c Q A ls H locs X I hl hk
  exact b_X12_thrown X I hl h hk
def f_X12_byteOf_B45 (N : Nat) (p0 : Int32) (p1 : Int32) (p2 : Int32) (p3 : Int32) (p4 : Int32) (p5 : Int32) (k0 : Int32) (σ : sgS) : Option (Int32) :=
  sg_nz 4 (
  some ((k0 >>> ((24 - (8 * (p5 - p5 / 4 * 4))) &&& 31)) &&& 255))
set_option maxHeartbeats 4000000 in
set_option maxRecDepth 100000 in
theorem b_X12_byteOf_B45 {p : Program} {l : Launch} {e : Env} {R : Room} {s : State} {m : MethodId} {args : Array Value} {below : List Frame} {meth : Method} {c : Code} {Q : State → Prop} {P : sgP} {A : Nat → Prop} {N : Nat} {p0 : Int32} {p1 : Int32} {p2 : Int32} {p3 : Int32} {p4 : Int32} {p5 : Int32} {k0 : Int32} {σ : sgS} (X : sg_C P A 1 p R s m args c cX12_byteOf 7 RX12) {H : Heap} {locs : List Loc} (I : sg_I P shM 35 A s.heap σ H locs) {ls : Array Slot} (hl : lv_has ls 7 [(5, .int p5)]) {st : Int32} (h : f_X12_byteOf_B45 N p0 p1 p2 p3 p4 p5 k0 σ = some st) (hk : sg_Ri p l e R s m args below meth c Q P shM 35 A cX12_byteOf (some .int) (st, σ)) : W p l e R s m args below meth c H locs 0 0 Q (F0 m 45 ls [.int k0]) := by
  unfold f_X12_byteOf_B45 at h
  have hx := X.1.1
  have hb := X.1.2.1
  have hown := X.1.2.2.2.1
  have hts := X.1.2.2.2.2
  refine lv_istore (lv' := [(6, .int k0), (5, .int p5)]) hx hb dX12_byteOf_45 hl (by decide) rfl (fun ls hl => ?_)
  refine lv_iload hx hb dX12_byteOf_47 (lv_at hl 0 rfl) ?_
  refine lv_bipush (v := 24) hx hb dX12_byteOf_49 (by decide) ?_
  refine lv_bipush (v := 8) hx hb dX12_byteOf_51 (by decide) ?_
  refine lv_iload hx hb dX12_byteOf_53 (lv_at hl 1 rfl) ?_
  refine lv_iconst (v := 4) hx hb dX12_byteOf_55 (by decide) ?_
  refine sg_nzW (h := h) (fun z h => ?_)
  refine lv_irem hx hb dX12_byteOf_56 z ?_
  refine lv_imul hx hb dX12_byteOf_57 ?_
  refine lv_isub hx hb dX12_byteOf_58 ?_
  refine lv_ishr hx hb dX12_byteOf_59 ?_
  refine lv_sipush (v := 255) hx hb dX12_byteOf_60 (by decide) ?_
  refine lv_iand hx hb dX12_byteOf_63 ?_
  obtain rfl := Option.some.inj h
  exact hk _ _ _ _ _ I ⟨_, rfl, rfl⟩ dX12_byteOf_64
def f_X12_byteOf (N : Nat) (p0 : Int32) (p1 : Int32) (p2 : Int32) (p3 : Int32) (p4 : Int32) (p5 : Int32) (σ : sgS) : Option (Int32) :=
  if 4 ≤ p5 then
  (if 8 ≤ p5 then
    (if 12 ≤ p5 then
      (if 16 ≤ p5 then
        (f_X12_byteOf_B45 N p0 p1 p2 p3 p4 p5 p4 σ)
      else
        (f_X12_byteOf_B45 N p0 p1 p2 p3 p4 p5 p3 σ))
    else
      (f_X12_byteOf_B45 N p0 p1 p2 p3 p4 p5 p2 σ))
  else
    (f_X12_byteOf_B45 N p0 p1 p2 p3 p4 p5 p1 σ))
else
  (f_X12_byteOf_B45 N p0 p1 p2 p3 p4 p5 p0 σ)
set_option maxHeartbeats 4000000 in
set_option maxRecDepth 100000 in
theorem b_X12_byteOf {p : Program} {l : Launch} {e : Env} {R : Room} {s : State} {m : MethodId} {args : Array Value} {below : List Frame} {meth : Method} {c : Code} {Q : State → Prop} {P : sgP} {A : Nat → Prop} {N : Nat} {p0 : Int32} {p1 : Int32} {p2 : Int32} {p3 : Int32} {p4 : Int32} {p5 : Int32} {σ : sgS} (X : sg_C P A 1 p R s m args c cX12_byteOf 7 RX12) {H : Heap} {locs : List Loc} (I : sg_I P shM 35 A s.heap σ H locs) {ls : Array Slot} (hl : lv_has ls 7 [(0, .int p0), (1, .int p1), (2, .int p2), (3, .int p3), (4, .int p4), (5, .int p5)]) {st : Int32} (h : f_X12_byteOf N p0 p1 p2 p3 p4 p5 σ = some st) (hk : sg_Ri p l e R s m args below meth c Q P shM 35 A cX12_byteOf (some .int) (st, σ)) : W p l e R s m args below meth c H locs 0 0 Q (F0 m 0 ls []) := by
  unfold f_X12_byteOf at h
  have hx := X.1.1
  have hb := X.1.2.1
  have hown := X.1.2.2.2.1
  have hts := X.1.2.2.2.2
  refine lv_iload hx hb dX12_byteOf_0 (lv_at hl 5 rfl) ?_
  refine lv_iconst (v := 4) hx hb dX12_byteOf_2 (by decide) ?_
  refine lv_icmp_ge (tgt := 10) hx hb dX12_byteOf_3 (by decide) (fun z => ?_) (fun z => ?_)
  · have h := sg_ift h z
    refine lv_iload hx hb dX12_byteOf_10 (lv_at hl 5 rfl) ?_
    refine lv_bipush (v := 8) hx hb dX12_byteOf_12 (by decide) ?_
    refine lv_icmp_ge (tgt := 21) hx hb dX12_byteOf_14 (by decide) (fun z => ?_) (fun z => ?_)
    · have h := sg_ift h z
      refine lv_iload hx hb dX12_byteOf_21 (lv_at hl 5 rfl) ?_
      refine lv_bipush (v := 12) hx hb dX12_byteOf_23 (by decide) ?_
      refine lv_icmp_ge (tgt := 32) hx hb dX12_byteOf_25 (by decide) (fun z => ?_) (fun z => ?_)
      · have h := sg_ift h z
        refine lv_iload hx hb dX12_byteOf_32 (lv_at hl 5 rfl) ?_
        refine lv_bipush (v := 16) hx hb dX12_byteOf_34 (by decide) ?_
        refine lv_icmp_ge (tgt := 43) hx hb dX12_byteOf_36 (by decide) (fun z => ?_) (fun z => ?_)
        · have h := sg_ift h z
          refine lv_iload hx hb dX12_byteOf_43 (lv_at hl 4 rfl) ?_
          exact b_X12_byteOf_B45 X I (lv_sub hl [5] rfl) h hk
        · have h := sg_iff h z
          refine lv_iload_n hx hb dX12_byteOf_39 rfl (lv_at hl 3 rfl) ?_
          refine lv_goto (tgt := 45) hx hb dX12_byteOf_40 (by decide) ?_
          exact b_X12_byteOf_B45 X I (lv_sub hl [5] rfl) h hk
      · have h := sg_iff h z
        refine lv_iload_n hx hb dX12_byteOf_28 rfl (lv_at hl 2 rfl) ?_
        refine lv_goto (tgt := 45) hx hb dX12_byteOf_29 (by decide) ?_
        exact b_X12_byteOf_B45 X I (lv_sub hl [5] rfl) h hk
    · have h := sg_iff h z
      refine lv_iload_n hx hb dX12_byteOf_17 rfl (lv_at hl 1 rfl) ?_
      refine lv_goto (tgt := 45) hx hb dX12_byteOf_18 (by decide) ?_
      exact b_X12_byteOf_B45 X I (lv_sub hl [5] rfl) h hk
  · have h := sg_iff h z
    refine lv_iload_n hx hb dX12_byteOf_6 rfl (lv_at hl 0 rfl) ?_
    refine lv_goto (tgt := 45) hx hb dX12_byteOf_7 (by decide) ?_
    exact b_X12_byteOf_B45 X I (lv_sub hl [5] rfl) h hk
set_option maxHeartbeats 4000000 in
set_option maxRecDepth 100000 in
theorem c_X12_byteOf {l : Launch} {P : sgP} {N : Nat} {p0 : Int32} {p1 : Int32} {p2 : Int32} {p3 : Int32} {p4 : Int32} {p5 : Int32} {σ : sgS} {q : Int32} (h : f_X12_byteOf N p0 p1 p2 p3 p4 p5 σ = some q) : sg_Mi P shM 35 l yX12_byteOf cX12_byteOf 7 (some .int) 1 [.int p0, .int p1, .int p2, .int p3, .int p4, .int p5] σ (q, σ) := by
  refine sg_mki (plainFor_of_name (by decide +kernel)) (Nat.le_of_ble_eq_true rfl) ?_
  intro p e R s m args below meth c Q A ls H locs X I hl hk
  exact b_X12_byteOf X I hl h hk
def f_X12_feed_L6 (N : Nat) (p1 : Int32) (p2 : Int32) (p3 : Int32) (p4 : Int32) (p5 : Int32) (x6 : Int32) (x7 : Int32) (σ : sgS) : Option ((Int32 × sgS) ⊕ ((Int32 × Int32) ⊕ (Int32))) :=
  if 20 ≤ x7 then
  (some (.inr (.inr x6)))
else
  (sg_cr (f_X12_byteOf N p1 p2 p3 p4 p5 x7 σ) fun v1 =>
  if v1 = 0 then
    (some (.inr (.inl (x6 + 0, x7 + 1))))
  else
    (some (.inr (.inl (x6 + 1, x7 + 1)))))
set_option maxHeartbeats 4000000 in
set_option maxRecDepth 100000 in
theorem b_X12_feed_L6 {p : Program} {l : Launch} {e : Env} {R : Room} {s : State} {m : MethodId} {args : Array Value} {below : List Frame} {meth : Method} {c : Code} {Q : State → Prop} {P : sgP} {A : Nat → Prop} {N : Nat} {p1 : Int32} {p2 : Int32} {p3 : Int32} {p4 : Int32} {p5 : Int32} {x6 : Int32} {x7 : Int32} {σ : sgS} (X : sg_C P A 2 p R s m args c cX12_feed 9 RX12) {H : Heap} {locs : List Loc} (I : sg_I P shM 35 A s.heap σ H locs) {ls : Array Slot} (hl : lv_has ls 9 [(0, .ref (sgA P 0)), (1, .int p1), (2, .int p2), (3, .int p3), (4, .int p4), (5, .int p5), (6, .int x6), (7, .int x7)]) {st : (Int32 × sgS) ⊕ ((Int32 × Int32) ⊕ (Int32))} (h : f_X12_feed_L6 N p1 p2 p3 p4 p5 x6 x7 σ = some st) (hk : sg_k3 (sg_Ri p l e R s m args below meth c Q P shM 35 A cX12_feed (some .int)) (fun x => sg_Wt p l e R s m args below meth c Q P shM 35 A 9 6 σ [(0, .ref (sgA P 0)), (1, .int p1), (2, .int p2), (3, .int p3), (4, .int p4), (5, .int p5), (6, .int x.1), (7, .int x.2)]) (fun y => sg_Wt p l e R s m args below meth c Q P shM 35 A 9 44 σ [(0, .ref (sgA P 0)), (1, .int p1), (2, .int p2), (3, .int p3), (4, .int p4), (5, .int p5), (6, .int y)]) st) : W p l e R s m args below meth c H locs 0 0 Q (F0 m 6 ls []) := by
  unfold f_X12_feed_L6 at h
  have hx := X.1.1
  have hb := X.1.2.1
  have hown := X.1.2.2.2.1
  have hts := X.1.2.2.2.2
  refine lv_iload hx hb dX12_feed_6 (lv_at hl 7 rfl) ?_
  refine lv_bipush (v := 20) hx hb dX12_feed_8 (by decide) ?_
  refine lv_icmp_ge (tgt := 44) hx hb dX12_feed_10 (by decide) (fun z => ?_) (fun z => ?_)
  · have h := sg_ift h z
    obtain rfl := Option.some.inj h
    exact sg_go hk I (lv_sub hl [0, 1, 2, 3, 4, 5, 6] rfl)
  · have h := sg_iff h z
    refine lv_iload hx hb dX12_feed_13 (lv_at hl 6 rfl) ?_
    refine lv_iload_n hx hb dX12_feed_15 rfl (lv_at hl 1 rfl) ?_
    refine lv_iload_n hx hb dX12_feed_16 rfl (lv_at hl 2 rfl) ?_
    refine lv_iload_n hx hb dX12_feed_17 rfl (lv_at hl 3 rfl) ?_
    refine lv_iload hx hb dX12_feed_18 (lv_at hl 4 rfl) ?_
    refine lv_iload hx hb dX12_feed_20 (lv_at hl 5 rfl) ?_
    refine lv_iload hx hb dX12_feed_22 (lv_at hl 7 rfl) ?_
    refine sg_callSr (As := [.int p1, .int p2, .int p3, .int p4, .int p5, .int x7]) X I mk_X12_123 (by decide) (fun q9 e9 => c_X12_byteOf e9) h hl.1 rfl rfl (Nat.le_of_ble_eq_true rfl) dX12_feed_24 (fun v1 H locs h I => ?_)
    refine lv_if_eq (tgt := 34) hx hb dX12_feed_27 (by decide) (fun z => ?_) (fun z => ?_)
    · have h := sg_ift h z
      refine lv_iconst (v := 0) hx hb dX12_feed_34 (by decide) ?_
      refine lv_iadd hx hb dX12_feed_35 ?_
      refine lv_istore (lv' := [(6, .int (x6 + 0)), (0, .ref (sgA P 0)), (1, .int p1), (2, .int p2), (3, .int p3), (4, .int p4), (5, .int p5), (7, .int x7)]) hx hb dX12_feed_36 hl (by decide) rfl (fun ls hl => ?_)
      refine lv_iinc (v := x7 + 1) (lv' := [(7, .int (x7 + 1)), (6, .int (x6 + 0)), (0, .ref (sgA P 0)), (1, .int p1), (2, .int p2), (3, .int p3), (4, .int p4), (5, .int p5)]) hx hb dX12_feed_38 hl (k := 7) rfl rfl (by decide) rfl (fun ls hl => ?_)
      refine lv_goto (tgt := 6) hx hb dX12_feed_41 (by decide) ?_
      obtain rfl := Option.some.inj h
      exact sg_go hk I (lv_sub hl [2, 3, 4, 5, 6, 7, 1, 0] rfl)
    · have h := sg_iff h z
      refine lv_iconst (v := 1) hx hb dX12_feed_30 (by decide) ?_
      refine lv_goto (tgt := 35) hx hb dX12_feed_31 (by decide) ?_
      refine lv_iadd hx hb dX12_feed_35 ?_
      refine lv_istore (lv' := [(6, .int (x6 + 1)), (0, .ref (sgA P 0)), (1, .int p1), (2, .int p2), (3, .int p3), (4, .int p4), (5, .int p5), (7, .int x7)]) hx hb dX12_feed_36 hl (by decide) rfl (fun ls hl => ?_)
      refine lv_iinc (v := x7 + 1) (lv' := [(7, .int (x7 + 1)), (6, .int (x6 + 1)), (0, .ref (sgA P 0)), (1, .int p1), (2, .int p2), (3, .int p3), (4, .int p4), (5, .int p5)]) hx hb dX12_feed_38 hl (k := 7) rfl rfl (by decide) rfl (fun ls hl => ?_)
      refine lv_goto (tgt := 6) hx hb dX12_feed_41 (by decide) ?_
      obtain rfl := Option.some.inj h
      exact sg_go hk I (lv_sub hl [2, 3, 4, 5, 6, 7, 1, 0] rfl)
def f_X12_feed_L62 (N : Nat) (p1 : Int32) (p2 : Int32) (p3 : Int32) (p4 : Int32) (p5 : Int32) (x7 : Int32) (σ : sgS) : Option ((Int32 × sgS) ⊕ ((sgS × Int32) ⊕ (sgS))) :=
  if 20 ≤ x7 then
  (some (.inr (.inr σ)))
else
  (sg_cr (f_X12_byteOf N p1 p2 p3 p4 p5 x7 σ) fun v3 =>
  if v3 = 0 then
    (some (.inr (.inl (σ, x7 + 1))))
  else
    (sg_st σ 1 240 (σ.1 0 2) v3 fun s4 =>
    sg_pf s4 0 2 ((s4.1 0 2) + 1) fun s5 =>
    some (.inr (.inl (s5, x7 + 1)))))
set_option maxHeartbeats 4000000 in
set_option maxRecDepth 100000 in
theorem b_X12_feed_L62 {p : Program} {l : Launch} {e : Env} {R : Room} {s : State} {m : MethodId} {args : Array Value} {below : List Frame} {meth : Method} {c : Code} {Q : State → Prop} {P : sgP} {A : Nat → Prop} {N : Nat} {p1 : Int32} {p2 : Int32} {p3 : Int32} {p4 : Int32} {p5 : Int32} {x7 : Int32} {σ : sgS} (X : sg_C P A 2 p R s m args c cX12_feed 9 RX12) {H : Heap} {locs : List Loc} (I : sg_I P shM 35 A s.heap σ H locs) {ls : Array Slot} (hl : lv_has ls 9 [(0, .ref (sgA P 0)), (1, .int p1), (2, .int p2), (3, .int p3), (4, .int p4), (5, .int p5), (7, .int x7)]) {st : (Int32 × sgS) ⊕ ((sgS × Int32) ⊕ (sgS))} (h : f_X12_feed_L62 N p1 p2 p3 p4 p5 x7 σ = some st) (hk : sg_k3 (sg_Ri p l e R s m args below meth c Q P shM 35 A cX12_feed (some .int)) (fun x => sg_Wt p l e R s m args below meth c Q P shM 35 A 9 62 x.1 [(0, .ref (sgA P 0)), (1, .int p1), (2, .int p2), (3, .int p3), (4, .int p4), (5, .int p5), (7, .int x.2)]) (fun y => sg_Wt p l e R s m args below meth c Q P shM 35 A 9 115 y [(0, .ref (sgA P 0))]) st) : W p l e R s m args below meth c H locs 0 0 Q (F0 m 62 ls []) := by
  unfold f_X12_feed_L62 at h
  have hx := X.1.1
  have hb := X.1.2.1
  have hown := X.1.2.2.2.1
  have hts := X.1.2.2.2.2
  refine lv_iload hx hb dX12_feed_62 (lv_at hl 6 rfl) ?_
  refine lv_bipush (v := 20) hx hb dX12_feed_64 (by decide) ?_
  refine lv_icmp_ge (tgt := 115) hx hb dX12_feed_66 (by decide) (fun z => ?_) (fun z => ?_)
  · have h := sg_ift h z
    obtain rfl := Option.some.inj h
    exact sg_go hk I (lv_sub hl [0] rfl)
  · have h := sg_iff h z
    refine lv_iload_n hx hb dX12_feed_69 rfl (lv_at hl 1 rfl) ?_
    refine lv_iload_n hx hb dX12_feed_70 rfl (lv_at hl 2 rfl) ?_
    refine lv_iload_n hx hb dX12_feed_71 rfl (lv_at hl 3 rfl) ?_
    refine lv_iload hx hb dX12_feed_72 (lv_at hl 4 rfl) ?_
    refine lv_iload hx hb dX12_feed_74 (lv_at hl 5 rfl) ?_
    refine lv_iload hx hb dX12_feed_76 (lv_at hl 6 rfl) ?_
    refine sg_callSr (As := [.int p1, .int p2, .int p3, .int p4, .int p5, .int x7]) X I mk_X12_123 (by decide) (fun q9 e9 => c_X12_byteOf e9) h hl.1 rfl rfl (Nat.le_of_ble_eq_true rfl) dX12_feed_78 (fun v3 H locs h I => ?_)
    refine lv_istore (lv' := [(8, .int v3), (0, .ref (sgA P 0)), (1, .int p1), (2, .int p2), (3, .int p3), (4, .int p4), (5, .int p5), (7, .int x7)]) hx hb dX12_feed_81 hl (by decide) rfl (fun ls hl => ?_)
    refine lv_iload hx hb dX12_feed_83 (lv_at hl 0 rfl) ?_
    refine lv_if_eq (tgt := 109) hx hb dX12_feed_85 (by decide) (fun z => ?_) (fun z => ?_)
    · have h := sg_ift h z
      refine lv_iinc (v := x7 + 1) (lv' := [(7, .int (x7 + 1)), (8, .int v3), (0, .ref (sgA P 0)), (1, .int p1), (2, .int p2), (3, .int p3), (4, .int p4), (5, .int p5)]) hx hb dX12_feed_109 hl (k := 7) rfl rfl (by decide) rfl (fun ls hl => ?_)
      refine lv_goto (tgt := 62) hx hb dX12_feed_112 (by decide) ?_
      obtain rfl := Option.some.inj h
      exact sg_go hk I (lv_sub hl [2, 3, 4, 5, 6, 7, 0] rfl)
    · have h := sg_iff h z
      refine lv_aload_n hx hb dX12_feed_88 rfl (lv_at hl 1 rfl) ?_
      refine sg_getr X I fk_X12_9 (j := 1) (by decide) shM_0 rfl dX12_feed_89 ?_
      refine lv_aload_n hx hb dX12_feed_92 rfl (lv_at hl 1 rfl) ?_
      refine sg_geti X I fk_X12_127 (by decide) shM_0 rfl dX12_feed_93 ?_
      refine lv_iload hx hb dX12_feed_96 (lv_at hl 0 rfl) ?_
      refine sg_iast X I (by decide) shM_1 h dX12_feed_98 (fun s4 H locs h I => ?_)
      refine lv_aload_n hx hb dX12_feed_99 rfl (lv_at hl 1 rfl) ?_
      refine lv_dup hx hb dX12_feed_100 rfl ?_
      refine sg_geti X I fk_X12_127 (by decide) shM_0 rfl dX12_feed_101 ?_
      refine lv_iconst (v := 1) hx hb dX12_feed_104 (by decide) ?_
      refine lv_iadd hx hb dX12_feed_105 ?_
      refine sg_puti X I fk_X12_127 wk_12_2 rfl rfl (by decide) shM_0 rfl h dX12_feed_106 (fun s5 H locs h I => ?_)
      refine lv_iinc (v := x7 + 1) (lv' := [(7, .int (x7 + 1)), (8, .int v3), (0, .ref (sgA P 0)), (1, .int p1), (2, .int p2), (3, .int p3), (4, .int p4), (5, .int p5)]) hx hb dX12_feed_109 hl (k := 7) rfl rfl (by decide) rfl (fun ls hl => ?_)
      refine lv_goto (tgt := 62) hx hb dX12_feed_112 (by decide) ?_
      obtain rfl := Option.some.inj h
      exact sg_go hk I (lv_sub hl [2, 3, 4, 5, 6, 7, 0] rfl)
def f_X12_feed (N : Nat) (p1 : Int32) (p2 : Int32) (p3 : Int32) (p4 : Int32) (p5 : Int32) (σ : sgS) : Option (Int32 × sgS) :=
  sg_lb (sg_lp (fun x => f_X12_feed_L6 N p1 p2 p3 p4 p5 x.1 x.2 σ) N ((0, 0))) (fun r => some r) fun y2 =>
if ((σ.1 0 2) + y2) ≤ 240 then
  (sg_lb (sg_lp (fun x => f_X12_feed_L62 N p1 p2 p3 p4 p5 x.2 x.1) N ((σ, 0))) (fun r => some r) fun y6 =>
  some (y6.1 0 2, y6))
else
  (some ((-1), σ))
set_option maxHeartbeats 4000000 in
set_option maxRecDepth 100000 in
theorem b_X12_feed {p : Program} {l : Launch} {e : Env} {R : Room} {s : State} {m : MethodId} {args : Array Value} {below : List Frame} {meth : Method} {c : Code} {Q : State → Prop} {P : sgP} {A : Nat → Prop} {N : Nat} {p1 : Int32} {p2 : Int32} {p3 : Int32} {p4 : Int32} {p5 : Int32} {σ : sgS} (X : sg_C P A 2 p R s m args c cX12_feed 9 RX12) {H : Heap} {locs : List Loc} (I : sg_I P shM 35 A s.heap σ H locs) {ls : Array Slot} (hl : lv_has ls 9 [(0, .ref (sgA P 0)), (1, .int p1), (2, .int p2), (3, .int p3), (4, .int p4), (5, .int p5)]) {st : Int32 × sgS} (h : f_X12_feed N p1 p2 p3 p4 p5 σ = some st) (hk : sg_Ri p l e R s m args below meth c Q P shM 35 A cX12_feed (some .int) st) : W p l e R s m args below meth c H locs 0 0 Q (F0 m 0 ls []) := by
  unfold f_X12_feed at h
  have hx := X.1.1
  have hb := X.1.2.1
  have hown := X.1.2.2.2.1
  have hts := X.1.2.2.2.2
  refine lv_iconst (v := 0) hx hb dX12_feed_0 (by decide) ?_
  refine lv_istore (lv' := [(6, .int 0), (0, .ref (sgA P 0)), (1, .int p1), (2, .int p2), (3, .int p3), (4, .int p4), (5, .int p5)]) hx hb dX12_feed_1 hl (by decide) rfl (fun ls hl => ?_)
  refine lv_iconst (v := 0) hx hb dX12_feed_3 (by decide) ?_
  refine lv_istore (lv' := [(7, .int 0), (6, .int 0), (0, .ref (sgA P 0)), (1, .int p1), (2, .int p2), (3, .int p3), (4, .int p4), (5, .int p5)]) hx hb dX12_feed_4 hl (by decide) rfl (fun ls hl => ?_)
  obtain ⟨res, e9, k9⟩ := sg_lb_some h
  refine sg_go (sg_lp_W (a := (sg_Ri p l e R s m args below meth c Q P shM 35 A cX12_feed (some .int))) (w := (fun x => sg_Wt p l e R s m args below meth c Q P shM 35 A 9 6 σ [(0, .ref (sgA P 0)), (1, .int p1), (2, .int p2), (3, .int p3), (4, .int p4), (5, .int p5), (6, .int x.1), (7, .int x.2)])) (c := (fun y => sg_Wt p l e R s m args below meth c Q P shM 35 A 9 44 σ [(0, .ref (sgA P 0)), (1, .int p1), (2, .int p2), (3, .int p3), (4, .int p4), (5, .int p5), (6, .int y)])) (fun x st hb9 hk9 => ?_) N ((0, 0)) res e9 (sg_k2_mono k9 (fun r h => ?_) (fun y2 h => ?_))) I (lv_sub hl [2, 3, 4, 5, 6, 7, 1, 0] rfl)
  · intro H locs ls I hl
    exact b_X12_feed_L6 X I hl hb9 hk9
  · obtain rfl := Option.some.inj h
    exact hk
  · intro H locs ls I hl
    refine lv_aload_n hx hb dX12_feed_44 rfl (lv_at hl 0 rfl) ?_
    refine sg_geti X I fk_X12_127 (by decide) shM_0 rfl dX12_feed_45 ?_
    refine lv_iload hx hb dX12_feed_48 (lv_at hl 6 rfl) ?_
    refine lv_iadd hx hb dX12_feed_50 ?_
    refine lv_sipush (v := 240) hx hb dX12_feed_51 (by decide) ?_
    refine lv_icmp_le (tgt := 59) hx hb dX12_feed_54 (by decide) (fun z => ?_) (fun z => ?_)
    · have h := sg_ift h z
      refine lv_iconst (v := 0) hx hb dX12_feed_59 (by decide) ?_
      refine lv_istore (lv' := [(7, .int 0), (0, .ref (sgA P 0)), (1, .int p1), (2, .int p2), (3, .int p3), (4, .int p4), (5, .int p5), (6, .int y2)]) hx hb dX12_feed_60 hl (by decide) rfl (fun ls hl => ?_)
      obtain ⟨res, e9, k9⟩ := sg_lb_some h
      refine sg_go (sg_lp_W (a := (sg_Ri p l e R s m args below meth c Q P shM 35 A cX12_feed (some .int))) (w := (fun x => sg_Wt p l e R s m args below meth c Q P shM 35 A 9 62 x.1 [(0, .ref (sgA P 0)), (1, .int p1), (2, .int p2), (3, .int p3), (4, .int p4), (5, .int p5), (7, .int x.2)])) (c := (fun y => sg_Wt p l e R s m args below meth c Q P shM 35 A 9 115 y [(0, .ref (sgA P 0))])) (fun x st hb9 hk9 => ?_) N ((σ, 0)) res e9 (sg_k2_mono k9 (fun r h => ?_) (fun y6 h => ?_))) I (lv_sub hl [1, 2, 3, 4, 5, 6, 0] rfl)
      · intro H locs ls I hl
        exact b_X12_feed_L62 X I hl hb9 hk9
      · obtain rfl := Option.some.inj h
        exact hk
      · intro H locs ls I hl
        refine lv_aload_n hx hb dX12_feed_115 rfl (lv_at hl 0 rfl) ?_
        refine sg_geti X I fk_X12_127 (by decide) shM_0 rfl dX12_feed_116 ?_
        obtain rfl := Option.some.inj h
        exact hk _ _ _ _ _ I ⟨_, rfl, rfl⟩ dX12_feed_119
    · have h := sg_iff h z
      refine lv_iconst (v := -1) hx hb dX12_feed_57 (by decide) ?_
      obtain rfl := Option.some.inj h
      exact hk _ _ _ _ _ I ⟨_, rfl, rfl⟩ dX12_feed_58
set_option maxHeartbeats 4000000 in
set_option maxRecDepth 100000 in
theorem c_X12_feed {l : Launch} {P : sgP} {N : Nat} {p1 : Int32} {p2 : Int32} {p3 : Int32} {p4 : Int32} {p5 : Int32} {σ : sgS} {q : Int32 × sgS} (h : f_X12_feed N p1 p2 p3 p4 p5 σ = some q) : sg_Mi P shM 35 l yX12_feed cX12_feed 9 (some .int) 2 [.ref (sgA P 0), .int p1, .int p2, .int p3, .int p4, .int p5] σ q := by
  refine sg_mki (plainFor_of_name (by decide +kernel)) (Nat.le_of_ble_eq_true rfl) ?_
  intro p e R s m args below meth c Q A ls H locs X I hl hk
  exact b_X12_feed X I hl h hk
def f_X12_end (N : Nat) (p1 : Int32) (σ : sgS) : Option (Int32 × sgS) :=
  if p1 < 0 then
  (some (vp_nar .boolean 0, σ))
else
  (if p1 ≤ (σ.1 0 2) then
    (sg_pf σ 0 2 p1 fun s1 =>
    some (vp_nar .boolean 1, s1))
  else
    (some (vp_nar .boolean 0, σ)))
set_option maxHeartbeats 4000000 in
set_option maxRecDepth 100000 in
theorem b_X12_end {p : Program} {l : Launch} {e : Env} {R : Room} {s : State} {m : MethodId} {args : Array Value} {below : List Frame} {meth : Method} {c : Code} {Q : State → Prop} {P : sgP} {A : Nat → Prop} {N : Nat} {p1 : Int32} {σ : sgS} (X : sg_C P A 1 p R s m args c cX12_end 2 RX12) {H : Heap} {locs : List Loc} (I : sg_I P shM 35 A s.heap σ H locs) {ls : Array Slot} (hl : lv_has ls 2 [(0, .ref (sgA P 0)), (1, .int p1)]) {st : Int32 × sgS} (h : f_X12_end N p1 σ = some st) (hk : sg_Ri p l e R s m args below meth c Q P shM 35 A cX12_end (some .boolean) st) : W p l e R s m args below meth c H locs 0 0 Q (F0 m 0 ls []) := by
  unfold f_X12_end at h
  have hx := X.1.1
  have hb := X.1.2.1
  have hown := X.1.2.2.2.1
  have hts := X.1.2.2.2.2
  refine lv_iload_n hx hb dX12_end_0 rfl (lv_at hl 1 rfl) ?_
  refine lv_if_lt (tgt := 12) hx hb dX12_end_1 (by decide) (fun z => ?_) (fun z => ?_)
  · have h := sg_ift h z
    refine lv_iconst (v := 0) hx hb dX12_end_12 (by decide) ?_
    obtain rfl := Option.some.inj h
    exact hk _ _ _ _ _ I ⟨_, rfl, rfl⟩ dX12_end_13
  · have h := sg_iff h z
    refine lv_iload_n hx hb dX12_end_4 rfl (lv_at hl 1 rfl) ?_
    refine lv_aload_n hx hb dX12_end_5 rfl (lv_at hl 0 rfl) ?_
    refine sg_geti X I fk_X12_127 (by decide) shM_0 rfl dX12_end_6 ?_
    refine lv_icmp_le (tgt := 14) hx hb dX12_end_9 (by decide) (fun z => ?_) (fun z => ?_)
    · have h := sg_ift h z
      refine lv_aload_n hx hb dX12_end_14 rfl (lv_at hl 0 rfl) ?_
      refine lv_iload_n hx hb dX12_end_15 rfl (lv_at hl 1 rfl) ?_
      refine sg_puti X I fk_X12_127 wk_12_2 rfl rfl (by decide) shM_0 rfl h dX12_end_16 (fun s1 H locs h I => ?_)
      refine lv_iconst (v := 1) hx hb dX12_end_19 (by decide) ?_
      obtain rfl := Option.some.inj h
      exact hk _ _ _ _ _ I ⟨_, rfl, rfl⟩ dX12_end_20
    · have h := sg_iff h z
      refine lv_iconst (v := 0) hx hb dX12_end_12 (by decide) ?_
      obtain rfl := Option.some.inj h
      exact hk _ _ _ _ _ I ⟨_, rfl, rfl⟩ dX12_end_13
set_option maxHeartbeats 4000000 in
set_option maxRecDepth 100000 in
theorem c_X12_end {l : Launch} {P : sgP} {N : Nat} {p1 : Int32} {σ : sgS} {q : Int32 × sgS} (h : f_X12_end N p1 σ = some q) : sg_Mi P shM 35 l yX12_end cX12_end 2 (some .boolean) 1 [.ref (sgA P 0), .int p1] σ q := by
  refine sg_mki (plainFor_of_name (by decide +kernel)) (Nat.le_of_ble_eq_true rfl) ?_
  intro p e R s m args below meth c Q A ls H locs X I hl hk
  exact b_X12_end X I hl h hk
