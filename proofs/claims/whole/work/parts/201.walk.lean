def f_X0_isWhole_L28 (N : Nat) (o : Nat) (x1 : Int32) (σ : sgS) : Option ((Int32) ⊕ ((Int32) ⊕ (Unit))) :=
  if (σ.1 o 4) ≤ x1 then
  (some (.inr (.inr ())))
else
  (sg_ld σ (o + 2) 12 x1 fun v1 =>
  sg_ld σ (o + 3) 12 x1 fun v2 =>
  sg_cr (f_X0_hasPlaces N o v1 v2 σ) fun v3 =>
  if v3 = 0 then
    (some (.inl (vp_nar .boolean 0)))
  else
    (sg_ld σ (o + 2) 12 x1 fun v4 =>
    sg_ld σ (o + 3) 12 x1 fun v5 =>
    if v4 = v5 then
      (some (.inl (vp_nar .boolean 0)))
    else
      (some (.inr (.inl (x1 + 1))))))
set_option maxHeartbeats 4000000 in
set_option maxRecDepth 100000 in
theorem b_X0_isWhole_L28 {p : Program} {l : Launch} {e : Env} {R : Room} {s : State} {m : MethodId} {args : Array Value} {below : List Frame} {meth : Method} {c : Code} {Q : State → Prop} {P : sgP} {A : Nat → Prop} {N : Nat} {o : Nat} {x1 : Int32} {σ : sgS} (X : sg_C P A 3 p R s m args c cX0_isWhole 2 RX0) (ho : isCo o) {H : Heap} {locs : List Loc} (I : sg_I P shC 332 A s.heap σ H locs) {ls : Array Slot} (hl : lv_has ls 2 [(0, .ref (sgA P o)), (1, .int x1)]) {st : (Int32) ⊕ ((Int32) ⊕ (Unit))} (h : f_X0_isWhole_L28 N o x1 σ = some st) (hk : sg_k3 (fun r => sg_Ri p l e R s m args below meth c Q P shC 332 A cX0_isWhole (some .boolean) (r, σ)) (fun x => sg_Wt p l e R s m args below meth c Q P shC 332 A 2 28 σ [(0, .ref (sgA P o)), (1, .int x)]) (fun y => sg_Wt p l e R s m args below meth c Q P shC 332 A 2 78 σ [(0, .ref (sgA P o))]) st) : W p l e R s m args below meth c H locs 0 0 Q (F0 m 28 ls []) := by
  unfold f_X0_isWhole_L28 at h
  have hx := X.1.1
  have hb := X.1.2.1
  have hown := X.1.2.2.2.1
  have hts := X.1.2.2.2.2
  refine lv_iload_n hx hb dX0_isWhole_28 rfl (lv_at hl 1 rfl) ?_
  refine lv_aload_n hx hb dX0_isWhole_29 rfl (lv_at hl 0 rfl) ?_
  refine sg_geti X I fk_X0_48 (isCo_i0 ho) (isCo_s0 ho) rfl dX0_isWhole_30 ?_
  refine lv_icmp_ge (tgt := 78) hx hb dX0_isWhole_33 (by decide) (fun z => ?_) (fun z => ?_)
  · have h := sg_ift h z
    obtain rfl := Option.some.inj h
    exact sg_go hk I (lv_sub hl [0] rfl)
  · have h := sg_iff h z
    refine lv_aload_n hx hb dX0_isWhole_36 rfl (lv_at hl 0 rfl) ?_
    refine lv_aload_n hx hb dX0_isWhole_37 rfl (lv_at hl 0 rfl) ?_
    refine sg_getr X I fk_X0_15 (j := o + 2) (isCo_i0 ho) (isCo_s0 ho) rfl dX0_isWhole_38 ?_
    refine lv_iload_n hx hb dX0_isWhole_41 rfl (lv_at hl 1 rfl) ?_
    refine sg_iald X I (isCo_i2 ho) (isCo_s2 ho) h dX0_isWhole_42 (fun v1 h => ?_)
    refine lv_aload_n hx hb dX0_isWhole_43 rfl (lv_at hl 0 rfl) ?_
    refine sg_getr X I fk_X0_18 (j := o + 3) (isCo_i0 ho) (isCo_s0 ho) rfl dX0_isWhole_44 ?_
    refine lv_iload_n hx hb dX0_isWhole_47 rfl (lv_at hl 1 rfl) ?_
    refine sg_iald X I (isCo_i3 ho) (isCo_s3 ho) h dX0_isWhole_48 (fun v2 h => ?_)
    refine sg_callVr (As := [.int v1, .int v2]) X I mk_X0_141 (by decide) (isCo_i0 ho) (isCo_s0 ho) rfl (fun q9 e9 => c_X0_hasPlaces ho e9) h hl.1 rfl rfl (Nat.le_of_ble_eq_true rfl) dX0_isWhole_49 (fun v3 H locs h I => ?_)
    refine lv_if_eq (tgt := 70) hx hb dX0_isWhole_52 (by decide) (fun z => ?_) (fun z => ?_)
    · have h := sg_ift h z
      refine lv_iconst (v := 0) hx hb dX0_isWhole_70 (by decide) ?_
      obtain rfl := Option.some.inj h
      exact hk _ _ _ _ _ I ⟨_, rfl, rfl⟩ dX0_isWhole_71
    · have h := sg_iff h z
      refine lv_aload_n hx hb dX0_isWhole_55 rfl (lv_at hl 0 rfl) ?_
      refine sg_getr X I fk_X0_15 (j := o + 2) (isCo_i0 ho) (isCo_s0 ho) rfl dX0_isWhole_56 ?_
      refine lv_iload_n hx hb dX0_isWhole_59 rfl (lv_at hl 1 rfl) ?_
      refine sg_iald X I (isCo_i2 ho) (isCo_s2 ho) h dX0_isWhole_60 (fun v4 h => ?_)
      refine lv_aload_n hx hb dX0_isWhole_61 rfl (lv_at hl 0 rfl) ?_
      refine sg_getr X I fk_X0_18 (j := o + 3) (isCo_i0 ho) (isCo_s0 ho) rfl dX0_isWhole_62 ?_
      refine lv_iload_n hx hb dX0_isWhole_65 rfl (lv_at hl 1 rfl) ?_
      refine sg_iald X I (isCo_i3 ho) (isCo_s3 ho) h dX0_isWhole_66 (fun v5 h => ?_)
      refine lv_icmp_ne (tgt := 72) hx hb dX0_isWhole_67 (by decide) (fun z => ?_) (fun z => ?_)
      · have h := sg_iff h z
        refine lv_iinc (v := x1 + 1) (lv' := [(1, .int (x1 + 1)), (0, .ref (sgA P o))]) hx hb dX0_isWhole_72 hl (k := 1) rfl rfl (by decide) rfl (fun ls hl => ?_)
        refine lv_goto (tgt := 28) hx hb dX0_isWhole_75 (by decide) ?_
        obtain rfl := Option.some.inj h
        exact sg_go hk I (lv_sub hl [1, 0] rfl)
      · have h := sg_ift h z
        refine lv_iconst (v := 0) hx hb dX0_isWhole_70 (by decide) ?_
        obtain rfl := Option.some.inj h
        exact hk _ _ _ _ _ I ⟨_, rfl, rfl⟩ dX0_isWhole_71
def f_X0_isWhole_L80 (N : Nat) (o : Nat) (x1 : Int32) (σ : sgS) : Option ((Int32) ⊕ ((Int32) ⊕ (Unit))) :=
  if (σ.1 o 5) ≤ x1 then
  (some (.inr (.inr ())))
else
  (sg_ld σ (o + 6) 4 x1 fun v7 =>
  sg_cr (f_X0_hasPlace N o v7 σ) fun v8 =>
  if v8 = 0 then
    (some (.inl (vp_nar .boolean 0)))
  else
    (some (.inr (.inl (x1 + 1)))))
set_option maxHeartbeats 4000000 in
set_option maxRecDepth 100000 in
theorem b_X0_isWhole_L80 {p : Program} {l : Launch} {e : Env} {R : Room} {s : State} {m : MethodId} {args : Array Value} {below : List Frame} {meth : Method} {c : Code} {Q : State → Prop} {P : sgP} {A : Nat → Prop} {N : Nat} {o : Nat} {x1 : Int32} {σ : sgS} (X : sg_C P A 3 p R s m args c cX0_isWhole 2 RX0) (ho : isCo o) {H : Heap} {locs : List Loc} (I : sg_I P shC 332 A s.heap σ H locs) {ls : Array Slot} (hl : lv_has ls 2 [(0, .ref (sgA P o)), (1, .int x1)]) {st : (Int32) ⊕ ((Int32) ⊕ (Unit))} (h : f_X0_isWhole_L80 N o x1 σ = some st) (hk : sg_k3 (fun r => sg_Ri p l e R s m args below meth c Q P shC 332 A cX0_isWhole (some .boolean) (r, σ)) (fun x => sg_Wt p l e R s m args below meth c Q P shC 332 A 2 80 σ [(0, .ref (sgA P o)), (1, .int x)]) (fun y => sg_Wt p l e R s m args below meth c Q P shC 332 A 2 109 σ []) st) : W p l e R s m args below meth c H locs 0 0 Q (F0 m 80 ls []) := by
  unfold f_X0_isWhole_L80 at h
  have hx := X.1.1
  have hb := X.1.2.1
  have hown := X.1.2.2.2.1
  have hts := X.1.2.2.2.2
  refine lv_iload_n hx hb dX0_isWhole_80 rfl (lv_at hl 1 rfl) ?_
  refine lv_aload_n hx hb dX0_isWhole_81 rfl (lv_at hl 0 rfl) ?_
  refine sg_geti X I fk_X0_51 (isCo_i0 ho) (isCo_s0 ho) rfl dX0_isWhole_82 ?_
  refine lv_icmp_ge (tgt := 109) hx hb dX0_isWhole_85 (by decide) (fun z => ?_) (fun z => ?_)
  · have h := sg_ift h z
    obtain rfl := Option.some.inj h
    exact sg_go hk I (lv_sub hl [] rfl)
  · have h := sg_iff h z
    refine lv_aload_n hx hb dX0_isWhole_88 rfl (lv_at hl 0 rfl) ?_
    refine lv_aload_n hx hb dX0_isWhole_89 rfl (lv_at hl 0 rfl) ?_
    refine sg_getr X I fk_X0_27 (j := o + 6) (isCo_i0 ho) (isCo_s0 ho) rfl dX0_isWhole_90 ?_
    refine lv_iload_n hx hb dX0_isWhole_93 rfl (lv_at hl 1 rfl) ?_
    refine sg_iald X I (isCo_i6 ho) (isCo_s6 ho) h dX0_isWhole_94 (fun v7 h => ?_)
    refine sg_callVr (As := [.int v7]) X I mk_X0_44 (by decide) (isCo_i0 ho) (isCo_s0 ho) rfl (fun q9 e9 => c_X0_hasPlace ho e9) h hl.1 rfl rfl (Nat.le_of_ble_eq_true rfl) dX0_isWhole_95 (fun v8 H locs h I => ?_)
    refine lv_if_ne (tgt := 103) hx hb dX0_isWhole_98 (by decide) (fun z => ?_) (fun z => ?_)
    · have h := sg_iff h z
      refine lv_iinc (v := x1 + 1) (lv' := [(1, .int (x1 + 1)), (0, .ref (sgA P o))]) hx hb dX0_isWhole_103 hl (k := 1) rfl rfl (by decide) rfl (fun ls hl => ?_)
      refine lv_goto (tgt := 80) hx hb dX0_isWhole_106 (by decide) ?_
      obtain rfl := Option.some.inj h
      exact sg_go hk I (lv_sub hl [1, 0] rfl)
    · have h := sg_ift h z
      refine lv_iconst (v := 0) hx hb dX0_isWhole_101 (by decide) ?_
      obtain rfl := Option.some.inj h
      exact hk _ _ _ _ _ I ⟨_, rfl, rfl⟩ dX0_isWhole_102
def f_X0_isWhole (N : Nat) (o : Nat) (σ : sgS) : Option (Int32) :=
  if (σ.1 o 3) < 2 then
  (some (vp_nar .boolean 0))
else
  (if (σ.1 o 4) < 1 then
    (some (vp_nar .boolean 0))
  else
    (if 1 ≤ (σ.1 o 5) then
      (sg_lb (sg_lp (fun x => f_X0_isWhole_L28 N o x σ) N 0) (fun r => some r) fun y6 =>
      sg_lb (sg_lp (fun x => f_X0_isWhole_L80 N o x σ) N 0) (fun r => some r) fun y9 =>
      some (vp_nar .boolean 1))
    else
      (some (vp_nar .boolean 0))))
set_option maxHeartbeats 4000000 in
set_option maxRecDepth 100000 in
theorem b_X0_isWhole {p : Program} {l : Launch} {e : Env} {R : Room} {s : State} {m : MethodId} {args : Array Value} {below : List Frame} {meth : Method} {c : Code} {Q : State → Prop} {P : sgP} {A : Nat → Prop} {N : Nat} {o : Nat} {σ : sgS} (X : sg_C P A 3 p R s m args c cX0_isWhole 2 RX0) (ho : isCo o) {H : Heap} {locs : List Loc} (I : sg_I P shC 332 A s.heap σ H locs) {ls : Array Slot} (hl : lv_has ls 2 [(0, .ref (sgA P o))]) {st : Int32} (h : f_X0_isWhole N o σ = some st) (hk : sg_Ri p l e R s m args below meth c Q P shC 332 A cX0_isWhole (some .boolean) (st, σ)) : W p l e R s m args below meth c H locs 0 0 Q (F0 m 0 ls []) := by
  unfold f_X0_isWhole at h
  have hx := X.1.1
  have hb := X.1.2.1
  have hown := X.1.2.2.2.1
  have hts := X.1.2.2.2.2
  refine lv_aload_n hx hb dX0_isWhole_0 rfl (lv_at hl 0 rfl) ?_
  refine sg_geti X I fk_X0_40 (isCo_i0 ho) (isCo_s0 ho) rfl dX0_isWhole_1 ?_
  refine lv_iconst (v := 2) hx hb dX0_isWhole_4 (by decide) ?_
  refine lv_icmp_lt (tgt := 24) hx hb dX0_isWhole_5 (by decide) (fun z => ?_) (fun z => ?_)
  · have h := sg_ift h z
    refine lv_iconst (v := 0) hx hb dX0_isWhole_24 (by decide) ?_
    obtain rfl := Option.some.inj h
    exact hk _ _ _ _ _ I ⟨_, rfl, rfl⟩ dX0_isWhole_25
  · have h := sg_iff h z
    refine lv_aload_n hx hb dX0_isWhole_8 rfl (lv_at hl 0 rfl) ?_
    refine sg_geti X I fk_X0_48 (isCo_i0 ho) (isCo_s0 ho) rfl dX0_isWhole_9 ?_
    refine lv_iconst (v := 1) hx hb dX0_isWhole_12 (by decide) ?_
    refine lv_icmp_lt (tgt := 24) hx hb dX0_isWhole_13 (by decide) (fun z => ?_) (fun z => ?_)
    · have h := sg_ift h z
      refine lv_iconst (v := 0) hx hb dX0_isWhole_24 (by decide) ?_
      obtain rfl := Option.some.inj h
      exact hk _ _ _ _ _ I ⟨_, rfl, rfl⟩ dX0_isWhole_25
    · have h := sg_iff h z
      refine lv_aload_n hx hb dX0_isWhole_16 rfl (lv_at hl 0 rfl) ?_
      refine sg_geti X I fk_X0_51 (isCo_i0 ho) (isCo_s0 ho) rfl dX0_isWhole_17 ?_
      refine lv_iconst (v := 1) hx hb dX0_isWhole_20 (by decide) ?_
      refine lv_icmp_ge (tgt := 26) hx hb dX0_isWhole_21 (by decide) (fun z => ?_) (fun z => ?_)
      · have h := sg_ift h z
        refine lv_iconst (v := 0) hx hb dX0_isWhole_26 (by decide) ?_
        refine lv_istore_n (lv' := [(1, .int 0), (0, .ref (sgA P o))]) hx hb dX0_isWhole_27 rfl hl (by decide) rfl (fun ls hl => ?_)
        obtain ⟨res, e9, k9⟩ := sg_lb_some h
        refine sg_go (sg_lp_W (a := (fun r => sg_Ri p l e R s m args below meth c Q P shC 332 A cX0_isWhole (some .boolean) (r, σ))) (w := (fun x => sg_Wt p l e R s m args below meth c Q P shC 332 A 2 28 σ [(0, .ref (sgA P o)), (1, .int x)])) (c := (fun y => sg_Wt p l e R s m args below meth c Q P shC 332 A 2 78 σ [(0, .ref (sgA P o))])) (fun x st hb9 hk9 => ?_) N 0 res e9 (sg_k2_mono k9 (fun r h => ?_) (fun y6 h => ?_))) I (lv_sub hl [1, 0] rfl)
        · intro H locs ls I hl
          exact b_X0_isWhole_L28 X ho I hl hb9 hk9
        · obtain rfl := Option.some.inj h
          exact hk
        · intro H locs ls I hl
          refine lv_iconst (v := 0) hx hb dX0_isWhole_78 (by decide) ?_
          refine lv_istore_n (lv' := [(1, .int 0), (0, .ref (sgA P o))]) hx hb dX0_isWhole_79 rfl hl (by decide) rfl (fun ls hl => ?_)
          obtain ⟨res, e9, k9⟩ := sg_lb_some h
          refine sg_go (sg_lp_W (a := (fun r => sg_Ri p l e R s m args below meth c Q P shC 332 A cX0_isWhole (some .boolean) (r, σ))) (w := (fun x => sg_Wt p l e R s m args below meth c Q P shC 332 A 2 80 σ [(0, .ref (sgA P o)), (1, .int x)])) (c := (fun y => sg_Wt p l e R s m args below meth c Q P shC 332 A 2 109 σ [])) (fun x st hb9 hk9 => ?_) N 0 res e9 (sg_k2_mono k9 (fun r h => ?_) (fun y9 h => ?_))) I (lv_sub hl [1, 0] rfl)
          · intro H locs ls I hl
            exact b_X0_isWhole_L80 X ho I hl hb9 hk9
          · obtain rfl := Option.some.inj h
            exact hk
          · intro H locs ls I hl
            refine lv_iconst (v := 1) hx hb dX0_isWhole_109 (by decide) ?_
            obtain rfl := Option.some.inj h
            exact hk _ _ _ _ _ I ⟨_, rfl, rfl⟩ dX0_isWhole_110
      · have h := sg_iff h z
        refine lv_iconst (v := 0) hx hb dX0_isWhole_24 (by decide) ?_
        obtain rfl := Option.some.inj h
        exact hk _ _ _ _ _ I ⟨_, rfl, rfl⟩ dX0_isWhole_25
set_option maxHeartbeats 4000000 in
set_option maxRecDepth 100000 in
theorem c_X0_isWhole {l : Launch} {P : sgP} {N : Nat} {o : Nat} {σ : sgS} (ho : isCo o) {q : Int32} (h : f_X0_isWhole N o σ = some q) : sg_Mi P shC 332 l yX0_isWhole cX0_isWhole 2 (some .boolean) 3 [.ref (sgA P o)] σ (q, σ) := by
  refine sg_mki (plainFor_of_name (by decide +kernel)) (Nat.le_of_ble_eq_true rfl) ?_
  intro p e R s m args below meth c Q A ls H locs X I hl hk
  exact b_X0_isWhole X ho I hl h hk
def f_X9_takes (N : Nat) (p1 : Int32) (σ : sgS) : Option (Int32 × sgS) :=
  sg_cl (f_X9_sign N σ) fun v1 s2 =>
if v1 = p1 then
  (sg_pf s2 1 2 ((s2.1 1 2) + 1) fun s3 =>
  some (vp_nar .boolean 1, s3))
else
  (some (vp_nar .boolean 0, s2))
set_option maxHeartbeats 4000000 in
set_option maxRecDepth 100000 in
theorem b_X9_takes {p : Program} {l : Launch} {e : Env} {R : Room} {s : State} {m : MethodId} {args : Array Value} {below : List Frame} {meth : Method} {c : Code} {Q : State → Prop} {P : sgP} {A : Nat → Prop} {N : Nat} {p1 : Int32} {σ : sgS} (X : sg_C P A 2 p R s m args c cX9_takes 2 RX9) {H : Heap} {locs : List Loc} (I : sg_I P shC 332 A s.heap σ H locs) {ls : Array Slot} (hl : lv_has ls 2 [(0, .ref (sgA P 1)), (1, .int p1)]) {st : Int32 × sgS} (h : f_X9_takes N p1 σ = some st) (hk : sg_Ri p l e R s m args below meth c Q P shC 332 A cX9_takes (some .boolean) st) : W p l e R s m args below meth c H locs 0 0 Q (F0 m 0 ls []) := by
  unfold f_X9_takes at h
  have hx := X.1.1
  have hb := X.1.2.1
  have hown := X.1.2.2.2.1
  have hts := X.1.2.2.2.2
  refine lv_aload_n hx hb dX9_takes_0 rfl (lv_at hl 0 rfl) ?_
  refine sg_callV (As := []) X I mk_X9_22 (by decide) (by decide) shC_1 rfl (fun q9 e9 => c_X9_sign e9) h hl.1 rfl rfl (Nat.le_of_ble_eq_true rfl) dX9_takes_1 (fun v1 s2 H locs h I => ?_)
  refine lv_iload_n hx hb dX9_takes_4 rfl (lv_at hl 1 rfl) ?_
  refine lv_icmp_eq (tgt := 10) hx hb dX9_takes_5 (by decide) (fun z => ?_) (fun z => ?_)
  · have h := sg_ift h z
    refine lv_aload_n hx hb dX9_takes_10 rfl (lv_at hl 0 rfl) ?_
    refine lv_dup hx hb dX9_takes_11 rfl ?_
    refine sg_geti X I fk_X9_19 (by decide) shC_1 rfl dX9_takes_12 ?_
    refine lv_iconst (v := 1) hx hb dX9_takes_15 (by decide) ?_
    refine lv_iadd hx hb dX9_takes_16 ?_
    refine sg_puti X I fk_X9_19 wk_9_2 rfl rfl (by decide) shC_1 rfl h dX9_takes_17 (fun s3 H locs h I => ?_)
    refine lv_iconst (v := 1) hx hb dX9_takes_20 (by decide) ?_
    obtain rfl := Option.some.inj h
    exact hk _ _ _ _ _ I ⟨_, rfl, rfl⟩ dX9_takes_21
  · have h := sg_iff h z
    refine lv_iconst (v := 0) hx hb dX9_takes_8 (by decide) ?_
    obtain rfl := Option.some.inj h
    exact hk _ _ _ _ _ I ⟨_, rfl, rfl⟩ dX9_takes_9
set_option maxHeartbeats 4000000 in
set_option maxRecDepth 100000 in
theorem c_X9_takes {l : Launch} {P : sgP} {N : Nat} {p1 : Int32} {σ : sgS} {q : Int32 × sgS} (h : f_X9_takes N p1 σ = some q) : sg_Mi P shC 332 l yX9_takes cX9_takes 2 (some .boolean) 2 [.ref (sgA P 1), .int p1] σ q := by
  refine sg_mki (plainFor_of_name (by decide +kernel)) (Nat.le_of_ble_eq_true rfl) ?_
  intro p e R s m args below meth c Q A ls H locs X I hl hk
  exact b_X9_takes X I hl h hk
def f_X0_readFrom_L45 (N : Nat) (o : Nat) (x2 : Int32) (σ : sgS) : Option ((Int32 × sgS) ⊕ ((sgS × Int32) ⊕ (sgS))) :=
  if 240 ≤ x2 then
  (some (.inr (.inr σ)))
else
  (sg_cl (f_X0_readClause N o σ) fun v10 s11 =>
  if v10 = 0 then
    (some (.inl (vp_nar .boolean 0, s11)))
  else
    (sg_cl (f_X9_sign N s11) fun v12 s13 =>
    if v12 = ((-1)) then
      (sg_cr (f_X0_isWhole N o s13) fun v16 =>
      some (.inl (vp_nar .boolean v16, s13)))
    else
      (sg_cl (f_X9_takes N 59 s13) fun v14 s15 =>
      if v14 = 0 then
        (some (.inl (vp_nar .boolean 0, s15)))
      else
        (some (.inr (.inl (s15, x2 + 1)))))))
set_option maxHeartbeats 4000000 in
set_option maxRecDepth 100000 in
theorem b_X0_readFrom_L45 {p : Program} {l : Launch} {e : Env} {R : Room} {s : State} {m : MethodId} {args : Array Value} {below : List Frame} {meth : Method} {c : Code} {Q : State → Prop} {P : sgP} {A : Nat → Prop} {N : Nat} {o : Nat} {x2 : Int32} {σ : sgS} (X : sg_C P A 8 p R s m args c cX0_readFrom 3 RX0) (ho : isCo o) {H : Heap} {locs : List Loc} (I : sg_I P shC 332 A s.heap σ H locs) {ls : Array Slot} (hl : lv_has ls 3 [(0, .ref (sgA P o)), (1, .ref (sgA P 1)), (2, .int x2)]) {st : (Int32 × sgS) ⊕ ((sgS × Int32) ⊕ (sgS))} (h : f_X0_readFrom_L45 N o x2 σ = some st) (hk : sg_k3 (sg_Ri p l e R s m args below meth c Q P shC 332 A cX0_readFrom (some .boolean)) (fun x => sg_Wt p l e R s m args below meth c Q P shC 332 A 3 45 x.1 [(0, .ref (sgA P o)), (1, .ref (sgA P 1)), (2, .int x.2)]) (fun y => sg_Wt p l e R s m args below meth c Q P shC 332 A 3 92 y []) st) : W p l e R s m args below meth c H locs 0 0 Q (F0 m 45 ls []) := by
  unfold f_X0_readFrom_L45 at h
  have hx := X.1.1
  have hb := X.1.2.1
  have hown := X.1.2.2.2.1
  have hts := X.1.2.2.2.2
  refine lv_iload_n hx hb dX0_readFrom_45 rfl (lv_at hl 2 rfl) ?_
  refine lv_sipush (v := 240) hx hb dX0_readFrom_46 (by decide) ?_
  refine lv_icmp_ge (tgt := 92) hx hb dX0_readFrom_49 (by decide) (fun z => ?_) (fun z => ?_)
  · have h := sg_ift h z
    obtain rfl := Option.some.inj h
    exact sg_go hk I (lv_sub hl [] rfl)
  · have h := sg_iff h z
    refine lv_aload_n hx hb dX0_readFrom_52 rfl (lv_at hl 0 rfl) ?_
    refine lv_aload_n hx hb dX0_readFrom_53 rfl (lv_at hl 1 rfl) ?_
    refine sg_callV (As := [.ref (sgA P 1)]) X I mk_X0_80 (by decide) (isCo_i0 ho) (isCo_s0 ho) rfl (fun q9 e9 => c_X0_readClause ho e9) h hl.1 rfl rfl (Nat.le_of_ble_eq_true rfl) dX0_readFrom_54 (fun v10 s11 H locs h I => ?_)
    refine lv_if_ne (tgt := 62) hx hb dX0_readFrom_57 (by decide) (fun z => ?_) (fun z => ?_)
    · have h := sg_iff h z
      refine lv_aload_n hx hb dX0_readFrom_62 rfl (lv_at hl 1 rfl) ?_
      refine sg_callV (As := []) X I mk_X0_84 (by decide) (by decide) shC_1 rfl (fun q9 e9 => c_X9_sign e9) h hl.1 rfl rfl (Nat.le_of_ble_eq_true rfl) dX0_readFrom_63 (fun v12 s13 H locs h I => ?_)
      refine lv_iconst (v := -1) hx hb dX0_readFrom_66 (by decide) ?_
      refine lv_icmp_ne (tgt := 75) hx hb dX0_readFrom_67 (by decide) (fun z => ?_) (fun z => ?_)
      · have h := sg_iff h z
        refine lv_aload_n hx hb dX0_readFrom_75 rfl (lv_at hl 1 rfl) ?_
        refine lv_bipush (v := 59) hx hb dX0_readFrom_76 (by decide) ?_
        refine sg_callV (As := [.int 59]) X I mk_X0_91 (by decide) (by decide) shC_1 rfl (fun q9 e9 => c_X9_takes e9) h hl.1 rfl rfl (Nat.le_of_ble_eq_true rfl) dX0_readFrom_78 (fun v14 s15 H locs h I => ?_)
        refine lv_if_ne (tgt := 86) hx hb dX0_readFrom_81 (by decide) (fun z => ?_) (fun z => ?_)
        · have h := sg_iff h z
          refine lv_iinc (v := x2 + 1) (lv' := [(2, .int (x2 + 1)), (0, .ref (sgA P o)), (1, .ref (sgA P 1))]) hx hb dX0_readFrom_86 hl (k := 2) rfl rfl (by decide) rfl (fun ls hl => ?_)
          refine lv_goto (tgt := 45) hx hb dX0_readFrom_89 (by decide) ?_
          obtain rfl := Option.some.inj h
          exact sg_go hk I (lv_sub hl [1, 2, 0] rfl)
        · have h := sg_ift h z
          refine lv_iconst (v := 0) hx hb dX0_readFrom_84 (by decide) ?_
          obtain rfl := Option.some.inj h
          exact hk _ _ _ _ _ I ⟨_, rfl, rfl⟩ dX0_readFrom_85
      · have h := sg_ift h z
        refine lv_aload_n hx hb dX0_readFrom_70 rfl (lv_at hl 0 rfl) ?_
        refine sg_callVr (As := []) X I mk_X0_87 (by decide) (isCo_i0 ho) (isCo_s0 ho) rfl (fun q9 e9 => c_X0_isWhole ho e9) h hl.1 rfl rfl (Nat.le_of_ble_eq_true rfl) dX0_readFrom_71 (fun v16 H locs h I => ?_)
        obtain rfl := Option.some.inj h
        exact hk _ _ _ _ _ I ⟨_, rfl, rfl⟩ dX0_readFrom_74
    · have h := sg_ift h z
      refine lv_iconst (v := 0) hx hb dX0_readFrom_60 (by decide) ?_
      obtain rfl := Option.some.inj h
      exact hk _ _ _ _ _ I ⟨_, rfl, rfl⟩ dX0_readFrom_61
def f_X0_readFrom (N : Nat) (o : Nat) (σ : sgS) : Option (Int32 × sgS) :=
  sg_pf σ o 0 0 fun s1 =>
sg_tb (sg_sv 2) 0 fun v2 =>
sg_pf s1 o 1 v2 fun s3 =>
sg_tb (sg_sv 2) 1 fun v4 =>
sg_pf s3 o 2 v4 fun s5 =>
sg_pf s5 o 3 0 fun s6 =>
sg_pf s6 o 4 0 fun s7 =>
sg_pf s7 o 5 0 fun s8 =>
sg_pf s8 1 2 0 fun s9 =>
sg_lb (sg_lp (fun x => f_X0_readFrom_L45 N o x.2 x.1) N ((s9, 0))) (fun r => some r) fun y17 =>
some (vp_nar .boolean 0, y17)
set_option maxHeartbeats 4000000 in
set_option maxRecDepth 100000 in
theorem b_X0_readFrom {p : Program} {l : Launch} {e : Env} {R : Room} {s : State} {m : MethodId} {args : Array Value} {below : List Frame} {meth : Method} {c : Code} {Q : State → Prop} {P : sgP} {A : Nat → Prop} {N : Nat} {o : Nat} {σ : sgS} (X : sg_C P A 8 p R s m args c cX0_readFrom 3 RX0) (ho : isCo o) {H : Heap} {locs : List Loc} (I : sg_I P shC 332 A s.heap σ H locs) {ls : Array Slot} (hl : lv_has ls 3 [(0, .ref (sgA P o)), (1, .ref (sgA P 1))]) {st : Int32 × sgS} (h : f_X0_readFrom N o σ = some st) (hk : sg_Ri p l e R s m args below meth c Q P shC 332 A cX0_readFrom (some .boolean) st) : W p l e R s m args below meth c H locs 0 0 Q (F0 m 0 ls []) := by
  unfold f_X0_readFrom at h
  have hx := X.1.1
  have hb := X.1.2.1
  have hown := X.1.2.2.2.1
  have hts := X.1.2.2.2.2
  refine lv_aload_n hx hb dX0_readFrom_0 rfl (lv_at hl 0 rfl) ?_
  refine lv_iconst (v := 0) hx hb dX0_readFrom_1 (by decide) ?_
  refine sg_puti X I fk_X0_69 wk_0_0 rfl rfl (isCo_i0 ho) (isCo_s0 ho) rfl h dX0_readFrom_2 (fun s1 H locs h I => ?_)
  refine lv_aload_n hx hb dX0_readFrom_5 rfl (lv_at hl 0 rfl) ?_
  refine sg_gets X I (j := 2) (by decide) qw_250 dX0_readFrom_6 ?_
  refine lv_iconst (v := 0) hx hb dX0_readFrom_9 (by decide) ?_
  refine sg_tab X I (by decide) h dX0_readFrom_10 (fun v2 h => ?_)
  refine sg_puti X I fk_X0_57 wk_0_1 rfl rfl (isCo_i0 ho) (isCo_s0 ho) rfl h dX0_readFrom_11 (fun s3 H locs h I => ?_)
  refine lv_aload_n hx hb dX0_readFrom_14 rfl (lv_at hl 0 rfl) ?_
  refine sg_gets X I (j := 2) (by decide) qw_250 dX0_readFrom_15 ?_
  refine lv_iconst (v := 1) hx hb dX0_readFrom_18 (by decide) ?_
  refine sg_tab X I (by decide) h dX0_readFrom_19 (fun v4 h => ?_)
  refine sg_puti X I fk_X0_60 wk_0_2 rfl rfl (isCo_i0 ho) (isCo_s0 ho) rfl h dX0_readFrom_20 (fun s5 H locs h I => ?_)
  refine lv_aload_n hx hb dX0_readFrom_23 rfl (lv_at hl 0 rfl) ?_
  refine lv_iconst (v := 0) hx hb dX0_readFrom_24 (by decide) ?_
  refine sg_puti X I fk_X0_40 wk_0_3 rfl rfl (isCo_i0 ho) (isCo_s0 ho) rfl h dX0_readFrom_25 (fun s6 H locs h I => ?_)
  refine lv_aload_n hx hb dX0_readFrom_28 rfl (lv_at hl 0 rfl) ?_
  refine lv_iconst (v := 0) hx hb dX0_readFrom_29 (by decide) ?_
  refine sg_puti X I fk_X0_48 wk_0_4 rfl rfl (isCo_i0 ho) (isCo_s0 ho) rfl h dX0_readFrom_30 (fun s7 H locs h I => ?_)
  refine lv_aload_n hx hb dX0_readFrom_33 rfl (lv_at hl 0 rfl) ?_
  refine lv_iconst (v := 0) hx hb dX0_readFrom_34 (by decide) ?_
  refine sg_puti X I fk_X0_51 wk_0_5 rfl rfl (isCo_i0 ho) (isCo_s0 ho) rfl h dX0_readFrom_35 (fun s8 H locs h I => ?_)
  refine lv_aload_n hx hb dX0_readFrom_38 rfl (lv_at hl 1 rfl) ?_
  refine lv_iconst (v := 0) hx hb dX0_readFrom_39 (by decide) ?_
  refine sg_putiN X I fn_X0_75 wk_9_2 rfl rfl (by decide) shC_1 rfl h dX0_readFrom_40 (fun s9 H locs h I => ?_)
  refine lv_iconst (v := 0) hx hb dX0_readFrom_43 (by decide) ?_
  refine lv_istore_n (lv' := [(2, .int 0), (0, .ref (sgA P o)), (1, .ref (sgA P 1))]) hx hb dX0_readFrom_44 rfl hl (by decide) rfl (fun ls hl => ?_)
  obtain ⟨res, e9, k9⟩ := sg_lb_some h
  refine sg_go (sg_lp_W (a := (sg_Ri p l e R s m args below meth c Q P shC 332 A cX0_readFrom (some .boolean))) (w := (fun x => sg_Wt p l e R s m args below meth c Q P shC 332 A 3 45 x.1 [(0, .ref (sgA P o)), (1, .ref (sgA P 1)), (2, .int x.2)])) (c := (fun y => sg_Wt p l e R s m args below meth c Q P shC 332 A 3 92 y [])) (fun x st hb9 hk9 => ?_) N ((s9, 0)) res e9 (sg_k2_mono k9 (fun r h => ?_) (fun y17 h => ?_))) I (lv_sub hl [1, 2, 0] rfl)
  · intro H locs ls I hl
    exact b_X0_readFrom_L45 X ho I hl hb9 hk9
  · obtain rfl := Option.some.inj h
    exact hk
  · intro H locs ls I hl
    refine lv_iconst (v := 0) hx hb dX0_readFrom_92 (by decide) ?_
    obtain rfl := Option.some.inj h
    exact hk _ _ _ _ _ I ⟨_, rfl, rfl⟩ dX0_readFrom_93
set_option maxHeartbeats 4000000 in
set_option maxRecDepth 100000 in
theorem c_X0_readFrom {l : Launch} {P : sgP} {N : Nat} {o : Nat} {σ : sgS} (ho : isCo o) {q : Int32 × sgS} (h : f_X0_readFrom N o σ = some q) : sg_Mi P shC 332 l yX0_readFrom cX0_readFrom 3 (some .boolean) 8 [.ref (sgA P o), .ref (sgA P 1)] σ q := by
  refine sg_mki (plainFor_of_name (by decide +kernel)) (Nat.le_of_ble_eq_true rfl) ?_
  intro p e R s m args below meth c Q A ls H locs X I hl hk
  exact b_X0_readFrom X ho I hl h hk
def f_X4_oneHolds (N : Nat) (σ : sgS) : Option (Int32) :=
  if (σ.1 21 5) < 0 then
  (some (vp_nar .boolean 0))
else
  (if (σ.1 21 4) ≤ (σ.1 21 5) then
    (some (vp_nar .boolean 0))
  else
    (some (vp_nar .boolean 1)))
set_option maxHeartbeats 4000000 in
set_option maxRecDepth 100000 in
theorem b_X4_oneHolds {p : Program} {l : Launch} {e : Env} {R : Room} {s : State} {m : MethodId} {args : Array Value} {below : List Frame} {meth : Method} {c : Code} {Q : State → Prop} {P : sgP} {A : Nat → Prop} {N : Nat} {σ : sgS} (X : sg_C P A 1 p R s m args c cX4_oneHolds 1 RX4) {H : Heap} {locs : List Loc} (I : sg_I P shC 332 A s.heap σ H locs) {ls : Array Slot} (hl : lv_has ls 1 [(0, .ref (sgA P 21))]) {st : Int32} (h : f_X4_oneHolds N σ = some st) (hk : sg_Ri p l e R s m args below meth c Q P shC 332 A cX4_oneHolds (some .boolean) (st, σ)) : W p l e R s m args below meth c H locs 0 0 Q (F0 m 0 ls []) := by
  unfold f_X4_oneHolds at h
  have hx := X.1.1
  have hb := X.1.2.1
  have hown := X.1.2.2.2.1
  have hts := X.1.2.2.2.2
  refine lv_aload_n hx hb dX4_oneHolds_0 rfl (lv_at hl 0 rfl) ?_
  refine sg_geti X I fk_X4_23 (by decide) shC_21 rfl dX4_oneHolds_1 ?_
  refine lv_if_lt (tgt := 22) hx hb dX4_oneHolds_4 (by decide) (fun z => ?_) (fun z => ?_)
  · have h := sg_ift h z
    refine lv_iconst (v := 0) hx hb dX4_oneHolds_22 (by decide) ?_
    obtain rfl := Option.some.inj h
    exact hk _ _ _ _ _ I ⟨_, rfl, rfl⟩ dX4_oneHolds_23
  · have h := sg_iff h z
    refine lv_aload_n hx hb dX4_oneHolds_7 rfl (lv_at hl 0 rfl) ?_
    refine sg_geti X I fk_X4_23 (by decide) shC_21 rfl dX4_oneHolds_8 ?_
    refine lv_aload_n hx hb dX4_oneHolds_11 rfl (lv_at hl 0 rfl) ?_
    refine sg_geti X I fk_X4_27 (by decide) shC_21 rfl dX4_oneHolds_12 ?_
    refine lv_icmp_ge (tgt := 22) hx hb dX4_oneHolds_15 (by decide) (fun z => ?_) (fun z => ?_)
    · have h := sg_ift h z
      refine lv_iconst (v := 0) hx hb dX4_oneHolds_22 (by decide) ?_
      obtain rfl := Option.some.inj h
      exact hk _ _ _ _ _ I ⟨_, rfl, rfl⟩ dX4_oneHolds_23
    · have h := sg_iff h z
      refine lv_iconst (v := 1) hx hb dX4_oneHolds_18 (by decide) ?_
      refine lv_goto (tgt := 23) hx hb dX4_oneHolds_19 (by decide) ?_
      obtain rfl := Option.some.inj h
      exact hk _ _ _ _ _ I ⟨_, rfl, rfl⟩ dX4_oneHolds_23
set_option maxHeartbeats 4000000 in
set_option maxRecDepth 100000 in
theorem c_X4_oneHolds {l : Launch} {P : sgP} {N : Nat} {σ : sgS} {q : Int32} (h : f_X4_oneHolds N σ = some q) : sg_Mi P shC 332 l yX4_oneHolds cX4_oneHolds 1 (some .boolean) 1 [.ref (sgA P 21)] σ (q, σ) := by
  refine sg_mki (plainFor_of_name (by decide +kernel)) (Nat.le_of_ble_eq_true rfl) ?_
  intro p e R s m args below meth c Q A ls H locs X I hl hk
  exact b_X4_oneHolds X I hl h hk
def f_J6_bitCount_0f7a4 (N : Nat) (p0 : Int32) (σ : sgS) : Option (Int32) :=
  some ((((((((p0 - ((sg_ushr p0 1) &&& 1431655765)) &&& 858993459) + ((sg_ushr (p0 - ((sg_ushr p0 1) &&& 1431655765)) 2) &&& 858993459)) + (sg_ushr (((p0 - ((sg_ushr p0 1) &&& 1431655765)) &&& 858993459) + ((sg_ushr (p0 - ((sg_ushr p0 1) &&& 1431655765)) 2) &&& 858993459)) 4)) &&& 252645135) + (sg_ushr (((((p0 - ((sg_ushr p0 1) &&& 1431655765)) &&& 858993459) + ((sg_ushr (p0 - ((sg_ushr p0 1) &&& 1431655765)) 2) &&& 858993459)) + (sg_ushr (((p0 - ((sg_ushr p0 1) &&& 1431655765)) &&& 858993459) + ((sg_ushr (p0 - ((sg_ushr p0 1) &&& 1431655765)) 2) &&& 858993459)) 4)) &&& 252645135) 8)) + (sg_ushr ((((((p0 - ((sg_ushr p0 1) &&& 1431655765)) &&& 858993459) + ((sg_ushr (p0 - ((sg_ushr p0 1) &&& 1431655765)) 2) &&& 858993459)) + (sg_ushr (((p0 - ((sg_ushr p0 1) &&& 1431655765)) &&& 858993459) + ((sg_ushr (p0 - ((sg_ushr p0 1) &&& 1431655765)) 2) &&& 858993459)) 4)) &&& 252645135) + (sg_ushr (((((p0 - ((sg_ushr p0 1) &&& 1431655765)) &&& 858993459) + ((sg_ushr (p0 - ((sg_ushr p0 1) &&& 1431655765)) 2) &&& 858993459)) + (sg_ushr (((p0 - ((sg_ushr p0 1) &&& 1431655765)) &&& 858993459) + ((sg_ushr (p0 - ((sg_ushr p0 1) &&& 1431655765)) 2) &&& 858993459)) 4)) &&& 252645135) 8)) 16)) &&& 63)
set_option maxHeartbeats 4000000 in
set_option maxRecDepth 100000 in
theorem b_J6_bitCount_0f7a4 {p : Program} {l : Launch} {e : Env} {R : Room} {s : State} {m : MethodId} {args : Array Value} {below : List Frame} {meth : Method} {c : Code} {Q : State → Prop} {P : sgP} {A : Nat → Prop} {sh : Nat → sgE} {n : Nat} {N : Nat} {p0 : Int32} {σ : sgS} (X : sg_C P A 1 p R s m args c cJ6_bitCount_0f7a4 1 RJ6) {H : Heap} {locs : List Loc} (I : sg_I P sh n A s.heap σ H locs) {ls : Array Slot} (hl : lv_has ls 1 [(0, .int p0)]) {st : Int32} (h : f_J6_bitCount_0f7a4 N p0 σ = some st) (hk : sg_Ri p l e R s m args below meth c Q P sh n A cJ6_bitCount_0f7a4 (some .int) (st, σ)) : W p l e R s m args below meth c H locs 0 0 Q (F0 m 0 ls []) := by
  unfold f_J6_bitCount_0f7a4 at h
  have hx := X.1.1
  have hb := X.1.2.1
  have hown := X.1.2.2.2.1
  have hts := X.1.2.2.2.2
  refine lv_iload_n hx hb dJ6_bitCount_0f7a4_0 rfl (lv_at hl 0 rfl) ?_
  refine lv_iload_n hx hb dJ6_bitCount_0f7a4_1 rfl (lv_at hl 0 rfl) ?_
  refine lv_iconst (v := 1) hx hb dJ6_bitCount_0f7a4_2 (by decide) ?_
  refine lv_iushr (v := sg_ushr p0 1) hx hb dJ6_bitCount_0f7a4_3 rfl ?_
  refine lv_ldcw (v := 1431655765) hx hb hown (hts _ qw_711) dJ6_bitCount_0f7a4_4 ?_
  refine lv_iand hx hb dJ6_bitCount_0f7a4_7 ?_
  refine lv_isub hx hb dJ6_bitCount_0f7a4_8 ?_
  refine lv_istore_n (lv' := [(0, .int (p0 - ((sg_ushr p0 1) &&& 1431655765)))]) hx hb dJ6_bitCount_0f7a4_9 rfl hl (by decide) rfl (fun ls hl => ?_)
  refine lv_iload_n hx hb dJ6_bitCount_0f7a4_10 rfl (lv_at hl 0 rfl) ?_
  refine lv_ldcw (v := 858993459) hx hb hown (hts _ qw_712) dJ6_bitCount_0f7a4_11 ?_
  refine lv_iand hx hb dJ6_bitCount_0f7a4_14 ?_
  refine lv_iload_n hx hb dJ6_bitCount_0f7a4_15 rfl (lv_at hl 0 rfl) ?_
  refine lv_iconst (v := 2) hx hb dJ6_bitCount_0f7a4_16 (by decide) ?_
  refine lv_iushr (v := sg_ushr (p0 - ((sg_ushr p0 1) &&& 1431655765)) 2) hx hb dJ6_bitCount_0f7a4_17 rfl ?_
  refine lv_ldcw (v := 858993459) hx hb hown (hts _ qw_712) dJ6_bitCount_0f7a4_18 ?_
  refine lv_iand hx hb dJ6_bitCount_0f7a4_21 ?_
  refine lv_iadd hx hb dJ6_bitCount_0f7a4_22 ?_
  refine lv_istore_n (lv' := [(0, .int (((p0 - ((sg_ushr p0 1) &&& 1431655765)) &&& 858993459) + ((sg_ushr (p0 - ((sg_ushr p0 1) &&& 1431655765)) 2) &&& 858993459)))]) hx hb dJ6_bitCount_0f7a4_23 rfl hl (by decide) rfl (fun ls hl => ?_)
  refine lv_iload_n hx hb dJ6_bitCount_0f7a4_24 rfl (lv_at hl 0 rfl) ?_
  refine lv_iload_n hx hb dJ6_bitCount_0f7a4_25 rfl (lv_at hl 0 rfl) ?_
  refine lv_iconst (v := 4) hx hb dJ6_bitCount_0f7a4_26 (by decide) ?_
  refine lv_iushr (v := sg_ushr (((p0 - ((sg_ushr p0 1) &&& 1431655765)) &&& 858993459) + ((sg_ushr (p0 - ((sg_ushr p0 1) &&& 1431655765)) 2) &&& 858993459)) 4) hx hb dJ6_bitCount_0f7a4_27 rfl ?_
  refine lv_iadd hx hb dJ6_bitCount_0f7a4_28 ?_
  refine lv_ldcw (v := 252645135) hx hb hown (hts _ qw_713) dJ6_bitCount_0f7a4_29 ?_
  refine lv_iand hx hb dJ6_bitCount_0f7a4_32 ?_
  refine lv_istore_n (lv' := [(0, .int (((((p0 - ((sg_ushr p0 1) &&& 1431655765)) &&& 858993459) + ((sg_ushr (p0 - ((sg_ushr p0 1) &&& 1431655765)) 2) &&& 858993459)) + (sg_ushr (((p0 - ((sg_ushr p0 1) &&& 1431655765)) &&& 858993459) + ((sg_ushr (p0 - ((sg_ushr p0 1) &&& 1431655765)) 2) &&& 858993459)) 4)) &&& 252645135))]) hx hb dJ6_bitCount_0f7a4_33 rfl hl (by decide) rfl (fun ls hl => ?_)
  refine lv_iload_n hx hb dJ6_bitCount_0f7a4_34 rfl (lv_at hl 0 rfl) ?_
  refine lv_iload_n hx hb dJ6_bitCount_0f7a4_35 rfl (lv_at hl 0 rfl) ?_
  refine lv_bipush (v := 8) hx hb dJ6_bitCount_0f7a4_36 (by decide) ?_
  refine lv_iushr (v := sg_ushr (((((p0 - ((sg_ushr p0 1) &&& 1431655765)) &&& 858993459) + ((sg_ushr (p0 - ((sg_ushr p0 1) &&& 1431655765)) 2) &&& 858993459)) + (sg_ushr (((p0 - ((sg_ushr p0 1) &&& 1431655765)) &&& 858993459) + ((sg_ushr (p0 - ((sg_ushr p0 1) &&& 1431655765)) 2) &&& 858993459)) 4)) &&& 252645135) 8) hx hb dJ6_bitCount_0f7a4_38 rfl ?_
  refine lv_iadd hx hb dJ6_bitCount_0f7a4_39 ?_
  refine lv_istore_n (lv' := [(0, .int ((((((p0 - ((sg_ushr p0 1) &&& 1431655765)) &&& 858993459) + ((sg_ushr (p0 - ((sg_ushr p0 1) &&& 1431655765)) 2) &&& 858993459)) + (sg_ushr (((p0 - ((sg_ushr p0 1) &&& 1431655765)) &&& 858993459) + ((sg_ushr (p0 - ((sg_ushr p0 1) &&& 1431655765)) 2) &&& 858993459)) 4)) &&& 252645135) + (sg_ushr (((((p0 - ((sg_ushr p0 1) &&& 1431655765)) &&& 858993459) + ((sg_ushr (p0 - ((sg_ushr p0 1) &&& 1431655765)) 2) &&& 858993459)) + (sg_ushr (((p0 - ((sg_ushr p0 1) &&& 1431655765)) &&& 858993459) + ((sg_ushr (p0 - ((sg_ushr p0 1) &&& 1431655765)) 2) &&& 858993459)) 4)) &&& 252645135) 8)))]) hx hb dJ6_bitCount_0f7a4_40 rfl hl (by decide) rfl (fun ls hl => ?_)
  refine lv_iload_n hx hb dJ6_bitCount_0f7a4_41 rfl (lv_at hl 0 rfl) ?_
  refine lv_iload_n hx hb dJ6_bitCount_0f7a4_42 rfl (lv_at hl 0 rfl) ?_
  refine lv_bipush (v := 16) hx hb dJ6_bitCount_0f7a4_43 (by decide) ?_
  refine lv_iushr (v := sg_ushr ((((((p0 - ((sg_ushr p0 1) &&& 1431655765)) &&& 858993459) + ((sg_ushr (p0 - ((sg_ushr p0 1) &&& 1431655765)) 2) &&& 858993459)) + (sg_ushr (((p0 - ((sg_ushr p0 1) &&& 1431655765)) &&& 858993459) + ((sg_ushr (p0 - ((sg_ushr p0 1) &&& 1431655765)) 2) &&& 858993459)) 4)) &&& 252645135) + (sg_ushr (((((p0 - ((sg_ushr p0 1) &&& 1431655765)) &&& 858993459) + ((sg_ushr (p0 - ((sg_ushr p0 1) &&& 1431655765)) 2) &&& 858993459)) + (sg_ushr (((p0 - ((sg_ushr p0 1) &&& 1431655765)) &&& 858993459) + ((sg_ushr (p0 - ((sg_ushr p0 1) &&& 1431655765)) 2) &&& 858993459)) 4)) &&& 252645135) 8)) 16) hx hb dJ6_bitCount_0f7a4_45 rfl ?_
  refine lv_iadd hx hb dJ6_bitCount_0f7a4_46 ?_
  refine lv_istore_n (lv' := [(0, .int (((((((p0 - ((sg_ushr p0 1) &&& 1431655765)) &&& 858993459) + ((sg_ushr (p0 - ((sg_ushr p0 1) &&& 1431655765)) 2) &&& 858993459)) + (sg_ushr (((p0 - ((sg_ushr p0 1) &&& 1431655765)) &&& 858993459) + ((sg_ushr (p0 - ((sg_ushr p0 1) &&& 1431655765)) 2) &&& 858993459)) 4)) &&& 252645135) + (sg_ushr (((((p0 - ((sg_ushr p0 1) &&& 1431655765)) &&& 858993459) + ((sg_ushr (p0 - ((sg_ushr p0 1) &&& 1431655765)) 2) &&& 858993459)) + (sg_ushr (((p0 - ((sg_ushr p0 1) &&& 1431655765)) &&& 858993459) + ((sg_ushr (p0 - ((sg_ushr p0 1) &&& 1431655765)) 2) &&& 858993459)) 4)) &&& 252645135) 8)) + (sg_ushr ((((((p0 - ((sg_ushr p0 1) &&& 1431655765)) &&& 858993459) + ((sg_ushr (p0 - ((sg_ushr p0 1) &&& 1431655765)) 2) &&& 858993459)) + (sg_ushr (((p0 - ((sg_ushr p0 1) &&& 1431655765)) &&& 858993459) + ((sg_ushr (p0 - ((sg_ushr p0 1) &&& 1431655765)) 2) &&& 858993459)) 4)) &&& 252645135) + (sg_ushr (((((p0 - ((sg_ushr p0 1) &&& 1431655765)) &&& 858993459) + ((sg_ushr (p0 - ((sg_ushr p0 1) &&& 1431655765)) 2) &&& 858993459)) + (sg_ushr (((p0 - ((sg_ushr p0 1) &&& 1431655765)) &&& 858993459) + ((sg_ushr (p0 - ((sg_ushr p0 1) &&& 1431655765)) 2) &&& 858993459)) 4)) &&& 252645135) 8)) 16)))]) hx hb dJ6_bitCount_0f7a4_47 rfl hl (by decide) rfl (fun ls hl => ?_)
  refine lv_iload_n hx hb dJ6_bitCount_0f7a4_48 rfl (lv_at hl 0 rfl) ?_
  refine lv_bipush (v := 63) hx hb dJ6_bitCount_0f7a4_49 (by decide) ?_
  refine lv_iand hx hb dJ6_bitCount_0f7a4_51 ?_
  obtain rfl := Option.some.inj h
  exact hk _ _ _ _ _ I ⟨_, rfl, rfl⟩ dJ6_bitCount_0f7a4_52
set_option maxHeartbeats 4000000 in
set_option maxRecDepth 100000 in
theorem c_J6_bitCount_0f7a4 {l : Launch} {P : sgP} {sh : Nat → sgE} {n : Nat} {N : Nat} {p0 : Int32} {σ : sgS} {q : Int32} (h : f_J6_bitCount_0f7a4 N p0 σ = some q) : sg_Mi P sh n l yJ6_bitCount_0f7a4 cJ6_bitCount_0f7a4 1 (some .int) 1 [.int p0] σ (q, σ) := by
  refine sg_mki (plainFor_of_name (by decide +kernel)) (Nat.le_of_ble_eq_true rfl) ?_
  intro p e R s m args below meth c Q A ls H locs X I hl hk
  exact b_J6_bitCount_0f7a4 X I hl h hk
def f_X1_tellLetters (N : Nat) (p1 : Int32) (p2 : Nat) (σ : sgS) : Option (Int32 × sgS) :=
  sg_ld σ 7 12 p1 fun v1 =>
sg_st σ 50 6 0 v1 fun s2 =>
sg_ld s2 8 12 p1 fun v3 =>
sg_st s2 50 6 1 v3 fun s4 =>
sg_ld s4 (p2 + 4) 12 p1 fun v5 =>
sg_st s4 50 6 2 v5 fun s6 =>
sg_ld s6 5 12 p1 fun v7 =>
sg_ld s6 4 7 v7 fun v8 =>
sg_ld s6 6 12 p1 fun v9 =>
sg_ld s6 4 7 v9 fun v10 =>
sg_st s6 50 6 3 (v8 + v10) fun s11 =>
some (0, s11)
set_option maxHeartbeats 4000000 in
set_option maxRecDepth 100000 in
theorem b_X1_tellLetters {p : Program} {l : Launch} {e : Env} {R : Room} {s : State} {m : MethodId} {args : Array Value} {below : List Frame} {meth : Method} {c : Code} {Q : State → Prop} {P : sgP} {A : Nat → Prop} {N : Nat} {p1 : Int32} {p2 : Nat} {σ : sgS} (X : sg_C P A 1 p R s m args c cX1_tellLetters 3 RX1) (hp2 : isSt p2) {H : Heap} {locs : List Loc} (I : sg_I P shC 332 A s.heap σ H locs) {ls : Array Slot} (hl : lv_has ls 3 [(0, .ref (sgA P 49)), (1, .int p1), (2, .ref (sgA P p2))]) {st : Int32 × sgS} (h : f_X1_tellLetters N p1 p2 σ = some st) (hk : sg_Rv p l e R s m args below meth c Q P shC 332 A cX1_tellLetters st) : W p l e R s m args below meth c H locs 0 0 Q (F0 m 0 ls []) := by
  unfold f_X1_tellLetters at h
  have hx := X.1.1
  have hb := X.1.2.1
  have hown := X.1.2.2.2.1
  have hts := X.1.2.2.2.2
  refine lv_aload_n hx hb dX1_tellLetters_0 rfl (lv_at hl 0 rfl) ?_
  refine sg_getr X I fk_X1_19 (j := 50) (by decide) shC_49 rfl dX1_tellLetters_1 ?_
  refine lv_iconst (v := 0) hx hb dX1_tellLetters_4 (by decide) ?_
  refine lv_aload_n hx hb dX1_tellLetters_5 rfl (lv_at hl 0 rfl) ?_
  refine sg_getr X I fk_X1_28 (j := 3) (by decide) shC_49 rfl dX1_tellLetters_6 ?_
  refine sg_getrN X I fn_X1_81 (j := 7) (by decide) shC_3 rfl dX1_tellLetters_9 ?_
  refine lv_iload_n hx hb dX1_tellLetters_12 rfl (lv_at hl 1 rfl) ?_
  refine sg_iald X I (by decide) shC_7 h dX1_tellLetters_13 (fun v1 h => ?_)
  refine sg_iast X I (by decide) shC_50 h dX1_tellLetters_14 (fun s2 H locs h I => ?_)
  refine lv_aload_n hx hb dX1_tellLetters_15 rfl (lv_at hl 0 rfl) ?_
  refine sg_getr X I fk_X1_19 (j := 50) (by decide) shC_49 rfl dX1_tellLetters_16 ?_
  refine lv_iconst (v := 1) hx hb dX1_tellLetters_19 (by decide) ?_
  refine lv_aload_n hx hb dX1_tellLetters_20 rfl (lv_at hl 0 rfl) ?_
  refine sg_getr X I fk_X1_28 (j := 3) (by decide) shC_49 rfl dX1_tellLetters_21 ?_
  refine sg_getrN X I fn_X1_83 (j := 8) (by decide) shC_3 rfl dX1_tellLetters_24 ?_
  refine lv_iload_n hx hb dX1_tellLetters_27 rfl (lv_at hl 1 rfl) ?_
  refine sg_iald X I (by decide) shC_8 h dX1_tellLetters_28 (fun v3 h => ?_)
  refine sg_iast X I (by decide) shC_50 h dX1_tellLetters_29 (fun s4 H locs h I => ?_)
  refine lv_aload_n hx hb dX1_tellLetters_30 rfl (lv_at hl 0 rfl) ?_
  refine sg_getr X I fk_X1_19 (j := 50) (by decide) shC_49 rfl dX1_tellLetters_31 ?_
  refine lv_iconst (v := 2) hx hb dX1_tellLetters_34 (by decide) ?_
  refine lv_aload_n hx hb dX1_tellLetters_35 rfl (lv_at hl 2 rfl) ?_
  refine sg_getrN X I fn_X1_86 (j := p2 + 4) (isSt_i0 hp2) (isSt_s0 hp2) rfl dX1_tellLetters_36 ?_
  refine lv_iload_n hx hb dX1_tellLetters_39 rfl (lv_at hl 1 rfl) ?_
  refine sg_iald X I (isSt_i4 hp2) (isSt_s4 hp2) h dX1_tellLetters_40 (fun v5 h => ?_)
  refine sg_iast X I (by decide) shC_50 h dX1_tellLetters_41 (fun s6 H locs h I => ?_)
  refine lv_aload_n hx hb dX1_tellLetters_42 rfl (lv_at hl 0 rfl) ?_
  refine sg_getr X I fk_X1_19 (j := 50) (by decide) shC_49 rfl dX1_tellLetters_43 ?_
  refine lv_iconst (v := 3) hx hb dX1_tellLetters_46 (by decide) ?_
  refine lv_aload_n hx hb dX1_tellLetters_47 rfl (lv_at hl 0 rfl) ?_
  refine sg_getr X I fk_X1_28 (j := 3) (by decide) shC_49 rfl dX1_tellLetters_48 ?_
  refine sg_getrN X I fn_X1_89 (j := 4) (by decide) shC_3 rfl dX1_tellLetters_51 ?_
  refine lv_aload_n hx hb dX1_tellLetters_54 rfl (lv_at hl 0 rfl) ?_
  refine sg_getr X I fk_X1_28 (j := 3) (by decide) shC_49 rfl dX1_tellLetters_55 ?_
  refine sg_getrN X I fn_X1_92 (j := 5) (by decide) shC_3 rfl dX1_tellLetters_58 ?_
  refine lv_iload_n hx hb dX1_tellLetters_61 rfl (lv_at hl 1 rfl) ?_
  refine sg_iald X I (by decide) shC_5 h dX1_tellLetters_62 (fun v7 h => ?_)
  refine sg_iald X I (by decide) shC_4 h dX1_tellLetters_63 (fun v8 h => ?_)
  refine lv_aload_n hx hb dX1_tellLetters_64 rfl (lv_at hl 0 rfl) ?_
  refine sg_getr X I fk_X1_28 (j := 3) (by decide) shC_49 rfl dX1_tellLetters_65 ?_
  refine sg_getrN X I fn_X1_89 (j := 4) (by decide) shC_3 rfl dX1_tellLetters_68 ?_
  refine lv_aload_n hx hb dX1_tellLetters_71 rfl (lv_at hl 0 rfl) ?_
  refine sg_getr X I fk_X1_28 (j := 3) (by decide) shC_49 rfl dX1_tellLetters_72 ?_
  refine sg_getrN X I fn_X1_95 (j := 6) (by decide) shC_3 rfl dX1_tellLetters_75 ?_
  refine lv_iload_n hx hb dX1_tellLetters_78 rfl (lv_at hl 1 rfl) ?_
  refine sg_iald X I (by decide) shC_6 h dX1_tellLetters_79 (fun v9 h => ?_)
  refine sg_iald X I (by decide) shC_4 h dX1_tellLetters_80 (fun v10 h => ?_)
  refine lv_iadd hx hb dX1_tellLetters_81 ?_
  refine sg_iast X I (by decide) shC_50 h dX1_tellLetters_82 (fun s11 H locs h I => ?_)
  obtain rfl := Option.some.inj h
  exact hk _ _ _ _ I dX1_tellLetters_83
set_option maxHeartbeats 4000000 in
set_option maxRecDepth 100000 in
theorem c_X1_tellLetters {l : Launch} {P : sgP} {N : Nat} {p1 : Int32} {p2 : Nat} {σ : sgS} (hp2 : isSt p2) {q : Int32 × sgS} (h : f_X1_tellLetters N p1 p2 σ = some q) : sg_Mv P shC 332 l yX1_tellLetters cX1_tellLetters 3 none 1 [.ref (sgA P 49), .int p1, .ref (sgA P p2)] σ q := by
  refine sg_mkv (plainFor_of_name (by decide +kernel)) (Nat.le_of_ble_eq_true rfl) ?_
  intro p e R s m args below meth c Q A ls H locs X I hl hk
  exact b_X1_tellLetters X hp2 I hl h hk
def f_X4_push (N : Nat) (p1 : Int32) (σ : sgS) : Option (Int32 × sgS) :=
  if 240 ≤ (σ.1 21 3) then
  (some (0, σ))
else
  (sg_st σ 28 240 (σ.1 21 3) p1 fun s1 =>
  sg_pf s1 21 3 ((s1.1 21 3) + 1) fun s2 =>
  some (0, s2))
set_option maxHeartbeats 4000000 in
set_option maxRecDepth 100000 in
theorem b_X4_push {p : Program} {l : Launch} {e : Env} {R : Room} {s : State} {m : MethodId} {args : Array Value} {below : List Frame} {meth : Method} {c : Code} {Q : State → Prop} {P : sgP} {A : Nat → Prop} {N : Nat} {p1 : Int32} {σ : sgS} (X : sg_C P A 1 p R s m args c cX4_push 2 RX4) {H : Heap} {locs : List Loc} (I : sg_I P shC 332 A s.heap σ H locs) {ls : Array Slot} (hl : lv_has ls 2 [(0, .ref (sgA P 21)), (1, .int p1)]) {st : Int32 × sgS} (h : f_X4_push N p1 σ = some st) (hk : sg_Rv p l e R s m args below meth c Q P shC 332 A cX4_push st) : W p l e R s m args below meth c H locs 0 0 Q (F0 m 0 ls []) := by
  unfold f_X4_push at h
  have hx := X.1.1
  have hb := X.1.2.1
  have hown := X.1.2.2.2.1
  have hts := X.1.2.2.2.2
  refine lv_aload_n hx hb dX4_push_0 rfl (lv_at hl 0 rfl) ?_
  refine sg_geti X I fk_X4_40 (by decide) shC_21 rfl dX4_push_1 ?_
  refine lv_aload_n hx hb dX4_push_4 rfl (lv_at hl 0 rfl) ?_
  refine sg_getr X I fk_X4_20 (j := 28) (by decide) shC_21 rfl dX4_push_5 ?_
  refine sg_alen X I (v := 240) (by decide) shC_28 rfl dX4_push_8 ?_
  refine lv_icmp_ge (tgt := 32) hx hb dX4_push_9 (by decide) (fun z => ?_) (fun z => ?_)
  · have h := sg_ift h z
    obtain rfl := Option.some.inj h
    exact hk _ _ _ _ I dX4_push_32
  · have h := sg_iff h z
    refine lv_aload_n hx hb dX4_push_12 rfl (lv_at hl 0 rfl) ?_
    refine sg_getr X I fk_X4_20 (j := 28) (by decide) shC_21 rfl dX4_push_13 ?_
    refine lv_aload_n hx hb dX4_push_16 rfl (lv_at hl 0 rfl) ?_
    refine sg_geti X I fk_X4_40 (by decide) shC_21 rfl dX4_push_17 ?_
    refine lv_iload_n hx hb dX4_push_20 rfl (lv_at hl 1 rfl) ?_
    refine sg_iast X I (by decide) shC_28 h dX4_push_21 (fun s1 H locs h I => ?_)
    refine lv_aload_n hx hb dX4_push_22 rfl (lv_at hl 0 rfl) ?_
    refine lv_dup hx hb dX4_push_23 rfl ?_
    refine sg_geti X I fk_X4_40 (by decide) shC_21 rfl dX4_push_24 ?_
    refine lv_iconst (v := 1) hx hb dX4_push_27 (by decide) ?_
    refine lv_iadd hx hb dX4_push_28 ?_
    refine sg_puti X I fk_X4_40 wk_4_3 rfl rfl (by decide) shC_21 rfl h dX4_push_29 (fun s2 H locs h I => ?_)
    obtain rfl := Option.some.inj h
    exact hk _ _ _ _ I dX4_push_32
set_option maxHeartbeats 4000000 in
set_option maxRecDepth 100000 in
theorem c_X4_push {l : Launch} {P : sgP} {N : Nat} {p1 : Int32} {σ : sgS} {q : Int32 × sgS} (h : f_X4_push N p1 σ = some q) : sg_Mv P shC 332 l yX4_push cX4_push 2 none 1 [.ref (sgA P 21), .int p1] σ q := by
  refine sg_mkv (plainFor_of_name (by decide +kernel)) (Nat.le_of_ble_eq_true rfl) ?_
  intro p e R s m args below meth c Q A ls H locs X I hl hk
  exact b_X4_push X I hl h hk
def f_X4_pop (N : Nat) (σ : sgS) : Option (Int32 × sgS) :=
  if 0 < (σ.1 21 3) then
  (sg_pf σ 21 3 ((σ.1 21 3) - 1) fun s1 =>
  sg_ld s1 28 240 (s1.1 21 3) fun v2 =>
  some (v2, s1))
else
  (some (0, σ))
set_option maxHeartbeats 4000000 in
set_option maxRecDepth 100000 in
theorem b_X4_pop {p : Program} {l : Launch} {e : Env} {R : Room} {s : State} {m : MethodId} {args : Array Value} {below : List Frame} {meth : Method} {c : Code} {Q : State → Prop} {P : sgP} {A : Nat → Prop} {N : Nat} {σ : sgS} (X : sg_C P A 1 p R s m args c cX4_pop 1 RX4) {H : Heap} {locs : List Loc} (I : sg_I P shC 332 A s.heap σ H locs) {ls : Array Slot} (hl : lv_has ls 1 [(0, .ref (sgA P 21))]) {st : Int32 × sgS} (h : f_X4_pop N σ = some st) (hk : sg_Ri p l e R s m args below meth c Q P shC 332 A cX4_pop (some .int) st) : W p l e R s m args below meth c H locs 0 0 Q (F0 m 0 ls []) := by
  unfold f_X4_pop at h
  have hx := X.1.1
  have hb := X.1.2.1
  have hown := X.1.2.2.2.1
  have hts := X.1.2.2.2.2
  refine lv_aload_n hx hb dX4_pop_0 rfl (lv_at hl 0 rfl) ?_
  refine sg_geti X I fk_X4_40 (by decide) shC_21 rfl dX4_pop_1 ?_
  refine lv_if_gt (tgt := 9) hx hb dX4_pop_4 (by decide) (fun z => ?_) (fun z => ?_)
  · have h := sg_ift h z
    refine lv_aload_n hx hb dX4_pop_9 rfl (lv_at hl 0 rfl) ?_
    refine lv_dup hx hb dX4_pop_10 rfl ?_
    refine sg_geti X I fk_X4_40 (by decide) shC_21 rfl dX4_pop_11 ?_
    refine lv_iconst (v := 1) hx hb dX4_pop_14 (by decide) ?_
    refine lv_isub hx hb dX4_pop_15 ?_
    refine sg_puti X I fk_X4_40 wk_4_3 rfl rfl (by decide) shC_21 rfl h dX4_pop_16 (fun s1 H locs h I => ?_)
    refine lv_aload_n hx hb dX4_pop_19 rfl (lv_at hl 0 rfl) ?_
    refine sg_getr X I fk_X4_20 (j := 28) (by decide) shC_21 rfl dX4_pop_20 ?_
    refine lv_aload_n hx hb dX4_pop_23 rfl (lv_at hl 0 rfl) ?_
    refine sg_geti X I fk_X4_40 (by decide) shC_21 rfl dX4_pop_24 ?_
    refine sg_iald X I (by decide) shC_28 h dX4_pop_27 (fun v2 h => ?_)
    obtain rfl := Option.some.inj h
    exact hk _ _ _ _ _ I ⟨_, rfl, rfl⟩ dX4_pop_28
  · have h := sg_iff h z
    refine lv_iconst (v := 0) hx hb dX4_pop_7 (by decide) ?_
    obtain rfl := Option.some.inj h
    exact hk _ _ _ _ _ I ⟨_, rfl, rfl⟩ dX4_pop_8
set_option maxHeartbeats 4000000 in
set_option maxRecDepth 100000 in
theorem c_X4_pop {l : Launch} {P : sgP} {N : Nat} {σ : sgS} {q : Int32 × sgS} (h : f_X4_pop N σ = some q) : sg_Mi P shC 332 l yX4_pop cX4_pop 1 (some .int) 1 [.ref (sgA P 21)] σ q := by
  refine sg_mki (plainFor_of_name (by decide +kernel)) (Nat.le_of_ble_eq_true rfl) ?_
  intro p e R s m args below meth c Q A ls H locs X I hl hk
  exact b_X4_pop X I hl h hk
def f_X4_hold (N : Nat) (p0 : Int64) (σ : sgS) : Option (Int32) :=
  if (lg_cmp p0 1000000) ≤ 0 then
  (if 0 ≤ (lg_cmp p0 ((-1000000))) then
    (some p0.toInt32)
  else
    (some ((-1000000))))
else
  (some 1000000)
set_option maxHeartbeats 4000000 in
set_option maxRecDepth 100000 in
theorem b_X4_hold {p : Program} {l : Launch} {e : Env} {R : Room} {s : State} {m : MethodId} {args : Array Value} {below : List Frame} {meth : Method} {c : Code} {Q : State → Prop} {P : sgP} {A : Nat → Prop} {N : Nat} {p0 : Int64} {σ : sgS} (X : sg_C P A 1 p R s m args c cX4_hold 2 RX4) {H : Heap} {locs : List Loc} (I : sg_I P shC 332 A s.heap σ H locs) {ls : Array Slot} (hl : lv_has ls 2 [(0, .long p0)]) {st : Int32} (h : f_X4_hold N p0 σ = some st) (hk : sg_Ri p l e R s m args below meth c Q P shC 332 A cX4_hold (some .int) (st, σ)) : W p l e R s m args below meth c H locs 0 0 Q (F0 m 0 ls []) := by
  unfold f_X4_hold at h
  have hx := X.1.1
  have hb := X.1.2.1
  have hown := X.1.2.2.2.1
  have hts := X.1.2.2.2.2
  refine lv_lload_n hx hb dX4_hold_0 rfl (lv_at hl 0 rfl) ?_
  refine lv_ldc2 (v := 1000000) hx hb hown (hts _ qw_738) dX4_hold_1 ?_
  refine W.lcmp hx hb dX4_hold_4 ?_
  refine lv_if_le (tgt := 11) hx hb dX4_hold_5 (by decide) (fun z => ?_) (fun z => ?_)
  · have h := sg_ift h z
    refine lv_lload_n hx hb dX4_hold_11 rfl (lv_at hl 0 rfl) ?_
    refine lv_ldc2 (v := -1000000) hx hb hown (hts _ qw_740) dX4_hold_12 ?_
    refine W.lcmp hx hb dX4_hold_15 ?_
    refine lv_if_ge (tgt := 24) hx hb dX4_hold_16 (by decide) (fun z => ?_) (fun z => ?_)
    · have h := sg_ift h z
      refine lv_lload_n hx hb dX4_hold_24 rfl (lv_at hl 0 rfl) ?_
      refine lv_l2i (v := p0.toInt32) hx hb dX4_hold_25 rfl ?_
      obtain rfl := Option.some.inj h
      exact hk _ _ _ _ _ I ⟨_, rfl, rfl⟩ dX4_hold_26
    · have h := sg_iff h z
      refine lv_ldc (v := -1000000) hx hb hown (hts _ qw_741) dX4_hold_19 ?_
      refine lv_goto (tgt := 26) hx hb dX4_hold_21 (by decide) ?_
      obtain rfl := Option.some.inj h
      exact hk _ _ _ _ _ I ⟨_, rfl, rfl⟩ dX4_hold_26
  · have h := sg_iff h z
    refine lv_ldc (v := 1000000) hx hb hown (hts _ qw_739) dX4_hold_8 ?_
    obtain rfl := Option.some.inj h
    exact hk _ _ _ _ _ I ⟨_, rfl, rfl⟩ dX4_hold_10
set_option maxHeartbeats 4000000 in
set_option maxRecDepth 100000 in
theorem c_X4_hold {l : Launch} {P : sgP} {N : Nat} {p0 : Int64} {σ : sgS} {q : Int32} (h : f_X4_hold N p0 σ = some q) : sg_Mi P shC 332 l yX4_hold cX4_hold 2 (some .int) 1 [.long p0] σ (q, σ) := by
  refine sg_mki (plainFor_of_name (by decide +kernel)) (Nat.le_of_ble_eq_true rfl) ?_
  intro p e R s m args below meth c Q A ls H locs X I hl hk
  exact b_X4_hold X I hl h hk
def f_X4_join (N : Nat) (p0 : Int32) (p1 : Int32) (p2 : Int32) (σ : sgS) : Option (Int32) :=
  if p0 = 38 then
  (some (p1 &&& p2))
else
  (if p0 = 39 then
    (some (p1 ||| p2))
  else
    (if p0 = 40 then
      (some (p1 ||| p2))
    else
      (if p0 = 41 then
        (some (p1 ||| p2))
      else
        (if p0 = 42 then
          (sg_cr (f_X4_hold N (p1.toInt64 * p2.toInt64) σ) fun v1 =>
          some v1)
        else
          (if p0 = 43 then
            (sg_cr (f_X4_hold N (p1.toInt64 + p2.toInt64) σ) fun v2 =>
            some v2)
          else
            (if p0 = 44 then
              (some (p1 ||| p2))
            else
              (if p0 = 45 then
                (sg_cr (f_X4_hold N (p1.toInt64 - p2.toInt64) σ) fun v3 =>
                some v3)
              else
                (if p0 = 46 then
                  (some (p1 ||| p2))
                else
                  (if p0 = 47 then
                    (if p2 = 0 then
                      (some 0)
                    else
                      (sg_nz p2 (
                        some (p1 / p2))))
                  else
                    (if p0 = 48 then
                      (some (p1 ||| p2))
                    else
                      (if p0 = 49 then
                        (some (p1 ||| p2))
                      else
                        (if p0 = 50 then
                          (some (p1 ||| p2))
                        else
                          (if p0 = 51 then
                            (some (p1 ||| p2))
                          else
                            (if p0 = 52 then
                              (some (p1 ||| p2))
                            else
                              (if p0 = 53 then
                                (some (p1 ||| p2))
                              else
                                (if p0 = 54 then
                                  (some (p1 ||| p2))
                                else
                                  (if p0 = 55 then
                                    (some (p1 ||| p2))
                                  else
                                    (if p0 = 56 then
                                      (some (p1 ||| p2))
                                    else
                                      (if p0 = 57 then
                                        (some (p1 ||| p2))
                                      else
                                        (if p0 = 58 then
                                          (some (p1 ||| p2))
                                        else
                                          (if p0 = 59 then
                                            (some (p1 ||| p2))
                                          else
                                            (if p0 = 60 then
                                              (if p2 ≤ p1 then
                                                (some 0)
                                              else
                                                (some 1))
                                            else
                                              (if p0 = 61 then
                                                (if p1 = p2 then
                                                  (some 1)
                                                else
                                                  (some 0))
                                              else
                                                (if p0 = 62 then
                                                  (if p1 ≤ p2 then
                                                    (some 0)
                                                  else
                                                    (some 1))
                                                else
                                                  (some (p1 ||| p2))))))))))))))))))))))))))
set_option maxHeartbeats 4000000 in
set_option maxRecDepth 100000 in
theorem b_X4_join {p : Program} {l : Launch} {e : Env} {R : Room} {s : State} {m : MethodId} {args : Array Value} {below : List Frame} {meth : Method} {c : Code} {Q : State → Prop} {P : sgP} {A : Nat → Prop} {N : Nat} {p0 : Int32} {p1 : Int32} {p2 : Int32} {σ : sgS} (X : sg_C P A 2 p R s m args c cX4_join 3 RX4) {H : Heap} {locs : List Loc} (I : sg_I P shC 332 A s.heap σ H locs) {ls : Array Slot} (hl : lv_has ls 3 [(0, .int p0), (1, .int p1), (2, .int p2)]) {st : Int32} (h : f_X4_join N p0 p1 p2 σ = some st) (hk : sg_Ri p l e R s m args below meth c Q P shC 332 A cX4_join (some .int) (st, σ)) : W p l e R s m args below meth c H locs 0 0 Q (F0 m 0 ls []) := by
  unfold f_X4_join at h
  have hx := X.1.1
  have hb := X.1.2.1
  have hown := X.1.2.2.2.1
  have hts := X.1.2.2.2.2
  refine lv_iload_n hx hb dX4_join_0 rfl (lv_at hl 0 rfl) ?_
  by_cases c0 : p0 = 38
  · have h := sg_ift h c0
    refine sg_swIn (k := 38) (off := 187) (tgt := 188) hx hb dX4_join_1 c0 (by decide) (by decide) (by decide +kernel) (by decide) ?_
    refine lv_iload_n hx hb dX4_join_188 rfl (lv_at hl 1 rfl) ?_
    refine lv_iload_n hx hb dX4_join_189 rfl (lv_at hl 2 rfl) ?_
    refine lv_iand hx hb dX4_join_190 ?_
    obtain rfl := Option.some.inj h
    exact hk _ _ _ _ _ I ⟨_, rfl, rfl⟩ dX4_join_191
  have h := sg_iff h c0
  have i0 := sg_ine (z := 38) (by decide) c0
  by_cases c1 : p0 = 39
  · have h := sg_ift h c1
    refine sg_swIn (k := 39) (off := 191) (tgt := 192) hx hb dX4_join_1 c1 (by decide) (by decide) (by decide +kernel) (by decide) ?_
    refine lv_iload_n hx hb dX4_join_192 rfl (lv_at hl 1 rfl) ?_
    refine lv_iload_n hx hb dX4_join_193 rfl (lv_at hl 2 rfl) ?_
    refine lv_ior hx hb dX4_join_194 ?_
    obtain rfl := Option.some.inj h
    exact hk _ _ _ _ _ I ⟨_, rfl, rfl⟩ dX4_join_195
  have h := sg_iff h c1
  have i1 := sg_ine (z := 39) (by decide) c1
  by_cases c2 : p0 = 40
  · have h := sg_ift h c2
    refine sg_swIn (k := 40) (off := 191) (tgt := 192) hx hb dX4_join_1 c2 (by decide) (by decide) (by decide +kernel) (by decide) ?_
    refine lv_iload_n hx hb dX4_join_192 rfl (lv_at hl 1 rfl) ?_
    refine lv_iload_n hx hb dX4_join_193 rfl (lv_at hl 2 rfl) ?_
    refine lv_ior hx hb dX4_join_194 ?_
    obtain rfl := Option.some.inj h
    exact hk _ _ _ _ _ I ⟨_, rfl, rfl⟩ dX4_join_195
  have h := sg_iff h c2
  have i2 := sg_ine (z := 40) (by decide) c2
  by_cases c3 : p0 = 41
  · have h := sg_ift h c3
    refine sg_swIn (k := 41) (off := 191) (tgt := 192) hx hb dX4_join_1 c3 (by decide) (by decide) (by decide +kernel) (by decide) ?_
    refine lv_iload_n hx hb dX4_join_192 rfl (lv_at hl 1 rfl) ?_
    refine lv_iload_n hx hb dX4_join_193 rfl (lv_at hl 2 rfl) ?_
    refine lv_ior hx hb dX4_join_194 ?_
    obtain rfl := Option.some.inj h
    exact hk _ _ _ _ _ I ⟨_, rfl, rfl⟩ dX4_join_195
  have h := sg_iff h c3
  have i3 := sg_ine (z := 41) (by decide) c3
  by_cases c4 : p0 = 42
  · have h := sg_ift h c4
    refine sg_swIn (k := 42) (off := 133) (tgt := 134) hx hb dX4_join_1 c4 (by decide) (by decide) (by decide +kernel) (by decide) ?_
    refine lv_iload_n hx hb dX4_join_134 rfl (lv_at hl 1 rfl) ?_
    refine lv_i2l (v := p1.toInt64) hx hb dX4_join_135 rfl ?_
    refine lv_iload_n hx hb dX4_join_136 rfl (lv_at hl 2 rfl) ?_
    refine lv_i2l (v := p2.toInt64) hx hb dX4_join_137 rfl ?_
    refine lv_lmul hx hb dX4_join_138 ?_
    refine sg_callSr (As := [.long (p1.toInt64 * p2.toInt64)]) X I mk_X4_55 (by decide) (fun q9 e9 => c_X4_hold e9) h hl.1 rfl rfl (Nat.le_of_ble_eq_true rfl) dX4_join_139 (fun v1 H locs h I => ?_)
    obtain rfl := Option.some.inj h
    exact hk _ _ _ _ _ I ⟨_, rfl, rfl⟩ dX4_join_142
  have h := sg_iff h c4
  have i4 := sg_ine (z := 42) (by decide) c4
  by_cases c5 : p0 = 43
  · have h := sg_ift h c5
    refine sg_swIn (k := 43) (off := 115) (tgt := 116) hx hb dX4_join_1 c5 (by decide) (by decide) (by decide +kernel) (by decide) ?_
    refine lv_iload_n hx hb dX4_join_116 rfl (lv_at hl 1 rfl) ?_
    refine lv_i2l (v := p1.toInt64) hx hb dX4_join_117 rfl ?_
    refine lv_iload_n hx hb dX4_join_118 rfl (lv_at hl 2 rfl) ?_
    refine lv_i2l (v := p2.toInt64) hx hb dX4_join_119 rfl ?_
    refine lv_ladd hx hb dX4_join_120 ?_
    refine sg_callSr (As := [.long (p1.toInt64 + p2.toInt64)]) X I mk_X4_55 (by decide) (fun q9 e9 => c_X4_hold e9) h hl.1 rfl rfl (Nat.le_of_ble_eq_true rfl) dX4_join_121 (fun v2 H locs h I => ?_)
    obtain rfl := Option.some.inj h
    exact hk _ _ _ _ _ I ⟨_, rfl, rfl⟩ dX4_join_124
  have h := sg_iff h c5
  have i5 := sg_ine (z := 43) (by decide) c5
  by_cases c6 : p0 = 44
  · have h := sg_ift h c6
    refine sg_swIn (k := 44) (off := 191) (tgt := 192) hx hb dX4_join_1 c6 (by decide) (by decide) (by decide +kernel) (by decide) ?_
    refine lv_iload_n hx hb dX4_join_192 rfl (lv_at hl 1 rfl) ?_
    refine lv_iload_n hx hb dX4_join_193 rfl (lv_at hl 2 rfl) ?_
    refine lv_ior hx hb dX4_join_194 ?_
    obtain rfl := Option.some.inj h
    exact hk _ _ _ _ _ I ⟨_, rfl, rfl⟩ dX4_join_195
  have h := sg_iff h c6
  have i6 := sg_ine (z := 44) (by decide) c6
  by_cases c7 : p0 = 45
  · have h := sg_ift h c7
    refine sg_swIn (k := 45) (off := 124) (tgt := 125) hx hb dX4_join_1 c7 (by decide) (by decide) (by decide +kernel) (by decide) ?_
    refine lv_iload_n hx hb dX4_join_125 rfl (lv_at hl 1 rfl) ?_
    refine lv_i2l (v := p1.toInt64) hx hb dX4_join_126 rfl ?_
    refine lv_iload_n hx hb dX4_join_127 rfl (lv_at hl 2 rfl) ?_
    refine lv_i2l (v := p2.toInt64) hx hb dX4_join_128 rfl ?_
    refine lv_lsub hx hb dX4_join_129 ?_
    refine sg_callSr (As := [.long (p1.toInt64 - p2.toInt64)]) X I mk_X4_55 (by decide) (fun q9 e9 => c_X4_hold e9) h hl.1 rfl rfl (Nat.le_of_ble_eq_true rfl) dX4_join_130 (fun v3 H locs h I => ?_)
    obtain rfl := Option.some.inj h
    exact hk _ _ _ _ _ I ⟨_, rfl, rfl⟩ dX4_join_133
  have h := sg_iff h c7
  have i7 := sg_ine (z := 45) (by decide) c7
  by_cases c8 : p0 = 46
  · have h := sg_ift h c8
    refine sg_swIn (k := 46) (off := 191) (tgt := 192) hx hb dX4_join_1 c8 (by decide) (by decide) (by decide +kernel) (by decide) ?_
    refine lv_iload_n hx hb dX4_join_192 rfl (lv_at hl 1 rfl) ?_
    refine lv_iload_n hx hb dX4_join_193 rfl (lv_at hl 2 rfl) ?_
    refine lv_ior hx hb dX4_join_194 ?_
    obtain rfl := Option.some.inj h
    exact hk _ _ _ _ _ I ⟨_, rfl, rfl⟩ dX4_join_195
  have h := sg_iff h c8
  have i8 := sg_ine (z := 46) (by decide) c8
  by_cases c9 : p0 = 47
  · have h := sg_ift h c9
    refine sg_swIn (k := 47) (off := 142) (tgt := 143) hx hb dX4_join_1 c9 (by decide) (by decide) (by decide +kernel) (by decide) ?_
    refine lv_iload_n hx hb dX4_join_143 rfl (lv_at hl 2 rfl) ?_
    refine lv_if_ne (tgt := 151) hx hb dX4_join_144 (by decide) (fun z => ?_) (fun z => ?_)
    · have h := sg_iff h z
      refine lv_iload_n hx hb dX4_join_151 rfl (lv_at hl 1 rfl) ?_
      refine lv_iload_n hx hb dX4_join_152 rfl (lv_at hl 2 rfl) ?_
      refine sg_nzW (h := h) (fun z h => ?_)
      refine lv_idiv hx hb dX4_join_153 z ?_
      obtain rfl := Option.some.inj h
      exact hk _ _ _ _ _ I ⟨_, rfl, rfl⟩ dX4_join_154
    · have h := sg_ift h z
      refine lv_iconst (v := 0) hx hb dX4_join_147 (by decide) ?_
      refine lv_goto (tgt := 154) hx hb dX4_join_148 (by decide) ?_
      obtain rfl := Option.some.inj h
      exact hk _ _ _ _ _ I ⟨_, rfl, rfl⟩ dX4_join_154
  have h := sg_iff h c9
  have i9 := sg_ine (z := 47) (by decide) c9
  by_cases c10 : p0 = 48
  · have h := sg_ift h c10
    refine sg_swIn (k := 48) (off := 191) (tgt := 192) hx hb dX4_join_1 c10 (by decide) (by decide) (by decide +kernel) (by decide) ?_
    refine lv_iload_n hx hb dX4_join_192 rfl (lv_at hl 1 rfl) ?_
    refine lv_iload_n hx hb dX4_join_193 rfl (lv_at hl 2 rfl) ?_
    refine lv_ior hx hb dX4_join_194 ?_
    obtain rfl := Option.some.inj h
    exact hk _ _ _ _ _ I ⟨_, rfl, rfl⟩ dX4_join_195
  have h := sg_iff h c10
  have i10 := sg_ine (z := 48) (by decide) c10
  by_cases c11 : p0 = 49
  · have h := sg_ift h c11
    refine sg_swIn (k := 49) (off := 191) (tgt := 192) hx hb dX4_join_1 c11 (by decide) (by decide) (by decide +kernel) (by decide) ?_
    refine lv_iload_n hx hb dX4_join_192 rfl (lv_at hl 1 rfl) ?_
    refine lv_iload_n hx hb dX4_join_193 rfl (lv_at hl 2 rfl) ?_
    refine lv_ior hx hb dX4_join_194 ?_
    obtain rfl := Option.some.inj h
    exact hk _ _ _ _ _ I ⟨_, rfl, rfl⟩ dX4_join_195
  have h := sg_iff h c11
  have i11 := sg_ine (z := 49) (by decide) c11
  by_cases c12 : p0 = 50
  · have h := sg_ift h c12
    refine sg_swIn (k := 50) (off := 191) (tgt := 192) hx hb dX4_join_1 c12 (by decide) (by decide) (by decide +kernel) (by decide) ?_
    refine lv_iload_n hx hb dX4_join_192 rfl (lv_at hl 1 rfl) ?_
    refine lv_iload_n hx hb dX4_join_193 rfl (lv_at hl 2 rfl) ?_
    refine lv_ior hx hb dX4_join_194 ?_
    obtain rfl := Option.some.inj h
    exact hk _ _ _ _ _ I ⟨_, rfl, rfl⟩ dX4_join_195
  have h := sg_iff h c12
  have i12 := sg_ine (z := 50) (by decide) c12
  by_cases c13 : p0 = 51
  · have h := sg_ift h c13
    refine sg_swIn (k := 51) (off := 191) (tgt := 192) hx hb dX4_join_1 c13 (by decide) (by decide) (by decide +kernel) (by decide) ?_
    refine lv_iload_n hx hb dX4_join_192 rfl (lv_at hl 1 rfl) ?_
    refine lv_iload_n hx hb dX4_join_193 rfl (lv_at hl 2 rfl) ?_
    refine lv_ior hx hb dX4_join_194 ?_
    obtain rfl := Option.some.inj h
    exact hk _ _ _ _ _ I ⟨_, rfl, rfl⟩ dX4_join_195
  have h := sg_iff h c13
  have i13 := sg_ine (z := 51) (by decide) c13
  by_cases c14 : p0 = 52
  · have h := sg_ift h c14
    refine sg_swIn (k := 52) (off := 191) (tgt := 192) hx hb dX4_join_1 c14 (by decide) (by decide) (by decide +kernel) (by decide) ?_
    refine lv_iload_n hx hb dX4_join_192 rfl (lv_at hl 1 rfl) ?_
    refine lv_iload_n hx hb dX4_join_193 rfl (lv_at hl 2 rfl) ?_
    refine lv_ior hx hb dX4_join_194 ?_
    obtain rfl := Option.some.inj h
    exact hk _ _ _ _ _ I ⟨_, rfl, rfl⟩ dX4_join_195
  have h := sg_iff h c14
  have i14 := sg_ine (z := 52) (by decide) c14
  by_cases c15 : p0 = 53
  · have h := sg_ift h c15
    refine sg_swIn (k := 53) (off := 191) (tgt := 192) hx hb dX4_join_1 c15 (by decide) (by decide) (by decide +kernel) (by decide) ?_
    refine lv_iload_n hx hb dX4_join_192 rfl (lv_at hl 1 rfl) ?_
    refine lv_iload_n hx hb dX4_join_193 rfl (lv_at hl 2 rfl) ?_
    refine lv_ior hx hb dX4_join_194 ?_
    obtain rfl := Option.some.inj h
    exact hk _ _ _ _ _ I ⟨_, rfl, rfl⟩ dX4_join_195
  have h := sg_iff h c15
  have i15 := sg_ine (z := 53) (by decide) c15
  by_cases c16 : p0 = 54
  · have h := sg_ift h c16
    refine sg_swIn (k := 54) (off := 191) (tgt := 192) hx hb dX4_join_1 c16 (by decide) (by decide) (by decide +kernel) (by decide) ?_
    refine lv_iload_n hx hb dX4_join_192 rfl (lv_at hl 1 rfl) ?_
    refine lv_iload_n hx hb dX4_join_193 rfl (lv_at hl 2 rfl) ?_
    refine lv_ior hx hb dX4_join_194 ?_
    obtain rfl := Option.some.inj h
    exact hk _ _ _ _ _ I ⟨_, rfl, rfl⟩ dX4_join_195
  have h := sg_iff h c16
  have i16 := sg_ine (z := 54) (by decide) c16
  by_cases c17 : p0 = 55
  · have h := sg_ift h c17
    refine sg_swIn (k := 55) (off := 191) (tgt := 192) hx hb dX4_join_1 c17 (by decide) (by decide) (by decide +kernel) (by decide) ?_
    refine lv_iload_n hx hb dX4_join_192 rfl (lv_at hl 1 rfl) ?_
    refine lv_iload_n hx hb dX4_join_193 rfl (lv_at hl 2 rfl) ?_
    refine lv_ior hx hb dX4_join_194 ?_
    obtain rfl := Option.some.inj h
    exact hk _ _ _ _ _ I ⟨_, rfl, rfl⟩ dX4_join_195
  have h := sg_iff h c17
  have i17 := sg_ine (z := 55) (by decide) c17
  by_cases c18 : p0 = 56
  · have h := sg_ift h c18
    refine sg_swIn (k := 56) (off := 191) (tgt := 192) hx hb dX4_join_1 c18 (by decide) (by decide) (by decide +kernel) (by decide) ?_
    refine lv_iload_n hx hb dX4_join_192 rfl (lv_at hl 1 rfl) ?_
    refine lv_iload_n hx hb dX4_join_193 rfl (lv_at hl 2 rfl) ?_
    refine lv_ior hx hb dX4_join_194 ?_
    obtain rfl := Option.some.inj h
    exact hk _ _ _ _ _ I ⟨_, rfl, rfl⟩ dX4_join_195
  have h := sg_iff h c18
  have i18 := sg_ine (z := 56) (by decide) c18
  by_cases c19 : p0 = 57
  · have h := sg_ift h c19
    refine sg_swIn (k := 57) (off := 191) (tgt := 192) hx hb dX4_join_1 c19 (by decide) (by decide) (by decide +kernel) (by decide) ?_
    refine lv_iload_n hx hb dX4_join_192 rfl (lv_at hl 1 rfl) ?_
    refine lv_iload_n hx hb dX4_join_193 rfl (lv_at hl 2 rfl) ?_
    refine lv_ior hx hb dX4_join_194 ?_
    obtain rfl := Option.some.inj h
    exact hk _ _ _ _ _ I ⟨_, rfl, rfl⟩ dX4_join_195
  have h := sg_iff h c19
  have i19 := sg_ine (z := 57) (by decide) c19
  by_cases c20 : p0 = 58
  · have h := sg_ift h c20
    refine sg_swIn (k := 58) (off := 191) (tgt := 192) hx hb dX4_join_1 c20 (by decide) (by decide) (by decide +kernel) (by decide) ?_
    refine lv_iload_n hx hb dX4_join_192 rfl (lv_at hl 1 rfl) ?_
    refine lv_iload_n hx hb dX4_join_193 rfl (lv_at hl 2 rfl) ?_
    refine lv_ior hx hb dX4_join_194 ?_
    obtain rfl := Option.some.inj h
    exact hk _ _ _ _ _ I ⟨_, rfl, rfl⟩ dX4_join_195
  have h := sg_iff h c20
  have i20 := sg_ine (z := 58) (by decide) c20
  by_cases c21 : p0 = 59
  · have h := sg_ift h c21
    refine sg_swIn (k := 59) (off := 191) (tgt := 192) hx hb dX4_join_1 c21 (by decide) (by decide) (by decide +kernel) (by decide) ?_
    refine lv_iload_n hx hb dX4_join_192 rfl (lv_at hl 1 rfl) ?_
    refine lv_iload_n hx hb dX4_join_193 rfl (lv_at hl 2 rfl) ?_
    refine lv_ior hx hb dX4_join_194 ?_
    obtain rfl := Option.some.inj h
    exact hk _ _ _ _ _ I ⟨_, rfl, rfl⟩ dX4_join_195
  have h := sg_iff h c21
  have i21 := sg_ine (z := 59) (by decide) c21
  by_cases c22 : p0 = 60
  · have h := sg_ift h c22
    refine sg_swIn (k := 60) (off := 165) (tgt := 166) hx hb dX4_join_1 c22 (by decide) (by decide) (by decide +kernel) (by decide) ?_
    refine lv_iload_n hx hb dX4_join_166 rfl (lv_at hl 1 rfl) ?_
    refine lv_iload_n hx hb dX4_join_167 rfl (lv_at hl 2 rfl) ?_
    refine lv_icmp_ge (tgt := 175) hx hb dX4_join_168 (by decide) (fun z => ?_) (fun z => ?_)
    · have h := sg_ift h z
      refine lv_iconst (v := 0) hx hb dX4_join_175 (by decide) ?_
      obtain rfl := Option.some.inj h
      exact hk _ _ _ _ _ I ⟨_, rfl, rfl⟩ dX4_join_176
    · have h := sg_iff h z
      refine lv_iconst (v := 1) hx hb dX4_join_171 (by decide) ?_
      refine lv_goto (tgt := 176) hx hb dX4_join_172 (by decide) ?_
      obtain rfl := Option.some.inj h
      exact hk _ _ _ _ _ I ⟨_, rfl, rfl⟩ dX4_join_176
  have h := sg_iff h c22
  have i22 := sg_ine (z := 60) (by decide) c22
  by_cases c23 : p0 = 61
  · have h := sg_ift h c23
    refine sg_swIn (k := 61) (off := 154) (tgt := 155) hx hb dX4_join_1 c23 (by decide) (by decide) (by decide +kernel) (by decide) ?_
    refine lv_iload_n hx hb dX4_join_155 rfl (lv_at hl 1 rfl) ?_
    refine lv_iload_n hx hb dX4_join_156 rfl (lv_at hl 2 rfl) ?_
    refine lv_icmp_ne (tgt := 164) hx hb dX4_join_157 (by decide) (fun z => ?_) (fun z => ?_)
    · have h := sg_iff h z
      refine lv_iconst (v := 0) hx hb dX4_join_164 (by decide) ?_
      obtain rfl := Option.some.inj h
      exact hk _ _ _ _ _ I ⟨_, rfl, rfl⟩ dX4_join_165
    · have h := sg_ift h z
      refine lv_iconst (v := 1) hx hb dX4_join_160 (by decide) ?_
      refine lv_goto (tgt := 165) hx hb dX4_join_161 (by decide) ?_
      obtain rfl := Option.some.inj h
      exact hk _ _ _ _ _ I ⟨_, rfl, rfl⟩ dX4_join_165
  have h := sg_iff h c23
  have i23 := sg_ine (z := 61) (by decide) c23
  by_cases c24 : p0 = 62
  · have h := sg_ift h c24
    refine sg_swIn (k := 62) (off := 176) (tgt := 177) hx hb dX4_join_1 c24 (by decide) (by decide) (by decide +kernel) (by decide) ?_
    refine lv_iload_n hx hb dX4_join_177 rfl (lv_at hl 1 rfl) ?_
    refine lv_iload_n hx hb dX4_join_178 rfl (lv_at hl 2 rfl) ?_
    refine lv_icmp_le (tgt := 186) hx hb dX4_join_179 (by decide) (fun z => ?_) (fun z => ?_)
    · have h := sg_ift h z
      refine lv_iconst (v := 0) hx hb dX4_join_186 (by decide) ?_
      obtain rfl := Option.some.inj h
      exact hk _ _ _ _ _ I ⟨_, rfl, rfl⟩ dX4_join_187
    · have h := sg_iff h z
      refine lv_iconst (v := 1) hx hb dX4_join_182 (by decide) ?_
      refine lv_goto (tgt := 187) hx hb dX4_join_183 (by decide) ?_
      obtain rfl := Option.some.inj h
      exact hk _ _ _ _ _ I ⟨_, rfl, rfl⟩ dX4_join_187
  have h := sg_iff h c24
  have i24 := sg_ine (z := 62) (by decide) c24
  refine lv_tableOut (tgt := 192) hx hb dX4_join_1 (by omega) (by decide) ?_
  refine lv_iload_n hx hb dX4_join_192 rfl (lv_at hl 1 rfl) ?_
  refine lv_iload_n hx hb dX4_join_193 rfl (lv_at hl 2 rfl) ?_
  refine lv_ior hx hb dX4_join_194 ?_
  obtain rfl := Option.some.inj h
  exact hk _ _ _ _ _ I ⟨_, rfl, rfl⟩ dX4_join_195
set_option maxHeartbeats 4000000 in
set_option maxRecDepth 100000 in
theorem c_X4_join {l : Launch} {P : sgP} {N : Nat} {p0 : Int32} {p1 : Int32} {p2 : Int32} {σ : sgS} {q : Int32} (h : f_X4_join N p0 p1 p2 σ = some q) : sg_Mi P shC 332 l yX4_join cX4_join 3 (some .int) 2 [.int p0, .int p1, .int p2] σ (q, σ) := by
  refine sg_mki (plainFor_of_name (by decide +kernel)) (Nat.le_of_ble_eq_true rfl) ?_
  intro p e R s m args below meth c Q A ls H locs X I hl hk
  exact b_X4_join X I hl h hk
def f_X4_worth_L29 (N : Nat) (p1 : Nat) (p1n : Nat) (j3 : Nat) (x3 : Int32) (x4 : Int32) (σ : sgS) : Option ((Int32 × sgS) ⊕ ((sgS × Int32 × Int32) ⊕ (sgS))) :=
  sg_ld σ 27 4 (σ.1 21 5) fun v5 =>
if v5 ≤ x4 then
  (some (.inr (.inr σ)))
else
  (if 240 ≤ x4 then
    (some (.inr (.inr σ)))
  else
    (sg_ld σ (23 + j3) 240 x4 fun v6 =>
    if x3 = 0 then
      (if 10000 ≤ v6 then
        (if (Int32.ofNat p1n) ≤ (v6 - 10000) then
          (if v6 = 20059 then
            (sg_cl (f_X4_pop N σ) fun v20 s21 =>
            some (.inl (v20, s21)))
          else
            (if v6 = 20063 then
              (sg_cl (f_X4_pop N σ) fun v18 s19 =>
              if v18 = 0 then
                (some (.inr (.inl (s19, 1, x4 + 1))))
              else
                (some (.inr (.inl (s19, 0, x4 + 1)))))
            else
              (if v6 = 20033 then
                (sg_cl (f_X4_pop N σ) fun v14 s15 =>
                sg_cl (f_X4_push N (1 - v14) s15) fun v16 s17 =>
                some (.inr (.inl (s17, x3, x4 + 1))))
              else
                (sg_cl (f_X4_pop N σ) fun v7 s8 =>
                sg_cl (f_X4_pop N s8) fun v9 s10 =>
                sg_cr (f_X4_join N (v6 - 20000) v9 v7 s10) fun v11 =>
                sg_cl (f_X4_push N v11 s10) fun v12 s13 =>
                some (.inr (.inl (s13, x3, x4 + 1)))))))
        else
          (sg_ld σ p1 p1n (v6 - 10000) fun v22 =>
          sg_cl (f_X4_push N v22 σ) fun v23 s24 =>
          some (.inr (.inl (s24, x3, x4 + 1)))))
      else
        (sg_cl (f_X4_push N v6 σ) fun v25 s26 =>
        some (.inr (.inl (s26, x3, x4 + 1)))))
    else
      (if v6 = 20059 then
        (some (.inr (.inl (σ, 0, x4 + 1))))
      else
        (some (.inr (.inl (σ, 1, x4 + 1)))))))
set_option maxHeartbeats 4000000 in
set_option maxRecDepth 100000 in
theorem b_X4_worth_L29 {p : Program} {l : Launch} {e : Env} {R : Room} {s : State} {m : MethodId} {args : Array Value} {below : List Frame} {meth : Method} {c : Code} {Q : State → Prop} {P : sgP} {A : Nat → Prop} {N : Nat} {p1 : Nat} {p1n : Nat} {j3 : Nat} {x3 : Int32} {x4 : Int32} {σ : sgS} (X : sg_C P A 3 p R s m args c cX4_worth 7 RX4) (hp1 : p1 < 332) (gp1 : shC p1 = .inr (0, p1n, sg_g0)) (hj3 : j3 < 4) {H : Heap} {locs : List Loc} (I : sg_I P shC 332 A s.heap σ H locs) {ls : Array Slot} (hl : lv_has ls 7 [(0, .ref (sgA P 21)), (1, .ref (sgA P p1)), (2, .ref (sgA P (23 + j3))), (3, .int x3), (4, .int x4)]) {st : (Int32 × sgS) ⊕ ((sgS × Int32 × Int32) ⊕ (sgS))} (h : f_X4_worth_L29 N p1 p1n j3 x3 x4 σ = some st) (hk : sg_k3 (sg_Ri p l e R s m args below meth c Q P shC 332 A cX4_worth (some .int)) (fun x => sg_Wt p l e R s m args below meth c Q P shC 332 A 7 29 x.1 [(0, .ref (sgA P 21)), (1, .ref (sgA P p1)), (2, .ref (sgA P (23 + j3))), (3, .int x.2.1), (4, .int x.2.2)]) (fun y => sg_Wt p l e R s m args below meth c Q P shC 332 A 7 209 y []) st) : W p l e R s m args below meth c H locs 0 0 Q (F0 m 29 ls []) := by
  unfold f_X4_worth_L29 at h
  have hx := X.1.1
  have hb := X.1.2.1
  have hown := X.1.2.2.2.1
  have hts := X.1.2.2.2.2
  refine lv_iload hx hb dX4_worth_29 (lv_at hl 4 rfl) ?_
  refine lv_aload_n hx hb dX4_worth_31 rfl (lv_at hl 0 rfl) ?_
  refine sg_getr X I fk_X4_16 (j := 27) (by decide) shC_21 rfl dX4_worth_32 ?_
  refine lv_aload_n hx hb dX4_worth_35 rfl (lv_at hl 0 rfl) ?_
  refine sg_geti X I fk_X4_23 (by decide) shC_21 rfl dX4_worth_36 ?_
  refine sg_iald X I (by decide) shC_27 h dX4_worth_39 (fun v5 h => ?_)
  refine lv_icmp_ge (tgt := 209) hx hb dX4_worth_40 (by decide) (fun z => ?_) (fun z => ?_)
  · have h := sg_ift h z
    obtain rfl := Option.some.inj h
    exact sg_go hk I (lv_sub hl [] rfl)
  · have h := sg_iff h z
    refine lv_iload hx hb dX4_worth_43 (lv_at hl 4 rfl) ?_
    refine lv_aload_n hx hb dX4_worth_45 rfl (lv_at hl 2 rfl) ?_
    refine sg_alen X I (v := 240) (shC_22i hj3) (shC_22s hj3) rfl dX4_worth_46 ?_
    refine lv_icmp_ge (tgt := 209) hx hb dX4_worth_47 (by decide) (fun z => ?_) (fun z => ?_)
    · have h := sg_ift h z
      obtain rfl := Option.some.inj h
      exact sg_go hk I (lv_sub hl [] rfl)
    · have h := sg_iff h z
      refine lv_aload_n hx hb dX4_worth_50 rfl (lv_at hl 2 rfl) ?_
      refine lv_iload hx hb dX4_worth_51 (lv_at hl 4 rfl) ?_
      refine sg_iald X I (shC_22i hj3) (shC_22s hj3) h dX4_worth_53 (fun v6 h => ?_)
      refine lv_istore (lv' := [(5, .int v6), (0, .ref (sgA P 21)), (1, .ref (sgA P p1)), (2, .ref (sgA P (23 + j3))), (3, .int x3), (4, .int x4)]) hx hb dX4_worth_54 hl (by decide) rfl (fun ls hl => ?_)
      refine lv_iload_n hx hb dX4_worth_56 rfl (lv_at hl 4 rfl) ?_
      refine lv_if_eq (tgt := 77) hx hb dX4_worth_57 (by decide) (fun z => ?_) (fun z => ?_)
      · have h := sg_ift h z
        refine lv_iload hx hb dX4_worth_77 (lv_at hl 0 rfl) ?_
        refine lv_sipush (v := 10000) hx hb dX4_worth_79 (by decide) ?_
        refine lv_icmp_ge (tgt := 94) hx hb dX4_worth_82 (by decide) (fun z => ?_) (fun z => ?_)
        · have h := sg_ift h z
          refine lv_iload hx hb dX4_worth_94 (lv_at hl 0 rfl) ?_
          refine lv_sipush (v := 10000) hx hb dX4_worth_96 (by decide) ?_
          refine lv_isub hx hb dX4_worth_99 ?_
          refine lv_aload_n hx hb dX4_worth_100 rfl (lv_at hl 2 rfl) ?_
          refine sg_alen X I (v := Int32.ofNat p1n) hp1 gp1 rfl dX4_worth_101 ?_
          refine lv_icmp_ge (tgt := 120) hx hb dX4_worth_102 (by decide) (fun z => ?_) (fun z => ?_)
          · have h := sg_ift h z
            refine lv_iload hx hb dX4_worth_120 (lv_at hl 0 rfl) ?_
            refine lv_sipush (v := 20059) hx hb dX4_worth_122 (by decide) ?_
            refine lv_icmp_ne (tgt := 133) hx hb dX4_worth_125 (by decide) (fun z => ?_) (fun z => ?_)
            · have h := sg_iff h z
              refine lv_iload hx hb dX4_worth_133 (lv_at hl 0 rfl) ?_
              refine lv_sipush (v := 20063) hx hb dX4_worth_135 (by decide) ?_
              refine lv_icmp_ne (tgt := 157) hx hb dX4_worth_138 (by decide) (fun z => ?_) (fun z => ?_)
              · have h := sg_iff h z
                refine lv_iload hx hb dX4_worth_157 (lv_at hl 0 rfl) ?_
                refine lv_sipush (v := 20033) hx hb dX4_worth_159 (by decide) ?_
                refine lv_icmp_ne (tgt := 178) hx hb dX4_worth_162 (by decide) (fun z => ?_) (fun z => ?_)
                · have h := sg_iff h z
                  refine lv_aload_n hx hb dX4_worth_178 rfl (lv_at hl 1 rfl) ?_
                  refine sg_callV (As := []) X I mk_X4_47 (by decide) (by decide) shC_21 rfl (fun q9 e9 => c_X4_pop e9) h hl.1 rfl rfl (Nat.le_of_ble_eq_true rfl) dX4_worth_179 (fun v7 s8 H locs h I => ?_)
                  refine lv_istore (lv' := [(6, .int v7), (5, .int v6), (0, .ref (sgA P 21)), (1, .ref (sgA P p1)), (2, .ref (sgA P (23 + j3))), (3, .int x3), (4, .int x4)]) hx hb dX4_worth_182 hl (by decide) rfl (fun ls hl => ?_)
                  refine lv_aload_n hx hb dX4_worth_184 rfl (lv_at hl 2 rfl) ?_
                  refine lv_iload hx hb dX4_worth_185 (lv_at hl 1 rfl) ?_
                  refine lv_sipush (v := 20000) hx hb dX4_worth_187 (by decide) ?_
                  refine lv_isub hx hb dX4_worth_190 ?_
                  refine lv_aload_n hx hb dX4_worth_191 rfl (lv_at hl 2 rfl) ?_
                  refine sg_callV (As := []) X I mk_X4_47 (by decide) (by decide) shC_21 rfl (fun q9 e9 => c_X4_pop e9) h hl.1 rfl rfl (Nat.le_of_ble_eq_true rfl) dX4_worth_192 (fun v9 s10 H locs h I => ?_)
                  refine lv_iload hx hb dX4_worth_195 (lv_at hl 0 rfl) ?_
                  refine sg_callSr (As := [.int (v6 - 20000), .int v9, .int v7]) X I mk_X4_51 (by decide) (fun q9 e9 => c_X4_join e9) h hl.1 rfl rfl (Nat.le_of_ble_eq_true rfl) dX4_worth_197 (fun v11 H locs h I => ?_)
                  refine sg_callVv (As := [.int v11]) X I mk_X4_43 (by decide) (by decide) shC_21 rfl (fun q9 e9 => c_X4_push e9) h hl.1 rfl rfl (Nat.le_of_ble_eq_true rfl) dX4_worth_200 (fun v12 s13 H locs h I => ?_)
                  refine lv_iinc (v := x4 + 1) (lv' := [(4, .int (x4 + 1)), (6, .int v7), (5, .int v6), (0, .ref (sgA P 21)), (1, .ref (sgA P p1)), (2, .ref (sgA P (23 + j3))), (3, .int x3)]) hx hb dX4_worth_203 hl (k := 6) rfl rfl (by decide) rfl (fun ls hl => ?_)
                  refine lv_goto (tgt := 29) hx hb dX4_worth_206 (by decide) ?_
                  obtain rfl := Option.some.inj h
                  exact sg_go hk I (lv_sub hl [3, 4, 5, 6, 0] rfl)
                · have h := sg_ift h z
                  refine lv_aload_n hx hb dX4_worth_165 rfl (lv_at hl 1 rfl) ?_
                  refine lv_iconst (v := 1) hx hb dX4_worth_166 (by decide) ?_
                  refine lv_aload_n hx hb dX4_worth_167 rfl (lv_at hl 1 rfl) ?_
                  refine sg_callV (As := []) X I mk_X4_47 (by decide) (by decide) shC_21 rfl (fun q9 e9 => c_X4_pop e9) h hl.1 rfl rfl (Nat.le_of_ble_eq_true rfl) dX4_worth_168 (fun v14 s15 H locs h I => ?_)
                  refine lv_isub hx hb dX4_worth_171 ?_
                  refine sg_callVv (As := [.int (1 - v14)]) X I mk_X4_43 (by decide) (by decide) shC_21 rfl (fun q9 e9 => c_X4_push e9) h hl.1 rfl rfl (Nat.le_of_ble_eq_true rfl) dX4_worth_172 (fun v16 s17 H locs h I => ?_)
                  refine lv_goto (tgt := 203) hx hb dX4_worth_175 (by decide) ?_
                  refine lv_iinc (v := x4 + 1) (lv' := [(4, .int (x4 + 1)), (5, .int v6), (0, .ref (sgA P 21)), (1, .ref (sgA P p1)), (2, .ref (sgA P (23 + j3))), (3, .int x3)]) hx hb dX4_worth_203 hl (k := 5) rfl rfl (by decide) rfl (fun ls hl => ?_)
                  refine lv_goto (tgt := 29) hx hb dX4_worth_206 (by decide) ?_
                  obtain rfl := Option.some.inj h
                  exact sg_go hk I (lv_sub hl [2, 3, 4, 5, 0] rfl)
              · have h := sg_ift h z
                refine lv_aload_n hx hb dX4_worth_141 rfl (lv_at hl 1 rfl) ?_
                refine sg_callV (As := []) X I mk_X4_47 (by decide) (by decide) shC_21 rfl (fun q9 e9 => c_X4_pop e9) h hl.1 rfl rfl (Nat.le_of_ble_eq_true rfl) dX4_worth_142 (fun v18 s19 H locs h I => ?_)
                refine lv_if_ne (tgt := 152) hx hb dX4_worth_145 (by decide) (fun z => ?_) (fun z => ?_)
                · have h := sg_iff h z
                  refine lv_iconst (v := 0) hx hb dX4_worth_152 (by decide) ?_
                  refine lv_istore_n (lv' := [(3, .int 0), (5, .int v6), (0, .ref (sgA P 21)), (1, .ref (sgA P p1)), (2, .ref (sgA P (23 + j3))), (4, .int x4)]) hx hb dX4_worth_153 rfl hl (by decide) rfl (fun ls hl => ?_)
                  refine lv_goto (tgt := 203) hx hb dX4_worth_154 (by decide) ?_
                  refine lv_iinc (v := x4 + 1) (lv' := [(4, .int (x4 + 1)), (3, .int 0), (5, .int v6), (0, .ref (sgA P 21)), (1, .ref (sgA P p1)), (2, .ref (sgA P (23 + j3)))]) hx hb dX4_worth_203 hl (k := 5) rfl rfl (by decide) rfl (fun ls hl => ?_)
                  refine lv_goto (tgt := 29) hx hb dX4_worth_206 (by decide) ?_
                  obtain rfl := Option.some.inj h
                  exact sg_go hk I (lv_sub hl [3, 4, 5, 1, 0] rfl)
                · have h := sg_ift h z
                  refine lv_iconst (v := 1) hx hb dX4_worth_148 (by decide) ?_
                  refine lv_goto (tgt := 153) hx hb dX4_worth_149 (by decide) ?_
                  refine lv_istore_n (lv' := [(3, .int 1), (5, .int v6), (0, .ref (sgA P 21)), (1, .ref (sgA P p1)), (2, .ref (sgA P (23 + j3))), (4, .int x4)]) hx hb dX4_worth_153 rfl hl (by decide) rfl (fun ls hl => ?_)
                  refine lv_goto (tgt := 203) hx hb dX4_worth_154 (by decide) ?_
                  refine lv_iinc (v := x4 + 1) (lv' := [(4, .int (x4 + 1)), (3, .int 1), (5, .int v6), (0, .ref (sgA P 21)), (1, .ref (sgA P p1)), (2, .ref (sgA P (23 + j3)))]) hx hb dX4_worth_203 hl (k := 5) rfl rfl (by decide) rfl (fun ls hl => ?_)
                  refine lv_goto (tgt := 29) hx hb dX4_worth_206 (by decide) ?_
                  obtain rfl := Option.some.inj h
                  exact sg_go hk I (lv_sub hl [3, 4, 5, 1, 0] rfl)
            · have h := sg_ift h z
              refine lv_aload_n hx hb dX4_worth_128 rfl (lv_at hl 1 rfl) ?_
              refine sg_callV (As := []) X I mk_X4_47 (by decide) (by decide) shC_21 rfl (fun q9 e9 => c_X4_pop e9) h hl.1 rfl rfl (Nat.le_of_ble_eq_true rfl) dX4_worth_129 (fun v20 s21 H locs h I => ?_)
              obtain rfl := Option.some.inj h
              exact hk _ _ _ _ _ I ⟨_, rfl, rfl⟩ dX4_worth_132
          · have h := sg_iff h z
            refine lv_aload_n hx hb dX4_worth_105 rfl (lv_at hl 1 rfl) ?_
            refine lv_aload_n hx hb dX4_worth_106 rfl (lv_at hl 2 rfl) ?_
            refine lv_iload hx hb dX4_worth_107 (lv_at hl 0 rfl) ?_
            refine lv_sipush (v := 10000) hx hb dX4_worth_109 (by decide) ?_
            refine lv_isub hx hb dX4_worth_112 ?_
            refine sg_iald X I hp1 gp1 h dX4_worth_113 (fun v22 h => ?_)
            refine sg_callVv (As := [.int v22]) X I mk_X4_43 (by decide) (by decide) shC_21 rfl (fun q9 e9 => c_X4_push e9) h hl.1 rfl rfl (Nat.le_of_ble_eq_true rfl) dX4_worth_114 (fun v23 s24 H locs h I => ?_)
            refine lv_goto (tgt := 203) hx hb dX4_worth_117 (by decide) ?_
            refine lv_iinc (v := x4 + 1) (lv' := [(4, .int (x4 + 1)), (5, .int v6), (0, .ref (sgA P 21)), (1, .ref (sgA P p1)), (2, .ref (sgA P (23 + j3))), (3, .int x3)]) hx hb dX4_worth_203 hl (k := 5) rfl rfl (by decide) rfl (fun ls hl => ?_)
            refine lv_goto (tgt := 29) hx hb dX4_worth_206 (by decide) ?_
            obtain rfl := Option.some.inj h
            exact sg_go hk I (lv_sub hl [2, 3, 4, 5, 0] rfl)
        · have h := sg_iff h z
          refine lv_aload_n hx hb dX4_worth_85 rfl (lv_at hl 1 rfl) ?_
          refine lv_iload hx hb dX4_worth_86 (lv_at hl 0 rfl) ?_
          refine sg_callVv (As := [.int v6]) X I mk_X4_43 (by decide) (by decide) shC_21 rfl (fun q9 e9 => c_X4_push e9) h hl.1 rfl rfl (Nat.le_of_ble_eq_true rfl) dX4_worth_88 (fun v25 s26 H locs h I => ?_)
          refine lv_goto (tgt := 203) hx hb dX4_worth_91 (by decide) ?_
          refine lv_iinc (v := x4 + 1) (lv' := [(4, .int (x4 + 1)), (5, .int v6), (0, .ref (sgA P 21)), (1, .ref (sgA P p1)), (2, .ref (sgA P (23 + j3))), (3, .int x3)]) hx hb dX4_worth_203 hl (k := 5) rfl rfl (by decide) rfl (fun ls hl => ?_)
          refine lv_goto (tgt := 29) hx hb dX4_worth_206 (by decide) ?_
          obtain rfl := Option.some.inj h
          exact sg_go hk I (lv_sub hl [2, 3, 4, 5, 0] rfl)
      · have h := sg_iff h z
        refine lv_iload hx hb dX4_worth_60 (lv_at hl 0 rfl) ?_
        refine lv_sipush (v := 20059) hx hb dX4_worth_62 (by decide) ?_
        refine lv_icmp_eq (tgt := 72) hx hb dX4_worth_65 (by decide) (fun z => ?_) (fun z => ?_)
        · have h := sg_ift h z
          refine lv_iconst (v := 0) hx hb dX4_worth_72 (by decide) ?_
          refine lv_istore_n (lv' := [(3, .int 0), (5, .int v6), (0, .ref (sgA P 21)), (1, .ref (sgA P p1)), (2, .ref (sgA P (23 + j3))), (4, .int x4)]) hx hb dX4_worth_73 rfl hl (by decide) rfl (fun ls hl => ?_)
          refine lv_goto (tgt := 203) hx hb dX4_worth_74 (by decide) ?_
          refine lv_iinc (v := x4 + 1) (lv' := [(4, .int (x4 + 1)), (3, .int 0), (5, .int v6), (0, .ref (sgA P 21)), (1, .ref (sgA P p1)), (2, .ref (sgA P (23 + j3)))]) hx hb dX4_worth_203 hl (k := 5) rfl rfl (by decide) rfl (fun ls hl => ?_)
          refine lv_goto (tgt := 29) hx hb dX4_worth_206 (by decide) ?_
          obtain rfl := Option.some.inj h
          exact sg_go hk I (lv_sub hl [3, 4, 5, 1, 0] rfl)
        · have h := sg_iff h z
          refine lv_iconst (v := 1) hx hb dX4_worth_68 (by decide) ?_
          refine lv_goto (tgt := 73) hx hb dX4_worth_69 (by decide) ?_
          refine lv_istore_n (lv' := [(3, .int 1), (5, .int v6), (0, .ref (sgA P 21)), (1, .ref (sgA P p1)), (2, .ref (sgA P (23 + j3))), (4, .int x4)]) hx hb dX4_worth_73 rfl hl (by decide) rfl (fun ls hl => ?_)
          refine lv_goto (tgt := 203) hx hb dX4_worth_74 (by decide) ?_
          refine lv_iinc (v := x4 + 1) (lv' := [(4, .int (x4 + 1)), (3, .int 1), (5, .int v6), (0, .ref (sgA P 21)), (1, .ref (sgA P p1)), (2, .ref (sgA P (23 + j3)))]) hx hb dX4_worth_203 hl (k := 5) rfl rfl (by decide) rfl (fun ls hl => ?_)
          refine lv_goto (tgt := 29) hx hb dX4_worth_206 (by decide) ?_
          obtain rfl := Option.some.inj h
          exact sg_go hk I (lv_sub hl [3, 4, 5, 1, 0] rfl)
def f_X4_worth (N : Nat) (p1 : Nat) (p1n : Nat) (σ : sgS) : Option (Int32 × sgS) :=
  sg_cr (f_X4_oneHolds N σ) fun v1 =>
if v1 = 0 then
  (some (0, σ))
else
  (sg_rf 4 (σ.1 21 5) fun j3 =>
  sg_pf σ 21 3 0 fun s4 =>
  sg_lb (sg_lp (fun x => f_X4_worth_L29 N p1 p1n j3 x.2.1 x.2.2 x.1) N ((s4, 0, 0))) (fun r => some r) fun y27 =>
  some (0, y27))
set_option maxHeartbeats 4000000 in
set_option maxRecDepth 100000 in
theorem b_X4_worth {p : Program} {l : Launch} {e : Env} {R : Room} {s : State} {m : MethodId} {args : Array Value} {below : List Frame} {meth : Method} {c : Code} {Q : State → Prop} {P : sgP} {A : Nat → Prop} {N : Nat} {p1 : Nat} {p1n : Nat} {σ : sgS} (X : sg_C P A 3 p R s m args c cX4_worth 7 RX4) (hp1 : p1 < 332) (gp1 : shC p1 = .inr (0, p1n, sg_g0)) {H : Heap} {locs : List Loc} (I : sg_I P shC 332 A s.heap σ H locs) {ls : Array Slot} (hl : lv_has ls 7 [(0, .ref (sgA P 21)), (1, .ref (sgA P p1))]) {st : Int32 × sgS} (h : f_X4_worth N p1 p1n σ = some st) (hk : sg_Ri p l e R s m args below meth c Q P shC 332 A cX4_worth (some .int) st) : W p l e R s m args below meth c H locs 0 0 Q (F0 m 0 ls []) := by
  unfold f_X4_worth at h
  have hx := X.1.1
  have hb := X.1.2.1
  have hown := X.1.2.2.2.1
  have hts := X.1.2.2.2.2
  refine lv_aload_n hx hb dX4_worth_0 rfl (lv_at hl 0 rfl) ?_
  refine sg_callVr (As := []) X I mk_X4_36 (by decide) (by decide) shC_21 rfl (fun q9 e9 => c_X4_oneHolds e9) h hl.1 rfl rfl (Nat.le_of_ble_eq_true rfl) dX4_worth_1 (fun v1 H locs h I => ?_)
  refine lv_if_ne (tgt := 9) hx hb dX4_worth_4 (by decide) (fun z => ?_) (fun z => ?_)
  · have h := sg_iff h z
    refine lv_aload_n hx hb dX4_worth_9 rfl (lv_at hl 0 rfl) ?_
    refine sg_getr X I fk_X4_11 (j := 22) (by decide) shC_21 rfl dX4_worth_10 ?_
    refine lv_aload_n hx hb dX4_worth_13 rfl (lv_at hl 0 rfl) ?_
    refine sg_geti X I fk_X4_23 (by decide) shC_21 rfl dX4_worth_14 ?_
    refine sg_aalda X I (by decide) shC_22 (r := fun k => 23 + k) (fun _ _ => rfl) h dX4_worth_17 (fun j3 hj3 h => ?_)
    refine lv_astore_n (lv' := [(2, .ref (sgA P (23 + j3))), (0, .ref (sgA P 21)), (1, .ref (sgA P p1))]) hx hb dX4_worth_18 rfl hl (by decide) rfl (fun ls hl => ?_)
    refine lv_aload_n hx hb dX4_worth_19 rfl (lv_at hl 1 rfl) ?_
    refine lv_iconst (v := 0) hx hb dX4_worth_20 (by decide) ?_
    refine sg_puti X I fk_X4_40 wk_4_3 rfl rfl (by decide) shC_21 rfl h dX4_worth_21 (fun s4 H locs h I => ?_)
    refine lv_iconst (v := 0) hx hb dX4_worth_24 (by decide) ?_
    refine lv_istore_n (lv' := [(3, .int 0), (2, .ref (sgA P (23 + j3))), (0, .ref (sgA P 21)), (1, .ref (sgA P p1))]) hx hb dX4_worth_25 rfl hl (by decide) rfl (fun ls hl => ?_)
    refine lv_iconst (v := 0) hx hb dX4_worth_26 (by decide) ?_
    refine lv_istore (lv' := [(4, .int 0), (3, .int 0), (2, .ref (sgA P (23 + j3))), (0, .ref (sgA P 21)), (1, .ref (sgA P p1))]) hx hb dX4_worth_27 hl (by decide) rfl (fun ls hl => ?_)
    obtain ⟨res, e9, k9⟩ := sg_lb_some h
    refine sg_go (sg_lp_W (a := (sg_Ri p l e R s m args below meth c Q P shC 332 A cX4_worth (some .int))) (w := (fun x => sg_Wt p l e R s m args below meth c Q P shC 332 A 7 29 x.1 [(0, .ref (sgA P 21)), (1, .ref (sgA P p1)), (2, .ref (sgA P (23 + j3))), (3, .int x.2.1), (4, .int x.2.2)])) (c := (fun y => sg_Wt p l e R s m args below meth c Q P shC 332 A 7 209 y [])) (fun x st hb9 hk9 => ?_) N ((s4, 0, 0)) res e9 (sg_k2_mono k9 (fun r h => ?_) (fun y27 h => ?_))) I (lv_sub hl [3, 4, 2, 1, 0] rfl)
    · intro H locs ls I hl
      exact b_X4_worth_L29 X hp1 gp1 hj3 I hl hb9 hk9
    · obtain rfl := Option.some.inj h
      exact hk
    · intro H locs ls I hl
      refine lv_iconst (v := 0) hx hb dX4_worth_209 (by decide) ?_
      obtain rfl := Option.some.inj h
      exact hk _ _ _ _ _ I ⟨_, rfl, rfl⟩ dX4_worth_210
  · have h := sg_ift h z
    refine lv_iconst (v := 0) hx hb dX4_worth_7 (by decide) ?_
    obtain rfl := Option.some.inj h
    exact hk _ _ _ _ _ I ⟨_, rfl, rfl⟩ dX4_worth_8
set_option maxHeartbeats 4000000 in
set_option maxRecDepth 100000 in
theorem c_X4_worth {l : Launch} {P : sgP} {N : Nat} {p1 : Nat} {p1n : Nat} {σ : sgS} (hp1 : p1 < 332) (gp1 : shC p1 = .inr (0, p1n, sg_g0)) {q : Int32 × sgS} (h : f_X4_worth N p1 p1n σ = some q) : sg_Mi P shC 332 l yX4_worth cX4_worth 7 (some .int) 3 [.ref (sgA P 21), .ref (sgA P p1)] σ q := by
  refine sg_mki (plainFor_of_name (by decide +kernel)) (Nat.le_of_ble_eq_true rfl) ?_
  intro p e R s m args below meth c Q A ls H locs X I hl hk
  exact b_X4_worth X hp1 gp1 I hl h hk
def f_X1_measure_L36 (N : Nat) (p1 : Nat) (w2 : Int32) (x3 : Int32) (σ : sgS) : Option ((Int32 × sgS) ⊕ ((sgS × Int32) ⊕ (sgS))) :=
  if (σ.1 3 4) ≤ x3 then
  (some (.inr (.inr σ)))
else
  (if w2 = 0 then
    (sg_ld σ 7 12 x3 fun v5 =>
    sg_ld σ 8 12 x3 fun v6 =>
    sg_nz 4 (
      sg_st σ 51 12 x3 (v5 + (v6 / 4)) fun s7 =>
      some (.inr (.inl (s7, x3 + 1)))))
  else
    (sg_cl (f_X1_tellLetters N x3 p1 σ) fun v8 s9 =>
    sg_cl (f_X4_worth N 50 6 s9) fun v10 s11 =>
    sg_st s11 51 12 x3 ((if (1 : Int32) < ((if v10 < 24 then v10 else 24)) then ((if v10 < 24 then v10 else 24)) else 1)) fun s12 =>
    some (.inr (.inl (s12, x3 + 1)))))
set_option maxHeartbeats 4000000 in
set_option maxRecDepth 100000 in
theorem b_X1_measure_L36 {p : Program} {l : Launch} {e : Env} {R : Room} {s : State} {m : MethodId} {args : Array Value} {below : List Frame} {meth : Method} {c : Code} {Q : State → Prop} {P : sgP} {A : Nat → Prop} {N : Nat} {p1 : Nat} {w2 : Int32} {x3 : Int32} {σ : sgS} (X : sg_C P A 4 p R s m args c cX1_measure 4 RX1) (hp1 : isSt p1) {H : Heap} {locs : List Loc} (I : sg_I P shC 332 A s.heap σ H locs) {ls : Array Slot} (hl : lv_has ls 4 [(0, .ref (sgA P 49)), (1, .ref (sgA P p1)), (2, .int w2), (3, .int x3)]) {st : (Int32 × sgS) ⊕ ((sgS × Int32) ⊕ (sgS))} (h : f_X1_measure_L36 N p1 w2 x3 σ = some st) (hk : sg_k3 (sg_Rv p l e R s m args below meth c Q P shC 332 A cX1_measure) (fun x => sg_Wt p l e R s m args below meth c Q P shC 332 A 4 36 x.1 [(0, .ref (sgA P 49)), (1, .ref (sgA P p1)), (2, .int w2), (3, .int x.2)]) (fun y => sg_Wt p l e R s m args below meth c Q P shC 332 A 4 119 y []) st) : W p l e R s m args below meth c H locs 0 0 Q (F0 m 36 ls []) := by
  unfold f_X1_measure_L36 at h
  have hx := X.1.1
  have hb := X.1.2.1
  have hown := X.1.2.2.2.1
  have hts := X.1.2.2.2.2
  refine lv_iload_n hx hb dX1_measure_36 rfl (lv_at hl 3 rfl) ?_
  refine lv_aload_n hx hb dX1_measure_37 rfl (lv_at hl 0 rfl) ?_
  refine sg_getr X I fk_X1_28 (j := 3) (by decide) shC_49 rfl dX1_measure_38 ?_
  refine sg_getiN X I fn_X1_59 (by decide) shC_3 rfl dX1_measure_41 ?_
  refine lv_icmp_ge (tgt := 119) hx hb dX1_measure_44 (by decide) (fun z => ?_) (fun z => ?_)
  · have h := sg_ift h z
    obtain rfl := Option.some.inj h
    exact sg_go hk I (lv_sub hl [] rfl)
  · have h := sg_iff h z
    refine lv_iload_n hx hb dX1_measure_47 rfl (lv_at hl 2 rfl) ?_
    refine lv_if_eq (tgt := 86) hx hb dX1_measure_48 (by decide) (fun z => ?_) (fun z => ?_)
    · have h := sg_ift h z
      refine lv_aload_n hx hb dX1_measure_86 rfl (lv_at hl 0 rfl) ?_
      refine sg_getr X I fk_X1_25 (j := 51) (by decide) shC_49 rfl dX1_measure_87 ?_
      refine lv_iload_n hx hb dX1_measure_90 rfl (lv_at hl 3 rfl) ?_
      refine lv_aload_n hx hb dX1_measure_91 rfl (lv_at hl 0 rfl) ?_
      refine sg_getr X I fk_X1_28 (j := 3) (by decide) shC_49 rfl dX1_measure_92 ?_
      refine sg_getrN X I fn_X1_81 (j := 7) (by decide) shC_3 rfl dX1_measure_95 ?_
      refine lv_iload_n hx hb dX1_measure_98 rfl (lv_at hl 3 rfl) ?_
      refine sg_iald X I (by decide) shC_7 h dX1_measure_99 (fun v5 h => ?_)
      refine lv_aload_n hx hb dX1_measure_100 rfl (lv_at hl 0 rfl) ?_
      refine sg_getr X I fk_X1_28 (j := 3) (by decide) shC_49 rfl dX1_measure_101 ?_
      refine sg_getrN X I fn_X1_83 (j := 8) (by decide) shC_3 rfl dX1_measure_104 ?_
      refine lv_iload_n hx hb dX1_measure_107 rfl (lv_at hl 3 rfl) ?_
      refine sg_iald X I (by decide) shC_8 h dX1_measure_108 (fun v6 h => ?_)
      refine lv_iconst (v := 4) hx hb dX1_measure_109 (by decide) ?_
      refine sg_nzW (h := h) (fun z h => ?_)
      refine lv_idiv hx hb dX1_measure_110 z ?_
      refine lv_iadd hx hb dX1_measure_111 ?_
      refine sg_iast X I (by decide) shC_51 h dX1_measure_112 (fun s7 H locs h I => ?_)
      refine lv_iinc (v := x3 + 1) (lv' := [(3, .int (x3 + 1)), (0, .ref (sgA P 49)), (1, .ref (sgA P p1)), (2, .int w2)]) hx hb dX1_measure_113 hl (k := 3) rfl rfl (by decide) rfl (fun ls hl => ?_)
      refine lv_goto (tgt := 36) hx hb dX1_measure_116 (by decide) ?_
      obtain rfl := Option.some.inj h
      exact sg_go hk I (lv_sub hl [1, 2, 3, 0] rfl)
    · have h := sg_iff h z
      refine lv_aload_n hx hb dX1_measure_51 rfl (lv_at hl 0 rfl) ?_
      refine lv_iload_n hx hb dX1_measure_52 rfl (lv_at hl 3 rfl) ?_
      refine lv_aload_n hx hb dX1_measure_53 rfl (lv_at hl 1 rfl) ?_
      refine sg_callVv (As := [.int x3, .ref (sgA P p1)]) X I mk_X1_64 (by decide) (by decide) shC_49 rfl (fun q9 e9 => c_X1_tellLetters hp1 e9) h hl.1 rfl rfl (Nat.le_of_ble_eq_true rfl) dX1_measure_54 (fun v8 s9 H locs h I => ?_)
      refine lv_aload_n hx hb dX1_measure_57 rfl (lv_at hl 0 rfl) ?_
      refine sg_getr X I fk_X1_25 (j := 51) (by decide) shC_49 rfl dX1_measure_58 ?_
      refine lv_iload_n hx hb dX1_measure_61 rfl (lv_at hl 3 rfl) ?_
      refine lv_iconst (v := 1) hx hb dX1_measure_62 (by decide) ?_
      refine lv_bipush (v := 24) hx hb dX1_measure_63 (by decide) ?_
      refine lv_aload_n hx hb dX1_measure_65 rfl (lv_at hl 0 rfl) ?_
      refine sg_getr X I fk_X1_32 (j := 21) (by decide) shC_49 rfl dX1_measure_66 ?_
      refine lv_aload_n hx hb dX1_measure_69 rfl (lv_at hl 0 rfl) ?_
      refine sg_getr X I fk_X1_19 (j := 50) (by decide) shC_49 rfl dX1_measure_70 ?_
      refine sg_callV (As := [.ref (sgA P 50)]) X I mk_X1_68 (by decide) (by decide) shC_21 rfl (fun q9 e9 => c_X4_worth (by decide) shC_50 e9) h hl.1 rfl rfl (Nat.le_of_ble_eq_true rfl) dX1_measure_73 (fun v10 s11 H locs h I => ?_)
      refine sg_mmin X hl.1 (by first | decide | omega) qw_701 qw_289 qw_286 qw_290 (Nat.le_of_ble_eq_true rfl) dX1_measure_76 ?_
      refine sg_mmax X hl.1 (by first | decide | omega) qw_702 qw_285 qw_286 qw_287 (Nat.le_of_ble_eq_true rfl) dX1_measure_79 ?_
      refine sg_iast X I (by decide) shC_51 h dX1_measure_82 (fun s12 H locs h I => ?_)
      refine lv_goto (tgt := 113) hx hb dX1_measure_83 (by decide) ?_
      refine lv_iinc (v := x3 + 1) (lv' := [(3, .int (x3 + 1)), (0, .ref (sgA P 49)), (1, .ref (sgA P p1)), (2, .int w2)]) hx hb dX1_measure_113 hl (k := 3) rfl rfl (by decide) rfl (fun ls hl => ?_)
      refine lv_goto (tgt := 36) hx hb dX1_measure_116 (by decide) ?_
      obtain rfl := Option.some.inj h
      exact sg_go hk I (lv_sub hl [1, 2, 3, 0] rfl)
def f_X1_measure (N : Nat) (p1 : Nat) (σ : sgS) : Option (Int32 × sgS) :=
  sg_cr (f_X4_oneHolds N σ) fun v1 =>
sg_cr (f_J6_bitCount_0f7a4 N (σ.1 p1 5) σ) fun v2 =>
sg_st σ 50 6 4 v2 fun s3 =>
sg_nz 100 (
  sg_st s3 50 6 5 ((s3.1 p1 7) - (s3.1 p1 7) / 100 * 100) fun s4 =>
  sg_lb (sg_lp (fun x => f_X1_measure_L36 N p1 v1 x.2 x.1) N ((s4, 0))) (fun r => some r) fun y13 =>
  some (0, y13))
set_option maxHeartbeats 4000000 in
set_option maxRecDepth 100000 in
theorem b_X1_measure {p : Program} {l : Launch} {e : Env} {R : Room} {s : State} {m : MethodId} {args : Array Value} {below : List Frame} {meth : Method} {c : Code} {Q : State → Prop} {P : sgP} {A : Nat → Prop} {N : Nat} {p1 : Nat} {σ : sgS} (X : sg_C P A 4 p R s m args c cX1_measure 4 RX1) (hp1 : isSt p1) {H : Heap} {locs : List Loc} (I : sg_I P shC 332 A s.heap σ H locs) {ls : Array Slot} (hl : lv_has ls 4 [(0, .ref (sgA P 49)), (1, .ref (sgA P p1))]) {st : Int32 × sgS} (h : f_X1_measure N p1 σ = some st) (hk : sg_Rv p l e R s m args below meth c Q P shC 332 A cX1_measure st) : W p l e R s m args below meth c H locs 0 0 Q (F0 m 0 ls []) := by
  unfold f_X1_measure at h
  have hx := X.1.1
  have hb := X.1.2.1
  have hown := X.1.2.2.2.1
  have hts := X.1.2.2.2.2
  refine lv_aload_n hx hb dX1_measure_0 rfl (lv_at hl 0 rfl) ?_
  refine sg_getr X I fk_X1_32 (j := 21) (by decide) shC_49 rfl dX1_measure_1 ?_
  refine sg_callVr (As := []) X I mk_X1_40 (by decide) (by decide) shC_21 rfl (fun q9 e9 => c_X4_oneHolds e9) h hl.1 rfl rfl (Nat.le_of_ble_eq_true rfl) dX1_measure_4 (fun v1 H locs h I => ?_)
  refine lv_istore_n (lv' := [(2, .int v1), (0, .ref (sgA P 49)), (1, .ref (sgA P p1))]) hx hb dX1_measure_7 rfl hl (by decide) rfl (fun ls hl => ?_)
  refine lv_aload_n hx hb dX1_measure_8 rfl (lv_at hl 1 rfl) ?_
  refine sg_getr X I fk_X1_19 (j := 50) (by decide) shC_49 rfl dX1_measure_9 ?_
  refine lv_iconst (v := 4) hx hb dX1_measure_12 (by decide) ?_
  refine lv_aload_n hx hb dX1_measure_13 rfl (lv_at hl 2 rfl) ?_
  refine sg_getiN X I fn_X1_44 (isSt_i0 hp1) (isSt_s0 hp1) rfl dX1_measure_14 ?_
  refine sg_callSr (As := [.int (σ.1 p1 5)]) X I mk_X1_50 (by decide) (fun q9 e9 => c_J6_bitCount_0f7a4 e9) h hl.1 rfl rfl (Nat.le_of_ble_eq_true rfl) dX1_measure_17 (fun v2 H locs h I => ?_)
  refine sg_iast X I (by decide) shC_50 h dX1_measure_20 (fun s3 H locs h I => ?_)
  refine lv_aload_n hx hb dX1_measure_21 rfl (lv_at hl 1 rfl) ?_
  refine sg_getr X I fk_X1_19 (j := 50) (by decide) shC_49 rfl dX1_measure_22 ?_
  refine lv_iconst (v := 5) hx hb dX1_measure_25 (by decide) ?_
  refine lv_aload_n hx hb dX1_measure_26 rfl (lv_at hl 2 rfl) ?_
  refine sg_getiN X I fn_X1_56 (isSt_i0 hp1) (isSt_s0 hp1) rfl dX1_measure_27 ?_
  refine lv_bipush (v := 100) hx hb dX1_measure_30 (by decide) ?_
  refine sg_nzW (h := h) (fun z h => ?_)
  refine lv_irem hx hb dX1_measure_32 z ?_
  refine sg_iast X I (by decide) shC_50 h dX1_measure_33 (fun s4 H locs h I => ?_)
  refine lv_iconst (v := 0) hx hb dX1_measure_34 (by decide) ?_
  refine lv_istore_n (lv' := [(3, .int 0), (2, .int v1), (0, .ref (sgA P 49)), (1, .ref (sgA P p1))]) hx hb dX1_measure_35 rfl hl (by decide) rfl (fun ls hl => ?_)
  obtain ⟨res, e9, k9⟩ := sg_lb_some h
  refine sg_go (sg_lp_W (a := (sg_Rv p l e R s m args below meth c Q P shC 332 A cX1_measure)) (w := (fun x => sg_Wt p l e R s m args below meth c Q P shC 332 A 4 36 x.1 [(0, .ref (sgA P 49)), (1, .ref (sgA P p1)), (2, .int v1), (3, .int x.2)])) (c := (fun y => sg_Wt p l e R s m args below meth c Q P shC 332 A 4 119 y [])) (fun x st hb9 hk9 => ?_) N ((s4, 0)) res e9 (sg_k2_mono k9 (fun r h => ?_) (fun y13 h => ?_))) I (lv_sub hl [2, 3, 1, 0] rfl)
  · intro H locs ls I hl
    exact b_X1_measure_L36 X hp1 I hl hb9 hk9
  · obtain rfl := Option.some.inj h
    exact hk
  · intro H locs ls I hl
    obtain rfl := Option.some.inj h
    exact hk _ _ _ _ I dX1_measure_119
set_option maxHeartbeats 4000000 in
set_option maxRecDepth 100000 in
theorem c_X1_measure {l : Launch} {P : sgP} {N : Nat} {p1 : Nat} {σ : sgS} (hp1 : isSt p1) {q : Int32 × sgS} (h : f_X1_measure N p1 σ = some q) : sg_Mv P shC 332 l yX1_measure cX1_measure 4 none 4 [.ref (sgA P 49), .ref (sgA P p1)] σ q := by
  refine sg_mkv (plainFor_of_name (by decide +kernel)) (Nat.le_of_ble_eq_true rfl) ?_
  intro p e R s m args below meth c Q A ls H locs X I hl hk
  exact b_X1_measure X hp1 I hl h hk
def f_X10_has (N : Nat) (p1 : Int32) (σ : sgS) : Option (Int32) :=
  if p1 < 0 then
  (some (vp_nar .boolean 0))
else
  (if (σ.1 29 4) ≤ p1 then
    (some (vp_nar .boolean 0))
  else
    (some (vp_nar .boolean 1)))
set_option maxHeartbeats 4000000 in
set_option maxRecDepth 100000 in
theorem b_X10_has {p : Program} {l : Launch} {e : Env} {R : Room} {s : State} {m : MethodId} {args : Array Value} {below : List Frame} {meth : Method} {c : Code} {Q : State → Prop} {P : sgP} {A : Nat → Prop} {N : Nat} {p1 : Int32} {σ : sgS} (X : sg_C P A 1 p R s m args c cX10_has 2 RX10) {H : Heap} {locs : List Loc} (I : sg_I P shC 332 A s.heap σ H locs) {ls : Array Slot} (hl : lv_has ls 2 [(0, .ref (sgA P 29)), (1, .int p1)]) {st : Int32} (h : f_X10_has N p1 σ = some st) (hk : sg_Ri p l e R s m args below meth c Q P shC 332 A cX10_has (some .boolean) (st, σ)) : W p l e R s m args below meth c H locs 0 0 Q (F0 m 0 ls []) := by
  unfold f_X10_has at h
  have hx := X.1.1
  have hb := X.1.2.1
  have hown := X.1.2.2.2.1
  have hts := X.1.2.2.2.2
  refine lv_iload_n hx hb dX10_has_0 rfl (lv_at hl 1 rfl) ?_
  refine lv_if_lt (tgt := 16) hx hb dX10_has_1 (by decide) (fun z => ?_) (fun z => ?_)
  · have h := sg_ift h z
    refine lv_iconst (v := 0) hx hb dX10_has_16 (by decide) ?_
    obtain rfl := Option.some.inj h
    exact hk _ _ _ _ _ I ⟨_, rfl, rfl⟩ dX10_has_17
  · have h := sg_iff h z
    refine lv_iload_n hx hb dX10_has_4 rfl (lv_at hl 1 rfl) ?_
    refine lv_aload_n hx hb dX10_has_5 rfl (lv_at hl 0 rfl) ?_
    refine sg_geti X I fk_X10_40 (by decide) shC_29 rfl dX10_has_6 ?_
    refine lv_icmp_ge (tgt := 16) hx hb dX10_has_9 (by decide) (fun z => ?_) (fun z => ?_)
    · have h := sg_ift h z
      refine lv_iconst (v := 0) hx hb dX10_has_16 (by decide) ?_
      obtain rfl := Option.some.inj h
      exact hk _ _ _ _ _ I ⟨_, rfl, rfl⟩ dX10_has_17
    · have h := sg_iff h z
      refine lv_iconst (v := 1) hx hb dX10_has_12 (by decide) ?_
      refine lv_goto (tgt := 17) hx hb dX10_has_13 (by decide) ?_
      obtain rfl := Option.some.inj h
      exact hk _ _ _ _ _ I ⟨_, rfl, rfl⟩ dX10_has_17
set_option maxHeartbeats 4000000 in
set_option maxRecDepth 100000 in
theorem c_X10_has {l : Launch} {P : sgP} {N : Nat} {p1 : Int32} {σ : sgS} {q : Int32} (h : f_X10_has N p1 σ = some q) : sg_Mi P shC 332 l yX10_has cX10_has 2 (some .boolean) 1 [.ref (sgA P 29), .int p1] σ (q, σ) := by
  refine sg_mki (plainFor_of_name (by decide +kernel)) (Nat.le_of_ble_eq_true rfl) ?_
  intro p e R s m args below meth c Q A ls H locs X I hl hk
  exact b_X10_has X I hl h hk
def f_X10_placeAt (N : Nat) (p1 : Int32) (p2 : Int32) (σ : sgS) : Option (Int32) :=
  sg_cr (f_X10_has N p1 σ) fun v1 =>
if v1 = 0 then
  (some ((-1)))
else
  (if p2 < 0 then
    (some ((-1)))
  else
    (sg_ld σ 35 4 p1 fun v2 =>
    if v2 ≤ p2 then
      (some ((-1)))
    else
      (sg_rf 4 p1 fun j4 =>
      sg_ld σ (31 + j4) 12 p2 fun v5 =>
      some v5)))
set_option maxHeartbeats 4000000 in
set_option maxRecDepth 100000 in
theorem b_X10_placeAt {p : Program} {l : Launch} {e : Env} {R : Room} {s : State} {m : MethodId} {args : Array Value} {below : List Frame} {meth : Method} {c : Code} {Q : State → Prop} {P : sgP} {A : Nat → Prop} {N : Nat} {p1 : Int32} {p2 : Int32} {σ : sgS} (X : sg_C P A 2 p R s m args c cX10_placeAt 3 RX10) {H : Heap} {locs : List Loc} (I : sg_I P shC 332 A s.heap σ H locs) {ls : Array Slot} (hl : lv_has ls 3 [(0, .ref (sgA P 29)), (1, .int p1), (2, .int p2)]) {st : Int32} (h : f_X10_placeAt N p1 p2 σ = some st) (hk : sg_Ri p l e R s m args below meth c Q P shC 332 A cX10_placeAt (some .int) (st, σ)) : W p l e R s m args below meth c H locs 0 0 Q (F0 m 0 ls []) := by
  unfold f_X10_placeAt at h
  have hx := X.1.1
  have hb := X.1.2.1
  have hown := X.1.2.2.2.1
  have hts := X.1.2.2.2.2
  refine lv_aload_n hx hb dX10_placeAt_0 rfl (lv_at hl 0 rfl) ?_
  refine lv_iload_n hx hb dX10_placeAt_1 rfl (lv_at hl 1 rfl) ?_
  refine sg_callVr (As := [.int p1]) X I mk_X10_49 (by decide) (by decide) shC_29 rfl (fun q9 e9 => c_X10_has e9) h hl.1 rfl rfl (Nat.le_of_ble_eq_true rfl) dX10_placeAt_2 (fun v1 H locs h I => ?_)
  refine lv_if_eq (tgt := 33) hx hb dX10_placeAt_5 (by decide) (fun z => ?_) (fun z => ?_)
  · have h := sg_ift h z
    refine lv_iconst (v := -1) hx hb dX10_placeAt_33 (by decide) ?_
    obtain rfl := Option.some.inj h
    exact hk _ _ _ _ _ I ⟨_, rfl, rfl⟩ dX10_placeAt_34
  · have h := sg_iff h z
    refine lv_iload_n hx hb dX10_placeAt_8 rfl (lv_at hl 2 rfl) ?_
    refine lv_if_lt (tgt := 33) hx hb dX10_placeAt_9 (by decide) (fun z => ?_) (fun z => ?_)
    · have h := sg_ift h z
      refine lv_iconst (v := -1) hx hb dX10_placeAt_33 (by decide) ?_
      obtain rfl := Option.some.inj h
      exact hk _ _ _ _ _ I ⟨_, rfl, rfl⟩ dX10_placeAt_34
    · have h := sg_iff h z
      refine lv_iload_n hx hb dX10_placeAt_12 rfl (lv_at hl 2 rfl) ?_
      refine lv_aload_n hx hb dX10_placeAt_13 rfl (lv_at hl 0 rfl) ?_
      refine sg_getr X I fk_X10_16 (j := 35) (by decide) shC_29 rfl dX10_placeAt_14 ?_
      refine lv_iload_n hx hb dX10_placeAt_17 rfl (lv_at hl 1 rfl) ?_
      refine sg_iald X I (by decide) shC_35 h dX10_placeAt_18 (fun v2 h => ?_)
      refine lv_icmp_ge (tgt := 33) hx hb dX10_placeAt_19 (by decide) (fun z => ?_) (fun z => ?_)
      · have h := sg_ift h z
        refine lv_iconst (v := -1) hx hb dX10_placeAt_33 (by decide) ?_
        obtain rfl := Option.some.inj h
        exact hk _ _ _ _ _ I ⟨_, rfl, rfl⟩ dX10_placeAt_34
      · have h := sg_iff h z
        refine lv_aload_n hx hb dX10_placeAt_22 rfl (lv_at hl 0 rfl) ?_
        refine sg_getr X I fk_X10_11 (j := 30) (by decide) shC_29 rfl dX10_placeAt_23 ?_
        refine lv_iload_n hx hb dX10_placeAt_26 rfl (lv_at hl 1 rfl) ?_
        refine sg_aalda X I (by decide) shC_30 (r := fun k => 31 + k) (fun _ _ => rfl) h dX10_placeAt_27 (fun j4 hj4 h => ?_)
        refine lv_iload_n hx hb dX10_placeAt_28 rfl (lv_at hl 2 rfl) ?_
        refine sg_iald X I (shC_30i hj4) (shC_30s hj4) h dX10_placeAt_29 (fun v5 h => ?_)
        refine lv_goto (tgt := 34) hx hb dX10_placeAt_30 (by decide) ?_
        obtain rfl := Option.some.inj h
        exact hk _ _ _ _ _ I ⟨_, rfl, rfl⟩ dX10_placeAt_34
set_option maxHeartbeats 4000000 in
set_option maxRecDepth 100000 in
theorem c_X10_placeAt {l : Launch} {P : sgP} {N : Nat} {p1 : Int32} {p2 : Int32} {σ : sgS} {q : Int32} (h : f_X10_placeAt N p1 p2 σ = some q) : sg_Mi P shC 332 l yX10_placeAt cX10_placeAt 3 (some .int) 2 [.ref (sgA P 29), .int p1, .int p2] σ (q, σ) := by
  refine sg_mki (plainFor_of_name (by decide +kernel)) (Nat.le_of_ble_eq_true rfl) ?_
  intro p e R s m args below meth c Q A ls H locs X I hl hk
  exact b_X10_placeAt X I hl h hk
def f_X1_shortestBetween_L6_B46 (N : Nat) (p1 : Int32) (p2 : Int32) (p3 : Int32) (u4 : Int32) (u5 : Int32) (k0 : Int32) (σ : sgS) : Option ((Int32) ⊕ ((Int32 × Int32) ⊕ (Int32))) :=
  if k0 = 0 then
  (some (.inr (.inl (u4, u5 + 1))))
else
  (if u4 = ((-1)) then
    (some (.inr (.inl (u5, u5 + 1))))
  else
    (sg_ld σ 51 12 u5 fun v1 =>
    sg_ld σ 51 12 u4 fun v2 =>
    if v2 ≤ v1 then
      (some (.inr (.inl (u4, u5 + 1))))
    else
      (some (.inr (.inl (u5, u5 + 1))))))
set_option maxHeartbeats 4000000 in
set_option maxRecDepth 100000 in
theorem b_X1_shortestBetween_L6_B46 {p : Program} {l : Launch} {e : Env} {R : Room} {s : State} {m : MethodId} {args : Array Value} {below : List Frame} {meth : Method} {c : Code} {Q : State → Prop} {P : sgP} {A : Nat → Prop} {N : Nat} {p1 : Int32} {p2 : Int32} {p3 : Int32} {u4 : Int32} {u5 : Int32} {k0 : Int32} {σ : sgS} (X : sg_C P A 2 p R s m args c cX1_shortestBetween 7 RX1) {H : Heap} {locs : List Loc} (I : sg_I P shC 332 A s.heap σ H locs) {ls : Array Slot} (hl : lv_has ls 7 [(0, .ref (sgA P 49)), (1, .int p1), (2, .int p2), (3, .int p3), (4, .int u4), (5, .int u5)]) {st : (Int32) ⊕ ((Int32 × Int32) ⊕ (Int32))} (h : f_X1_shortestBetween_L6_B46 N p1 p2 p3 u4 u5 k0 σ = some st) (hk : sg_k3 (fun r => sg_Ri p l e R s m args below meth c Q P shC 332 A cX1_shortestBetween (some .int) (r, σ)) (fun x => sg_Wt p l e R s m args below meth c Q P shC 332 A 7 6 σ [(0, .ref (sgA P 49)), (1, .int p1), (2, .int p2), (3, .int p3), (4, .int x.1), (5, .int x.2)]) (fun y => sg_Wt p l e R s m args below meth c Q P shC 332 A 7 86 σ [(4, .int y)]) st) : W p l e R s m args below meth c H locs 0 0 Q (F0 m 46 ls [.int k0]) := by
  unfold f_X1_shortestBetween_L6_B46 at h
  have hx := X.1.1
  have hb := X.1.2.1
  have hown := X.1.2.2.2.1
  have hts := X.1.2.2.2.2
  refine lv_istore (lv' := [(6, .int k0), (0, .ref (sgA P 49)), (1, .int p1), (2, .int p2), (3, .int p3), (4, .int u4), (5, .int u5)]) hx hb dX1_shortestBetween_46 hl (by decide) rfl (fun ls hl => ?_)
  refine lv_iload hx hb dX1_shortestBetween_48 (lv_at hl 0 rfl) ?_
  refine lv_if_eq (tgt := 80) hx hb dX1_shortestBetween_50 (by decide) (fun z => ?_) (fun z => ?_)
  · have h := sg_ift h z
    refine lv_iinc (v := u5 + 1) (lv' := [(5, .int (u5 + 1)), (6, .int k0), (0, .ref (sgA P 49)), (1, .int p1), (2, .int p2), (3, .int p3), (4, .int u4)]) hx hb dX1_shortestBetween_80 hl (k := 6) rfl rfl (by decide) rfl (fun ls hl => ?_)
    refine lv_goto (tgt := 6) hx hb dX1_shortestBetween_83 (by decide) ?_
    obtain rfl := Option.some.inj h
    exact sg_go hk I (lv_sub hl [2, 3, 4, 5, 6, 0] rfl)
  · have h := sg_iff h z
    refine lv_iload hx hb dX1_shortestBetween_53 (lv_at hl 5 rfl) ?_
    refine lv_iconst (v := -1) hx hb dX1_shortestBetween_55 (by decide) ?_
    refine lv_icmp_eq (tgt := 76) hx hb dX1_shortestBetween_56 (by decide) (fun z => ?_) (fun z => ?_)
    · have h := sg_ift h z
      refine lv_iload hx hb dX1_shortestBetween_76 (lv_at hl 6 rfl) ?_
      refine lv_istore (lv' := [(4, .int u5), (6, .int k0), (0, .ref (sgA P 49)), (1, .int p1), (2, .int p2), (3, .int p3), (5, .int u5)]) hx hb dX1_shortestBetween_78 hl (by decide) rfl (fun ls hl => ?_)
      refine lv_iinc (v := u5 + 1) (lv' := [(5, .int (u5 + 1)), (4, .int u5), (6, .int k0), (0, .ref (sgA P 49)), (1, .int p1), (2, .int p2), (3, .int p3)]) hx hb dX1_shortestBetween_80 hl (k := 6) rfl rfl (by decide) rfl (fun ls hl => ?_)
      refine lv_goto (tgt := 6) hx hb dX1_shortestBetween_83 (by decide) ?_
      obtain rfl := Option.some.inj h
      exact sg_go hk I (lv_sub hl [3, 4, 5, 6, 1, 0] rfl)
    · have h := sg_iff h z
      refine lv_aload_n hx hb dX1_shortestBetween_59 rfl (lv_at hl 1 rfl) ?_
      refine sg_getr X I fk_X1_25 (j := 51) (by decide) shC_49 rfl dX1_shortestBetween_60 ?_
      refine lv_iload hx hb dX1_shortestBetween_63 (lv_at hl 6 rfl) ?_
      refine sg_iald X I (by decide) shC_51 h dX1_shortestBetween_65 (fun v1 h => ?_)
      refine lv_aload_n hx hb dX1_shortestBetween_66 rfl (lv_at hl 1 rfl) ?_
      refine sg_getr X I fk_X1_25 (j := 51) (by decide) shC_49 rfl dX1_shortestBetween_67 ?_
      refine lv_iload hx hb dX1_shortestBetween_70 (lv_at hl 5 rfl) ?_
      refine sg_iald X I (by decide) shC_51 h dX1_shortestBetween_72 (fun v2 h => ?_)
      refine lv_icmp_ge (tgt := 80) hx hb dX1_shortestBetween_73 (by decide) (fun z => ?_) (fun z => ?_)
      · have h := sg_ift h z
        refine lv_iinc (v := u5 + 1) (lv' := [(5, .int (u5 + 1)), (6, .int k0), (0, .ref (sgA P 49)), (1, .int p1), (2, .int p2), (3, .int p3), (4, .int u4)]) hx hb dX1_shortestBetween_80 hl (k := 6) rfl rfl (by decide) rfl (fun ls hl => ?_)
        refine lv_goto (tgt := 6) hx hb dX1_shortestBetween_83 (by decide) ?_
        obtain rfl := Option.some.inj h
        exact sg_go hk I (lv_sub hl [2, 3, 4, 5, 6, 0] rfl)
      · have h := sg_iff h z
        refine lv_iload hx hb dX1_shortestBetween_76 (lv_at hl 6 rfl) ?_
        refine lv_istore (lv' := [(4, .int u5), (6, .int k0), (0, .ref (sgA P 49)), (1, .int p1), (2, .int p2), (3, .int p3), (5, .int u5)]) hx hb dX1_shortestBetween_78 hl (by decide) rfl (fun ls hl => ?_)
        refine lv_iinc (v := u5 + 1) (lv' := [(5, .int (u5 + 1)), (4, .int u5), (6, .int k0), (0, .ref (sgA P 49)), (1, .int p1), (2, .int p2), (3, .int p3)]) hx hb dX1_shortestBetween_80 hl (k := 6) rfl rfl (by decide) rfl (fun ls hl => ?_)
        refine lv_goto (tgt := 6) hx hb dX1_shortestBetween_83 (by decide) ?_
        obtain rfl := Option.some.inj h
        exact sg_go hk I (lv_sub hl [3, 4, 5, 6, 1, 0] rfl)
def f_X1_shortestBetween_L6 (N : Nat) (p1 : Int32) (p2 : Int32) (p3 : Int32) (x4 : Int32) (x5 : Int32) (σ : sgS) : Option ((Int32) ⊕ ((Int32 × Int32) ⊕ (Int32))) :=
  if (σ.1 3 4) ≤ x5 then
  (some (.inr (.inr x4)))
else
  (if ((p3 >>> (x5 &&& 31)) &&& 1) = 0 then
    (sg_cr (f_X0_isBetween N 3 x5 p1 p2 σ) fun v3 =>
    if v3 = 0 then
      (f_X1_shortestBetween_L6_B46 N p1 p2 p3 x4 x5 0 σ)
    else
      (f_X1_shortestBetween_L6_B46 N p1 p2 p3 x4 x5 1 σ))
  else
    (f_X1_shortestBetween_L6_B46 N p1 p2 p3 x4 x5 0 σ))
set_option maxHeartbeats 4000000 in
set_option maxRecDepth 100000 in
theorem b_X1_shortestBetween_L6 {p : Program} {l : Launch} {e : Env} {R : Room} {s : State} {m : MethodId} {args : Array Value} {below : List Frame} {meth : Method} {c : Code} {Q : State → Prop} {P : sgP} {A : Nat → Prop} {N : Nat} {p1 : Int32} {p2 : Int32} {p3 : Int32} {x4 : Int32} {x5 : Int32} {σ : sgS} (X : sg_C P A 2 p R s m args c cX1_shortestBetween 7 RX1) {H : Heap} {locs : List Loc} (I : sg_I P shC 332 A s.heap σ H locs) {ls : Array Slot} (hl : lv_has ls 7 [(0, .ref (sgA P 49)), (1, .int p1), (2, .int p2), (3, .int p3), (4, .int x4), (5, .int x5)]) {st : (Int32) ⊕ ((Int32 × Int32) ⊕ (Int32))} (h : f_X1_shortestBetween_L6 N p1 p2 p3 x4 x5 σ = some st) (hk : sg_k3 (fun r => sg_Ri p l e R s m args below meth c Q P shC 332 A cX1_shortestBetween (some .int) (r, σ)) (fun x => sg_Wt p l e R s m args below meth c Q P shC 332 A 7 6 σ [(0, .ref (sgA P 49)), (1, .int p1), (2, .int p2), (3, .int p3), (4, .int x.1), (5, .int x.2)]) (fun y => sg_Wt p l e R s m args below meth c Q P shC 332 A 7 86 σ [(4, .int y)]) st) : W p l e R s m args below meth c H locs 0 0 Q (F0 m 6 ls []) := by
  unfold f_X1_shortestBetween_L6 at h
  have hx := X.1.1
  have hb := X.1.2.1
  have hown := X.1.2.2.2.1
  have hts := X.1.2.2.2.2
  refine lv_iload hx hb dX1_shortestBetween_6 (lv_at hl 5 rfl) ?_
  refine lv_aload_n hx hb dX1_shortestBetween_8 rfl (lv_at hl 0 rfl) ?_
  refine sg_getr X I fk_X1_28 (j := 3) (by decide) shC_49 rfl dX1_shortestBetween_9 ?_
  refine sg_getiN X I fn_X1_59 (by decide) shC_3 rfl dX1_shortestBetween_12 ?_
  refine lv_icmp_ge (tgt := 86) hx hb dX1_shortestBetween_15 (by decide) (fun z => ?_) (fun z => ?_)
  · have h := sg_ift h z
    obtain rfl := Option.some.inj h
    exact sg_go hk I (lv_sub hl [4] rfl)
  · have h := sg_iff h z
    refine lv_iload_n hx hb dX1_shortestBetween_18 rfl (lv_at hl 3 rfl) ?_
    refine lv_iload hx hb dX1_shortestBetween_19 (lv_at hl 5 rfl) ?_
    refine lv_ishr hx hb dX1_shortestBetween_21 ?_
    refine lv_iconst (v := 1) hx hb dX1_shortestBetween_22 (by decide) ?_
    refine lv_iand hx hb dX1_shortestBetween_23 ?_
    refine lv_if_ne (tgt := 45) hx hb dX1_shortestBetween_24 (by decide) (fun z => ?_) (fun z => ?_)
    · have h := sg_iff h z
      refine lv_iconst (v := 0) hx hb dX1_shortestBetween_45 (by decide) ?_
      exact b_X1_shortestBetween_L6_B46 X I (lv_sub hl [0, 1, 2, 3, 4, 5] rfl) h hk
    · have h := sg_ift h z
      refine lv_aload_n hx hb dX1_shortestBetween_27 rfl (lv_at hl 0 rfl) ?_
      refine sg_getr X I fk_X1_28 (j := 3) (by decide) shC_49 rfl dX1_shortestBetween_28 ?_
      refine lv_iload hx hb dX1_shortestBetween_31 (lv_at hl 5 rfl) ?_
      refine lv_iload_n hx hb dX1_shortestBetween_33 rfl (lv_at hl 1 rfl) ?_
      refine lv_iload_n hx hb dX1_shortestBetween_34 rfl (lv_at hl 2 rfl) ?_
      refine sg_callVr (As := [.int x5, .int p1, .int p2]) X I mk_X1_144 (by decide) (by decide) shC_3 rfl (fun q9 e9 => c_X0_isBetween isCo_3 e9) h hl.1 rfl rfl (Nat.le_of_ble_eq_true rfl) dX1_shortestBetween_35 (fun v3 H locs h I => ?_)
      refine lv_if_eq (tgt := 45) hx hb dX1_shortestBetween_38 (by decide) (fun z => ?_) (fun z => ?_)
      · have h := sg_ift h z
        refine lv_iconst (v := 0) hx hb dX1_shortestBetween_45 (by decide) ?_
        exact b_X1_shortestBetween_L6_B46 X I (lv_sub hl [0, 1, 2, 3, 4, 5] rfl) h hk
      · have h := sg_iff h z
        refine lv_iconst (v := 1) hx hb dX1_shortestBetween_41 (by decide) ?_
        refine lv_goto (tgt := 46) hx hb dX1_shortestBetween_42 (by decide) ?_
        exact b_X1_shortestBetween_L6_B46 X I (lv_sub hl [0, 1, 2, 3, 4, 5] rfl) h hk
def f_X1_shortestBetween (N : Nat) (p1 : Int32) (p2 : Int32) (p3 : Int32) (σ : sgS) : Option (Int32) :=
  sg_lb (sg_lp (fun x => f_X1_shortestBetween_L6 N p1 p2 p3 x.1 x.2 σ) N (((-1), 0))) (fun r => some r) fun y4 =>
some y4
set_option maxHeartbeats 4000000 in
set_option maxRecDepth 100000 in
theorem b_X1_shortestBetween {p : Program} {l : Launch} {e : Env} {R : Room} {s : State} {m : MethodId} {args : Array Value} {below : List Frame} {meth : Method} {c : Code} {Q : State → Prop} {P : sgP} {A : Nat → Prop} {N : Nat} {p1 : Int32} {p2 : Int32} {p3 : Int32} {σ : sgS} (X : sg_C P A 2 p R s m args c cX1_shortestBetween 7 RX1) {H : Heap} {locs : List Loc} (I : sg_I P shC 332 A s.heap σ H locs) {ls : Array Slot} (hl : lv_has ls 7 [(0, .ref (sgA P 49)), (1, .int p1), (2, .int p2), (3, .int p3)]) {st : Int32} (h : f_X1_shortestBetween N p1 p2 p3 σ = some st) (hk : sg_Ri p l e R s m args below meth c Q P shC 332 A cX1_shortestBetween (some .int) (st, σ)) : W p l e R s m args below meth c H locs 0 0 Q (F0 m 0 ls []) := by
  unfold f_X1_shortestBetween at h
  have hx := X.1.1
  have hb := X.1.2.1
  have hown := X.1.2.2.2.1
  have hts := X.1.2.2.2.2
  refine lv_iconst (v := -1) hx hb dX1_shortestBetween_0 (by decide) ?_
  refine lv_istore (lv' := [(4, .int ((-1))), (0, .ref (sgA P 49)), (1, .int p1), (2, .int p2), (3, .int p3)]) hx hb dX1_shortestBetween_1 hl (by decide) rfl (fun ls hl => ?_)
  refine lv_iconst (v := 0) hx hb dX1_shortestBetween_3 (by decide) ?_
  refine lv_istore (lv' := [(5, .int 0), (4, .int ((-1))), (0, .ref (sgA P 49)), (1, .int p1), (2, .int p2), (3, .int p3)]) hx hb dX1_shortestBetween_4 hl (by decide) rfl (fun ls hl => ?_)
  obtain ⟨res, e9, k9⟩ := sg_lb_some h
  refine sg_go (sg_lp_W (a := (fun r => sg_Ri p l e R s m args below meth c Q P shC 332 A cX1_shortestBetween (some .int) (r, σ))) (w := (fun x => sg_Wt p l e R s m args below meth c Q P shC 332 A 7 6 σ [(0, .ref (sgA P 49)), (1, .int p1), (2, .int p2), (3, .int p3), (4, .int x.1), (5, .int x.2)])) (c := (fun y => sg_Wt p l e R s m args below meth c Q P shC 332 A 7 86 σ [(4, .int y)])) (fun x st hb9 hk9 => ?_) N (((-1), 0)) res e9 (sg_k2_mono k9 (fun r h => ?_) (fun y4 h => ?_))) I (lv_sub hl [2, 3, 4, 5, 1, 0] rfl)
  · intro H locs ls I hl
    exact b_X1_shortestBetween_L6 X I hl hb9 hk9
  · obtain rfl := Option.some.inj h
    exact hk
  · intro H locs ls I hl
    refine lv_iload hx hb dX1_shortestBetween_86 (lv_at hl 0 rfl) ?_
    obtain rfl := Option.some.inj h
    exact hk _ _ _ _ _ I ⟨_, rfl, rfl⟩ dX1_shortestBetween_88
set_option maxHeartbeats 4000000 in
set_option maxRecDepth 100000 in
theorem c_X1_shortestBetween {l : Launch} {P : sgP} {N : Nat} {p1 : Int32} {p2 : Int32} {p3 : Int32} {σ : sgS} {q : Int32} (h : f_X1_shortestBetween N p1 p2 p3 σ = some q) : sg_Mi P shC 332 l yX1_shortestBetween cX1_shortestBetween 7 (some .int) 2 [.ref (sgA P 49), .int p1, .int p2, .int p3] σ (q, σ) := by
  refine sg_mki (plainFor_of_name (by decide +kernel)) (Nat.le_of_ble_eq_true rfl) ?_
  intro p e R s m args below meth c Q A ls H locs X I hl hk
  exact b_X1_shortestBetween X I hl h hk
def f_X1_callAt (N : Nat) (p1 : Int32) (p2 : Nat) (σ : sgS) : Option (Int32 × sgS) :=
  sg_cr (f_X0_hasPlace N 3 p1 σ) fun v1 =>
if v1 = 0 then
  (some (0, σ))
else
  (sg_ld σ (p2 + 5) 7 p1 fun v2 =>
  sg_st σ (p2 + 5) 7 p1 ((if (v2 + 1) < 999 then (v2 + 1) else 999)) fun s3 =>
  sg_ld s3 4 7 p1 fun v4 =>
  if v4 ≤ 0 then
    (some (0, s3))
  else
    (sg_pf s3 p2 6 ((if ((s3.1 p2 6) + 1) < 999 then ((s3.1 p2 6) + 1) else 999)) fun s5 =>
    some (0, s5)))
set_option maxHeartbeats 4000000 in
set_option maxRecDepth 100000 in
theorem b_X1_callAt {p : Program} {l : Launch} {e : Env} {R : Room} {s : State} {m : MethodId} {args : Array Value} {below : List Frame} {meth : Method} {c : Code} {Q : State → Prop} {P : sgP} {A : Nat → Prop} {N : Nat} {p1 : Int32} {p2 : Nat} {σ : sgS} (X : sg_C P A 2 p R s m args c cX1_callAt 3 RX1) (hp2 : isSt p2) {H : Heap} {locs : List Loc} (I : sg_I P shC 332 A s.heap σ H locs) {ls : Array Slot} (hl : lv_has ls 3 [(0, .ref (sgA P 49)), (1, .int p1), (2, .ref (sgA P p2))]) {st : Int32 × sgS} (h : f_X1_callAt N p1 p2 σ = some st) (hk : sg_Rv p l e R s m args below meth c Q P shC 332 A cX1_callAt st) : W p l e R s m args below meth c H locs 0 0 Q (F0 m 0 ls []) := by
  unfold f_X1_callAt at h
  have hx := X.1.1
  have hb := X.1.2.1
  have hown := X.1.2.2.2.1
  have hts := X.1.2.2.2.2
  refine lv_aload_n hx hb dX1_callAt_0 rfl (lv_at hl 0 rfl) ?_
  refine sg_getr X I fk_X1_28 (j := 3) (by decide) shC_49 rfl dX1_callAt_1 ?_
  refine lv_iload_n hx hb dX1_callAt_4 rfl (lv_at hl 1 rfl) ?_
  refine sg_callVr (As := [.int p1]) X I mk_X1_148 (by decide) (by decide) shC_3 rfl (fun q9 e9 => c_X0_hasPlace isCo_3 e9) h hl.1 rfl rfl (Nat.le_of_ble_eq_true rfl) dX1_callAt_5 (fun v1 H locs h I => ?_)
  refine lv_if_ne (tgt := 12) hx hb dX1_callAt_8 (by decide) (fun z => ?_) (fun z => ?_)
  · have h := sg_iff h z
    refine lv_aload_n hx hb dX1_callAt_12 rfl (lv_at hl 2 rfl) ?_
    refine sg_getrN X I fn_X1_151 (j := p2 + 5) (isSt_i0 hp2) (isSt_s0 hp2) rfl dX1_callAt_13 ?_
    refine lv_iload_n hx hb dX1_callAt_16 rfl (lv_at hl 1 rfl) ?_
    refine lv_sipush (v := 999) hx hb dX1_callAt_17 (by decide) ?_
    refine lv_aload_n hx hb dX1_callAt_20 rfl (lv_at hl 2 rfl) ?_
    refine sg_getrN X I fn_X1_151 (j := p2 + 5) (isSt_i0 hp2) (isSt_s0 hp2) rfl dX1_callAt_21 ?_
    refine lv_iload_n hx hb dX1_callAt_24 rfl (lv_at hl 1 rfl) ?_
    refine sg_iald X I (isSt_i5 hp2) (isSt_s5 hp2) h dX1_callAt_25 (fun v2 h => ?_)
    refine lv_iconst (v := 1) hx hb dX1_callAt_26 (by decide) ?_
    refine lv_iadd hx hb dX1_callAt_27 ?_
    refine sg_mmin X hl.1 (by first | decide | omega) qw_701 qw_289 qw_286 qw_290 (Nat.le_of_ble_eq_true rfl) dX1_callAt_28 ?_
    refine sg_iast X I (isSt_i5 hp2) (isSt_s5 hp2) h dX1_callAt_31 (fun s3 H locs h I => ?_)
    refine lv_aload_n hx hb dX1_callAt_32 rfl (lv_at hl 0 rfl) ?_
    refine sg_getr X I fk_X1_28 (j := 3) (by decide) shC_49 rfl dX1_callAt_33 ?_
    refine sg_getrN X I fn_X1_89 (j := 4) (by decide) shC_3 rfl dX1_callAt_36 ?_
    refine lv_iload_n hx hb dX1_callAt_39 rfl (lv_at hl 1 rfl) ?_
    refine sg_iald X I (by decide) shC_4 h dX1_callAt_40 (fun v4 h => ?_)
    refine lv_if_le (tgt := 60) hx hb dX1_callAt_41 (by decide) (fun z => ?_) (fun z => ?_)
    · have h := sg_ift h z
      obtain rfl := Option.some.inj h
      exact hk _ _ _ _ I dX1_callAt_60
    · have h := sg_iff h z
      refine lv_aload_n hx hb dX1_callAt_44 rfl (lv_at hl 2 rfl) ?_
      refine lv_sipush (v := 999) hx hb dX1_callAt_45 (by decide) ?_
      refine lv_aload_n hx hb dX1_callAt_48 rfl (lv_at hl 2 rfl) ?_
      refine sg_getiN X I fn_X1_154 (isSt_i0 hp2) (isSt_s0 hp2) rfl dX1_callAt_49 ?_
      refine lv_iconst (v := 1) hx hb dX1_callAt_52 (by decide) ?_
      refine lv_iadd hx hb dX1_callAt_53 ?_
      refine sg_mmin X hl.1 (by first | decide | omega) qw_701 qw_289 qw_286 qw_290 (Nat.le_of_ble_eq_true rfl) dX1_callAt_54 ?_
      refine sg_putiN X I fn_X1_154 wk_8_6 rfl rfl (isSt_i0 hp2) (isSt_s0 hp2) rfl h dX1_callAt_57 (fun s5 H locs h I => ?_)
      obtain rfl := Option.some.inj h
      exact hk _ _ _ _ I dX1_callAt_60
  · have h := sg_ift h z
    obtain rfl := Option.some.inj h
    exact hk _ _ _ _ I dX1_callAt_11
set_option maxHeartbeats 4000000 in
set_option maxRecDepth 100000 in
theorem c_X1_callAt {l : Launch} {P : sgP} {N : Nat} {p1 : Int32} {p2 : Nat} {σ : sgS} (hp2 : isSt p2) {q : Int32 × sgS} (h : f_X1_callAt N p1 p2 σ = some q) : sg_Mv P shC 332 l yX1_callAt cX1_callAt 3 none 2 [.ref (sgA P 49), .int p1, .ref (sgA P p2)] σ q := by
  refine sg_mkv (plainFor_of_name (by decide +kernel)) (Nat.le_of_ble_eq_true rfl) ?_
  intro p e R s m args below meth c Q A ls H locs X I hl hk
  exact b_X1_callAt X hp2 I hl h hk
def f_X8_takeWay (N : Nat) (o : Nat) (p1 : Int32) (σ : sgS) : Option (Int32 × sgS) :=
  sg_st σ (o + 2) 4 p1 ((-1)) fun s1 =>
sg_st s1 (o + 3) 4 p1 0 fun s2 =>
some (0, s2)
set_option maxHeartbeats 4000000 in
set_option maxRecDepth 100000 in
theorem b_X8_takeWay {p : Program} {l : Launch} {e : Env} {R : Room} {s : State} {m : MethodId} {args : Array Value} {below : List Frame} {meth : Method} {c : Code} {Q : State → Prop} {P : sgP} {A : Nat → Prop} {N : Nat} {o : Nat} {p1 : Int32} {σ : sgS} (X : sg_C P A 1 p R s m args c cX8_takeWay 2 RX8) (ho : isSt o) {H : Heap} {locs : List Loc} (I : sg_I P shC 332 A s.heap σ H locs) {ls : Array Slot} (hl : lv_has ls 2 [(0, .ref (sgA P o)), (1, .int p1)]) {st : Int32 × sgS} (h : f_X8_takeWay N o p1 σ = some st) (hk : sg_Rv p l e R s m args below meth c Q P shC 332 A cX8_takeWay st) : W p l e R s m args below meth c H locs 0 0 Q (F0 m 0 ls []) := by
  unfold f_X8_takeWay at h
  have hx := X.1.1
  have hb := X.1.2.1
  have hown := X.1.2.2.2.1
  have hts := X.1.2.2.2.2
  refine lv_aload_n hx hb dX8_takeWay_0 rfl (lv_at hl 0 rfl) ?_
  refine sg_getr X I fk_X8_15 (j := o + 2) (isSt_i0 ho) (isSt_s0 ho) rfl dX8_takeWay_1 ?_
  refine lv_iload_n hx hb dX8_takeWay_4 rfl (lv_at hl 1 rfl) ?_
  refine lv_iconst (v := -1) hx hb dX8_takeWay_5 (by decide) ?_
  refine sg_iast X I (isSt_i2 ho) (isSt_s2 ho) h dX8_takeWay_6 (fun s1 H locs h I => ?_)
  refine lv_aload_n hx hb dX8_takeWay_7 rfl (lv_at hl 0 rfl) ?_
  refine sg_getr X I fk_X8_18 (j := o + 3) (isSt_i0 ho) (isSt_s0 ho) rfl dX8_takeWay_8 ?_
  refine lv_iload_n hx hb dX8_takeWay_11 rfl (lv_at hl 1 rfl) ?_
  refine lv_iconst (v := 0) hx hb dX8_takeWay_12 (by decide) ?_
  refine sg_iast X I (isSt_i3 ho) (isSt_s3 ho) h dX8_takeWay_13 (fun s2 H locs h I => ?_)
  obtain rfl := Option.some.inj h
  exact hk _ _ _ _ I dX8_takeWay_14
set_option maxHeartbeats 4000000 in
set_option maxRecDepth 100000 in
theorem c_X8_takeWay {l : Launch} {P : sgP} {N : Nat} {o : Nat} {p1 : Int32} {σ : sgS} (ho : isSt o) {q : Int32 × sgS} (h : f_X8_takeWay N o p1 σ = some q) : sg_Mv P shC 332 l yX8_takeWay cX8_takeWay 2 none 1 [.ref (sgA P o), .int p1] σ q := by
  refine sg_mkv (plainFor_of_name (by decide +kernel)) (Nat.le_of_ble_eq_true rfl) ?_
  intro p e R s m args below meth c Q A ls H locs X I hl hk
  exact b_X8_takeWay X ho I hl h hk
