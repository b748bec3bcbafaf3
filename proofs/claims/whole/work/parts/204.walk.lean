def f_X5_countPlacesTo_L2 (N : Nat) (p1 : Int32) (x2 : Int32) (σ : sgS) : Option ((Int32 × sgS) ⊕ ((sgS × Int32) ⊕ (sgS))) :=
  if (σ.1 3 3) ≤ x2 then
  (some (.inr (.inr σ)))
else
  (if x2 = p1 then
    (sg_st σ 319 7 x2 0 fun s2 =>
    some (.inr (.inl (s2, x2 + 1))))
  else
    (sg_st σ 319 7 x2 7 fun s1 =>
    some (.inr (.inl (s1, x2 + 1)))))
set_option maxHeartbeats 4000000 in
set_option maxRecDepth 100000 in
theorem b_X5_countPlacesTo_L2 {p : Program} {l : Launch} {e : Env} {R : Room} {s : State} {m : MethodId} {args : Array Value} {below : List Frame} {meth : Method} {c : Code} {Q : State → Prop} {P : sgP} {A : Nat → Prop} {N : Nat} {p1 : Int32} {x2 : Int32} {σ : sgS} (X : sg_C P A 3 p R s m args c cX5_countPlacesTo 5 RX5) {H : Heap} {locs : List Loc} (I : sg_I P shC 332 A s.heap σ H locs) {ls : Array Slot} (hl : lv_has ls 5 [(0, .ref (sgA P 302)), (1, .int p1), (2, .int x2)]) {st : (Int32 × sgS) ⊕ ((sgS × Int32) ⊕ (sgS))} (h : f_X5_countPlacesTo_L2 N p1 x2 σ = some st) (hk : sg_k3 (sg_Rv p l e R s m args below meth c Q P shC 332 A cX5_countPlacesTo) (fun x => sg_Wt p l e R s m args below meth c Q P shC 332 A 5 2 x.1 [(0, .ref (sgA P 302)), (1, .int p1), (2, .int x.2)]) (fun y => sg_Wt p l e R s m args below meth c Q P shC 332 A 5 36 y [(0, .ref (sgA P 302)), (1, .int p1)]) st) : W p l e R s m args below meth c H locs 0 0 Q (F0 m 2 ls []) := by
  unfold f_X5_countPlacesTo_L2 at h
  have hx := X.1.1
  have hb := X.1.2.1
  have hown := X.1.2.2.2.1
  have hts := X.1.2.2.2.2
  refine lv_iload_n hx hb dX5_countPlacesTo_2 rfl (lv_at hl 2 rfl) ?_
  refine lv_aload_n hx hb dX5_countPlacesTo_3 rfl (lv_at hl 0 rfl) ?_
  refine sg_getr X I fk_X5_23 (j := 3) (by decide) shC_302 rfl dX5_countPlacesTo_4 ?_
  refine sg_getiN X I fn_X5_52 (by decide) shC_3 rfl dX5_countPlacesTo_7 ?_
  refine lv_icmp_ge (tgt := 36) hx hb dX5_countPlacesTo_10 (by decide) (fun z => ?_) (fun z => ?_)
  · have h := sg_ift h z
    obtain rfl := Option.some.inj h
    exact sg_go hk I (lv_sub hl [0, 1] rfl)
  · have h := sg_iff h z
    refine lv_aload_n hx hb dX5_countPlacesTo_13 rfl (lv_at hl 0 rfl) ?_
    refine sg_getr X I fk_X5_19 (j := 319) (by decide) shC_302 rfl dX5_countPlacesTo_14 ?_
    refine lv_iload_n hx hb dX5_countPlacesTo_17 rfl (lv_at hl 2 rfl) ?_
    refine lv_iload_n hx hb dX5_countPlacesTo_18 rfl (lv_at hl 2 rfl) ?_
    refine lv_iload_n hx hb dX5_countPlacesTo_19 rfl (lv_at hl 1 rfl) ?_
    refine lv_icmp_ne (tgt := 27) hx hb dX5_countPlacesTo_20 (by decide) (fun z => ?_) (fun z => ?_)
    · have h := sg_iff h z
      refine lv_bipush (v := 7) hx hb dX5_countPlacesTo_27 (by decide) ?_
      refine sg_iast X I (by decide) shC_319 h dX5_countPlacesTo_29 (fun s1 H locs h I => ?_)
      refine lv_iinc (v := x2 + 1) (lv' := [(2, .int (x2 + 1)), (0, .ref (sgA P 302)), (1, .int p1)]) hx hb dX5_countPlacesTo_30 hl (k := 2) rfl rfl (by decide) rfl (fun ls hl => ?_)
      refine lv_goto (tgt := 2) hx hb dX5_countPlacesTo_33 (by decide) ?_
      obtain rfl := Option.some.inj h
      exact sg_go hk I (lv_sub hl [1, 2, 0] rfl)
    · have h := sg_ift h z
      refine lv_iconst (v := 0) hx hb dX5_countPlacesTo_23 (by decide) ?_
      refine lv_goto (tgt := 29) hx hb dX5_countPlacesTo_24 (by decide) ?_
      refine sg_iast X I (by decide) shC_319 h dX5_countPlacesTo_29 (fun s2 H locs h I => ?_)
      refine lv_iinc (v := x2 + 1) (lv' := [(2, .int (x2 + 1)), (0, .ref (sgA P 302)), (1, .int p1)]) hx hb dX5_countPlacesTo_30 hl (k := 2) rfl rfl (by decide) rfl (fun ls hl => ?_)
      refine lv_goto (tgt := 2) hx hb dX5_countPlacesTo_33 (by decide) ?_
      obtain rfl := Option.some.inj h
      exact sg_go hk I (lv_sub hl [1, 2, 0] rfl)
def f_X5_countPlacesTo_L65 (N : Nat) (p1 : Int32) (w2 : Int32) (w3 : Int32) (x4 : Int32) (σ : sgS) : Option ((Int32 × sgS) ⊕ ((sgS × Int32) ⊕ (sgS))) :=
  if (σ.1 3 3) ≤ x4 then
  (some (.inr (.inr σ)))
else
  (sg_cr (f_X5_leadsOn N w3 x4 p1 σ) fun v4 =>
  if v4 = 0 then
    (some (.inr (.inl (σ, x4 + 1))))
  else
    (sg_ld σ 319 7 w3 fun v5 =>
    sg_ld σ 319 7 x4 fun v6 =>
    sg_st σ 319 7 w3 ((if (v6 + 1) < v5 then (v6 + 1) else v5)) fun s7 =>
    some (.inr (.inl (s7, x4 + 1)))))
set_option maxHeartbeats 4000000 in
set_option maxRecDepth 100000 in
theorem b_X5_countPlacesTo_L65 {p : Program} {l : Launch} {e : Env} {R : Room} {s : State} {m : MethodId} {args : Array Value} {below : List Frame} {meth : Method} {c : Code} {Q : State → Prop} {P : sgP} {A : Nat → Prop} {N : Nat} {p1 : Int32} {w2 : Int32} {w3 : Int32} {x4 : Int32} {σ : sgS} (X : sg_C P A 3 p R s m args c cX5_countPlacesTo 5 RX5) {H : Heap} {locs : List Loc} (I : sg_I P shC 332 A s.heap σ H locs) {ls : Array Slot} (hl : lv_has ls 5 [(0, .ref (sgA P 302)), (1, .int p1), (2, .int w2), (3, .int w3), (4, .int x4)]) {st : (Int32 × sgS) ⊕ ((sgS × Int32) ⊕ (sgS))} (h : f_X5_countPlacesTo_L65 N p1 w2 w3 x4 σ = some st) (hk : sg_k3 (sg_Rv p l e R s m args below meth c Q P shC 332 A cX5_countPlacesTo) (fun x => sg_Wt p l e R s m args below meth c Q P shC 332 A 5 65 x.1 [(0, .ref (sgA P 302)), (1, .int p1), (2, .int w2), (3, .int w3), (4, .int x.2)]) (fun y => sg_Wt p l e R s m args below meth c Q P shC 332 A 5 118 y [(0, .ref (sgA P 302)), (1, .int p1), (2, .int w2), (3, .int w3)]) st) : W p l e R s m args below meth c H locs 0 0 Q (F0 m 65 ls []) := by
  unfold f_X5_countPlacesTo_L65 at h
  have hx := X.1.1
  have hb := X.1.2.1
  have hown := X.1.2.2.2.1
  have hts := X.1.2.2.2.2
  refine lv_iload hx hb dX5_countPlacesTo_65 (lv_at hl 4 rfl) ?_
  refine lv_aload_n hx hb dX5_countPlacesTo_67 rfl (lv_at hl 0 rfl) ?_
  refine sg_getr X I fk_X5_23 (j := 3) (by decide) shC_302 rfl dX5_countPlacesTo_68 ?_
  refine sg_getiN X I fn_X5_52 (by decide) shC_3 rfl dX5_countPlacesTo_71 ?_
  refine lv_icmp_ge (tgt := 118) hx hb dX5_countPlacesTo_74 (by decide) (fun z => ?_) (fun z => ?_)
  · have h := sg_ift h z
    obtain rfl := Option.some.inj h
    exact sg_go hk I (lv_sub hl [0, 1, 2, 3] rfl)
  · have h := sg_iff h z
    refine lv_aload_n hx hb dX5_countPlacesTo_77 rfl (lv_at hl 0 rfl) ?_
    refine lv_iload_n hx hb dX5_countPlacesTo_78 rfl (lv_at hl 3 rfl) ?_
    refine lv_iload hx hb dX5_countPlacesTo_79 (lv_at hl 4 rfl) ?_
    refine lv_iload_n hx hb dX5_countPlacesTo_81 rfl (lv_at hl 1 rfl) ?_
    refine sg_callVr (As := [.int w3, .int x4, .int p1]) X I mk_X5_74 (by decide) (by decide) shC_302 rfl (fun q9 e9 => c_X5_leadsOn e9) h hl.1 rfl rfl (Nat.le_of_ble_eq_true rfl) dX5_countPlacesTo_82 (fun v4 H locs h I => ?_)
    refine lv_if_eq (tgt := 112) hx hb dX5_countPlacesTo_85 (by decide) (fun z => ?_) (fun z => ?_)
    · have h := sg_ift h z
      refine lv_iinc (v := x4 + 1) (lv' := [(4, .int (x4 + 1)), (0, .ref (sgA P 302)), (1, .int p1), (2, .int w2), (3, .int w3)]) hx hb dX5_countPlacesTo_112 hl (k := 4) rfl rfl (by decide) rfl (fun ls hl => ?_)
      refine lv_goto (tgt := 65) hx hb dX5_countPlacesTo_115 (by decide) ?_
      obtain rfl := Option.some.inj h
      exact sg_go hk I (lv_sub hl [1, 2, 3, 4, 0] rfl)
    · have h := sg_iff h z
      refine lv_aload_n hx hb dX5_countPlacesTo_88 rfl (lv_at hl 0 rfl) ?_
      refine sg_getr X I fk_X5_19 (j := 319) (by decide) shC_302 rfl dX5_countPlacesTo_89 ?_
      refine lv_iload_n hx hb dX5_countPlacesTo_92 rfl (lv_at hl 3 rfl) ?_
      refine lv_aload_n hx hb dX5_countPlacesTo_93 rfl (lv_at hl 0 rfl) ?_
      refine sg_getr X I fk_X5_19 (j := 319) (by decide) shC_302 rfl dX5_countPlacesTo_94 ?_
      refine lv_iload_n hx hb dX5_countPlacesTo_97 rfl (lv_at hl 3 rfl) ?_
      refine sg_iald X I (by decide) shC_319 h dX5_countPlacesTo_98 (fun v5 h => ?_)
      refine lv_aload_n hx hb dX5_countPlacesTo_99 rfl (lv_at hl 0 rfl) ?_
      refine sg_getr X I fk_X5_19 (j := 319) (by decide) shC_302 rfl dX5_countPlacesTo_100 ?_
      refine lv_iload hx hb dX5_countPlacesTo_103 (lv_at hl 4 rfl) ?_
      refine sg_iald X I (by decide) shC_319 h dX5_countPlacesTo_105 (fun v6 h => ?_)
      refine lv_iconst (v := 1) hx hb dX5_countPlacesTo_106 (by decide) ?_
      refine lv_iadd hx hb dX5_countPlacesTo_107 ?_
      refine sg_mmin X hl.1 (by first | decide | omega) qw_1149 qw_289 qw_286 qw_290 (Nat.le_of_ble_eq_true rfl) dX5_countPlacesTo_108 ?_
      refine sg_iast X I (by decide) shC_319 h dX5_countPlacesTo_111 (fun s7 H locs h I => ?_)
      refine lv_iinc (v := x4 + 1) (lv' := [(4, .int (x4 + 1)), (0, .ref (sgA P 302)), (1, .int p1), (2, .int w2), (3, .int w3)]) hx hb dX5_countPlacesTo_112 hl (k := 4) rfl rfl (by decide) rfl (fun ls hl => ?_)
      refine lv_goto (tgt := 65) hx hb dX5_countPlacesTo_115 (by decide) ?_
      obtain rfl := Option.some.inj h
      exact sg_go hk I (lv_sub hl [1, 2, 3, 4, 0] rfl)
def f_X5_countPlacesTo_L51 (N : Nat) (p1 : Int32) (w2 : Int32) (x3 : Int32) (σ : sgS) : Option ((Int32 × sgS) ⊕ ((sgS × Int32) ⊕ (sgS))) :=
  if (σ.1 3 3) ≤ x3 then
  (some (.inr (.inr σ)))
else
  (sg_lb (sg_lp (fun x => f_X5_countPlacesTo_L65 N p1 w2 x3 x.2 x.1) N ((σ, 0))) (fun r => some (.inl r)) fun y8 =>
  some (.inr (.inl (y8, x3 + 1))))
set_option maxHeartbeats 4000000 in
set_option maxRecDepth 100000 in
theorem b_X5_countPlacesTo_L51 {p : Program} {l : Launch} {e : Env} {R : Room} {s : State} {m : MethodId} {args : Array Value} {below : List Frame} {meth : Method} {c : Code} {Q : State → Prop} {P : sgP} {A : Nat → Prop} {N : Nat} {p1 : Int32} {w2 : Int32} {x3 : Int32} {σ : sgS} (X : sg_C P A 3 p R s m args c cX5_countPlacesTo 5 RX5) {H : Heap} {locs : List Loc} (I : sg_I P shC 332 A s.heap σ H locs) {ls : Array Slot} (hl : lv_has ls 5 [(0, .ref (sgA P 302)), (1, .int p1), (2, .int w2), (3, .int x3)]) {st : (Int32 × sgS) ⊕ ((sgS × Int32) ⊕ (sgS))} (h : f_X5_countPlacesTo_L51 N p1 w2 x3 σ = some st) (hk : sg_k3 (sg_Rv p l e R s m args below meth c Q P shC 332 A cX5_countPlacesTo) (fun x => sg_Wt p l e R s m args below meth c Q P shC 332 A 5 51 x.1 [(0, .ref (sgA P 302)), (1, .int p1), (2, .int w2), (3, .int x.2)]) (fun y => sg_Wt p l e R s m args below meth c Q P shC 332 A 5 124 y [(0, .ref (sgA P 302)), (1, .int p1), (2, .int w2)]) st) : W p l e R s m args below meth c H locs 0 0 Q (F0 m 51 ls []) := by
  unfold f_X5_countPlacesTo_L51 at h
  have hx := X.1.1
  have hb := X.1.2.1
  have hown := X.1.2.2.2.1
  have hts := X.1.2.2.2.2
  refine lv_iload_n hx hb dX5_countPlacesTo_51 rfl (lv_at hl 3 rfl) ?_
  refine lv_aload_n hx hb dX5_countPlacesTo_52 rfl (lv_at hl 0 rfl) ?_
  refine sg_getr X I fk_X5_23 (j := 3) (by decide) shC_302 rfl dX5_countPlacesTo_53 ?_
  refine sg_getiN X I fn_X5_52 (by decide) shC_3 rfl dX5_countPlacesTo_56 ?_
  refine lv_icmp_ge (tgt := 124) hx hb dX5_countPlacesTo_59 (by decide) (fun z => ?_) (fun z => ?_)
  · have h := sg_ift h z
    obtain rfl := Option.some.inj h
    exact sg_go hk I (lv_sub hl [0, 1, 2] rfl)
  · have h := sg_iff h z
    refine lv_iconst (v := 0) hx hb dX5_countPlacesTo_62 (by decide) ?_
    refine lv_istore (lv' := [(4, .int 0), (0, .ref (sgA P 302)), (1, .int p1), (2, .int w2), (3, .int x3)]) hx hb dX5_countPlacesTo_63 hl (by decide) rfl (fun ls hl => ?_)
    obtain ⟨res, e9, k9⟩ := sg_lb_some h
    refine sg_go (sg_lp_W (a := (sg_Rv p l e R s m args below meth c Q P shC 332 A cX5_countPlacesTo)) (w := (fun x => sg_Wt p l e R s m args below meth c Q P shC 332 A 5 65 x.1 [(0, .ref (sgA P 302)), (1, .int p1), (2, .int w2), (3, .int x3), (4, .int x.2)])) (c := (fun y => sg_Wt p l e R s m args below meth c Q P shC 332 A 5 118 y [(0, .ref (sgA P 302)), (1, .int p1), (2, .int w2), (3, .int x3)])) (fun x st hb9 hk9 => ?_) N ((σ, 0)) res e9 (sg_k2_mono k9 (fun r h => ?_) (fun y8 h => ?_))) I (lv_sub hl [1, 2, 3, 4, 0] rfl)
    · intro H locs ls I hl
      exact b_X5_countPlacesTo_L65 X I hl hb9 hk9
    · obtain rfl := Option.some.inj h
      exact hk
    · intro H locs ls I hl
      refine lv_iinc (v := x3 + 1) (lv' := [(3, .int (x3 + 1)), (0, .ref (sgA P 302)), (1, .int p1), (2, .int w2)]) hx hb dX5_countPlacesTo_118 hl (k := 3) rfl rfl (by decide) rfl (fun ls hl => ?_)
      refine lv_goto (tgt := 51) hx hb dX5_countPlacesTo_121 (by decide) ?_
      obtain rfl := Option.some.inj h
      exact sg_go hk I (lv_sub hl [1, 2, 3, 0] rfl)
def f_X5_countPlacesTo_L38 (N : Nat) (p1 : Int32) (x2 : Int32) (σ : sgS) : Option ((Int32 × sgS) ⊕ ((sgS × Int32) ⊕ (sgS))) :=
  if (σ.1 3 3) ≤ x2 then
  (some (.inr (.inr σ)))
else
  (sg_lb (sg_lp (fun x => f_X5_countPlacesTo_L51 N p1 x2 x.2 x.1) N ((σ, 0))) (fun r => some (.inl r)) fun y9 =>
  some (.inr (.inl (y9, x2 + 1))))
set_option maxHeartbeats 4000000 in
set_option maxRecDepth 100000 in
theorem b_X5_countPlacesTo_L38 {p : Program} {l : Launch} {e : Env} {R : Room} {s : State} {m : MethodId} {args : Array Value} {below : List Frame} {meth : Method} {c : Code} {Q : State → Prop} {P : sgP} {A : Nat → Prop} {N : Nat} {p1 : Int32} {x2 : Int32} {σ : sgS} (X : sg_C P A 3 p R s m args c cX5_countPlacesTo 5 RX5) {H : Heap} {locs : List Loc} (I : sg_I P shC 332 A s.heap σ H locs) {ls : Array Slot} (hl : lv_has ls 5 [(0, .ref (sgA P 302)), (1, .int p1), (2, .int x2)]) {st : (Int32 × sgS) ⊕ ((sgS × Int32) ⊕ (sgS))} (h : f_X5_countPlacesTo_L38 N p1 x2 σ = some st) (hk : sg_k3 (sg_Rv p l e R s m args below meth c Q P shC 332 A cX5_countPlacesTo) (fun x => sg_Wt p l e R s m args below meth c Q P shC 332 A 5 38 x.1 [(0, .ref (sgA P 302)), (1, .int p1), (2, .int x.2)]) (fun y => sg_Wt p l e R s m args below meth c Q P shC 332 A 5 130 y []) st) : W p l e R s m args below meth c H locs 0 0 Q (F0 m 38 ls []) := by
  unfold f_X5_countPlacesTo_L38 at h
  have hx := X.1.1
  have hb := X.1.2.1
  have hown := X.1.2.2.2.1
  have hts := X.1.2.2.2.2
  refine lv_iload_n hx hb dX5_countPlacesTo_38 rfl (lv_at hl 2 rfl) ?_
  refine lv_aload_n hx hb dX5_countPlacesTo_39 rfl (lv_at hl 0 rfl) ?_
  refine sg_getr X I fk_X5_23 (j := 3) (by decide) shC_302 rfl dX5_countPlacesTo_40 ?_
  refine sg_getiN X I fn_X5_52 (by decide) shC_3 rfl dX5_countPlacesTo_43 ?_
  refine lv_icmp_ge (tgt := 130) hx hb dX5_countPlacesTo_46 (by decide) (fun z => ?_) (fun z => ?_)
  · have h := sg_ift h z
    obtain rfl := Option.some.inj h
    exact sg_go hk I (lv_sub hl [] rfl)
  · have h := sg_iff h z
    refine lv_iconst (v := 0) hx hb dX5_countPlacesTo_49 (by decide) ?_
    refine lv_istore_n (lv' := [(3, .int 0), (0, .ref (sgA P 302)), (1, .int p1), (2, .int x2)]) hx hb dX5_countPlacesTo_50 rfl hl (by decide) rfl (fun ls hl => ?_)
    obtain ⟨res, e9, k9⟩ := sg_lb_some h
    refine sg_go (sg_lp_W (a := (sg_Rv p l e R s m args below meth c Q P shC 332 A cX5_countPlacesTo)) (w := (fun x => sg_Wt p l e R s m args below meth c Q P shC 332 A 5 51 x.1 [(0, .ref (sgA P 302)), (1, .int p1), (2, .int x2), (3, .int x.2)])) (c := (fun y => sg_Wt p l e R s m args below meth c Q P shC 332 A 5 124 y [(0, .ref (sgA P 302)), (1, .int p1), (2, .int x2)])) (fun x st hb9 hk9 => ?_) N ((σ, 0)) res e9 (sg_k2_mono k9 (fun r h => ?_) (fun y9 h => ?_))) I (lv_sub hl [1, 2, 3, 0] rfl)
    · intro H locs ls I hl
      exact b_X5_countPlacesTo_L51 X I hl hb9 hk9
    · obtain rfl := Option.some.inj h
      exact hk
    · intro H locs ls I hl
      refine lv_iinc (v := x2 + 1) (lv' := [(2, .int (x2 + 1)), (0, .ref (sgA P 302)), (1, .int p1)]) hx hb dX5_countPlacesTo_124 hl (k := 2) rfl rfl (by decide) rfl (fun ls hl => ?_)
      refine lv_goto (tgt := 38) hx hb dX5_countPlacesTo_127 (by decide) ?_
      obtain rfl := Option.some.inj h
      exact sg_go hk I (lv_sub hl [1, 2, 0] rfl)
def f_X5_countPlacesTo (N : Nat) (p1 : Int32) (σ : sgS) : Option (Int32 × sgS) :=
  sg_lb (sg_lp (fun x => f_X5_countPlacesTo_L2 N p1 x.2 x.1) N ((σ, 0))) (fun r => some r) fun y3 =>
sg_lb (sg_lp (fun x => f_X5_countPlacesTo_L38 N p1 x.2 x.1) N ((y3, 1))) (fun r => some r) fun y10 =>
some (0, y10)
set_option maxHeartbeats 4000000 in
set_option maxRecDepth 100000 in
theorem b_X5_countPlacesTo {p : Program} {l : Launch} {e : Env} {R : Room} {s : State} {m : MethodId} {args : Array Value} {below : List Frame} {meth : Method} {c : Code} {Q : State → Prop} {P : sgP} {A : Nat → Prop} {N : Nat} {p1 : Int32} {σ : sgS} (X : sg_C P A 3 p R s m args c cX5_countPlacesTo 5 RX5) {H : Heap} {locs : List Loc} (I : sg_I P shC 332 A s.heap σ H locs) {ls : Array Slot} (hl : lv_has ls 5 [(0, .ref (sgA P 302)), (1, .int p1)]) {st : Int32 × sgS} (h : f_X5_countPlacesTo N p1 σ = some st) (hk : sg_Rv p l e R s m args below meth c Q P shC 332 A cX5_countPlacesTo st) : W p l e R s m args below meth c H locs 0 0 Q (F0 m 0 ls []) := by
  unfold f_X5_countPlacesTo at h
  have hx := X.1.1
  have hb := X.1.2.1
  have hown := X.1.2.2.2.1
  have hts := X.1.2.2.2.2
  refine lv_iconst (v := 0) hx hb dX5_countPlacesTo_0 (by decide) ?_
  refine lv_istore_n (lv' := [(2, .int 0), (0, .ref (sgA P 302)), (1, .int p1)]) hx hb dX5_countPlacesTo_1 rfl hl (by decide) rfl (fun ls hl => ?_)
  obtain ⟨res, e9, k9⟩ := sg_lb_some h
  refine sg_go (sg_lp_W (a := (sg_Rv p l e R s m args below meth c Q P shC 332 A cX5_countPlacesTo)) (w := (fun x => sg_Wt p l e R s m args below meth c Q P shC 332 A 5 2 x.1 [(0, .ref (sgA P 302)), (1, .int p1), (2, .int x.2)])) (c := (fun y => sg_Wt p l e R s m args below meth c Q P shC 332 A 5 36 y [(0, .ref (sgA P 302)), (1, .int p1)])) (fun x st hb9 hk9 => ?_) N ((σ, 0)) res e9 (sg_k2_mono k9 (fun r h => ?_) (fun y3 h => ?_))) I (lv_sub hl [1, 2, 0] rfl)
  · intro H locs ls I hl
    exact b_X5_countPlacesTo_L2 X I hl hb9 hk9
  · obtain rfl := Option.some.inj h
    exact hk
  · intro H locs ls I hl
    refine lv_iconst (v := 1) hx hb dX5_countPlacesTo_36 (by decide) ?_
    refine lv_istore_n (lv' := [(2, .int 1), (0, .ref (sgA P 302)), (1, .int p1)]) hx hb dX5_countPlacesTo_37 rfl hl (by decide) rfl (fun ls hl => ?_)
    obtain ⟨res, e9, k9⟩ := sg_lb_some h
    refine sg_go (sg_lp_W (a := (sg_Rv p l e R s m args below meth c Q P shC 332 A cX5_countPlacesTo)) (w := (fun x => sg_Wt p l e R s m args below meth c Q P shC 332 A 5 38 x.1 [(0, .ref (sgA P 302)), (1, .int p1), (2, .int x.2)])) (c := (fun y => sg_Wt p l e R s m args below meth c Q P shC 332 A 5 130 y [])) (fun x st hb9 hk9 => ?_) N ((y3, 1)) res e9 (sg_k2_mono k9 (fun r h => ?_) (fun y10 h => ?_))) I (lv_sub hl [1, 2, 0] rfl)
    · intro H locs ls I hl
      exact b_X5_countPlacesTo_L38 X I hl hb9 hk9
    · obtain rfl := Option.some.inj h
      exact hk
    · intro H locs ls I hl
      obtain rfl := Option.some.inj h
      exact hk _ _ _ _ I dX5_countPlacesTo_130
set_option maxHeartbeats 4000000 in
set_option maxRecDepth 100000 in
theorem c_X5_countPlacesTo {l : Launch} {P : sgP} {N : Nat} {p1 : Int32} {σ : sgS} {q : Int32 × sgS} (h : f_X5_countPlacesTo N p1 σ = some q) : sg_Mv P shC 332 l yX5_countPlacesTo cX5_countPlacesTo 5 none 3 [.ref (sgA P 302), .int p1] σ q := by
  refine sg_mkv (plainFor_of_name (by decide +kernel)) (Nat.le_of_ble_eq_true rfl) ?_
  intro p e R s m args below meth c Q A ls H locs X I hl hk
  exact b_X5_countPlacesTo X I hl h hk
def f_X5_nextOnRow_L2 (N : Nat) (p1 : Int32) (p2 : Int32) (x3 : Int32) (σ : sgS) : Option ((Int32) ⊕ ((Int32) ⊕ (Unit))) :=
  if (σ.1 3 3) ≤ x3 then
  (some (.inr (.inr ())))
else
  (sg_cr (f_X5_leadsOn N p1 x3 p2 σ) fun v1 =>
  if v1 = 0 then
    (some (.inr (.inl (x3 + 1))))
  else
    (sg_ld σ 319 7 x3 fun v2 =>
    sg_ld σ 319 7 p1 fun v3 =>
    if (v2 + 1) = v3 then
      (some (.inl x3))
    else
      (some (.inr (.inl (x3 + 1))))))
set_option maxHeartbeats 4000000 in
set_option maxRecDepth 100000 in
theorem b_X5_nextOnRow_L2 {p : Program} {l : Launch} {e : Env} {R : Room} {s : State} {m : MethodId} {args : Array Value} {below : List Frame} {meth : Method} {c : Code} {Q : State → Prop} {P : sgP} {A : Nat → Prop} {N : Nat} {p1 : Int32} {p2 : Int32} {x3 : Int32} {σ : sgS} (X : sg_C P A 3 p R s m args c cX5_nextOnRow 4 RX5) {H : Heap} {locs : List Loc} (I : sg_I P shC 332 A s.heap σ H locs) {ls : Array Slot} (hl : lv_has ls 4 [(0, .ref (sgA P 302)), (1, .int p1), (2, .int p2), (3, .int x3)]) {st : (Int32) ⊕ ((Int32) ⊕ (Unit))} (h : f_X5_nextOnRow_L2 N p1 p2 x3 σ = some st) (hk : sg_k3 (fun r => sg_Ri p l e R s m args below meth c Q P shC 332 A cX5_nextOnRow (some .int) (r, σ)) (fun x => sg_Wt p l e R s m args below meth c Q P shC 332 A 4 2 σ [(0, .ref (sgA P 302)), (1, .int p1), (2, .int p2), (3, .int x)]) (fun y => sg_Wt p l e R s m args below meth c Q P shC 332 A 4 48 σ [(2, .int p2)]) st) : W p l e R s m args below meth c H locs 0 0 Q (F0 m 2 ls []) := by
  unfold f_X5_nextOnRow_L2 at h
  have hx := X.1.1
  have hb := X.1.2.1
  have hown := X.1.2.2.2.1
  have hts := X.1.2.2.2.2
  refine lv_iload_n hx hb dX5_nextOnRow_2 rfl (lv_at hl 3 rfl) ?_
  refine lv_aload_n hx hb dX5_nextOnRow_3 rfl (lv_at hl 0 rfl) ?_
  refine sg_getr X I fk_X5_23 (j := 3) (by decide) shC_302 rfl dX5_nextOnRow_4 ?_
  refine sg_getiN X I fn_X5_52 (by decide) shC_3 rfl dX5_nextOnRow_7 ?_
  refine lv_icmp_ge (tgt := 48) hx hb dX5_nextOnRow_10 (by decide) (fun z => ?_) (fun z => ?_)
  · have h := sg_ift h z
    obtain rfl := Option.some.inj h
    exact sg_go hk I (lv_sub hl [2] rfl)
  · have h := sg_iff h z
    refine lv_aload_n hx hb dX5_nextOnRow_13 rfl (lv_at hl 0 rfl) ?_
    refine lv_iload_n hx hb dX5_nextOnRow_14 rfl (lv_at hl 1 rfl) ?_
    refine lv_iload_n hx hb dX5_nextOnRow_15 rfl (lv_at hl 3 rfl) ?_
    refine lv_iload_n hx hb dX5_nextOnRow_16 rfl (lv_at hl 2 rfl) ?_
    refine sg_callVr (As := [.int p1, .int x3, .int p2]) X I mk_X5_74 (by decide) (by decide) shC_302 rfl (fun q9 e9 => c_X5_leadsOn e9) h hl.1 rfl rfl (Nat.le_of_ble_eq_true rfl) dX5_nextOnRow_17 (fun v1 H locs h I => ?_)
    refine lv_if_eq (tgt := 42) hx hb dX5_nextOnRow_20 (by decide) (fun z => ?_) (fun z => ?_)
    · have h := sg_ift h z
      refine lv_iinc (v := x3 + 1) (lv' := [(3, .int (x3 + 1)), (0, .ref (sgA P 302)), (1, .int p1), (2, .int p2)]) hx hb dX5_nextOnRow_42 hl (k := 3) rfl rfl (by decide) rfl (fun ls hl => ?_)
      refine lv_goto (tgt := 2) hx hb dX5_nextOnRow_45 (by decide) ?_
      obtain rfl := Option.some.inj h
      exact sg_go hk I (lv_sub hl [1, 2, 3, 0] rfl)
    · have h := sg_iff h z
      refine lv_aload_n hx hb dX5_nextOnRow_23 rfl (lv_at hl 0 rfl) ?_
      refine sg_getr X I fk_X5_19 (j := 319) (by decide) shC_302 rfl dX5_nextOnRow_24 ?_
      refine lv_iload_n hx hb dX5_nextOnRow_27 rfl (lv_at hl 3 rfl) ?_
      refine sg_iald X I (by decide) shC_319 h dX5_nextOnRow_28 (fun v2 h => ?_)
      refine lv_iconst (v := 1) hx hb dX5_nextOnRow_29 (by decide) ?_
      refine lv_iadd hx hb dX5_nextOnRow_30 ?_
      refine lv_aload_n hx hb dX5_nextOnRow_31 rfl (lv_at hl 0 rfl) ?_
      refine sg_getr X I fk_X5_19 (j := 319) (by decide) shC_302 rfl dX5_nextOnRow_32 ?_
      refine lv_iload_n hx hb dX5_nextOnRow_35 rfl (lv_at hl 1 rfl) ?_
      refine sg_iald X I (by decide) shC_319 h dX5_nextOnRow_36 (fun v3 h => ?_)
      refine lv_icmp_ne (tgt := 42) hx hb dX5_nextOnRow_37 (by decide) (fun z => ?_) (fun z => ?_)
      · have h := sg_iff h z
        refine lv_iinc (v := x3 + 1) (lv' := [(3, .int (x3 + 1)), (0, .ref (sgA P 302)), (1, .int p1), (2, .int p2)]) hx hb dX5_nextOnRow_42 hl (k := 3) rfl rfl (by decide) rfl (fun ls hl => ?_)
        refine lv_goto (tgt := 2) hx hb dX5_nextOnRow_45 (by decide) ?_
        obtain rfl := Option.some.inj h
        exact sg_go hk I (lv_sub hl [1, 2, 3, 0] rfl)
      · have h := sg_ift h z
        refine lv_iload_n hx hb dX5_nextOnRow_40 rfl (lv_at hl 3 rfl) ?_
        obtain rfl := Option.some.inj h
        exact hk _ _ _ _ _ I ⟨_, rfl, rfl⟩ dX5_nextOnRow_41
def f_X5_nextOnRow (N : Nat) (p1 : Int32) (p2 : Int32) (σ : sgS) : Option (Int32) :=
  sg_lb (sg_lp (fun x => f_X5_nextOnRow_L2 N p1 p2 x σ) N 0) (fun r => some r) fun y4 =>
some p2
set_option maxHeartbeats 4000000 in
set_option maxRecDepth 100000 in
theorem b_X5_nextOnRow {p : Program} {l : Launch} {e : Env} {R : Room} {s : State} {m : MethodId} {args : Array Value} {below : List Frame} {meth : Method} {c : Code} {Q : State → Prop} {P : sgP} {A : Nat → Prop} {N : Nat} {p1 : Int32} {p2 : Int32} {σ : sgS} (X : sg_C P A 3 p R s m args c cX5_nextOnRow 4 RX5) {H : Heap} {locs : List Loc} (I : sg_I P shC 332 A s.heap σ H locs) {ls : Array Slot} (hl : lv_has ls 4 [(0, .ref (sgA P 302)), (1, .int p1), (2, .int p2)]) {st : Int32} (h : f_X5_nextOnRow N p1 p2 σ = some st) (hk : sg_Ri p l e R s m args below meth c Q P shC 332 A cX5_nextOnRow (some .int) (st, σ)) : W p l e R s m args below meth c H locs 0 0 Q (F0 m 0 ls []) := by
  unfold f_X5_nextOnRow at h
  have hx := X.1.1
  have hb := X.1.2.1
  have hown := X.1.2.2.2.1
  have hts := X.1.2.2.2.2
  refine lv_iconst (v := 0) hx hb dX5_nextOnRow_0 (by decide) ?_
  refine lv_istore_n (lv' := [(3, .int 0), (0, .ref (sgA P 302)), (1, .int p1), (2, .int p2)]) hx hb dX5_nextOnRow_1 rfl hl (by decide) rfl (fun ls hl => ?_)
  obtain ⟨res, e9, k9⟩ := sg_lb_some h
  refine sg_go (sg_lp_W (a := (fun r => sg_Ri p l e R s m args below meth c Q P shC 332 A cX5_nextOnRow (some .int) (r, σ))) (w := (fun x => sg_Wt p l e R s m args below meth c Q P shC 332 A 4 2 σ [(0, .ref (sgA P 302)), (1, .int p1), (2, .int p2), (3, .int x)])) (c := (fun y => sg_Wt p l e R s m args below meth c Q P shC 332 A 4 48 σ [(2, .int p2)])) (fun x st hb9 hk9 => ?_) N 0 res e9 (sg_k2_mono k9 (fun r h => ?_) (fun y4 h => ?_))) I (lv_sub hl [1, 2, 3, 0] rfl)
  · intro H locs ls I hl
    exact b_X5_nextOnRow_L2 X I hl hb9 hk9
  · obtain rfl := Option.some.inj h
    exact hk
  · intro H locs ls I hl
    refine lv_iload_n hx hb dX5_nextOnRow_48 rfl (lv_at hl 0 rfl) ?_
    obtain rfl := Option.some.inj h
    exact hk _ _ _ _ _ I ⟨_, rfl, rfl⟩ dX5_nextOnRow_49
set_option maxHeartbeats 4000000 in
set_option maxRecDepth 100000 in
theorem c_X5_nextOnRow {l : Launch} {P : sgP} {N : Nat} {p1 : Int32} {p2 : Int32} {σ : sgS} {q : Int32} (h : f_X5_nextOnRow N p1 p2 σ = some q) : sg_Mi P shC 332 l yX5_nextOnRow cX5_nextOnRow 4 (some .int) 3 [.ref (sgA P 302), .int p1, .int p2] σ (q, σ) := by
  refine sg_mki (plainFor_of_name (by decide +kernel)) (Nat.le_of_ble_eq_true rfl) ?_
  intro p e R s m args below meth c Q A ls H locs X I hl hk
  exact b_X5_nextOnRow X I hl h hk
def f_X5_shortestRow_L13 (N : Nat) (p1 : Int32) (p2 : Int32) (x3 : Int32) (x4 : Int32) (x5 : Int32) (σ : sgS) : Option ((Int32 × sgS) ⊕ ((Int32 × Int32 × Int32) ⊕ (Int32))) :=
  if (σ.1 3 3) ≤ x5 then
  (some (.inr (.inr x3)))
else
  (if x4 = p2 then
    (some (.inr (.inr x3)))
  else
    (sg_cr (f_X5_nextOnRow N x4 p2 σ) fun v3 =>
    some (.inr (.inl ((x3 * 10) + v3, v3, x5 + 1)))))
set_option maxHeartbeats 4000000 in
set_option maxRecDepth 100000 in
theorem b_X5_shortestRow_L13 {p : Program} {l : Launch} {e : Env} {R : Room} {s : State} {m : MethodId} {args : Array Value} {below : List Frame} {meth : Method} {c : Code} {Q : State → Prop} {P : sgP} {A : Nat → Prop} {N : Nat} {p1 : Int32} {p2 : Int32} {x3 : Int32} {x4 : Int32} {x5 : Int32} {σ : sgS} (X : sg_C P A 4 p R s m args c cX5_shortestRow 6 RX5) {H : Heap} {locs : List Loc} (I : sg_I P shC 332 A s.heap σ H locs) {ls : Array Slot} (hl : lv_has ls 6 [(0, .ref (sgA P 302)), (2, .int p2), (3, .int x3), (4, .int x4), (5, .int x5)]) {st : (Int32 × sgS) ⊕ ((Int32 × Int32 × Int32) ⊕ (Int32))} (h : f_X5_shortestRow_L13 N p1 p2 x3 x4 x5 σ = some st) (hk : sg_k3 (sg_Ri p l e R s m args below meth c Q P shC 332 A cX5_shortestRow (some .int)) (fun x => sg_Wt p l e R s m args below meth c Q P shC 332 A 6 13 σ [(0, .ref (sgA P 302)), (2, .int p2), (3, .int x.1), (4, .int x.2.1), (5, .int x.2.2)]) (fun y => sg_Wt p l e R s m args below meth c Q P shC 332 A 6 54 σ [(3, .int y)]) st) : W p l e R s m args below meth c H locs 0 0 Q (F0 m 13 ls []) := by
  unfold f_X5_shortestRow_L13 at h
  have hx := X.1.1
  have hb := X.1.2.1
  have hown := X.1.2.2.2.1
  have hts := X.1.2.2.2.2
  refine lv_iload hx hb dX5_shortestRow_13 (lv_at hl 4 rfl) ?_
  refine lv_aload_n hx hb dX5_shortestRow_15 rfl (lv_at hl 0 rfl) ?_
  refine sg_getr X I fk_X5_23 (j := 3) (by decide) shC_302 rfl dX5_shortestRow_16 ?_
  refine sg_getiN X I fn_X5_52 (by decide) shC_3 rfl dX5_shortestRow_19 ?_
  refine lv_icmp_ge (tgt := 54) hx hb dX5_shortestRow_22 (by decide) (fun z => ?_) (fun z => ?_)
  · have h := sg_ift h z
    obtain rfl := Option.some.inj h
    exact sg_go hk I (lv_sub hl [2] rfl)
  · have h := sg_iff h z
    refine lv_iload hx hb dX5_shortestRow_25 (lv_at hl 3 rfl) ?_
    refine lv_iload_n hx hb dX5_shortestRow_27 rfl (lv_at hl 1 rfl) ?_
    refine lv_icmp_eq (tgt := 54) hx hb dX5_shortestRow_28 (by decide) (fun z => ?_) (fun z => ?_)
    · have h := sg_ift h z
      obtain rfl := Option.some.inj h
      exact sg_go hk I (lv_sub hl [2] rfl)
    · have h := sg_iff h z
      refine lv_aload_n hx hb dX5_shortestRow_31 rfl (lv_at hl 0 rfl) ?_
      refine lv_iload hx hb dX5_shortestRow_32 (lv_at hl 3 rfl) ?_
      refine lv_iload_n hx hb dX5_shortestRow_34 rfl (lv_at hl 1 rfl) ?_
      refine sg_callVr (As := [.int x4, .int p2]) X I mk_X5_70 (by decide) (by decide) shC_302 rfl (fun q9 e9 => c_X5_nextOnRow e9) h hl.1 rfl rfl (Nat.le_of_ble_eq_true rfl) dX5_shortestRow_35 (fun v3 H locs h I => ?_)
      refine lv_istore (lv' := [(4, .int v3), (0, .ref (sgA P 302)), (2, .int p2), (3, .int x3), (5, .int x5)]) hx hb dX5_shortestRow_38 hl (by decide) rfl (fun ls hl => ?_)
      refine lv_iload_n hx hb dX5_shortestRow_40 rfl (lv_at hl 3 rfl) ?_
      refine lv_bipush (v := 10) hx hb dX5_shortestRow_41 (by decide) ?_
      refine lv_imul hx hb dX5_shortestRow_43 ?_
      refine lv_iload hx hb dX5_shortestRow_44 (lv_at hl 0 rfl) ?_
      refine lv_iadd hx hb dX5_shortestRow_46 ?_
      refine lv_istore_n (lv' := [(3, .int ((x3 * 10) + v3)), (4, .int v3), (0, .ref (sgA P 302)), (2, .int p2), (5, .int x5)]) hx hb dX5_shortestRow_47 rfl hl (by decide) rfl (fun ls hl => ?_)
      refine lv_iinc (v := x5 + 1) (lv' := [(5, .int (x5 + 1)), (3, .int ((x3 * 10) + v3)), (4, .int v3), (0, .ref (sgA P 302)), (2, .int p2)]) hx hb dX5_shortestRow_48 hl (k := 4) rfl rfl (by decide) rfl (fun ls hl => ?_)
      refine lv_goto (tgt := 13) hx hb dX5_shortestRow_51 (by decide) ?_
      obtain rfl := Option.some.inj h
      exact sg_go hk I (lv_sub hl [3, 4, 1, 2, 0] rfl)
def f_X5_shortestRow (N : Nat) (p1 : Int32) (p2 : Int32) (σ : sgS) : Option (Int32 × sgS) :=
  sg_cl (f_X5_countPlacesTo N p2 σ) fun v1 s2 =>
sg_lb (sg_lp (fun x => f_X5_shortestRow_L13 N p1 p2 x.1 x.2.1 x.2.2 s2) N ((p1, p1, 0))) (fun r => some r) fun y4 =>
some (y4, s2)
set_option maxHeartbeats 4000000 in
set_option maxRecDepth 100000 in
theorem b_X5_shortestRow {p : Program} {l : Launch} {e : Env} {R : Room} {s : State} {m : MethodId} {args : Array Value} {below : List Frame} {meth : Method} {c : Code} {Q : State → Prop} {P : sgP} {A : Nat → Prop} {N : Nat} {p1 : Int32} {p2 : Int32} {σ : sgS} (X : sg_C P A 4 p R s m args c cX5_shortestRow 6 RX5) {H : Heap} {locs : List Loc} (I : sg_I P shC 332 A s.heap σ H locs) {ls : Array Slot} (hl : lv_has ls 6 [(0, .ref (sgA P 302)), (1, .int p1), (2, .int p2)]) {st : Int32 × sgS} (h : f_X5_shortestRow N p1 p2 σ = some st) (hk : sg_Ri p l e R s m args below meth c Q P shC 332 A cX5_shortestRow (some .int) st) : W p l e R s m args below meth c H locs 0 0 Q (F0 m 0 ls []) := by
  unfold f_X5_shortestRow at h
  have hx := X.1.1
  have hb := X.1.2.1
  have hown := X.1.2.2.2.1
  have hts := X.1.2.2.2.2
  refine lv_aload_n hx hb dX5_shortestRow_0 rfl (lv_at hl 0 rfl) ?_
  refine lv_iload_n hx hb dX5_shortestRow_1 rfl (lv_at hl 2 rfl) ?_
  refine sg_callVv (As := [.int p2]) X I mk_X5_67 (by decide) (by decide) shC_302 rfl (fun q9 e9 => c_X5_countPlacesTo e9) h hl.1 rfl rfl (Nat.le_of_ble_eq_true rfl) dX5_shortestRow_2 (fun v1 s2 H locs h I => ?_)
  refine lv_iload_n hx hb dX5_shortestRow_5 rfl (lv_at hl 1 rfl) ?_
  refine lv_istore_n (lv' := [(3, .int p1), (0, .ref (sgA P 302)), (1, .int p1), (2, .int p2)]) hx hb dX5_shortestRow_6 rfl hl (by decide) rfl (fun ls hl => ?_)
  refine lv_iload_n hx hb dX5_shortestRow_7 rfl (lv_at hl 2 rfl) ?_
  refine lv_istore (lv' := [(4, .int p1), (3, .int p1), (0, .ref (sgA P 302)), (1, .int p1), (2, .int p2)]) hx hb dX5_shortestRow_8 hl (by decide) rfl (fun ls hl => ?_)
  refine lv_iconst (v := 0) hx hb dX5_shortestRow_10 (by decide) ?_
  refine lv_istore (lv' := [(5, .int 0), (4, .int p1), (3, .int p1), (0, .ref (sgA P 302)), (1, .int p1), (2, .int p2)]) hx hb dX5_shortestRow_11 hl (by decide) rfl (fun ls hl => ?_)
  obtain ⟨res, e9, k9⟩ := sg_lb_some h
  refine sg_go (sg_lp_W (a := (sg_Ri p l e R s m args below meth c Q P shC 332 A cX5_shortestRow (some .int))) (w := (fun x => sg_Wt p l e R s m args below meth c Q P shC 332 A 6 13 s2 [(0, .ref (sgA P 302)), (2, .int p2), (3, .int x.1), (4, .int x.2.1), (5, .int x.2.2)])) (c := (fun y => sg_Wt p l e R s m args below meth c Q P shC 332 A 6 54 s2 [(3, .int y)])) (fun x st hb9 hk9 => ?_) N ((p1, p1, 0)) res e9 (sg_k2_mono k9 (fun r h => ?_) (fun y4 h => ?_))) I (lv_sub hl [3, 5, 2, 1, 0] rfl)
  · intro H locs ls I hl
    exact b_X5_shortestRow_L13 X I hl hb9 hk9
  · obtain rfl := Option.some.inj h
    exact hk
  · intro H locs ls I hl
    refine lv_iload_n hx hb dX5_shortestRow_54 rfl (lv_at hl 0 rfl) ?_
    obtain rfl := Option.some.inj h
    exact hk _ _ _ _ _ I ⟨_, rfl, rfl⟩ dX5_shortestRow_55
set_option maxHeartbeats 4000000 in
set_option maxRecDepth 100000 in
theorem c_X5_shortestRow {l : Launch} {P : sgP} {N : Nat} {p1 : Int32} {p2 : Int32} {σ : sgS} {q : Int32 × sgS} (h : f_X5_shortestRow N p1 p2 σ = some q) : sg_Mi P shC 332 l yX5_shortestRow cX5_shortestRow 6 (some .int) 4 [.ref (sgA P 302), .int p1, .int p2] σ q := by
  refine sg_mki (plainFor_of_name (by decide +kernel)) (Nat.le_of_ble_eq_true rfl) ?_
  intro p e R s m args below meth c Q A ls H locs X I hl hk
  exact b_X5_shortestRow X I hl h hk
def f_X5_reachedFrom_L25 (N : Nat) (p1 : Int32) (p2 : Int32) (w4 : Int32) (w5 : Int32) (x3 : Int32) (x6 : Int32) (σ : sgS) : Option ((Int32) ⊕ ((Int32 × Int32) ⊕ (Int32))) :=
  if (σ.1 3 4) ≤ x6 then
  (some (.inr (.inr x3)))
else
  (sg_ld σ 5 12 x6 fun v1 =>
  sg_ld σ 6 12 x6 fun v2 =>
  if ((p2 >>> (x6 &&& 31)) &&& 1) = 0 then
    (some (.inr (.inl (x3, x6 + 1))))
  else
    (if (x3 &&& ((1 <<< (v1 &&& 31)) ||| (1 <<< (v2 &&& 31)))) = 0 then
      (some (.inr (.inl (x3, x6 + 1))))
    else
      (some (.inr (.inl (x3 ||| ((1 <<< (v1 &&& 31)) ||| (1 <<< (v2 &&& 31))), x6 + 1))))))
set_option maxHeartbeats 4000000 in
set_option maxRecDepth 100000 in
theorem b_X5_reachedFrom_L25 {p : Program} {l : Launch} {e : Env} {R : Room} {s : State} {m : MethodId} {args : Array Value} {below : List Frame} {meth : Method} {c : Code} {Q : State → Prop} {P : sgP} {A : Nat → Prop} {N : Nat} {p1 : Int32} {p2 : Int32} {w4 : Int32} {w5 : Int32} {x3 : Int32} {x6 : Int32} {σ : sgS} (X : sg_C P A 1 p R s m args c cX5_reachedFrom 8 RX5) {H : Heap} {locs : List Loc} (I : sg_I P shC 332 A s.heap σ H locs) {ls : Array Slot} (hl : lv_has ls 8 [(0, .ref (sgA P 302)), (2, .int p2), (3, .int x3), (4, .int w4), (5, .int w5), (6, .int x6)]) {st : (Int32) ⊕ ((Int32 × Int32) ⊕ (Int32))} (h : f_X5_reachedFrom_L25 N p1 p2 w4 w5 x3 x6 σ = some st) (hk : sg_k3 (fun r => sg_Ri p l e R s m args below meth c Q P shC 332 A cX5_reachedFrom (some .int) (r, σ)) (fun x => sg_Wt p l e R s m args below meth c Q P shC 332 A 8 25 σ [(0, .ref (sgA P 302)), (2, .int p2), (3, .int x.1), (4, .int w4), (5, .int w5), (6, .int x.2)]) (fun y => sg_Wt p l e R s m args below meth c Q P shC 332 A 8 91 σ [(0, .ref (sgA P 302)), (2, .int p2), (3, .int y), (4, .int w4), (5, .int w5)]) st) : W p l e R s m args below meth c H locs 0 0 Q (F0 m 25 ls []) := by
  unfold f_X5_reachedFrom_L25 at h
  have hx := X.1.1
  have hb := X.1.2.1
  have hown := X.1.2.2.2.1
  have hts := X.1.2.2.2.2
  refine lv_iload hx hb dX5_reachedFrom_25 (lv_at hl 5 rfl) ?_
  refine lv_aload_n hx hb dX5_reachedFrom_27 rfl (lv_at hl 0 rfl) ?_
  refine sg_getr X I fk_X5_23 (j := 3) (by decide) shC_302 rfl dX5_reachedFrom_28 ?_
  refine sg_getiN X I fn_X5_87 (by decide) shC_3 rfl dX5_reachedFrom_31 ?_
  refine lv_icmp_ge (tgt := 91) hx hb dX5_reachedFrom_34 (by decide) (fun z => ?_) (fun z => ?_)
  · have h := sg_ift h z
    obtain rfl := Option.some.inj h
    exact sg_go hk I (lv_sub hl [0, 1, 2, 3, 4] rfl)
  · have h := sg_iff h z
    refine lv_iconst (v := 1) hx hb dX5_reachedFrom_37 (by decide) ?_
    refine lv_aload_n hx hb dX5_reachedFrom_38 rfl (lv_at hl 0 rfl) ?_
    refine sg_getr X I fk_X5_23 (j := 3) (by decide) shC_302 rfl dX5_reachedFrom_39 ?_
    refine sg_getrN X I fn_X5_90 (j := 5) (by decide) shC_3 rfl dX5_reachedFrom_42 ?_
    refine lv_iload hx hb dX5_reachedFrom_45 (lv_at hl 5 rfl) ?_
    refine sg_iald X I (by decide) shC_5 h dX5_reachedFrom_47 (fun v1 h => ?_)
    refine lv_ishl hx hb dX5_reachedFrom_48 ?_
    refine lv_iconst (v := 1) hx hb dX5_reachedFrom_49 (by decide) ?_
    refine lv_aload_n hx hb dX5_reachedFrom_50 rfl (lv_at hl 0 rfl) ?_
    refine sg_getr X I fk_X5_23 (j := 3) (by decide) shC_302 rfl dX5_reachedFrom_51 ?_
    refine sg_getrN X I fn_X5_93 (j := 6) (by decide) shC_3 rfl dX5_reachedFrom_54 ?_
    refine lv_iload hx hb dX5_reachedFrom_57 (lv_at hl 5 rfl) ?_
    refine sg_iald X I (by decide) shC_6 h dX5_reachedFrom_59 (fun v2 h => ?_)
    refine lv_ishl hx hb dX5_reachedFrom_60 ?_
    refine lv_ior hx hb dX5_reachedFrom_61 ?_
    refine lv_istore (lv' := [(7, .int ((1 <<< (v1 &&& 31)) ||| (1 <<< (v2 &&& 31)))), (0, .ref (sgA P 302)), (2, .int p2), (3, .int x3), (4, .int w4), (5, .int w5), (6, .int x6)]) hx hb dX5_reachedFrom_62 hl (by decide) rfl (fun ls hl => ?_)
    refine lv_iload_n hx hb dX5_reachedFrom_64 rfl (lv_at hl 2 rfl) ?_
    refine lv_iload hx hb dX5_reachedFrom_65 (lv_at hl 6 rfl) ?_
    refine lv_ishr hx hb dX5_reachedFrom_67 ?_
    refine lv_iconst (v := 1) hx hb dX5_reachedFrom_68 (by decide) ?_
    refine lv_iand hx hb dX5_reachedFrom_69 ?_
    refine lv_if_eq (tgt := 85) hx hb dX5_reachedFrom_70 (by decide) (fun z => ?_) (fun z => ?_)
    · have h := sg_ift h z
      refine lv_iinc (v := x6 + 1) (lv' := [(6, .int (x6 + 1)), (7, .int ((1 <<< (v1 &&& 31)) ||| (1 <<< (v2 &&& 31)))), (0, .ref (sgA P 302)), (2, .int p2), (3, .int x3), (4, .int w4), (5, .int w5)]) hx hb dX5_reachedFrom_85 hl (k := 6) rfl rfl (by decide) rfl (fun ls hl => ?_)
      refine lv_goto (tgt := 25) hx hb dX5_reachedFrom_88 (by decide) ?_
      obtain rfl := Option.some.inj h
      exact sg_go hk I (lv_sub hl [2, 3, 4, 5, 6, 0] rfl)
    · have h := sg_iff h z
      refine lv_iload_n hx hb dX5_reachedFrom_73 rfl (lv_at hl 3 rfl) ?_
      refine lv_iload hx hb dX5_reachedFrom_74 (lv_at hl 0 rfl) ?_
      refine lv_iand hx hb dX5_reachedFrom_76 ?_
      refine lv_if_eq (tgt := 85) hx hb dX5_reachedFrom_77 (by decide) (fun z => ?_) (fun z => ?_)
      · have h := sg_ift h z
        refine lv_iinc (v := x6 + 1) (lv' := [(6, .int (x6 + 1)), (7, .int ((1 <<< (v1 &&& 31)) ||| (1 <<< (v2 &&& 31)))), (0, .ref (sgA P 302)), (2, .int p2), (3, .int x3), (4, .int w4), (5, .int w5)]) hx hb dX5_reachedFrom_85 hl (k := 6) rfl rfl (by decide) rfl (fun ls hl => ?_)
        refine lv_goto (tgt := 25) hx hb dX5_reachedFrom_88 (by decide) ?_
        obtain rfl := Option.some.inj h
        exact sg_go hk I (lv_sub hl [2, 3, 4, 5, 6, 0] rfl)
      · have h := sg_iff h z
        refine lv_iload_n hx hb dX5_reachedFrom_80 rfl (lv_at hl 3 rfl) ?_
        refine lv_iload hx hb dX5_reachedFrom_81 (lv_at hl 0 rfl) ?_
        refine lv_ior hx hb dX5_reachedFrom_83 ?_
        refine lv_istore_n (lv' := [(3, .int (x3 ||| ((1 <<< (v1 &&& 31)) ||| (1 <<< (v2 &&& 31))))), (7, .int ((1 <<< (v1 &&& 31)) ||| (1 <<< (v2 &&& 31)))), (0, .ref (sgA P 302)), (2, .int p2), (4, .int w4), (5, .int w5), (6, .int x6)]) hx hb dX5_reachedFrom_84 rfl hl (by decide) rfl (fun ls hl => ?_)
        refine lv_iinc (v := x6 + 1) (lv' := [(6, .int (x6 + 1)), (3, .int (x3 ||| ((1 <<< (v1 &&& 31)) ||| (1 <<< (v2 &&& 31))))), (7, .int ((1 <<< (v1 &&& 31)) ||| (1 <<< (v2 &&& 31)))), (0, .ref (sgA P 302)), (2, .int p2), (4, .int w4), (5, .int w5)]) hx hb dX5_reachedFrom_85 hl (k := 6) rfl rfl (by decide) rfl (fun ls hl => ?_)
        refine lv_goto (tgt := 25) hx hb dX5_reachedFrom_88 (by decide) ?_
        obtain rfl := Option.some.inj h
        exact sg_go hk I (lv_sub hl [3, 4, 1, 5, 6, 0] rfl)
def f_X5_reachedFrom_L7 (N : Nat) (p1 : Int32) (p2 : Int32) (x3 : Int32) (x4 : Int32) (σ : sgS) : Option ((Int32) ⊕ ((Int32 × Int32) ⊕ (Int32))) :=
  if (σ.1 3 3) ≤ x4 then
  (some (.inr (.inr x3)))
else
  (sg_lb (sg_lp (fun x => f_X5_reachedFrom_L25 N p1 p2 x4 x3 x.1 x.2 σ) N ((x3, 0))) (fun r => some (.inl r)) fun y3 =>
  if y3 = x3 then
    (some (.inl y3))
  else
    (some (.inr (.inl (y3, x4 + 1)))))
set_option maxHeartbeats 4000000 in
set_option maxRecDepth 100000 in
theorem b_X5_reachedFrom_L7 {p : Program} {l : Launch} {e : Env} {R : Room} {s : State} {m : MethodId} {args : Array Value} {below : List Frame} {meth : Method} {c : Code} {Q : State → Prop} {P : sgP} {A : Nat → Prop} {N : Nat} {p1 : Int32} {p2 : Int32} {x3 : Int32} {x4 : Int32} {σ : sgS} (X : sg_C P A 1 p R s m args c cX5_reachedFrom 8 RX5) {H : Heap} {locs : List Loc} (I : sg_I P shC 332 A s.heap σ H locs) {ls : Array Slot} (hl : lv_has ls 8 [(0, .ref (sgA P 302)), (2, .int p2), (3, .int x3), (4, .int x4)]) {st : (Int32) ⊕ ((Int32 × Int32) ⊕ (Int32))} (h : f_X5_reachedFrom_L7 N p1 p2 x3 x4 σ = some st) (hk : sg_k3 (fun r => sg_Ri p l e R s m args below meth c Q P shC 332 A cX5_reachedFrom (some .int) (r, σ)) (fun x => sg_Wt p l e R s m args below meth c Q P shC 332 A 8 7 σ [(0, .ref (sgA P 302)), (2, .int p2), (3, .int x.1), (4, .int x.2)]) (fun y => sg_Wt p l e R s m args below meth c Q P shC 332 A 8 105 σ [(3, .int y)]) st) : W p l e R s m args below meth c H locs 0 0 Q (F0 m 7 ls []) := by
  unfold f_X5_reachedFrom_L7 at h
  have hx := X.1.1
  have hb := X.1.2.1
  have hown := X.1.2.2.2.1
  have hts := X.1.2.2.2.2
  refine lv_iload hx hb dX5_reachedFrom_7 (lv_at hl 3 rfl) ?_
  refine lv_aload_n hx hb dX5_reachedFrom_9 rfl (lv_at hl 0 rfl) ?_
  refine sg_getr X I fk_X5_23 (j := 3) (by decide) shC_302 rfl dX5_reachedFrom_10 ?_
  refine sg_getiN X I fn_X5_52 (by decide) shC_3 rfl dX5_reachedFrom_13 ?_
  refine lv_icmp_ge (tgt := 105) hx hb dX5_reachedFrom_16 (by decide) (fun z => ?_) (fun z => ?_)
  · have h := sg_ift h z
    obtain rfl := Option.some.inj h
    exact sg_go hk I (lv_sub hl [2] rfl)
  · have h := sg_iff h z
    refine lv_iload_n hx hb dX5_reachedFrom_19 rfl (lv_at hl 2 rfl) ?_
    refine lv_istore (lv' := [(5, .int x3), (0, .ref (sgA P 302)), (2, .int p2), (3, .int x3), (4, .int x4)]) hx hb dX5_reachedFrom_20 hl (by decide) rfl (fun ls hl => ?_)
    refine lv_iconst (v := 0) hx hb dX5_reachedFrom_22 (by decide) ?_
    refine lv_istore (lv' := [(6, .int 0), (5, .int x3), (0, .ref (sgA P 302)), (2, .int p2), (3, .int x3), (4, .int x4)]) hx hb dX5_reachedFrom_23 hl (by decide) rfl (fun ls hl => ?_)
    obtain ⟨res, e9, k9⟩ := sg_lb_some h
    refine sg_go (sg_lp_W (a := (fun r => sg_Ri p l e R s m args below meth c Q P shC 332 A cX5_reachedFrom (some .int) (r, σ))) (w := (fun x => sg_Wt p l e R s m args below meth c Q P shC 332 A 8 25 σ [(0, .ref (sgA P 302)), (2, .int p2), (3, .int x.1), (4, .int x4), (5, .int x3), (6, .int x.2)])) (c := (fun y => sg_Wt p l e R s m args below meth c Q P shC 332 A 8 91 σ [(0, .ref (sgA P 302)), (2, .int p2), (3, .int y), (4, .int x4), (5, .int x3)])) (fun x st hb9 hk9 => ?_) N ((x3, 0)) res e9 (sg_k2_mono k9 (fun r h => ?_) (fun y3 h => ?_))) I (lv_sub hl [2, 3, 4, 5, 1, 0] rfl)
    · intro H locs ls I hl
      exact b_X5_reachedFrom_L25 X I hl hb9 hk9
    · obtain rfl := Option.some.inj h
      exact hk
    · intro H locs ls I hl
      refine lv_iload_n hx hb dX5_reachedFrom_91 rfl (lv_at hl 2 rfl) ?_
      refine lv_iload hx hb dX5_reachedFrom_92 (lv_at hl 4 rfl) ?_
      refine lv_icmp_ne (tgt := 99) hx hb dX5_reachedFrom_94 (by decide) (fun z => ?_) (fun z => ?_)
      · have h := sg_iff h z
        refine lv_iinc (v := x4 + 1) (lv' := [(4, .int (x4 + 1)), (0, .ref (sgA P 302)), (2, .int p2), (3, .int y3), (5, .int x3)]) hx hb dX5_reachedFrom_99 hl (k := 3) rfl rfl (by decide) rfl (fun ls hl => ?_)
        refine lv_goto (tgt := 7) hx hb dX5_reachedFrom_102 (by decide) ?_
        obtain rfl := Option.some.inj h
        exact sg_go hk I (lv_sub hl [1, 2, 3, 0] rfl)
      · have h := sg_ift h z
        refine lv_iload_n hx hb dX5_reachedFrom_97 rfl (lv_at hl 2 rfl) ?_
        obtain rfl := Option.some.inj h
        exact hk _ _ _ _ _ I ⟨_, rfl, rfl⟩ dX5_reachedFrom_98
def f_X5_reachedFrom (N : Nat) (p1 : Int32) (p2 : Int32) (σ : sgS) : Option (Int32) :=
  sg_lb (sg_lp (fun x => f_X5_reachedFrom_L7 N p1 p2 x.1 x.2 σ) N ((1 <<< (p1 &&& 31), 1))) (fun r => some r) fun y4 =>
some y4
set_option maxHeartbeats 4000000 in
set_option maxRecDepth 100000 in
theorem b_X5_reachedFrom {p : Program} {l : Launch} {e : Env} {R : Room} {s : State} {m : MethodId} {args : Array Value} {below : List Frame} {meth : Method} {c : Code} {Q : State → Prop} {P : sgP} {A : Nat → Prop} {N : Nat} {p1 : Int32} {p2 : Int32} {σ : sgS} (X : sg_C P A 1 p R s m args c cX5_reachedFrom 8 RX5) {H : Heap} {locs : List Loc} (I : sg_I P shC 332 A s.heap σ H locs) {ls : Array Slot} (hl : lv_has ls 8 [(0, .ref (sgA P 302)), (1, .int p1), (2, .int p2)]) {st : Int32} (h : f_X5_reachedFrom N p1 p2 σ = some st) (hk : sg_Ri p l e R s m args below meth c Q P shC 332 A cX5_reachedFrom (some .int) (st, σ)) : W p l e R s m args below meth c H locs 0 0 Q (F0 m 0 ls []) := by
  unfold f_X5_reachedFrom at h
  have hx := X.1.1
  have hb := X.1.2.1
  have hown := X.1.2.2.2.1
  have hts := X.1.2.2.2.2
  refine lv_iconst (v := 1) hx hb dX5_reachedFrom_0 (by decide) ?_
  refine lv_iload_n hx hb dX5_reachedFrom_1 rfl (lv_at hl 1 rfl) ?_
  refine lv_ishl hx hb dX5_reachedFrom_2 ?_
  refine lv_istore_n (lv' := [(3, .int (1 <<< (p1 &&& 31))), (0, .ref (sgA P 302)), (1, .int p1), (2, .int p2)]) hx hb dX5_reachedFrom_3 rfl hl (by decide) rfl (fun ls hl => ?_)
  refine lv_iconst (v := 1) hx hb dX5_reachedFrom_4 (by decide) ?_
  refine lv_istore (lv' := [(4, .int 1), (3, .int (1 <<< (p1 &&& 31))), (0, .ref (sgA P 302)), (1, .int p1), (2, .int p2)]) hx hb dX5_reachedFrom_5 hl (by decide) rfl (fun ls hl => ?_)
  obtain ⟨res, e9, k9⟩ := sg_lb_some h
  refine sg_go (sg_lp_W (a := (fun r => sg_Ri p l e R s m args below meth c Q P shC 332 A cX5_reachedFrom (some .int) (r, σ))) (w := (fun x => sg_Wt p l e R s m args below meth c Q P shC 332 A 8 7 σ [(0, .ref (sgA P 302)), (2, .int p2), (3, .int x.1), (4, .int x.2)])) (c := (fun y => sg_Wt p l e R s m args below meth c Q P shC 332 A 8 105 σ [(3, .int y)])) (fun x st hb9 hk9 => ?_) N ((1 <<< (p1 &&& 31), 1)) res e9 (sg_k2_mono k9 (fun r h => ?_) (fun y4 h => ?_))) I (lv_sub hl [2, 4, 1, 0] rfl)
  · intro H locs ls I hl
    exact b_X5_reachedFrom_L7 X I hl hb9 hk9
  · obtain rfl := Option.some.inj h
    exact hk
  · intro H locs ls I hl
    refine lv_iload_n hx hb dX5_reachedFrom_105 rfl (lv_at hl 0 rfl) ?_
    obtain rfl := Option.some.inj h
    exact hk _ _ _ _ _ I ⟨_, rfl, rfl⟩ dX5_reachedFrom_106
set_option maxHeartbeats 4000000 in
set_option maxRecDepth 100000 in
theorem c_X5_reachedFrom {l : Launch} {P : sgP} {N : Nat} {p1 : Int32} {p2 : Int32} {σ : sgS} {q : Int32} (h : f_X5_reachedFrom N p1 p2 σ = some q) : sg_Mi P shC 332 l yX5_reachedFrom cX5_reachedFrom 8 (some .int) 1 [.ref (sgA P 302), .int p1, .int p2] σ (q, σ) := by
  refine sg_mki (plainFor_of_name (by decide +kernel)) (Nat.le_of_ble_eq_true rfl) ?_
  intro p e R s m args below meth c Q A ls H locs X I hl hk
  exact b_X5_reachedFrom X I hl h hk
def f_X5_meets (N : Nat) (p1 : Int32) (p2 : Int32) (p3 : Int32) (σ : sgS) : Option (Int32) :=
  sg_cr (f_X5_reachedFrom N p1 p3 σ) fun v1 =>
if ((v1 >>> (p2 &&& 31)) &&& 1) = 0 then
  (some (vp_nar .boolean 0))
else
  (some (vp_nar .boolean 1))
set_option maxHeartbeats 4000000 in
set_option maxRecDepth 100000 in
theorem b_X5_meets {p : Program} {l : Launch} {e : Env} {R : Room} {s : State} {m : MethodId} {args : Array Value} {below : List Frame} {meth : Method} {c : Code} {Q : State → Prop} {P : sgP} {A : Nat → Prop} {N : Nat} {p1 : Int32} {p2 : Int32} {p3 : Int32} {σ : sgS} (X : sg_C P A 2 p R s m args c cX5_meets 4 RX5) {H : Heap} {locs : List Loc} (I : sg_I P shC 332 A s.heap σ H locs) {ls : Array Slot} (hl : lv_has ls 4 [(0, .ref (sgA P 302)), (1, .int p1), (2, .int p2), (3, .int p3)]) {st : Int32} (h : f_X5_meets N p1 p2 p3 σ = some st) (hk : sg_Ri p l e R s m args below meth c Q P shC 332 A cX5_meets (some .boolean) (st, σ)) : W p l e R s m args below meth c H locs 0 0 Q (F0 m 0 ls []) := by
  unfold f_X5_meets at h
  have hx := X.1.1
  have hb := X.1.2.1
  have hown := X.1.2.2.2.1
  have hts := X.1.2.2.2.2
  refine lv_aload_n hx hb dX5_meets_0 rfl (lv_at hl 0 rfl) ?_
  refine lv_iload_n hx hb dX5_meets_1 rfl (lv_at hl 1 rfl) ?_
  refine lv_iload_n hx hb dX5_meets_2 rfl (lv_at hl 3 rfl) ?_
  refine sg_callVr (As := [.int p1, .int p3]) X I mk_X5_96 (by decide) (by decide) shC_302 rfl (fun q9 e9 => c_X5_reachedFrom e9) h hl.1 rfl rfl (Nat.le_of_ble_eq_true rfl) dX5_meets_3 (fun v1 H locs h I => ?_)
  refine lv_iload_n hx hb dX5_meets_6 rfl (lv_at hl 2 rfl) ?_
  refine lv_ishr hx hb dX5_meets_7 ?_
  refine lv_iconst (v := 1) hx hb dX5_meets_8 (by decide) ?_
  refine lv_iand hx hb dX5_meets_9 ?_
  refine lv_if_eq (tgt := 17) hx hb dX5_meets_10 (by decide) (fun z => ?_) (fun z => ?_)
  · have h := sg_ift h z
    refine lv_iconst (v := 0) hx hb dX5_meets_17 (by decide) ?_
    obtain rfl := Option.some.inj h
    exact hk _ _ _ _ _ I ⟨_, rfl, rfl⟩ dX5_meets_18
  · have h := sg_iff h z
    refine lv_iconst (v := 1) hx hb dX5_meets_13 (by decide) ?_
    refine lv_goto (tgt := 18) hx hb dX5_meets_14 (by decide) ?_
    obtain rfl := Option.some.inj h
    exact hk _ _ _ _ _ I ⟨_, rfl, rfl⟩ dX5_meets_18
set_option maxHeartbeats 4000000 in
set_option maxRecDepth 100000 in
theorem c_X5_meets {l : Launch} {P : sgP} {N : Nat} {p1 : Int32} {p2 : Int32} {p3 : Int32} {σ : sgS} {q : Int32} (h : f_X5_meets N p1 p2 p3 σ = some q) : sg_Mi P shC 332 l yX5_meets cX5_meets 4 (some .boolean) 2 [.ref (sgA P 302), .int p1, .int p2, .int p3] σ (q, σ) := by
  refine sg_mki (plainFor_of_name (by decide +kernel)) (Nat.le_of_ble_eq_true rfl) ?_
  intro p e R s m args below meth c Q A ls H locs X I hl hk
  exact b_X5_meets X I hl h hk
def f_X5_fewestToPart_L6_B45 (N : Nat) (p1 : Int32) (p2 : Int32) (p3 : Int32) (u4 : Int32) (u5 : Int32) (k0 : Int32) (σ : sgS) : Option ((Int32) ⊕ ((Int32 × Int32) ⊕ (Int32))) :=
  if k0 = 0 then
  (some (.inr (.inl (u4, u5 + 1))))
else
  (sg_cr (f_X5_meets N p1 p2 (p3 &&& (u5 ^^^ ((-1)))) σ) fun v2 =>
  if v2 = 0 then
    (some (.inr (.inl (u5, u5 + 1))))
  else
    (some (.inr (.inl (u4, u5 + 1)))))
set_option maxHeartbeats 4000000 in
set_option maxRecDepth 100000 in
theorem b_X5_fewestToPart_L6_B45 {p : Program} {l : Launch} {e : Env} {R : Room} {s : State} {m : MethodId} {args : Array Value} {below : List Frame} {meth : Method} {c : Code} {Q : State → Prop} {P : sgP} {A : Nat → Prop} {N : Nat} {p1 : Int32} {p2 : Int32} {p3 : Int32} {u4 : Int32} {u5 : Int32} {k0 : Int32} {σ : sgS} (X : sg_C P A 3 p R s m args c cX5_fewestToPart 7 RX5) {H : Heap} {locs : List Loc} (I : sg_I P shC 332 A s.heap σ H locs) {ls : Array Slot} (hl : lv_has ls 7 [(0, .ref (sgA P 302)), (1, .int p1), (2, .int p2), (3, .int p3), (4, .int u4), (5, .int u5)]) {st : (Int32) ⊕ ((Int32 × Int32) ⊕ (Int32))} (h : f_X5_fewestToPart_L6_B45 N p1 p2 p3 u4 u5 k0 σ = some st) (hk : sg_k3 (fun r => sg_Ri p l e R s m args below meth c Q P shC 332 A cX5_fewestToPart (some .int) (r, σ)) (fun x => sg_Wt p l e R s m args below meth c Q P shC 332 A 7 6 σ [(0, .ref (sgA P 302)), (1, .int p1), (2, .int p2), (3, .int p3), (4, .int x.1), (5, .int x.2)]) (fun y => sg_Wt p l e R s m args below meth c Q P shC 332 A 7 77 σ [(4, .int y)]) st) : W p l e R s m args below meth c H locs 0 0 Q (F0 m 45 ls [.int k0]) := by
  unfold f_X5_fewestToPart_L6_B45 at h
  have hx := X.1.1
  have hb := X.1.2.1
  have hown := X.1.2.2.2.1
  have hts := X.1.2.2.2.2
  refine lv_istore (lv' := [(6, .int k0), (0, .ref (sgA P 302)), (1, .int p1), (2, .int p2), (3, .int p3), (4, .int u4), (5, .int u5)]) hx hb dX5_fewestToPart_45 hl (by decide) rfl (fun ls hl => ?_)
  refine lv_iload hx hb dX5_fewestToPart_47 (lv_at hl 0 rfl) ?_
  refine lv_if_eq (tgt := 71) hx hb dX5_fewestToPart_49 (by decide) (fun z => ?_) (fun z => ?_)
  · have h := sg_ift h z
    refine lv_iinc (v := u5 + 1) (lv' := [(5, .int (u5 + 1)), (6, .int k0), (0, .ref (sgA P 302)), (1, .int p1), (2, .int p2), (3, .int p3), (4, .int u4)]) hx hb dX5_fewestToPart_71 hl (k := 6) rfl rfl (by decide) rfl (fun ls hl => ?_)
    refine lv_goto (tgt := 6) hx hb dX5_fewestToPart_74 (by decide) ?_
    obtain rfl := Option.some.inj h
    exact sg_go hk I (lv_sub hl [2, 3, 4, 5, 6, 0] rfl)
  · have h := sg_iff h z
    refine lv_aload_n hx hb dX5_fewestToPart_52 rfl (lv_at hl 1 rfl) ?_
    refine lv_iload_n hx hb dX5_fewestToPart_53 rfl (lv_at hl 2 rfl) ?_
    refine lv_iload_n hx hb dX5_fewestToPart_54 rfl (lv_at hl 3 rfl) ?_
    refine lv_iload_n hx hb dX5_fewestToPart_55 rfl (lv_at hl 4 rfl) ?_
    refine lv_iload hx hb dX5_fewestToPart_56 (lv_at hl 6 rfl) ?_
    refine lv_iconst (v := -1) hx hb dX5_fewestToPart_58 (by decide) ?_
    refine lv_ixor hx hb dX5_fewestToPart_59 ?_
    refine lv_iand hx hb dX5_fewestToPart_60 ?_
    refine sg_callVr (As := [.int p1, .int p2, .int (p3 &&& (u5 ^^^ ((-1))))]) X I mk_X5_105 (by decide) (by decide) shC_302 rfl (fun q9 e9 => c_X5_meets e9) h hl.1 rfl rfl (Nat.le_of_ble_eq_true rfl) dX5_fewestToPart_61 (fun v2 H locs h I => ?_)
    refine lv_if_ne (tgt := 71) hx hb dX5_fewestToPart_64 (by decide) (fun z => ?_) (fun z => ?_)
    · have h := sg_iff h z
      refine lv_iinc (v := u5 + 1) (lv' := [(5, .int (u5 + 1)), (6, .int k0), (0, .ref (sgA P 302)), (1, .int p1), (2, .int p2), (3, .int p3), (4, .int u4)]) hx hb dX5_fewestToPart_71 hl (k := 6) rfl rfl (by decide) rfl (fun ls hl => ?_)
      refine lv_goto (tgt := 6) hx hb dX5_fewestToPart_74 (by decide) ?_
      obtain rfl := Option.some.inj h
      exact sg_go hk I (lv_sub hl [2, 3, 4, 5, 6, 0] rfl)
    · have h := sg_ift h z
      refine lv_iload hx hb dX5_fewestToPart_67 (lv_at hl 6 rfl) ?_
      refine lv_istore (lv' := [(4, .int u5), (6, .int k0), (0, .ref (sgA P 302)), (1, .int p1), (2, .int p2), (3, .int p3), (5, .int u5)]) hx hb dX5_fewestToPart_69 hl (by decide) rfl (fun ls hl => ?_)
      refine lv_iinc (v := u5 + 1) (lv' := [(5, .int (u5 + 1)), (4, .int u5), (6, .int k0), (0, .ref (sgA P 302)), (1, .int p1), (2, .int p2), (3, .int p3)]) hx hb dX5_fewestToPart_71 hl (k := 6) rfl rfl (by decide) rfl (fun ls hl => ?_)
      refine lv_goto (tgt := 6) hx hb dX5_fewestToPart_74 (by decide) ?_
      obtain rfl := Option.some.inj h
      exact sg_go hk I (lv_sub hl [3, 4, 5, 6, 1, 0] rfl)
def f_X5_fewestToPart_L6 (N : Nat) (p1 : Int32) (p2 : Int32) (p3 : Int32) (x4 : Int32) (x5 : Int32) (σ : sgS) : Option ((Int32) ⊕ ((Int32 × Int32) ⊕ (Int32))) :=
  sg_cr (f_X0_allRoads N 3 σ) fun v1 =>
if v1 < x5 then
  (some (.inr (.inr x4)))
else
  (if (x5 &&& (p3 ^^^ ((-1)))) = 0 then
    (sg_cr (f_J6_bitCount_0f7a4 N x5 σ) fun v3 =>
    sg_cr (f_J6_bitCount_0f7a4 N x4 σ) fun v4 =>
    if v4 ≤ v3 then
      (f_X5_fewestToPart_L6_B45 N p1 p2 p3 x4 x5 0 σ)
    else
      (f_X5_fewestToPart_L6_B45 N p1 p2 p3 x4 x5 1 σ))
  else
    (f_X5_fewestToPart_L6_B45 N p1 p2 p3 x4 x5 0 σ))
set_option maxHeartbeats 4000000 in
set_option maxRecDepth 100000 in
theorem b_X5_fewestToPart_L6 {p : Program} {l : Launch} {e : Env} {R : Room} {s : State} {m : MethodId} {args : Array Value} {below : List Frame} {meth : Method} {c : Code} {Q : State → Prop} {P : sgP} {A : Nat → Prop} {N : Nat} {p1 : Int32} {p2 : Int32} {p3 : Int32} {x4 : Int32} {x5 : Int32} {σ : sgS} (X : sg_C P A 3 p R s m args c cX5_fewestToPart 7 RX5) {H : Heap} {locs : List Loc} (I : sg_I P shC 332 A s.heap σ H locs) {ls : Array Slot} (hl : lv_has ls 7 [(0, .ref (sgA P 302)), (1, .int p1), (2, .int p2), (3, .int p3), (4, .int x4), (5, .int x5)]) {st : (Int32) ⊕ ((Int32 × Int32) ⊕ (Int32))} (h : f_X5_fewestToPart_L6 N p1 p2 p3 x4 x5 σ = some st) (hk : sg_k3 (fun r => sg_Ri p l e R s m args below meth c Q P shC 332 A cX5_fewestToPart (some .int) (r, σ)) (fun x => sg_Wt p l e R s m args below meth c Q P shC 332 A 7 6 σ [(0, .ref (sgA P 302)), (1, .int p1), (2, .int p2), (3, .int p3), (4, .int x.1), (5, .int x.2)]) (fun y => sg_Wt p l e R s m args below meth c Q P shC 332 A 7 77 σ [(4, .int y)]) st) : W p l e R s m args below meth c H locs 0 0 Q (F0 m 6 ls []) := by
  unfold f_X5_fewestToPart_L6 at h
  have hx := X.1.1
  have hb := X.1.2.1
  have hown := X.1.2.2.2.1
  have hts := X.1.2.2.2.2
  refine lv_iload hx hb dX5_fewestToPart_6 (lv_at hl 5 rfl) ?_
  refine lv_aload_n hx hb dX5_fewestToPart_8 rfl (lv_at hl 0 rfl) ?_
  refine sg_getr X I fk_X5_23 (j := 3) (by decide) shC_302 rfl dX5_fewestToPart_9 ?_
  refine sg_callVr (As := []) X I mk_X5_37 (by decide) (by decide) shC_3 rfl (fun q9 e9 => c_X0_allRoads isCo_3 e9) h hl.1 rfl rfl (Nat.le_of_ble_eq_true rfl) dX5_fewestToPart_12 (fun v1 H locs h I => ?_)
  refine lv_icmp_gt (tgt := 77) hx hb dX5_fewestToPart_15 (by decide) (fun z => ?_) (fun z => ?_)
  · have h := sg_ift h z
    obtain rfl := Option.some.inj h
    exact sg_go hk I (lv_sub hl [4] rfl)
  · have h := sg_iff h z
    refine lv_iload hx hb dX5_fewestToPart_18 (lv_at hl 5 rfl) ?_
    refine lv_iload_n hx hb dX5_fewestToPart_20 rfl (lv_at hl 3 rfl) ?_
    refine lv_iconst (v := -1) hx hb dX5_fewestToPart_21 (by decide) ?_
    refine lv_ixor hx hb dX5_fewestToPart_22 ?_
    refine lv_iand hx hb dX5_fewestToPart_23 ?_
    refine lv_if_ne (tgt := 44) hx hb dX5_fewestToPart_24 (by decide) (fun z => ?_) (fun z => ?_)
    · have h := sg_iff h z
      refine lv_iconst (v := 0) hx hb dX5_fewestToPart_44 (by decide) ?_
      exact b_X5_fewestToPart_L6_B45 X I (lv_sub hl [0, 1, 2, 3, 4, 5] rfl) h hk
    · have h := sg_ift h z
      refine lv_iload hx hb dX5_fewestToPart_27 (lv_at hl 5 rfl) ?_
      refine sg_callSr (As := [.int x5]) X I mk_X5_99 (by decide) (fun q9 e9 => c_J6_bitCount_0f7a4 e9) h hl.1 rfl rfl (Nat.le_of_ble_eq_true rfl) dX5_fewestToPart_29 (fun v3 H locs h I => ?_)
      refine lv_iload hx hb dX5_fewestToPart_32 (lv_at hl 4 rfl) ?_
      refine sg_callSr (As := [.int x4]) X I mk_X5_99 (by decide) (fun q9 e9 => c_J6_bitCount_0f7a4 e9) h hl.1 rfl rfl (Nat.le_of_ble_eq_true rfl) dX5_fewestToPart_34 (fun v4 H locs h I => ?_)
      refine lv_icmp_ge (tgt := 44) hx hb dX5_fewestToPart_37 (by decide) (fun z => ?_) (fun z => ?_)
      · have h := sg_ift h z
        refine lv_iconst (v := 0) hx hb dX5_fewestToPart_44 (by decide) ?_
        exact b_X5_fewestToPart_L6_B45 X I (lv_sub hl [0, 1, 2, 3, 4, 5] rfl) h hk
      · have h := sg_iff h z
        refine lv_iconst (v := 1) hx hb dX5_fewestToPart_40 (by decide) ?_
        refine lv_goto (tgt := 45) hx hb dX5_fewestToPart_41 (by decide) ?_
        exact b_X5_fewestToPart_L6_B45 X I (lv_sub hl [0, 1, 2, 3, 4, 5] rfl) h hk
def f_X5_fewestToPart (N : Nat) (p1 : Int32) (p2 : Int32) (p3 : Int32) (σ : sgS) : Option (Int32) :=
  sg_lb (sg_lp (fun x => f_X5_fewestToPart_L6 N p1 p2 p3 x.1 x.2 σ) N ((p3, 0))) (fun r => some r) fun y5 =>
some y5
set_option maxHeartbeats 4000000 in
set_option maxRecDepth 100000 in
theorem b_X5_fewestToPart {p : Program} {l : Launch} {e : Env} {R : Room} {s : State} {m : MethodId} {args : Array Value} {below : List Frame} {meth : Method} {c : Code} {Q : State → Prop} {P : sgP} {A : Nat → Prop} {N : Nat} {p1 : Int32} {p2 : Int32} {p3 : Int32} {σ : sgS} (X : sg_C P A 3 p R s m args c cX5_fewestToPart 7 RX5) {H : Heap} {locs : List Loc} (I : sg_I P shC 332 A s.heap σ H locs) {ls : Array Slot} (hl : lv_has ls 7 [(0, .ref (sgA P 302)), (1, .int p1), (2, .int p2), (3, .int p3)]) {st : Int32} (h : f_X5_fewestToPart N p1 p2 p3 σ = some st) (hk : sg_Ri p l e R s m args below meth c Q P shC 332 A cX5_fewestToPart (some .int) (st, σ)) : W p l e R s m args below meth c H locs 0 0 Q (F0 m 0 ls []) := by
  unfold f_X5_fewestToPart at h
  have hx := X.1.1
  have hb := X.1.2.1
  have hown := X.1.2.2.2.1
  have hts := X.1.2.2.2.2
  refine lv_iload_n hx hb dX5_fewestToPart_0 rfl (lv_at hl 3 rfl) ?_
  refine lv_istore (lv' := [(4, .int p3), (0, .ref (sgA P 302)), (1, .int p1), (2, .int p2), (3, .int p3)]) hx hb dX5_fewestToPart_1 hl (by decide) rfl (fun ls hl => ?_)
  refine lv_iconst (v := 0) hx hb dX5_fewestToPart_3 (by decide) ?_
  refine lv_istore (lv' := [(5, .int 0), (4, .int p3), (0, .ref (sgA P 302)), (1, .int p1), (2, .int p2), (3, .int p3)]) hx hb dX5_fewestToPart_4 hl (by decide) rfl (fun ls hl => ?_)
  obtain ⟨res, e9, k9⟩ := sg_lb_some h
  refine sg_go (sg_lp_W (a := (fun r => sg_Ri p l e R s m args below meth c Q P shC 332 A cX5_fewestToPart (some .int) (r, σ))) (w := (fun x => sg_Wt p l e R s m args below meth c Q P shC 332 A 7 6 σ [(0, .ref (sgA P 302)), (1, .int p1), (2, .int p2), (3, .int p3), (4, .int x.1), (5, .int x.2)])) (c := (fun y => sg_Wt p l e R s m args below meth c Q P shC 332 A 7 77 σ [(4, .int y)])) (fun x st hb9 hk9 => ?_) N ((p3, 0)) res e9 (sg_k2_mono k9 (fun r h => ?_) (fun y5 h => ?_))) I (lv_sub hl [2, 3, 4, 5, 1, 0] rfl)
  · intro H locs ls I hl
    exact b_X5_fewestToPart_L6 X I hl hb9 hk9
  · obtain rfl := Option.some.inj h
    exact hk
  · intro H locs ls I hl
    refine lv_iload hx hb dX5_fewestToPart_77 (lv_at hl 0 rfl) ?_
    obtain rfl := Option.some.inj h
    exact hk _ _ _ _ _ I ⟨_, rfl, rfl⟩ dX5_fewestToPart_79
set_option maxHeartbeats 4000000 in
set_option maxRecDepth 100000 in
theorem c_X5_fewestToPart {l : Launch} {P : sgP} {N : Nat} {p1 : Int32} {p2 : Int32} {p3 : Int32} {σ : sgS} {q : Int32} (h : f_X5_fewestToPart N p1 p2 p3 σ = some q) : sg_Mi P shC 332 l yX5_fewestToPart cX5_fewestToPart 7 (some .int) 3 [.ref (sgA P 302), .int p1, .int p2, .int p3] σ (q, σ) := by
  refine sg_mki (plainFor_of_name (by decide +kernel)) (Nat.le_of_ble_eq_true rfl) ?_
  intro p e R s m args below meth c Q A ls H locs X I hl hk
  exact b_X5_fewestToPart X I hl h hk
def f_X5_fewestToJoin_L6_B42 (N : Nat) (p1 : Int32) (p2 : Int32) (p3 : Int32) (u4 : Int32) (u5 : Int32) (k0 : Int32) (σ : sgS) : Option ((Int32) ⊕ ((Int32 × Int32) ⊕ (Int32))) :=
  if k0 = 0 then
  (some (.inr (.inl (u4, u5 + 1))))
else
  (if (u5 &&& p3) = 0 then
    (sg_cr (f_X5_meets N p1 p2 (p3 ||| u5) σ) fun v2 =>
    if v2 = 0 then
      (some (.inr (.inl (u4, u5 + 1))))
    else
      (some (.inr (.inl (u5, u5 + 1)))))
  else
    (some (.inr (.inl (u4, u5 + 1)))))
set_option maxHeartbeats 4000000 in
set_option maxRecDepth 100000 in
theorem b_X5_fewestToJoin_L6_B42 {p : Program} {l : Launch} {e : Env} {R : Room} {s : State} {m : MethodId} {args : Array Value} {below : List Frame} {meth : Method} {c : Code} {Q : State → Prop} {P : sgP} {A : Nat → Prop} {N : Nat} {p1 : Int32} {p2 : Int32} {p3 : Int32} {u4 : Int32} {u5 : Int32} {k0 : Int32} {σ : sgS} (X : sg_C P A 3 p R s m args c cX5_fewestToJoin 7 RX5) {H : Heap} {locs : List Loc} (I : sg_I P shC 332 A s.heap σ H locs) {ls : Array Slot} (hl : lv_has ls 7 [(0, .ref (sgA P 302)), (1, .int p1), (2, .int p2), (3, .int p3), (4, .int u4), (5, .int u5)]) {st : (Int32) ⊕ ((Int32 × Int32) ⊕ (Int32))} (h : f_X5_fewestToJoin_L6_B42 N p1 p2 p3 u4 u5 k0 σ = some st) (hk : sg_k3 (fun r => sg_Ri p l e R s m args below meth c Q P shC 332 A cX5_fewestToJoin (some .int) (r, σ)) (fun x => sg_Wt p l e R s m args below meth c Q P shC 332 A 7 6 σ [(0, .ref (sgA P 302)), (1, .int p1), (2, .int p2), (3, .int p3), (4, .int x.1), (5, .int x.2)]) (fun y => sg_Wt p l e R s m args below meth c Q P shC 332 A 7 79 σ [(4, .int y)]) st) : W p l e R s m args below meth c H locs 0 0 Q (F0 m 42 ls [.int k0]) := by
  unfold f_X5_fewestToJoin_L6_B42 at h
  have hx := X.1.1
  have hb := X.1.2.1
  have hown := X.1.2.2.2.1
  have hts := X.1.2.2.2.2
  refine lv_istore (lv' := [(6, .int k0), (0, .ref (sgA P 302)), (1, .int p1), (2, .int p2), (3, .int p3), (4, .int u4), (5, .int u5)]) hx hb dX5_fewestToJoin_42 hl (by decide) rfl (fun ls hl => ?_)
  refine lv_iload hx hb dX5_fewestToJoin_44 (lv_at hl 0 rfl) ?_
  refine lv_if_eq (tgt := 73) hx hb dX5_fewestToJoin_46 (by decide) (fun z => ?_) (fun z => ?_)
  · have h := sg_ift h z
    refine lv_iinc (v := u5 + 1) (lv' := [(5, .int (u5 + 1)), (6, .int k0), (0, .ref (sgA P 302)), (1, .int p1), (2, .int p2), (3, .int p3), (4, .int u4)]) hx hb dX5_fewestToJoin_73 hl (k := 6) rfl rfl (by decide) rfl (fun ls hl => ?_)
    refine lv_goto (tgt := 6) hx hb dX5_fewestToJoin_76 (by decide) ?_
    obtain rfl := Option.some.inj h
    exact sg_go hk I (lv_sub hl [2, 3, 4, 5, 6, 0] rfl)
  · have h := sg_iff h z
    refine lv_iload hx hb dX5_fewestToJoin_49 (lv_at hl 6 rfl) ?_
    refine lv_iload_n hx hb dX5_fewestToJoin_51 rfl (lv_at hl 4 rfl) ?_
    refine lv_iand hx hb dX5_fewestToJoin_52 ?_
    refine lv_if_ne (tgt := 73) hx hb dX5_fewestToJoin_53 (by decide) (fun z => ?_) (fun z => ?_)
    · have h := sg_iff h z
      refine lv_iinc (v := u5 + 1) (lv' := [(5, .int (u5 + 1)), (6, .int k0), (0, .ref (sgA P 302)), (1, .int p1), (2, .int p2), (3, .int p3), (4, .int u4)]) hx hb dX5_fewestToJoin_73 hl (k := 6) rfl rfl (by decide) rfl (fun ls hl => ?_)
      refine lv_goto (tgt := 6) hx hb dX5_fewestToJoin_76 (by decide) ?_
      obtain rfl := Option.some.inj h
      exact sg_go hk I (lv_sub hl [2, 3, 4, 5, 6, 0] rfl)
    · have h := sg_ift h z
      refine lv_aload_n hx hb dX5_fewestToJoin_56 rfl (lv_at hl 1 rfl) ?_
      refine lv_iload_n hx hb dX5_fewestToJoin_57 rfl (lv_at hl 2 rfl) ?_
      refine lv_iload_n hx hb dX5_fewestToJoin_58 rfl (lv_at hl 3 rfl) ?_
      refine lv_iload_n hx hb dX5_fewestToJoin_59 rfl (lv_at hl 4 rfl) ?_
      refine lv_iload hx hb dX5_fewestToJoin_60 (lv_at hl 6 rfl) ?_
      refine lv_ior hx hb dX5_fewestToJoin_62 ?_
      refine sg_callVr (As := [.int p1, .int p2, .int (p3 ||| u5)]) X I mk_X5_105 (by decide) (by decide) shC_302 rfl (fun q9 e9 => c_X5_meets e9) h hl.1 rfl rfl (Nat.le_of_ble_eq_true rfl) dX5_fewestToJoin_63 (fun v2 H locs h I => ?_)
      refine lv_if_eq (tgt := 73) hx hb dX5_fewestToJoin_66 (by decide) (fun z => ?_) (fun z => ?_)
      · have h := sg_ift h z
        refine lv_iinc (v := u5 + 1) (lv' := [(5, .int (u5 + 1)), (6, .int k0), (0, .ref (sgA P 302)), (1, .int p1), (2, .int p2), (3, .int p3), (4, .int u4)]) hx hb dX5_fewestToJoin_73 hl (k := 6) rfl rfl (by decide) rfl (fun ls hl => ?_)
        refine lv_goto (tgt := 6) hx hb dX5_fewestToJoin_76 (by decide) ?_
        obtain rfl := Option.some.inj h
        exact sg_go hk I (lv_sub hl [2, 3, 4, 5, 6, 0] rfl)
      · have h := sg_iff h z
        refine lv_iload hx hb dX5_fewestToJoin_69 (lv_at hl 6 rfl) ?_
        refine lv_istore (lv' := [(4, .int u5), (6, .int k0), (0, .ref (sgA P 302)), (1, .int p1), (2, .int p2), (3, .int p3), (5, .int u5)]) hx hb dX5_fewestToJoin_71 hl (by decide) rfl (fun ls hl => ?_)
        refine lv_iinc (v := u5 + 1) (lv' := [(5, .int (u5 + 1)), (4, .int u5), (6, .int k0), (0, .ref (sgA P 302)), (1, .int p1), (2, .int p2), (3, .int p3)]) hx hb dX5_fewestToJoin_73 hl (k := 6) rfl rfl (by decide) rfl (fun ls hl => ?_)
        refine lv_goto (tgt := 6) hx hb dX5_fewestToJoin_76 (by decide) ?_
        obtain rfl := Option.some.inj h
        exact sg_go hk I (lv_sub hl [3, 4, 5, 6, 1, 0] rfl)
def f_X5_fewestToJoin_L6 (N : Nat) (p1 : Int32) (p2 : Int32) (p3 : Int32) (x4 : Int32) (x5 : Int32) (σ : sgS) : Option ((Int32) ⊕ ((Int32 × Int32) ⊕ (Int32))) :=
  sg_cr (f_X0_allRoads N 3 σ) fun v1 =>
if v1 < x5 then
  (some (.inr (.inr x4)))
else
  (if x4 = ((-1)) then
    (f_X5_fewestToJoin_L6_B42 N p1 p2 p3 x4 x5 1 σ)
  else
    (sg_cr (f_J6_bitCount_0f7a4 N x5 σ) fun v3 =>
    sg_cr (f_J6_bitCount_0f7a4 N x4 σ) fun v4 =>
    if v4 ≤ v3 then
      (f_X5_fewestToJoin_L6_B42 N p1 p2 p3 x4 x5 0 σ)
    else
      (f_X5_fewestToJoin_L6_B42 N p1 p2 p3 x4 x5 1 σ)))
set_option maxHeartbeats 4000000 in
set_option maxRecDepth 100000 in
theorem b_X5_fewestToJoin_L6 {p : Program} {l : Launch} {e : Env} {R : Room} {s : State} {m : MethodId} {args : Array Value} {below : List Frame} {meth : Method} {c : Code} {Q : State → Prop} {P : sgP} {A : Nat → Prop} {N : Nat} {p1 : Int32} {p2 : Int32} {p3 : Int32} {x4 : Int32} {x5 : Int32} {σ : sgS} (X : sg_C P A 3 p R s m args c cX5_fewestToJoin 7 RX5) {H : Heap} {locs : List Loc} (I : sg_I P shC 332 A s.heap σ H locs) {ls : Array Slot} (hl : lv_has ls 7 [(0, .ref (sgA P 302)), (1, .int p1), (2, .int p2), (3, .int p3), (4, .int x4), (5, .int x5)]) {st : (Int32) ⊕ ((Int32 × Int32) ⊕ (Int32))} (h : f_X5_fewestToJoin_L6 N p1 p2 p3 x4 x5 σ = some st) (hk : sg_k3 (fun r => sg_Ri p l e R s m args below meth c Q P shC 332 A cX5_fewestToJoin (some .int) (r, σ)) (fun x => sg_Wt p l e R s m args below meth c Q P shC 332 A 7 6 σ [(0, .ref (sgA P 302)), (1, .int p1), (2, .int p2), (3, .int p3), (4, .int x.1), (5, .int x.2)]) (fun y => sg_Wt p l e R s m args below meth c Q P shC 332 A 7 79 σ [(4, .int y)]) st) : W p l e R s m args below meth c H locs 0 0 Q (F0 m 6 ls []) := by
  unfold f_X5_fewestToJoin_L6 at h
  have hx := X.1.1
  have hb := X.1.2.1
  have hown := X.1.2.2.2.1
  have hts := X.1.2.2.2.2
  refine lv_iload hx hb dX5_fewestToJoin_6 (lv_at hl 5 rfl) ?_
  refine lv_aload_n hx hb dX5_fewestToJoin_8 rfl (lv_at hl 0 rfl) ?_
  refine sg_getr X I fk_X5_23 (j := 3) (by decide) shC_302 rfl dX5_fewestToJoin_9 ?_
  refine sg_callVr (As := []) X I mk_X5_37 (by decide) (by decide) shC_3 rfl (fun q9 e9 => c_X0_allRoads isCo_3 e9) h hl.1 rfl rfl (Nat.le_of_ble_eq_true rfl) dX5_fewestToJoin_12 (fun v1 H locs h I => ?_)
  refine lv_icmp_gt (tgt := 79) hx hb dX5_fewestToJoin_15 (by decide) (fun z => ?_) (fun z => ?_)
  · have h := sg_ift h z
    obtain rfl := Option.some.inj h
    exact sg_go hk I (lv_sub hl [4] rfl)
  · have h := sg_iff h z
    refine lv_iload hx hb dX5_fewestToJoin_18 (lv_at hl 4 rfl) ?_
    refine lv_iconst (v := -1) hx hb dX5_fewestToJoin_20 (by decide) ?_
    refine lv_icmp_eq (tgt := 37) hx hb dX5_fewestToJoin_21 (by decide) (fun z => ?_) (fun z => ?_)
    · have h := sg_ift h z
      refine lv_iconst (v := 1) hx hb dX5_fewestToJoin_37 (by decide) ?_
      refine lv_goto (tgt := 42) hx hb dX5_fewestToJoin_38 (by decide) ?_
      exact b_X5_fewestToJoin_L6_B42 X I (lv_sub hl [0, 1, 2, 3, 4, 5] rfl) h hk
    · have h := sg_iff h z
      refine lv_iload hx hb dX5_fewestToJoin_24 (lv_at hl 5 rfl) ?_
      refine sg_callSr (As := [.int x5]) X I mk_X5_99 (by decide) (fun q9 e9 => c_J6_bitCount_0f7a4 e9) h hl.1 rfl rfl (Nat.le_of_ble_eq_true rfl) dX5_fewestToJoin_26 (fun v3 H locs h I => ?_)
      refine lv_iload hx hb dX5_fewestToJoin_29 (lv_at hl 4 rfl) ?_
      refine sg_callSr (As := [.int x4]) X I mk_X5_99 (by decide) (fun q9 e9 => c_J6_bitCount_0f7a4 e9) h hl.1 rfl rfl (Nat.le_of_ble_eq_true rfl) dX5_fewestToJoin_31 (fun v4 H locs h I => ?_)
      refine lv_icmp_ge (tgt := 41) hx hb dX5_fewestToJoin_34 (by decide) (fun z => ?_) (fun z => ?_)
      · have h := sg_ift h z
        refine lv_iconst (v := 0) hx hb dX5_fewestToJoin_41 (by decide) ?_
        exact b_X5_fewestToJoin_L6_B42 X I (lv_sub hl [0, 1, 2, 3, 4, 5] rfl) h hk
      · have h := sg_iff h z
        refine lv_iconst (v := 1) hx hb dX5_fewestToJoin_37 (by decide) ?_
        refine lv_goto (tgt := 42) hx hb dX5_fewestToJoin_38 (by decide) ?_
        exact b_X5_fewestToJoin_L6_B42 X I (lv_sub hl [0, 1, 2, 3, 4, 5] rfl) h hk
def f_X5_fewestToJoin (N : Nat) (p1 : Int32) (p2 : Int32) (p3 : Int32) (σ : sgS) : Option (Int32) :=
  sg_lb (sg_lp (fun x => f_X5_fewestToJoin_L6 N p1 p2 p3 x.1 x.2 σ) N (((-1), 0))) (fun r => some r) fun y5 =>
some y5
set_option maxHeartbeats 4000000 in
set_option maxRecDepth 100000 in
theorem b_X5_fewestToJoin {p : Program} {l : Launch} {e : Env} {R : Room} {s : State} {m : MethodId} {args : Array Value} {below : List Frame} {meth : Method} {c : Code} {Q : State → Prop} {P : sgP} {A : Nat → Prop} {N : Nat} {p1 : Int32} {p2 : Int32} {p3 : Int32} {σ : sgS} (X : sg_C P A 3 p R s m args c cX5_fewestToJoin 7 RX5) {H : Heap} {locs : List Loc} (I : sg_I P shC 332 A s.heap σ H locs) {ls : Array Slot} (hl : lv_has ls 7 [(0, .ref (sgA P 302)), (1, .int p1), (2, .int p2), (3, .int p3)]) {st : Int32} (h : f_X5_fewestToJoin N p1 p2 p3 σ = some st) (hk : sg_Ri p l e R s m args below meth c Q P shC 332 A cX5_fewestToJoin (some .int) (st, σ)) : W p l e R s m args below meth c H locs 0 0 Q (F0 m 0 ls []) := by
  unfold f_X5_fewestToJoin at h
  have hx := X.1.1
  have hb := X.1.2.1
  have hown := X.1.2.2.2.1
  have hts := X.1.2.2.2.2
  refine lv_iconst (v := -1) hx hb dX5_fewestToJoin_0 (by decide) ?_
  refine lv_istore (lv' := [(4, .int ((-1))), (0, .ref (sgA P 302)), (1, .int p1), (2, .int p2), (3, .int p3)]) hx hb dX5_fewestToJoin_1 hl (by decide) rfl (fun ls hl => ?_)
  refine lv_iconst (v := 0) hx hb dX5_fewestToJoin_3 (by decide) ?_
  refine lv_istore (lv' := [(5, .int 0), (4, .int ((-1))), (0, .ref (sgA P 302)), (1, .int p1), (2, .int p2), (3, .int p3)]) hx hb dX5_fewestToJoin_4 hl (by decide) rfl (fun ls hl => ?_)
  obtain ⟨res, e9, k9⟩ := sg_lb_some h
  refine sg_go (sg_lp_W (a := (fun r => sg_Ri p l e R s m args below meth c Q P shC 332 A cX5_fewestToJoin (some .int) (r, σ))) (w := (fun x => sg_Wt p l e R s m args below meth c Q P shC 332 A 7 6 σ [(0, .ref (sgA P 302)), (1, .int p1), (2, .int p2), (3, .int p3), (4, .int x.1), (5, .int x.2)])) (c := (fun y => sg_Wt p l e R s m args below meth c Q P shC 332 A 7 79 σ [(4, .int y)])) (fun x st hb9 hk9 => ?_) N (((-1), 0)) res e9 (sg_k2_mono k9 (fun r h => ?_) (fun y5 h => ?_))) I (lv_sub hl [2, 3, 4, 5, 1, 0] rfl)
  · intro H locs ls I hl
    exact b_X5_fewestToJoin_L6 X I hl hb9 hk9
  · obtain rfl := Option.some.inj h
    exact hk
  · intro H locs ls I hl
    refine lv_iload hx hb dX5_fewestToJoin_79 (lv_at hl 0 rfl) ?_
    obtain rfl := Option.some.inj h
    exact hk _ _ _ _ _ I ⟨_, rfl, rfl⟩ dX5_fewestToJoin_81
set_option maxHeartbeats 4000000 in
set_option maxRecDepth 100000 in
theorem c_X5_fewestToJoin {l : Launch} {P : sgP} {N : Nat} {p1 : Int32} {p2 : Int32} {p3 : Int32} {σ : sgS} {q : Int32} (h : f_X5_fewestToJoin N p1 p2 p3 σ = some q) : sg_Mi P shC 332 l yX5_fewestToJoin cX5_fewestToJoin 7 (some .int) 3 [.ref (sgA P 302), .int p1, .int p2, .int p3] σ (q, σ) := by
  refine sg_mki (plainFor_of_name (by decide +kernel)) (Nat.le_of_ble_eq_true rfl) ?_
  intro p e R s m args below meth c Q A ls H locs X I hl hk
  exact b_X5_fewestToJoin X I hl h hk
def f_X5_joiningParts_b (N : Nat) (rec : Int32 → Int32 → Int32 → Int32 → Int32 → Int32 → Int32 → sgS → Option (Int32)) (p1 : Int32) (p2 : Int32) (p3 : Int32) (p4 : Int32) (p5 : Int32) (p6 : Int32) (p7 : Int32) (σ : sgS) : Option (Int32) :=
  if p7 = 0 then
  (some p7)
else
  (sg_cr (f_X5_meets N p1 p2 p6 σ) fun v1 =>
  if v1 = 0 then
    (if (σ.1 3 4) ≤ p4 then
      (some 0)
    else
      (sg_cr (f_X5_meets N p1 p2 (p6 ||| p5) σ) fun v2 =>
      if v2 = 0 then
        (some 0)
      else
        (if (p5 &&& (1 <<< (p4 &&& 31))) = 0 then
          (sg_cr (rec p1 p2 p3 (p4 + 1) p5 p6 p7 σ) fun v5 =>
          some v5)
        else
          (sg_nzl 100 (
            sg_cr (rec p1 p2 p3 (p4 + 1) (p5 &&& ((p5 &&& (1 <<< (p4 &&& 31))) ^^^ ((-1)))) p6 (((p7.toInt64 * p3.toInt64) / 100).toInt32) σ) fun v3 =>
            sg_cr (rec p1 p2 p3 (p4 + 1) (p5 &&& ((p5 &&& (1 <<< (p4 &&& 31))) ^^^ ((-1)))) (p6 ||| (p5 &&& (1 <<< (p4 &&& 31)))) (p7 - (((p7.toInt64 * p3.toInt64) / 100).toInt32)) σ) fun v4 =>
            some (v3 + v4))))))
  else
    (some p7))
set_option maxHeartbeats 4000000 in
set_option maxRecDepth 100000 in
theorem b_X5_joiningParts_b {p : Program} {l : Launch} {e : Env} {R : Room} {s : State} {m : MethodId} {args : Array Value} {below : List Frame} {meth : Method} {c : Code} {Q : State → Prop} {P : sgP} {A : Nat → Prop} {lv : Nat} {N : Nat} {rec : Int32 → Int32 → Int32 → Int32 → Int32 → Int32 → Int32 → sgS → Option (Int32)} {p1 : Int32} {p2 : Int32} {p3 : Int32} {p4 : Int32} {p5 : Int32} {p6 : Int32} {p7 : Int32} {σ : sgS} (X : sg_C P A (lv + 1) p R s m args c cX5_joiningParts 10 RX5) (hlv : 3 ≤ lv) (hrec : ∀ (p1 : Int32) (p2 : Int32) (p3 : Int32) (p4 : Int32) (p5 : Int32) (p6 : Int32) (p7 : Int32) (σ : sgS) (q : Int32), rec p1 p2 p3 p4 p5 p6 p7 σ = some q → sg_Mi P shC 332 l yX5_joiningParts cX5_joiningParts 10 (some .int) lv [.ref (sgA P 302), .int p1, .int p2, .int p3, .int p4, .int p5, .int p6, .int p7] σ (q, σ)) {H : Heap} {locs : List Loc} (I : sg_I P shC 332 A s.heap σ H locs) {ls : Array Slot} (hl : lv_has ls 10 [(0, .ref (sgA P 302)), (1, .int p1), (2, .int p2), (3, .int p3), (4, .int p4), (5, .int p5), (6, .int p6), (7, .int p7)]) {st : Int32} (h : f_X5_joiningParts_b N rec p1 p2 p3 p4 p5 p6 p7 σ = some st) (hk : sg_Ri p l e R s m args below meth c Q P shC 332 A cX5_joiningParts (some .int) (st, σ)) : W p l e R s m args below meth c H locs 0 0 Q (F0 m 0 ls []) := by
  unfold f_X5_joiningParts_b at h
  have hx := X.1.1
  have hb := X.1.2.1
  have hown := X.1.2.2.2.1
  have hts := X.1.2.2.2.2
  refine lv_iload hx hb dX5_joiningParts_0 (lv_at hl 7 rfl) ?_
  refine lv_if_eq (tgt := 16) hx hb dX5_joiningParts_2 (by decide) (fun z => ?_) (fun z => ?_)
  · have h := sg_ift h z
    refine lv_iload hx hb dX5_joiningParts_16 (lv_at hl 7 rfl) ?_
    obtain rfl := Option.some.inj h
    exact hk _ _ _ _ _ I ⟨_, rfl, rfl⟩ dX5_joiningParts_18
  · have h := sg_iff h z
    refine lv_aload_n hx hb dX5_joiningParts_5 rfl (lv_at hl 0 rfl) ?_
    refine lv_iload_n hx hb dX5_joiningParts_6 rfl (lv_at hl 1 rfl) ?_
    refine lv_iload_n hx hb dX5_joiningParts_7 rfl (lv_at hl 2 rfl) ?_
    refine lv_iload hx hb dX5_joiningParts_8 (lv_at hl 6 rfl) ?_
    refine sg_callVr (As := [.int p1, .int p2, .int p6]) X I mk_X5_105 (by omega) (by decide) shC_302 rfl (fun q9 e9 => c_X5_meets e9) h hl.1 rfl rfl (Nat.le_of_ble_eq_true rfl) dX5_joiningParts_10 (fun v1 H locs h I => ?_)
    refine lv_if_eq (tgt := 19) hx hb dX5_joiningParts_13 (by decide) (fun z => ?_) (fun z => ?_)
    · have h := sg_ift h z
      refine lv_iload hx hb dX5_joiningParts_19 (lv_at hl 4 rfl) ?_
      refine lv_aload_n hx hb dX5_joiningParts_21 rfl (lv_at hl 0 rfl) ?_
      refine sg_getr X I fk_X5_23 (j := 3) (by decide) shC_302 rfl dX5_joiningParts_22 ?_
      refine sg_getiN X I fn_X5_87 (by decide) shC_3 rfl dX5_joiningParts_25 ?_
      refine lv_icmp_ge (tgt := 45) hx hb dX5_joiningParts_28 (by decide) (fun z => ?_) (fun z => ?_)
      · have h := sg_ift h z
        refine lv_iconst (v := 0) hx hb dX5_joiningParts_45 (by decide) ?_
        obtain rfl := Option.some.inj h
        exact hk _ _ _ _ _ I ⟨_, rfl, rfl⟩ dX5_joiningParts_46
      · have h := sg_iff h z
        refine lv_aload_n hx hb dX5_joiningParts_31 rfl (lv_at hl 0 rfl) ?_
        refine lv_iload_n hx hb dX5_joiningParts_32 rfl (lv_at hl 1 rfl) ?_
        refine lv_iload_n hx hb dX5_joiningParts_33 rfl (lv_at hl 2 rfl) ?_
        refine lv_iload hx hb dX5_joiningParts_34 (lv_at hl 6 rfl) ?_
        refine lv_iload hx hb dX5_joiningParts_36 (lv_at hl 5 rfl) ?_
        refine lv_ior hx hb dX5_joiningParts_38 ?_
        refine sg_callVr (As := [.int p1, .int p2, .int (p6 ||| p5)]) X I mk_X5_105 (by omega) (by decide) shC_302 rfl (fun q9 e9 => c_X5_meets e9) h hl.1 rfl rfl (Nat.le_of_ble_eq_true rfl) dX5_joiningParts_39 (fun v2 H locs h I => ?_)
        refine lv_if_ne (tgt := 47) hx hb dX5_joiningParts_42 (by decide) (fun z => ?_) (fun z => ?_)
        · have h := sg_iff h z
          refine lv_iload hx hb dX5_joiningParts_47 (lv_at hl 5 rfl) ?_
          refine lv_iconst (v := 1) hx hb dX5_joiningParts_49 (by decide) ?_
          refine lv_iload hx hb dX5_joiningParts_50 (lv_at hl 4 rfl) ?_
          refine lv_ishl hx hb dX5_joiningParts_52 ?_
          refine lv_iand hx hb dX5_joiningParts_53 ?_
          refine lv_istore (lv' := [(8, .int (p5 &&& (1 <<< (p4 &&& 31)))), (0, .ref (sgA P 302)), (1, .int p1), (2, .int p2), (3, .int p3), (4, .int p4), (5, .int p5), (6, .int p6), (7, .int p7)]) hx hb dX5_joiningParts_54 hl (by decide) rfl (fun ls hl => ?_)
          refine lv_iload hx hb dX5_joiningParts_56 (lv_at hl 0 rfl) ?_
          refine lv_if_ne (tgt := 79) hx hb dX5_joiningParts_58 (by decide) (fun z => ?_) (fun z => ?_)
          · have h := sg_iff h z
            refine lv_iload hx hb dX5_joiningParts_79 (lv_at hl 8 rfl) ?_
            refine lv_i2l (v := p7.toInt64) hx hb dX5_joiningParts_81 rfl ?_
            refine lv_iload_n hx hb dX5_joiningParts_82 rfl (lv_at hl 4 rfl) ?_
            refine lv_i2l (v := p3.toInt64) hx hb dX5_joiningParts_83 rfl ?_
            refine lv_lmul hx hb dX5_joiningParts_84 ?_
            refine lv_ldc2 (v := 100) hx hb hown (hts _ qw_1440) dX5_joiningParts_85 ?_
            refine sg_nzlW (h := h) (fun z h => ?_)
            refine lv_ldiv hx hb dX5_joiningParts_88 z ?_
            refine lv_l2i (v := ((p7.toInt64 * p3.toInt64) / 100).toInt32) hx hb dX5_joiningParts_89 rfl ?_
            refine lv_istore (lv' := [(9, .int (((p7.toInt64 * p3.toInt64) / 100).toInt32)), (8, .int (p5 &&& (1 <<< (p4 &&& 31)))), (0, .ref (sgA P 302)), (1, .int p1), (2, .int p2), (3, .int p3), (4, .int p4), (5, .int p5), (6, .int p6), (7, .int p7)]) hx hb dX5_joiningParts_90 hl (by decide) rfl (fun ls hl => ?_)
            refine lv_aload_n hx hb dX5_joiningParts_92 rfl (lv_at hl 2 rfl) ?_
            refine lv_iload_n hx hb dX5_joiningParts_93 rfl (lv_at hl 3 rfl) ?_
            refine lv_iload_n hx hb dX5_joiningParts_94 rfl (lv_at hl 4 rfl) ?_
            refine lv_iload_n hx hb dX5_joiningParts_95 rfl (lv_at hl 5 rfl) ?_
            refine lv_iload hx hb dX5_joiningParts_96 (lv_at hl 6 rfl) ?_
            refine lv_iconst (v := 1) hx hb dX5_joiningParts_98 (by decide) ?_
            refine lv_iadd hx hb dX5_joiningParts_99 ?_
            refine lv_iload hx hb dX5_joiningParts_100 (lv_at hl 7 rfl) ?_
            refine lv_iload hx hb dX5_joiningParts_102 (lv_at hl 1 rfl) ?_
            refine lv_iconst (v := -1) hx hb dX5_joiningParts_104 (by decide) ?_
            refine lv_ixor hx hb dX5_joiningParts_105 ?_
            refine lv_iand hx hb dX5_joiningParts_106 ?_
            refine lv_iload hx hb dX5_joiningParts_107 (lv_at hl 8 rfl) ?_
            refine lv_iload hx hb dX5_joiningParts_109 (lv_at hl 0 rfl) ?_
            refine sg_callVr (As := [.int p1, .int p2, .int p3, .int (p4 + 1), .int (p5 &&& ((p5 &&& (1 <<< (p4 &&& 31))) ^^^ ((-1)))), .int p6, .int (((p7.toInt64 * p3.toInt64) / 100).toInt32)]) X I mk_X5_109 (by omega) (by decide) shC_302 rfl (fun q9 e9 => hrec _ _ _ _ _ _ _ _ _ e9) h hl.1 rfl rfl (Nat.le_of_ble_eq_true rfl) dX5_joiningParts_111 (fun v3 H locs h I => ?_)
            refine lv_aload_n hx hb dX5_joiningParts_114 rfl (lv_at hl 2 rfl) ?_
            refine lv_iload_n hx hb dX5_joiningParts_115 rfl (lv_at hl 3 rfl) ?_
            refine lv_iload_n hx hb dX5_joiningParts_116 rfl (lv_at hl 4 rfl) ?_
            refine lv_iload_n hx hb dX5_joiningParts_117 rfl (lv_at hl 5 rfl) ?_
            refine lv_iload hx hb dX5_joiningParts_118 (lv_at hl 6 rfl) ?_
            refine lv_iconst (v := 1) hx hb dX5_joiningParts_120 (by decide) ?_
            refine lv_iadd hx hb dX5_joiningParts_121 ?_
            refine lv_iload hx hb dX5_joiningParts_122 (lv_at hl 7 rfl) ?_
            refine lv_iload hx hb dX5_joiningParts_124 (lv_at hl 1 rfl) ?_
            refine lv_iconst (v := -1) hx hb dX5_joiningParts_126 (by decide) ?_
            refine lv_ixor hx hb dX5_joiningParts_127 ?_
            refine lv_iand hx hb dX5_joiningParts_128 ?_
            refine lv_iload hx hb dX5_joiningParts_129 (lv_at hl 8 rfl) ?_
            refine lv_iload hx hb dX5_joiningParts_131 (lv_at hl 1 rfl) ?_
            refine lv_ior hx hb dX5_joiningParts_133 ?_
            refine lv_iload hx hb dX5_joiningParts_134 (lv_at hl 9 rfl) ?_
            refine lv_iload hx hb dX5_joiningParts_136 (lv_at hl 0 rfl) ?_
            refine lv_isub hx hb dX5_joiningParts_138 ?_
            refine sg_callVr (As := [.int p1, .int p2, .int p3, .int (p4 + 1), .int (p5 &&& ((p5 &&& (1 <<< (p4 &&& 31))) ^^^ ((-1)))), .int (p6 ||| (p5 &&& (1 <<< (p4 &&& 31)))), .int (p7 - (((p7.toInt64 * p3.toInt64) / 100).toInt32))]) X I mk_X5_109 (by omega) (by decide) shC_302 rfl (fun q9 e9 => hrec _ _ _ _ _ _ _ _ _ e9) h hl.1 rfl rfl (Nat.le_of_ble_eq_true rfl) dX5_joiningParts_139 (fun v4 H locs h I => ?_)
            refine lv_iadd hx hb dX5_joiningParts_142 ?_
            obtain rfl := Option.some.inj h
            exact hk _ _ _ _ _ I ⟨_, rfl, rfl⟩ dX5_joiningParts_143
          · have h := sg_ift h z
            refine lv_aload_n hx hb dX5_joiningParts_61 rfl (lv_at hl 1 rfl) ?_
            refine lv_iload_n hx hb dX5_joiningParts_62 rfl (lv_at hl 2 rfl) ?_
            refine lv_iload_n hx hb dX5_joiningParts_63 rfl (lv_at hl 3 rfl) ?_
            refine lv_iload_n hx hb dX5_joiningParts_64 rfl (lv_at hl 4 rfl) ?_
            refine lv_iload hx hb dX5_joiningParts_65 (lv_at hl 5 rfl) ?_
            refine lv_iconst (v := 1) hx hb dX5_joiningParts_67 (by decide) ?_
            refine lv_iadd hx hb dX5_joiningParts_68 ?_
            refine lv_iload hx hb dX5_joiningParts_69 (lv_at hl 6 rfl) ?_
            refine lv_iload hx hb dX5_joiningParts_71 (lv_at hl 7 rfl) ?_
            refine lv_iload hx hb dX5_joiningParts_73 (lv_at hl 8 rfl) ?_
            refine sg_callVr (As := [.int p1, .int p2, .int p3, .int (p4 + 1), .int p5, .int p6, .int p7]) X I mk_X5_109 (by omega) (by decide) shC_302 rfl (fun q9 e9 => hrec _ _ _ _ _ _ _ _ _ e9) h hl.1 rfl rfl (Nat.le_of_ble_eq_true rfl) dX5_joiningParts_75 (fun v5 H locs h I => ?_)
            obtain rfl := Option.some.inj h
            exact hk _ _ _ _ _ I ⟨_, rfl, rfl⟩ dX5_joiningParts_78
        · have h := sg_ift h z
          refine lv_iconst (v := 0) hx hb dX5_joiningParts_45 (by decide) ?_
          obtain rfl := Option.some.inj h
          exact hk _ _ _ _ _ I ⟨_, rfl, rfl⟩ dX5_joiningParts_46
    · have h := sg_iff h z
      refine lv_iload hx hb dX5_joiningParts_16 (lv_at hl 7 rfl) ?_
      obtain rfl := Option.some.inj h
      exact hk _ _ _ _ _ I ⟨_, rfl, rfl⟩ dX5_joiningParts_18
set_option maxHeartbeats 4000000 in
set_option maxRecDepth 100000 in
theorem c_X5_joiningParts_b {l : Launch} {P : sgP} {lv : Nat} {N : Nat} {rec : Int32 → Int32 → Int32 → Int32 → Int32 → Int32 → Int32 → sgS → Option (Int32)} {p1 : Int32} {p2 : Int32} {p3 : Int32} {p4 : Int32} {p5 : Int32} {p6 : Int32} {p7 : Int32} {σ : sgS} (hlv : 3 ≤ lv) (hrec : ∀ (p1 : Int32) (p2 : Int32) (p3 : Int32) (p4 : Int32) (p5 : Int32) (p6 : Int32) (p7 : Int32) (σ : sgS) (q : Int32), rec p1 p2 p3 p4 p5 p6 p7 σ = some q → sg_Mi P shC 332 l yX5_joiningParts cX5_joiningParts 10 (some .int) lv [.ref (sgA P 302), .int p1, .int p2, .int p3, .int p4, .int p5, .int p6, .int p7] σ (q, σ)) {q : Int32} (h : f_X5_joiningParts_b N rec p1 p2 p3 p4 p5 p6 p7 σ = some q) : sg_Mi P shC 332 l yX5_joiningParts cX5_joiningParts 10 (some .int) (lv + 1) [.ref (sgA P 302), .int p1, .int p2, .int p3, .int p4, .int p5, .int p6, .int p7] σ (q, σ) := by
  refine sg_mki (plainFor_of_name (by decide +kernel)) (Nat.le_of_ble_eq_true rfl) ?_
  intro p e R s m args below meth c Q A ls H locs X I hl hk
  exact b_X5_joiningParts_b X hlv hrec I hl h hk
def f_X5_joiningParts : Nat → Nat → Int32 → Int32 → Int32 → Int32 → Int32 → Int32 → Int32 → sgS → Option (Int32)
  | 0, _, _, _, _, _, _, _, _, _ => none
  | d + 1, N, p1, p2, p3, p4, p5, p6, p7, σ => f_X5_joiningParts_b N (f_X5_joiningParts d N) p1 p2 p3 p4 p5 p6 p7 σ
set_option maxHeartbeats 4000000 in
set_option maxRecDepth 100000 in
theorem cd_X5_joiningParts {l : Launch} {P : sgP} {N : Nat} : ∀ (d : Nat) (p1 : Int32) (p2 : Int32) (p3 : Int32) (p4 : Int32) (p5 : Int32) (p6 : Int32) (p7 : Int32) (σ : sgS) (q : Int32), f_X5_joiningParts d N p1 p2 p3 p4 p5 p6 p7 σ = some q → sg_Mi P shC 332 l yX5_joiningParts cX5_joiningParts 10 (some .int) (3 + 1 * d) [.ref (sgA P 302), .int p1, .int p2, .int p3, .int p4, .int p5, .int p6, .int p7] σ (q, σ) := by
  intro d
  induction d with
  | zero => intro p1 p2 p3 p4 p5 p6 p7 σ q h; cases h
  | succ d ih =>
    intro p1 p2 p3 p4 p5 p6 p7 σ q h
    have e : 3 + 1 * (d + 1) = 3 + 1 * d + 1 := by omega
    rw [e]
    exact c_X5_joiningParts_b (by omega) ih h
set_option maxHeartbeats 4000000 in
set_option maxRecDepth 100000 in
theorem c_X5_joiningParts {l : Launch} {P : sgP} {N : Nat} {p1 : Int32} {p2 : Int32} {p3 : Int32} {p4 : Int32} {p5 : Int32} {p6 : Int32} {p7 : Int32} {σ : sgS} {q : Int32} (h : f_X5_joiningParts 40 N p1 p2 p3 p4 p5 p6 p7 σ = some q) : sg_Mi P shC 332 l yX5_joiningParts cX5_joiningParts 10 (some .int) 43 [.ref (sgA P 302), .int p1, .int p2, .int p3, .int p4, .int p5, .int p6, .int p7] σ (q, σ) := cd_X5_joiningParts 40 p1 p2 p3 p4 p5 p6 p7 σ q h
def f_X5_partsThatJoin (N : Nat) (p1 : Int32) (p2 : Int32) (p3 : Int32) (p4 : Int32) (σ : sgS) : Option (Int32) :=
  sg_cr (f_X5_joiningParts 40 N p1 p2 p3 0 p4 0 1000000000 σ) fun v1 =>
some v1
set_option maxHeartbeats 4000000 in
set_option maxRecDepth 100000 in
theorem b_X5_partsThatJoin {p : Program} {l : Launch} {e : Env} {R : Room} {s : State} {m : MethodId} {args : Array Value} {below : List Frame} {meth : Method} {c : Code} {Q : State → Prop} {P : sgP} {A : Nat → Prop} {N : Nat} {p1 : Int32} {p2 : Int32} {p3 : Int32} {p4 : Int32} {σ : sgS} (X : sg_C P A 44 p R s m args c cX5_partsThatJoin 5 RX5) {H : Heap} {locs : List Loc} (I : sg_I P shC 332 A s.heap σ H locs) {ls : Array Slot} (hl : lv_has ls 5 [(0, .ref (sgA P 302)), (1, .int p1), (2, .int p2), (3, .int p3), (4, .int p4)]) {st : Int32} (h : f_X5_partsThatJoin N p1 p2 p3 p4 σ = some st) (hk : sg_Ri p l e R s m args below meth c Q P shC 332 A cX5_partsThatJoin (some .int) (st, σ)) : W p l e R s m args below meth c H locs 0 0 Q (F0 m 0 ls []) := by
  unfold f_X5_partsThatJoin at h
  have hx := X.1.1
  have hb := X.1.2.1
  have hown := X.1.2.2.2.1
  have hts := X.1.2.2.2.2
  refine lv_aload_n hx hb dX5_partsThatJoin_0 rfl (lv_at hl 0 rfl) ?_
  refine lv_iload_n hx hb dX5_partsThatJoin_1 rfl (lv_at hl 1 rfl) ?_
  refine lv_iload_n hx hb dX5_partsThatJoin_2 rfl (lv_at hl 2 rfl) ?_
  refine lv_iload_n hx hb dX5_partsThatJoin_3 rfl (lv_at hl 3 rfl) ?_
  refine lv_iconst (v := 0) hx hb dX5_partsThatJoin_4 (by decide) ?_
  refine lv_iload hx hb dX5_partsThatJoin_5 (lv_at hl 4 rfl) ?_
  refine lv_iconst (v := 0) hx hb dX5_partsThatJoin_7 (by decide) ?_
  refine lv_ldc (v := 1000000000) hx hb hown (hts _ qw_1435) dX5_partsThatJoin_8 ?_
  refine sg_callVr (As := [.int p1, .int p2, .int p3, .int 0, .int p4, .int 0, .int 1000000000]) X I mk_X5_109 (by decide) (by decide) shC_302 rfl (fun q9 e9 => c_X5_joiningParts e9) h hl.1 rfl rfl (Nat.le_of_ble_eq_true rfl) dX5_partsThatJoin_10 (fun v1 H locs h I => ?_)
  obtain rfl := Option.some.inj h
  exact hk _ _ _ _ _ I ⟨_, rfl, rfl⟩ dX5_partsThatJoin_13
set_option maxHeartbeats 4000000 in
set_option maxRecDepth 100000 in
theorem c_X5_partsThatJoin {l : Launch} {P : sgP} {N : Nat} {p1 : Int32} {p2 : Int32} {p3 : Int32} {p4 : Int32} {σ : sgS} {q : Int32} (h : f_X5_partsThatJoin N p1 p2 p3 p4 σ = some q) : sg_Mi P shC 332 l yX5_partsThatJoin cX5_partsThatJoin 5 (some .int) 44 [.ref (sgA P 302), .int p1, .int p2, .int p3, .int p4] σ (q, σ) := by
  refine sg_mki (plainFor_of_name (by decide +kernel)) (Nat.le_of_ble_eq_true rfl) ?_
  intro p e R s m args below meth c Q A ls H locs X I hl hk
  exact b_X5_partsThatJoin X I hl h hk
def f_X5_farthestFrom_L4 (N : Nat) (p1 : Int32) (x2 : Int32) (x3 : Int32) (σ : sgS) : Option ((Int32) ⊕ ((Int32 × Int32) ⊕ (Int32))) :=
  if (σ.1 3 3) ≤ x3 then
  (some (.inr (.inr x2)))
else
  (sg_cr (f_X5_reaches N p1 x3 σ) fun v1 =>
  if v1 = 0 then
    (some (.inr (.inl (x2, x3 + 1))))
  else
    (sg_rf 7 p1 fun j3 =>
    sg_ld σ (312 + j3) 7 x3 fun v4 =>
    some (.inr (.inl ((if x2 < v4 then v4 else x2), x3 + 1)))))
set_option maxHeartbeats 4000000 in
set_option maxRecDepth 100000 in
theorem b_X5_farthestFrom_L4 {p : Program} {l : Launch} {e : Env} {R : Room} {s : State} {m : MethodId} {args : Array Value} {below : List Frame} {meth : Method} {c : Code} {Q : State → Prop} {P : sgP} {A : Nat → Prop} {N : Nat} {p1 : Int32} {x2 : Int32} {x3 : Int32} {σ : sgS} (X : sg_C P A 2 p R s m args c cX5_farthestFrom 4 RX5) {H : Heap} {locs : List Loc} (I : sg_I P shC 332 A s.heap σ H locs) {ls : Array Slot} (hl : lv_has ls 4 [(0, .ref (sgA P 302)), (1, .int p1), (2, .int x2), (3, .int x3)]) {st : (Int32) ⊕ ((Int32 × Int32) ⊕ (Int32))} (h : f_X5_farthestFrom_L4 N p1 x2 x3 σ = some st) (hk : sg_k3 (fun r => sg_Ri p l e R s m args below meth c Q P shC 332 A cX5_farthestFrom (some .int) (r, σ)) (fun x => sg_Wt p l e R s m args below meth c Q P shC 332 A 4 4 σ [(0, .ref (sgA P 302)), (1, .int p1), (2, .int x.1), (3, .int x.2)]) (fun y => sg_Wt p l e R s m args below meth c Q P shC 332 A 4 43 σ [(2, .int y)]) st) : W p l e R s m args below meth c H locs 0 0 Q (F0 m 4 ls []) := by
  unfold f_X5_farthestFrom_L4 at h
  have hx := X.1.1
  have hb := X.1.2.1
  have hown := X.1.2.2.2.1
  have hts := X.1.2.2.2.2
  refine lv_iload_n hx hb dX5_farthestFrom_4 rfl (lv_at hl 3 rfl) ?_
  refine lv_aload_n hx hb dX5_farthestFrom_5 rfl (lv_at hl 0 rfl) ?_
  refine sg_getr X I fk_X5_23 (j := 3) (by decide) shC_302 rfl dX5_farthestFrom_6 ?_
  refine sg_getiN X I fn_X5_52 (by decide) shC_3 rfl dX5_farthestFrom_9 ?_
  refine lv_icmp_ge (tgt := 43) hx hb dX5_farthestFrom_12 (by decide) (fun z => ?_) (fun z => ?_)
  · have h := sg_ift h z
    obtain rfl := Option.some.inj h
    exact sg_go hk I (lv_sub hl [2] rfl)
  · have h := sg_iff h z
    refine lv_aload_n hx hb dX5_farthestFrom_15 rfl (lv_at hl 0 rfl) ?_
    refine lv_iload_n hx hb dX5_farthestFrom_16 rfl (lv_at hl 1 rfl) ?_
    refine lv_iload_n hx hb dX5_farthestFrom_17 rfl (lv_at hl 3 rfl) ?_
    refine sg_callVr (As := [.int p1, .int x3]) X I mk_X5_83 (by decide) (by decide) shC_302 rfl (fun q9 e9 => c_X5_reaches e9) h hl.1 rfl rfl (Nat.le_of_ble_eq_true rfl) dX5_farthestFrom_18 (fun v1 H locs h I => ?_)
    refine lv_if_eq (tgt := 37) hx hb dX5_farthestFrom_21 (by decide) (fun z => ?_) (fun z => ?_)
    · have h := sg_ift h z
      refine lv_iinc (v := x3 + 1) (lv' := [(3, .int (x3 + 1)), (0, .ref (sgA P 302)), (1, .int p1), (2, .int x2)]) hx hb dX5_farthestFrom_37 hl (k := 3) rfl rfl (by decide) rfl (fun ls hl => ?_)
      refine lv_goto (tgt := 4) hx hb dX5_farthestFrom_40 (by decide) ?_
      obtain rfl := Option.some.inj h
      exact sg_go hk I (lv_sub hl [1, 2, 3, 0] rfl)
    · have h := sg_iff h z
      refine lv_iload_n hx hb dX5_farthestFrom_24 rfl (lv_at hl 2 rfl) ?_
      refine lv_aload_n hx hb dX5_farthestFrom_25 rfl (lv_at hl 0 rfl) ?_
      refine sg_getr X I fk_X5_16 (j := 311) (by decide) shC_302 rfl dX5_farthestFrom_26 ?_
      refine lv_iload_n hx hb dX5_farthestFrom_29 rfl (lv_at hl 1 rfl) ?_
      refine sg_aalda X I (by decide) shC_311 (r := fun k => 312 + k) (fun _ _ => rfl) h dX5_farthestFrom_30 (fun j3 hj3 h => ?_)
      refine lv_iload_n hx hb dX5_farthestFrom_31 rfl (lv_at hl 3 rfl) ?_
      refine sg_iald X I (shC_311i hj3) (shC_311s hj3) h dX5_farthestFrom_32 (fun v4 h => ?_)
      refine sg_mmax X hl.1 (by first | decide | omega) qw_1484 qw_285 qw_286 qw_287 (Nat.le_of_ble_eq_true rfl) dX5_farthestFrom_33 ?_
      refine lv_istore_n (lv' := [(2, .int ((if x2 < v4 then v4 else x2))), (0, .ref (sgA P 302)), (1, .int p1), (3, .int x3)]) hx hb dX5_farthestFrom_36 rfl hl (by decide) rfl (fun ls hl => ?_)
      refine lv_iinc (v := x3 + 1) (lv' := [(3, .int (x3 + 1)), (2, .int ((if x2 < v4 then v4 else x2))), (0, .ref (sgA P 302)), (1, .int p1)]) hx hb dX5_farthestFrom_37 hl (k := 3) rfl rfl (by decide) rfl (fun ls hl => ?_)
      refine lv_goto (tgt := 4) hx hb dX5_farthestFrom_40 (by decide) ?_
      obtain rfl := Option.some.inj h
      exact sg_go hk I (lv_sub hl [2, 3, 1, 0] rfl)
def f_X5_farthestFrom (N : Nat) (p1 : Int32) (σ : sgS) : Option (Int32) :=
  sg_lb (sg_lp (fun x => f_X5_farthestFrom_L4 N p1 x.1 x.2 σ) N ((0, 0))) (fun r => some r) fun y5 =>
some y5
set_option maxHeartbeats 4000000 in
set_option maxRecDepth 100000 in
theorem b_X5_farthestFrom {p : Program} {l : Launch} {e : Env} {R : Room} {s : State} {m : MethodId} {args : Array Value} {below : List Frame} {meth : Method} {c : Code} {Q : State → Prop} {P : sgP} {A : Nat → Prop} {N : Nat} {p1 : Int32} {σ : sgS} (X : sg_C P A 2 p R s m args c cX5_farthestFrom 4 RX5) {H : Heap} {locs : List Loc} (I : sg_I P shC 332 A s.heap σ H locs) {ls : Array Slot} (hl : lv_has ls 4 [(0, .ref (sgA P 302)), (1, .int p1)]) {st : Int32} (h : f_X5_farthestFrom N p1 σ = some st) (hk : sg_Ri p l e R s m args below meth c Q P shC 332 A cX5_farthestFrom (some .int) (st, σ)) : W p l e R s m args below meth c H locs 0 0 Q (F0 m 0 ls []) := by
  unfold f_X5_farthestFrom at h
  have hx := X.1.1
  have hb := X.1.2.1
  have hown := X.1.2.2.2.1
  have hts := X.1.2.2.2.2
  refine lv_iconst (v := 0) hx hb dX5_farthestFrom_0 (by decide) ?_
  refine lv_istore_n (lv' := [(2, .int 0), (0, .ref (sgA P 302)), (1, .int p1)]) hx hb dX5_farthestFrom_1 rfl hl (by decide) rfl (fun ls hl => ?_)
  refine lv_iconst (v := 0) hx hb dX5_farthestFrom_2 (by decide) ?_
  refine lv_istore_n (lv' := [(3, .int 0), (2, .int 0), (0, .ref (sgA P 302)), (1, .int p1)]) hx hb dX5_farthestFrom_3 rfl hl (by decide) rfl (fun ls hl => ?_)
  obtain ⟨res, e9, k9⟩ := sg_lb_some h
  refine sg_go (sg_lp_W (a := (fun r => sg_Ri p l e R s m args below meth c Q P shC 332 A cX5_farthestFrom (some .int) (r, σ))) (w := (fun x => sg_Wt p l e R s m args below meth c Q P shC 332 A 4 4 σ [(0, .ref (sgA P 302)), (1, .int p1), (2, .int x.1), (3, .int x.2)])) (c := (fun y => sg_Wt p l e R s m args below meth c Q P shC 332 A 4 43 σ [(2, .int y)])) (fun x st hb9 hk9 => ?_) N ((0, 0)) res e9 (sg_k2_mono k9 (fun r h => ?_) (fun y5 h => ?_))) I (lv_sub hl [2, 3, 1, 0] rfl)
  · intro H locs ls I hl
    exact b_X5_farthestFrom_L4 X I hl hb9 hk9
  · obtain rfl := Option.some.inj h
    exact hk
  · intro H locs ls I hl
    refine lv_iload_n hx hb dX5_farthestFrom_43 rfl (lv_at hl 0 rfl) ?_
    obtain rfl := Option.some.inj h
    exact hk _ _ _ _ _ I ⟨_, rfl, rfl⟩ dX5_farthestFrom_44
set_option maxHeartbeats 4000000 in
set_option maxRecDepth 100000 in
theorem c_X5_farthestFrom {l : Launch} {P : sgP} {N : Nat} {p1 : Int32} {σ : sgS} {q : Int32} (h : f_X5_farthestFrom N p1 σ = some q) : sg_Mi P shC 332 l yX5_farthestFrom cX5_farthestFrom 4 (some .int) 2 [.ref (sgA P 302), .int p1] σ (q, σ) := by
  refine sg_mki (plainFor_of_name (by decide +kernel)) (Nat.le_of_ble_eq_true rfl) ?_
  intro p e R s m args below meth c Q A ls H locs X I hl hk
  exact b_X5_farthestFrom X I hl h hk
def f_X5_middle_L4 (N : Nat) (x1 : Int32) (x2 : Int32) (σ : sgS) : Option ((Int32) ⊕ ((Int32 × Int32) ⊕ (Int32))) :=
  if (σ.1 3 3) ≤ x2 then
  (some (.inr (.inr x1)))
else
  (sg_cr (f_X5_farthestFrom N x2 σ) fun v1 =>
  sg_cr (f_X5_farthestFrom N x1 σ) fun v2 =>
  if v2 ≤ v1 then
    (some (.inr (.inl (x1, x2 + 1))))
  else
    (some (.inr (.inl (x2, x2 + 1)))))
set_option maxHeartbeats 4000000 in
set_option maxRecDepth 100000 in
theorem b_X5_middle_L4 {p : Program} {l : Launch} {e : Env} {R : Room} {s : State} {m : MethodId} {args : Array Value} {below : List Frame} {meth : Method} {c : Code} {Q : State → Prop} {P : sgP} {A : Nat → Prop} {N : Nat} {x1 : Int32} {x2 : Int32} {σ : sgS} (X : sg_C P A 3 p R s m args c cX5_middle 3 RX5) {H : Heap} {locs : List Loc} (I : sg_I P shC 332 A s.heap σ H locs) {ls : Array Slot} (hl : lv_has ls 3 [(0, .ref (sgA P 302)), (1, .int x1), (2, .int x2)]) {st : (Int32) ⊕ ((Int32 × Int32) ⊕ (Int32))} (h : f_X5_middle_L4 N x1 x2 σ = some st) (hk : sg_k3 (fun r => sg_Ri p l e R s m args below meth c Q P shC 332 A cX5_middle (some .int) (r, σ)) (fun x => sg_Wt p l e R s m args below meth c Q P shC 332 A 3 4 σ [(0, .ref (sgA P 302)), (1, .int x.1), (2, .int x.2)]) (fun y => sg_Wt p l e R s m args below meth c Q P shC 332 A 3 36 σ [(1, .int y)]) st) : W p l e R s m args below meth c H locs 0 0 Q (F0 m 4 ls []) := by
  unfold f_X5_middle_L4 at h
  have hx := X.1.1
  have hb := X.1.2.1
  have hown := X.1.2.2.2.1
  have hts := X.1.2.2.2.2
  refine lv_iload_n hx hb dX5_middle_4 rfl (lv_at hl 2 rfl) ?_
  refine lv_aload_n hx hb dX5_middle_5 rfl (lv_at hl 0 rfl) ?_
  refine sg_getr X I fk_X5_23 (j := 3) (by decide) shC_302 rfl dX5_middle_6 ?_
  refine sg_getiN X I fn_X5_52 (by decide) shC_3 rfl dX5_middle_9 ?_
  refine lv_icmp_ge (tgt := 36) hx hb dX5_middle_12 (by decide) (fun z => ?_) (fun z => ?_)
  · have h := sg_ift h z
    obtain rfl := Option.some.inj h
    exact sg_go hk I (lv_sub hl [1] rfl)
  · have h := sg_iff h z
    refine lv_aload_n hx hb dX5_middle_15 rfl (lv_at hl 0 rfl) ?_
    refine lv_iload_n hx hb dX5_middle_16 rfl (lv_at hl 2 rfl) ?_
    refine sg_callVr (As := [.int x2]) X I mk_X5_115 (by decide) (by decide) shC_302 rfl (fun q9 e9 => c_X5_farthestFrom e9) h hl.1 rfl rfl (Nat.le_of_ble_eq_true rfl) dX5_middle_17 (fun v1 H locs h I => ?_)
    refine lv_aload_n hx hb dX5_middle_20 rfl (lv_at hl 0 rfl) ?_
    refine lv_iload_n hx hb dX5_middle_21 rfl (lv_at hl 1 rfl) ?_
    refine sg_callVr (As := [.int x1]) X I mk_X5_115 (by decide) (by decide) shC_302 rfl (fun q9 e9 => c_X5_farthestFrom e9) h hl.1 rfl rfl (Nat.le_of_ble_eq_true rfl) dX5_middle_22 (fun v2 H locs h I => ?_)
    refine lv_icmp_ge (tgt := 30) hx hb dX5_middle_25 (by decide) (fun z => ?_) (fun z => ?_)
    · have h := sg_ift h z
      refine lv_iinc (v := x2 + 1) (lv' := [(2, .int (x2 + 1)), (0, .ref (sgA P 302)), (1, .int x1)]) hx hb dX5_middle_30 hl (k := 2) rfl rfl (by decide) rfl (fun ls hl => ?_)
      refine lv_goto (tgt := 4) hx hb dX5_middle_33 (by decide) ?_
      obtain rfl := Option.some.inj h
      exact sg_go hk I (lv_sub hl [1, 2, 0] rfl)
    · have h := sg_iff h z
      refine lv_iload_n hx hb dX5_middle_28 rfl (lv_at hl 2 rfl) ?_
      refine lv_istore_n (lv' := [(1, .int x2), (0, .ref (sgA P 302)), (2, .int x2)]) hx hb dX5_middle_29 rfl hl (by decide) rfl (fun ls hl => ?_)
      refine lv_iinc (v := x2 + 1) (lv' := [(2, .int (x2 + 1)), (1, .int x2), (0, .ref (sgA P 302))]) hx hb dX5_middle_30 hl (k := 2) rfl rfl (by decide) rfl (fun ls hl => ?_)
      refine lv_goto (tgt := 4) hx hb dX5_middle_33 (by decide) ?_
      obtain rfl := Option.some.inj h
      exact sg_go hk I (lv_sub hl [2, 1, 0] rfl)
def f_X5_middle (N : Nat) (σ : sgS) : Option (Int32) :=
  sg_lb (sg_lp (fun x => f_X5_middle_L4 N x.1 x.2 σ) N ((0, 1))) (fun r => some r) fun y3 =>
some y3
set_option maxHeartbeats 4000000 in
set_option maxRecDepth 100000 in
theorem b_X5_middle {p : Program} {l : Launch} {e : Env} {R : Room} {s : State} {m : MethodId} {args : Array Value} {below : List Frame} {meth : Method} {c : Code} {Q : State → Prop} {P : sgP} {A : Nat → Prop} {N : Nat} {σ : sgS} (X : sg_C P A 3 p R s m args c cX5_middle 3 RX5) {H : Heap} {locs : List Loc} (I : sg_I P shC 332 A s.heap σ H locs) {ls : Array Slot} (hl : lv_has ls 3 [(0, .ref (sgA P 302))]) {st : Int32} (h : f_X5_middle N σ = some st) (hk : sg_Ri p l e R s m args below meth c Q P shC 332 A cX5_middle (some .int) (st, σ)) : W p l e R s m args below meth c H locs 0 0 Q (F0 m 0 ls []) := by
  unfold f_X5_middle at h
  have hx := X.1.1
  have hb := X.1.2.1
  have hown := X.1.2.2.2.1
  have hts := X.1.2.2.2.2
  refine lv_iconst (v := 0) hx hb dX5_middle_0 (by decide) ?_
  refine lv_istore_n (lv' := [(1, .int 0), (0, .ref (sgA P 302))]) hx hb dX5_middle_1 rfl hl (by decide) rfl (fun ls hl => ?_)
  refine lv_iconst (v := 1) hx hb dX5_middle_2 (by decide) ?_
  refine lv_istore_n (lv' := [(2, .int 1), (1, .int 0), (0, .ref (sgA P 302))]) hx hb dX5_middle_3 rfl hl (by decide) rfl (fun ls hl => ?_)
  obtain ⟨res, e9, k9⟩ := sg_lb_some h
  refine sg_go (sg_lp_W (a := (fun r => sg_Ri p l e R s m args below meth c Q P shC 332 A cX5_middle (some .int) (r, σ))) (w := (fun x => sg_Wt p l e R s m args below meth c Q P shC 332 A 3 4 σ [(0, .ref (sgA P 302)), (1, .int x.1), (2, .int x.2)])) (c := (fun y => sg_Wt p l e R s m args below meth c Q P shC 332 A 3 36 σ [(1, .int y)])) (fun x st hb9 hk9 => ?_) N ((0, 1)) res e9 (sg_k2_mono k9 (fun r h => ?_) (fun y3 h => ?_))) I (lv_sub hl [2, 1, 0] rfl)
  · intro H locs ls I hl
    exact b_X5_middle_L4 X I hl hb9 hk9
  · obtain rfl := Option.some.inj h
    exact hk
  · intro H locs ls I hl
    refine lv_iload_n hx hb dX5_middle_36 rfl (lv_at hl 0 rfl) ?_
    obtain rfl := Option.some.inj h
    exact hk _ _ _ _ _ I ⟨_, rfl, rfl⟩ dX5_middle_37
set_option maxHeartbeats 4000000 in
set_option maxRecDepth 100000 in
theorem c_X5_middle {l : Launch} {P : sgP} {N : Nat} {σ : sgS} {q : Int32} (h : f_X5_middle N σ = some q) : sg_Mi P shC 332 l yX5_middle cX5_middle 3 (some .int) 3 [.ref (sgA P 302)] σ (q, σ) := by
  refine sg_mki (plainFor_of_name (by decide +kernel)) (Nat.le_of_ble_eq_true rfl) ?_
  intro p e R s m args below meth c Q A ls H locs X I hl hk
  exact b_X5_middle X I hl h hk
def f_X5_bridges_L4 (N : Nat) (x1 : Int32) (x2 : Int32) (σ : sgS) : Option ((Int32) ⊕ ((Int32 × Int32) ⊕ (Int32))) :=
  if (σ.1 3 4) ≤ x2 then
  (some (.inr (.inr x1)))
else
  (if ((σ.1 302 5) &&& (1 <<< (x2 &&& 31))) = 0 then
    (some (.inr (.inl (x1, x2 + 1))))
  else
    (sg_ld σ 5 12 x2 fun v1 =>
    sg_ld σ 6 12 x2 fun v2 =>
    sg_cr (f_X5_meets N v1 v2 ((σ.1 302 5) &&& (((σ.1 302 5) &&& (1 <<< (x2 &&& 31))) ^^^ ((-1)))) σ) fun v3 =>
    if v3 = 0 then
      (some (.inr (.inl (x1 ||| ((σ.1 302 5) &&& (1 <<< (x2 &&& 31))), x2 + 1))))
    else
      (some (.inr (.inl (x1, x2 + 1))))))
set_option maxHeartbeats 4000000 in
set_option maxRecDepth 100000 in
theorem b_X5_bridges_L4 {p : Program} {l : Launch} {e : Env} {R : Room} {s : State} {m : MethodId} {args : Array Value} {below : List Frame} {meth : Method} {c : Code} {Q : State → Prop} {P : sgP} {A : Nat → Prop} {N : Nat} {x1 : Int32} {x2 : Int32} {σ : sgS} (X : sg_C P A 3 p R s m args c cX5_bridges 4 RX5) {H : Heap} {locs : List Loc} (I : sg_I P shC 332 A s.heap σ H locs) {ls : Array Slot} (hl : lv_has ls 4 [(0, .ref (sgA P 302)), (1, .int x1), (2, .int x2)]) {st : (Int32) ⊕ ((Int32 × Int32) ⊕ (Int32))} (h : f_X5_bridges_L4 N x1 x2 σ = some st) (hk : sg_k3 (fun r => sg_Ri p l e R s m args below meth c Q P shC 332 A cX5_bridges (some .int) (r, σ)) (fun x => sg_Wt p l e R s m args below meth c Q P shC 332 A 4 4 σ [(0, .ref (sgA P 302)), (1, .int x.1), (2, .int x.2)]) (fun y => sg_Wt p l e R s m args below meth c Q P shC 332 A 4 71 σ [(1, .int y)]) st) : W p l e R s m args below meth c H locs 0 0 Q (F0 m 4 ls []) := by
  unfold f_X5_bridges_L4 at h
  have hx := X.1.1
  have hb := X.1.2.1
  have hown := X.1.2.2.2.1
  have hts := X.1.2.2.2.2
  refine lv_iload_n hx hb dX5_bridges_4 rfl (lv_at hl 2 rfl) ?_
  refine lv_aload_n hx hb dX5_bridges_5 rfl (lv_at hl 0 rfl) ?_
  refine sg_getr X I fk_X5_23 (j := 3) (by decide) shC_302 rfl dX5_bridges_6 ?_
  refine sg_getiN X I fn_X5_87 (by decide) shC_3 rfl dX5_bridges_9 ?_
  refine lv_icmp_ge (tgt := 71) hx hb dX5_bridges_12 (by decide) (fun z => ?_) (fun z => ?_)
  · have h := sg_ift h z
    obtain rfl := Option.some.inj h
    exact sg_go hk I (lv_sub hl [1] rfl)
  · have h := sg_iff h z
    refine lv_aload_n hx hb dX5_bridges_15 rfl (lv_at hl 0 rfl) ?_
    refine sg_geti X I fk_X5_49 (by decide) shC_302 rfl dX5_bridges_16 ?_
    refine lv_iconst (v := 1) hx hb dX5_bridges_19 (by decide) ?_
    refine lv_iload_n hx hb dX5_bridges_20 rfl (lv_at hl 2 rfl) ?_
    refine lv_ishl hx hb dX5_bridges_21 ?_
    refine lv_iand hx hb dX5_bridges_22 ?_
    refine lv_istore_n (lv' := [(3, .int ((σ.1 302 5) &&& (1 <<< (x2 &&& 31)))), (0, .ref (sgA P 302)), (1, .int x1), (2, .int x2)]) hx hb dX5_bridges_23 rfl hl (by decide) rfl (fun ls hl => ?_)
    refine lv_iload_n hx hb dX5_bridges_24 rfl (lv_at hl 0 rfl) ?_
    refine lv_if_eq (tgt := 65) hx hb dX5_bridges_25 (by decide) (fun z => ?_) (fun z => ?_)
    · have h := sg_ift h z
      refine lv_iinc (v := x2 + 1) (lv' := [(2, .int (x2 + 1)), (3, .int ((σ.1 302 5) &&& (1 <<< (x2 &&& 31)))), (0, .ref (sgA P 302)), (1, .int x1)]) hx hb dX5_bridges_65 hl (k := 3) rfl rfl (by decide) rfl (fun ls hl => ?_)
      refine lv_goto (tgt := 4) hx hb dX5_bridges_68 (by decide) ?_
      obtain rfl := Option.some.inj h
      exact sg_go hk I (lv_sub hl [2, 3, 0] rfl)
    · have h := sg_iff h z
      refine lv_aload_n hx hb dX5_bridges_28 rfl (lv_at hl 1 rfl) ?_
      refine lv_aload_n hx hb dX5_bridges_29 rfl (lv_at hl 1 rfl) ?_
      refine sg_getr X I fk_X5_23 (j := 3) (by decide) shC_302 rfl dX5_bridges_30 ?_
      refine sg_getrN X I fn_X5_90 (j := 5) (by decide) shC_3 rfl dX5_bridges_33 ?_
      refine lv_iload_n hx hb dX5_bridges_36 rfl (lv_at hl 3 rfl) ?_
      refine sg_iald X I (by decide) shC_5 h dX5_bridges_37 (fun v1 h => ?_)
      refine lv_aload_n hx hb dX5_bridges_38 rfl (lv_at hl 1 rfl) ?_
      refine sg_getr X I fk_X5_23 (j := 3) (by decide) shC_302 rfl dX5_bridges_39 ?_
      refine sg_getrN X I fn_X5_93 (j := 6) (by decide) shC_3 rfl dX5_bridges_42 ?_
      refine lv_iload_n hx hb dX5_bridges_45 rfl (lv_at hl 3 rfl) ?_
      refine sg_iald X I (by decide) shC_6 h dX5_bridges_46 (fun v2 h => ?_)
      refine lv_aload_n hx hb dX5_bridges_47 rfl (lv_at hl 1 rfl) ?_
      refine sg_geti X I fk_X5_49 (by decide) shC_302 rfl dX5_bridges_48 ?_
      refine lv_iload_n hx hb dX5_bridges_51 rfl (lv_at hl 0 rfl) ?_
      refine lv_iconst (v := -1) hx hb dX5_bridges_52 (by decide) ?_
      refine lv_ixor hx hb dX5_bridges_53 ?_
      refine lv_iand hx hb dX5_bridges_54 ?_
      refine sg_callVr (As := [.int v1, .int v2, .int ((σ.1 302 5) &&& (((σ.1 302 5) &&& (1 <<< (x2 &&& 31))) ^^^ ((-1))))]) X I mk_X5_105 (by decide) (by decide) shC_302 rfl (fun q9 e9 => c_X5_meets e9) h hl.1 rfl rfl (Nat.le_of_ble_eq_true rfl) dX5_bridges_55 (fun v3 H locs h I => ?_)
      refine lv_if_ne (tgt := 65) hx hb dX5_bridges_58 (by decide) (fun z => ?_) (fun z => ?_)
      · have h := sg_iff h z
        refine lv_iinc (v := x2 + 1) (lv' := [(2, .int (x2 + 1)), (3, .int ((σ.1 302 5) &&& (1 <<< (x2 &&& 31)))), (0, .ref (sgA P 302)), (1, .int x1)]) hx hb dX5_bridges_65 hl (k := 3) rfl rfl (by decide) rfl (fun ls hl => ?_)
        refine lv_goto (tgt := 4) hx hb dX5_bridges_68 (by decide) ?_
        obtain rfl := Option.some.inj h
        exact sg_go hk I (lv_sub hl [2, 3, 0] rfl)
      · have h := sg_ift h z
        refine lv_iload_n hx hb dX5_bridges_61 rfl (lv_at hl 2 rfl) ?_
        refine lv_iload_n hx hb dX5_bridges_62 rfl (lv_at hl 0 rfl) ?_
        refine lv_ior hx hb dX5_bridges_63 ?_
        refine lv_istore_n (lv' := [(1, .int (x1 ||| ((σ.1 302 5) &&& (1 <<< (x2 &&& 31))))), (3, .int ((σ.1 302 5) &&& (1 <<< (x2 &&& 31)))), (0, .ref (sgA P 302)), (2, .int x2)]) hx hb dX5_bridges_64 rfl hl (by decide) rfl (fun ls hl => ?_)
        refine lv_iinc (v := x2 + 1) (lv' := [(2, .int (x2 + 1)), (1, .int (x1 ||| ((σ.1 302 5) &&& (1 <<< (x2 &&& 31))))), (3, .int ((σ.1 302 5) &&& (1 <<< (x2 &&& 31)))), (0, .ref (sgA P 302))]) hx hb dX5_bridges_65 hl (k := 3) rfl rfl (by decide) rfl (fun ls hl => ?_)
        refine lv_goto (tgt := 4) hx hb dX5_bridges_68 (by decide) ?_
        obtain rfl := Option.some.inj h
        exact sg_go hk I (lv_sub hl [3, 1, 0] rfl)
def f_X5_bridges (N : Nat) (σ : sgS) : Option (Int32) :=
  sg_lb (sg_lp (fun x => f_X5_bridges_L4 N x.1 x.2 σ) N ((0, 0))) (fun r => some r) fun y4 =>
some y4
set_option maxHeartbeats 4000000 in
set_option maxRecDepth 100000 in
theorem b_X5_bridges {p : Program} {l : Launch} {e : Env} {R : Room} {s : State} {m : MethodId} {args : Array Value} {below : List Frame} {meth : Method} {c : Code} {Q : State → Prop} {P : sgP} {A : Nat → Prop} {N : Nat} {σ : sgS} (X : sg_C P A 3 p R s m args c cX5_bridges 4 RX5) {H : Heap} {locs : List Loc} (I : sg_I P shC 332 A s.heap σ H locs) {ls : Array Slot} (hl : lv_has ls 4 [(0, .ref (sgA P 302))]) {st : Int32} (h : f_X5_bridges N σ = some st) (hk : sg_Ri p l e R s m args below meth c Q P shC 332 A cX5_bridges (some .int) (st, σ)) : W p l e R s m args below meth c H locs 0 0 Q (F0 m 0 ls []) := by
  unfold f_X5_bridges at h
  have hx := X.1.1
  have hb := X.1.2.1
  have hown := X.1.2.2.2.1
  have hts := X.1.2.2.2.2
  refine lv_iconst (v := 0) hx hb dX5_bridges_0 (by decide) ?_
  refine lv_istore_n (lv' := [(1, .int 0), (0, .ref (sgA P 302))]) hx hb dX5_bridges_1 rfl hl (by decide) rfl (fun ls hl => ?_)
  refine lv_iconst (v := 0) hx hb dX5_bridges_2 (by decide) ?_
  refine lv_istore_n (lv' := [(2, .int 0), (1, .int 0), (0, .ref (sgA P 302))]) hx hb dX5_bridges_3 rfl hl (by decide) rfl (fun ls hl => ?_)
  obtain ⟨res, e9, k9⟩ := sg_lb_some h
  refine sg_go (sg_lp_W (a := (fun r => sg_Ri p l e R s m args below meth c Q P shC 332 A cX5_bridges (some .int) (r, σ))) (w := (fun x => sg_Wt p l e R s m args below meth c Q P shC 332 A 4 4 σ [(0, .ref (sgA P 302)), (1, .int x.1), (2, .int x.2)])) (c := (fun y => sg_Wt p l e R s m args below meth c Q P shC 332 A 4 71 σ [(1, .int y)])) (fun x st hb9 hk9 => ?_) N ((0, 0)) res e9 (sg_k2_mono k9 (fun r h => ?_) (fun y4 h => ?_))) I (lv_sub hl [2, 1, 0] rfl)
  · intro H locs ls I hl
    exact b_X5_bridges_L4 X I hl hb9 hk9
  · obtain rfl := Option.some.inj h
    exact hk
  · intro H locs ls I hl
    refine lv_iload_n hx hb dX5_bridges_71 rfl (lv_at hl 0 rfl) ?_
    obtain rfl := Option.some.inj h
    exact hk _ _ _ _ _ I ⟨_, rfl, rfl⟩ dX5_bridges_72
set_option maxHeartbeats 4000000 in
set_option maxRecDepth 100000 in
theorem c_X5_bridges {l : Launch} {P : sgP} {N : Nat} {σ : sgS} {q : Int32} (h : f_X5_bridges N σ = some q) : sg_Mi P shC 332 l yX5_bridges cX5_bridges 4 (some .int) 3 [.ref (sgA P 302)] σ (q, σ) := by
  refine sg_mki (plainFor_of_name (by decide +kernel)) (Nat.le_of_ble_eq_true rfl) ?_
  intro p e R s m args below meth c Q A ls H locs X I hl hk
  exact b_X5_bridges X I hl h hk
def f_X5_openHours_L4 (N : Nat) (x1 : Int32) (x2 : Int32) (σ : sgS) : Option ((Int32) ⊕ ((Int32 × Int32) ⊕ (Int32))) :=
  if (σ.1 3 4) ≤ x2 then
  (some (.inr (.inr x1)))
else
  (if (((σ.1 302 5) >>> (x2 &&& 31)) &&& 1) = 0 then
    (some (.inr (.inl (x1, x2 + 1))))
  else
    (sg_ld σ 51 12 x2 fun v1 =>
    some (.inr (.inl (x1 + v1, x2 + 1)))))
set_option maxHeartbeats 4000000 in
set_option maxRecDepth 100000 in
theorem b_X5_openHours_L4 {p : Program} {l : Launch} {e : Env} {R : Room} {s : State} {m : MethodId} {args : Array Value} {below : List Frame} {meth : Method} {c : Code} {Q : State → Prop} {P : sgP} {A : Nat → Prop} {N : Nat} {x1 : Int32} {x2 : Int32} {σ : sgS} (X : sg_C P A 1 p R s m args c cX5_openHours 3 RX5) {H : Heap} {locs : List Loc} (I : sg_I P shC 332 A s.heap σ H locs) {ls : Array Slot} (hl : lv_has ls 3 [(0, .ref (sgA P 302)), (1, .int x1), (2, .int x2)]) {st : (Int32) ⊕ ((Int32 × Int32) ⊕ (Int32))} (h : f_X5_openHours_L4 N x1 x2 σ = some st) (hk : sg_k3 (fun r => sg_Ri p l e R s m args below meth c Q P shC 332 A cX5_openHours (some .int) (r, σ)) (fun x => sg_Wt p l e R s m args below meth c Q P shC 332 A 3 4 σ [(0, .ref (sgA P 302)), (1, .int x.1), (2, .int x.2)]) (fun y => sg_Wt p l e R s m args below meth c Q P shC 332 A 3 44 σ [(1, .int y)]) st) : W p l e R s m args below meth c H locs 0 0 Q (F0 m 4 ls []) := by
  unfold f_X5_openHours_L4 at h
  have hx := X.1.1
  have hb := X.1.2.1
  have hown := X.1.2.2.2.1
  have hts := X.1.2.2.2.2
  refine lv_iload_n hx hb dX5_openHours_4 rfl (lv_at hl 2 rfl) ?_
  refine lv_aload_n hx hb dX5_openHours_5 rfl (lv_at hl 0 rfl) ?_
  refine sg_getr X I fk_X5_23 (j := 3) (by decide) shC_302 rfl dX5_openHours_6 ?_
  refine sg_getiN X I fn_X5_87 (by decide) shC_3 rfl dX5_openHours_9 ?_
  refine lv_icmp_ge (tgt := 44) hx hb dX5_openHours_12 (by decide) (fun z => ?_) (fun z => ?_)
  · have h := sg_ift h z
    obtain rfl := Option.some.inj h
    exact sg_go hk I (lv_sub hl [1] rfl)
  · have h := sg_iff h z
    refine lv_aload_n hx hb dX5_openHours_15 rfl (lv_at hl 0 rfl) ?_
    refine sg_geti X I fk_X5_49 (by decide) shC_302 rfl dX5_openHours_16 ?_
    refine lv_iload_n hx hb dX5_openHours_19 rfl (lv_at hl 2 rfl) ?_
    refine lv_ishr hx hb dX5_openHours_20 ?_
    refine lv_iconst (v := 1) hx hb dX5_openHours_21 (by decide) ?_
    refine lv_iand hx hb dX5_openHours_22 ?_
    refine lv_if_eq (tgt := 38) hx hb dX5_openHours_23 (by decide) (fun z => ?_) (fun z => ?_)
    · have h := sg_ift h z
      refine lv_iinc (v := x2 + 1) (lv' := [(2, .int (x2 + 1)), (0, .ref (sgA P 302)), (1, .int x1)]) hx hb dX5_openHours_38 hl (k := 2) rfl rfl (by decide) rfl (fun ls hl => ?_)
      refine lv_goto (tgt := 4) hx hb dX5_openHours_41 (by decide) ?_
      obtain rfl := Option.some.inj h
      exact sg_go hk I (lv_sub hl [1, 2, 0] rfl)
    · have h := sg_iff h z
      refine lv_iload_n hx hb dX5_openHours_26 rfl (lv_at hl 1 rfl) ?_
      refine lv_aload_n hx hb dX5_openHours_27 rfl (lv_at hl 0 rfl) ?_
      refine sg_getr X I fk_X5_27 (j := 49) (by decide) shC_302 rfl dX5_openHours_28 ?_
      refine sg_getrN X I fn_X5_60 (j := 51) (by decide) shC_49 rfl dX5_openHours_31 ?_
      refine lv_iload_n hx hb dX5_openHours_34 rfl (lv_at hl 2 rfl) ?_
      refine sg_iald X I (by decide) shC_51 h dX5_openHours_35 (fun v1 h => ?_)
      refine lv_iadd hx hb dX5_openHours_36 ?_
      refine lv_istore_n (lv' := [(1, .int (x1 + v1)), (0, .ref (sgA P 302)), (2, .int x2)]) hx hb dX5_openHours_37 rfl hl (by decide) rfl (fun ls hl => ?_)
      refine lv_iinc (v := x2 + 1) (lv' := [(2, .int (x2 + 1)), (1, .int (x1 + v1)), (0, .ref (sgA P 302))]) hx hb dX5_openHours_38 hl (k := 2) rfl rfl (by decide) rfl (fun ls hl => ?_)
      refine lv_goto (tgt := 4) hx hb dX5_openHours_41 (by decide) ?_
      obtain rfl := Option.some.inj h
      exact sg_go hk I (lv_sub hl [2, 1, 0] rfl)
def f_X5_openHours (N : Nat) (σ : sgS) : Option (Int32) :=
  sg_lb (sg_lp (fun x => f_X5_openHours_L4 N x.1 x.2 σ) N ((0, 0))) (fun r => some r) fun y2 =>
some y2
set_option maxHeartbeats 4000000 in
set_option maxRecDepth 100000 in
theorem b_X5_openHours {p : Program} {l : Launch} {e : Env} {R : Room} {s : State} {m : MethodId} {args : Array Value} {below : List Frame} {meth : Method} {c : Code} {Q : State → Prop} {P : sgP} {A : Nat → Prop} {N : Nat} {σ : sgS} (X : sg_C P A 1 p R s m args c cX5_openHours 3 RX5) {H : Heap} {locs : List Loc} (I : sg_I P shC 332 A s.heap σ H locs) {ls : Array Slot} (hl : lv_has ls 3 [(0, .ref (sgA P 302))]) {st : Int32} (h : f_X5_openHours N σ = some st) (hk : sg_Ri p l e R s m args below meth c Q P shC 332 A cX5_openHours (some .int) (st, σ)) : W p l e R s m args below meth c H locs 0 0 Q (F0 m 0 ls []) := by
  unfold f_X5_openHours at h
  have hx := X.1.1
  have hb := X.1.2.1
  have hown := X.1.2.2.2.1
  have hts := X.1.2.2.2.2
  refine lv_iconst (v := 0) hx hb dX5_openHours_0 (by decide) ?_
  refine lv_istore_n (lv' := [(1, .int 0), (0, .ref (sgA P 302))]) hx hb dX5_openHours_1 rfl hl (by decide) rfl (fun ls hl => ?_)
  refine lv_iconst (v := 0) hx hb dX5_openHours_2 (by decide) ?_
  refine lv_istore_n (lv' := [(2, .int 0), (1, .int 0), (0, .ref (sgA P 302))]) hx hb dX5_openHours_3 rfl hl (by decide) rfl (fun ls hl => ?_)
  obtain ⟨res, e9, k9⟩ := sg_lb_some h
  refine sg_go (sg_lp_W (a := (fun r => sg_Ri p l e R s m args below meth c Q P shC 332 A cX5_openHours (some .int) (r, σ))) (w := (fun x => sg_Wt p l e R s m args below meth c Q P shC 332 A 3 4 σ [(0, .ref (sgA P 302)), (1, .int x.1), (2, .int x.2)])) (c := (fun y => sg_Wt p l e R s m args below meth c Q P shC 332 A 3 44 σ [(1, .int y)])) (fun x st hb9 hk9 => ?_) N ((0, 0)) res e9 (sg_k2_mono k9 (fun r h => ?_) (fun y2 h => ?_))) I (lv_sub hl [2, 1, 0] rfl)
  · intro H locs ls I hl
    exact b_X5_openHours_L4 X I hl hb9 hk9
  · obtain rfl := Option.some.inj h
    exact hk
  · intro H locs ls I hl
    refine lv_iload_n hx hb dX5_openHours_44 rfl (lv_at hl 0 rfl) ?_
    obtain rfl := Option.some.inj h
    exact hk _ _ _ _ _ I ⟨_, rfl, rfl⟩ dX5_openHours_45
set_option maxHeartbeats 4000000 in
set_option maxRecDepth 100000 in
theorem c_X5_openHours {l : Launch} {P : sgP} {N : Nat} {σ : sgS} {q : Int32} (h : f_X5_openHours N σ = some q) : sg_Mi P shC 332 l yX5_openHours cX5_openHours 3 (some .int) 1 [.ref (sgA P 302)] σ (q, σ) := by
  refine sg_mki (plainFor_of_name (by decide +kernel)) (Nat.le_of_ble_eq_true rfl) ?_
  intro p e R s m args below meth c Q A ls H locs X I hl hk
  exact b_X5_openHours X I hl h hk
def f_X5_parts_L6 (N : Nat) (x1 : Int32) (x2 : Int32) (x3 : Int32) (σ : sgS) : Option ((Int32) ⊕ ((Int32 × Int32 × Int32) ⊕ (Int32))) :=
  if (σ.1 3 3) ≤ x3 then
  (some (.inr (.inr x1)))
else
  (if ((x2 >>> (x3 &&& 31)) &&& 1) = 0 then
    (sg_cr (f_X5_reachedFrom N x3 (σ.1 302 5) σ) fun v1 =>
    some (.inr (.inl (x1 + 1, x2 ||| v1, x3 + 1))))
  else
    (some (.inr (.inl (x1, x2, x3 + 1)))))
set_option maxHeartbeats 4000000 in
set_option maxRecDepth 100000 in
theorem b_X5_parts_L6 {p : Program} {l : Launch} {e : Env} {R : Room} {s : State} {m : MethodId} {args : Array Value} {below : List Frame} {meth : Method} {c : Code} {Q : State → Prop} {P : sgP} {A : Nat → Prop} {N : Nat} {x1 : Int32} {x2 : Int32} {x3 : Int32} {σ : sgS} (X : sg_C P A 2 p R s m args c cX5_parts 4 RX5) {H : Heap} {locs : List Loc} (I : sg_I P shC 332 A s.heap σ H locs) {ls : Array Slot} (hl : lv_has ls 4 [(0, .ref (sgA P 302)), (1, .int x1), (2, .int x2), (3, .int x3)]) {st : (Int32) ⊕ ((Int32 × Int32 × Int32) ⊕ (Int32))} (h : f_X5_parts_L6 N x1 x2 x3 σ = some st) (hk : sg_k3 (fun r => sg_Ri p l e R s m args below meth c Q P shC 332 A cX5_parts (some .int) (r, σ)) (fun x => sg_Wt p l e R s m args below meth c Q P shC 332 A 4 6 σ [(0, .ref (sgA P 302)), (1, .int x.1), (2, .int x.2.1), (3, .int x.2.2)]) (fun y => sg_Wt p l e R s m args below meth c Q P shC 332 A 4 46 σ [(1, .int y)]) st) : W p l e R s m args below meth c H locs 0 0 Q (F0 m 6 ls []) := by
  unfold f_X5_parts_L6 at h
  have hx := X.1.1
  have hb := X.1.2.1
  have hown := X.1.2.2.2.1
  have hts := X.1.2.2.2.2
  refine lv_iload_n hx hb dX5_parts_6 rfl (lv_at hl 3 rfl) ?_
  refine lv_aload_n hx hb dX5_parts_7 rfl (lv_at hl 0 rfl) ?_
  refine sg_getr X I fk_X5_23 (j := 3) (by decide) shC_302 rfl dX5_parts_8 ?_
  refine sg_getiN X I fn_X5_52 (by decide) shC_3 rfl dX5_parts_11 ?_
  refine lv_icmp_ge (tgt := 46) hx hb dX5_parts_14 (by decide) (fun z => ?_) (fun z => ?_)
  · have h := sg_ift h z
    obtain rfl := Option.some.inj h
    exact sg_go hk I (lv_sub hl [1] rfl)
  · have h := sg_iff h z
    refine lv_iload_n hx hb dX5_parts_17 rfl (lv_at hl 2 rfl) ?_
    refine lv_iload_n hx hb dX5_parts_18 rfl (lv_at hl 3 rfl) ?_
    refine lv_ishr hx hb dX5_parts_19 ?_
    refine lv_iconst (v := 1) hx hb dX5_parts_20 (by decide) ?_
    refine lv_iand hx hb dX5_parts_21 ?_
    refine lv_if_ne (tgt := 40) hx hb dX5_parts_22 (by decide) (fun z => ?_) (fun z => ?_)
    · have h := sg_iff h z
      refine lv_iinc (v := x3 + 1) (lv' := [(3, .int (x3 + 1)), (0, .ref (sgA P 302)), (1, .int x1), (2, .int x2)]) hx hb dX5_parts_40 hl (k := 3) rfl rfl (by decide) rfl (fun ls hl => ?_)
      refine lv_goto (tgt := 6) hx hb dX5_parts_43 (by decide) ?_
      obtain rfl := Option.some.inj h
      exact sg_go hk I (lv_sub hl [1, 2, 3, 0] rfl)
    · have h := sg_ift h z
      refine lv_iinc (v := x1 + 1) (lv' := [(1, .int (x1 + 1)), (0, .ref (sgA P 302)), (2, .int x2), (3, .int x3)]) hx hb dX5_parts_25 hl (k := 1) rfl rfl (by decide) rfl (fun ls hl => ?_)
      refine lv_iload_n hx hb dX5_parts_28 rfl (lv_at hl 2 rfl) ?_
      refine lv_aload_n hx hb dX5_parts_29 rfl (lv_at hl 1 rfl) ?_
      refine lv_iload_n hx hb dX5_parts_30 rfl (lv_at hl 3 rfl) ?_
      refine lv_aload_n hx hb dX5_parts_31 rfl (lv_at hl 1 rfl) ?_
      refine sg_geti X I fk_X5_49 (by decide) shC_302 rfl dX5_parts_32 ?_
      refine sg_callVr (As := [.int x3, .int (σ.1 302 5)]) X I mk_X5_96 (by decide) (by decide) shC_302 rfl (fun q9 e9 => c_X5_reachedFrom e9) h hl.1 rfl rfl (Nat.le_of_ble_eq_true rfl) dX5_parts_35 (fun v1 H locs h I => ?_)
      refine lv_ior hx hb dX5_parts_38 ?_
      refine lv_istore_n (lv' := [(2, .int (x2 ||| v1)), (1, .int (x1 + 1)), (0, .ref (sgA P 302)), (3, .int x3)]) hx hb dX5_parts_39 rfl hl (by decide) rfl (fun ls hl => ?_)
      refine lv_iinc (v := x3 + 1) (lv' := [(3, .int (x3 + 1)), (2, .int (x2 ||| v1)), (1, .int (x1 + 1)), (0, .ref (sgA P 302))]) hx hb dX5_parts_40 hl (k := 3) rfl rfl (by decide) rfl (fun ls hl => ?_)
      refine lv_goto (tgt := 6) hx hb dX5_parts_43 (by decide) ?_
      obtain rfl := Option.some.inj h
      exact sg_go hk I (lv_sub hl [3, 2, 1, 0] rfl)
def f_X5_parts (N : Nat) (σ : sgS) : Option (Int32) :=
  sg_lb (sg_lp (fun x => f_X5_parts_L6 N x.1 x.2.1 x.2.2 σ) N ((0, 0, 0))) (fun r => some r) fun y2 =>
some y2
set_option maxHeartbeats 4000000 in
set_option maxRecDepth 100000 in
theorem b_X5_parts {p : Program} {l : Launch} {e : Env} {R : Room} {s : State} {m : MethodId} {args : Array Value} {below : List Frame} {meth : Method} {c : Code} {Q : State → Prop} {P : sgP} {A : Nat → Prop} {N : Nat} {σ : sgS} (X : sg_C P A 2 p R s m args c cX5_parts 4 RX5) {H : Heap} {locs : List Loc} (I : sg_I P shC 332 A s.heap σ H locs) {ls : Array Slot} (hl : lv_has ls 4 [(0, .ref (sgA P 302))]) {st : Int32} (h : f_X5_parts N σ = some st) (hk : sg_Ri p l e R s m args below meth c Q P shC 332 A cX5_parts (some .int) (st, σ)) : W p l e R s m args below meth c H locs 0 0 Q (F0 m 0 ls []) := by
  unfold f_X5_parts at h
  have hx := X.1.1
  have hb := X.1.2.1
  have hown := X.1.2.2.2.1
  have hts := X.1.2.2.2.2
  refine lv_iconst (v := 0) hx hb dX5_parts_0 (by decide) ?_
  refine lv_istore_n (lv' := [(1, .int 0), (0, .ref (sgA P 302))]) hx hb dX5_parts_1 rfl hl (by decide) rfl (fun ls hl => ?_)
  refine lv_iconst (v := 0) hx hb dX5_parts_2 (by decide) ?_
  refine lv_istore_n (lv' := [(2, .int 0), (1, .int 0), (0, .ref (sgA P 302))]) hx hb dX5_parts_3 rfl hl (by decide) rfl (fun ls hl => ?_)
  refine lv_iconst (v := 0) hx hb dX5_parts_4 (by decide) ?_
  refine lv_istore_n (lv' := [(3, .int 0), (2, .int 0), (1, .int 0), (0, .ref (sgA P 302))]) hx hb dX5_parts_5 rfl hl (by decide) rfl (fun ls hl => ?_)
  obtain ⟨res, e9, k9⟩ := sg_lb_some h
  refine sg_go (sg_lp_W (a := (fun r => sg_Ri p l e R s m args below meth c Q P shC 332 A cX5_parts (some .int) (r, σ))) (w := (fun x => sg_Wt p l e R s m args below meth c Q P shC 332 A 4 6 σ [(0, .ref (sgA P 302)), (1, .int x.1), (2, .int x.2.1), (3, .int x.2.2)])) (c := (fun y => sg_Wt p l e R s m args below meth c Q P shC 332 A 4 46 σ [(1, .int y)])) (fun x st hb9 hk9 => ?_) N ((0, 0, 0)) res e9 (sg_k2_mono k9 (fun r h => ?_) (fun y2 h => ?_))) I (lv_sub hl [3, 2, 1, 0] rfl)
  · intro H locs ls I hl
    exact b_X5_parts_L6 X I hl hb9 hk9
  · obtain rfl := Option.some.inj h
    exact hk
  · intro H locs ls I hl
    refine lv_iload_n hx hb dX5_parts_46 rfl (lv_at hl 0 rfl) ?_
    obtain rfl := Option.some.inj h
    exact hk _ _ _ _ _ I ⟨_, rfl, rfl⟩ dX5_parts_47
set_option maxHeartbeats 4000000 in
set_option maxRecDepth 100000 in
theorem c_X5_parts {l : Launch} {P : sgP} {N : Nat} {σ : sgS} {q : Int32} (h : f_X5_parts N σ = some q) : sg_Mi P shC 332 l yX5_parts cX5_parts 4 (some .int) 2 [.ref (sgA P 302)] σ (q, σ) := by
  refine sg_mki (plainFor_of_name (by decide +kernel)) (Nat.le_of_ble_eq_true rfl) ?_
  intro p e R s m args below meth c Q A ls H locs X I hl hk
  exact b_X5_parts X I hl h hk
def f_X6_forget (N : Nat) (σ : sgS) : Option (Int32 × sgS) :=
  sg_pf σ 52 1 0 fun s1 =>
sg_pf s1 52 6 0 fun s2 =>
some (0, s2)
set_option maxHeartbeats 4000000 in
set_option maxRecDepth 100000 in
theorem b_X6_forget {p : Program} {l : Launch} {e : Env} {R : Room} {s : State} {m : MethodId} {args : Array Value} {below : List Frame} {meth : Method} {c : Code} {Q : State → Prop} {P : sgP} {A : Nat → Prop} {N : Nat} {σ : sgS} (X : sg_C P A 1 p R s m args c cX6_forget 1 RX6) {H : Heap} {locs : List Loc} (I : sg_I P shC 332 A s.heap σ H locs) {ls : Array Slot} (hl : lv_has ls 1 [(0, .ref (sgA P 52))]) {st : Int32 × sgS} (h : f_X6_forget N σ = some st) (hk : sg_Rv p l e R s m args below meth c Q P shC 332 A cX6_forget st) : W p l e R s m args below meth c H locs 0 0 Q (F0 m 0 ls []) := by
  unfold f_X6_forget at h
  have hx := X.1.1
  have hb := X.1.2.1
  have hown := X.1.2.2.2.1
  have hts := X.1.2.2.2.2
  refine lv_aload_n hx hb dX6_forget_0 rfl (lv_at hl 0 rfl) ?_
  refine lv_iconst (v := 0) hx hb dX6_forget_1 (by decide) ?_
  refine sg_puti X I fk_X6_29 wk_6_1 rfl rfl (by decide) shC_52 rfl h dX6_forget_2 (fun s1 H locs h I => ?_)
  refine lv_aload_n hx hb dX6_forget_5 rfl (lv_at hl 0 rfl) ?_
  refine lv_iconst (v := 0) hx hb dX6_forget_6 (by decide) ?_
  refine sg_puti X I fk_X6_33 wk_6_6 (by decide) (by decide) (by decide) shC_52 rfl h dX6_forget_7 (fun s2 H locs h I => ?_)
  obtain rfl := Option.some.inj h
  exact hk _ _ _ _ I dX6_forget_10
set_option maxHeartbeats 4000000 in
set_option maxRecDepth 100000 in
theorem c_X6_forget {l : Launch} {P : sgP} {N : Nat} {σ : sgS} {q : Int32 × sgS} (h : f_X6_forget N σ = some q) : sg_Mv P shC 332 l yX6_forget cX6_forget 1 none 1 [.ref (sgA P 52)] σ q := by
  refine sg_mkv (plainFor_of_name (by decide +kernel)) (Nat.le_of_ble_eq_true rfl) ?_
  intro p e R s m args below meth c Q A ls H locs X I hl hk
  exact b_X6_forget X I hl h hk
def f_X8_copyFrom (N : Nat) (o : Nat) (p1 : Nat) (σ : sgS) : Option (Int32 × sgS) :=
  sg_cp σ (p1 + 1) 4 (o + 1) 4 0 0 4 fun s1 =>
sg_cp s1 (p1 + 2) 4 (o + 2) 4 0 0 4 fun s2 =>
sg_cp s2 (p1 + 3) 4 (o + 3) 4 0 0 4 fun s3 =>
sg_cp s3 (p1 + 4) 12 (o + 4) 12 0 0 12 fun s4 =>
sg_cp s4 (p1 + 5) 7 (o + 5) 7 0 0 7 fun s5 =>
sg_pf s5 o 5 (s5.1 p1 5) fun s6 =>
sg_pf s6 o 6 (s6.1 p1 6) fun s7 =>
sg_pf s7 o 7 (s7.1 p1 7) fun s8 =>
some (0, s8)
set_option maxHeartbeats 4000000 in
set_option maxRecDepth 100000 in
theorem b_X8_copyFrom {p : Program} {l : Launch} {e : Env} {R : Room} {s : State} {m : MethodId} {args : Array Value} {below : List Frame} {meth : Method} {c : Code} {Q : State → Prop} {P : sgP} {A : Nat → Prop} {N : Nat} {o : Nat} {p1 : Nat} {σ : sgS} (X : sg_C P A 2 p R s m args c cX8_copyFrom 2 RX8) (ho : isSt o) (hp1 : isSt p1) {H : Heap} {locs : List Loc} (I : sg_I P shC 332 A s.heap σ H locs) {ls : Array Slot} (hl : lv_has ls 2 [(0, .ref (sgA P o)), (1, .ref (sgA P p1))]) {st : Int32 × sgS} (h : f_X8_copyFrom N o p1 σ = some st) (hk : sg_Rv p l e R s m args below meth c Q P shC 332 A cX8_copyFrom st) : W p l e R s m args below meth c H locs 0 0 Q (F0 m 0 ls []) := by
  unfold f_X8_copyFrom at h
  have hx := X.1.1
  have hb := X.1.2.1
  have hown := X.1.2.2.2.1
  have hts := X.1.2.2.2.2
  refine lv_aload_n hx hb dX8_copyFrom_0 rfl (lv_at hl 1 rfl) ?_
  refine sg_getr X I fk_X8_9 (j := p1 + 1) (isSt_i0 hp1) (isSt_s0 hp1) rfl dX8_copyFrom_1 ?_
  refine lv_iconst (v := 0) hx hb dX8_copyFrom_4 (by decide) ?_
  refine lv_aload_n hx hb dX8_copyFrom_5 rfl (lv_at hl 0 rfl) ?_
  refine sg_getr X I fk_X8_9 (j := o + 1) (isSt_i0 ho) (isSt_s0 ho) rfl dX8_copyFrom_6 ?_
  refine lv_iconst (v := 0) hx hb dX8_copyFrom_9 (by decide) ?_
  refine lv_iconst (v := 4) hx hb dX8_copyFrom_10 (by decide) ?_
  refine sg_copy X I hl.1 (by first | decide | omega) qw_875 ⟨qw_622, qw_623, qw_624⟩ (isSt_i1 hp1) (isSt_i1 ho) (isSt_s1 hp1) (isSt_s1 ho) h (Nat.le_of_ble_eq_true rfl) dX8_copyFrom_11 (fun s1 H locs h I => ?_)
  refine lv_aload_n hx hb dX8_copyFrom_14 rfl (lv_at hl 1 rfl) ?_
  refine sg_getr X I fk_X8_15 (j := p1 + 2) (isSt_i0 hp1) (isSt_s0 hp1) rfl dX8_copyFrom_15 ?_
  refine lv_iconst (v := 0) hx hb dX8_copyFrom_18 (by decide) ?_
  refine lv_aload_n hx hb dX8_copyFrom_19 rfl (lv_at hl 0 rfl) ?_
  refine sg_getr X I fk_X8_15 (j := o + 2) (isSt_i0 ho) (isSt_s0 ho) rfl dX8_copyFrom_20 ?_
  refine lv_iconst (v := 0) hx hb dX8_copyFrom_23 (by decide) ?_
  refine lv_iconst (v := 4) hx hb dX8_copyFrom_24 (by decide) ?_
  refine sg_copy X I hl.1 (by first | decide | omega) qw_875 ⟨qw_622, qw_623, qw_624⟩ (isSt_i2 hp1) (isSt_i2 ho) (isSt_s2 hp1) (isSt_s2 ho) h (Nat.le_of_ble_eq_true rfl) dX8_copyFrom_25 (fun s2 H locs h I => ?_)
  refine lv_aload_n hx hb dX8_copyFrom_28 rfl (lv_at hl 1 rfl) ?_
  refine sg_getr X I fk_X8_18 (j := p1 + 3) (isSt_i0 hp1) (isSt_s0 hp1) rfl dX8_copyFrom_29 ?_
  refine lv_iconst (v := 0) hx hb dX8_copyFrom_32 (by decide) ?_
  refine lv_aload_n hx hb dX8_copyFrom_33 rfl (lv_at hl 0 rfl) ?_
  refine sg_getr X I fk_X8_18 (j := o + 3) (isSt_i0 ho) (isSt_s0 ho) rfl dX8_copyFrom_34 ?_
  refine lv_iconst (v := 0) hx hb dX8_copyFrom_37 (by decide) ?_
  refine lv_iconst (v := 4) hx hb dX8_copyFrom_38 (by decide) ?_
  refine sg_copy X I hl.1 (by first | decide | omega) qw_875 ⟨qw_622, qw_623, qw_624⟩ (isSt_i3 hp1) (isSt_i3 ho) (isSt_s3 hp1) (isSt_s3 ho) h (Nat.le_of_ble_eq_true rfl) dX8_copyFrom_39 (fun s3 H locs h I => ?_)
  refine lv_aload_n hx hb dX8_copyFrom_42 rfl (lv_at hl 1 rfl) ?_
  refine sg_getr X I fk_X8_21 (j := p1 + 4) (isSt_i0 hp1) (isSt_s0 hp1) rfl dX8_copyFrom_43 ?_
  refine lv_iconst (v := 0) hx hb dX8_copyFrom_46 (by decide) ?_
  refine lv_aload_n hx hb dX8_copyFrom_47 rfl (lv_at hl 0 rfl) ?_
  refine sg_getr X I fk_X8_21 (j := o + 4) (isSt_i0 ho) (isSt_s0 ho) rfl dX8_copyFrom_48 ?_
  refine lv_iconst (v := 0) hx hb dX8_copyFrom_51 (by decide) ?_
  refine lv_bipush (v := 12) hx hb dX8_copyFrom_52 (by decide) ?_
  refine sg_copy X I hl.1 (by first | decide | omega) qw_875 ⟨qw_622, qw_623, qw_624⟩ (isSt_i4 hp1) (isSt_i4 ho) (isSt_s4 hp1) (isSt_s4 ho) h (Nat.le_of_ble_eq_true rfl) dX8_copyFrom_54 (fun s4 H locs h I => ?_)
  refine lv_aload_n hx hb dX8_copyFrom_57 rfl (lv_at hl 1 rfl) ?_
  refine sg_getr X I fk_X8_24 (j := p1 + 5) (isSt_i0 hp1) (isSt_s0 hp1) rfl dX8_copyFrom_58 ?_
  refine lv_iconst (v := 0) hx hb dX8_copyFrom_61 (by decide) ?_
  refine lv_aload_n hx hb dX8_copyFrom_62 rfl (lv_at hl 0 rfl) ?_
  refine sg_getr X I fk_X8_24 (j := o + 5) (isSt_i0 ho) (isSt_s0 ho) rfl dX8_copyFrom_63 ?_
  refine lv_iconst (v := 0) hx hb dX8_copyFrom_66 (by decide) ?_
  refine lv_bipush (v := 7) hx hb dX8_copyFrom_67 (by decide) ?_
  refine sg_copy X I hl.1 (by first | decide | omega) qw_875 ⟨qw_622, qw_623, qw_624⟩ (isSt_i5 hp1) (isSt_i5 ho) (isSt_s5 hp1) (isSt_s5 ho) h (Nat.le_of_ble_eq_true rfl) dX8_copyFrom_69 (fun s5 H locs h I => ?_)
  refine lv_aload_n hx hb dX8_copyFrom_72 rfl (lv_at hl 0 rfl) ?_
  refine lv_aload_n hx hb dX8_copyFrom_73 rfl (lv_at hl 1 rfl) ?_
  refine sg_geti X I fk_X8_36 (isSt_i0 hp1) (isSt_s0 hp1) rfl dX8_copyFrom_74 ?_
  refine sg_puti X I fk_X8_36 wk_8_5 rfl rfl (isSt_i0 ho) (isSt_s0 ho) rfl h dX8_copyFrom_77 (fun s6 H locs h I => ?_)
  refine lv_aload_n hx hb dX8_copyFrom_80 rfl (lv_at hl 0 rfl) ?_
  refine lv_aload_n hx hb dX8_copyFrom_81 rfl (lv_at hl 1 rfl) ?_
  refine sg_geti X I fk_X8_43 (isSt_i0 hp1) (isSt_s0 hp1) rfl dX8_copyFrom_82 ?_
  refine sg_puti X I fk_X8_43 wk_8_6 rfl rfl (isSt_i0 ho) (isSt_s0 ho) rfl h dX8_copyFrom_85 (fun s7 H locs h I => ?_)
  refine lv_aload_n hx hb dX8_copyFrom_88 rfl (lv_at hl 0 rfl) ?_
  refine lv_aload_n hx hb dX8_copyFrom_89 rfl (lv_at hl 1 rfl) ?_
  refine sg_geti X I fk_X8_44 (isSt_i0 hp1) (isSt_s0 hp1) rfl dX8_copyFrom_90 ?_
  refine sg_puti X I fk_X8_44 wk_8_7 rfl rfl (isSt_i0 ho) (isSt_s0 ho) rfl h dX8_copyFrom_93 (fun s8 H locs h I => ?_)
  obtain rfl := Option.some.inj h
  exact hk _ _ _ _ I dX8_copyFrom_96
set_option maxHeartbeats 4000000 in
set_option maxRecDepth 100000 in
theorem c_X8_copyFrom {l : Launch} {P : sgP} {N : Nat} {o : Nat} {p1 : Nat} {σ : sgS} (ho : isSt o) (hp1 : isSt p1) {q : Int32 × sgS} (h : f_X8_copyFrom N o p1 σ = some q) : sg_Mv P shC 332 l yX8_copyFrom cX8_copyFrom 2 none 2 [.ref (sgA P o), .ref (sgA P p1)] σ q := by
  refine sg_mkv (plainFor_of_name (by decide +kernel)) (Nat.le_of_ble_eq_true rfl) ?_
  intro p e R s m args below meth c Q A ls H locs X I hl hk
  exact b_X8_copyFrom X ho hp1 I hl h hk
def f_X6_remember (N : Nat) (p1 : Nat) (σ : sgS) : Option (Int32 × sgS) :=
  sg_rf 40 (σ.1 52 2) fun j2 =>
sg_cl (f_X8_copyFrom N (62 + 6 * j2) p1 σ) fun v3 s4 =>
sg_nz 40 (
  sg_pf s4 52 2 (((s4.1 52 2) + 1) - ((s4.1 52 2) + 1) / 40 * 40) fun s5 =>
  sg_pf s5 52 1 ((if ((s5.1 52 1) + 1) < 40 then ((s5.1 52 1) + 1) else 40)) fun s6 =>
  some (0, s6))
set_option maxHeartbeats 4000000 in
set_option maxRecDepth 100000 in
theorem b_X6_remember {p : Program} {l : Launch} {e : Env} {R : Room} {s : State} {m : MethodId} {args : Array Value} {below : List Frame} {meth : Method} {c : Code} {Q : State → Prop} {P : sgP} {A : Nat → Prop} {N : Nat} {p1 : Nat} {σ : sgS} (X : sg_C P A 3 p R s m args c cX6_remember 2 RX6) (hp1 : isSt p1) {H : Heap} {locs : List Loc} (I : sg_I P shC 332 A s.heap σ H locs) {ls : Array Slot} (hl : lv_has ls 2 [(0, .ref (sgA P 52)), (1, .ref (sgA P p1))]) {st : Int32 × sgS} (h : f_X6_remember N p1 σ = some st) (hk : sg_Rv p l e R s m args below meth c Q P shC 332 A cX6_remember st) : W p l e R s m args below meth c H locs 0 0 Q (F0 m 0 ls []) := by
  unfold f_X6_remember at h
  have hx := X.1.1
  have hb := X.1.2.1
  have hown := X.1.2.2.2.1
  have hts := X.1.2.2.2.2
  refine lv_aload_n hx hb dX6_remember_0 rfl (lv_at hl 0 rfl) ?_
  refine sg_getr X I fk_X6_11 (j := 53) (by decide) shC_52 rfl dX6_remember_1 ?_
  refine lv_aload_n hx hb dX6_remember_4 rfl (lv_at hl 0 rfl) ?_
  refine sg_geti X I fk_X6_37 (by decide) shC_52 rfl dX6_remember_5 ?_
  refine sg_aald X I (by decide) shC_53 (r := fun k => 62 + 6 * k) (fun _ h => if_pos h) h dX6_remember_8 (fun j2 hj2 h => ?_)
  refine lv_aload_n hx hb dX6_remember_9 rfl (lv_at hl 1 rfl) ?_
  refine sg_callVv (As := [.ref (sgA P p1)]) X I mk_X6_40 (by decide) (isSt_i0 (isSt_ah hj2)) (isSt_s0 (isSt_ah hj2)) rfl (fun q9 e9 => c_X8_copyFrom (isSt_ah hj2) hp1 e9) h hl.1 rfl rfl (Nat.le_of_ble_eq_true rfl) dX6_remember_10 (fun v3 s4 H locs h I => ?_)
  refine lv_aload_n hx hb dX6_remember_13 rfl (lv_at hl 0 rfl) ?_
  refine lv_aload_n hx hb dX6_remember_14 rfl (lv_at hl 0 rfl) ?_
  refine sg_geti X I fk_X6_37 (by decide) shC_52 rfl dX6_remember_15 ?_
  refine lv_iconst (v := 1) hx hb dX6_remember_18 (by decide) ?_
  refine lv_iadd hx hb dX6_remember_19 ?_
  refine lv_bipush (v := 40) hx hb dX6_remember_20 (by decide) ?_
  refine sg_nzW (h := h) (fun z h => ?_)
  refine lv_irem hx hb dX6_remember_22 z ?_
  refine sg_puti X I fk_X6_37 wk_6_2 rfl rfl (by decide) shC_52 rfl h dX6_remember_23 (fun s5 H locs h I => ?_)
  refine lv_aload_n hx hb dX6_remember_26 rfl (lv_at hl 0 rfl) ?_
  refine lv_bipush (v := 40) hx hb dX6_remember_27 (by decide) ?_
  refine lv_aload_n hx hb dX6_remember_29 rfl (lv_at hl 0 rfl) ?_
  refine sg_geti X I fk_X6_29 (by decide) shC_52 rfl dX6_remember_30 ?_
  refine lv_iconst (v := 1) hx hb dX6_remember_33 (by decide) ?_
  refine lv_iadd hx hb dX6_remember_34 ?_
  refine sg_mmin X hl.1 (by first | decide | omega) qw_870 qw_289 qw_286 qw_290 (Nat.le_of_ble_eq_true rfl) dX6_remember_35 ?_
  refine sg_puti X I fk_X6_29 wk_6_1 rfl rfl (by decide) shC_52 rfl h dX6_remember_38 (fun s6 H locs h I => ?_)
  obtain rfl := Option.some.inj h
  exact hk _ _ _ _ I dX6_remember_41
set_option maxHeartbeats 4000000 in
set_option maxRecDepth 100000 in
theorem c_X6_remember {l : Launch} {P : sgP} {N : Nat} {p1 : Nat} {σ : sgS} (hp1 : isSt p1) {q : Int32 × sgS} (h : f_X6_remember N p1 σ = some q) : sg_Mv P shC 332 l yX6_remember cX6_remember 2 none 3 [.ref (sgA P 52), .ref (sgA P p1)] σ q := by
  refine sg_mkv (plainFor_of_name (by decide +kernel)) (Nat.le_of_ble_eq_true rfl) ?_
  intro p e R s m args below meth c Q A ls H locs X I hl hk
  exact b_X6_remember X hp1 I hl h hk
