def f_X12_tour_B59 (N : Nat) (p1 : Int32) (p2 : Int32) (p3 : Int32) (k1 : Int32) (k2 : Int32) (k3 : Int32) (k4 : Int32) (σ : sgS) : Option (Int32 × sgS) :=
  sg_cl (f_X12_tryTour 40 N k1 k2 k3 k4 0 σ) fun v8 s9 =>
if (s9.1 0 46) = ((-1)) then
  (some (s9.1 0 46, s9))
else
  (if p3 = 1 then
    (some (s9.1 0 46, s9))
  else
    (some (s9.1 0 47, s9)))
set_option maxHeartbeats 4000000 in
set_option maxRecDepth 100000 in
theorem b_X12_tour_B59 {p : Program} {l : Launch} {e : Env} {R : Room} {s : State} {m : MethodId} {args : Array Value} {below : List Frame} {meth : Method} {c : Code} {Q : State → Prop} {P : sgP} {A : Nat → Prop} {N : Nat} {p1 : Int32} {p2 : Int32} {p3 : Int32} {k1 : Int32} {k2 : Int32} {k3 : Int32} {k4 : Int32} {σ : sgS} (X : sg_C P A 43 p R s m args c cX12_tour 4 RX12) {H : Heap} {locs : List Loc} (I : sg_I P shM 35 A s.heap σ H locs) {ls : Array Slot} (hl : lv_has ls 4 [(0, .ref (sgA P 0)), (3, .int p3)]) {st : Int32 × sgS} (h : f_X12_tour_B59 N p1 p2 p3 k1 k2 k3 k4 σ = some st) (hk : sg_Ri p l e R s m args below meth c Q P shM 35 A cX12_tour (some .int) st) : W p l e R s m args below meth c H locs 0 0 Q (F0 m 59 ls [.int k4, .int k3, .int k2, .int k1, .ref (sgA P 0)]) := by
  unfold f_X12_tour_B59 at h
  have hx := X.1.1
  have hb := X.1.2.1
  have hown := X.1.2.2.2.1
  have hts := X.1.2.2.2.2
  refine lv_iconst (v := 0) hx hb dX12_tour_59 (by decide) ?_
  refine sg_callVv (As := [.int k1, .int k2, .int k3, .int k4, .int 0]) X I mk_X12_465 (by decide) (by decide) shM_0 rfl (fun q9 e9 => c_X12_tryTour e9) h hl.1 rfl rfl (Nat.le_of_ble_eq_true rfl) dX12_tour_60 (fun v8 s9 H locs h I => ?_)
  refine lv_aload_n hx hb dX12_tour_63 rfl (lv_at hl 0 rfl) ?_
  refine sg_geti X I fk_X12_418 (by decide) shM_0 rfl dX12_tour_64 ?_
  refine lv_iconst (v := -1) hx hb dX12_tour_67 (by decide) ?_
  refine lv_icmp_eq (tgt := 76) hx hb dX12_tour_68 (by decide) (fun z => ?_) (fun z => ?_)
  · have h := sg_ift h z
    refine lv_aload_n hx hb dX12_tour_76 rfl (lv_at hl 0 rfl) ?_
    refine sg_geti X I fk_X12_418 (by decide) shM_0 rfl dX12_tour_77 ?_
    refine lv_goto (tgt := 87) hx hb dX12_tour_80 (by decide) ?_
    obtain rfl := Option.some.inj h
    exact hk _ _ _ _ _ I ⟨_, rfl, rfl⟩ dX12_tour_87
  · have h := sg_iff h z
    refine lv_iload_n hx hb dX12_tour_71 rfl (lv_at hl 1 rfl) ?_
    refine lv_iconst (v := 1) hx hb dX12_tour_72 (by decide) ?_
    refine lv_icmp_ne (tgt := 83) hx hb dX12_tour_73 (by decide) (fun z => ?_) (fun z => ?_)
    · have h := sg_iff h z
      refine lv_aload_n hx hb dX12_tour_83 rfl (lv_at hl 0 rfl) ?_
      refine sg_geti X I fk_X12_462 (by decide) shM_0 rfl dX12_tour_84 ?_
      obtain rfl := Option.some.inj h
      exact hk _ _ _ _ _ I ⟨_, rfl, rfl⟩ dX12_tour_87
    · have h := sg_ift h z
      refine lv_aload_n hx hb dX12_tour_76 rfl (lv_at hl 0 rfl) ?_
      refine sg_geti X I fk_X12_418 (by decide) shM_0 rfl dX12_tour_77 ?_
      refine lv_goto (tgt := 87) hx hb dX12_tour_80 (by decide) ?_
      obtain rfl := Option.some.inj h
      exact hk _ _ _ _ _ I ⟨_, rfl, rfl⟩ dX12_tour_87
def f_X12_tour (N : Nat) (p1 : Int32) (p2 : Int32) (p3 : Int32) (σ : sgS) : Option (Int32 × sgS) :=
  sg_cr (f_X12_isPlace N p1 σ) fun v1 =>
if v1 = 0 then
  (some ((-1), σ))
else
  (sg_cr (f_X12_areSome N p2 σ) fun v2 =>
  if v2 = 0 then
    (some ((-1), σ))
  else
    (sg_cr (f_X12_in N p3 0 1 σ) fun v3 =>
    if v3 = 0 then
      (some ((-1), σ))
    else
      (sg_cl (f_X12_layAway N σ) fun v4 s5 =>
      sg_pf s5 0 46 ((-1)) fun s6 =>
      sg_cr (f_X12_has N p2 p1 s6) fun v7 =>
      if v7 = 0 then
        (f_X12_tour_B59 N p1 p2 p3 p1 p1 (p2 &&& ((1 <<< (p1 &&& 31)) ^^^ ((-1)))) 0 s6)
      else
        (f_X12_tour_B59 N p1 p2 p3 p1 p1 (p2 &&& ((1 <<< (p1 &&& 31)) ^^^ ((-1)))) p1 s6))))
set_option maxHeartbeats 4000000 in
set_option maxRecDepth 100000 in
theorem b_X12_tour {p : Program} {l : Launch} {e : Env} {R : Room} {s : State} {m : MethodId} {args : Array Value} {below : List Frame} {meth : Method} {c : Code} {Q : State → Prop} {P : sgP} {A : Nat → Prop} {N : Nat} {p1 : Int32} {p2 : Int32} {p3 : Int32} {σ : sgS} (X : sg_C P A 43 p R s m args c cX12_tour 4 RX12) {H : Heap} {locs : List Loc} (I : sg_I P shM 35 A s.heap σ H locs) {ls : Array Slot} (hl : lv_has ls 4 [(0, .ref (sgA P 0)), (1, .int p1), (2, .int p2), (3, .int p3)]) {st : Int32 × sgS} (h : f_X12_tour N p1 p2 p3 σ = some st) (hk : sg_Ri p l e R s m args below meth c Q P shM 35 A cX12_tour (some .int) st) : W p l e R s m args below meth c H locs 0 0 Q (F0 m 0 ls []) := by
  unfold f_X12_tour at h
  have hx := X.1.1
  have hb := X.1.2.1
  have hown := X.1.2.2.2.1
  have hts := X.1.2.2.2.2
  refine lv_aload_n hx hb dX12_tour_0 rfl (lv_at hl 0 rfl) ?_
  refine lv_iload_n hx hb dX12_tour_1 rfl (lv_at hl 1 rfl) ?_
  refine sg_callVr (As := [.int p1]) X I mk_X12_373 (by decide) (by decide) shM_0 rfl (fun q9 e9 => c_X12_isPlace e9) h hl.1 rfl rfl (Nat.le_of_ble_eq_true rfl) dX12_tour_2 (fun v1 H locs h I => ?_)
  refine lv_if_eq (tgt := 25) hx hb dX12_tour_5 (by decide) (fun z => ?_) (fun z => ?_)
  · have h := sg_ift h z
    refine lv_iconst (v := -1) hx hb dX12_tour_25 (by decide) ?_
    obtain rfl := Option.some.inj h
    exact hk _ _ _ _ _ I ⟨_, rfl, rfl⟩ dX12_tour_26
  · have h := sg_iff h z
    refine lv_aload_n hx hb dX12_tour_8 rfl (lv_at hl 0 rfl) ?_
    refine lv_iload_n hx hb dX12_tour_9 rfl (lv_at hl 2 rfl) ?_
    refine sg_callVr (As := [.int p2]) X I mk_X12_469 (by decide) (by decide) shM_0 rfl (fun q9 e9 => c_X12_areSome e9) h hl.1 rfl rfl (Nat.le_of_ble_eq_true rfl) dX12_tour_10 (fun v2 H locs h I => ?_)
    refine lv_if_eq (tgt := 25) hx hb dX12_tour_13 (by decide) (fun z => ?_) (fun z => ?_)
    · have h := sg_ift h z
      refine lv_iconst (v := -1) hx hb dX12_tour_25 (by decide) ?_
      obtain rfl := Option.some.inj h
      exact hk _ _ _ _ _ I ⟨_, rfl, rfl⟩ dX12_tour_26
    · have h := sg_iff h z
      refine lv_iload_n hx hb dX12_tour_16 rfl (lv_at hl 3 rfl) ?_
      refine lv_iconst (v := 0) hx hb dX12_tour_17 (by decide) ?_
      refine lv_iconst (v := 1) hx hb dX12_tour_18 (by decide) ?_
      refine sg_callSr (As := [.int p3, .int 0, .int 1]) X I mk_X12_235 (by decide) (fun q9 e9 => c_X12_in e9) h hl.1 rfl rfl (Nat.le_of_ble_eq_true rfl) dX12_tour_19 (fun v3 H locs h I => ?_)
      refine lv_if_ne (tgt := 27) hx hb dX12_tour_22 (by decide) (fun z => ?_) (fun z => ?_)
      · have h := sg_iff h z
        refine lv_aload_n hx hb dX12_tour_27 rfl (lv_at hl 0 rfl) ?_
        refine sg_callVv (As := []) X I mk_X12_412 (by decide) (by decide) shM_0 rfl (fun q9 e9 => c_X12_layAway e9) h hl.1 rfl rfl (Nat.le_of_ble_eq_true rfl) dX12_tour_28 (fun v4 s5 H locs h I => ?_)
        refine lv_aload_n hx hb dX12_tour_31 rfl (lv_at hl 0 rfl) ?_
        refine lv_iconst (v := -1) hx hb dX12_tour_32 (by decide) ?_
        refine sg_puti X I fk_X12_418 wk_12_46 rfl rfl (by decide) shM_0 rfl h dX12_tour_33 (fun s6 H locs h I => ?_)
        refine lv_aload_n hx hb dX12_tour_36 rfl (lv_at hl 0 rfl) ?_
        refine lv_iload_n hx hb dX12_tour_37 rfl (lv_at hl 1 rfl) ?_
        refine lv_iload_n hx hb dX12_tour_38 rfl (lv_at hl 1 rfl) ?_
        refine lv_iload_n hx hb dX12_tour_39 rfl (lv_at hl 2 rfl) ?_
        refine lv_iconst (v := 1) hx hb dX12_tour_40 (by decide) ?_
        refine lv_iload_n hx hb dX12_tour_41 rfl (lv_at hl 1 rfl) ?_
        refine lv_ishl hx hb dX12_tour_42 ?_
        refine lv_iconst (v := -1) hx hb dX12_tour_43 (by decide) ?_
        refine lv_ixor hx hb dX12_tour_44 ?_
        refine lv_iand hx hb dX12_tour_45 ?_
        refine lv_iload_n hx hb dX12_tour_46 rfl (lv_at hl 2 rfl) ?_
        refine lv_iload_n hx hb dX12_tour_47 rfl (lv_at hl 1 rfl) ?_
        refine sg_callSr (As := [.int p2, .int p1]) X I mk_X12_246 (by decide) (fun q9 e9 => c_X12_has e9) h hl.1 rfl rfl (Nat.le_of_ble_eq_true rfl) dX12_tour_48 (fun v7 H locs h I => ?_)
        refine lv_if_eq (tgt := 58) hx hb dX12_tour_51 (by decide) (fun z => ?_) (fun z => ?_)
        · have h := sg_ift h z
          refine lv_iconst (v := 0) hx hb dX12_tour_58 (by decide) ?_
          exact b_X12_tour_B59 X I (lv_sub hl [0, 3] rfl) h hk
        · have h := sg_iff h z
          refine lv_iload_n hx hb dX12_tour_54 rfl (lv_at hl 1 rfl) ?_
          refine lv_goto (tgt := 59) hx hb dX12_tour_55 (by decide) ?_
          exact b_X12_tour_B59 X I (lv_sub hl [0, 3] rfl) h hk
      · have h := sg_ift h z
        refine lv_iconst (v := -1) hx hb dX12_tour_25 (by decide) ?_
        obtain rfl := Option.some.inj h
        exact hk _ _ _ _ _ I ⟨_, rfl, rfl⟩ dX12_tour_26
set_option maxHeartbeats 4000000 in
set_option maxRecDepth 100000 in
theorem c_X12_tour {l : Launch} {P : sgP} {N : Nat} {p1 : Int32} {p2 : Int32} {p3 : Int32} {σ : sgS} {q : Int32 × sgS} (h : f_X12_tour N p1 p2 p3 σ = some q) : sg_Mi P shM 35 l yX12_tour cX12_tour 4 (some .int) 43 [.ref (sgA P 0), .int p1, .int p2, .int p3] σ q := by
  refine sg_mki (plainFor_of_name (by decide +kernel)) (Nat.le_of_ble_eq_true rfl) ?_
  intro p e R s m args below meth c Q A ls H locs X I hl hk
  exact b_X12_tour X I hl h hk
def f_X12_tryDoors_b_L93 (N : Nat) (rec : Int32 → Int32 → Int32 → Int32 → Int32 → sgS → Option (Int32 × sgS)) (p1 : Int32) (p2 : Int32) (p3 : Int32) (p4 : Int32) (p5 : Int32) (x6 : Int32) (σ : sgS) : Option ((Int32 × sgS) ⊕ ((sgS × Int32) ⊕ (sgS))) :=
  if (σ.1 0 28) ≤ x6 then
  (some (.inr (.inr σ)))
else
  (sg_ld σ 21 215 (0 + p1) fun v1 =>
  sg_cr (f_X12_awayOf N v1 x6 σ) fun v2 =>
  sg_cr (f_X12_has N p2 x6 σ) fun v3 =>
  if v3 = 0 then
    (some (.inr (.inl (σ, x6 + 1))))
  else
    (if 100000 ≤ v2 then
      (some (.inr (.inl (σ, x6 + 1))))
    else
      (sg_cl (rec (p1 + 1) (p2 &&& ((1 <<< (x6 &&& 31)) ^^^ ((-1)))) ((10 * p3) + x6) (p4 + 1) (p5 + v2) σ) fun v4 s5 =>
      some (.inr (.inl (s5, x6 + 1))))))
set_option maxHeartbeats 4000000 in
set_option maxRecDepth 100000 in
theorem b_X12_tryDoors_b_L93 {p : Program} {l : Launch} {e : Env} {R : Room} {s : State} {m : MethodId} {args : Array Value} {below : List Frame} {meth : Method} {c : Code} {Q : State → Prop} {P : sgP} {A : Nat → Prop} {lv : Nat} {N : Nat} {rec : Int32 → Int32 → Int32 → Int32 → Int32 → sgS → Option (Int32 × sgS)} {p1 : Int32} {p2 : Int32} {p3 : Int32} {p4 : Int32} {p5 : Int32} {x6 : Int32} {σ : sgS} (X : sg_C P A (lv + 1) p R s m args c cX12_tryDoors 8 RX12) (hlv : 2 ≤ lv) (hrec : ∀ (p1 : Int32) (p2 : Int32) (p3 : Int32) (p4 : Int32) (p5 : Int32) (σ : sgS) (q : Int32 × sgS), rec p1 p2 p3 p4 p5 σ = some q → sg_Mv P shM 35 l yX12_tryDoors cX12_tryDoors 8 none lv [.ref (sgA P 0), .int p1, .int p2, .int p3, .int p4, .int p5] σ q) {H : Heap} {locs : List Loc} (I : sg_I P shM 35 A s.heap σ H locs) {ls : Array Slot} (hl : lv_has ls 8 [(0, .ref (sgA P 0)), (1, .int p1), (2, .int p2), (3, .int p3), (4, .int p4), (5, .int p5), (6, .int x6)]) {st : (Int32 × sgS) ⊕ ((sgS × Int32) ⊕ (sgS))} (h : f_X12_tryDoors_b_L93 N rec p1 p2 p3 p4 p5 x6 σ = some st) (hk : sg_k3 (sg_Rv p l e R s m args below meth c Q P shM 35 A cX12_tryDoors) (fun x => sg_Wt p l e R s m args below meth c Q P shM 35 A 8 93 x.1 [(0, .ref (sgA P 0)), (1, .int p1), (2, .int p2), (3, .int p3), (4, .int p4), (5, .int p5), (6, .int x.2)]) (fun y => sg_Wt p l e R s m args below meth c Q P shM 35 A 8 172 y [(0, .ref (sgA P 0)), (1, .int p1), (2, .int p2), (3, .int p3), (4, .int p4), (5, .int p5)]) st) : W p l e R s m args below meth c H locs 0 0 Q (F0 m 93 ls []) := by
  unfold f_X12_tryDoors_b_L93 at h
  have hx := X.1.1
  have hb := X.1.2.1
  have hown := X.1.2.2.2.1
  have hts := X.1.2.2.2.2
  refine lv_iload hx hb dX12_tryDoors_93 (lv_at hl 6 rfl) ?_
  refine lv_aload_n hx hb dX12_tryDoors_95 rfl (lv_at hl 0 rfl) ?_
  refine sg_geti X I fk_X12_288 (by decide) shM_0 rfl dX12_tryDoors_96 ?_
  refine lv_icmp_ge (tgt := 172) hx hb dX12_tryDoors_99 (by decide) (fun z => ?_) (fun z => ?_)
  · have h := sg_ift h z
    obtain rfl := Option.some.inj h
    exact sg_go hk I (lv_sub hl [0, 1, 2, 3, 4, 5] rfl)
  · have h := sg_iff h z
    refine lv_aload_n hx hb dX12_tryDoors_102 rfl (lv_at hl 0 rfl) ?_
    refine lv_aload_n hx hb dX12_tryDoors_103 rfl (lv_at hl 0 rfl) ?_
    refine sg_getr X I fk_X12_70 (j := 21) (by decide) shM_0 rfl dX12_tryDoors_104 ?_
    refine lv_iconst (v := 0) hx hb dX12_tryDoors_107 (by decide) ?_
    refine lv_iload_n hx hb dX12_tryDoors_108 rfl (lv_at hl 1 rfl) ?_
    refine lv_iadd hx hb dX12_tryDoors_109 ?_
    refine sg_iald X I (by decide) shM_21 h dX12_tryDoors_110 (fun v1 h => ?_)
    refine lv_iload hx hb dX12_tryDoors_111 (lv_at hl 6 rfl) ?_
    refine sg_callVr (As := [.int v1, .int x6]) X I mk_X12_415 (by omega) (by decide) shM_0 rfl (fun q9 e9 => c_X12_awayOf e9) h hl.1 rfl rfl (Nat.le_of_ble_eq_true rfl) dX12_tryDoors_113 (fun v2 H locs h I => ?_)
    refine lv_istore (lv' := [(7, .int v2), (0, .ref (sgA P 0)), (1, .int p1), (2, .int p2), (3, .int p3), (4, .int p4), (5, .int p5), (6, .int x6)]) hx hb dX12_tryDoors_116 hl (by decide) rfl (fun ls hl => ?_)
    refine lv_iload_n hx hb dX12_tryDoors_118 rfl (lv_at hl 3 rfl) ?_
    refine lv_iload hx hb dX12_tryDoors_119 (lv_at hl 7 rfl) ?_
    refine sg_callSr (As := [.int p2, .int x6]) X I mk_X12_246 (by omega) (fun q9 e9 => c_X12_has e9) h hl.1 rfl rfl (Nat.le_of_ble_eq_true rfl) dX12_tryDoors_121 (fun v3 H locs h I => ?_)
    refine lv_if_eq (tgt := 166) hx hb dX12_tryDoors_124 (by decide) (fun z => ?_) (fun z => ?_)
    · have h := sg_ift h z
      refine lv_iinc (v := x6 + 1) (lv' := [(6, .int (x6 + 1)), (7, .int v2), (0, .ref (sgA P 0)), (1, .int p1), (2, .int p2), (3, .int p3), (4, .int p4), (5, .int p5)]) hx hb dX12_tryDoors_166 hl (k := 7) rfl rfl (by decide) rfl (fun ls hl => ?_)
      refine lv_goto (tgt := 93) hx hb dX12_tryDoors_169 (by decide) ?_
      obtain rfl := Option.some.inj h
      exact sg_go hk I (lv_sub hl [2, 3, 4, 5, 6, 7, 0] rfl)
    · have h := sg_iff h z
      refine lv_iload hx hb dX12_tryDoors_127 (lv_at hl 0 rfl) ?_
      refine lv_ldcw (v := 100000) hx hb hown (hts _ qw_1128) dX12_tryDoors_129 ?_
      refine lv_icmp_ge (tgt := 166) hx hb dX12_tryDoors_132 (by decide) (fun z => ?_) (fun z => ?_)
      · have h := sg_ift h z
        refine lv_iinc (v := x6 + 1) (lv' := [(6, .int (x6 + 1)), (7, .int v2), (0, .ref (sgA P 0)), (1, .int p1), (2, .int p2), (3, .int p3), (4, .int p4), (5, .int p5)]) hx hb dX12_tryDoors_166 hl (k := 7) rfl rfl (by decide) rfl (fun ls hl => ?_)
        refine lv_goto (tgt := 93) hx hb dX12_tryDoors_169 (by decide) ?_
        obtain rfl := Option.some.inj h
        exact sg_go hk I (lv_sub hl [2, 3, 4, 5, 6, 7, 0] rfl)
      · have h := sg_iff h z
        refine lv_aload_n hx hb dX12_tryDoors_135 rfl (lv_at hl 1 rfl) ?_
        refine lv_iload_n hx hb dX12_tryDoors_136 rfl (lv_at hl 2 rfl) ?_
        refine lv_iconst (v := 1) hx hb dX12_tryDoors_137 (by decide) ?_
        refine lv_iadd hx hb dX12_tryDoors_138 ?_
        refine lv_iload_n hx hb dX12_tryDoors_139 rfl (lv_at hl 3 rfl) ?_
        refine lv_iconst (v := 1) hx hb dX12_tryDoors_140 (by decide) ?_
        refine lv_iload hx hb dX12_tryDoors_141 (lv_at hl 7 rfl) ?_
        refine lv_ishl hx hb dX12_tryDoors_143 ?_
        refine lv_iconst (v := -1) hx hb dX12_tryDoors_144 (by decide) ?_
        refine lv_ixor hx hb dX12_tryDoors_145 ?_
        refine lv_iand hx hb dX12_tryDoors_146 ?_
        refine lv_bipush (v := 10) hx hb dX12_tryDoors_147 (by decide) ?_
        refine lv_iload_n hx hb dX12_tryDoors_149 rfl (lv_at hl 4 rfl) ?_
        refine lv_imul hx hb dX12_tryDoors_150 ?_
        refine lv_iload hx hb dX12_tryDoors_151 (lv_at hl 7 rfl) ?_
        refine lv_iadd hx hb dX12_tryDoors_153 ?_
        refine lv_iload hx hb dX12_tryDoors_154 (lv_at hl 5 rfl) ?_
        refine lv_iconst (v := 1) hx hb dX12_tryDoors_156 (by decide) ?_
        refine lv_iadd hx hb dX12_tryDoors_157 ?_
        refine lv_iload hx hb dX12_tryDoors_158 (lv_at hl 6 rfl) ?_
        refine lv_iload hx hb dX12_tryDoors_160 (lv_at hl 0 rfl) ?_
        refine lv_iadd hx hb dX12_tryDoors_162 ?_
        refine sg_callVv (As := [.int (p1 + 1), .int (p2 &&& ((1 <<< (x6 &&& 31)) ^^^ ((-1)))), .int ((10 * p3) + x6), .int (p4 + 1), .int (p5 + v2)]) X I mk_X12_472 (by omega) (by decide) shM_0 rfl (fun q9 e9 => hrec _ _ _ _ _ _ _ e9) h hl.1 rfl rfl (Nat.le_of_ble_eq_true rfl) dX12_tryDoors_163 (fun v4 s5 H locs h I => ?_)
        refine lv_iinc (v := x6 + 1) (lv' := [(6, .int (x6 + 1)), (7, .int v2), (0, .ref (sgA P 0)), (1, .int p1), (2, .int p2), (3, .int p3), (4, .int p4), (5, .int p5)]) hx hb dX12_tryDoors_166 hl (k := 7) rfl rfl (by decide) rfl (fun ls hl => ?_)
        refine lv_goto (tgt := 93) hx hb dX12_tryDoors_169 (by decide) ?_
        obtain rfl := Option.some.inj h
        exact sg_go hk I (lv_sub hl [2, 3, 4, 5, 6, 7, 0] rfl)
def f_X12_tryDoors_b_B72 (N : Nat) (rec : Int32 → Int32 → Int32 → Int32 → Int32 → sgS → Option (Int32 × sgS)) (p1 : Int32) (p2 : Int32) (p3 : Int32) (p4 : Int32) (p5 : Int32) (σ : sgS) : Option (Int32 × sgS) :=
  sg_pf σ 0 46 p3 fun s9 =>
sg_pf s9 0 48 p4 fun s10 =>
sg_pf s10 0 47 p5 fun s11 =>
some (0, s11)
set_option maxHeartbeats 4000000 in
set_option maxRecDepth 100000 in
theorem b_X12_tryDoors_b_B72 {p : Program} {l : Launch} {e : Env} {R : Room} {s : State} {m : MethodId} {args : Array Value} {below : List Frame} {meth : Method} {c : Code} {Q : State → Prop} {P : sgP} {A : Nat → Prop} {lv : Nat} {N : Nat} {rec : Int32 → Int32 → Int32 → Int32 → Int32 → sgS → Option (Int32 × sgS)} {p1 : Int32} {p2 : Int32} {p3 : Int32} {p4 : Int32} {p5 : Int32} {σ : sgS} (X : sg_C P A (lv + 1) p R s m args c cX12_tryDoors 8 RX12) (hlv : 2 ≤ lv) (hrec : ∀ (p1 : Int32) (p2 : Int32) (p3 : Int32) (p4 : Int32) (p5 : Int32) (σ : sgS) (q : Int32 × sgS), rec p1 p2 p3 p4 p5 σ = some q → sg_Mv P shM 35 l yX12_tryDoors cX12_tryDoors 8 none lv [.ref (sgA P 0), .int p1, .int p2, .int p3, .int p4, .int p5] σ q) {H : Heap} {locs : List Loc} (I : sg_I P shM 35 A s.heap σ H locs) {ls : Array Slot} (hl : lv_has ls 8 [(0, .ref (sgA P 0)), (3, .int p3), (4, .int p4), (5, .int p5)]) {st : Int32 × sgS} (h : f_X12_tryDoors_b_B72 N rec p1 p2 p3 p4 p5 σ = some st) (hk : sg_Rv p l e R s m args below meth c Q P shM 35 A cX12_tryDoors st) : W p l e R s m args below meth c H locs 0 0 Q (F0 m 72 ls []) := by
  unfold f_X12_tryDoors_b_B72 at h
  have hx := X.1.1
  have hb := X.1.2.1
  have hown := X.1.2.2.2.1
  have hts := X.1.2.2.2.2
  refine lv_aload_n hx hb dX12_tryDoors_72 rfl (lv_at hl 0 rfl) ?_
  refine lv_iload_n hx hb dX12_tryDoors_73 rfl (lv_at hl 1 rfl) ?_
  refine sg_puti X I fk_X12_418 wk_12_46 rfl rfl (by decide) shM_0 rfl h dX12_tryDoors_74 (fun s9 H locs h I => ?_)
  refine lv_aload_n hx hb dX12_tryDoors_77 rfl (lv_at hl 0 rfl) ?_
  refine lv_iload hx hb dX12_tryDoors_78 (lv_at hl 2 rfl) ?_
  refine sg_puti X I fk_X12_421 wk_12_48 rfl rfl (by decide) shM_0 rfl h dX12_tryDoors_80 (fun s10 H locs h I => ?_)
  refine lv_aload_n hx hb dX12_tryDoors_83 rfl (lv_at hl 0 rfl) ?_
  refine lv_iload hx hb dX12_tryDoors_84 (lv_at hl 3 rfl) ?_
  refine sg_puti X I fk_X12_462 wk_12_47 rfl rfl (by decide) shM_0 rfl h dX12_tryDoors_86 (fun s11 H locs h I => ?_)
  obtain rfl := Option.some.inj h
  exact hk _ _ _ _ I dX12_tryDoors_89
def f_X12_tryDoors_b_B30 (N : Nat) (rec : Int32 → Int32 → Int32 → Int32 → Int32 → sgS → Option (Int32 × sgS)) (p1 : Int32) (p2 : Int32) (p3 : Int32) (p4 : Int32) (p5 : Int32) (k0 : Int32) (σ : sgS) : Option (Int32 × sgS) :=
  if k0 = 0 then
  (if p4 = (σ.1 0 48) then
    (if p5 < (σ.1 0 47) then
      (f_X12_tryDoors_b_B72 N rec p1 p2 p3 p4 p5 σ)
    else
      (if p5 = (σ.1 0 47) then
        (if (σ.1 0 46) ≤ p3 then
          (some (0, σ))
        else
          (f_X12_tryDoors_b_B72 N rec p1 p2 p3 p4 p5 σ))
      else
        (some (0, σ))))
  else
    (some (0, σ)))
else
  (f_X12_tryDoors_b_B72 N rec p1 p2 p3 p4 p5 σ)
set_option maxHeartbeats 4000000 in
set_option maxRecDepth 100000 in
theorem b_X12_tryDoors_b_B30 {p : Program} {l : Launch} {e : Env} {R : Room} {s : State} {m : MethodId} {args : Array Value} {below : List Frame} {meth : Method} {c : Code} {Q : State → Prop} {P : sgP} {A : Nat → Prop} {lv : Nat} {N : Nat} {rec : Int32 → Int32 → Int32 → Int32 → Int32 → sgS → Option (Int32 × sgS)} {p1 : Int32} {p2 : Int32} {p3 : Int32} {p4 : Int32} {p5 : Int32} {k0 : Int32} {σ : sgS} (X : sg_C P A (lv + 1) p R s m args c cX12_tryDoors 8 RX12) (hlv : 2 ≤ lv) (hrec : ∀ (p1 : Int32) (p2 : Int32) (p3 : Int32) (p4 : Int32) (p5 : Int32) (σ : sgS) (q : Int32 × sgS), rec p1 p2 p3 p4 p5 σ = some q → sg_Mv P shM 35 l yX12_tryDoors cX12_tryDoors 8 none lv [.ref (sgA P 0), .int p1, .int p2, .int p3, .int p4, .int p5] σ q) {H : Heap} {locs : List Loc} (I : sg_I P shM 35 A s.heap σ H locs) {ls : Array Slot} (hl : lv_has ls 8 [(0, .ref (sgA P 0)), (3, .int p3), (4, .int p4), (5, .int p5)]) {st : Int32 × sgS} (h : f_X12_tryDoors_b_B30 N rec p1 p2 p3 p4 p5 k0 σ = some st) (hk : sg_Rv p l e R s m args below meth c Q P shM 35 A cX12_tryDoors st) : W p l e R s m args below meth c H locs 0 0 Q (F0 m 30 ls [.int k0]) := by
  unfold f_X12_tryDoors_b_B30 at h
  have hx := X.1.1
  have hb := X.1.2.1
  have hown := X.1.2.2.2.1
  have hts := X.1.2.2.2.2
  refine lv_istore (lv' := [(6, .int k0), (0, .ref (sgA P 0)), (3, .int p3), (4, .int p4), (5, .int p5)]) hx hb dX12_tryDoors_30 hl (by decide) rfl (fun ls hl => ?_)
  refine lv_iload hx hb dX12_tryDoors_32 (lv_at hl 0 rfl) ?_
  refine lv_if_ne (tgt := 72) hx hb dX12_tryDoors_34 (by decide) (fun z => ?_) (fun z => ?_)
  · have h := sg_iff h z
    exact b_X12_tryDoors_b_B72 X hlv hrec I (lv_sub hl [1, 2, 3, 4] rfl) h hk
  · have h := sg_ift h z
    refine lv_iload hx hb dX12_tryDoors_37 (lv_at hl 3 rfl) ?_
    refine lv_aload_n hx hb dX12_tryDoors_39 rfl (lv_at hl 1 rfl) ?_
    refine sg_geti X I fk_X12_421 (by decide) shM_0 rfl dX12_tryDoors_40 ?_
    refine lv_icmp_ne (tgt := 89) hx hb dX12_tryDoors_43 (by decide) (fun z => ?_) (fun z => ?_)
    · have h := sg_iff h z
      obtain rfl := Option.some.inj h
      exact hk _ _ _ _ I dX12_tryDoors_89
    · have h := sg_ift h z
      refine lv_iload hx hb dX12_tryDoors_46 (lv_at hl 4 rfl) ?_
      refine lv_aload_n hx hb dX12_tryDoors_48 rfl (lv_at hl 1 rfl) ?_
      refine sg_geti X I fk_X12_462 (by decide) shM_0 rfl dX12_tryDoors_49 ?_
      refine lv_icmp_lt (tgt := 72) hx hb dX12_tryDoors_52 (by decide) (fun z => ?_) (fun z => ?_)
      · have h := sg_ift h z
        exact b_X12_tryDoors_b_B72 X hlv hrec I (lv_sub hl [1, 2, 3, 4] rfl) h hk
      · have h := sg_iff h z
        refine lv_iload hx hb dX12_tryDoors_55 (lv_at hl 4 rfl) ?_
        refine lv_aload_n hx hb dX12_tryDoors_57 rfl (lv_at hl 1 rfl) ?_
        refine sg_geti X I fk_X12_462 (by decide) shM_0 rfl dX12_tryDoors_58 ?_
        refine lv_icmp_ne (tgt := 89) hx hb dX12_tryDoors_61 (by decide) (fun z => ?_) (fun z => ?_)
        · have h := sg_iff h z
          obtain rfl := Option.some.inj h
          exact hk _ _ _ _ I dX12_tryDoors_89
        · have h := sg_ift h z
          refine lv_iload_n hx hb dX12_tryDoors_64 rfl (lv_at hl 2 rfl) ?_
          refine lv_aload_n hx hb dX12_tryDoors_65 rfl (lv_at hl 1 rfl) ?_
          refine sg_geti X I fk_X12_418 (by decide) shM_0 rfl dX12_tryDoors_66 ?_
          refine lv_icmp_ge (tgt := 89) hx hb dX12_tryDoors_69 (by decide) (fun z => ?_) (fun z => ?_)
          · have h := sg_ift h z
            obtain rfl := Option.some.inj h
            exact hk _ _ _ _ I dX12_tryDoors_89
          · have h := sg_iff h z
            exact b_X12_tryDoors_b_B72 X hlv hrec I (lv_sub hl [1, 2, 3, 4] rfl) h hk
def f_X12_tryDoors_b (N : Nat) (rec : Int32 → Int32 → Int32 → Int32 → Int32 → sgS → Option (Int32 × sgS)) (p1 : Int32) (p2 : Int32) (p3 : Int32) (p4 : Int32) (p5 : Int32) (σ : sgS) : Option (Int32 × sgS) :=
  if p1 = (σ.1 0 30) then
  (if (σ.1 0 46) = ((-1)) then
    (f_X12_tryDoors_b_B30 N rec p1 p2 p3 p4 p5 1 σ)
  else
    (if p4 ≤ (σ.1 0 48) then
      (f_X12_tryDoors_b_B30 N rec p1 p2 p3 p4 p5 0 σ)
    else
      (f_X12_tryDoors_b_B30 N rec p1 p2 p3 p4 p5 1 σ)))
else
  (sg_lb (sg_lp (fun x => f_X12_tryDoors_b_L93 N rec p1 p2 p3 p4 p5 x.2 x.1) N ((σ, 0))) (fun r => some r) fun y6 =>
  sg_cl (rec (p1 + 1) p2 ((10 * p3) + 9) p4 p5 y6) fun v7 s8 =>
  some (0, s8))
set_option maxHeartbeats 4000000 in
set_option maxRecDepth 100000 in
theorem b_X12_tryDoors_b {p : Program} {l : Launch} {e : Env} {R : Room} {s : State} {m : MethodId} {args : Array Value} {below : List Frame} {meth : Method} {c : Code} {Q : State → Prop} {P : sgP} {A : Nat → Prop} {lv : Nat} {N : Nat} {rec : Int32 → Int32 → Int32 → Int32 → Int32 → sgS → Option (Int32 × sgS)} {p1 : Int32} {p2 : Int32} {p3 : Int32} {p4 : Int32} {p5 : Int32} {σ : sgS} (X : sg_C P A (lv + 1) p R s m args c cX12_tryDoors 8 RX12) (hlv : 2 ≤ lv) (hrec : ∀ (p1 : Int32) (p2 : Int32) (p3 : Int32) (p4 : Int32) (p5 : Int32) (σ : sgS) (q : Int32 × sgS), rec p1 p2 p3 p4 p5 σ = some q → sg_Mv P shM 35 l yX12_tryDoors cX12_tryDoors 8 none lv [.ref (sgA P 0), .int p1, .int p2, .int p3, .int p4, .int p5] σ q) {H : Heap} {locs : List Loc} (I : sg_I P shM 35 A s.heap σ H locs) {ls : Array Slot} (hl : lv_has ls 8 [(0, .ref (sgA P 0)), (1, .int p1), (2, .int p2), (3, .int p3), (4, .int p4), (5, .int p5)]) {st : Int32 × sgS} (h : f_X12_tryDoors_b N rec p1 p2 p3 p4 p5 σ = some st) (hk : sg_Rv p l e R s m args below meth c Q P shM 35 A cX12_tryDoors st) : W p l e R s m args below meth c H locs 0 0 Q (F0 m 0 ls []) := by
  unfold f_X12_tryDoors_b at h
  have hx := X.1.1
  have hb := X.1.2.1
  have hown := X.1.2.2.2.1
  have hts := X.1.2.2.2.2
  refine lv_iload_n hx hb dX12_tryDoors_0 rfl (lv_at hl 1 rfl) ?_
  refine lv_aload_n hx hb dX12_tryDoors_1 rfl (lv_at hl 0 rfl) ?_
  refine sg_geti X I fk_X12_285 (by decide) shM_0 rfl dX12_tryDoors_2 ?_
  refine lv_icmp_ne (tgt := 90) hx hb dX12_tryDoors_5 (by decide) (fun z => ?_) (fun z => ?_)
  · have h := sg_iff h z
    refine lv_iconst (v := 0) hx hb dX12_tryDoors_90 (by decide) ?_
    refine lv_istore (lv' := [(6, .int 0), (0, .ref (sgA P 0)), (1, .int p1), (2, .int p2), (3, .int p3), (4, .int p4), (5, .int p5)]) hx hb dX12_tryDoors_91 hl (by decide) rfl (fun ls hl => ?_)
    obtain ⟨res, e9, k9⟩ := sg_lb_some h
    refine sg_go (sg_lp_W (a := (sg_Rv p l e R s m args below meth c Q P shM 35 A cX12_tryDoors)) (w := (fun x => sg_Wt p l e R s m args below meth c Q P shM 35 A 8 93 x.1 [(0, .ref (sgA P 0)), (1, .int p1), (2, .int p2), (3, .int p3), (4, .int p4), (5, .int p5), (6, .int x.2)])) (c := (fun y => sg_Wt p l e R s m args below meth c Q P shM 35 A 8 172 y [(0, .ref (sgA P 0)), (1, .int p1), (2, .int p2), (3, .int p3), (4, .int p4), (5, .int p5)])) (fun x st hb9 hk9 => ?_) N ((σ, 0)) res e9 (sg_k2_mono k9 (fun r h => ?_) (fun y6 h => ?_))) I (lv_sub hl [1, 2, 3, 4, 5, 6, 0] rfl)
    · intro H locs ls I hl
      exact b_X12_tryDoors_b_L93 X hlv hrec I hl hb9 hk9
    · obtain rfl := Option.some.inj h
      exact hk
    · intro H locs ls I hl
      refine lv_aload_n hx hb dX12_tryDoors_172 rfl (lv_at hl 0 rfl) ?_
      refine lv_iload_n hx hb dX12_tryDoors_173 rfl (lv_at hl 1 rfl) ?_
      refine lv_iconst (v := 1) hx hb dX12_tryDoors_174 (by decide) ?_
      refine lv_iadd hx hb dX12_tryDoors_175 ?_
      refine lv_iload_n hx hb dX12_tryDoors_176 rfl (lv_at hl 2 rfl) ?_
      refine lv_bipush (v := 10) hx hb dX12_tryDoors_177 (by decide) ?_
      refine lv_iload_n hx hb dX12_tryDoors_179 rfl (lv_at hl 3 rfl) ?_
      refine lv_imul hx hb dX12_tryDoors_180 ?_
      refine lv_bipush (v := 9) hx hb dX12_tryDoors_181 (by decide) ?_
      refine lv_iadd hx hb dX12_tryDoors_183 ?_
      refine lv_iload hx hb dX12_tryDoors_184 (lv_at hl 4 rfl) ?_
      refine lv_iload hx hb dX12_tryDoors_186 (lv_at hl 5 rfl) ?_
      refine sg_callVv (As := [.int (p1 + 1), .int p2, .int ((10 * p3) + 9), .int p4, .int p5]) X I mk_X12_472 (by omega) (by decide) shM_0 rfl (fun q9 e9 => hrec _ _ _ _ _ _ _ e9) h hl.1 rfl rfl (Nat.le_of_ble_eq_true rfl) dX12_tryDoors_188 (fun v7 s8 H locs h I => ?_)
      obtain rfl := Option.some.inj h
      exact hk _ _ _ _ I dX12_tryDoors_191
  · have h := sg_ift h z
    refine lv_aload_n hx hb dX12_tryDoors_8 rfl (lv_at hl 0 rfl) ?_
    refine sg_geti X I fk_X12_418 (by decide) shM_0 rfl dX12_tryDoors_9 ?_
    refine lv_iconst (v := -1) hx hb dX12_tryDoors_12 (by decide) ?_
    refine lv_icmp_eq (tgt := 25) hx hb dX12_tryDoors_13 (by decide) (fun z => ?_) (fun z => ?_)
    · have h := sg_ift h z
      refine lv_iconst (v := 1) hx hb dX12_tryDoors_25 (by decide) ?_
      refine lv_goto (tgt := 30) hx hb dX12_tryDoors_26 (by decide) ?_
      exact b_X12_tryDoors_b_B30 X hlv hrec I (lv_sub hl [0, 3, 4, 5] rfl) h hk
    · have h := sg_iff h z
      refine lv_iload hx hb dX12_tryDoors_16 (lv_at hl 4 rfl) ?_
      refine lv_aload_n hx hb dX12_tryDoors_18 rfl (lv_at hl 0 rfl) ?_
      refine sg_geti X I fk_X12_421 (by decide) shM_0 rfl dX12_tryDoors_19 ?_
      refine lv_icmp_le (tgt := 29) hx hb dX12_tryDoors_22 (by decide) (fun z => ?_) (fun z => ?_)
      · have h := sg_ift h z
        refine lv_iconst (v := 0) hx hb dX12_tryDoors_29 (by decide) ?_
        exact b_X12_tryDoors_b_B30 X hlv hrec I (lv_sub hl [0, 3, 4, 5] rfl) h hk
      · have h := sg_iff h z
        refine lv_iconst (v := 1) hx hb dX12_tryDoors_25 (by decide) ?_
        refine lv_goto (tgt := 30) hx hb dX12_tryDoors_26 (by decide) ?_
        exact b_X12_tryDoors_b_B30 X hlv hrec I (lv_sub hl [0, 3, 4, 5] rfl) h hk
set_option maxHeartbeats 4000000 in
set_option maxRecDepth 100000 in
theorem c_X12_tryDoors_b {l : Launch} {P : sgP} {lv : Nat} {N : Nat} {rec : Int32 → Int32 → Int32 → Int32 → Int32 → sgS → Option (Int32 × sgS)} {p1 : Int32} {p2 : Int32} {p3 : Int32} {p4 : Int32} {p5 : Int32} {σ : sgS} (hlv : 2 ≤ lv) (hrec : ∀ (p1 : Int32) (p2 : Int32) (p3 : Int32) (p4 : Int32) (p5 : Int32) (σ : sgS) (q : Int32 × sgS), rec p1 p2 p3 p4 p5 σ = some q → sg_Mv P shM 35 l yX12_tryDoors cX12_tryDoors 8 none lv [.ref (sgA P 0), .int p1, .int p2, .int p3, .int p4, .int p5] σ q) {q : Int32 × sgS} (h : f_X12_tryDoors_b N rec p1 p2 p3 p4 p5 σ = some q) : sg_Mv P shM 35 l yX12_tryDoors cX12_tryDoors 8 none (lv + 1) [.ref (sgA P 0), .int p1, .int p2, .int p3, .int p4, .int p5] σ q := by
  refine sg_mkv (plainFor_of_name (by decide +kernel)) (Nat.le_of_ble_eq_true rfl) ?_
  intro p e R s m args below meth c Q A ls H locs X I hl hk
  exact b_X12_tryDoors_b X hlv hrec I hl h hk
def f_X12_tryDoors : Nat → Nat → Int32 → Int32 → Int32 → Int32 → Int32 → sgS → Option (Int32 × sgS)
  | 0, _, _, _, _, _, _, _ => none
  | d + 1, N, p1, p2, p3, p4, p5, σ => f_X12_tryDoors_b N (f_X12_tryDoors d N) p1 p2 p3 p4 p5 σ
set_option maxHeartbeats 4000000 in
set_option maxRecDepth 100000 in
theorem cd_X12_tryDoors {l : Launch} {P : sgP} {N : Nat} : ∀ (d : Nat) (p1 : Int32) (p2 : Int32) (p3 : Int32) (p4 : Int32) (p5 : Int32) (σ : sgS) (q : Int32 × sgS), f_X12_tryDoors d N p1 p2 p3 p4 p5 σ = some q → sg_Mv P shM 35 l yX12_tryDoors cX12_tryDoors 8 none (2 + 1 * d) [.ref (sgA P 0), .int p1, .int p2, .int p3, .int p4, .int p5] σ q := by
  intro d
  induction d with
  | zero => intro p1 p2 p3 p4 p5 σ q h; cases h
  | succ d ih =>
    intro p1 p2 p3 p4 p5 σ q h
    have e : 2 + 1 * (d + 1) = 2 + 1 * d + 1 := by omega
    rw [e]
    exact c_X12_tryDoors_b (by omega) ih h
set_option maxHeartbeats 4000000 in
set_option maxRecDepth 100000 in
theorem c_X12_tryDoors {l : Launch} {P : sgP} {N : Nat} {p1 : Int32} {p2 : Int32} {p3 : Int32} {p4 : Int32} {p5 : Int32} {σ : sgS} {q : Int32 × sgS} (h : f_X12_tryDoors 40 N p1 p2 p3 p4 p5 σ = some q) : sg_Mv P shM 35 l yX12_tryDoors cX12_tryDoors 8 none 42 [.ref (sgA P 0), .int p1, .int p2, .int p3, .int p4, .int p5] σ q := cd_X12_tryDoors 40 p1 p2 p3 p4 p5 σ q h
def f_X12_doors (N : Nat) (p1 : Int32) (p2 : Int32) (σ : sgS) : Option (Int32 × sgS) :=
  sg_cr (f_X12_areSome N p1 σ) fun v1 =>
if v1 = 0 then
  (some ((-1), σ))
else
  (sg_cr (f_X12_in N p2 0 1 σ) fun v2 =>
  if v2 = 0 then
    (some ((-1), σ))
  else
    (sg_cl (f_X12_layAway N σ) fun v3 s4 =>
    sg_pf s4 0 46 ((-1)) fun s5 =>
    sg_cl (f_X12_tryDoors 40 N 0 p1 0 0 0 s5) fun v6 s7 =>
    if p2 = 0 then
      (some (s7.1 0 46, s7))
    else
      (some (s7.1 0 47, s7))))
set_option maxHeartbeats 4000000 in
set_option maxRecDepth 100000 in
theorem b_X12_doors {p : Program} {l : Launch} {e : Env} {R : Room} {s : State} {m : MethodId} {args : Array Value} {below : List Frame} {meth : Method} {c : Code} {Q : State → Prop} {P : sgP} {A : Nat → Prop} {N : Nat} {p1 : Int32} {p2 : Int32} {σ : sgS} (X : sg_C P A 43 p R s m args c cX12_doors 3 RX12) {H : Heap} {locs : List Loc} (I : sg_I P shM 35 A s.heap σ H locs) {ls : Array Slot} (hl : lv_has ls 3 [(0, .ref (sgA P 0)), (1, .int p1), (2, .int p2)]) {st : Int32 × sgS} (h : f_X12_doors N p1 p2 σ = some st) (hk : sg_Ri p l e R s m args below meth c Q P shM 35 A cX12_doors (some .int) st) : W p l e R s m args below meth c H locs 0 0 Q (F0 m 0 ls []) := by
  unfold f_X12_doors at h
  have hx := X.1.1
  have hb := X.1.2.1
  have hown := X.1.2.2.2.1
  have hts := X.1.2.2.2.2
  refine lv_aload_n hx hb dX12_doors_0 rfl (lv_at hl 0 rfl) ?_
  refine lv_iload_n hx hb dX12_doors_1 rfl (lv_at hl 1 rfl) ?_
  refine sg_callVr (As := [.int p1]) X I mk_X12_469 (by decide) (by decide) shM_0 rfl (fun q9 e9 => c_X12_areSome e9) h hl.1 rfl rfl (Nat.le_of_ble_eq_true rfl) dX12_doors_2 (fun v1 H locs h I => ?_)
  refine lv_if_eq (tgt := 17) hx hb dX12_doors_5 (by decide) (fun z => ?_) (fun z => ?_)
  · have h := sg_ift h z
    refine lv_iconst (v := -1) hx hb dX12_doors_17 (by decide) ?_
    obtain rfl := Option.some.inj h
    exact hk _ _ _ _ _ I ⟨_, rfl, rfl⟩ dX12_doors_18
  · have h := sg_iff h z
    refine lv_iload_n hx hb dX12_doors_8 rfl (lv_at hl 2 rfl) ?_
    refine lv_iconst (v := 0) hx hb dX12_doors_9 (by decide) ?_
    refine lv_iconst (v := 1) hx hb dX12_doors_10 (by decide) ?_
    refine sg_callSr (As := [.int p2, .int 0, .int 1]) X I mk_X12_235 (by decide) (fun q9 e9 => c_X12_in e9) h hl.1 rfl rfl (Nat.le_of_ble_eq_true rfl) dX12_doors_11 (fun v2 H locs h I => ?_)
    refine lv_if_ne (tgt := 19) hx hb dX12_doors_14 (by decide) (fun z => ?_) (fun z => ?_)
    · have h := sg_iff h z
      refine lv_aload_n hx hb dX12_doors_19 rfl (lv_at hl 0 rfl) ?_
      refine sg_callVv (As := []) X I mk_X12_412 (by decide) (by decide) shM_0 rfl (fun q9 e9 => c_X12_layAway e9) h hl.1 rfl rfl (Nat.le_of_ble_eq_true rfl) dX12_doors_20 (fun v3 s4 H locs h I => ?_)
      refine lv_aload_n hx hb dX12_doors_23 rfl (lv_at hl 0 rfl) ?_
      refine lv_iconst (v := -1) hx hb dX12_doors_24 (by decide) ?_
      refine sg_puti X I fk_X12_418 wk_12_46 rfl rfl (by decide) shM_0 rfl h dX12_doors_25 (fun s5 H locs h I => ?_)
      refine lv_aload_n hx hb dX12_doors_28 rfl (lv_at hl 0 rfl) ?_
      refine lv_iconst (v := 0) hx hb dX12_doors_29 (by decide) ?_
      refine lv_iload_n hx hb dX12_doors_30 rfl (lv_at hl 1 rfl) ?_
      refine lv_iconst (v := 0) hx hb dX12_doors_31 (by decide) ?_
      refine lv_iconst (v := 0) hx hb dX12_doors_32 (by decide) ?_
      refine lv_iconst (v := 0) hx hb dX12_doors_33 (by decide) ?_
      refine sg_callVv (As := [.int 0, .int p1, .int 0, .int 0, .int 0]) X I mk_X12_472 (by decide) (by decide) shM_0 rfl (fun q9 e9 => c_X12_tryDoors e9) h hl.1 rfl rfl (Nat.le_of_ble_eq_true rfl) dX12_doors_34 (fun v6 s7 H locs h I => ?_)
      refine lv_iload_n hx hb dX12_doors_37 rfl (lv_at hl 2 rfl) ?_
      refine lv_if_ne (tgt := 48) hx hb dX12_doors_38 (by decide) (fun z => ?_) (fun z => ?_)
      · have h := sg_iff h z
        refine lv_aload_n hx hb dX12_doors_48 rfl (lv_at hl 0 rfl) ?_
        refine sg_geti X I fk_X12_462 (by decide) shM_0 rfl dX12_doors_49 ?_
        obtain rfl := Option.some.inj h
        exact hk _ _ _ _ _ I ⟨_, rfl, rfl⟩ dX12_doors_52
      · have h := sg_ift h z
        refine lv_aload_n hx hb dX12_doors_41 rfl (lv_at hl 0 rfl) ?_
        refine sg_geti X I fk_X12_418 (by decide) shM_0 rfl dX12_doors_42 ?_
        refine lv_goto (tgt := 52) hx hb dX12_doors_45 (by decide) ?_
        obtain rfl := Option.some.inj h
        exact hk _ _ _ _ _ I ⟨_, rfl, rfl⟩ dX12_doors_52
    · have h := sg_ift h z
      refine lv_iconst (v := -1) hx hb dX12_doors_17 (by decide) ?_
      obtain rfl := Option.some.inj h
      exact hk _ _ _ _ _ I ⟨_, rfl, rfl⟩ dX12_doors_18
set_option maxHeartbeats 4000000 in
set_option maxRecDepth 100000 in
theorem c_X12_doors {l : Launch} {P : sgP} {N : Nat} {p1 : Int32} {p2 : Int32} {σ : sgS} {q : Int32 × sgS} (h : f_X12_doors N p1 p2 σ = some q) : sg_Mi P shM 35 l yX12_doors cX12_doors 3 (some .int) 43 [.ref (sgA P 0), .int p1, .int p2] σ q := by
  refine sg_mki (plainFor_of_name (by decide +kernel)) (Nat.le_of_ble_eq_true rfl) ?_
  intro p e R s m args below meth c Q A ls H locs X I hl hk
  exact b_X12_doors X I hl h hk
def f_X12_gameOf (N : Nat) (p1 : Int32) (p2 : Int32) (p3 : Int32) (σ : sgS) : Option (Int32) :=
  sg_cr (f_X12_isPlace N p2 σ) fun v1 =>
if v1 = 0 then
  (some ((-9)))
else
  (sg_ld σ 21 215 (0 + p1) fun v2 =>
  sg_cr (f_X12_awayOf N v2 p2 σ) fun v3 =>
  if v3 < 100000 then
    (sg_ld σ 16 7 p2 fun v4 =>
    sg_ld σ 21 215 (0 + p1) fun v5 =>
    sg_cr (f_X12_awayOf N v5 p2 σ) fun v6 =>
    if p2 = p3 then
      (sg_nz 2 (
        some (((3 * v4) - v6) / 2)))
    else
      (some ((3 * v4) - v6)))
  else
    (some ((-9))))
set_option maxHeartbeats 4000000 in
set_option maxRecDepth 100000 in
theorem b_X12_gameOf {p : Program} {l : Launch} {e : Env} {R : Room} {s : State} {m : MethodId} {args : Array Value} {below : List Frame} {meth : Method} {c : Code} {Q : State → Prop} {P : sgP} {A : Nat → Prop} {N : Nat} {p1 : Int32} {p2 : Int32} {p3 : Int32} {σ : sgS} (X : sg_C P A 3 p R s m args c cX12_gameOf 5 RX12) {H : Heap} {locs : List Loc} (I : sg_I P shM 35 A s.heap σ H locs) {ls : Array Slot} (hl : lv_has ls 5 [(0, .ref (sgA P 0)), (1, .int p1), (2, .int p2), (3, .int p3)]) {st : Int32} (h : f_X12_gameOf N p1 p2 p3 σ = some st) (hk : sg_Ri p l e R s m args below meth c Q P shM 35 A cX12_gameOf (some .int) (st, σ)) : W p l e R s m args below meth c H locs 0 0 Q (F0 m 0 ls []) := by
  unfold f_X12_gameOf at h
  have hx := X.1.1
  have hb := X.1.2.1
  have hown := X.1.2.2.2.1
  have hts := X.1.2.2.2.2
  refine lv_aload_n hx hb dX12_gameOf_0 rfl (lv_at hl 0 rfl) ?_
  refine lv_iload_n hx hb dX12_gameOf_1 rfl (lv_at hl 2 rfl) ?_
  refine sg_callVr (As := [.int p2]) X I mk_X12_373 (by decide) (by decide) shM_0 rfl (fun q9 e9 => c_X12_isPlace e9) h hl.1 rfl rfl (Nat.le_of_ble_eq_true rfl) dX12_gameOf_2 (fun v1 H locs h I => ?_)
  refine lv_if_eq (tgt := 27) hx hb dX12_gameOf_5 (by decide) (fun z => ?_) (fun z => ?_)
  · have h := sg_ift h z
    refine lv_bipush (v := -9) hx hb dX12_gameOf_27 (by decide) ?_
    obtain rfl := Option.some.inj h
    exact hk _ _ _ _ _ I ⟨_, rfl, rfl⟩ dX12_gameOf_29
  · have h := sg_iff h z
    refine lv_aload_n hx hb dX12_gameOf_8 rfl (lv_at hl 0 rfl) ?_
    refine lv_aload_n hx hb dX12_gameOf_9 rfl (lv_at hl 0 rfl) ?_
    refine sg_getr X I fk_X12_70 (j := 21) (by decide) shM_0 rfl dX12_gameOf_10 ?_
    refine lv_iconst (v := 0) hx hb dX12_gameOf_13 (by decide) ?_
    refine lv_iload_n hx hb dX12_gameOf_14 rfl (lv_at hl 1 rfl) ?_
    refine lv_iadd hx hb dX12_gameOf_15 ?_
    refine sg_iald X I (by decide) shM_21 h dX12_gameOf_16 (fun v2 h => ?_)
    refine lv_iload_n hx hb dX12_gameOf_17 rfl (lv_at hl 2 rfl) ?_
    refine sg_callVr (As := [.int v2, .int p2]) X I mk_X12_415 (by decide) (by decide) shM_0 rfl (fun q9 e9 => c_X12_awayOf e9) h hl.1 rfl rfl (Nat.le_of_ble_eq_true rfl) dX12_gameOf_18 (fun v3 H locs h I => ?_)
    refine lv_ldcw (v := 100000) hx hb hown (hts _ qw_1128) dX12_gameOf_21 ?_
    refine lv_icmp_lt (tgt := 30) hx hb dX12_gameOf_24 (by decide) (fun z => ?_) (fun z => ?_)
    · have h := sg_ift h z
      refine lv_iconst (v := 3) hx hb dX12_gameOf_30 (by decide) ?_
      refine lv_aload_n hx hb dX12_gameOf_31 rfl (lv_at hl 0 rfl) ?_
      refine sg_getr X I fk_X12_55 (j := 16) (by decide) shM_0 rfl dX12_gameOf_32 ?_
      refine lv_iload_n hx hb dX12_gameOf_35 rfl (lv_at hl 2 rfl) ?_
      refine sg_iald X I (by decide) shM_16 h dX12_gameOf_36 (fun v4 h => ?_)
      refine lv_imul hx hb dX12_gameOf_37 ?_
      refine lv_aload_n hx hb dX12_gameOf_38 rfl (lv_at hl 0 rfl) ?_
      refine lv_aload_n hx hb dX12_gameOf_39 rfl (lv_at hl 0 rfl) ?_
      refine sg_getr X I fk_X12_70 (j := 21) (by decide) shM_0 rfl dX12_gameOf_40 ?_
      refine lv_iconst (v := 0) hx hb dX12_gameOf_43 (by decide) ?_
      refine lv_iload_n hx hb dX12_gameOf_44 rfl (lv_at hl 1 rfl) ?_
      refine lv_iadd hx hb dX12_gameOf_45 ?_
      refine sg_iald X I (by decide) shM_21 h dX12_gameOf_46 (fun v5 h => ?_)
      refine lv_iload_n hx hb dX12_gameOf_47 rfl (lv_at hl 2 rfl) ?_
      refine sg_callVr (As := [.int v5, .int p2]) X I mk_X12_415 (by decide) (by decide) shM_0 rfl (fun q9 e9 => c_X12_awayOf e9) h hl.1 rfl rfl (Nat.le_of_ble_eq_true rfl) dX12_gameOf_48 (fun v6 H locs h I => ?_)
      refine lv_isub hx hb dX12_gameOf_51 ?_
      refine lv_istore (lv' := [(4, .int ((3 * v4) - v6)), (0, .ref (sgA P 0)), (1, .int p1), (2, .int p2), (3, .int p3)]) hx hb dX12_gameOf_52 hl (by decide) rfl (fun ls hl => ?_)
      refine lv_iload_n hx hb dX12_gameOf_54 rfl (lv_at hl 3 rfl) ?_
      refine lv_iload_n hx hb dX12_gameOf_55 rfl (lv_at hl 4 rfl) ?_
      refine lv_icmp_ne (tgt := 66) hx hb dX12_gameOf_56 (by decide) (fun z => ?_) (fun z => ?_)
      · have h := sg_iff h z
        refine lv_iload hx hb dX12_gameOf_66 (lv_at hl 0 rfl) ?_
        obtain rfl := Option.some.inj h
        exact hk _ _ _ _ _ I ⟨_, rfl, rfl⟩ dX12_gameOf_68
      · have h := sg_ift h z
        refine lv_iload hx hb dX12_gameOf_59 (lv_at hl 0 rfl) ?_
        refine lv_iconst (v := 2) hx hb dX12_gameOf_61 (by decide) ?_
        refine sg_nzW (h := h) (fun z h => ?_)
        refine lv_idiv hx hb dX12_gameOf_62 z ?_
        refine lv_goto (tgt := 68) hx hb dX12_gameOf_63 (by decide) ?_
        obtain rfl := Option.some.inj h
        exact hk _ _ _ _ _ I ⟨_, rfl, rfl⟩ dX12_gameOf_68
    · have h := sg_iff h z
      refine lv_bipush (v := -9) hx hb dX12_gameOf_27 (by decide) ?_
      obtain rfl := Option.some.inj h
      exact hk _ _ _ _ _ I ⟨_, rfl, rfl⟩ dX12_gameOf_29
set_option maxHeartbeats 4000000 in
set_option maxRecDepth 100000 in
theorem c_X12_gameOf {l : Launch} {P : sgP} {N : Nat} {p1 : Int32} {p2 : Int32} {p3 : Int32} {σ : sgS} {q : Int32} (h : f_X12_gameOf N p1 p2 p3 σ = some q) : sg_Mi P shM 35 l yX12_gameOf cX12_gameOf 5 (some .int) 3 [.ref (sgA P 0), .int p1, .int p2, .int p3] σ (q, σ) := by
  refine sg_mki (plainFor_of_name (by decide +kernel)) (Nat.le_of_ble_eq_true rfl) ?_
  intro p e R s m args below meth c Q A ls H locs X I hl hk
  exact b_X12_gameOf X I hl h hk
def f_X12_areSets (N : Nat) (p1 : Int32) (p2 : Int32) (σ : sgS) : Option (Int32) :=
  sg_cr (f_X12_isSet N p1 σ) fun v1 =>
if v1 = 0 then
  (some (vp_nar .boolean 0))
else
  (sg_cr (f_X12_isSet N p2 σ) fun v2 =>
  if v2 = 0 then
    (some (vp_nar .boolean 0))
  else
    (if p1 = p2 then
      (some (vp_nar .boolean 0))
    else
      (some (vp_nar .boolean 1))))
set_option maxHeartbeats 4000000 in
set_option maxRecDepth 100000 in
theorem b_X12_areSets {p : Program} {l : Launch} {e : Env} {R : Room} {s : State} {m : MethodId} {args : Array Value} {below : List Frame} {meth : Method} {c : Code} {Q : State → Prop} {P : sgP} {A : Nat → Prop} {N : Nat} {p1 : Int32} {p2 : Int32} {σ : sgS} (X : sg_C P A 3 p R s m args c cX12_areSets 3 RX12) {H : Heap} {locs : List Loc} (I : sg_I P shM 35 A s.heap σ H locs) {ls : Array Slot} (hl : lv_has ls 3 [(0, .ref (sgA P 0)), (1, .int p1), (2, .int p2)]) {st : Int32} (h : f_X12_areSets N p1 p2 σ = some st) (hk : sg_Ri p l e R s m args below meth c Q P shM 35 A cX12_areSets (some .boolean) (st, σ)) : W p l e R s m args below meth c H locs 0 0 Q (F0 m 0 ls []) := by
  unfold f_X12_areSets at h
  have hx := X.1.1
  have hb := X.1.2.1
  have hown := X.1.2.2.2.1
  have hts := X.1.2.2.2.2
  refine lv_aload_n hx hb dX12_areSets_0 rfl (lv_at hl 0 rfl) ?_
  refine lv_iload_n hx hb dX12_areSets_1 rfl (lv_at hl 1 rfl) ?_
  refine sg_callVr (As := [.int p1]) X I mk_X12_370 (by decide) (by decide) shM_0 rfl (fun q9 e9 => c_X12_isSet e9) h hl.1 rfl rfl (Nat.le_of_ble_eq_true rfl) dX12_areSets_2 (fun v1 H locs h I => ?_)
  refine lv_if_eq (tgt := 25) hx hb dX12_areSets_5 (by decide) (fun z => ?_) (fun z => ?_)
  · have h := sg_ift h z
    refine lv_iconst (v := 0) hx hb dX12_areSets_25 (by decide) ?_
    obtain rfl := Option.some.inj h
    exact hk _ _ _ _ _ I ⟨_, rfl, rfl⟩ dX12_areSets_26
  · have h := sg_iff h z
    refine lv_aload_n hx hb dX12_areSets_8 rfl (lv_at hl 0 rfl) ?_
    refine lv_iload_n hx hb dX12_areSets_9 rfl (lv_at hl 2 rfl) ?_
    refine sg_callVr (As := [.int p2]) X I mk_X12_370 (by decide) (by decide) shM_0 rfl (fun q9 e9 => c_X12_isSet e9) h hl.1 rfl rfl (Nat.le_of_ble_eq_true rfl) dX12_areSets_10 (fun v2 H locs h I => ?_)
    refine lv_if_eq (tgt := 25) hx hb dX12_areSets_13 (by decide) (fun z => ?_) (fun z => ?_)
    · have h := sg_ift h z
      refine lv_iconst (v := 0) hx hb dX12_areSets_25 (by decide) ?_
      obtain rfl := Option.some.inj h
      exact hk _ _ _ _ _ I ⟨_, rfl, rfl⟩ dX12_areSets_26
    · have h := sg_iff h z
      refine lv_iload_n hx hb dX12_areSets_16 rfl (lv_at hl 1 rfl) ?_
      refine lv_iload_n hx hb dX12_areSets_17 rfl (lv_at hl 2 rfl) ?_
      refine lv_icmp_eq (tgt := 25) hx hb dX12_areSets_18 (by decide) (fun z => ?_) (fun z => ?_)
      · have h := sg_ift h z
        refine lv_iconst (v := 0) hx hb dX12_areSets_25 (by decide) ?_
        obtain rfl := Option.some.inj h
        exact hk _ _ _ _ _ I ⟨_, rfl, rfl⟩ dX12_areSets_26
      · have h := sg_iff h z
        refine lv_iconst (v := 1) hx hb dX12_areSets_21 (by decide) ?_
        refine lv_goto (tgt := 26) hx hb dX12_areSets_22 (by decide) ?_
        obtain rfl := Option.some.inj h
        exact hk _ _ _ _ _ I ⟨_, rfl, rfl⟩ dX12_areSets_26
set_option maxHeartbeats 4000000 in
set_option maxRecDepth 100000 in
theorem c_X12_areSets {l : Launch} {P : sgP} {N : Nat} {p1 : Int32} {p2 : Int32} {σ : sgS} {q : Int32} (h : f_X12_areSets N p1 p2 σ = some q) : sg_Mi P shM 35 l yX12_areSets cX12_areSets 3 (some .boolean) 3 [.ref (sgA P 0), .int p1, .int p2] σ (q, σ) := by
  refine sg_mki (plainFor_of_name (by decide +kernel)) (Nat.le_of_ble_eq_true rfl) ?_
  intro p e R s m args below meth c Q A ls H locs X I hl hk
  exact b_X12_areSets X I hl h hk
def f_X12_game (N : Nat) (p1 : Int32) (p2 : Int32) (p3 : Int32) (p4 : Int32) (p5 : Int32) (σ : sgS) : Option (Int32 × sgS) :=
  sg_cr (f_X12_areSets N p1 p2 σ) fun v1 =>
if v1 = 0 then
  (some ((-1000000), σ))
else
  (sg_cr (f_X12_in N p3 0 6 σ) fun v2 =>
  if v2 = 0 then
    (some ((-1000000), σ))
  else
    (sg_cr (f_X12_in N p4 0 6 σ) fun v3 =>
    if v3 = 0 then
      (some ((-1000000), σ))
    else
      (sg_cr (f_X12_in N p5 0 1 σ) fun v4 =>
      if v4 = 0 then
        (some ((-1000000), σ))
      else
        (sg_cl (f_X12_layAway N σ) fun v5 s6 =>
        if p5 = 0 then
          (sg_cr (f_X12_gameOf N p1 p3 p4 s6) fun v8 =>
          some (v8, s6))
        else
          (sg_cr (f_X12_gameOf N p2 p4 p3 s6) fun v7 =>
          some (v7, s6))))))
set_option maxHeartbeats 4000000 in
set_option maxRecDepth 100000 in
theorem b_X12_game {p : Program} {l : Launch} {e : Env} {R : Room} {s : State} {m : MethodId} {args : Array Value} {below : List Frame} {meth : Method} {c : Code} {Q : State → Prop} {P : sgP} {A : Nat → Prop} {N : Nat} {p1 : Int32} {p2 : Int32} {p3 : Int32} {p4 : Int32} {p5 : Int32} {σ : sgS} (X : sg_C P A 9 p R s m args c cX12_game 6 RX12) {H : Heap} {locs : List Loc} (I : sg_I P shM 35 A s.heap σ H locs) {ls : Array Slot} (hl : lv_has ls 6 [(0, .ref (sgA P 0)), (1, .int p1), (2, .int p2), (3, .int p3), (4, .int p4), (5, .int p5)]) {st : Int32 × sgS} (h : f_X12_game N p1 p2 p3 p4 p5 σ = some st) (hk : sg_Ri p l e R s m args below meth c Q P shM 35 A cX12_game (some .int) st) : W p l e R s m args below meth c H locs 0 0 Q (F0 m 0 ls []) := by
  unfold f_X12_game at h
  have hx := X.1.1
  have hb := X.1.2.1
  have hown := X.1.2.2.2.1
  have hts := X.1.2.2.2.2
  refine lv_aload_n hx hb dX12_game_0 rfl (lv_at hl 0 rfl) ?_
  refine lv_iload_n hx hb dX12_game_1 rfl (lv_at hl 1 rfl) ?_
  refine lv_iload_n hx hb dX12_game_2 rfl (lv_at hl 2 rfl) ?_
  refine sg_callVr (As := [.int p1, .int p2]) X I mk_X12_475 (by decide) (by decide) shM_0 rfl (fun q9 e9 => c_X12_areSets e9) h hl.1 rfl rfl (Nat.le_of_ble_eq_true rfl) dX12_game_3 (fun v1 H locs h I => ?_)
  refine lv_if_eq (tgt := 40) hx hb dX12_game_6 (by decide) (fun z => ?_) (fun z => ?_)
  · have h := sg_ift h z
    refine lv_ldcw (v := -1000000) hx hb hown (hts _ qw_1389) dX12_game_40 ?_
    obtain rfl := Option.some.inj h
    exact hk _ _ _ _ _ I ⟨_, rfl, rfl⟩ dX12_game_43
  · have h := sg_iff h z
    refine lv_iload_n hx hb dX12_game_9 rfl (lv_at hl 3 rfl) ?_
    refine lv_iconst (v := 0) hx hb dX12_game_10 (by decide) ?_
    refine lv_bipush (v := 6) hx hb dX12_game_11 (by decide) ?_
    refine sg_callSr (As := [.int p3, .int 0, .int 6]) X I mk_X12_235 (by decide) (fun q9 e9 => c_X12_in e9) h hl.1 rfl rfl (Nat.le_of_ble_eq_true rfl) dX12_game_13 (fun v2 H locs h I => ?_)
    refine lv_if_eq (tgt := 40) hx hb dX12_game_16 (by decide) (fun z => ?_) (fun z => ?_)
    · have h := sg_ift h z
      refine lv_ldcw (v := -1000000) hx hb hown (hts _ qw_1389) dX12_game_40 ?_
      obtain rfl := Option.some.inj h
      exact hk _ _ _ _ _ I ⟨_, rfl, rfl⟩ dX12_game_43
    · have h := sg_iff h z
      refine lv_iload hx hb dX12_game_19 (lv_at hl 4 rfl) ?_
      refine lv_iconst (v := 0) hx hb dX12_game_21 (by decide) ?_
      refine lv_bipush (v := 6) hx hb dX12_game_22 (by decide) ?_
      refine sg_callSr (As := [.int p4, .int 0, .int 6]) X I mk_X12_235 (by decide) (fun q9 e9 => c_X12_in e9) h hl.1 rfl rfl (Nat.le_of_ble_eq_true rfl) dX12_game_24 (fun v3 H locs h I => ?_)
      refine lv_if_eq (tgt := 40) hx hb dX12_game_27 (by decide) (fun z => ?_) (fun z => ?_)
      · have h := sg_ift h z
        refine lv_ldcw (v := -1000000) hx hb hown (hts _ qw_1389) dX12_game_40 ?_
        obtain rfl := Option.some.inj h
        exact hk _ _ _ _ _ I ⟨_, rfl, rfl⟩ dX12_game_43
      · have h := sg_iff h z
        refine lv_iload hx hb dX12_game_30 (lv_at hl 5 rfl) ?_
        refine lv_iconst (v := 0) hx hb dX12_game_32 (by decide) ?_
        refine lv_iconst (v := 1) hx hb dX12_game_33 (by decide) ?_
        refine sg_callSr (As := [.int p5, .int 0, .int 1]) X I mk_X12_235 (by decide) (fun q9 e9 => c_X12_in e9) h hl.1 rfl rfl (Nat.le_of_ble_eq_true rfl) dX12_game_34 (fun v4 H locs h I => ?_)
        refine lv_if_ne (tgt := 44) hx hb dX12_game_37 (by decide) (fun z => ?_) (fun z => ?_)
        · have h := sg_iff h z
          refine lv_aload_n hx hb dX12_game_44 rfl (lv_at hl 0 rfl) ?_
          refine sg_callVv (As := []) X I mk_X12_412 (by decide) (by decide) shM_0 rfl (fun q9 e9 => c_X12_layAway e9) h hl.1 rfl rfl (Nat.le_of_ble_eq_true rfl) dX12_game_45 (fun v5 s6 H locs h I => ?_)
          refine lv_iload hx hb dX12_game_48 (lv_at hl 5 rfl) ?_
          refine lv_if_ne (tgt := 64) hx hb dX12_game_50 (by decide) (fun z => ?_) (fun z => ?_)
          · have h := sg_iff h z
            refine lv_aload_n hx hb dX12_game_64 rfl (lv_at hl 0 rfl) ?_
            refine lv_iload_n hx hb dX12_game_65 rfl (lv_at hl 2 rfl) ?_
            refine lv_iload hx hb dX12_game_66 (lv_at hl 4 rfl) ?_
            refine lv_iload_n hx hb dX12_game_68 rfl (lv_at hl 3 rfl) ?_
            refine sg_callVr (As := [.int p2, .int p4, .int p3]) X I mk_X12_479 (by decide) (by decide) shM_0 rfl (fun q9 e9 => c_X12_gameOf e9) h hl.1 rfl rfl (Nat.le_of_ble_eq_true rfl) dX12_game_69 (fun v7 H locs h I => ?_)
            obtain rfl := Option.some.inj h
            exact hk _ _ _ _ _ I ⟨_, rfl, rfl⟩ dX12_game_72
          · have h := sg_ift h z
            refine lv_aload_n hx hb dX12_game_53 rfl (lv_at hl 0 rfl) ?_
            refine lv_iload_n hx hb dX12_game_54 rfl (lv_at hl 1 rfl) ?_
            refine lv_iload_n hx hb dX12_game_55 rfl (lv_at hl 3 rfl) ?_
            refine lv_iload hx hb dX12_game_56 (lv_at hl 4 rfl) ?_
            refine sg_callVr (As := [.int p1, .int p3, .int p4]) X I mk_X12_479 (by decide) (by decide) shM_0 rfl (fun q9 e9 => c_X12_gameOf e9) h hl.1 rfl rfl (Nat.le_of_ble_eq_true rfl) dX12_game_58 (fun v8 H locs h I => ?_)
            refine lv_goto (tgt := 72) hx hb dX12_game_61 (by decide) ?_
            obtain rfl := Option.some.inj h
            exact hk _ _ _ _ _ I ⟨_, rfl, rfl⟩ dX12_game_72
        · have h := sg_ift h z
          refine lv_ldcw (v := -1000000) hx hb hown (hts _ qw_1389) dX12_game_40 ?_
          obtain rfl := Option.some.inj h
          exact hk _ _ _ _ _ I ⟨_, rfl, rfl⟩ dX12_game_43
set_option maxHeartbeats 4000000 in
set_option maxRecDepth 100000 in
theorem c_X12_game {l : Launch} {P : sgP} {N : Nat} {p1 : Int32} {p2 : Int32} {p3 : Int32} {p4 : Int32} {p5 : Int32} {σ : sgS} {q : Int32 × sgS} (h : f_X12_game N p1 p2 p3 p4 p5 σ = some q) : sg_Mi P shM 35 l yX12_game cX12_game 6 (some .int) 9 [.ref (sgA P 0), .int p1, .int p2, .int p3, .int p4, .int p5] σ q := by
  refine sg_mki (plainFor_of_name (by decide +kernel)) (Nat.le_of_ble_eq_true rfl) ?_
  intro p e R s m args below meth c Q A ls H locs X I hl hk
  exact b_X12_game X I hl h hk
def f_X12_isRest_L3 (N : Nat) (p1 : Int32) (p2 : Int32) (p3 : Int32) (p4 : Int32) (x5 : Int32) (σ : sgS) : Option ((Int32) ⊕ ((Int32) ⊕ (Unit))) :=
  if (σ.1 0 28) ≤ x5 then
  (some (.inr (.inr ())))
else
  (sg_cr (f_X12_gameOf N p1 x5 p4 σ) fun v1 =>
  sg_cr (f_X12_gameOf N p1 p3 p4 σ) fun v2 =>
  if v2 < v1 then
    (some (.inl (vp_nar .boolean 0)))
  else
    (sg_cr (f_X12_gameOf N p2 x5 p3 σ) fun v3 =>
    sg_cr (f_X12_gameOf N p2 p4 p3 σ) fun v4 =>
    if v3 ≤ v4 then
      (some (.inr (.inl (x5 + 1))))
    else
      (some (.inl (vp_nar .boolean 0)))))
set_option maxHeartbeats 4000000 in
set_option maxRecDepth 100000 in
theorem b_X12_isRest_L3 {p : Program} {l : Launch} {e : Env} {R : Room} {s : State} {m : MethodId} {args : Array Value} {below : List Frame} {meth : Method} {c : Code} {Q : State → Prop} {P : sgP} {A : Nat → Prop} {N : Nat} {p1 : Int32} {p2 : Int32} {p3 : Int32} {p4 : Int32} {x5 : Int32} {σ : sgS} (X : sg_C P A 4 p R s m args c cX12_isRest 6 RX12) {H : Heap} {locs : List Loc} (I : sg_I P shM 35 A s.heap σ H locs) {ls : Array Slot} (hl : lv_has ls 6 [(0, .ref (sgA P 0)), (1, .int p1), (2, .int p2), (3, .int p3), (4, .int p4), (5, .int x5)]) {st : (Int32) ⊕ ((Int32) ⊕ (Unit))} (h : f_X12_isRest_L3 N p1 p2 p3 p4 x5 σ = some st) (hk : sg_k3 (fun r => sg_Ri p l e R s m args below meth c Q P shM 35 A cX12_isRest (some .boolean) (r, σ)) (fun x => sg_Wt p l e R s m args below meth c Q P shM 35 A 6 3 σ [(0, .ref (sgA P 0)), (1, .int p1), (2, .int p2), (3, .int p3), (4, .int p4), (5, .int x)]) (fun y => sg_Wt p l e R s m args below meth c Q P shM 35 A 6 59 σ []) st) : W p l e R s m args below meth c H locs 0 0 Q (F0 m 3 ls []) := by
  unfold f_X12_isRest_L3 at h
  have hx := X.1.1
  have hb := X.1.2.1
  have hown := X.1.2.2.2.1
  have hts := X.1.2.2.2.2
  refine lv_iload hx hb dX12_isRest_3 (lv_at hl 5 rfl) ?_
  refine lv_aload_n hx hb dX12_isRest_5 rfl (lv_at hl 0 rfl) ?_
  refine sg_geti X I fk_X12_288 (by decide) shM_0 rfl dX12_isRest_6 ?_
  refine lv_icmp_ge (tgt := 59) hx hb dX12_isRest_9 (by decide) (fun z => ?_) (fun z => ?_)
  · have h := sg_ift h z
    obtain rfl := Option.some.inj h
    exact sg_go hk I (lv_sub hl [] rfl)
  · have h := sg_iff h z
    refine lv_aload_n hx hb dX12_isRest_12 rfl (lv_at hl 0 rfl) ?_
    refine lv_iload_n hx hb dX12_isRest_13 rfl (lv_at hl 1 rfl) ?_
    refine lv_iload hx hb dX12_isRest_14 (lv_at hl 5 rfl) ?_
    refine lv_iload hx hb dX12_isRest_16 (lv_at hl 4 rfl) ?_
    refine sg_callVr (As := [.int p1, .int x5, .int p4]) X I mk_X12_479 (by decide) (by decide) shM_0 rfl (fun q9 e9 => c_X12_gameOf e9) h hl.1 rfl rfl (Nat.le_of_ble_eq_true rfl) dX12_isRest_18 (fun v1 H locs h I => ?_)
    refine lv_aload_n hx hb dX12_isRest_21 rfl (lv_at hl 0 rfl) ?_
    refine lv_iload_n hx hb dX12_isRest_22 rfl (lv_at hl 1 rfl) ?_
    refine lv_iload_n hx hb dX12_isRest_23 rfl (lv_at hl 3 rfl) ?_
    refine lv_iload hx hb dX12_isRest_24 (lv_at hl 4 rfl) ?_
    refine sg_callVr (As := [.int p1, .int p3, .int p4]) X I mk_X12_479 (by decide) (by decide) shM_0 rfl (fun q9 e9 => c_X12_gameOf e9) h hl.1 rfl rfl (Nat.le_of_ble_eq_true rfl) dX12_isRest_26 (fun v2 H locs h I => ?_)
    refine lv_icmp_gt (tgt := 51) hx hb dX12_isRest_29 (by decide) (fun z => ?_) (fun z => ?_)
    · have h := sg_ift h z
      refine lv_iconst (v := 0) hx hb dX12_isRest_51 (by decide) ?_
      obtain rfl := Option.some.inj h
      exact hk _ _ _ _ _ I ⟨_, rfl, rfl⟩ dX12_isRest_52
    · have h := sg_iff h z
      refine lv_aload_n hx hb dX12_isRest_32 rfl (lv_at hl 0 rfl) ?_
      refine lv_iload_n hx hb dX12_isRest_33 rfl (lv_at hl 2 rfl) ?_
      refine lv_iload hx hb dX12_isRest_34 (lv_at hl 5 rfl) ?_
      refine lv_iload_n hx hb dX12_isRest_36 rfl (lv_at hl 3 rfl) ?_
      refine sg_callVr (As := [.int p2, .int x5, .int p3]) X I mk_X12_479 (by decide) (by decide) shM_0 rfl (fun q9 e9 => c_X12_gameOf e9) h hl.1 rfl rfl (Nat.le_of_ble_eq_true rfl) dX12_isRest_37 (fun v3 H locs h I => ?_)
      refine lv_aload_n hx hb dX12_isRest_40 rfl (lv_at hl 0 rfl) ?_
      refine lv_iload_n hx hb dX12_isRest_41 rfl (lv_at hl 2 rfl) ?_
      refine lv_iload hx hb dX12_isRest_42 (lv_at hl 4 rfl) ?_
      refine lv_iload_n hx hb dX12_isRest_44 rfl (lv_at hl 3 rfl) ?_
      refine sg_callVr (As := [.int p2, .int p4, .int p3]) X I mk_X12_479 (by decide) (by decide) shM_0 rfl (fun q9 e9 => c_X12_gameOf e9) h hl.1 rfl rfl (Nat.le_of_ble_eq_true rfl) dX12_isRest_45 (fun v4 H locs h I => ?_)
      refine lv_icmp_le (tgt := 53) hx hb dX12_isRest_48 (by decide) (fun z => ?_) (fun z => ?_)
      · have h := sg_ift h z
        refine lv_iinc (v := x5 + 1) (lv' := [(5, .int (x5 + 1)), (0, .ref (sgA P 0)), (1, .int p1), (2, .int p2), (3, .int p3), (4, .int p4)]) hx hb dX12_isRest_53 hl (k := 5) rfl rfl (by decide) rfl (fun ls hl => ?_)
        refine lv_goto (tgt := 3) hx hb dX12_isRest_56 (by decide) ?_
        obtain rfl := Option.some.inj h
        exact sg_go hk I (lv_sub hl [1, 2, 3, 4, 5, 0] rfl)
      · have h := sg_iff h z
        refine lv_iconst (v := 0) hx hb dX12_isRest_51 (by decide) ?_
        obtain rfl := Option.some.inj h
        exact hk _ _ _ _ _ I ⟨_, rfl, rfl⟩ dX12_isRest_52
def f_X12_isRest (N : Nat) (p1 : Int32) (p2 : Int32) (p3 : Int32) (p4 : Int32) (σ : sgS) : Option (Int32) :=
  sg_lb (sg_lp (fun x => f_X12_isRest_L3 N p1 p2 p3 p4 x σ) N 0) (fun r => some r) fun y5 =>
some (vp_nar .boolean 1)
set_option maxHeartbeats 4000000 in
set_option maxRecDepth 100000 in
theorem b_X12_isRest {p : Program} {l : Launch} {e : Env} {R : Room} {s : State} {m : MethodId} {args : Array Value} {below : List Frame} {meth : Method} {c : Code} {Q : State → Prop} {P : sgP} {A : Nat → Prop} {N : Nat} {p1 : Int32} {p2 : Int32} {p3 : Int32} {p4 : Int32} {σ : sgS} (X : sg_C P A 4 p R s m args c cX12_isRest 6 RX12) {H : Heap} {locs : List Loc} (I : sg_I P shM 35 A s.heap σ H locs) {ls : Array Slot} (hl : lv_has ls 6 [(0, .ref (sgA P 0)), (1, .int p1), (2, .int p2), (3, .int p3), (4, .int p4)]) {st : Int32} (h : f_X12_isRest N p1 p2 p3 p4 σ = some st) (hk : sg_Ri p l e R s m args below meth c Q P shM 35 A cX12_isRest (some .boolean) (st, σ)) : W p l e R s m args below meth c H locs 0 0 Q (F0 m 0 ls []) := by
  unfold f_X12_isRest at h
  have hx := X.1.1
  have hb := X.1.2.1
  have hown := X.1.2.2.2.1
  have hts := X.1.2.2.2.2
  refine lv_iconst (v := 0) hx hb dX12_isRest_0 (by decide) ?_
  refine lv_istore (lv' := [(5, .int 0), (0, .ref (sgA P 0)), (1, .int p1), (2, .int p2), (3, .int p3), (4, .int p4)]) hx hb dX12_isRest_1 hl (by decide) rfl (fun ls hl => ?_)
  obtain ⟨res, e9, k9⟩ := sg_lb_some h
  refine sg_go (sg_lp_W (a := (fun r => sg_Ri p l e R s m args below meth c Q P shM 35 A cX12_isRest (some .boolean) (r, σ))) (w := (fun x => sg_Wt p l e R s m args below meth c Q P shM 35 A 6 3 σ [(0, .ref (sgA P 0)), (1, .int p1), (2, .int p2), (3, .int p3), (4, .int p4), (5, .int x)])) (c := (fun y => sg_Wt p l e R s m args below meth c Q P shM 35 A 6 59 σ [])) (fun x st hb9 hk9 => ?_) N 0 res e9 (sg_k2_mono k9 (fun r h => ?_) (fun y5 h => ?_))) I (lv_sub hl [1, 2, 3, 4, 5, 0] rfl)
  · intro H locs ls I hl
    exact b_X12_isRest_L3 X I hl hb9 hk9
  · obtain rfl := Option.some.inj h
    exact hk
  · intro H locs ls I hl
    refine lv_iconst (v := 1) hx hb dX12_isRest_59 (by decide) ?_
    obtain rfl := Option.some.inj h
    exact hk _ _ _ _ _ I ⟨_, rfl, rfl⟩ dX12_isRest_60
set_option maxHeartbeats 4000000 in
set_option maxRecDepth 100000 in
theorem c_X12_isRest {l : Launch} {P : sgP} {N : Nat} {p1 : Int32} {p2 : Int32} {p3 : Int32} {p4 : Int32} {σ : sgS} {q : Int32} (h : f_X12_isRest N p1 p2 p3 p4 σ = some q) : sg_Mi P shM 35 l yX12_isRest cX12_isRest 6 (some .boolean) 4 [.ref (sgA P 0), .int p1, .int p2, .int p3, .int p4] σ (q, σ) := by
  refine sg_mki (plainFor_of_name (by decide +kernel)) (Nat.le_of_ble_eq_true rfl) ?_
  intro p e R s m args below meth c Q A ls H locs X I hl hk
  exact b_X12_isRest X I hl h hk
def f_X12_rests_L26 (N : Nat) (p1 : Int32) (p2 : Int32) (p3 : Int32) (x4 : Int32) (x5 : Int32) (σ : sgS) : Option ((Int32 × sgS) ⊕ ((Int32 × Int32) ⊕ (Int32))) :=
  if ((σ.1 0 28) * (σ.1 0 28)) ≤ x5 then
  (some (.inr (.inr x4)))
else
  (sg_nz (σ.1 0 28) (
    sg_nz (σ.1 0 28) (
      sg_cr (f_X12_isRest N p1 p2 (x5 / (σ.1 0 28)) (x5 - x5 / (σ.1 0 28) * (σ.1 0 28)) σ) fun v4 =>
      if v4 = 0 then
        (some (.inr (.inl (x4, x5 + 1))))
      else
        (if x4 = p3 then
          (sg_nz (σ.1 0 28) (
            sg_nz (σ.1 0 28) (
              some (.inl ((10 * (x5 / (σ.1 0 28))) + (x5 - x5 / (σ.1 0 28) * (σ.1 0 28)), σ)))))
        else
          (some (.inr (.inl (x4 + 1, x5 + 1))))))))
set_option maxHeartbeats 4000000 in
set_option maxRecDepth 100000 in
theorem b_X12_rests_L26 {p : Program} {l : Launch} {e : Env} {R : Room} {s : State} {m : MethodId} {args : Array Value} {below : List Frame} {meth : Method} {c : Code} {Q : State → Prop} {P : sgP} {A : Nat → Prop} {N : Nat} {p1 : Int32} {p2 : Int32} {p3 : Int32} {x4 : Int32} {x5 : Int32} {σ : sgS} (X : sg_C P A 9 p R s m args c cX12_rests 6 RX12) {H : Heap} {locs : List Loc} (I : sg_I P shM 35 A s.heap σ H locs) {ls : Array Slot} (hl : lv_has ls 6 [(0, .ref (sgA P 0)), (1, .int p1), (2, .int p2), (3, .int p3), (4, .int x4), (5, .int x5)]) {st : (Int32 × sgS) ⊕ ((Int32 × Int32) ⊕ (Int32))} (h : f_X12_rests_L26 N p1 p2 p3 x4 x5 σ = some st) (hk : sg_k3 (sg_Ri p l e R s m args below meth c Q P shM 35 A cX12_rests (some .int)) (fun x => sg_Wt p l e R s m args below meth c Q P shM 35 A 6 26 σ [(0, .ref (sgA P 0)), (1, .int p1), (2, .int p2), (3, .int p3), (4, .int x.1), (5, .int x.2)]) (fun y => sg_Wt p l e R s m args below meth c Q P shM 35 A 6 97 σ [(3, .int p3), (4, .int y)]) st) : W p l e R s m args below meth c H locs 0 0 Q (F0 m 26 ls []) := by
  unfold f_X12_rests_L26 at h
  have hx := X.1.1
  have hb := X.1.2.1
  have hown := X.1.2.2.2.1
  have hts := X.1.2.2.2.2
  refine lv_iload hx hb dX12_rests_26 (lv_at hl 5 rfl) ?_
  refine lv_aload_n hx hb dX12_rests_28 rfl (lv_at hl 0 rfl) ?_
  refine sg_geti X I fk_X12_288 (by decide) shM_0 rfl dX12_rests_29 ?_
  refine lv_aload_n hx hb dX12_rests_32 rfl (lv_at hl 0 rfl) ?_
  refine sg_geti X I fk_X12_288 (by decide) shM_0 rfl dX12_rests_33 ?_
  refine lv_imul hx hb dX12_rests_36 ?_
  refine lv_icmp_ge (tgt := 97) hx hb dX12_rests_37 (by decide) (fun z => ?_) (fun z => ?_)
  · have h := sg_ift h z
    obtain rfl := Option.some.inj h
    exact sg_go hk I (lv_sub hl [3, 4] rfl)
  · have h := sg_iff h z
    refine lv_aload_n hx hb dX12_rests_40 rfl (lv_at hl 0 rfl) ?_
    refine lv_iload_n hx hb dX12_rests_41 rfl (lv_at hl 1 rfl) ?_
    refine lv_iload_n hx hb dX12_rests_42 rfl (lv_at hl 2 rfl) ?_
    refine lv_iload hx hb dX12_rests_43 (lv_at hl 5 rfl) ?_
    refine lv_aload_n hx hb dX12_rests_45 rfl (lv_at hl 0 rfl) ?_
    refine sg_geti X I fk_X12_288 (by decide) shM_0 rfl dX12_rests_46 ?_
    refine sg_nzW (h := h) (fun z h => ?_)
    refine lv_idiv hx hb dX12_rests_49 z ?_
    refine lv_iload hx hb dX12_rests_50 (lv_at hl 5 rfl) ?_
    refine lv_aload_n hx hb dX12_rests_52 rfl (lv_at hl 0 rfl) ?_
    refine sg_geti X I fk_X12_288 (by decide) shM_0 rfl dX12_rests_53 ?_
    refine sg_nzW (h := h) (fun z h => ?_)
    refine lv_irem hx hb dX12_rests_56 z ?_
    refine sg_callVr (As := [.int p1, .int p2, .int (x5 / (σ.1 0 28)), .int (x5 - x5 / (σ.1 0 28) * (σ.1 0 28))]) X I mk_X12_482 (by decide) (by decide) shM_0 rfl (fun q9 e9 => c_X12_isRest e9) h hl.1 rfl rfl (Nat.le_of_ble_eq_true rfl) dX12_rests_57 (fun v4 H locs h I => ?_)
    refine lv_if_eq (tgt := 91) hx hb dX12_rests_60 (by decide) (fun z => ?_) (fun z => ?_)
    · have h := sg_ift h z
      refine lv_iinc (v := x5 + 1) (lv' := [(5, .int (x5 + 1)), (0, .ref (sgA P 0)), (1, .int p1), (2, .int p2), (3, .int p3), (4, .int x4)]) hx hb dX12_rests_91 hl (k := 5) rfl rfl (by decide) rfl (fun ls hl => ?_)
      refine lv_goto (tgt := 26) hx hb dX12_rests_94 (by decide) ?_
      obtain rfl := Option.some.inj h
      exact sg_go hk I (lv_sub hl [1, 2, 3, 4, 5, 0] rfl)
    · have h := sg_iff h z
      refine lv_iload hx hb dX12_rests_63 (lv_at hl 4 rfl) ?_
      refine lv_iload_n hx hb dX12_rests_65 rfl (lv_at hl 3 rfl) ?_
      refine lv_icmp_ne (tgt := 88) hx hb dX12_rests_66 (by decide) (fun z => ?_) (fun z => ?_)
      · have h := sg_iff h z
        refine lv_iinc (v := x4 + 1) (lv' := [(4, .int (x4 + 1)), (0, .ref (sgA P 0)), (1, .int p1), (2, .int p2), (3, .int p3), (5, .int x5)]) hx hb dX12_rests_88 hl (k := 4) rfl rfl (by decide) rfl (fun ls hl => ?_)
        refine lv_iinc (v := x5 + 1) (lv' := [(5, .int (x5 + 1)), (4, .int (x4 + 1)), (0, .ref (sgA P 0)), (1, .int p1), (2, .int p2), (3, .int p3)]) hx hb dX12_rests_91 hl (k := 5) rfl rfl (by decide) rfl (fun ls hl => ?_)
        refine lv_goto (tgt := 26) hx hb dX12_rests_94 (by decide) ?_
        obtain rfl := Option.some.inj h
        exact sg_go hk I (lv_sub hl [2, 3, 4, 5, 1, 0] rfl)
      · have h := sg_ift h z
        refine lv_bipush (v := 10) hx hb dX12_rests_69 (by decide) ?_
        refine lv_iload hx hb dX12_rests_71 (lv_at hl 5 rfl) ?_
        refine lv_aload_n hx hb dX12_rests_73 rfl (lv_at hl 0 rfl) ?_
        refine sg_geti X I fk_X12_288 (by decide) shM_0 rfl dX12_rests_74 ?_
        refine sg_nzW (h := h) (fun z h => ?_)
        refine lv_idiv hx hb dX12_rests_77 z ?_
        refine lv_imul hx hb dX12_rests_78 ?_
        refine lv_iload hx hb dX12_rests_79 (lv_at hl 5 rfl) ?_
        refine lv_aload_n hx hb dX12_rests_81 rfl (lv_at hl 0 rfl) ?_
        refine sg_geti X I fk_X12_288 (by decide) shM_0 rfl dX12_rests_82 ?_
        refine sg_nzW (h := h) (fun z h => ?_)
        refine lv_irem hx hb dX12_rests_85 z ?_
        refine lv_iadd hx hb dX12_rests_86 ?_
        obtain rfl := Option.some.inj h
        exact hk _ _ _ _ _ I ⟨_, rfl, rfl⟩ dX12_rests_87
def f_X12_rests (N : Nat) (p1 : Int32) (p2 : Int32) (p3 : Int32) (σ : sgS) : Option (Int32 × sgS) :=
  sg_cr (f_X12_areSets N p1 p2 σ) fun v1 =>
if v1 = 0 then
  (some ((-1), σ))
else
  (if ((-1)) ≤ p3 then
    (sg_cl (f_X12_layAway N σ) fun v2 s3 =>
    sg_lb (sg_lp (fun x => f_X12_rests_L26 N p1 p2 p3 x.1 x.2 s3) N ((0, 0))) (fun r => some r) fun y5 =>
    if p3 = ((-1)) then
      (some (y5, s3))
    else
      (some ((-1), s3)))
  else
    (some ((-1), σ)))
set_option maxHeartbeats 4000000 in
set_option maxRecDepth 100000 in
theorem b_X12_rests {p : Program} {l : Launch} {e : Env} {R : Room} {s : State} {m : MethodId} {args : Array Value} {below : List Frame} {meth : Method} {c : Code} {Q : State → Prop} {P : sgP} {A : Nat → Prop} {N : Nat} {p1 : Int32} {p2 : Int32} {p3 : Int32} {σ : sgS} (X : sg_C P A 9 p R s m args c cX12_rests 6 RX12) {H : Heap} {locs : List Loc} (I : sg_I P shM 35 A s.heap σ H locs) {ls : Array Slot} (hl : lv_has ls 6 [(0, .ref (sgA P 0)), (1, .int p1), (2, .int p2), (3, .int p3)]) {st : Int32 × sgS} (h : f_X12_rests N p1 p2 p3 σ = some st) (hk : sg_Ri p l e R s m args below meth c Q P shM 35 A cX12_rests (some .int) st) : W p l e R s m args below meth c H locs 0 0 Q (F0 m 0 ls []) := by
  unfold f_X12_rests at h
  have hx := X.1.1
  have hb := X.1.2.1
  have hown := X.1.2.2.2.1
  have hts := X.1.2.2.2.2
  refine lv_aload_n hx hb dX12_rests_0 rfl (lv_at hl 0 rfl) ?_
  refine lv_iload_n hx hb dX12_rests_1 rfl (lv_at hl 1 rfl) ?_
  refine lv_iload_n hx hb dX12_rests_2 rfl (lv_at hl 2 rfl) ?_
  refine sg_callVr (As := [.int p1, .int p2]) X I mk_X12_475 (by decide) (by decide) shM_0 rfl (fun q9 e9 => c_X12_areSets e9) h hl.1 rfl rfl (Nat.le_of_ble_eq_true rfl) dX12_rests_3 (fun v1 H locs h I => ?_)
  refine lv_if_eq (tgt := 14) hx hb dX12_rests_6 (by decide) (fun z => ?_) (fun z => ?_)
  · have h := sg_ift h z
    refine lv_iconst (v := -1) hx hb dX12_rests_14 (by decide) ?_
    obtain rfl := Option.some.inj h
    exact hk _ _ _ _ _ I ⟨_, rfl, rfl⟩ dX12_rests_15
  · have h := sg_iff h z
    refine lv_iload_n hx hb dX12_rests_9 rfl (lv_at hl 3 rfl) ?_
    refine lv_iconst (v := -1) hx hb dX12_rests_10 (by decide) ?_
    refine lv_icmp_ge (tgt := 16) hx hb dX12_rests_11 (by decide) (fun z => ?_) (fun z => ?_)
    · have h := sg_ift h z
      refine lv_aload_n hx hb dX12_rests_16 rfl (lv_at hl 0 rfl) ?_
      refine sg_callVv (As := []) X I mk_X12_412 (by decide) (by decide) shM_0 rfl (fun q9 e9 => c_X12_layAway e9) h hl.1 rfl rfl (Nat.le_of_ble_eq_true rfl) dX12_rests_17 (fun v2 s3 H locs h I => ?_)
      refine lv_iconst (v := 0) hx hb dX12_rests_20 (by decide) ?_
      refine lv_istore (lv' := [(4, .int 0), (0, .ref (sgA P 0)), (1, .int p1), (2, .int p2), (3, .int p3)]) hx hb dX12_rests_21 hl (by decide) rfl (fun ls hl => ?_)
      refine lv_iconst (v := 0) hx hb dX12_rests_23 (by decide) ?_
      refine lv_istore (lv' := [(5, .int 0), (4, .int 0), (0, .ref (sgA P 0)), (1, .int p1), (2, .int p2), (3, .int p3)]) hx hb dX12_rests_24 hl (by decide) rfl (fun ls hl => ?_)
      obtain ⟨res, e9, k9⟩ := sg_lb_some h
      refine sg_go (sg_lp_W (a := (sg_Ri p l e R s m args below meth c Q P shM 35 A cX12_rests (some .int))) (w := (fun x => sg_Wt p l e R s m args below meth c Q P shM 35 A 6 26 s3 [(0, .ref (sgA P 0)), (1, .int p1), (2, .int p2), (3, .int p3), (4, .int x.1), (5, .int x.2)])) (c := (fun y => sg_Wt p l e R s m args below meth c Q P shM 35 A 6 97 s3 [(3, .int p3), (4, .int y)])) (fun x st hb9 hk9 => ?_) N ((0, 0)) res e9 (sg_k2_mono k9 (fun r h => ?_) (fun y5 h => ?_))) I (lv_sub hl [2, 3, 4, 5, 1, 0] rfl)
      · intro H locs ls I hl
        exact b_X12_rests_L26 X I hl hb9 hk9
      · obtain rfl := Option.some.inj h
        exact hk
      · intro H locs ls I hl
        refine lv_iload_n hx hb dX12_rests_97 rfl (lv_at hl 0 rfl) ?_
        refine lv_iconst (v := -1) hx hb dX12_rests_98 (by decide) ?_
        refine lv_icmp_ne (tgt := 107) hx hb dX12_rests_99 (by decide) (fun z => ?_) (fun z => ?_)
        · have h := sg_iff h z
          refine lv_iconst (v := -1) hx hb dX12_rests_107 (by decide) ?_
          obtain rfl := Option.some.inj h
          exact hk _ _ _ _ _ I ⟨_, rfl, rfl⟩ dX12_rests_108
        · have h := sg_ift h z
          refine lv_iload hx hb dX12_rests_102 (lv_at hl 1 rfl) ?_
          refine lv_goto (tgt := 108) hx hb dX12_rests_104 (by decide) ?_
          obtain rfl := Option.some.inj h
          exact hk _ _ _ _ _ I ⟨_, rfl, rfl⟩ dX12_rests_108
    · have h := sg_iff h z
      refine lv_iconst (v := -1) hx hb dX12_rests_14 (by decide) ?_
      obtain rfl := Option.some.inj h
      exact hk _ _ _ _ _ I ⟨_, rfl, rfl⟩ dX12_rests_15
set_option maxHeartbeats 4000000 in
set_option maxRecDepth 100000 in
theorem c_X12_rests {l : Launch} {P : sgP} {N : Nat} {p1 : Int32} {p2 : Int32} {p3 : Int32} {σ : sgS} {q : Int32 × sgS} (h : f_X12_rests N p1 p2 p3 σ = some q) : sg_Mi P shM 35 l yX12_rests cX12_rests 6 (some .int) 9 [.ref (sgA P 0), .int p1, .int p2, .int p3] σ q := by
  refine sg_mki (plainFor_of_name (by decide +kernel)) (Nat.le_of_ble_eq_true rfl) ?_
  intro p e R s m args below meth c Q A ls H locs X I hl hk
  exact b_X12_rests X I hl h hk
def f_X12_oddsFrom_b (N : Nat) (rec : Int32 → Int32 → Int32 → Int32 → Int32 → Int32 → sgS → Option (Int32)) (p1 : Int32) (p2 : Int32) (p3 : Int32) (p4 : Int32) (p5 : Int32) (p6 : Int32) (σ : sgS) : Option (Int32) :=
  if p6 = 0 then
  (some 0)
else
  (if p1 = (σ.1 0 29) then
    (sg_cr (f_X12_reachBy N p3 p2 σ) fun v5 =>
    sg_cr (f_X12_has N v5 p4 σ) fun v6 =>
    if v6 = 0 then
      (some 0)
    else
      (some p6))
  else
    (sg_cr (f_X12_isClosed N p1 σ) fun v1 =>
    if v1 = 0 then
      (sg_nzl 100 (
        sg_cr (rec (p1 + 1) p2 p3 p4 p5 (((p6.toInt64 * p5.toInt64) / 100).toInt32) σ) fun v2 =>
        sg_cr (rec (p1 + 1) (p2 ||| (1 <<< (p1 &&& 31))) p3 p4 p5 (p6 - (((p6.toInt64 * p5.toInt64) / 100).toInt32)) σ) fun v3 =>
        some (v2 + v3)))
    else
      (sg_cr (rec (p1 + 1) p2 p3 p4 p5 p6 σ) fun v4 =>
      some v4)))
set_option maxHeartbeats 4000000 in
set_option maxRecDepth 100000 in
theorem b_X12_oddsFrom_b {p : Program} {l : Launch} {e : Env} {R : Room} {s : State} {m : MethodId} {args : Array Value} {below : List Frame} {meth : Method} {c : Code} {Q : State → Prop} {P : sgP} {A : Nat → Prop} {lv : Nat} {N : Nat} {rec : Int32 → Int32 → Int32 → Int32 → Int32 → Int32 → sgS → Option (Int32)} {p1 : Int32} {p2 : Int32} {p3 : Int32} {p4 : Int32} {p5 : Int32} {p6 : Int32} {σ : sgS} (X : sg_C P A (lv + 1) p R s m args c cX12_oddsFrom 8 RX12) (hlv : 3 ≤ lv) (hrec : ∀ (p1 : Int32) (p2 : Int32) (p3 : Int32) (p4 : Int32) (p5 : Int32) (p6 : Int32) (σ : sgS) (q : Int32), rec p1 p2 p3 p4 p5 p6 σ = some q → sg_Mi P shM 35 l yX12_oddsFrom cX12_oddsFrom 8 (some .int) lv [.ref (sgA P 0), .int p1, .int p2, .int p3, .int p4, .int p5, .int p6] σ (q, σ)) {H : Heap} {locs : List Loc} (I : sg_I P shM 35 A s.heap σ H locs) {ls : Array Slot} (hl : lv_has ls 8 [(0, .ref (sgA P 0)), (1, .int p1), (2, .int p2), (3, .int p3), (4, .int p4), (5, .int p5), (6, .int p6)]) {st : Int32} (h : f_X12_oddsFrom_b N rec p1 p2 p3 p4 p5 p6 σ = some st) (hk : sg_Ri p l e R s m args below meth c Q P shM 35 A cX12_oddsFrom (some .int) (st, σ)) : W p l e R s m args below meth c H locs 0 0 Q (F0 m 0 ls []) := by
  unfold f_X12_oddsFrom_b at h
  have hx := X.1.1
  have hb := X.1.2.1
  have hown := X.1.2.2.2.1
  have hts := X.1.2.2.2.2
  refine lv_iload hx hb dX12_oddsFrom_0 (lv_at hl 6 rfl) ?_
  refine lv_if_ne (tgt := 7) hx hb dX12_oddsFrom_2 (by decide) (fun z => ?_) (fun z => ?_)
  · have h := sg_iff h z
    refine lv_iload_n hx hb dX12_oddsFrom_7 rfl (lv_at hl 1 rfl) ?_
    refine lv_aload_n hx hb dX12_oddsFrom_8 rfl (lv_at hl 0 rfl) ?_
    refine sg_geti X I fk_X12_291 (by decide) shM_0 rfl dX12_oddsFrom_9 ?_
    refine lv_icmp_ne (tgt := 36) hx hb dX12_oddsFrom_12 (by decide) (fun z => ?_) (fun z => ?_)
    · have h := sg_iff h z
      refine lv_aload_n hx hb dX12_oddsFrom_36 rfl (lv_at hl 0 rfl) ?_
      refine lv_iload_n hx hb dX12_oddsFrom_37 rfl (lv_at hl 1 rfl) ?_
      refine sg_callVr (As := [.int p1]) X I mk_X12_334 (by omega) (by decide) shM_0 rfl (fun q9 e9 => c_X12_isClosed e9) h hl.1 rfl rfl (Nat.le_of_ble_eq_true rfl) dX12_oddsFrom_38 (fun v1 H locs h I => ?_)
      refine lv_if_eq (tgt := 60) hx hb dX12_oddsFrom_41 (by decide) (fun z => ?_) (fun z => ?_)
      · have h := sg_ift h z
        refine lv_iload hx hb dX12_oddsFrom_60 (lv_at hl 6 rfl) ?_
        refine lv_i2l (v := p6.toInt64) hx hb dX12_oddsFrom_62 rfl ?_
        refine lv_iload hx hb dX12_oddsFrom_63 (lv_at hl 5 rfl) ?_
        refine lv_i2l (v := p5.toInt64) hx hb dX12_oddsFrom_65 rfl ?_
        refine lv_lmul hx hb dX12_oddsFrom_66 ?_
        refine lv_ldc2 (v := 100) hx hb hown (hts _ qw_1450) dX12_oddsFrom_67 ?_
        refine sg_nzlW (h := h) (fun z h => ?_)
        refine lv_ldiv hx hb dX12_oddsFrom_70 z ?_
        refine lv_l2i (v := ((p6.toInt64 * p5.toInt64) / 100).toInt32) hx hb dX12_oddsFrom_71 rfl ?_
        refine lv_istore (lv' := [(7, .int (((p6.toInt64 * p5.toInt64) / 100).toInt32)), (0, .ref (sgA P 0)), (1, .int p1), (2, .int p2), (3, .int p3), (4, .int p4), (5, .int p5), (6, .int p6)]) hx hb dX12_oddsFrom_72 hl (by decide) rfl (fun ls hl => ?_)
        refine lv_aload_n hx hb dX12_oddsFrom_74 rfl (lv_at hl 1 rfl) ?_
        refine lv_iload_n hx hb dX12_oddsFrom_75 rfl (lv_at hl 2 rfl) ?_
        refine lv_iconst (v := 1) hx hb dX12_oddsFrom_76 (by decide) ?_
        refine lv_iadd hx hb dX12_oddsFrom_77 ?_
        refine lv_iload_n hx hb dX12_oddsFrom_78 rfl (lv_at hl 3 rfl) ?_
        refine lv_iload_n hx hb dX12_oddsFrom_79 rfl (lv_at hl 4 rfl) ?_
        refine lv_iload hx hb dX12_oddsFrom_80 (lv_at hl 5 rfl) ?_
        refine lv_iload hx hb dX12_oddsFrom_82 (lv_at hl 6 rfl) ?_
        refine lv_iload hx hb dX12_oddsFrom_84 (lv_at hl 0 rfl) ?_
        refine sg_callVr (As := [.int (p1 + 1), .int p2, .int p3, .int p4, .int p5, .int (((p6.toInt64 * p5.toInt64) / 100).toInt32)]) X I mk_X12_486 (by omega) (by decide) shM_0 rfl (fun q9 e9 => hrec _ _ _ _ _ _ _ _ e9) h hl.1 rfl rfl (Nat.le_of_ble_eq_true rfl) dX12_oddsFrom_86 (fun v2 H locs h I => ?_)
        refine lv_aload_n hx hb dX12_oddsFrom_89 rfl (lv_at hl 1 rfl) ?_
        refine lv_iload_n hx hb dX12_oddsFrom_90 rfl (lv_at hl 2 rfl) ?_
        refine lv_iconst (v := 1) hx hb dX12_oddsFrom_91 (by decide) ?_
        refine lv_iadd hx hb dX12_oddsFrom_92 ?_
        refine lv_iload_n hx hb dX12_oddsFrom_93 rfl (lv_at hl 3 rfl) ?_
        refine lv_iconst (v := 1) hx hb dX12_oddsFrom_94 (by decide) ?_
        refine lv_iload_n hx hb dX12_oddsFrom_95 rfl (lv_at hl 2 rfl) ?_
        refine lv_ishl hx hb dX12_oddsFrom_96 ?_
        refine lv_ior hx hb dX12_oddsFrom_97 ?_
        refine lv_iload_n hx hb dX12_oddsFrom_98 rfl (lv_at hl 4 rfl) ?_
        refine lv_iload hx hb dX12_oddsFrom_99 (lv_at hl 5 rfl) ?_
        refine lv_iload hx hb dX12_oddsFrom_101 (lv_at hl 6 rfl) ?_
        refine lv_iload hx hb dX12_oddsFrom_103 (lv_at hl 7 rfl) ?_
        refine lv_iload hx hb dX12_oddsFrom_105 (lv_at hl 0 rfl) ?_
        refine lv_isub hx hb dX12_oddsFrom_107 ?_
        refine sg_callVr (As := [.int (p1 + 1), .int (p2 ||| (1 <<< (p1 &&& 31))), .int p3, .int p4, .int p5, .int (p6 - (((p6.toInt64 * p5.toInt64) / 100).toInt32))]) X I mk_X12_486 (by omega) (by decide) shM_0 rfl (fun q9 e9 => hrec _ _ _ _ _ _ _ _ e9) h hl.1 rfl rfl (Nat.le_of_ble_eq_true rfl) dX12_oddsFrom_108 (fun v3 H locs h I => ?_)
        refine lv_iadd hx hb dX12_oddsFrom_111 ?_
        obtain rfl := Option.some.inj h
        exact hk _ _ _ _ _ I ⟨_, rfl, rfl⟩ dX12_oddsFrom_112
      · have h := sg_iff h z
        refine lv_aload_n hx hb dX12_oddsFrom_44 rfl (lv_at hl 0 rfl) ?_
        refine lv_iload_n hx hb dX12_oddsFrom_45 rfl (lv_at hl 1 rfl) ?_
        refine lv_iconst (v := 1) hx hb dX12_oddsFrom_46 (by decide) ?_
        refine lv_iadd hx hb dX12_oddsFrom_47 ?_
        refine lv_iload_n hx hb dX12_oddsFrom_48 rfl (lv_at hl 2 rfl) ?_
        refine lv_iload_n hx hb dX12_oddsFrom_49 rfl (lv_at hl 3 rfl) ?_
        refine lv_iload hx hb dX12_oddsFrom_50 (lv_at hl 4 rfl) ?_
        refine lv_iload hx hb dX12_oddsFrom_52 (lv_at hl 5 rfl) ?_
        refine lv_iload hx hb dX12_oddsFrom_54 (lv_at hl 6 rfl) ?_
        refine sg_callVr (As := [.int (p1 + 1), .int p2, .int p3, .int p4, .int p5, .int p6]) X I mk_X12_486 (by omega) (by decide) shM_0 rfl (fun q9 e9 => hrec _ _ _ _ _ _ _ _ e9) h hl.1 rfl rfl (Nat.le_of_ble_eq_true rfl) dX12_oddsFrom_56 (fun v4 H locs h I => ?_)
        obtain rfl := Option.some.inj h
        exact hk _ _ _ _ _ I ⟨_, rfl, rfl⟩ dX12_oddsFrom_59
    · have h := sg_ift h z
      refine lv_aload_n hx hb dX12_oddsFrom_15 rfl (lv_at hl 0 rfl) ?_
      refine lv_iload_n hx hb dX12_oddsFrom_16 rfl (lv_at hl 3 rfl) ?_
      refine lv_iload_n hx hb dX12_oddsFrom_17 rfl (lv_at hl 2 rfl) ?_
      refine sg_callVr (As := [.int p3, .int p2]) X I mk_X12_440 (by omega) (by decide) shM_0 rfl (fun q9 e9 => c_X12_reachBy e9) h hl.1 rfl rfl (Nat.le_of_ble_eq_true rfl) dX12_oddsFrom_18 (fun v5 H locs h I => ?_)
      refine lv_iload hx hb dX12_oddsFrom_21 (lv_at hl 4 rfl) ?_
      refine sg_callSr (As := [.int v5, .int p4]) X I mk_X12_246 (by omega) (fun q9 e9 => c_X12_has e9) h hl.1 rfl rfl (Nat.le_of_ble_eq_true rfl) dX12_oddsFrom_23 (fun v6 H locs h I => ?_)
      refine lv_if_eq (tgt := 34) hx hb dX12_oddsFrom_26 (by decide) (fun z => ?_) (fun z => ?_)
      · have h := sg_ift h z
        refine lv_iconst (v := 0) hx hb dX12_oddsFrom_34 (by decide) ?_
        obtain rfl := Option.some.inj h
        exact hk _ _ _ _ _ I ⟨_, rfl, rfl⟩ dX12_oddsFrom_35
      · have h := sg_iff h z
        refine lv_iload hx hb dX12_oddsFrom_29 (lv_at hl 6 rfl) ?_
        refine lv_goto (tgt := 35) hx hb dX12_oddsFrom_31 (by decide) ?_
        obtain rfl := Option.some.inj h
        exact hk _ _ _ _ _ I ⟨_, rfl, rfl⟩ dX12_oddsFrom_35
  · have h := sg_ift h z
    refine lv_iconst (v := 0) hx hb dX12_oddsFrom_5 (by decide) ?_
    obtain rfl := Option.some.inj h
    exact hk _ _ _ _ _ I ⟨_, rfl, rfl⟩ dX12_oddsFrom_6
set_option maxHeartbeats 4000000 in
set_option maxRecDepth 100000 in
theorem c_X12_oddsFrom_b {l : Launch} {P : sgP} {lv : Nat} {N : Nat} {rec : Int32 → Int32 → Int32 → Int32 → Int32 → Int32 → sgS → Option (Int32)} {p1 : Int32} {p2 : Int32} {p3 : Int32} {p4 : Int32} {p5 : Int32} {p6 : Int32} {σ : sgS} (hlv : 3 ≤ lv) (hrec : ∀ (p1 : Int32) (p2 : Int32) (p3 : Int32) (p4 : Int32) (p5 : Int32) (p6 : Int32) (σ : sgS) (q : Int32), rec p1 p2 p3 p4 p5 p6 σ = some q → sg_Mi P shM 35 l yX12_oddsFrom cX12_oddsFrom 8 (some .int) lv [.ref (sgA P 0), .int p1, .int p2, .int p3, .int p4, .int p5, .int p6] σ (q, σ)) {q : Int32} (h : f_X12_oddsFrom_b N rec p1 p2 p3 p4 p5 p6 σ = some q) : sg_Mi P shM 35 l yX12_oddsFrom cX12_oddsFrom 8 (some .int) (lv + 1) [.ref (sgA P 0), .int p1, .int p2, .int p3, .int p4, .int p5, .int p6] σ (q, σ) := by
  refine sg_mki (plainFor_of_name (by decide +kernel)) (Nat.le_of_ble_eq_true rfl) ?_
  intro p e R s m args below meth c Q A ls H locs X I hl hk
  exact b_X12_oddsFrom_b X hlv hrec I hl h hk
def f_X12_oddsFrom : Nat → Nat → Int32 → Int32 → Int32 → Int32 → Int32 → Int32 → sgS → Option (Int32)
  | 0, _, _, _, _, _, _, _, _ => none
  | d + 1, N, p1, p2, p3, p4, p5, p6, σ => f_X12_oddsFrom_b N (f_X12_oddsFrom d N) p1 p2 p3 p4 p5 p6 σ
set_option maxHeartbeats 4000000 in
set_option maxRecDepth 100000 in
theorem cd_X12_oddsFrom {l : Launch} {P : sgP} {N : Nat} : ∀ (d : Nat) (p1 : Int32) (p2 : Int32) (p3 : Int32) (p4 : Int32) (p5 : Int32) (p6 : Int32) (σ : sgS) (q : Int32), f_X12_oddsFrom d N p1 p2 p3 p4 p5 p6 σ = some q → sg_Mi P shM 35 l yX12_oddsFrom cX12_oddsFrom 8 (some .int) (3 + 1 * d) [.ref (sgA P 0), .int p1, .int p2, .int p3, .int p4, .int p5, .int p6] σ (q, σ) := by
  intro d
  induction d with
  | zero => intro p1 p2 p3 p4 p5 p6 σ q h; cases h
  | succ d ih =>
    intro p1 p2 p3 p4 p5 p6 σ q h
    have e : 3 + 1 * (d + 1) = 3 + 1 * d + 1 := by omega
    rw [e]
    exact c_X12_oddsFrom_b (by omega) ih h
set_option maxHeartbeats 4000000 in
set_option maxRecDepth 100000 in
theorem c_X12_oddsFrom {l : Launch} {P : sgP} {N : Nat} {p1 : Int32} {p2 : Int32} {p3 : Int32} {p4 : Int32} {p5 : Int32} {p6 : Int32} {σ : sgS} {q : Int32} (h : f_X12_oddsFrom 40 N p1 p2 p3 p4 p5 p6 σ = some q) : sg_Mi P shM 35 l yX12_oddsFrom cX12_oddsFrom 8 (some .int) 43 [.ref (sgA P 0), .int p1, .int p2, .int p3, .int p4, .int p5, .int p6] σ (q, σ) := cd_X12_oddsFrom 40 p1 p2 p3 p4 p5 p6 σ q h
def f_X12_odds (N : Nat) (p1 : Int32) (p2 : Int32) (p3 : Int32) (σ : sgS) : Option (Int32) :=
  sg_cr (f_X12_isPlace N p1 σ) fun v1 =>
if v1 = 0 then
  (some ((-1)))
else
  (sg_cr (f_X12_isPlace N p2 σ) fun v2 =>
  if v2 = 0 then
    (some ((-1)))
  else
    (sg_cr (f_X12_in N p3 0 100 σ) fun v3 =>
    if v3 = 0 then
      (some ((-1)))
    else
      (sg_cr (f_X12_oddsFrom 40 N 0 0 p1 p2 p3 1000000000 σ) fun v4 =>
      some v4)))
set_option maxHeartbeats 4000000 in
set_option maxRecDepth 100000 in
theorem b_X12_odds {p : Program} {l : Launch} {e : Env} {R : Room} {s : State} {m : MethodId} {args : Array Value} {below : List Frame} {meth : Method} {c : Code} {Q : State → Prop} {P : sgP} {A : Nat → Prop} {N : Nat} {p1 : Int32} {p2 : Int32} {p3 : Int32} {σ : sgS} (X : sg_C P A 44 p R s m args c cX12_odds 4 RX12) {H : Heap} {locs : List Loc} (I : sg_I P shM 35 A s.heap σ H locs) {ls : Array Slot} (hl : lv_has ls 4 [(0, .ref (sgA P 0)), (1, .int p1), (2, .int p2), (3, .int p3)]) {st : Int32} (h : f_X12_odds N p1 p2 p3 σ = some st) (hk : sg_Ri p l e R s m args below meth c Q P shM 35 A cX12_odds (some .int) (st, σ)) : W p l e R s m args below meth c H locs 0 0 Q (F0 m 0 ls []) := by
  unfold f_X12_odds at h
  have hx := X.1.1
  have hb := X.1.2.1
  have hown := X.1.2.2.2.1
  have hts := X.1.2.2.2.2
  refine lv_aload_n hx hb dX12_odds_0 rfl (lv_at hl 0 rfl) ?_
  refine lv_iload_n hx hb dX12_odds_1 rfl (lv_at hl 1 rfl) ?_
  refine sg_callVr (As := [.int p1]) X I mk_X12_373 (by decide) (by decide) shM_0 rfl (fun q9 e9 => c_X12_isPlace e9) h hl.1 rfl rfl (Nat.le_of_ble_eq_true rfl) dX12_odds_2 (fun v1 H locs h I => ?_)
  refine lv_if_eq (tgt := 26) hx hb dX12_odds_5 (by decide) (fun z => ?_) (fun z => ?_)
  · have h := sg_ift h z
    refine lv_iconst (v := -1) hx hb dX12_odds_26 (by decide) ?_
    obtain rfl := Option.some.inj h
    exact hk _ _ _ _ _ I ⟨_, rfl, rfl⟩ dX12_odds_27
  · have h := sg_iff h z
    refine lv_aload_n hx hb dX12_odds_8 rfl (lv_at hl 0 rfl) ?_
    refine lv_iload_n hx hb dX12_odds_9 rfl (lv_at hl 2 rfl) ?_
    refine sg_callVr (As := [.int p2]) X I mk_X12_373 (by decide) (by decide) shM_0 rfl (fun q9 e9 => c_X12_isPlace e9) h hl.1 rfl rfl (Nat.le_of_ble_eq_true rfl) dX12_odds_10 (fun v2 H locs h I => ?_)
    refine lv_if_eq (tgt := 26) hx hb dX12_odds_13 (by decide) (fun z => ?_) (fun z => ?_)
    · have h := sg_ift h z
      refine lv_iconst (v := -1) hx hb dX12_odds_26 (by decide) ?_
      obtain rfl := Option.some.inj h
      exact hk _ _ _ _ _ I ⟨_, rfl, rfl⟩ dX12_odds_27
    · have h := sg_iff h z
      refine lv_iload_n hx hb dX12_odds_16 rfl (lv_at hl 3 rfl) ?_
      refine lv_iconst (v := 0) hx hb dX12_odds_17 (by decide) ?_
      refine lv_bipush (v := 100) hx hb dX12_odds_18 (by decide) ?_
      refine sg_callSr (As := [.int p3, .int 0, .int 100]) X I mk_X12_235 (by decide) (fun q9 e9 => c_X12_in e9) h hl.1 rfl rfl (Nat.le_of_ble_eq_true rfl) dX12_odds_20 (fun v3 H locs h I => ?_)
      refine lv_if_ne (tgt := 28) hx hb dX12_odds_23 (by decide) (fun z => ?_) (fun z => ?_)
      · have h := sg_iff h z
        refine lv_aload_n hx hb dX12_odds_28 rfl (lv_at hl 0 rfl) ?_
        refine lv_iconst (v := 0) hx hb dX12_odds_29 (by decide) ?_
        refine lv_iconst (v := 0) hx hb dX12_odds_30 (by decide) ?_
        refine lv_iload_n hx hb dX12_odds_31 rfl (lv_at hl 1 rfl) ?_
        refine lv_iload_n hx hb dX12_odds_32 rfl (lv_at hl 2 rfl) ?_
        refine lv_iload_n hx hb dX12_odds_33 rfl (lv_at hl 3 rfl) ?_
        refine lv_ldcw (v := 1000000000) hx hb hown (hts _ qw_1445) dX12_odds_34 ?_
        refine sg_callVr (As := [.int 0, .int 0, .int p1, .int p2, .int p3, .int 1000000000]) X I mk_X12_486 (by decide) (by decide) shM_0 rfl (fun q9 e9 => c_X12_oddsFrom e9) h hl.1 rfl rfl (Nat.le_of_ble_eq_true rfl) dX12_odds_37 (fun v4 H locs h I => ?_)
        obtain rfl := Option.some.inj h
        exact hk _ _ _ _ _ I ⟨_, rfl, rfl⟩ dX12_odds_40
      · have h := sg_ift h z
        refine lv_iconst (v := -1) hx hb dX12_odds_26 (by decide) ?_
        obtain rfl := Option.some.inj h
        exact hk _ _ _ _ _ I ⟨_, rfl, rfl⟩ dX12_odds_27
set_option maxHeartbeats 4000000 in
set_option maxRecDepth 100000 in
theorem c_X12_odds {l : Launch} {P : sgP} {N : Nat} {p1 : Int32} {p2 : Int32} {p3 : Int32} {σ : sgS} {q : Int32} (h : f_X12_odds N p1 p2 p3 σ = some q) : sg_Mi P shM 35 l yX12_odds cX12_odds 4 (some .int) 44 [.ref (sgA P 0), .int p1, .int p2, .int p3] σ (q, σ) := by
  refine sg_mki (plainFor_of_name (by decide +kernel)) (Nat.le_of_ble_eq_true rfl) ?_
  intro p e R s m args below meth c Q A ls H locs X I hl hk
  exact b_X12_odds X I hl h hk
def f_X12_dead (N : Nat) (p1 : Int32) (σ : sgS) : Option (Int32) :=
  sg_cr (f_X12_isPlace N p1 σ) fun v1 =>
if v1 = 0 then
  (some ((-1)))
else
  (sg_cr (f_X12_openOnes N σ) fun v2 =>
  sg_cr (f_X12_reachBy N p1 v2 σ) fun v3 =>
  sg_cr (f_J6_bitCount_0f7a4 N v3 σ) fun v4 =>
  some ((σ.1 0 28) - v4))
set_option maxHeartbeats 4000000 in
set_option maxRecDepth 100000 in
theorem b_X12_dead {p : Program} {l : Launch} {e : Env} {R : Room} {s : State} {m : MethodId} {args : Array Value} {below : List Frame} {meth : Method} {c : Code} {Q : State → Prop} {P : sgP} {A : Nat → Prop} {N : Nat} {p1 : Int32} {σ : sgS} (X : sg_C P A 3 p R s m args c cX12_dead 2 RX12) {H : Heap} {locs : List Loc} (I : sg_I P shM 35 A s.heap σ H locs) {ls : Array Slot} (hl : lv_has ls 2 [(0, .ref (sgA P 0)), (1, .int p1)]) {st : Int32} (h : f_X12_dead N p1 σ = some st) (hk : sg_Ri p l e R s m args below meth c Q P shM 35 A cX12_dead (some .int) (st, σ)) : W p l e R s m args below meth c H locs 0 0 Q (F0 m 0 ls []) := by
  unfold f_X12_dead at h
  have hx := X.1.1
  have hb := X.1.2.1
  have hown := X.1.2.2.2.1
  have hts := X.1.2.2.2.2
  refine lv_aload_n hx hb dX12_dead_0 rfl (lv_at hl 0 rfl) ?_
  refine lv_iload_n hx hb dX12_dead_1 rfl (lv_at hl 1 rfl) ?_
  refine sg_callVr (As := [.int p1]) X I mk_X12_373 (by decide) (by decide) shM_0 rfl (fun q9 e9 => c_X12_isPlace e9) h hl.1 rfl rfl (Nat.le_of_ble_eq_true rfl) dX12_dead_2 (fun v1 H locs h I => ?_)
  refine lv_if_eq (tgt := 28) hx hb dX12_dead_5 (by decide) (fun z => ?_) (fun z => ?_)
  · have h := sg_ift h z
    refine lv_iconst (v := -1) hx hb dX12_dead_28 (by decide) ?_
    obtain rfl := Option.some.inj h
    exact hk _ _ _ _ _ I ⟨_, rfl, rfl⟩ dX12_dead_29
  · have h := sg_iff h z
    refine lv_aload_n hx hb dX12_dead_8 rfl (lv_at hl 0 rfl) ?_
    refine sg_geti X I fk_X12_288 (by decide) shM_0 rfl dX12_dead_9 ?_
    refine lv_aload_n hx hb dX12_dead_12 rfl (lv_at hl 0 rfl) ?_
    refine lv_iload_n hx hb dX12_dead_13 rfl (lv_at hl 1 rfl) ?_
    refine lv_aload_n hx hb dX12_dead_14 rfl (lv_at hl 0 rfl) ?_
    refine sg_callVr (As := []) X I mk_X12_437 (by decide) (by decide) shM_0 rfl (fun q9 e9 => c_X12_openOnes e9) h hl.1 rfl rfl (Nat.le_of_ble_eq_true rfl) dX12_dead_15 (fun v2 H locs h I => ?_)
    refine sg_callVr (As := [.int p1, .int v2]) X I mk_X12_440 (by decide) (by decide) shM_0 rfl (fun q9 e9 => c_X12_reachBy e9) h hl.1 rfl rfl (Nat.le_of_ble_eq_true rfl) dX12_dead_18 (fun v3 H locs h I => ?_)
    refine sg_callSr (As := [.int v3]) X I mk_X12_319 (by decide) (fun q9 e9 => c_J6_bitCount_0f7a4 e9) h hl.1 rfl rfl (Nat.le_of_ble_eq_true rfl) dX12_dead_21 (fun v4 H locs h I => ?_)
    refine lv_isub hx hb dX12_dead_24 ?_
    refine lv_goto (tgt := 29) hx hb dX12_dead_25 (by decide) ?_
    obtain rfl := Option.some.inj h
    exact hk _ _ _ _ _ I ⟨_, rfl, rfl⟩ dX12_dead_29
set_option maxHeartbeats 4000000 in
set_option maxRecDepth 100000 in
theorem c_X12_dead {l : Launch} {P : sgP} {N : Nat} {p1 : Int32} {σ : sgS} {q : Int32} (h : f_X12_dead N p1 σ = some q) : sg_Mi P shM 35 l yX12_dead cX12_dead 2 (some .int) 3 [.ref (sgA P 0), .int p1] σ (q, σ) := by
  refine sg_mki (plainFor_of_name (by decide +kernel)) (Nat.le_of_ble_eq_true rfl) ?_
  intro p e R s m args below meth c Q A ls H locs X I hl hk
  exact b_X12_dead X I hl h hk
def f_X12_shares_L26 (N : Nat) (p1 : Int32) (p2 : Int32) (x3 : Int32) (x4 : Int32) (σ : sgS) : Option ((Int32) ⊕ ((Int32 × Int32) ⊕ (Int32))) :=
  if (σ.1 0 28) ≤ x4 then
  (some (.inr (.inr x3)))
else
  (sg_ld σ 21 215 (24 + x4) fun v3 =>
  some (.inr (.inl (x3 + v3, x4 + 1))))
set_option maxHeartbeats 4000000 in
set_option maxRecDepth 100000 in
theorem b_X12_shares_L26 {p : Program} {l : Launch} {e : Env} {R : Room} {s : State} {m : MethodId} {args : Array Value} {below : List Frame} {meth : Method} {c : Code} {Q : State → Prop} {P : sgP} {A : Nat → Prop} {N : Nat} {p1 : Int32} {p2 : Int32} {x3 : Int32} {x4 : Int32} {σ : sgS} (X : sg_C P A 3 p R s m args c cX12_shares 5 RX12) {H : Heap} {locs : List Loc} (I : sg_I P shM 35 A s.heap σ H locs) {ls : Array Slot} (hl : lv_has ls 5 [(0, .ref (sgA P 0)), (1, .int p1), (2, .int p2), (3, .int x3), (4, .int x4)]) {st : (Int32) ⊕ ((Int32 × Int32) ⊕ (Int32))} (h : f_X12_shares_L26 N p1 p2 x3 x4 σ = some st) (hk : sg_k3 (fun r => sg_Ri p l e R s m args below meth c Q P shM 35 A cX12_shares (some .int) (r, σ)) (fun x => sg_Wt p l e R s m args below meth c Q P shM 35 A 5 26 σ [(0, .ref (sgA P 0)), (1, .int p1), (2, .int p2), (3, .int x.1), (4, .int x.2)]) (fun y => sg_Wt p l e R s m args below meth c Q P shM 35 A 5 54 σ [(0, .ref (sgA P 0)), (1, .int p1), (2, .int p2), (3, .int y)]) st) : W p l e R s m args below meth c H locs 0 0 Q (F0 m 26 ls []) := by
  unfold f_X12_shares_L26 at h
  have hx := X.1.1
  have hb := X.1.2.1
  have hown := X.1.2.2.2.1
  have hts := X.1.2.2.2.2
  refine lv_iload hx hb dX12_shares_26 (lv_at hl 4 rfl) ?_
  refine lv_aload_n hx hb dX12_shares_28 rfl (lv_at hl 0 rfl) ?_
  refine sg_geti X I fk_X12_288 (by decide) shM_0 rfl dX12_shares_29 ?_
  refine lv_icmp_ge (tgt := 54) hx hb dX12_shares_32 (by decide) (fun z => ?_) (fun z => ?_)
  · have h := sg_ift h z
    obtain rfl := Option.some.inj h
    exact sg_go hk I (lv_sub hl [0, 1, 2, 3] rfl)
  · have h := sg_iff h z
    refine lv_iload_n hx hb dX12_shares_35 rfl (lv_at hl 3 rfl) ?_
    refine lv_aload_n hx hb dX12_shares_36 rfl (lv_at hl 0 rfl) ?_
    refine sg_getr X I fk_X12_70 (j := 21) (by decide) shM_0 rfl dX12_shares_37 ?_
    refine lv_bipush (v := 24) hx hb dX12_shares_40 (by decide) ?_
    refine lv_iload hx hb dX12_shares_42 (lv_at hl 4 rfl) ?_
    refine lv_iadd hx hb dX12_shares_44 ?_
    refine sg_iald X I (by decide) shM_21 h dX12_shares_45 (fun v3 h => ?_)
    refine lv_iadd hx hb dX12_shares_46 ?_
    refine lv_istore_n (lv' := [(3, .int (x3 + v3)), (0, .ref (sgA P 0)), (1, .int p1), (2, .int p2), (4, .int x4)]) hx hb dX12_shares_47 rfl hl (by decide) rfl (fun ls hl => ?_)
    refine lv_iinc (v := x4 + 1) (lv' := [(4, .int (x4 + 1)), (3, .int (x3 + v3)), (0, .ref (sgA P 0)), (1, .int p1), (2, .int p2)]) hx hb dX12_shares_48 hl (k := 4) rfl rfl (by decide) rfl (fun ls hl => ?_)
    refine lv_goto (tgt := 26) hx hb dX12_shares_51 (by decide) ?_
    obtain rfl := Option.some.inj h
    exact sg_go hk I (lv_sub hl [2, 3, 4, 1, 0] rfl)
def f_X12_shares (N : Nat) (p1 : Int32) (p2 : Int32) (σ : sgS) : Option (Int32) :=
  sg_cr (f_X12_isPlace N p1 σ) fun v1 =>
if v1 = 0 then
  (some ((-1)))
else
  (sg_cr (f_X12_in N p2 0 999 σ) fun v2 =>
  if v2 = 0 then
    (some ((-1)))
  else
    (sg_lb (sg_lp (fun x => f_X12_shares_L26 N p1 p2 x.1 x.2 σ) N ((0, 0))) (fun r => some r) fun y4 =>
    if y4 = 0 then
      (some 0)
    else
      (sg_ld σ 21 215 (24 + p1) fun v5 =>
      sg_nz y4 (
        some ((p2 * v5) / y4)))))
set_option maxHeartbeats 4000000 in
set_option maxRecDepth 100000 in
theorem b_X12_shares {p : Program} {l : Launch} {e : Env} {R : Room} {s : State} {m : MethodId} {args : Array Value} {below : List Frame} {meth : Method} {c : Code} {Q : State → Prop} {P : sgP} {A : Nat → Prop} {N : Nat} {p1 : Int32} {p2 : Int32} {σ : sgS} (X : sg_C P A 3 p R s m args c cX12_shares 5 RX12) {H : Heap} {locs : List Loc} (I : sg_I P shM 35 A s.heap σ H locs) {ls : Array Slot} (hl : lv_has ls 5 [(0, .ref (sgA P 0)), (1, .int p1), (2, .int p2)]) {st : Int32} (h : f_X12_shares N p1 p2 σ = some st) (hk : sg_Ri p l e R s m args below meth c Q P shM 35 A cX12_shares (some .int) (st, σ)) : W p l e R s m args below meth c H locs 0 0 Q (F0 m 0 ls []) := by
  unfold f_X12_shares at h
  have hx := X.1.1
  have hb := X.1.2.1
  have hown := X.1.2.2.2.1
  have hts := X.1.2.2.2.2
  refine lv_aload_n hx hb dX12_shares_0 rfl (lv_at hl 0 rfl) ?_
  refine lv_iload_n hx hb dX12_shares_1 rfl (lv_at hl 1 rfl) ?_
  refine sg_callVr (As := [.int p1]) X I mk_X12_373 (by decide) (by decide) shM_0 rfl (fun q9 e9 => c_X12_isPlace e9) h hl.1 rfl rfl (Nat.le_of_ble_eq_true rfl) dX12_shares_2 (fun v1 H locs h I => ?_)
  refine lv_if_eq (tgt := 19) hx hb dX12_shares_5 (by decide) (fun z => ?_) (fun z => ?_)
  · have h := sg_ift h z
    refine lv_iconst (v := -1) hx hb dX12_shares_19 (by decide) ?_
    obtain rfl := Option.some.inj h
    exact hk _ _ _ _ _ I ⟨_, rfl, rfl⟩ dX12_shares_20
  · have h := sg_iff h z
    refine lv_iload_n hx hb dX12_shares_8 rfl (lv_at hl 2 rfl) ?_
    refine lv_iconst (v := 0) hx hb dX12_shares_9 (by decide) ?_
    refine lv_sipush (v := 999) hx hb dX12_shares_10 (by decide) ?_
    refine sg_callSr (As := [.int p2, .int 0, .int 999]) X I mk_X12_235 (by decide) (fun q9 e9 => c_X12_in e9) h hl.1 rfl rfl (Nat.le_of_ble_eq_true rfl) dX12_shares_13 (fun v2 H locs h I => ?_)
    refine lv_if_ne (tgt := 21) hx hb dX12_shares_16 (by decide) (fun z => ?_) (fun z => ?_)
    · have h := sg_iff h z
      refine lv_iconst (v := 0) hx hb dX12_shares_21 (by decide) ?_
      refine lv_istore_n (lv' := [(3, .int 0), (0, .ref (sgA P 0)), (1, .int p1), (2, .int p2)]) hx hb dX12_shares_22 rfl hl (by decide) rfl (fun ls hl => ?_)
      refine lv_iconst (v := 0) hx hb dX12_shares_23 (by decide) ?_
      refine lv_istore (lv' := [(4, .int 0), (3, .int 0), (0, .ref (sgA P 0)), (1, .int p1), (2, .int p2)]) hx hb dX12_shares_24 hl (by decide) rfl (fun ls hl => ?_)
      obtain ⟨res, e9, k9⟩ := sg_lb_some h
      refine sg_go (sg_lp_W (a := (fun r => sg_Ri p l e R s m args below meth c Q P shM 35 A cX12_shares (some .int) (r, σ))) (w := (fun x => sg_Wt p l e R s m args below meth c Q P shM 35 A 5 26 σ [(0, .ref (sgA P 0)), (1, .int p1), (2, .int p2), (3, .int x.1), (4, .int x.2)])) (c := (fun y => sg_Wt p l e R s m args below meth c Q P shM 35 A 5 54 σ [(0, .ref (sgA P 0)), (1, .int p1), (2, .int p2), (3, .int y)])) (fun x st hb9 hk9 => ?_) N ((0, 0)) res e9 (sg_k2_mono k9 (fun r h => ?_) (fun y4 h => ?_))) I (lv_sub hl [2, 3, 4, 1, 0] rfl)
      · intro H locs ls I hl
        exact b_X12_shares_L26 X I hl hb9 hk9
      · obtain rfl := Option.some.inj h
        exact hk
      · intro H locs ls I hl
        refine lv_iload_n hx hb dX12_shares_54 rfl (lv_at hl 3 rfl) ?_
        refine lv_if_ne (tgt := 62) hx hb dX12_shares_55 (by decide) (fun z => ?_) (fun z => ?_)
        · have h := sg_iff h z
          refine lv_iload_n hx hb dX12_shares_62 rfl (lv_at hl 2 rfl) ?_
          refine lv_aload_n hx hb dX12_shares_63 rfl (lv_at hl 0 rfl) ?_
          refine sg_getr X I fk_X12_70 (j := 21) (by decide) shM_0 rfl dX12_shares_64 ?_
          refine lv_bipush (v := 24) hx hb dX12_shares_67 (by decide) ?_
          refine lv_iload_n hx hb dX12_shares_69 rfl (lv_at hl 1 rfl) ?_
          refine lv_iadd hx hb dX12_shares_70 ?_
          refine sg_iald X I (by decide) shM_21 h dX12_shares_71 (fun v5 h => ?_)
          refine lv_imul hx hb dX12_shares_72 ?_
          refine lv_iload_n hx hb dX12_shares_73 rfl (lv_at hl 3 rfl) ?_
          refine sg_nzW (h := h) (fun z h => ?_)
          refine lv_idiv hx hb dX12_shares_74 z ?_
          obtain rfl := Option.some.inj h
          exact hk _ _ _ _ _ I ⟨_, rfl, rfl⟩ dX12_shares_75
        · have h := sg_ift h z
          refine lv_iconst (v := 0) hx hb dX12_shares_58 (by decide) ?_
          refine lv_goto (tgt := 75) hx hb dX12_shares_59 (by decide) ?_
          obtain rfl := Option.some.inj h
          exact hk _ _ _ _ _ I ⟨_, rfl, rfl⟩ dX12_shares_75
    · have h := sg_ift h z
      refine lv_iconst (v := -1) hx hb dX12_shares_19 (by decide) ?_
      obtain rfl := Option.some.inj h
      exact hk _ _ _ _ _ I ⟨_, rfl, rfl⟩ dX12_shares_20
set_option maxHeartbeats 4000000 in
set_option maxRecDepth 100000 in
theorem c_X12_shares {l : Launch} {P : sgP} {N : Nat} {p1 : Int32} {p2 : Int32} {σ : sgS} {q : Int32} (h : f_X12_shares N p1 p2 σ = some q) : sg_Mi P shM 35 l yX12_shares cX12_shares 5 (some .int) 3 [.ref (sgA P 0), .int p1, .int p2] σ (q, σ) := by
  refine sg_mki (plainFor_of_name (by decide +kernel)) (Nat.le_of_ble_eq_true rfl) ?_
  intro p e R s m args below meth c Q A ls H locs X I hl hk
  exact b_X12_shares X I hl h hk
def f_X12_farthestFrom_L4 (N : Nat) (p1 : Int32) (x2 : Int32) (x3 : Int32) (σ : sgS) : Option ((Int32) ⊕ ((Int32 × Int32) ⊕ (Int32))) :=
  if (σ.1 0 28) ≤ x3 then
  (some (.inr (.inr x2)))
else
  (sg_cr (f_X12_awayOf N p1 x3 σ) fun v1 =>
  if 100000 ≤ v1 then
    (some (.inr (.inl (x2, x3 + 1))))
  else
    (sg_cr (f_X12_awayOf N p1 x3 σ) fun v2 =>
    some (.inr (.inl ((if x2 < v2 then v2 else x2), x3 + 1)))))
set_option maxHeartbeats 4000000 in
set_option maxRecDepth 100000 in
theorem b_X12_farthestFrom_L4 {p : Program} {l : Launch} {e : Env} {R : Room} {s : State} {m : MethodId} {args : Array Value} {below : List Frame} {meth : Method} {c : Code} {Q : State → Prop} {P : sgP} {A : Nat → Prop} {N : Nat} {p1 : Int32} {x2 : Int32} {x3 : Int32} {σ : sgS} (X : sg_C P A 2 p R s m args c cX12_farthestFrom 4 RX12) {H : Heap} {locs : List Loc} (I : sg_I P shM 35 A s.heap σ H locs) {ls : Array Slot} (hl : lv_has ls 4 [(0, .ref (sgA P 0)), (1, .int p1), (2, .int x2), (3, .int x3)]) {st : (Int32) ⊕ ((Int32 × Int32) ⊕ (Int32))} (h : f_X12_farthestFrom_L4 N p1 x2 x3 σ = some st) (hk : sg_k3 (fun r => sg_Ri p l e R s m args below meth c Q P shM 35 A cX12_farthestFrom (some .int) (r, σ)) (fun x => sg_Wt p l e R s m args below meth c Q P shM 35 A 4 4 σ [(0, .ref (sgA P 0)), (1, .int p1), (2, .int x.1), (3, .int x.2)]) (fun y => sg_Wt p l e R s m args below meth c Q P shM 35 A 4 45 σ [(2, .int y)]) st) : W p l e R s m args below meth c H locs 0 0 Q (F0 m 4 ls []) := by
  unfold f_X12_farthestFrom_L4 at h
  have hx := X.1.1
  have hb := X.1.2.1
  have hown := X.1.2.2.2.1
  have hts := X.1.2.2.2.2
  refine lv_iload_n hx hb dX12_farthestFrom_4 rfl (lv_at hl 3 rfl) ?_
  refine lv_aload_n hx hb dX12_farthestFrom_5 rfl (lv_at hl 0 rfl) ?_
  refine sg_geti X I fk_X12_288 (by decide) shM_0 rfl dX12_farthestFrom_6 ?_
  refine lv_icmp_ge (tgt := 45) hx hb dX12_farthestFrom_9 (by decide) (fun z => ?_) (fun z => ?_)
  · have h := sg_ift h z
    obtain rfl := Option.some.inj h
    exact sg_go hk I (lv_sub hl [2] rfl)
  · have h := sg_iff h z
    refine lv_aload_n hx hb dX12_farthestFrom_12 rfl (lv_at hl 0 rfl) ?_
    refine lv_iload_n hx hb dX12_farthestFrom_13 rfl (lv_at hl 1 rfl) ?_
    refine lv_iload_n hx hb dX12_farthestFrom_14 rfl (lv_at hl 3 rfl) ?_
    refine sg_callVr (As := [.int p1, .int x3]) X I mk_X12_415 (by decide) (by decide) shM_0 rfl (fun q9 e9 => c_X12_awayOf e9) h hl.1 rfl rfl (Nat.le_of_ble_eq_true rfl) dX12_farthestFrom_15 (fun v1 H locs h I => ?_)
    refine lv_ldcw (v := 100000) hx hb hown (hts _ qw_1128) dX12_farthestFrom_18 ?_
    refine lv_icmp_ge (tgt := 37) hx hb dX12_farthestFrom_21 (by decide) (fun z => ?_) (fun z => ?_)
    · have h := sg_ift h z
      refine lv_iload_n hx hb dX12_farthestFrom_37 rfl (lv_at hl 2 rfl) ?_
      refine lv_istore_n (lv' := [(2, .int x2), (0, .ref (sgA P 0)), (1, .int p1), (3, .int x3)]) hx hb dX12_farthestFrom_38 rfl hl (by decide) rfl (fun ls hl => ?_)
      refine lv_iinc (v := x3 + 1) (lv' := [(3, .int (x3 + 1)), (2, .int x2), (0, .ref (sgA P 0)), (1, .int p1)]) hx hb dX12_farthestFrom_39 hl (k := 3) rfl rfl (by decide) rfl (fun ls hl => ?_)
      refine lv_goto (tgt := 4) hx hb dX12_farthestFrom_42 (by decide) ?_
      obtain rfl := Option.some.inj h
      exact sg_go hk I (lv_sub hl [2, 3, 1, 0] rfl)
    · have h := sg_iff h z
      refine lv_iload_n hx hb dX12_farthestFrom_24 rfl (lv_at hl 2 rfl) ?_
      refine lv_aload_n hx hb dX12_farthestFrom_25 rfl (lv_at hl 0 rfl) ?_
      refine lv_iload_n hx hb dX12_farthestFrom_26 rfl (lv_at hl 1 rfl) ?_
      refine lv_iload_n hx hb dX12_farthestFrom_27 rfl (lv_at hl 3 rfl) ?_
      refine sg_callVr (As := [.int p1, .int x3]) X I mk_X12_415 (by decide) (by decide) shM_0 rfl (fun q9 e9 => c_X12_awayOf e9) h hl.1 rfl rfl (Nat.le_of_ble_eq_true rfl) dX12_farthestFrom_28 (fun v2 H locs h I => ?_)
      refine sg_mmax X hl.1 (by first | decide | omega) qw_755 qw_285 qw_286 qw_287 (Nat.le_of_ble_eq_true rfl) dX12_farthestFrom_31 ?_
      refine lv_goto (tgt := 38) hx hb dX12_farthestFrom_34 (by decide) ?_
      refine lv_istore_n (lv' := [(2, .int ((if x2 < v2 then v2 else x2))), (0, .ref (sgA P 0)), (1, .int p1), (3, .int x3)]) hx hb dX12_farthestFrom_38 rfl hl (by decide) rfl (fun ls hl => ?_)
      refine lv_iinc (v := x3 + 1) (lv' := [(3, .int (x3 + 1)), (2, .int ((if x2 < v2 then v2 else x2))), (0, .ref (sgA P 0)), (1, .int p1)]) hx hb dX12_farthestFrom_39 hl (k := 3) rfl rfl (by decide) rfl (fun ls hl => ?_)
      refine lv_goto (tgt := 4) hx hb dX12_farthestFrom_42 (by decide) ?_
      obtain rfl := Option.some.inj h
      exact sg_go hk I (lv_sub hl [2, 3, 1, 0] rfl)
def f_X12_farthestFrom (N : Nat) (p1 : Int32) (σ : sgS) : Option (Int32) :=
  sg_lb (sg_lp (fun x => f_X12_farthestFrom_L4 N p1 x.1 x.2 σ) N ((0, 0))) (fun r => some r) fun y3 =>
some y3
set_option maxHeartbeats 4000000 in
set_option maxRecDepth 100000 in
theorem b_X12_farthestFrom {p : Program} {l : Launch} {e : Env} {R : Room} {s : State} {m : MethodId} {args : Array Value} {below : List Frame} {meth : Method} {c : Code} {Q : State → Prop} {P : sgP} {A : Nat → Prop} {N : Nat} {p1 : Int32} {σ : sgS} (X : sg_C P A 2 p R s m args c cX12_farthestFrom 4 RX12) {H : Heap} {locs : List Loc} (I : sg_I P shM 35 A s.heap σ H locs) {ls : Array Slot} (hl : lv_has ls 4 [(0, .ref (sgA P 0)), (1, .int p1)]) {st : Int32} (h : f_X12_farthestFrom N p1 σ = some st) (hk : sg_Ri p l e R s m args below meth c Q P shM 35 A cX12_farthestFrom (some .int) (st, σ)) : W p l e R s m args below meth c H locs 0 0 Q (F0 m 0 ls []) := by
  unfold f_X12_farthestFrom at h
  have hx := X.1.1
  have hb := X.1.2.1
  have hown := X.1.2.2.2.1
  have hts := X.1.2.2.2.2
  refine lv_iconst (v := 0) hx hb dX12_farthestFrom_0 (by decide) ?_
  refine lv_istore_n (lv' := [(2, .int 0), (0, .ref (sgA P 0)), (1, .int p1)]) hx hb dX12_farthestFrom_1 rfl hl (by decide) rfl (fun ls hl => ?_)
  refine lv_iconst (v := 0) hx hb dX12_farthestFrom_2 (by decide) ?_
  refine lv_istore_n (lv' := [(3, .int 0), (2, .int 0), (0, .ref (sgA P 0)), (1, .int p1)]) hx hb dX12_farthestFrom_3 rfl hl (by decide) rfl (fun ls hl => ?_)
  obtain ⟨res, e9, k9⟩ := sg_lb_some h
  refine sg_go (sg_lp_W (a := (fun r => sg_Ri p l e R s m args below meth c Q P shM 35 A cX12_farthestFrom (some .int) (r, σ))) (w := (fun x => sg_Wt p l e R s m args below meth c Q P shM 35 A 4 4 σ [(0, .ref (sgA P 0)), (1, .int p1), (2, .int x.1), (3, .int x.2)])) (c := (fun y => sg_Wt p l e R s m args below meth c Q P shM 35 A 4 45 σ [(2, .int y)])) (fun x st hb9 hk9 => ?_) N ((0, 0)) res e9 (sg_k2_mono k9 (fun r h => ?_) (fun y3 h => ?_))) I (lv_sub hl [2, 3, 1, 0] rfl)
  · intro H locs ls I hl
    exact b_X12_farthestFrom_L4 X I hl hb9 hk9
  · obtain rfl := Option.some.inj h
    exact hk
  · intro H locs ls I hl
    refine lv_iload_n hx hb dX12_farthestFrom_45 rfl (lv_at hl 0 rfl) ?_
    obtain rfl := Option.some.inj h
    exact hk _ _ _ _ _ I ⟨_, rfl, rfl⟩ dX12_farthestFrom_46
set_option maxHeartbeats 4000000 in
set_option maxRecDepth 100000 in
theorem c_X12_farthestFrom {l : Launch} {P : sgP} {N : Nat} {p1 : Int32} {σ : sgS} {q : Int32} (h : f_X12_farthestFrom N p1 σ = some q) : sg_Mi P shM 35 l yX12_farthestFrom cX12_farthestFrom 4 (some .int) 2 [.ref (sgA P 0), .int p1] σ (q, σ) := by
  refine sg_mki (plainFor_of_name (by decide +kernel)) (Nat.le_of_ble_eq_true rfl) ?_
  intro p e R s m args below meth c Q A ls H locs X I hl hk
  exact b_X12_farthestFrom X I hl h hk
def f_X12_topPlace_L4_B70 (N : Nat) (p1 : Int32) (u2 : Int32) (u3 : Int32) (k0 : Int32) (σ : sgS) : Option ((Int32) ⊕ ((Int32 × Int32) ⊕ (Int32))) :=
  if k0 ≤ 0 then
  (some (.inr (.inl (u2, u3 + 1))))
else
  (some (.inr (.inl (u3, u3 + 1))))
set_option maxHeartbeats 4000000 in
set_option maxRecDepth 100000 in
theorem b_X12_topPlace_L4_B70 {p : Program} {l : Launch} {e : Env} {R : Room} {s : State} {m : MethodId} {args : Array Value} {below : List Frame} {meth : Method} {c : Code} {Q : State → Prop} {P : sgP} {A : Nat → Prop} {N : Nat} {p1 : Int32} {u2 : Int32} {u3 : Int32} {k0 : Int32} {σ : sgS} (X : sg_C P A 3 p R s m args c cX12_topPlace 5 RX12) {H : Heap} {locs : List Loc} (I : sg_I P shM 35 A s.heap σ H locs) {ls : Array Slot} (hl : lv_has ls 5 [(0, .ref (sgA P 0)), (1, .int p1), (2, .int u2), (3, .int u3)]) {st : (Int32) ⊕ ((Int32 × Int32) ⊕ (Int32))} (h : f_X12_topPlace_L4_B70 N p1 u2 u3 k0 σ = some st) (hk : sg_k3 (fun r => sg_Ri p l e R s m args below meth c Q P shM 35 A cX12_topPlace (some .int) (r, σ)) (fun x => sg_Wt p l e R s m args below meth c Q P shM 35 A 5 4 σ [(0, .ref (sgA P 0)), (1, .int p1), (2, .int x.1), (3, .int x.2)]) (fun y => sg_Wt p l e R s m args below meth c Q P shM 35 A 5 89 σ [(2, .int y)]) st) : W p l e R s m args below meth c H locs 0 0 Q (F0 m 70 ls [.int k0]) := by
  unfold f_X12_topPlace_L4_B70 at h
  have hx := X.1.1
  have hb := X.1.2.1
  have hown := X.1.2.2.2.1
  have hts := X.1.2.2.2.2
  refine lv_istore (lv' := [(4, .int k0), (0, .ref (sgA P 0)), (1, .int p1), (2, .int u2), (3, .int u3)]) hx hb dX12_topPlace_70 hl (by decide) rfl (fun ls hl => ?_)
  refine lv_iload hx hb dX12_topPlace_72 (lv_at hl 0 rfl) ?_
  refine lv_if_le (tgt := 81) hx hb dX12_topPlace_74 (by decide) (fun z => ?_) (fun z => ?_)
  · have h := sg_ift h z
    refine lv_iload_n hx hb dX12_topPlace_81 rfl (lv_at hl 3 rfl) ?_
    refine lv_istore_n (lv' := [(2, .int u2), (4, .int k0), (0, .ref (sgA P 0)), (1, .int p1), (3, .int u3)]) hx hb dX12_topPlace_82 rfl hl (by decide) rfl (fun ls hl => ?_)
    refine lv_iinc (v := u3 + 1) (lv' := [(3, .int (u3 + 1)), (2, .int u2), (4, .int k0), (0, .ref (sgA P 0)), (1, .int p1)]) hx hb dX12_topPlace_83 hl (k := 4) rfl rfl (by decide) rfl (fun ls hl => ?_)
    refine lv_goto (tgt := 4) hx hb dX12_topPlace_86 (by decide) ?_
    obtain rfl := Option.some.inj h
    exact sg_go hk I (lv_sub hl [3, 4, 1, 0] rfl)
  · have h := sg_iff h z
    refine lv_iload_n hx hb dX12_topPlace_77 rfl (lv_at hl 4 rfl) ?_
    refine lv_goto (tgt := 82) hx hb dX12_topPlace_78 (by decide) ?_
    refine lv_istore_n (lv' := [(2, .int u3), (4, .int k0), (0, .ref (sgA P 0)), (1, .int p1), (3, .int u3)]) hx hb dX12_topPlace_82 rfl hl (by decide) rfl (fun ls hl => ?_)
    refine lv_iinc (v := u3 + 1) (lv' := [(3, .int (u3 + 1)), (2, .int u3), (4, .int k0), (0, .ref (sgA P 0)), (1, .int p1)]) hx hb dX12_topPlace_83 hl (k := 4) rfl rfl (by decide) rfl (fun ls hl => ?_)
    refine lv_goto (tgt := 4) hx hb dX12_topPlace_86 (by decide) ?_
    obtain rfl := Option.some.inj h
    exact sg_go hk I (lv_sub hl [3, 4, 1, 0] rfl)
def f_X12_topPlace_L4 (N : Nat) (p1 : Int32) (x2 : Int32) (x3 : Int32) (σ : sgS) : Option ((Int32) ⊕ ((Int32 × Int32) ⊕ (Int32))) :=
  if (σ.1 0 28) ≤ x3 then
  (some (.inr (.inr x2)))
else
  (if p1 = 0 then
    (sg_ld σ 21 215 (24 + x3) fun v5 =>
    sg_ld σ 21 215 (24 + x2) fun v6 =>
    f_X12_topPlace_L4_B70 N p1 x2 x3 (v5 - v6) σ)
  else
    (if p1 = 1 then
      (sg_ld σ 16 7 x3 fun v3 =>
      sg_ld σ 16 7 x2 fun v4 =>
      f_X12_topPlace_L4_B70 N p1 x2 x3 (v3 - v4) σ)
    else
      (sg_cr (f_X12_farthestFrom N x2 σ) fun v1 =>
      sg_cr (f_X12_farthestFrom N x3 σ) fun v2 =>
      f_X12_topPlace_L4_B70 N p1 x2 x3 (v1 - v2) σ)))
set_option maxHeartbeats 4000000 in
set_option maxRecDepth 100000 in
theorem b_X12_topPlace_L4 {p : Program} {l : Launch} {e : Env} {R : Room} {s : State} {m : MethodId} {args : Array Value} {below : List Frame} {meth : Method} {c : Code} {Q : State → Prop} {P : sgP} {A : Nat → Prop} {N : Nat} {p1 : Int32} {x2 : Int32} {x3 : Int32} {σ : sgS} (X : sg_C P A 3 p R s m args c cX12_topPlace 5 RX12) {H : Heap} {locs : List Loc} (I : sg_I P shM 35 A s.heap σ H locs) {ls : Array Slot} (hl : lv_has ls 5 [(0, .ref (sgA P 0)), (1, .int p1), (2, .int x2), (3, .int x3)]) {st : (Int32) ⊕ ((Int32 × Int32) ⊕ (Int32))} (h : f_X12_topPlace_L4 N p1 x2 x3 σ = some st) (hk : sg_k3 (fun r => sg_Ri p l e R s m args below meth c Q P shM 35 A cX12_topPlace (some .int) (r, σ)) (fun x => sg_Wt p l e R s m args below meth c Q P shM 35 A 5 4 σ [(0, .ref (sgA P 0)), (1, .int p1), (2, .int x.1), (3, .int x.2)]) (fun y => sg_Wt p l e R s m args below meth c Q P shM 35 A 5 89 σ [(2, .int y)]) st) : W p l e R s m args below meth c H locs 0 0 Q (F0 m 4 ls []) := by
  unfold f_X12_topPlace_L4 at h
  have hx := X.1.1
  have hb := X.1.2.1
  have hown := X.1.2.2.2.1
  have hts := X.1.2.2.2.2
  refine lv_iload_n hx hb dX12_topPlace_4 rfl (lv_at hl 3 rfl) ?_
  refine lv_aload_n hx hb dX12_topPlace_5 rfl (lv_at hl 0 rfl) ?_
  refine sg_geti X I fk_X12_288 (by decide) shM_0 rfl dX12_topPlace_6 ?_
  refine lv_icmp_ge (tgt := 89) hx hb dX12_topPlace_9 (by decide) (fun z => ?_) (fun z => ?_)
  · have h := sg_ift h z
    obtain rfl := Option.some.inj h
    exact sg_go hk I (lv_sub hl [2] rfl)
  · have h := sg_iff h z
    refine lv_iload_n hx hb dX12_topPlace_12 rfl (lv_at hl 1 rfl) ?_
    refine lv_if_ne (tgt := 38) hx hb dX12_topPlace_13 (by decide) (fun z => ?_) (fun z => ?_)
    · have h := sg_iff h z
      refine lv_iload_n hx hb dX12_topPlace_38 rfl (lv_at hl 1 rfl) ?_
      refine lv_iconst (v := 1) hx hb dX12_topPlace_39 (by decide) ?_
      refine lv_icmp_ne (tgt := 59) hx hb dX12_topPlace_40 (by decide) (fun z => ?_) (fun z => ?_)
      · have h := sg_iff h z
        refine lv_aload_n hx hb dX12_topPlace_59 rfl (lv_at hl 0 rfl) ?_
        refine lv_iload_n hx hb dX12_topPlace_60 rfl (lv_at hl 2 rfl) ?_
        refine sg_callVr (As := [.int x2]) X I mk_X12_492 (by decide) (by decide) shM_0 rfl (fun q9 e9 => c_X12_farthestFrom e9) h hl.1 rfl rfl (Nat.le_of_ble_eq_true rfl) dX12_topPlace_61 (fun v1 H locs h I => ?_)
        refine lv_aload_n hx hb dX12_topPlace_64 rfl (lv_at hl 0 rfl) ?_
        refine lv_iload_n hx hb dX12_topPlace_65 rfl (lv_at hl 3 rfl) ?_
        refine sg_callVr (As := [.int x3]) X I mk_X12_492 (by decide) (by decide) shM_0 rfl (fun q9 e9 => c_X12_farthestFrom e9) h hl.1 rfl rfl (Nat.le_of_ble_eq_true rfl) dX12_topPlace_66 (fun v2 H locs h I => ?_)
        refine lv_isub hx hb dX12_topPlace_69 ?_
        exact b_X12_topPlace_L4_B70 X I (lv_sub hl [0, 1, 2, 3] rfl) h hk
      · have h := sg_ift h z
        refine lv_aload_n hx hb dX12_topPlace_43 rfl (lv_at hl 0 rfl) ?_
        refine sg_getr X I fk_X12_55 (j := 16) (by decide) shM_0 rfl dX12_topPlace_44 ?_
        refine lv_iload_n hx hb dX12_topPlace_47 rfl (lv_at hl 3 rfl) ?_
        refine sg_iald X I (by decide) shM_16 h dX12_topPlace_48 (fun v3 h => ?_)
        refine lv_aload_n hx hb dX12_topPlace_49 rfl (lv_at hl 0 rfl) ?_
        refine sg_getr X I fk_X12_55 (j := 16) (by decide) shM_0 rfl dX12_topPlace_50 ?_
        refine lv_iload_n hx hb dX12_topPlace_53 rfl (lv_at hl 2 rfl) ?_
        refine sg_iald X I (by decide) shM_16 h dX12_topPlace_54 (fun v4 h => ?_)
        refine lv_isub hx hb dX12_topPlace_55 ?_
        refine lv_goto (tgt := 70) hx hb dX12_topPlace_56 (by decide) ?_
        exact b_X12_topPlace_L4_B70 X I (lv_sub hl [0, 1, 2, 3] rfl) h hk
    · have h := sg_ift h z
      refine lv_aload_n hx hb dX12_topPlace_16 rfl (lv_at hl 0 rfl) ?_
      refine sg_getr X I fk_X12_70 (j := 21) (by decide) shM_0 rfl dX12_topPlace_17 ?_
      refine lv_bipush (v := 24) hx hb dX12_topPlace_20 (by decide) ?_
      refine lv_iload_n hx hb dX12_topPlace_22 rfl (lv_at hl 3 rfl) ?_
      refine lv_iadd hx hb dX12_topPlace_23 ?_
      refine sg_iald X I (by decide) shM_21 h dX12_topPlace_24 (fun v5 h => ?_)
      refine lv_aload_n hx hb dX12_topPlace_25 rfl (lv_at hl 0 rfl) ?_
      refine sg_getr X I fk_X12_70 (j := 21) (by decide) shM_0 rfl dX12_topPlace_26 ?_
      refine lv_bipush (v := 24) hx hb dX12_topPlace_29 (by decide) ?_
      refine lv_iload_n hx hb dX12_topPlace_31 rfl (lv_at hl 2 rfl) ?_
      refine lv_iadd hx hb dX12_topPlace_32 ?_
      refine sg_iald X I (by decide) shM_21 h dX12_topPlace_33 (fun v6 h => ?_)
      refine lv_isub hx hb dX12_topPlace_34 ?_
      refine lv_goto (tgt := 70) hx hb dX12_topPlace_35 (by decide) ?_
      exact b_X12_topPlace_L4_B70 X I (lv_sub hl [0, 1, 2, 3] rfl) h hk
def f_X12_topPlace (N : Nat) (p1 : Int32) (σ : sgS) : Option (Int32) :=
  sg_lb (sg_lp (fun x => f_X12_topPlace_L4 N p1 x.1 x.2 σ) N ((0, 1))) (fun r => some r) fun y7 =>
some y7
set_option maxHeartbeats 4000000 in
set_option maxRecDepth 100000 in
theorem b_X12_topPlace {p : Program} {l : Launch} {e : Env} {R : Room} {s : State} {m : MethodId} {args : Array Value} {below : List Frame} {meth : Method} {c : Code} {Q : State → Prop} {P : sgP} {A : Nat → Prop} {N : Nat} {p1 : Int32} {σ : sgS} (X : sg_C P A 3 p R s m args c cX12_topPlace 5 RX12) {H : Heap} {locs : List Loc} (I : sg_I P shM 35 A s.heap σ H locs) {ls : Array Slot} (hl : lv_has ls 5 [(0, .ref (sgA P 0)), (1, .int p1)]) {st : Int32} (h : f_X12_topPlace N p1 σ = some st) (hk : sg_Ri p l e R s m args below meth c Q P shM 35 A cX12_topPlace (some .int) (st, σ)) : W p l e R s m args below meth c H locs 0 0 Q (F0 m 0 ls []) := by
  unfold f_X12_topPlace at h
  have hx := X.1.1
  have hb := X.1.2.1
  have hown := X.1.2.2.2.1
  have hts := X.1.2.2.2.2
  refine lv_iconst (v := 0) hx hb dX12_topPlace_0 (by decide) ?_
  refine lv_istore_n (lv' := [(2, .int 0), (0, .ref (sgA P 0)), (1, .int p1)]) hx hb dX12_topPlace_1 rfl hl (by decide) rfl (fun ls hl => ?_)
  refine lv_iconst (v := 1) hx hb dX12_topPlace_2 (by decide) ?_
  refine lv_istore_n (lv' := [(3, .int 1), (2, .int 0), (0, .ref (sgA P 0)), (1, .int p1)]) hx hb dX12_topPlace_3 rfl hl (by decide) rfl (fun ls hl => ?_)
  obtain ⟨res, e9, k9⟩ := sg_lb_some h
  refine sg_go (sg_lp_W (a := (fun r => sg_Ri p l e R s m args below meth c Q P shM 35 A cX12_topPlace (some .int) (r, σ))) (w := (fun x => sg_Wt p l e R s m args below meth c Q P shM 35 A 5 4 σ [(0, .ref (sgA P 0)), (1, .int p1), (2, .int x.1), (3, .int x.2)])) (c := (fun y => sg_Wt p l e R s m args below meth c Q P shM 35 A 5 89 σ [(2, .int y)])) (fun x st hb9 hk9 => ?_) N ((0, 1)) res e9 (sg_k2_mono k9 (fun r h => ?_) (fun y7 h => ?_))) I (lv_sub hl [2, 3, 1, 0] rfl)
  · intro H locs ls I hl
    exact b_X12_topPlace_L4 X I hl hb9 hk9
  · obtain rfl := Option.some.inj h
    exact hk
  · intro H locs ls I hl
    refine lv_iload_n hx hb dX12_topPlace_89 rfl (lv_at hl 0 rfl) ?_
    obtain rfl := Option.some.inj h
    exact hk _ _ _ _ _ I ⟨_, rfl, rfl⟩ dX12_topPlace_90
set_option maxHeartbeats 4000000 in
set_option maxRecDepth 100000 in
theorem c_X12_topPlace {l : Launch} {P : sgP} {N : Nat} {p1 : Int32} {σ : sgS} {q : Int32} (h : f_X12_topPlace N p1 σ = some q) : sg_Mi P shM 35 l yX12_topPlace cX12_topPlace 5 (some .int) 3 [.ref (sgA P 0), .int p1] σ (q, σ) := by
  refine sg_mki (plainFor_of_name (by decide +kernel)) (Nat.le_of_ble_eq_true rfl) ?_
  intro p e R s m args below meth c Q A ls H locs X I hl hk
  exact b_X12_topPlace X I hl h hk
def f_X12_topRoad_L4_B51 (N : Nat) (p1 : Int32) (u2 : Int32) (u3 : Int32) (k0 : Int32) (σ : sgS) : Option ((Int32) ⊕ ((Int32 × Int32) ⊕ (Int32))) :=
  if k0 ≤ 0 then
  (some (.inr (.inl (u2, u3 + 1))))
else
  (some (.inr (.inl (u3, u3 + 1))))
set_option maxHeartbeats 4000000 in
set_option maxRecDepth 100000 in
theorem b_X12_topRoad_L4_B51 {p : Program} {l : Launch} {e : Env} {R : Room} {s : State} {m : MethodId} {args : Array Value} {below : List Frame} {meth : Method} {c : Code} {Q : State → Prop} {P : sgP} {A : Nat → Prop} {N : Nat} {p1 : Int32} {u2 : Int32} {u3 : Int32} {k0 : Int32} {σ : sgS} (X : sg_C P A 1 p R s m args c cX12_topRoad 5 RX12) {H : Heap} {locs : List Loc} (I : sg_I P shM 35 A s.heap σ H locs) {ls : Array Slot} (hl : lv_has ls 5 [(0, .ref (sgA P 0)), (1, .int p1), (2, .int u2), (3, .int u3)]) {st : (Int32) ⊕ ((Int32 × Int32) ⊕ (Int32))} (h : f_X12_topRoad_L4_B51 N p1 u2 u3 k0 σ = some st) (hk : sg_k3 (fun r => sg_Ri p l e R s m args below meth c Q P shM 35 A cX12_topRoad (some .int) (r, σ)) (fun x => sg_Wt p l e R s m args below meth c Q P shM 35 A 5 4 σ [(0, .ref (sgA P 0)), (1, .int p1), (2, .int x.1), (3, .int x.2)]) (fun y => sg_Wt p l e R s m args below meth c Q P shM 35 A 5 70 σ [(2, .int y)]) st) : W p l e R s m args below meth c H locs 0 0 Q (F0 m 51 ls [.int k0]) := by
  unfold f_X12_topRoad_L4_B51 at h
  have hx := X.1.1
  have hb := X.1.2.1
  have hown := X.1.2.2.2.1
  have hts := X.1.2.2.2.2
  refine lv_istore (lv' := [(4, .int k0), (0, .ref (sgA P 0)), (1, .int p1), (2, .int u2), (3, .int u3)]) hx hb dX12_topRoad_51 hl (by decide) rfl (fun ls hl => ?_)
  refine lv_iload hx hb dX12_topRoad_53 (lv_at hl 0 rfl) ?_
  refine lv_if_le (tgt := 62) hx hb dX12_topRoad_55 (by decide) (fun z => ?_) (fun z => ?_)
  · have h := sg_ift h z
    refine lv_iload_n hx hb dX12_topRoad_62 rfl (lv_at hl 3 rfl) ?_
    refine lv_istore_n (lv' := [(2, .int u2), (4, .int k0), (0, .ref (sgA P 0)), (1, .int p1), (3, .int u3)]) hx hb dX12_topRoad_63 rfl hl (by decide) rfl (fun ls hl => ?_)
    refine lv_iinc (v := u3 + 1) (lv' := [(3, .int (u3 + 1)), (2, .int u2), (4, .int k0), (0, .ref (sgA P 0)), (1, .int p1)]) hx hb dX12_topRoad_64 hl (k := 4) rfl rfl (by decide) rfl (fun ls hl => ?_)
    refine lv_goto (tgt := 4) hx hb dX12_topRoad_67 (by decide) ?_
    obtain rfl := Option.some.inj h
    exact sg_go hk I (lv_sub hl [3, 4, 1, 0] rfl)
  · have h := sg_iff h z
    refine lv_iload_n hx hb dX12_topRoad_58 rfl (lv_at hl 4 rfl) ?_
    refine lv_goto (tgt := 63) hx hb dX12_topRoad_59 (by decide) ?_
    refine lv_istore_n (lv' := [(2, .int u3), (4, .int k0), (0, .ref (sgA P 0)), (1, .int p1), (3, .int u3)]) hx hb dX12_topRoad_63 rfl hl (by decide) rfl (fun ls hl => ?_)
    refine lv_iinc (v := u3 + 1) (lv' := [(3, .int (u3 + 1)), (2, .int u3), (4, .int k0), (0, .ref (sgA P 0)), (1, .int p1)]) hx hb dX12_topRoad_64 hl (k := 4) rfl rfl (by decide) rfl (fun ls hl => ?_)
    refine lv_goto (tgt := 4) hx hb dX12_topRoad_67 (by decide) ?_
    obtain rfl := Option.some.inj h
    exact sg_go hk I (lv_sub hl [3, 4, 1, 0] rfl)
def f_X12_topRoad_L4 (N : Nat) (p1 : Int32) (x2 : Int32) (x3 : Int32) (σ : sgS) : Option ((Int32) ⊕ ((Int32 × Int32) ⊕ (Int32))) :=
  if (σ.1 0 29) ≤ x3 then
  (some (.inr (.inr x2)))
else
  (if p1 = 0 then
    (sg_ld σ 21 215 (12 + x3) fun v1 =>
    sg_ld σ 21 215 (12 + x2) fun v2 =>
    f_X12_topRoad_L4_B51 N p1 x2 x3 (v1 - v2) σ)
  else
    (sg_ld σ 23 12 x3 fun v3 =>
    sg_ld σ 23 12 x2 fun v4 =>
    f_X12_topRoad_L4_B51 N p1 x2 x3 (v3 - v4) σ))
set_option maxHeartbeats 4000000 in
set_option maxRecDepth 100000 in
theorem b_X12_topRoad_L4 {p : Program} {l : Launch} {e : Env} {R : Room} {s : State} {m : MethodId} {args : Array Value} {below : List Frame} {meth : Method} {c : Code} {Q : State → Prop} {P : sgP} {A : Nat → Prop} {N : Nat} {p1 : Int32} {x2 : Int32} {x3 : Int32} {σ : sgS} (X : sg_C P A 1 p R s m args c cX12_topRoad 5 RX12) {H : Heap} {locs : List Loc} (I : sg_I P shM 35 A s.heap σ H locs) {ls : Array Slot} (hl : lv_has ls 5 [(0, .ref (sgA P 0)), (1, .int p1), (2, .int x2), (3, .int x3)]) {st : (Int32) ⊕ ((Int32 × Int32) ⊕ (Int32))} (h : f_X12_topRoad_L4 N p1 x2 x3 σ = some st) (hk : sg_k3 (fun r => sg_Ri p l e R s m args below meth c Q P shM 35 A cX12_topRoad (some .int) (r, σ)) (fun x => sg_Wt p l e R s m args below meth c Q P shM 35 A 5 4 σ [(0, .ref (sgA P 0)), (1, .int p1), (2, .int x.1), (3, .int x.2)]) (fun y => sg_Wt p l e R s m args below meth c Q P shM 35 A 5 70 σ [(2, .int y)]) st) : W p l e R s m args below meth c H locs 0 0 Q (F0 m 4 ls []) := by
  unfold f_X12_topRoad_L4 at h
  have hx := X.1.1
  have hb := X.1.2.1
  have hown := X.1.2.2.2.1
  have hts := X.1.2.2.2.2
  refine lv_iload_n hx hb dX12_topRoad_4 rfl (lv_at hl 3 rfl) ?_
  refine lv_aload_n hx hb dX12_topRoad_5 rfl (lv_at hl 0 rfl) ?_
  refine sg_geti X I fk_X12_291 (by decide) shM_0 rfl dX12_topRoad_6 ?_
  refine lv_icmp_ge (tgt := 70) hx hb dX12_topRoad_9 (by decide) (fun z => ?_) (fun z => ?_)
  · have h := sg_ift h z
    obtain rfl := Option.some.inj h
    exact sg_go hk I (lv_sub hl [2] rfl)
  · have h := sg_iff h z
    refine lv_iload_n hx hb dX12_topRoad_12 rfl (lv_at hl 1 rfl) ?_
    refine lv_if_eq (tgt := 32) hx hb dX12_topRoad_13 (by decide) (fun z => ?_) (fun z => ?_)
    · have h := sg_ift h z
      refine lv_aload_n hx hb dX12_topRoad_32 rfl (lv_at hl 0 rfl) ?_
      refine sg_getr X I fk_X12_70 (j := 21) (by decide) shM_0 rfl dX12_topRoad_33 ?_
      refine lv_bipush (v := 12) hx hb dX12_topRoad_36 (by decide) ?_
      refine lv_iload_n hx hb dX12_topRoad_38 rfl (lv_at hl 3 rfl) ?_
      refine lv_iadd hx hb dX12_topRoad_39 ?_
      refine sg_iald X I (by decide) shM_21 h dX12_topRoad_40 (fun v1 h => ?_)
      refine lv_aload_n hx hb dX12_topRoad_41 rfl (lv_at hl 0 rfl) ?_
      refine sg_getr X I fk_X12_70 (j := 21) (by decide) shM_0 rfl dX12_topRoad_42 ?_
      refine lv_bipush (v := 12) hx hb dX12_topRoad_45 (by decide) ?_
      refine lv_iload_n hx hb dX12_topRoad_47 rfl (lv_at hl 2 rfl) ?_
      refine lv_iadd hx hb dX12_topRoad_48 ?_
      refine sg_iald X I (by decide) shM_21 h dX12_topRoad_49 (fun v2 h => ?_)
      refine lv_isub hx hb dX12_topRoad_50 ?_
      exact b_X12_topRoad_L4_B51 X I (lv_sub hl [0, 1, 2, 3] rfl) h hk
    · have h := sg_iff h z
      refine lv_aload_n hx hb dX12_topRoad_16 rfl (lv_at hl 0 rfl) ?_
      refine sg_getr X I fk_X12_83 (j := 23) (by decide) shM_0 rfl dX12_topRoad_17 ?_
      refine lv_iload_n hx hb dX12_topRoad_20 rfl (lv_at hl 3 rfl) ?_
      refine sg_iald X I (by decide) shM_23 h dX12_topRoad_21 (fun v3 h => ?_)
      refine lv_aload_n hx hb dX12_topRoad_22 rfl (lv_at hl 0 rfl) ?_
      refine sg_getr X I fk_X12_83 (j := 23) (by decide) shM_0 rfl dX12_topRoad_23 ?_
      refine lv_iload_n hx hb dX12_topRoad_26 rfl (lv_at hl 2 rfl) ?_
      refine sg_iald X I (by decide) shM_23 h dX12_topRoad_27 (fun v4 h => ?_)
      refine lv_isub hx hb dX12_topRoad_28 ?_
      refine lv_goto (tgt := 51) hx hb dX12_topRoad_29 (by decide) ?_
      exact b_X12_topRoad_L4_B51 X I (lv_sub hl [0, 1, 2, 3] rfl) h hk
def f_X12_topRoad (N : Nat) (p1 : Int32) (σ : sgS) : Option (Int32) :=
  sg_lb (sg_lp (fun x => f_X12_topRoad_L4 N p1 x.1 x.2 σ) N ((0, 1))) (fun r => some r) fun y5 =>
some y5
set_option maxHeartbeats 4000000 in
set_option maxRecDepth 100000 in
theorem b_X12_topRoad {p : Program} {l : Launch} {e : Env} {R : Room} {s : State} {m : MethodId} {args : Array Value} {below : List Frame} {meth : Method} {c : Code} {Q : State → Prop} {P : sgP} {A : Nat → Prop} {N : Nat} {p1 : Int32} {σ : sgS} (X : sg_C P A 1 p R s m args c cX12_topRoad 5 RX12) {H : Heap} {locs : List Loc} (I : sg_I P shM 35 A s.heap σ H locs) {ls : Array Slot} (hl : lv_has ls 5 [(0, .ref (sgA P 0)), (1, .int p1)]) {st : Int32} (h : f_X12_topRoad N p1 σ = some st) (hk : sg_Ri p l e R s m args below meth c Q P shM 35 A cX12_topRoad (some .int) (st, σ)) : W p l e R s m args below meth c H locs 0 0 Q (F0 m 0 ls []) := by
  unfold f_X12_topRoad at h
  have hx := X.1.1
  have hb := X.1.2.1
  have hown := X.1.2.2.2.1
  have hts := X.1.2.2.2.2
  refine lv_iconst (v := 0) hx hb dX12_topRoad_0 (by decide) ?_
  refine lv_istore_n (lv' := [(2, .int 0), (0, .ref (sgA P 0)), (1, .int p1)]) hx hb dX12_topRoad_1 rfl hl (by decide) rfl (fun ls hl => ?_)
  refine lv_iconst (v := 1) hx hb dX12_topRoad_2 (by decide) ?_
  refine lv_istore_n (lv' := [(3, .int 1), (2, .int 0), (0, .ref (sgA P 0)), (1, .int p1)]) hx hb dX12_topRoad_3 rfl hl (by decide) rfl (fun ls hl => ?_)
  obtain ⟨res, e9, k9⟩ := sg_lb_some h
  refine sg_go (sg_lp_W (a := (fun r => sg_Ri p l e R s m args below meth c Q P shM 35 A cX12_topRoad (some .int) (r, σ))) (w := (fun x => sg_Wt p l e R s m args below meth c Q P shM 35 A 5 4 σ [(0, .ref (sgA P 0)), (1, .int p1), (2, .int x.1), (3, .int x.2)])) (c := (fun y => sg_Wt p l e R s m args below meth c Q P shM 35 A 5 70 σ [(2, .int y)])) (fun x st hb9 hk9 => ?_) N ((0, 1)) res e9 (sg_k2_mono k9 (fun r h => ?_) (fun y5 h => ?_))) I (lv_sub hl [2, 3, 1, 0] rfl)
  · intro H locs ls I hl
    exact b_X12_topRoad_L4 X I hl hb9 hk9
  · obtain rfl := Option.some.inj h
    exact hk
  · intro H locs ls I hl
    refine lv_iload_n hx hb dX12_topRoad_70 rfl (lv_at hl 0 rfl) ?_
    obtain rfl := Option.some.inj h
    exact hk _ _ _ _ _ I ⟨_, rfl, rfl⟩ dX12_topRoad_71
set_option maxHeartbeats 4000000 in
set_option maxRecDepth 100000 in
theorem c_X12_topRoad {l : Launch} {P : sgP} {N : Nat} {p1 : Int32} {σ : sgS} {q : Int32} (h : f_X12_topRoad N p1 σ = some q) : sg_Mi P shM 35 l yX12_topRoad cX12_topRoad 5 (some .int) 1 [.ref (sgA P 0), .int p1] σ (q, σ) := by
  refine sg_mki (plainFor_of_name (by decide +kernel)) (Nat.le_of_ble_eq_true rfl) ?_
  intro p e R s m args below meth c Q A ls H locs X I hl hk
  exact b_X12_topRoad X I hl h hk
def f_X12_bridges_L4 (N : Nat) (x1 : Int32) (x2 : Int32) (σ : sgS) : Option ((Int32) ⊕ ((Int32 × Int32) ⊕ (Int32))) :=
  if (σ.1 0 29) ≤ x2 then
  (some (.inr (.inr x1)))
else
  (sg_cr (f_X12_isClosed N x2 σ) fun v1 =>
  if v1 = 0 then
    (sg_cr (f_X12_of N x2 0 σ) fun v2 =>
    sg_cr (f_X12_openOnes N σ) fun v3 =>
    sg_cr (f_X12_reachBy N v2 (v3 &&& ((1 <<< (x2 &&& 31)) ^^^ ((-1)))) σ) fun v4 =>
    sg_cr (f_X12_of N x2 1 σ) fun v5 =>
    sg_cr (f_X12_has N v4 v5 σ) fun v6 =>
    if v6 = 0 then
      (some (.inr (.inl (x1 ||| (1 <<< (x2 &&& 31)), x2 + 1))))
    else
      (some (.inr (.inl (x1 ||| 0, x2 + 1)))))
  else
    (some (.inr (.inl (x1 ||| 0, x2 + 1)))))
set_option maxHeartbeats 4000000 in
set_option maxRecDepth 100000 in
theorem b_X12_bridges_L4 {p : Program} {l : Launch} {e : Env} {R : Room} {s : State} {m : MethodId} {args : Array Value} {below : List Frame} {meth : Method} {c : Code} {Q : State → Prop} {P : sgP} {A : Nat → Prop} {N : Nat} {x1 : Int32} {x2 : Int32} {σ : sgS} (X : sg_C P A 3 p R s m args c cX12_bridges 3 RX12) {H : Heap} {locs : List Loc} (I : sg_I P shM 35 A s.heap σ H locs) {ls : Array Slot} (hl : lv_has ls 3 [(0, .ref (sgA P 0)), (1, .int x1), (2, .int x2)]) {st : (Int32) ⊕ ((Int32 × Int32) ⊕ (Int32))} (h : f_X12_bridges_L4 N x1 x2 σ = some st) (hk : sg_k3 (fun r => sg_Ri p l e R s m args below meth c Q P shM 35 A cX12_bridges (some .int) (r, σ)) (fun x => sg_Wt p l e R s m args below meth c Q P shM 35 A 3 4 σ [(0, .ref (sgA P 0)), (1, .int x.1), (2, .int x.2)]) (fun y => sg_Wt p l e R s m args below meth c Q P shM 35 A 3 68 σ [(1, .int y)]) st) : W p l e R s m args below meth c H locs 0 0 Q (F0 m 4 ls []) := by
  unfold f_X12_bridges_L4 at h
  have hx := X.1.1
  have hb := X.1.2.1
  have hown := X.1.2.2.2.1
  have hts := X.1.2.2.2.2
  refine lv_iload_n hx hb dX12_bridges_4 rfl (lv_at hl 2 rfl) ?_
  refine lv_aload_n hx hb dX12_bridges_5 rfl (lv_at hl 0 rfl) ?_
  refine sg_geti X I fk_X12_291 (by decide) shM_0 rfl dX12_bridges_6 ?_
  refine lv_icmp_ge (tgt := 68) hx hb dX12_bridges_9 (by decide) (fun z => ?_) (fun z => ?_)
  · have h := sg_ift h z
    obtain rfl := Option.some.inj h
    exact sg_go hk I (lv_sub hl [1] rfl)
  · have h := sg_iff h z
    refine lv_iload_n hx hb dX12_bridges_12 rfl (lv_at hl 1 rfl) ?_
    refine lv_aload_n hx hb dX12_bridges_13 rfl (lv_at hl 0 rfl) ?_
    refine lv_iload_n hx hb dX12_bridges_14 rfl (lv_at hl 2 rfl) ?_
    refine sg_callVr (As := [.int x2]) X I mk_X12_334 (by decide) (by decide) shM_0 rfl (fun q9 e9 => c_X12_isClosed e9) h hl.1 rfl rfl (Nat.le_of_ble_eq_true rfl) dX12_bridges_15 (fun v1 H locs h I => ?_)
    refine lv_if_ne (tgt := 59) hx hb dX12_bridges_18 (by decide) (fun z => ?_) (fun z => ?_)
    · have h := sg_iff h z
      refine lv_iconst (v := 0) hx hb dX12_bridges_59 (by decide) ?_
      refine lv_ior hx hb dX12_bridges_60 ?_
      refine lv_istore_n (lv' := [(1, .int (x1 ||| 0)), (0, .ref (sgA P 0)), (2, .int x2)]) hx hb dX12_bridges_61 rfl hl (by decide) rfl (fun ls hl => ?_)
      refine lv_iinc (v := x2 + 1) (lv' := [(2, .int (x2 + 1)), (1, .int (x1 ||| 0)), (0, .ref (sgA P 0))]) hx hb dX12_bridges_62 hl (k := 2) rfl rfl (by decide) rfl (fun ls hl => ?_)
      refine lv_goto (tgt := 4) hx hb dX12_bridges_65 (by decide) ?_
      obtain rfl := Option.some.inj h
      exact sg_go hk I (lv_sub hl [2, 1, 0] rfl)
    · have h := sg_ift h z
      refine lv_aload_n hx hb dX12_bridges_21 rfl (lv_at hl 0 rfl) ?_
      refine lv_aload_n hx hb dX12_bridges_22 rfl (lv_at hl 0 rfl) ?_
      refine lv_iload_n hx hb dX12_bridges_23 rfl (lv_at hl 2 rfl) ?_
      refine lv_iconst (v := 0) hx hb dX12_bridges_24 (by decide) ?_
      refine sg_callVr (As := [.int x2, .int 0]) X I mk_X12_316 (by decide) (by decide) shM_0 rfl (fun q9 e9 => c_X12_of e9) h hl.1 rfl rfl (Nat.le_of_ble_eq_true rfl) dX12_bridges_25 (fun v2 H locs h I => ?_)
      refine lv_aload_n hx hb dX12_bridges_28 rfl (lv_at hl 0 rfl) ?_
      refine sg_callVr (As := []) X I mk_X12_437 (by decide) (by decide) shM_0 rfl (fun q9 e9 => c_X12_openOnes e9) h hl.1 rfl rfl (Nat.le_of_ble_eq_true rfl) dX12_bridges_29 (fun v3 H locs h I => ?_)
      refine lv_iconst (v := 1) hx hb dX12_bridges_32 (by decide) ?_
      refine lv_iload_n hx hb dX12_bridges_33 rfl (lv_at hl 2 rfl) ?_
      refine lv_ishl hx hb dX12_bridges_34 ?_
      refine lv_iconst (v := -1) hx hb dX12_bridges_35 (by decide) ?_
      refine lv_ixor hx hb dX12_bridges_36 ?_
      refine lv_iand hx hb dX12_bridges_37 ?_
      refine sg_callVr (As := [.int v2, .int (v3 &&& ((1 <<< (x2 &&& 31)) ^^^ ((-1))))]) X I mk_X12_440 (by decide) (by decide) shM_0 rfl (fun q9 e9 => c_X12_reachBy e9) h hl.1 rfl rfl (Nat.le_of_ble_eq_true rfl) dX12_bridges_38 (fun v4 H locs h I => ?_)
      refine lv_aload_n hx hb dX12_bridges_41 rfl (lv_at hl 0 rfl) ?_
      refine lv_iload_n hx hb dX12_bridges_42 rfl (lv_at hl 2 rfl) ?_
      refine lv_iconst (v := 1) hx hb dX12_bridges_43 (by decide) ?_
      refine sg_callVr (As := [.int x2, .int 1]) X I mk_X12_316 (by decide) (by decide) shM_0 rfl (fun q9 e9 => c_X12_of e9) h hl.1 rfl rfl (Nat.le_of_ble_eq_true rfl) dX12_bridges_44 (fun v5 H locs h I => ?_)
      refine sg_callSr (As := [.int v4, .int v5]) X I mk_X12_246 (by decide) (fun q9 e9 => c_X12_has e9) h hl.1 rfl rfl (Nat.le_of_ble_eq_true rfl) dX12_bridges_47 (fun v6 H locs h I => ?_)
      refine lv_if_ne (tgt := 59) hx hb dX12_bridges_50 (by decide) (fun z => ?_) (fun z => ?_)
      · have h := sg_iff h z
        refine lv_iconst (v := 0) hx hb dX12_bridges_59 (by decide) ?_
        refine lv_ior hx hb dX12_bridges_60 ?_
        refine lv_istore_n (lv' := [(1, .int (x1 ||| 0)), (0, .ref (sgA P 0)), (2, .int x2)]) hx hb dX12_bridges_61 rfl hl (by decide) rfl (fun ls hl => ?_)
        refine lv_iinc (v := x2 + 1) (lv' := [(2, .int (x2 + 1)), (1, .int (x1 ||| 0)), (0, .ref (sgA P 0))]) hx hb dX12_bridges_62 hl (k := 2) rfl rfl (by decide) rfl (fun ls hl => ?_)
        refine lv_goto (tgt := 4) hx hb dX12_bridges_65 (by decide) ?_
        obtain rfl := Option.some.inj h
        exact sg_go hk I (lv_sub hl [2, 1, 0] rfl)
      · have h := sg_ift h z
        refine lv_iconst (v := 1) hx hb dX12_bridges_53 (by decide) ?_
        refine lv_iload_n hx hb dX12_bridges_54 rfl (lv_at hl 2 rfl) ?_
        refine lv_ishl hx hb dX12_bridges_55 ?_
        refine lv_goto (tgt := 60) hx hb dX12_bridges_56 (by decide) ?_
        refine lv_ior hx hb dX12_bridges_60 ?_
        refine lv_istore_n (lv' := [(1, .int (x1 ||| (1 <<< (x2 &&& 31)))), (0, .ref (sgA P 0)), (2, .int x2)]) hx hb dX12_bridges_61 rfl hl (by decide) rfl (fun ls hl => ?_)
        refine lv_iinc (v := x2 + 1) (lv' := [(2, .int (x2 + 1)), (1, .int (x1 ||| (1 <<< (x2 &&& 31)))), (0, .ref (sgA P 0))]) hx hb dX12_bridges_62 hl (k := 2) rfl rfl (by decide) rfl (fun ls hl => ?_)
        refine lv_goto (tgt := 4) hx hb dX12_bridges_65 (by decide) ?_
        obtain rfl := Option.some.inj h
        exact sg_go hk I (lv_sub hl [2, 1, 0] rfl)
def f_X12_bridges (N : Nat) (σ : sgS) : Option (Int32) :=
  sg_lb (sg_lp (fun x => f_X12_bridges_L4 N x.1 x.2 σ) N ((0, 0))) (fun r => some r) fun y7 =>
some y7
set_option maxHeartbeats 4000000 in
set_option maxRecDepth 100000 in
theorem b_X12_bridges {p : Program} {l : Launch} {e : Env} {R : Room} {s : State} {m : MethodId} {args : Array Value} {below : List Frame} {meth : Method} {c : Code} {Q : State → Prop} {P : sgP} {A : Nat → Prop} {N : Nat} {σ : sgS} (X : sg_C P A 3 p R s m args c cX12_bridges 3 RX12) {H : Heap} {locs : List Loc} (I : sg_I P shM 35 A s.heap σ H locs) {ls : Array Slot} (hl : lv_has ls 3 [(0, .ref (sgA P 0))]) {st : Int32} (h : f_X12_bridges N σ = some st) (hk : sg_Ri p l e R s m args below meth c Q P shM 35 A cX12_bridges (some .int) (st, σ)) : W p l e R s m args below meth c H locs 0 0 Q (F0 m 0 ls []) := by
  unfold f_X12_bridges at h
  have hx := X.1.1
  have hb := X.1.2.1
  have hown := X.1.2.2.2.1
  have hts := X.1.2.2.2.2
  refine lv_iconst (v := 0) hx hb dX12_bridges_0 (by decide) ?_
  refine lv_istore_n (lv' := [(1, .int 0), (0, .ref (sgA P 0))]) hx hb dX12_bridges_1 rfl hl (by decide) rfl (fun ls hl => ?_)
  refine lv_iconst (v := 0) hx hb dX12_bridges_2 (by decide) ?_
  refine lv_istore_n (lv' := [(2, .int 0), (1, .int 0), (0, .ref (sgA P 0))]) hx hb dX12_bridges_3 rfl hl (by decide) rfl (fun ls hl => ?_)
  obtain ⟨res, e9, k9⟩ := sg_lb_some h
  refine sg_go (sg_lp_W (a := (fun r => sg_Ri p l e R s m args below meth c Q P shM 35 A cX12_bridges (some .int) (r, σ))) (w := (fun x => sg_Wt p l e R s m args below meth c Q P shM 35 A 3 4 σ [(0, .ref (sgA P 0)), (1, .int x.1), (2, .int x.2)])) (c := (fun y => sg_Wt p l e R s m args below meth c Q P shM 35 A 3 68 σ [(1, .int y)])) (fun x st hb9 hk9 => ?_) N ((0, 0)) res e9 (sg_k2_mono k9 (fun r h => ?_) (fun y7 h => ?_))) I (lv_sub hl [2, 1, 0] rfl)
  · intro H locs ls I hl
    exact b_X12_bridges_L4 X I hl hb9 hk9
  · obtain rfl := Option.some.inj h
    exact hk
  · intro H locs ls I hl
    refine lv_iload_n hx hb dX12_bridges_68 rfl (lv_at hl 0 rfl) ?_
    obtain rfl := Option.some.inj h
    exact hk _ _ _ _ _ I ⟨_, rfl, rfl⟩ dX12_bridges_69
set_option maxHeartbeats 4000000 in
set_option maxRecDepth 100000 in
theorem c_X12_bridges {l : Launch} {P : sgP} {N : Nat} {σ : sgS} {q : Int32} (h : f_X12_bridges N σ = some q) : sg_Mi P shM 35 l yX12_bridges cX12_bridges 3 (some .int) 3 [.ref (sgA P 0)] σ (q, σ) := by
  refine sg_mki (plainFor_of_name (by decide +kernel)) (Nat.le_of_ble_eq_true rfl) ?_
  intro p e R s m args below meth c Q A ls H locs X I hl hk
  exact b_X12_bridges X I hl h hk
