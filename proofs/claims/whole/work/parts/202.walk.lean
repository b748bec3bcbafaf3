def f_X1_passOf_L34_B160 (N : Nat) (p1 : Int32) (p2 : Nat) (w3 : Int32) (u4 : Int32) (u5 : Int32) (u6 : Int32) (u7 : Int32) (σ : sgS) : Option ((Int32 × sgS) ⊕ ((sgS × Int32 × Int32 × Int32) ⊕ (sgS × Int32))) :=
  sg_cl (f_X1_callAt N u7 p2 σ) fun v7 s8 =>
sg_st s8 (p2 + 3) 4 p1 (u6 + 1) fun s9 =>
some (.inr (.inl (s9, u4 + 1, u5, u6 + 1)))
set_option maxHeartbeats 4000000 in
set_option maxRecDepth 100000 in
theorem b_X1_passOf_L34_B160 {p : Program} {l : Launch} {e : Env} {R : Room} {s : State} {m : MethodId} {args : Array Value} {below : List Frame} {meth : Method} {c : Code} {Q : State → Prop} {P : sgP} {A : Nat → Prop} {N : Nat} {p1 : Int32} {p2 : Nat} {w3 : Int32} {u4 : Int32} {u5 : Int32} {u6 : Int32} {u7 : Int32} {σ : sgS} (X : sg_C P A 3 p R s m args c cX1_passOf 9 RX1) (hp2 : isSt p2) {H : Heap} {locs : List Loc} (I : sg_I P shC 332 A s.heap σ H locs) {ls : Array Slot} (hl : lv_has ls 9 [(0, .ref (sgA P 49)), (1, .int p1), (2, .ref (sgA P p2)), (3, .int w3), (4, .int u4), (5, .int u5), (6, .int u6), (7, .int u7)]) {st : (Int32 × sgS) ⊕ ((sgS × Int32 × Int32 × Int32) ⊕ (sgS × Int32))} (h : f_X1_passOf_L34_B160 N p1 p2 w3 u4 u5 u6 u7 σ = some st) (hk : sg_k3 (sg_Ri p l e R s m args below meth c Q P shC 332 A cX1_passOf (some .int)) (fun x => sg_Wt p l e R s m args below meth c Q P shC 332 A 9 34 x.1 [(0, .ref (sgA P 49)), (1, .int p1), (2, .ref (sgA P p2)), (3, .int w3), (4, .int x.2.1), (5, .int x.2.2.1), (6, .int x.2.2.2)]) (fun y => sg_Wt p l e R s m args below meth c Q P shC 332 A 9 186 y.1 [(1, .int p1), (2, .ref (sgA P p2)), (4, .int y.2)]) st) : W p l e R s m args below meth c H locs 0 0 Q (F0 m 160 ls []) := by
  unfold f_X1_passOf_L34_B160 at h
  have hx := X.1.1
  have hb := X.1.2.1
  have hown := X.1.2.2.2.1
  have hts := X.1.2.2.2.2
  refine lv_aload_n hx hb dX1_passOf_160 rfl (lv_at hl 0 rfl) ?_
  refine lv_iload hx hb dX1_passOf_161 (lv_at hl 7 rfl) ?_
  refine lv_aload_n hx hb dX1_passOf_163 rfl (lv_at hl 2 rfl) ?_
  refine sg_callVv (As := [.int u7, .ref (sgA P p2)]) X I mk_X1_137 (by decide) (by decide) shC_49 rfl (fun q9 e9 => c_X1_callAt hp2 e9) h hl.1 rfl rfl (Nat.le_of_ble_eq_true rfl) dX1_passOf_164 (fun v7 s8 H locs h I => ?_)
  refine lv_iinc (v := u4 + 1) (lv' := [(4, .int (u4 + 1)), (0, .ref (sgA P 49)), (1, .int p1), (2, .ref (sgA P p2)), (3, .int w3), (5, .int u5), (6, .int u6), (7, .int u7)]) hx hb dX1_passOf_167 hl (k := 4) rfl rfl (by decide) rfl (fun ls hl => ?_)
  refine lv_aload_n hx hb dX1_passOf_170 rfl (lv_at hl 3 rfl) ?_
  refine sg_getrN X I fn_X1_118 (j := p2 + 3) (isSt_i0 hp2) (isSt_s0 hp2) rfl dX1_passOf_171 ?_
  refine lv_iload_n hx hb dX1_passOf_174 rfl (lv_at hl 2 rfl) ?_
  refine lv_iload hx hb dX1_passOf_175 (lv_at hl 6 rfl) ?_
  refine lv_iconst (v := 1) hx hb dX1_passOf_177 (by decide) ?_
  refine lv_iadd hx hb dX1_passOf_178 ?_
  refine sg_iast X I (isSt_i3 hp2) (isSt_s3 hp2) h dX1_passOf_179 (fun s9 H locs h I => ?_)
  refine lv_iinc (v := u6 + 1) (lv' := [(6, .int (u6 + 1)), (4, .int (u4 + 1)), (0, .ref (sgA P 49)), (1, .int p1), (2, .ref (sgA P p2)), (3, .int w3), (5, .int u5), (7, .int u7)]) hx hb dX1_passOf_180 hl (k := 6) rfl rfl (by decide) rfl (fun ls hl => ?_)
  refine lv_goto (tgt := 34) hx hb dX1_passOf_183 (by decide) ?_
  obtain rfl := Option.some.inj h
  exact sg_go hk I (lv_sub hl [2, 3, 4, 5, 1, 6, 0] rfl)
def f_X1_passOf_L34 (N : Nat) (p1 : Int32) (p2 : Nat) (w3 : Int32) (x4 : Int32) (x5 : Int32) (x6 : Int32) (σ : sgS) : Option ((Int32 × sgS) ⊕ ((sgS × Int32 × Int32 × Int32) ⊕ (sgS × Int32))) :=
  sg_ld σ 35 4 w3 fun v4 =>
if v4 ≤ x6 then
  (some (.inr (.inr (σ, x4))))
else
  (sg_cr (f_X10_placeAt N w3 x6 σ) fun v5 =>
  sg_ld σ (p2 + 1) 4 p1 fun v6 =>
  if v5 = v6 then
    (f_X1_passOf_L34_B160 N p1 p2 w3 x4 x5 x6 v5 σ)
  else
    (sg_ld σ (p2 + 1) 4 p1 fun v10 =>
    sg_cr (f_X1_shortestBetween N v10 v5 (σ.1 p2 5) σ) fun v11 =>
    if v11 = ((-1)) then
      (some (.inl (x4, σ)))
    else
      (sg_ld σ 51 12 v11 fun v12 =>
      if (x5 + v12) ≤ (σ.1 3 1) then
        (sg_ld σ 51 12 v11 fun v13 =>
        sg_ld σ (p2 + 4) 12 v11 fun v14 =>
        sg_st σ (p2 + 4) 12 v11 ((if (v14 + 1) < 999 then (v14 + 1) else 999)) fun s15 =>
        sg_st s15 (p2 + 1) 4 p1 v5 fun s16 =>
        f_X1_passOf_L34_B160 N p1 p2 w3 x4 (x5 + v13) x6 v5 s16)
      else
        (some (.inl (x4, σ))))))
set_option maxHeartbeats 4000000 in
set_option maxRecDepth 100000 in
theorem b_X1_passOf_L34 {p : Program} {l : Launch} {e : Env} {R : Room} {s : State} {m : MethodId} {args : Array Value} {below : List Frame} {meth : Method} {c : Code} {Q : State → Prop} {P : sgP} {A : Nat → Prop} {N : Nat} {p1 : Int32} {p2 : Nat} {w3 : Int32} {x4 : Int32} {x5 : Int32} {x6 : Int32} {σ : sgS} (X : sg_C P A 3 p R s m args c cX1_passOf 9 RX1) (hp2 : isSt p2) {H : Heap} {locs : List Loc} (I : sg_I P shC 332 A s.heap σ H locs) {ls : Array Slot} (hl : lv_has ls 9 [(0, .ref (sgA P 49)), (1, .int p1), (2, .ref (sgA P p2)), (3, .int w3), (4, .int x4), (5, .int x5), (6, .int x6)]) {st : (Int32 × sgS) ⊕ ((sgS × Int32 × Int32 × Int32) ⊕ (sgS × Int32))} (h : f_X1_passOf_L34 N p1 p2 w3 x4 x5 x6 σ = some st) (hk : sg_k3 (sg_Ri p l e R s m args below meth c Q P shC 332 A cX1_passOf (some .int)) (fun x => sg_Wt p l e R s m args below meth c Q P shC 332 A 9 34 x.1 [(0, .ref (sgA P 49)), (1, .int p1), (2, .ref (sgA P p2)), (3, .int w3), (4, .int x.2.1), (5, .int x.2.2.1), (6, .int x.2.2.2)]) (fun y => sg_Wt p l e R s m args below meth c Q P shC 332 A 9 186 y.1 [(1, .int p1), (2, .ref (sgA P p2)), (4, .int y.2)]) st) : W p l e R s m args below meth c H locs 0 0 Q (F0 m 34 ls []) := by
  unfold f_X1_passOf_L34 at h
  have hx := X.1.1
  have hb := X.1.2.1
  have hown := X.1.2.2.2.1
  have hts := X.1.2.2.2.2
  refine lv_iload hx hb dX1_passOf_34 (lv_at hl 6 rfl) ?_
  refine lv_aload_n hx hb dX1_passOf_36 rfl (lv_at hl 0 rfl) ?_
  refine sg_getr X I fk_X1_36 (j := 29) (by decide) shC_49 rfl dX1_passOf_37 ?_
  refine sg_getrN X I fn_X1_121 (j := 35) (by decide) shC_29 rfl dX1_passOf_40 ?_
  refine lv_iload_n hx hb dX1_passOf_43 rfl (lv_at hl 3 rfl) ?_
  refine sg_iald X I (by decide) shC_35 h dX1_passOf_44 (fun v4 h => ?_)
  refine lv_icmp_ge (tgt := 186) hx hb dX1_passOf_45 (by decide) (fun z => ?_) (fun z => ?_)
  · have h := sg_ift h z
    obtain rfl := Option.some.inj h
    exact sg_go hk I (lv_sub hl [1, 2, 4] rfl)
  · have h := sg_iff h z
    refine lv_aload_n hx hb dX1_passOf_48 rfl (lv_at hl 0 rfl) ?_
    refine sg_getr X I fk_X1_36 (j := 29) (by decide) shC_49 rfl dX1_passOf_49 ?_
    refine lv_iload_n hx hb dX1_passOf_52 rfl (lv_at hl 3 rfl) ?_
    refine lv_iload hx hb dX1_passOf_53 (lv_at hl 6 rfl) ?_
    refine sg_callVr (As := [.int w3, .int x6]) X I mk_X1_124 (by decide) (by decide) shC_29 rfl (fun q9 e9 => c_X10_placeAt e9) h hl.1 rfl rfl (Nat.le_of_ble_eq_true rfl) dX1_passOf_55 (fun v5 H locs h I => ?_)
    refine lv_istore (lv' := [(7, .int v5), (0, .ref (sgA P 49)), (1, .int p1), (2, .ref (sgA P p2)), (3, .int w3), (4, .int x4), (5, .int x5), (6, .int x6)]) hx hb dX1_passOf_58 hl (by decide) rfl (fun ls hl => ?_)
    refine lv_iload hx hb dX1_passOf_60 (lv_at hl 0 rfl) ?_
    refine lv_aload_n hx hb dX1_passOf_62 rfl (lv_at hl 3 rfl) ?_
    refine sg_getrN X I fn_X1_127 (j := p2 + 1) (isSt_i0 hp2) (isSt_s0 hp2) rfl dX1_passOf_63 ?_
    refine lv_iload_n hx hb dX1_passOf_66 rfl (lv_at hl 2 rfl) ?_
    refine sg_iald X I (isSt_i1 hp2) (isSt_s1 hp2) h dX1_passOf_67 (fun v6 h => ?_)
    refine lv_icmp_eq (tgt := 160) hx hb dX1_passOf_68 (by decide) (fun z => ?_) (fun z => ?_)
    · have h := sg_ift h z
      exact b_X1_passOf_L34_B160 X hp2 I (lv_sub hl [1, 2, 3, 4, 5, 6, 7, 0] rfl) h hk
    · have h := sg_iff h z
      refine lv_aload_n hx hb dX1_passOf_71 rfl (lv_at hl 1 rfl) ?_
      refine lv_aload_n hx hb dX1_passOf_72 rfl (lv_at hl 3 rfl) ?_
      refine sg_getrN X I fn_X1_127 (j := p2 + 1) (isSt_i0 hp2) (isSt_s0 hp2) rfl dX1_passOf_73 ?_
      refine lv_iload_n hx hb dX1_passOf_76 rfl (lv_at hl 2 rfl) ?_
      refine sg_iald X I (isSt_i1 hp2) (isSt_s1 hp2) h dX1_passOf_77 (fun v10 h => ?_)
      refine lv_iload hx hb dX1_passOf_78 (lv_at hl 0 rfl) ?_
      refine lv_aload_n hx hb dX1_passOf_80 rfl (lv_at hl 3 rfl) ?_
      refine sg_getiN X I fn_X1_44 (isSt_i0 hp2) (isSt_s0 hp2) rfl dX1_passOf_81 ?_
      refine sg_callVr (As := [.int v10, .int v5, .int (σ.1 p2 5)]) X I mk_X1_130 (by decide) (by decide) shC_49 rfl (fun q9 e9 => c_X1_shortestBetween e9) h hl.1 rfl rfl (Nat.le_of_ble_eq_true rfl) dX1_passOf_84 (fun v11 H locs h I => ?_)
      refine lv_istore (lv' := [(8, .int v11), (7, .int v5), (0, .ref (sgA P 49)), (1, .int p1), (2, .ref (sgA P p2)), (3, .int w3), (4, .int x4), (5, .int x5), (6, .int x6)]) hx hb dX1_passOf_87 hl (by decide) rfl (fun ls hl => ?_)
      refine lv_iload hx hb dX1_passOf_89 (lv_at hl 0 rfl) ?_
      refine lv_iconst (v := -1) hx hb dX1_passOf_91 (by decide) ?_
      refine lv_icmp_eq (tgt := 115) hx hb dX1_passOf_92 (by decide) (fun z => ?_) (fun z => ?_)
      · have h := sg_ift h z
        refine lv_iload hx hb dX1_passOf_115 (lv_at hl 6 rfl) ?_
        obtain rfl := Option.some.inj h
        exact hk _ _ _ _ _ I ⟨_, rfl, rfl⟩ dX1_passOf_117
      · have h := sg_iff h z
        refine lv_iload hx hb dX1_passOf_95 (lv_at hl 7 rfl) ?_
        refine lv_aload_n hx hb dX1_passOf_97 rfl (lv_at hl 2 rfl) ?_
        refine sg_getr X I fk_X1_25 (j := 51) (by decide) shC_49 rfl dX1_passOf_98 ?_
        refine lv_iload hx hb dX1_passOf_101 (lv_at hl 0 rfl) ?_
        refine sg_iald X I (by decide) shC_51 h dX1_passOf_103 (fun v12 h => ?_)
        refine lv_iadd hx hb dX1_passOf_104 ?_
        refine lv_aload_n hx hb dX1_passOf_105 rfl (lv_at hl 2 rfl) ?_
        refine sg_getr X I fk_X1_28 (j := 3) (by decide) shC_49 rfl dX1_passOf_106 ?_
        refine sg_getiN X I fn_X1_134 (by decide) shC_3 rfl dX1_passOf_109 ?_
        refine lv_icmp_le (tgt := 118) hx hb dX1_passOf_112 (by decide) (fun z => ?_) (fun z => ?_)
        · have h := sg_ift h z
          refine lv_iload hx hb dX1_passOf_118 (lv_at hl 7 rfl) ?_
          refine lv_aload_n hx hb dX1_passOf_120 rfl (lv_at hl 2 rfl) ?_
          refine sg_getr X I fk_X1_25 (j := 51) (by decide) shC_49 rfl dX1_passOf_121 ?_
          refine lv_iload hx hb dX1_passOf_124 (lv_at hl 0 rfl) ?_
          refine sg_iald X I (by decide) shC_51 h dX1_passOf_126 (fun v13 h => ?_)
          refine lv_iadd hx hb dX1_passOf_127 ?_
          refine lv_istore (lv' := [(5, .int (x5 + v13)), (8, .int v11), (7, .int v5), (0, .ref (sgA P 49)), (1, .int p1), (2, .ref (sgA P p2)), (3, .int w3), (4, .int x4), (6, .int x6)]) hx hb dX1_passOf_128 hl (by decide) rfl (fun ls hl => ?_)
          refine lv_aload_n hx hb dX1_passOf_130 rfl (lv_at hl 5 rfl) ?_
          refine sg_getrN X I fn_X1_86 (j := p2 + 4) (isSt_i0 hp2) (isSt_s0 hp2) rfl dX1_passOf_131 ?_
          refine lv_iload hx hb dX1_passOf_134 (lv_at hl 1 rfl) ?_
          refine lv_sipush (v := 999) hx hb dX1_passOf_136 (by decide) ?_
          refine lv_aload_n hx hb dX1_passOf_139 rfl (lv_at hl 5 rfl) ?_
          refine sg_getrN X I fn_X1_86 (j := p2 + 4) (isSt_i0 hp2) (isSt_s0 hp2) rfl dX1_passOf_140 ?_
          refine lv_iload hx hb dX1_passOf_143 (lv_at hl 1 rfl) ?_
          refine sg_iald X I (isSt_i4 hp2) (isSt_s4 hp2) h dX1_passOf_145 (fun v14 h => ?_)
          refine lv_iconst (v := 1) hx hb dX1_passOf_146 (by decide) ?_
          refine lv_iadd hx hb dX1_passOf_147 ?_
          refine sg_mmin X hl.1 (by first | decide | omega) qw_701 qw_289 qw_286 qw_290 (Nat.le_of_ble_eq_true rfl) dX1_passOf_148 ?_
          refine sg_iast X I (isSt_i4 hp2) (isSt_s4 hp2) h dX1_passOf_151 (fun s15 H locs h I => ?_)
          refine lv_aload_n hx hb dX1_passOf_152 rfl (lv_at hl 5 rfl) ?_
          refine sg_getrN X I fn_X1_127 (j := p2 + 1) (isSt_i0 hp2) (isSt_s0 hp2) rfl dX1_passOf_153 ?_
          refine lv_iload_n hx hb dX1_passOf_156 rfl (lv_at hl 4 rfl) ?_
          refine lv_iload hx hb dX1_passOf_157 (lv_at hl 2 rfl) ?_
          refine sg_iast X I (isSt_i1 hp2) (isSt_s1 hp2) h dX1_passOf_159 (fun s16 H locs h I => ?_)
          exact b_X1_passOf_L34_B160 X hp2 I (lv_sub hl [3, 4, 5, 6, 7, 0, 8, 2] rfl) h hk
        · have h := sg_iff h z
          refine lv_iload hx hb dX1_passOf_115 (lv_at hl 6 rfl) ?_
          obtain rfl := Option.some.inj h
          exact hk _ _ _ _ _ I ⟨_, rfl, rfl⟩ dX1_passOf_117
def f_X1_passOf (N : Nat) (p1 : Int32) (p2 : Nat) (σ : sgS) : Option (Int32 × sgS) :=
  sg_ld σ (p2 + 2) 4 p1 fun v1 =>
sg_cr (f_X10_has N v1 σ) fun v2 =>
if v2 = 0 then
  (some (0, σ))
else
  (sg_ld σ (p2 + 3) 4 p1 fun v3 =>
  sg_lb (sg_lp (fun x => f_X1_passOf_L34 N p1 p2 v1 x.2.1 x.2.2.1 x.2.2.2 x.1) N ((σ, 0, 0, v3))) (fun r => some r) fun y17 =>
  sg_cl (f_X8_takeWay N p2 p1 y17.1) fun v18 s19 =>
  some (y17.2, s19))
set_option maxHeartbeats 4000000 in
set_option maxRecDepth 100000 in
theorem b_X1_passOf {p : Program} {l : Launch} {e : Env} {R : Room} {s : State} {m : MethodId} {args : Array Value} {below : List Frame} {meth : Method} {c : Code} {Q : State → Prop} {P : sgP} {A : Nat → Prop} {N : Nat} {p1 : Int32} {p2 : Nat} {σ : sgS} (X : sg_C P A 3 p R s m args c cX1_passOf 9 RX1) (hp2 : isSt p2) {H : Heap} {locs : List Loc} (I : sg_I P shC 332 A s.heap σ H locs) {ls : Array Slot} (hl : lv_has ls 9 [(0, .ref (sgA P 49)), (1, .int p1), (2, .ref (sgA P p2))]) {st : Int32 × sgS} (h : f_X1_passOf N p1 p2 σ = some st) (hk : sg_Ri p l e R s m args below meth c Q P shC 332 A cX1_passOf (some .int) st) : W p l e R s m args below meth c H locs 0 0 Q (F0 m 0 ls []) := by
  unfold f_X1_passOf at h
  have hx := X.1.1
  have hb := X.1.2.1
  have hown := X.1.2.2.2.1
  have hts := X.1.2.2.2.2
  refine lv_aload_n hx hb dX1_passOf_0 rfl (lv_at hl 2 rfl) ?_
  refine sg_getrN X I fn_X1_109 (j := p2 + 2) (isSt_i0 hp2) (isSt_s0 hp2) rfl dX1_passOf_1 ?_
  refine lv_iload_n hx hb dX1_passOf_4 rfl (lv_at hl 1 rfl) ?_
  refine sg_iald X I (isSt_i2 hp2) (isSt_s2 hp2) h dX1_passOf_5 (fun v1 h => ?_)
  refine lv_istore_n (lv' := [(3, .int v1), (0, .ref (sgA P 49)), (1, .int p1), (2, .ref (sgA P p2))]) hx hb dX1_passOf_6 rfl hl (by decide) rfl (fun ls hl => ?_)
  refine lv_aload_n hx hb dX1_passOf_7 rfl (lv_at hl 1 rfl) ?_
  refine sg_getr X I fk_X1_36 (j := 29) (by decide) shC_49 rfl dX1_passOf_8 ?_
  refine lv_iload_n hx hb dX1_passOf_11 rfl (lv_at hl 0 rfl) ?_
  refine sg_callVr (As := [.int v1]) X I mk_X1_112 (by decide) (by decide) shC_29 rfl (fun q9 e9 => c_X10_has e9) h hl.1 rfl rfl (Nat.le_of_ble_eq_true rfl) dX1_passOf_12 (fun v2 H locs h I => ?_)
  refine lv_if_ne (tgt := 20) hx hb dX1_passOf_15 (by decide) (fun z => ?_) (fun z => ?_)
  · have h := sg_iff h z
    refine lv_iconst (v := 0) hx hb dX1_passOf_20 (by decide) ?_
    refine lv_istore (lv' := [(4, .int 0), (3, .int v1), (0, .ref (sgA P 49)), (1, .int p1), (2, .ref (sgA P p2))]) hx hb dX1_passOf_21 hl (by decide) rfl (fun ls hl => ?_)
    refine lv_iconst (v := 0) hx hb dX1_passOf_23 (by decide) ?_
    refine lv_istore (lv' := [(5, .int 0), (4, .int 0), (3, .int v1), (0, .ref (sgA P 49)), (1, .int p1), (2, .ref (sgA P p2))]) hx hb dX1_passOf_24 hl (by decide) rfl (fun ls hl => ?_)
    refine lv_aload_n hx hb dX1_passOf_26 rfl (lv_at hl 5 rfl) ?_
    refine sg_getrN X I fn_X1_118 (j := p2 + 3) (isSt_i0 hp2) (isSt_s0 hp2) rfl dX1_passOf_27 ?_
    refine lv_iload_n hx hb dX1_passOf_30 rfl (lv_at hl 4 rfl) ?_
    refine sg_iald X I (isSt_i3 hp2) (isSt_s3 hp2) h dX1_passOf_31 (fun v3 h => ?_)
    refine lv_istore (lv' := [(6, .int v3), (5, .int 0), (4, .int 0), (3, .int v1), (0, .ref (sgA P 49)), (1, .int p1), (2, .ref (sgA P p2))]) hx hb dX1_passOf_32 hl (by decide) rfl (fun ls hl => ?_)
    obtain ⟨res, e9, k9⟩ := sg_lb_some h
    refine sg_go (sg_lp_W (a := (sg_Ri p l e R s m args below meth c Q P shC 332 A cX1_passOf (some .int))) (w := (fun x => sg_Wt p l e R s m args below meth c Q P shC 332 A 9 34 x.1 [(0, .ref (sgA P 49)), (1, .int p1), (2, .ref (sgA P p2)), (3, .int v1), (4, .int x.2.1), (5, .int x.2.2.1), (6, .int x.2.2.2)])) (c := (fun y => sg_Wt p l e R s m args below meth c Q P shC 332 A 9 186 y.1 [(1, .int p1), (2, .ref (sgA P p2)), (4, .int y.2)])) (fun x st hb9 hk9 => ?_) N ((σ, 0, 0, v3)) res e9 (sg_k2_mono k9 (fun r h => ?_) (fun y17 h => ?_))) I (lv_sub hl [4, 5, 6, 3, 2, 1, 0] rfl)
    · intro H locs ls I hl
      exact b_X1_passOf_L34 X hp2 I hl hb9 hk9
    · obtain rfl := Option.some.inj h
      exact hk
    · intro H locs ls I hl
      refine lv_aload_n hx hb dX1_passOf_186 rfl (lv_at hl 1 rfl) ?_
      refine lv_iload_n hx hb dX1_passOf_187 rfl (lv_at hl 0 rfl) ?_
      refine sg_callVv (As := [.int p1]) X I mk_X1_140 (by decide) (isSt_i0 hp2) (isSt_s0 hp2) rfl (fun q9 e9 => c_X8_takeWay hp2 e9) h hl.1 rfl rfl (Nat.le_of_ble_eq_true rfl) dX1_passOf_188 (fun v18 s19 H locs h I => ?_)
      refine lv_iload hx hb dX1_passOf_191 (lv_at hl 2 rfl) ?_
      obtain rfl := Option.some.inj h
      exact hk _ _ _ _ _ I ⟨_, rfl, rfl⟩ dX1_passOf_193
  · have h := sg_ift h z
    refine lv_iconst (v := 0) hx hb dX1_passOf_18 (by decide) ?_
    obtain rfl := Option.some.inj h
    exact hk _ _ _ _ _ I ⟨_, rfl, rfl⟩ dX1_passOf_19
set_option maxHeartbeats 4000000 in
set_option maxRecDepth 100000 in
theorem c_X1_passOf {l : Launch} {P : sgP} {N : Nat} {p1 : Int32} {p2 : Nat} {σ : sgS} (hp2 : isSt p2) {q : Int32 × sgS} (h : f_X1_passOf N p1 p2 σ = some q) : sg_Mi P shC 332 l yX1_passOf cX1_passOf 9 (some .int) 3 [.ref (sgA P 49), .int p1, .ref (sgA P p2)] σ q := by
  refine sg_mki (plainFor_of_name (by decide +kernel)) (Nat.le_of_ble_eq_true rfl) ?_
  intro p e R s m args below meth c Q A ls H locs X I hl hk
  exact b_X1_passOf X hp2 I hl h hk
def f_X1_pass_L9 (N : Nat) (p1 : Nat) (x2 : Int32) (x3 : Int32) (σ : sgS) : Option ((Int32 × sgS) ⊕ ((sgS × Int32 × Int32) ⊕ (sgS × Int32))) :=
  if (σ.1 3 5) ≤ x3 then
  (some (.inr (.inr (σ, x2))))
else
  (sg_cl (f_X1_passOf N x3 p1 σ) fun v3 s4 =>
  some (.inr (.inl (s4, x2 + v3, x3 + 1))))
set_option maxHeartbeats 4000000 in
set_option maxRecDepth 100000 in
theorem b_X1_pass_L9 {p : Program} {l : Launch} {e : Env} {R : Room} {s : State} {m : MethodId} {args : Array Value} {below : List Frame} {meth : Method} {c : Code} {Q : State → Prop} {P : sgP} {A : Nat → Prop} {N : Nat} {p1 : Nat} {x2 : Int32} {x3 : Int32} {σ : sgS} (X : sg_C P A 5 p R s m args c cX1_pass 4 RX1) (hp1 : isSt p1) {H : Heap} {locs : List Loc} (I : sg_I P shC 332 A s.heap σ H locs) {ls : Array Slot} (hl : lv_has ls 4 [(0, .ref (sgA P 49)), (1, .ref (sgA P p1)), (2, .int x2), (3, .int x3)]) {st : (Int32 × sgS) ⊕ ((sgS × Int32 × Int32) ⊕ (sgS × Int32))} (h : f_X1_pass_L9 N p1 x2 x3 σ = some st) (hk : sg_k3 (sg_Ri p l e R s m args below meth c Q P shC 332 A cX1_pass (some .int)) (fun x => sg_Wt p l e R s m args below meth c Q P shC 332 A 4 9 x.1 [(0, .ref (sgA P 49)), (1, .ref (sgA P p1)), (2, .int x.2.1), (3, .int x.2.2)]) (fun y => sg_Wt p l e R s m args below meth c Q P shC 332 A 4 35 y.1 [(1, .ref (sgA P p1)), (2, .int y.2)]) st) : W p l e R s m args below meth c H locs 0 0 Q (F0 m 9 ls []) := by
  unfold f_X1_pass_L9 at h
  have hx := X.1.1
  have hb := X.1.2.1
  have hown := X.1.2.2.2.1
  have hts := X.1.2.2.2.2
  refine lv_iload_n hx hb dX1_pass_9 rfl (lv_at hl 3 rfl) ?_
  refine lv_aload_n hx hb dX1_pass_10 rfl (lv_at hl 0 rfl) ?_
  refine sg_getr X I fk_X1_28 (j := 3) (by decide) shC_49 rfl dX1_pass_11 ?_
  refine sg_getiN X I fn_X1_102 (by decide) shC_3 rfl dX1_pass_14 ?_
  refine lv_icmp_ge (tgt := 35) hx hb dX1_pass_17 (by decide) (fun z => ?_) (fun z => ?_)
  · have h := sg_ift h z
    obtain rfl := Option.some.inj h
    exact sg_go hk I (lv_sub hl [1, 2] rfl)
  · have h := sg_iff h z
    refine lv_iload_n hx hb dX1_pass_20 rfl (lv_at hl 2 rfl) ?_
    refine lv_aload_n hx hb dX1_pass_21 rfl (lv_at hl 0 rfl) ?_
    refine lv_iload_n hx hb dX1_pass_22 rfl (lv_at hl 3 rfl) ?_
    refine lv_aload_n hx hb dX1_pass_23 rfl (lv_at hl 1 rfl) ?_
    refine sg_callV (As := [.int x3, .ref (sgA P p1)]) X I mk_X1_105 (by decide) (by decide) shC_49 rfl (fun q9 e9 => c_X1_passOf hp1 e9) h hl.1 rfl rfl (Nat.le_of_ble_eq_true rfl) dX1_pass_24 (fun v3 s4 H locs h I => ?_)
    refine lv_iadd hx hb dX1_pass_27 ?_
    refine lv_istore_n (lv' := [(2, .int (x2 + v3)), (0, .ref (sgA P 49)), (1, .ref (sgA P p1)), (3, .int x3)]) hx hb dX1_pass_28 rfl hl (by decide) rfl (fun ls hl => ?_)
    refine lv_iinc (v := x3 + 1) (lv' := [(3, .int (x3 + 1)), (2, .int (x2 + v3)), (0, .ref (sgA P 49)), (1, .ref (sgA P p1))]) hx hb dX1_pass_29 hl (k := 3) rfl rfl (by decide) rfl (fun ls hl => ?_)
    refine lv_goto (tgt := 9) hx hb dX1_pass_32 (by decide) ?_
    obtain rfl := Option.some.inj h
    exact sg_go hk I (lv_sub hl [2, 3, 1, 0] rfl)
def f_X1_pass (N : Nat) (p1 : Nat) (σ : sgS) : Option (Int32 × sgS) :=
  sg_cl (f_X1_measure N p1 σ) fun v1 s2 =>
sg_lb (sg_lp (fun x => f_X1_pass_L9 N p1 x.2.1 x.2.2 x.1) N ((s2, 0, 0))) (fun r => some r) fun y5 =>
sg_pf y5.1 p1 7 ((y5.1.1 p1 7) + 1) fun s6 =>
some (y5.2, s6)
set_option maxHeartbeats 4000000 in
set_option maxRecDepth 100000 in
theorem b_X1_pass {p : Program} {l : Launch} {e : Env} {R : Room} {s : State} {m : MethodId} {args : Array Value} {below : List Frame} {meth : Method} {c : Code} {Q : State → Prop} {P : sgP} {A : Nat → Prop} {N : Nat} {p1 : Nat} {σ : sgS} (X : sg_C P A 5 p R s m args c cX1_pass 4 RX1) (hp1 : isSt p1) {H : Heap} {locs : List Loc} (I : sg_I P shC 332 A s.heap σ H locs) {ls : Array Slot} (hl : lv_has ls 4 [(0, .ref (sgA P 49)), (1, .ref (sgA P p1))]) {st : Int32 × sgS} (h : f_X1_pass N p1 σ = some st) (hk : sg_Ri p l e R s m args below meth c Q P shC 332 A cX1_pass (some .int) st) : W p l e R s m args below meth c H locs 0 0 Q (F0 m 0 ls []) := by
  unfold f_X1_pass at h
  have hx := X.1.1
  have hb := X.1.2.1
  have hown := X.1.2.2.2.1
  have hts := X.1.2.2.2.2
  refine lv_aload_n hx hb dX1_pass_0 rfl (lv_at hl 0 rfl) ?_
  refine lv_aload_n hx hb dX1_pass_1 rfl (lv_at hl 1 rfl) ?_
  refine sg_callVv (As := [.ref (sgA P p1)]) X I mk_X1_98 (by decide) (by decide) shC_49 rfl (fun q9 e9 => c_X1_measure hp1 e9) h hl.1 rfl rfl (Nat.le_of_ble_eq_true rfl) dX1_pass_2 (fun v1 s2 H locs h I => ?_)
  refine lv_iconst (v := 0) hx hb dX1_pass_5 (by decide) ?_
  refine lv_istore_n (lv' := [(2, .int 0), (0, .ref (sgA P 49)), (1, .ref (sgA P p1))]) hx hb dX1_pass_6 rfl hl (by decide) rfl (fun ls hl => ?_)
  refine lv_iconst (v := 0) hx hb dX1_pass_7 (by decide) ?_
  refine lv_istore_n (lv' := [(3, .int 0), (2, .int 0), (0, .ref (sgA P 49)), (1, .ref (sgA P p1))]) hx hb dX1_pass_8 rfl hl (by decide) rfl (fun ls hl => ?_)
  obtain ⟨res, e9, k9⟩ := sg_lb_some h
  refine sg_go (sg_lp_W (a := (sg_Ri p l e R s m args below meth c Q P shC 332 A cX1_pass (some .int))) (w := (fun x => sg_Wt p l e R s m args below meth c Q P shC 332 A 4 9 x.1 [(0, .ref (sgA P 49)), (1, .ref (sgA P p1)), (2, .int x.2.1), (3, .int x.2.2)])) (c := (fun y => sg_Wt p l e R s m args below meth c Q P shC 332 A 4 35 y.1 [(1, .ref (sgA P p1)), (2, .int y.2)])) (fun x st hb9 hk9 => ?_) N ((s2, 0, 0)) res e9 (sg_k2_mono k9 (fun r h => ?_) (fun y5 h => ?_))) I (lv_sub hl [2, 3, 1, 0] rfl)
  · intro H locs ls I hl
    exact b_X1_pass_L9 X hp1 I hl hb9 hk9
  · obtain rfl := Option.some.inj h
    exact hk
  · intro H locs ls I hl
    refine lv_aload_n hx hb dX1_pass_35 rfl (lv_at hl 0 rfl) ?_
    refine lv_dup hx hb dX1_pass_36 rfl ?_
    refine sg_getiN X I fn_X1_56 (isSt_i0 hp1) (isSt_s0 hp1) rfl dX1_pass_37 ?_
    refine lv_iconst (v := 1) hx hb dX1_pass_40 (by decide) ?_
    refine lv_iadd hx hb dX1_pass_41 ?_
    refine sg_putiN X I fn_X1_56 wk_8_7 rfl rfl (isSt_i0 hp1) (isSt_s0 hp1) rfl h dX1_pass_42 (fun s6 H locs h I => ?_)
    refine lv_iload_n hx hb dX1_pass_45 rfl (lv_at hl 1 rfl) ?_
    obtain rfl := Option.some.inj h
    exact hk _ _ _ _ _ I ⟨_, rfl, rfl⟩ dX1_pass_46
set_option maxHeartbeats 4000000 in
set_option maxRecDepth 100000 in
theorem c_X1_pass {l : Launch} {P : sgP} {N : Nat} {p1 : Nat} {σ : sgS} (hp1 : isSt p1) {q : Int32 × sgS} (h : f_X1_pass N p1 σ = some q) : sg_Mi P shC 332 l yX1_pass cX1_pass 4 (some .int) 5 [.ref (sgA P 49), .ref (sgA P p1)] σ q := by
  refine sg_mki (plainFor_of_name (by decide +kernel)) (Nat.le_of_ble_eq_true rfl) ?_
  intro p e R s m args below meth c Q A ls H locs X I hl hk
  exact b_X1_pass X hp1 I hl h hk
def f_X5_reaches (N : Nat) (p1 : Int32) (p2 : Int32) (σ : sgS) : Option (Int32) :=
  sg_rf 7 p1 fun j2 =>
sg_ld σ (312 + j2) 7 p2 fun v3 =>
if 1000000 ≤ v3 then
  (some (vp_nar .boolean 0))
else
  (some (vp_nar .boolean 1))
set_option maxHeartbeats 4000000 in
set_option maxRecDepth 100000 in
theorem b_X5_reaches {p : Program} {l : Launch} {e : Env} {R : Room} {s : State} {m : MethodId} {args : Array Value} {below : List Frame} {meth : Method} {c : Code} {Q : State → Prop} {P : sgP} {A : Nat → Prop} {N : Nat} {p1 : Int32} {p2 : Int32} {σ : sgS} (X : sg_C P A 1 p R s m args c cX5_reaches 3 RX5) {H : Heap} {locs : List Loc} (I : sg_I P shC 332 A s.heap σ H locs) {ls : Array Slot} (hl : lv_has ls 3 [(0, .ref (sgA P 302)), (1, .int p1), (2, .int p2)]) {st : Int32} (h : f_X5_reaches N p1 p2 σ = some st) (hk : sg_Ri p l e R s m args below meth c Q P shC 332 A cX5_reaches (some .boolean) (st, σ)) : W p l e R s m args below meth c H locs 0 0 Q (F0 m 0 ls []) := by
  unfold f_X5_reaches at h
  have hx := X.1.1
  have hb := X.1.2.1
  have hown := X.1.2.2.2.1
  have hts := X.1.2.2.2.2
  refine lv_aload_n hx hb dX5_reaches_0 rfl (lv_at hl 0 rfl) ?_
  refine sg_getr X I fk_X5_16 (j := 311) (by decide) shC_302 rfl dX5_reaches_1 ?_
  refine lv_iload_n hx hb dX5_reaches_4 rfl (lv_at hl 1 rfl) ?_
  refine sg_aalda X I (by decide) shC_311 (r := fun k => 312 + k) (fun _ _ => rfl) h dX5_reaches_5 (fun j2 hj2 h => ?_)
  refine lv_iload_n hx hb dX5_reaches_6 rfl (lv_at hl 2 rfl) ?_
  refine sg_iald X I (shC_311i hj2) (shC_311s hj2) h dX5_reaches_7 (fun v3 h => ?_)
  refine lv_ldc (v := 1000000) hx hb hown (hts _ qw_1109) dX5_reaches_8 ?_
  refine lv_icmp_ge (tgt := 17) hx hb dX5_reaches_10 (by decide) (fun z => ?_) (fun z => ?_)
  · have h := sg_ift h z
    refine lv_iconst (v := 0) hx hb dX5_reaches_17 (by decide) ?_
    obtain rfl := Option.some.inj h
    exact hk _ _ _ _ _ I ⟨_, rfl, rfl⟩ dX5_reaches_18
  · have h := sg_iff h z
    refine lv_iconst (v := 1) hx hb dX5_reaches_13 (by decide) ?_
    refine lv_goto (tgt := 18) hx hb dX5_reaches_14 (by decide) ?_
    obtain rfl := Option.some.inj h
    exact hk _ _ _ _ _ I ⟨_, rfl, rfl⟩ dX5_reaches_18
set_option maxHeartbeats 4000000 in
set_option maxRecDepth 100000 in
theorem c_X5_reaches {l : Launch} {P : sgP} {N : Nat} {p1 : Int32} {p2 : Int32} {σ : sgS} {q : Int32} (h : f_X5_reaches N p1 p2 σ = some q) : sg_Mi P shC 332 l yX5_reaches cX5_reaches 3 (some .boolean) 1 [.ref (sgA P 302), .int p1, .int p2] σ (q, σ) := by
  refine sg_mki (plainFor_of_name (by decide +kernel)) (Nat.le_of_ble_eq_true rfl) ?_
  intro p e R s m args below meth c Q A ls H locs X I hl hk
  exact b_X5_reaches X I hl h hk
def f_X2_goOnTour_b_L47 (N : Nat) (rec : Int32 → Int32 → Int32 → Int32 → sgS → Option (Int32 × sgS)) (p1 : Int32) (p2 : Int32) (p3 : Int32) (p4 : Int32) (x5 : Int32) (σ : sgS) : Option ((Int32 × sgS) ⊕ ((sgS × Int32) ⊕ (sgS))) :=
  if (σ.1 3 3) ≤ x5 then
  (some (.inr (.inr σ)))
else
  (if ((p2 >>> (x5 &&& 31)) &&& 1) = 0 then
    (some (.inr (.inl (σ, x5 + 1))))
  else
    (sg_cr (f_X5_reaches N p1 x5 σ) fun v1 =>
    if v1 = 0 then
      (some (.inr (.inl (σ, x5 + 1))))
    else
      (sg_rf 7 p1 fun j3 =>
      sg_ld σ (312 + j3) 7 x5 fun v4 =>
      sg_cl (rec x5 (p2 &&& ((1 <<< (x5 &&& 31)) ^^^ ((-1)))) (p3 + v4) ((p4 * 10) + x5) σ) fun v5 s6 =>
      some (.inr (.inl (s6, x5 + 1))))))
set_option maxHeartbeats 4000000 in
set_option maxRecDepth 100000 in
theorem b_X2_goOnTour_b_L47 {p : Program} {l : Launch} {e : Env} {R : Room} {s : State} {m : MethodId} {args : Array Value} {below : List Frame} {meth : Method} {c : Code} {Q : State → Prop} {P : sgP} {A : Nat → Prop} {lv : Nat} {N : Nat} {rec : Int32 → Int32 → Int32 → Int32 → sgS → Option (Int32 × sgS)} {p1 : Int32} {p2 : Int32} {p3 : Int32} {p4 : Int32} {x5 : Int32} {σ : sgS} (X : sg_C P A (lv + 1) p R s m args c cX2_goOnTour 6 RX2) (hlv : 2 ≤ lv) (hrec : ∀ (p1 : Int32) (p2 : Int32) (p3 : Int32) (p4 : Int32) (σ : sgS) (q : Int32 × sgS), rec p1 p2 p3 p4 σ = some q → sg_Mv P shC 332 l yX2_goOnTour cX2_goOnTour 6 none lv [.ref (sgA P 330), .int p1, .int p2, .int p3, .int p4] σ q) {H : Heap} {locs : List Loc} (I : sg_I P shC 332 A s.heap σ H locs) {ls : Array Slot} (hl : lv_has ls 6 [(0, .ref (sgA P 330)), (1, .int p1), (2, .int p2), (3, .int p3), (4, .int p4), (5, .int x5)]) {st : (Int32 × sgS) ⊕ ((sgS × Int32) ⊕ (sgS))} (h : f_X2_goOnTour_b_L47 N rec p1 p2 p3 p4 x5 σ = some st) (hk : sg_k3 (sg_Rv p l e R s m args below meth c Q P shC 332 A cX2_goOnTour) (fun x => sg_Wt p l e R s m args below meth c Q P shC 332 A 6 47 x.1 [(0, .ref (sgA P 330)), (1, .int p1), (2, .int p2), (3, .int p3), (4, .int p4), (5, .int x.2)]) (fun y => sg_Wt p l e R s m args below meth c Q P shC 332 A 6 123 y []) st) : W p l e R s m args below meth c H locs 0 0 Q (F0 m 47 ls []) := by
  unfold f_X2_goOnTour_b_L47 at h
  have hx := X.1.1
  have hb := X.1.2.1
  have hown := X.1.2.2.2.1
  have hts := X.1.2.2.2.2
  refine lv_iload hx hb dX2_goOnTour_47 (lv_at hl 5 rfl) ?_
  refine lv_aload_n hx hb dX2_goOnTour_49 rfl (lv_at hl 0 rfl) ?_
  refine sg_getr X I fk_X2_9 (j := 3) (by decide) shC_330 rfl dX2_goOnTour_50 ?_
  refine sg_getiN X I fn_X2_44 (by decide) shC_3 rfl dX2_goOnTour_53 ?_
  refine lv_icmp_ge (tgt := 123) hx hb dX2_goOnTour_56 (by decide) (fun z => ?_) (fun z => ?_)
  · have h := sg_ift h z
    obtain rfl := Option.some.inj h
    exact sg_go hk I (lv_sub hl [] rfl)
  · have h := sg_iff h z
    refine lv_iload_n hx hb dX2_goOnTour_59 rfl (lv_at hl 2 rfl) ?_
    refine lv_iload hx hb dX2_goOnTour_60 (lv_at hl 5 rfl) ?_
    refine lv_ishr hx hb dX2_goOnTour_62 ?_
    refine lv_iconst (v := 1) hx hb dX2_goOnTour_63 (by decide) ?_
    refine lv_iand hx hb dX2_goOnTour_64 ?_
    refine lv_if_eq (tgt := 117) hx hb dX2_goOnTour_65 (by decide) (fun z => ?_) (fun z => ?_)
    · have h := sg_ift h z
      refine lv_iinc (v := x5 + 1) (lv' := [(5, .int (x5 + 1)), (0, .ref (sgA P 330)), (1, .int p1), (2, .int p2), (3, .int p3), (4, .int p4)]) hx hb dX2_goOnTour_117 hl (k := 5) rfl rfl (by decide) rfl (fun ls hl => ?_)
      refine lv_goto (tgt := 47) hx hb dX2_goOnTour_120 (by decide) ?_
      obtain rfl := Option.some.inj h
      exact sg_go hk I (lv_sub hl [1, 2, 3, 4, 5, 0] rfl)
    · have h := sg_iff h z
      refine lv_aload_n hx hb dX2_goOnTour_68 rfl (lv_at hl 0 rfl) ?_
      refine sg_getr X I fk_X2_19 (j := 302) (by decide) shC_330 rfl dX2_goOnTour_69 ?_
      refine lv_iload_n hx hb dX2_goOnTour_72 rfl (lv_at hl 1 rfl) ?_
      refine lv_iload hx hb dX2_goOnTour_73 (lv_at hl 5 rfl) ?_
      refine sg_callVr (As := [.int p1, .int x5]) X I mk_X2_49 (by omega) (by decide) shC_302 rfl (fun q9 e9 => c_X5_reaches e9) h hl.1 rfl rfl (Nat.le_of_ble_eq_true rfl) dX2_goOnTour_75 (fun v1 H locs h I => ?_)
      refine lv_if_eq (tgt := 117) hx hb dX2_goOnTour_78 (by decide) (fun z => ?_) (fun z => ?_)
      · have h := sg_ift h z
        refine lv_iinc (v := x5 + 1) (lv' := [(5, .int (x5 + 1)), (0, .ref (sgA P 330)), (1, .int p1), (2, .int p2), (3, .int p3), (4, .int p4)]) hx hb dX2_goOnTour_117 hl (k := 5) rfl rfl (by decide) rfl (fun ls hl => ?_)
        refine lv_goto (tgt := 47) hx hb dX2_goOnTour_120 (by decide) ?_
        obtain rfl := Option.some.inj h
        exact sg_go hk I (lv_sub hl [1, 2, 3, 4, 5, 0] rfl)
      · have h := sg_iff h z
        refine lv_aload_n hx hb dX2_goOnTour_81 rfl (lv_at hl 0 rfl) ?_
        refine lv_iload hx hb dX2_goOnTour_82 (lv_at hl 5 rfl) ?_
        refine lv_iload_n hx hb dX2_goOnTour_84 rfl (lv_at hl 2 rfl) ?_
        refine lv_iconst (v := 1) hx hb dX2_goOnTour_85 (by decide) ?_
        refine lv_iload hx hb dX2_goOnTour_86 (lv_at hl 5 rfl) ?_
        refine lv_ishl hx hb dX2_goOnTour_88 ?_
        refine lv_iconst (v := -1) hx hb dX2_goOnTour_89 (by decide) ?_
        refine lv_ixor hx hb dX2_goOnTour_90 ?_
        refine lv_iand hx hb dX2_goOnTour_91 ?_
        refine lv_iload_n hx hb dX2_goOnTour_92 rfl (lv_at hl 3 rfl) ?_
        refine lv_aload_n hx hb dX2_goOnTour_93 rfl (lv_at hl 0 rfl) ?_
        refine sg_getr X I fk_X2_19 (j := 302) (by decide) shC_330 rfl dX2_goOnTour_94 ?_
        refine sg_getrN X I fn_X2_40 (j := 311) (by decide) shC_302 rfl dX2_goOnTour_97 ?_
        refine lv_iload_n hx hb dX2_goOnTour_100 rfl (lv_at hl 1 rfl) ?_
        refine sg_aalda X I (by decide) shC_311 (r := fun k => 312 + k) (fun _ _ => rfl) h dX2_goOnTour_101 (fun j3 hj3 h => ?_)
        refine lv_iload hx hb dX2_goOnTour_102 (lv_at hl 5 rfl) ?_
        refine sg_iald X I (shC_311i hj3) (shC_311s hj3) h dX2_goOnTour_104 (fun v4 h => ?_)
        refine lv_iadd hx hb dX2_goOnTour_105 ?_
        refine lv_iload hx hb dX2_goOnTour_106 (lv_at hl 4 rfl) ?_
        refine lv_bipush (v := 10) hx hb dX2_goOnTour_108 (by decide) ?_
        refine lv_imul hx hb dX2_goOnTour_110 ?_
        refine lv_iload hx hb dX2_goOnTour_111 (lv_at hl 5 rfl) ?_
        refine lv_iadd hx hb dX2_goOnTour_113 ?_
        refine sg_callVv (As := [.int x5, .int (p2 &&& ((1 <<< (x5 &&& 31)) ^^^ ((-1)))), .int (p3 + v4), .int ((p4 * 10) + x5)]) X I mk_X2_36 (by omega) (by decide) shC_330 rfl (fun q9 e9 => hrec _ _ _ _ _ _ e9) h hl.1 rfl rfl (Nat.le_of_ble_eq_true rfl) dX2_goOnTour_114 (fun v5 s6 H locs h I => ?_)
        refine lv_iinc (v := x5 + 1) (lv' := [(5, .int (x5 + 1)), (0, .ref (sgA P 330)), (1, .int p1), (2, .int p2), (3, .int p3), (4, .int p4)]) hx hb dX2_goOnTour_117 hl (k := 5) rfl rfl (by decide) rfl (fun ls hl => ?_)
        refine lv_goto (tgt := 47) hx hb dX2_goOnTour_120 (by decide) ?_
        obtain rfl := Option.some.inj h
        exact sg_go hk I (lv_sub hl [1, 2, 3, 4, 5, 0] rfl)
def f_X2_goOnTour_b (N : Nat) (rec : Int32 → Int32 → Int32 → Int32 → sgS → Option (Int32 × sgS)) (p1 : Int32) (p2 : Int32) (p3 : Int32) (p4 : Int32) (σ : sgS) : Option (Int32 × sgS) :=
  if p2 = 0 then
  (sg_rf 7 p1 fun j9 =>
  sg_ld σ (312 + j9) 7 (σ.1 330 3) fun v10 =>
  if (σ.1 330 5) ≤ (p3 + v10) then
    (some (0, σ))
  else
    (sg_pf σ 330 5 (p3 + v10) fun s11 =>
    sg_pf s11 330 6 p4 fun s12 =>
    some (0, s12)))
else
  (sg_lb (sg_lp (fun x => f_X2_goOnTour_b_L47 N rec p1 p2 p3 p4 x.2 x.1) N ((σ, 0))) (fun r => some r) fun y7 =>
  some (0, y7))
set_option maxHeartbeats 4000000 in
set_option maxRecDepth 100000 in
theorem b_X2_goOnTour_b {p : Program} {l : Launch} {e : Env} {R : Room} {s : State} {m : MethodId} {args : Array Value} {below : List Frame} {meth : Method} {c : Code} {Q : State → Prop} {P : sgP} {A : Nat → Prop} {lv : Nat} {N : Nat} {rec : Int32 → Int32 → Int32 → Int32 → sgS → Option (Int32 × sgS)} {p1 : Int32} {p2 : Int32} {p3 : Int32} {p4 : Int32} {σ : sgS} (X : sg_C P A (lv + 1) p R s m args c cX2_goOnTour 6 RX2) (hlv : 2 ≤ lv) (hrec : ∀ (p1 : Int32) (p2 : Int32) (p3 : Int32) (p4 : Int32) (σ : sgS) (q : Int32 × sgS), rec p1 p2 p3 p4 σ = some q → sg_Mv P shC 332 l yX2_goOnTour cX2_goOnTour 6 none lv [.ref (sgA P 330), .int p1, .int p2, .int p3, .int p4] σ q) {H : Heap} {locs : List Loc} (I : sg_I P shC 332 A s.heap σ H locs) {ls : Array Slot} (hl : lv_has ls 6 [(0, .ref (sgA P 330)), (1, .int p1), (2, .int p2), (3, .int p3), (4, .int p4)]) {st : Int32 × sgS} (h : f_X2_goOnTour_b N rec p1 p2 p3 p4 σ = some st) (hk : sg_Rv p l e R s m args below meth c Q P shC 332 A cX2_goOnTour st) : W p l e R s m args below meth c H locs 0 0 Q (F0 m 0 ls []) := by
  unfold f_X2_goOnTour_b at h
  have hx := X.1.1
  have hb := X.1.2.1
  have hown := X.1.2.2.2.1
  have hts := X.1.2.2.2.2
  refine lv_iload_n hx hb dX2_goOnTour_0 rfl (lv_at hl 2 rfl) ?_
  refine lv_if_ne (tgt := 44) hx hb dX2_goOnTour_1 (by decide) (fun z => ?_) (fun z => ?_)
  · have h := sg_iff h z
    refine lv_iconst (v := 0) hx hb dX2_goOnTour_44 (by decide) ?_
    refine lv_istore (lv' := [(5, .int 0), (0, .ref (sgA P 330)), (1, .int p1), (2, .int p2), (3, .int p3), (4, .int p4)]) hx hb dX2_goOnTour_45 hl (by decide) rfl (fun ls hl => ?_)
    obtain ⟨res, e9, k9⟩ := sg_lb_some h
    refine sg_go (sg_lp_W (a := (sg_Rv p l e R s m args below meth c Q P shC 332 A cX2_goOnTour)) (w := (fun x => sg_Wt p l e R s m args below meth c Q P shC 332 A 6 47 x.1 [(0, .ref (sgA P 330)), (1, .int p1), (2, .int p2), (3, .int p3), (4, .int p4), (5, .int x.2)])) (c := (fun y => sg_Wt p l e R s m args below meth c Q P shC 332 A 6 123 y [])) (fun x st hb9 hk9 => ?_) N ((σ, 0)) res e9 (sg_k2_mono k9 (fun r h => ?_) (fun y7 h => ?_))) I (lv_sub hl [1, 2, 3, 4, 5, 0] rfl)
    · intro H locs ls I hl
      exact b_X2_goOnTour_b_L47 X hlv hrec I hl hb9 hk9
    · obtain rfl := Option.some.inj h
      exact hk
    · intro H locs ls I hl
      obtain rfl := Option.some.inj h
      exact hk _ _ _ _ I dX2_goOnTour_123
  · have h := sg_ift h z
    refine lv_iload_n hx hb dX2_goOnTour_4 rfl (lv_at hl 3 rfl) ?_
    refine lv_aload_n hx hb dX2_goOnTour_5 rfl (lv_at hl 0 rfl) ?_
    refine sg_getr X I fk_X2_19 (j := 302) (by decide) shC_330 rfl dX2_goOnTour_6 ?_
    refine sg_getrN X I fn_X2_40 (j := 311) (by decide) shC_302 rfl dX2_goOnTour_9 ?_
    refine lv_iload_n hx hb dX2_goOnTour_12 rfl (lv_at hl 1 rfl) ?_
    refine sg_aalda X I (by decide) shC_311 (r := fun k => 312 + k) (fun _ _ => rfl) h dX2_goOnTour_13 (fun j9 hj9 h => ?_)
    refine lv_aload_n hx hb dX2_goOnTour_14 rfl (lv_at hl 0 rfl) ?_
    refine sg_geti X I fk_X2_23 (by decide) shC_330 rfl dX2_goOnTour_15 ?_
    refine sg_iald X I (shC_311i hj9) (shC_311s hj9) h dX2_goOnTour_18 (fun v10 h => ?_)
    refine lv_iadd hx hb dX2_goOnTour_19 ?_
    refine lv_istore (lv' := [(5, .int (p3 + v10)), (0, .ref (sgA P 330)), (1, .int p1), (2, .int p2), (3, .int p3), (4, .int p4)]) hx hb dX2_goOnTour_20 hl (by decide) rfl (fun ls hl => ?_)
    refine lv_iload hx hb dX2_goOnTour_22 (lv_at hl 0 rfl) ?_
    refine lv_aload_n hx hb dX2_goOnTour_24 rfl (lv_at hl 1 rfl) ?_
    refine sg_geti X I fk_X2_30 (by decide) shC_330 rfl dX2_goOnTour_25 ?_
    refine lv_icmp_ge (tgt := 43) hx hb dX2_goOnTour_28 (by decide) (fun z => ?_) (fun z => ?_)
    · have h := sg_ift h z
      obtain rfl := Option.some.inj h
      exact hk _ _ _ _ I dX2_goOnTour_43
    · have h := sg_iff h z
      refine lv_aload_n hx hb dX2_goOnTour_31 rfl (lv_at hl 1 rfl) ?_
      refine lv_iload hx hb dX2_goOnTour_32 (lv_at hl 0 rfl) ?_
      refine sg_puti X I fk_X2_30 wk_2_5 rfl rfl (by decide) shC_330 rfl h dX2_goOnTour_34 (fun s11 H locs h I => ?_)
      refine lv_aload_n hx hb dX2_goOnTour_37 rfl (lv_at hl 1 rfl) ?_
      refine lv_iload hx hb dX2_goOnTour_38 (lv_at hl 5 rfl) ?_
      refine sg_puti X I fk_X2_33 wk_2_6 rfl rfl (by decide) shC_330 rfl h dX2_goOnTour_40 (fun s12 H locs h I => ?_)
      obtain rfl := Option.some.inj h
      exact hk _ _ _ _ I dX2_goOnTour_43
set_option maxHeartbeats 4000000 in
set_option maxRecDepth 100000 in
theorem c_X2_goOnTour_b {l : Launch} {P : sgP} {lv : Nat} {N : Nat} {rec : Int32 → Int32 → Int32 → Int32 → sgS → Option (Int32 × sgS)} {p1 : Int32} {p2 : Int32} {p3 : Int32} {p4 : Int32} {σ : sgS} (hlv : 2 ≤ lv) (hrec : ∀ (p1 : Int32) (p2 : Int32) (p3 : Int32) (p4 : Int32) (σ : sgS) (q : Int32 × sgS), rec p1 p2 p3 p4 σ = some q → sg_Mv P shC 332 l yX2_goOnTour cX2_goOnTour 6 none lv [.ref (sgA P 330), .int p1, .int p2, .int p3, .int p4] σ q) {q : Int32 × sgS} (h : f_X2_goOnTour_b N rec p1 p2 p3 p4 σ = some q) : sg_Mv P shC 332 l yX2_goOnTour cX2_goOnTour 6 none (lv + 1) [.ref (sgA P 330), .int p1, .int p2, .int p3, .int p4] σ q := by
  refine sg_mkv (plainFor_of_name (by decide +kernel)) (Nat.le_of_ble_eq_true rfl) ?_
  intro p e R s m args below meth c Q A ls H locs X I hl hk
  exact b_X2_goOnTour_b X hlv hrec I hl h hk
def f_X2_goOnTour : Nat → Nat → Int32 → Int32 → Int32 → Int32 → sgS → Option (Int32 × sgS)
  | 0, _, _, _, _, _, _ => none
  | d + 1, N, p1, p2, p3, p4, σ => f_X2_goOnTour_b N (f_X2_goOnTour d N) p1 p2 p3 p4 σ
set_option maxHeartbeats 4000000 in
set_option maxRecDepth 100000 in
theorem cd_X2_goOnTour {l : Launch} {P : sgP} {N : Nat} : ∀ (d : Nat) (p1 : Int32) (p2 : Int32) (p3 : Int32) (p4 : Int32) (σ : sgS) (q : Int32 × sgS), f_X2_goOnTour d N p1 p2 p3 p4 σ = some q → sg_Mv P shC 332 l yX2_goOnTour cX2_goOnTour 6 none (2 + 1 * d) [.ref (sgA P 330), .int p1, .int p2, .int p3, .int p4] σ q := by
  intro d
  induction d with
  | zero => intro p1 p2 p3 p4 σ q h; cases h
  | succ d ih =>
    intro p1 p2 p3 p4 σ q h
    have e : 2 + 1 * (d + 1) = 2 + 1 * d + 1 := by omega
    rw [e]
    exact c_X2_goOnTour_b (by omega) ih h
set_option maxHeartbeats 4000000 in
set_option maxRecDepth 100000 in
theorem c_X2_goOnTour {l : Launch} {P : sgP} {N : Nat} {p1 : Int32} {p2 : Int32} {p3 : Int32} {p4 : Int32} {σ : sgS} {q : Int32 × sgS} (h : f_X2_goOnTour 40 N p1 p2 p3 p4 σ = some q) : sg_Mv P shC 332 l yX2_goOnTour cX2_goOnTour 6 none 42 [.ref (sgA P 330), .int p1, .int p2, .int p3, .int p4] σ q := cd_X2_goOnTour 40 p1 p2 p3 p4 σ q h
def f_X2_findTour_B49 (N : Nat) (p1 : Int32) (p2 : Int32) (k1 : Int32) (k2 : Int32) (k3 : Int32) (k4 : Int32) (σ : sgS) : Option (Int32 × sgS) :=
  sg_cl (f_X2_goOnTour 40 N k1 k2 k3 k4 σ) fun v4 s5 =>
if 1000000 ≤ (s5.1 330 5) then
  (some (vp_nar .boolean 0, s5))
else
  (some (vp_nar .boolean 1, s5))
set_option maxHeartbeats 4000000 in
set_option maxRecDepth 100000 in
theorem b_X2_findTour_B49 {p : Program} {l : Launch} {e : Env} {R : Room} {s : State} {m : MethodId} {args : Array Value} {below : List Frame} {meth : Method} {c : Code} {Q : State → Prop} {P : sgP} {A : Nat → Prop} {N : Nat} {p1 : Int32} {p2 : Int32} {k1 : Int32} {k2 : Int32} {k3 : Int32} {k4 : Int32} {σ : sgS} (X : sg_C P A 43 p R s m args c cX2_findTour 4 RX2) {H : Heap} {locs : List Loc} (I : sg_I P shC 332 A s.heap σ H locs) {ls : Array Slot} (hl : lv_has ls 4 [(0, .ref (sgA P 330))]) {st : Int32 × sgS} (h : f_X2_findTour_B49 N p1 p2 k1 k2 k3 k4 σ = some st) (hk : sg_Ri p l e R s m args below meth c Q P shC 332 A cX2_findTour (some .boolean) st) : W p l e R s m args below meth c H locs 0 0 Q (F0 m 49 ls [.int k4, .int k3, .int k2, .int k1, .ref (sgA P 330)]) := by
  unfold f_X2_findTour_B49 at h
  have hx := X.1.1
  have hb := X.1.2.1
  have hown := X.1.2.2.2.1
  have hts := X.1.2.2.2.2
  refine sg_callVv (As := [.int k1, .int k2, .int k3, .int k4]) X I mk_X2_36 (by decide) (by decide) shC_330 rfl (fun q9 e9 => c_X2_goOnTour e9) h hl.1 rfl rfl (Nat.le_of_ble_eq_true rfl) dX2_findTour_49 (fun v4 s5 H locs h I => ?_)
  refine lv_aload_n hx hb dX2_findTour_52 rfl (lv_at hl 0 rfl) ?_
  refine sg_geti X I fk_X2_30 (by decide) shC_330 rfl dX2_findTour_53 ?_
  refine lv_ldc (v := 1000000) hx hb hown (hts _ qw_1328) dX2_findTour_56 ?_
  refine lv_icmp_ge (tgt := 65) hx hb dX2_findTour_58 (by decide) (fun z => ?_) (fun z => ?_)
  · have h := sg_ift h z
    refine lv_iconst (v := 0) hx hb dX2_findTour_65 (by decide) ?_
    obtain rfl := Option.some.inj h
    exact hk _ _ _ _ _ I ⟨_, rfl, rfl⟩ dX2_findTour_66
  · have h := sg_iff h z
    refine lv_iconst (v := 1) hx hb dX2_findTour_61 (by decide) ?_
    refine lv_goto (tgt := 66) hx hb dX2_findTour_62 (by decide) ?_
    obtain rfl := Option.some.inj h
    exact hk _ _ _ _ _ I ⟨_, rfl, rfl⟩ dX2_findTour_66
def f_X2_findTour_B29 (N : Nat) (p1 : Int32) (p2 : Int32) (k0 : Int32) (σ : sgS) : Option (Int32 × sgS) :=
  if k0 = 0 then
  (f_X2_findTour_B49 N p1 p2 p1 (p2 &&& ((1 <<< (p1 &&& 31)) ^^^ ((-1)))) 0 0 σ)
else
  (f_X2_findTour_B49 N p1 p2 p1 (p2 &&& ((1 <<< (p1 &&& 31)) ^^^ ((-1)))) 0 p1 σ)
set_option maxHeartbeats 4000000 in
set_option maxRecDepth 100000 in
theorem b_X2_findTour_B29 {p : Program} {l : Launch} {e : Env} {R : Room} {s : State} {m : MethodId} {args : Array Value} {below : List Frame} {meth : Method} {c : Code} {Q : State → Prop} {P : sgP} {A : Nat → Prop} {N : Nat} {p1 : Int32} {p2 : Int32} {k0 : Int32} {σ : sgS} (X : sg_C P A 43 p R s m args c cX2_findTour 4 RX2) {H : Heap} {locs : List Loc} (I : sg_I P shC 332 A s.heap σ H locs) {ls : Array Slot} (hl : lv_has ls 4 [(0, .ref (sgA P 330)), (1, .int p1), (2, .int p2)]) {st : Int32 × sgS} (h : f_X2_findTour_B29 N p1 p2 k0 σ = some st) (hk : sg_Ri p l e R s m args below meth c Q P shC 332 A cX2_findTour (some .boolean) st) : W p l e R s m args below meth c H locs 0 0 Q (F0 m 29 ls [.int k0]) := by
  unfold f_X2_findTour_B29 at h
  have hx := X.1.1
  have hb := X.1.2.1
  have hown := X.1.2.2.2.1
  have hts := X.1.2.2.2.2
  refine lv_istore_n (lv' := [(3, .int k0), (0, .ref (sgA P 330)), (1, .int p1), (2, .int p2)]) hx hb dX2_findTour_29 rfl hl (by decide) rfl (fun ls hl => ?_)
  refine lv_aload_n hx hb dX2_findTour_30 rfl (lv_at hl 1 rfl) ?_
  refine lv_iload_n hx hb dX2_findTour_31 rfl (lv_at hl 2 rfl) ?_
  refine lv_iload_n hx hb dX2_findTour_32 rfl (lv_at hl 3 rfl) ?_
  refine lv_iconst (v := 1) hx hb dX2_findTour_33 (by decide) ?_
  refine lv_iload_n hx hb dX2_findTour_34 rfl (lv_at hl 2 rfl) ?_
  refine lv_ishl hx hb dX2_findTour_35 ?_
  refine lv_iconst (v := -1) hx hb dX2_findTour_36 (by decide) ?_
  refine lv_ixor hx hb dX2_findTour_37 ?_
  refine lv_iand hx hb dX2_findTour_38 ?_
  refine lv_iconst (v := 0) hx hb dX2_findTour_39 (by decide) ?_
  refine lv_iload_n hx hb dX2_findTour_40 rfl (lv_at hl 0 rfl) ?_
  refine lv_if_eq (tgt := 48) hx hb dX2_findTour_41 (by decide) (fun z => ?_) (fun z => ?_)
  · have h := sg_ift h z
    refine lv_iconst (v := 0) hx hb dX2_findTour_48 (by decide) ?_
    exact b_X2_findTour_B49 X I (lv_sub hl [1] rfl) h hk
  · have h := sg_iff h z
    refine lv_iload_n hx hb dX2_findTour_44 rfl (lv_at hl 2 rfl) ?_
    refine lv_goto (tgt := 49) hx hb dX2_findTour_45 (by decide) ?_
    exact b_X2_findTour_B49 X I (lv_sub hl [1] rfl) h hk
def f_X2_findTour (N : Nat) (p1 : Int32) (p2 : Int32) (σ : sgS) : Option (Int32 × sgS) :=
  sg_pf σ 330 3 p1 fun s1 =>
sg_pf s1 330 5 1000000 fun s2 =>
sg_pf s2 330 6 ((-1)) fun s3 =>
if ((p2 >>> (p1 &&& 31)) &&& 1) = 0 then
  (f_X2_findTour_B29 N p1 p2 0 s3)
else
  (f_X2_findTour_B29 N p1 p2 1 s3)
set_option maxHeartbeats 4000000 in
set_option maxRecDepth 100000 in
theorem b_X2_findTour {p : Program} {l : Launch} {e : Env} {R : Room} {s : State} {m : MethodId} {args : Array Value} {below : List Frame} {meth : Method} {c : Code} {Q : State → Prop} {P : sgP} {A : Nat → Prop} {N : Nat} {p1 : Int32} {p2 : Int32} {σ : sgS} (X : sg_C P A 43 p R s m args c cX2_findTour 4 RX2) {H : Heap} {locs : List Loc} (I : sg_I P shC 332 A s.heap σ H locs) {ls : Array Slot} (hl : lv_has ls 4 [(0, .ref (sgA P 330)), (1, .int p1), (2, .int p2)]) {st : Int32 × sgS} (h : f_X2_findTour N p1 p2 σ = some st) (hk : sg_Ri p l e R s m args below meth c Q P shC 332 A cX2_findTour (some .boolean) st) : W p l e R s m args below meth c H locs 0 0 Q (F0 m 0 ls []) := by
  unfold f_X2_findTour at h
  have hx := X.1.1
  have hb := X.1.2.1
  have hown := X.1.2.2.2.1
  have hts := X.1.2.2.2.2
  refine lv_aload_n hx hb dX2_findTour_0 rfl (lv_at hl 0 rfl) ?_
  refine lv_iload_n hx hb dX2_findTour_1 rfl (lv_at hl 1 rfl) ?_
  refine sg_puti X I fk_X2_23 wk_2_3 rfl rfl (by decide) shC_330 rfl h dX2_findTour_2 (fun s1 H locs h I => ?_)
  refine lv_aload_n hx hb dX2_findTour_5 rfl (lv_at hl 0 rfl) ?_
  refine lv_ldc (v := 1000000) hx hb hown (hts _ qw_1328) dX2_findTour_6 ?_
  refine sg_puti X I fk_X2_30 wk_2_5 rfl rfl (by decide) shC_330 rfl h dX2_findTour_8 (fun s2 H locs h I => ?_)
  refine lv_aload_n hx hb dX2_findTour_11 rfl (lv_at hl 0 rfl) ?_
  refine lv_iconst (v := -1) hx hb dX2_findTour_12 (by decide) ?_
  refine sg_puti X I fk_X2_33 wk_2_6 rfl rfl (by decide) shC_330 rfl h dX2_findTour_13 (fun s3 H locs h I => ?_)
  refine lv_iload_n hx hb dX2_findTour_16 rfl (lv_at hl 2 rfl) ?_
  refine lv_iload_n hx hb dX2_findTour_17 rfl (lv_at hl 1 rfl) ?_
  refine lv_ishr hx hb dX2_findTour_18 ?_
  refine lv_iconst (v := 1) hx hb dX2_findTour_19 (by decide) ?_
  refine lv_iand hx hb dX2_findTour_20 ?_
  refine lv_if_eq (tgt := 28) hx hb dX2_findTour_21 (by decide) (fun z => ?_) (fun z => ?_)
  · have h := sg_ift h z
    refine lv_iconst (v := 0) hx hb dX2_findTour_28 (by decide) ?_
    exact b_X2_findTour_B29 X I (lv_sub hl [0, 1, 2] rfl) h hk
  · have h := sg_iff h z
    refine lv_iconst (v := 1) hx hb dX2_findTour_24 (by decide) ?_
    refine lv_goto (tgt := 29) hx hb dX2_findTour_25 (by decide) ?_
    exact b_X2_findTour_B29 X I (lv_sub hl [0, 1, 2] rfl) h hk
set_option maxHeartbeats 4000000 in
set_option maxRecDepth 100000 in
theorem c_X2_findTour {l : Launch} {P : sgP} {N : Nat} {p1 : Int32} {p2 : Int32} {σ : sgS} {q : Int32 × sgS} (h : f_X2_findTour N p1 p2 σ = some q) : sg_Mi P shC 332 l yX2_findTour cX2_findTour 4 (some .boolean) 43 [.ref (sgA P 330), .int p1, .int p2] σ q := by
  refine sg_mki (plainFor_of_name (by decide +kernel)) (Nat.le_of_ble_eq_true rfl) ?_
  intro p e R s m args below meth c Q A ls H locs X I hl hk
  exact b_X2_findTour X I hl h hk
def f_X2_goOnDoors_b_L68 (N : Nat) (rec : Int32 → Int32 → Int32 → Int32 → Int32 → sgS → Option (Int32 × sgS)) (p1 : Int32) (p2 : Int32) (p3 : Int32) (p4 : Int32) (p5 : Int32) (w6 : Int32) (x7 : Int32) (σ : sgS) : Option ((Int32 × sgS) ⊕ ((sgS × Int32) ⊕ (sgS))) :=
  if (σ.1 3 3) ≤ x7 then
  (some (.inr (.inr σ)))
else
  (if ((p2 >>> (x7 &&& 31)) &&& 1) = 0 then
    (some (.inr (.inl (σ, x7 + 1))))
  else
    (sg_cr (f_X5_reaches N w6 x7 σ) fun v2 =>
    if v2 = 0 then
      (some (.inr (.inl (σ, x7 + 1))))
    else
      (sg_rf 7 w6 fun j4 =>
      sg_ld σ (312 + j4) 7 x7 fun v5 =>
      sg_cl (rec (p1 + 1) (p2 &&& ((1 <<< (x7 &&& 31)) ^^^ ((-1)))) (p3 + 1) (p4 + v5) ((p5 * 10) + x7) σ) fun v6 s7 =>
      some (.inr (.inl (s7, x7 + 1))))))
set_option maxHeartbeats 4000000 in
set_option maxRecDepth 100000 in
theorem b_X2_goOnDoors_b_L68 {p : Program} {l : Launch} {e : Env} {R : Room} {s : State} {m : MethodId} {args : Array Value} {below : List Frame} {meth : Method} {c : Code} {Q : State → Prop} {P : sgP} {A : Nat → Prop} {lv : Nat} {N : Nat} {rec : Int32 → Int32 → Int32 → Int32 → Int32 → sgS → Option (Int32 × sgS)} {p1 : Int32} {p2 : Int32} {p3 : Int32} {p4 : Int32} {p5 : Int32} {w6 : Int32} {x7 : Int32} {σ : sgS} (X : sg_C P A (lv + 1) p R s m args c cX2_goOnDoors 8 RX2) (hlv : 2 ≤ lv) (hrec : ∀ (p1 : Int32) (p2 : Int32) (p3 : Int32) (p4 : Int32) (p5 : Int32) (σ : sgS) (q : Int32 × sgS), rec p1 p2 p3 p4 p5 σ = some q → sg_Mv P shC 332 l yX2_goOnDoors cX2_goOnDoors 8 none lv [.ref (sgA P 330), .int p1, .int p2, .int p3, .int p4, .int p5] σ q) {H : Heap} {locs : List Loc} (I : sg_I P shC 332 A s.heap σ H locs) {ls : Array Slot} (hl : lv_has ls 8 [(0, .ref (sgA P 330)), (1, .int p1), (2, .int p2), (3, .int p3), (4, .int p4), (5, .int p5), (6, .int w6), (7, .int x7)]) {st : (Int32 × sgS) ⊕ ((sgS × Int32) ⊕ (sgS))} (h : f_X2_goOnDoors_b_L68 N rec p1 p2 p3 p4 p5 w6 x7 σ = some st) (hk : sg_k3 (sg_Rv p l e R s m args below meth c Q P shC 332 A cX2_goOnDoors) (fun x => sg_Wt p l e R s m args below meth c Q P shC 332 A 8 68 x.1 [(0, .ref (sgA P 330)), (1, .int p1), (2, .int p2), (3, .int p3), (4, .int p4), (5, .int p5), (6, .int w6), (7, .int x.2)]) (fun y => sg_Wt p l e R s m args below meth c Q P shC 332 A 8 151 y [(0, .ref (sgA P 330)), (1, .int p1), (2, .int p2), (3, .int p3), (4, .int p4), (5, .int p5)]) st) : W p l e R s m args below meth c H locs 0 0 Q (F0 m 68 ls []) := by
  unfold f_X2_goOnDoors_b_L68 at h
  have hx := X.1.1
  have hb := X.1.2.1
  have hown := X.1.2.2.2.1
  have hts := X.1.2.2.2.2
  refine lv_iload hx hb dX2_goOnDoors_68 (lv_at hl 7 rfl) ?_
  refine lv_aload_n hx hb dX2_goOnDoors_70 rfl (lv_at hl 0 rfl) ?_
  refine sg_getr X I fk_X2_9 (j := 3) (by decide) shC_330 rfl dX2_goOnDoors_71 ?_
  refine sg_getiN X I fn_X2_44 (by decide) shC_3 rfl dX2_goOnDoors_74 ?_
  refine lv_icmp_ge (tgt := 151) hx hb dX2_goOnDoors_77 (by decide) (fun z => ?_) (fun z => ?_)
  · have h := sg_ift h z
    obtain rfl := Option.some.inj h
    exact sg_go hk I (lv_sub hl [0, 1, 2, 3, 4, 5] rfl)
  · have h := sg_iff h z
    refine lv_iload_n hx hb dX2_goOnDoors_80 rfl (lv_at hl 2 rfl) ?_
    refine lv_iload hx hb dX2_goOnDoors_81 (lv_at hl 7 rfl) ?_
    refine lv_ishr hx hb dX2_goOnDoors_83 ?_
    refine lv_iconst (v := 1) hx hb dX2_goOnDoors_84 (by decide) ?_
    refine lv_iand hx hb dX2_goOnDoors_85 ?_
    refine lv_if_eq (tgt := 145) hx hb dX2_goOnDoors_86 (by decide) (fun z => ?_) (fun z => ?_)
    · have h := sg_ift h z
      refine lv_iinc (v := x7 + 1) (lv' := [(7, .int (x7 + 1)), (0, .ref (sgA P 330)), (1, .int p1), (2, .int p2), (3, .int p3), (4, .int p4), (5, .int p5), (6, .int w6)]) hx hb dX2_goOnDoors_145 hl (k := 7) rfl rfl (by decide) rfl (fun ls hl => ?_)
      refine lv_goto (tgt := 68) hx hb dX2_goOnDoors_148 (by decide) ?_
      obtain rfl := Option.some.inj h
      exact sg_go hk I (lv_sub hl [1, 2, 3, 4, 5, 6, 7, 0] rfl)
    · have h := sg_iff h z
      refine lv_aload_n hx hb dX2_goOnDoors_89 rfl (lv_at hl 0 rfl) ?_
      refine sg_getr X I fk_X2_19 (j := 302) (by decide) shC_330 rfl dX2_goOnDoors_90 ?_
      refine lv_iload hx hb dX2_goOnDoors_93 (lv_at hl 6 rfl) ?_
      refine lv_iload hx hb dX2_goOnDoors_95 (lv_at hl 7 rfl) ?_
      refine sg_callVr (As := [.int w6, .int x7]) X I mk_X2_49 (by omega) (by decide) shC_302 rfl (fun q9 e9 => c_X5_reaches e9) h hl.1 rfl rfl (Nat.le_of_ble_eq_true rfl) dX2_goOnDoors_97 (fun v2 H locs h I => ?_)
      refine lv_if_eq (tgt := 145) hx hb dX2_goOnDoors_100 (by decide) (fun z => ?_) (fun z => ?_)
      · have h := sg_ift h z
        refine lv_iinc (v := x7 + 1) (lv' := [(7, .int (x7 + 1)), (0, .ref (sgA P 330)), (1, .int p1), (2, .int p2), (3, .int p3), (4, .int p4), (5, .int p5), (6, .int w6)]) hx hb dX2_goOnDoors_145 hl (k := 7) rfl rfl (by decide) rfl (fun ls hl => ?_)
        refine lv_goto (tgt := 68) hx hb dX2_goOnDoors_148 (by decide) ?_
        obtain rfl := Option.some.inj h
        exact sg_go hk I (lv_sub hl [1, 2, 3, 4, 5, 6, 7, 0] rfl)
      · have h := sg_iff h z
        refine lv_aload_n hx hb dX2_goOnDoors_103 rfl (lv_at hl 0 rfl) ?_
        refine lv_iload_n hx hb dX2_goOnDoors_104 rfl (lv_at hl 1 rfl) ?_
        refine lv_iconst (v := 1) hx hb dX2_goOnDoors_105 (by decide) ?_
        refine lv_iadd hx hb dX2_goOnDoors_106 ?_
        refine lv_iload_n hx hb dX2_goOnDoors_107 rfl (lv_at hl 2 rfl) ?_
        refine lv_iconst (v := 1) hx hb dX2_goOnDoors_108 (by decide) ?_
        refine lv_iload hx hb dX2_goOnDoors_109 (lv_at hl 7 rfl) ?_
        refine lv_ishl hx hb dX2_goOnDoors_111 ?_
        refine lv_iconst (v := -1) hx hb dX2_goOnDoors_112 (by decide) ?_
        refine lv_ixor hx hb dX2_goOnDoors_113 ?_
        refine lv_iand hx hb dX2_goOnDoors_114 ?_
        refine lv_iload_n hx hb dX2_goOnDoors_115 rfl (lv_at hl 3 rfl) ?_
        refine lv_iconst (v := 1) hx hb dX2_goOnDoors_116 (by decide) ?_
        refine lv_iadd hx hb dX2_goOnDoors_117 ?_
        refine lv_iload hx hb dX2_goOnDoors_118 (lv_at hl 4 rfl) ?_
        refine lv_aload_n hx hb dX2_goOnDoors_120 rfl (lv_at hl 0 rfl) ?_
        refine sg_getr X I fk_X2_19 (j := 302) (by decide) shC_330 rfl dX2_goOnDoors_121 ?_
        refine sg_getrN X I fn_X2_40 (j := 311) (by decide) shC_302 rfl dX2_goOnDoors_124 ?_
        refine lv_iload hx hb dX2_goOnDoors_127 (lv_at hl 6 rfl) ?_
        refine sg_aalda X I (by decide) shC_311 (r := fun k => 312 + k) (fun _ _ => rfl) h dX2_goOnDoors_129 (fun j4 hj4 h => ?_)
        refine lv_iload hx hb dX2_goOnDoors_130 (lv_at hl 7 rfl) ?_
        refine sg_iald X I (shC_311i hj4) (shC_311s hj4) h dX2_goOnDoors_132 (fun v5 h => ?_)
        refine lv_iadd hx hb dX2_goOnDoors_133 ?_
        refine lv_iload hx hb dX2_goOnDoors_134 (lv_at hl 5 rfl) ?_
        refine lv_bipush (v := 10) hx hb dX2_goOnDoors_136 (by decide) ?_
        refine lv_imul hx hb dX2_goOnDoors_138 ?_
        refine lv_iload hx hb dX2_goOnDoors_139 (lv_at hl 7 rfl) ?_
        refine lv_iadd hx hb dX2_goOnDoors_141 ?_
        refine sg_callVv (As := [.int (p1 + 1), .int (p2 &&& ((1 <<< (x7 &&& 31)) ^^^ ((-1)))), .int (p3 + 1), .int (p4 + v5), .int ((p5 * 10) + x7)]) X I mk_X2_56 (by omega) (by decide) shC_330 rfl (fun q9 e9 => hrec _ _ _ _ _ _ _ e9) h hl.1 rfl rfl (Nat.le_of_ble_eq_true rfl) dX2_goOnDoors_142 (fun v6 s7 H locs h I => ?_)
        refine lv_iinc (v := x7 + 1) (lv' := [(7, .int (x7 + 1)), (0, .ref (sgA P 330)), (1, .int p1), (2, .int p2), (3, .int p3), (4, .int p4), (5, .int p5), (6, .int w6)]) hx hb dX2_goOnDoors_145 hl (k := 7) rfl rfl (by decide) rfl (fun ls hl => ?_)
        refine lv_goto (tgt := 68) hx hb dX2_goOnDoors_148 (by decide) ?_
        obtain rfl := Option.some.inj h
        exact sg_go hk I (lv_sub hl [1, 2, 3, 4, 5, 6, 7, 0] rfl)
def f_X2_goOnDoors_b_B36 (N : Nat) (rec : Int32 → Int32 → Int32 → Int32 → Int32 → sgS → Option (Int32 × sgS)) (p1 : Int32) (p2 : Int32) (p3 : Int32) (p4 : Int32) (p5 : Int32) (σ : sgS) : Option (Int32 × sgS) :=
  sg_pf σ 330 4 p3 fun s11 =>
sg_pf s11 330 5 p4 fun s12 =>
sg_pf s12 330 6 p5 fun s13 =>
some (0, s13)
set_option maxHeartbeats 4000000 in
set_option maxRecDepth 100000 in
theorem b_X2_goOnDoors_b_B36 {p : Program} {l : Launch} {e : Env} {R : Room} {s : State} {m : MethodId} {args : Array Value} {below : List Frame} {meth : Method} {c : Code} {Q : State → Prop} {P : sgP} {A : Nat → Prop} {lv : Nat} {N : Nat} {rec : Int32 → Int32 → Int32 → Int32 → Int32 → sgS → Option (Int32 × sgS)} {p1 : Int32} {p2 : Int32} {p3 : Int32} {p4 : Int32} {p5 : Int32} {σ : sgS} (X : sg_C P A (lv + 1) p R s m args c cX2_goOnDoors 8 RX2) (hlv : 2 ≤ lv) (hrec : ∀ (p1 : Int32) (p2 : Int32) (p3 : Int32) (p4 : Int32) (p5 : Int32) (σ : sgS) (q : Int32 × sgS), rec p1 p2 p3 p4 p5 σ = some q → sg_Mv P shC 332 l yX2_goOnDoors cX2_goOnDoors 8 none lv [.ref (sgA P 330), .int p1, .int p2, .int p3, .int p4, .int p5] σ q) {H : Heap} {locs : List Loc} (I : sg_I P shC 332 A s.heap σ H locs) {ls : Array Slot} (hl : lv_has ls 8 [(0, .ref (sgA P 330)), (3, .int p3), (4, .int p4), (5, .int p5)]) {st : Int32 × sgS} (h : f_X2_goOnDoors_b_B36 N rec p1 p2 p3 p4 p5 σ = some st) (hk : sg_Rv p l e R s m args below meth c Q P shC 332 A cX2_goOnDoors st) : W p l e R s m args below meth c H locs 0 0 Q (F0 m 36 ls []) := by
  unfold f_X2_goOnDoors_b_B36 at h
  have hx := X.1.1
  have hb := X.1.2.1
  have hown := X.1.2.2.2.1
  have hts := X.1.2.2.2.2
  refine lv_aload_n hx hb dX2_goOnDoors_36 rfl (lv_at hl 0 rfl) ?_
  refine lv_iload_n hx hb dX2_goOnDoors_37 rfl (lv_at hl 1 rfl) ?_
  refine sg_puti X I fk_X2_53 wk_2_4 rfl rfl (by decide) shC_330 rfl h dX2_goOnDoors_38 (fun s11 H locs h I => ?_)
  refine lv_aload_n hx hb dX2_goOnDoors_41 rfl (lv_at hl 0 rfl) ?_
  refine lv_iload hx hb dX2_goOnDoors_42 (lv_at hl 2 rfl) ?_
  refine sg_puti X I fk_X2_30 wk_2_5 rfl rfl (by decide) shC_330 rfl h dX2_goOnDoors_44 (fun s12 H locs h I => ?_)
  refine lv_aload_n hx hb dX2_goOnDoors_47 rfl (lv_at hl 0 rfl) ?_
  refine lv_iload hx hb dX2_goOnDoors_48 (lv_at hl 3 rfl) ?_
  refine sg_puti X I fk_X2_33 wk_2_6 rfl rfl (by decide) shC_330 rfl h dX2_goOnDoors_50 (fun s13 H locs h I => ?_)
  obtain rfl := Option.some.inj h
  exact hk _ _ _ _ I dX2_goOnDoors_53
def f_X2_goOnDoors_b (N : Nat) (rec : Int32 → Int32 → Int32 → Int32 → Int32 → sgS → Option (Int32 × sgS)) (p1 : Int32) (p2 : Int32) (p3 : Int32) (p4 : Int32) (p5 : Int32) (σ : sgS) : Option (Int32 × sgS) :=
  if p1 < (σ.1 3 5) then
  (sg_ld σ (37 + 1) 4 p1 fun v1 =>
  sg_lb (sg_lp (fun x => f_X2_goOnDoors_b_L68 N rec p1 p2 p3 p4 p5 v1 x.2 x.1) N ((σ, 0))) (fun r => some r) fun y8 =>
  sg_cl (rec (p1 + 1) p2 p3 p4 ((p5 * 10) + 9) y8) fun v9 s10 =>
  some (0, s10))
else
  (if (σ.1 330 4) < p3 then
    (f_X2_goOnDoors_b_B36 N rec p1 p2 p3 p4 p5 σ)
  else
    (if p3 = (σ.1 330 4) then
      (if (σ.1 330 5) ≤ p4 then
        (some (0, σ))
      else
        (f_X2_goOnDoors_b_B36 N rec p1 p2 p3 p4 p5 σ))
    else
      (some (0, σ))))
set_option maxHeartbeats 4000000 in
set_option maxRecDepth 100000 in
theorem b_X2_goOnDoors_b {p : Program} {l : Launch} {e : Env} {R : Room} {s : State} {m : MethodId} {args : Array Value} {below : List Frame} {meth : Method} {c : Code} {Q : State → Prop} {P : sgP} {A : Nat → Prop} {lv : Nat} {N : Nat} {rec : Int32 → Int32 → Int32 → Int32 → Int32 → sgS → Option (Int32 × sgS)} {p1 : Int32} {p2 : Int32} {p3 : Int32} {p4 : Int32} {p5 : Int32} {σ : sgS} (X : sg_C P A (lv + 1) p R s m args c cX2_goOnDoors 8 RX2) (hlv : 2 ≤ lv) (hrec : ∀ (p1 : Int32) (p2 : Int32) (p3 : Int32) (p4 : Int32) (p5 : Int32) (σ : sgS) (q : Int32 × sgS), rec p1 p2 p3 p4 p5 σ = some q → sg_Mv P shC 332 l yX2_goOnDoors cX2_goOnDoors 8 none lv [.ref (sgA P 330), .int p1, .int p2, .int p3, .int p4, .int p5] σ q) {H : Heap} {locs : List Loc} (I : sg_I P shC 332 A s.heap σ H locs) {ls : Array Slot} (hl : lv_has ls 8 [(0, .ref (sgA P 330)), (1, .int p1), (2, .int p2), (3, .int p3), (4, .int p4), (5, .int p5)]) {st : Int32 × sgS} (h : f_X2_goOnDoors_b N rec p1 p2 p3 p4 p5 σ = some st) (hk : sg_Rv p l e R s m args below meth c Q P shC 332 A cX2_goOnDoors st) : W p l e R s m args below meth c H locs 0 0 Q (F0 m 0 ls []) := by
  unfold f_X2_goOnDoors_b at h
  have hx := X.1.1
  have hb := X.1.2.1
  have hown := X.1.2.2.2.1
  have hts := X.1.2.2.2.2
  refine lv_iload_n hx hb dX2_goOnDoors_0 rfl (lv_at hl 1 rfl) ?_
  refine lv_aload_n hx hb dX2_goOnDoors_1 rfl (lv_at hl 0 rfl) ?_
  refine sg_getr X I fk_X2_9 (j := 3) (by decide) shC_330 rfl dX2_goOnDoors_2 ?_
  refine sg_getiN X I fn_X2_60 (by decide) shC_3 rfl dX2_goOnDoors_5 ?_
  refine lv_icmp_lt (tgt := 54) hx hb dX2_goOnDoors_8 (by decide) (fun z => ?_) (fun z => ?_)
  · have h := sg_ift h z
    refine lv_aload_n hx hb dX2_goOnDoors_54 rfl (lv_at hl 0 rfl) ?_
    refine sg_getr X I fk_X2_15 (j := 37) (by decide) shC_330 rfl dX2_goOnDoors_55 ?_
    refine sg_getrN X I fn_X2_63 (j := 37 + 1) (isSt_i0 isSt_37) (isSt_s0 isSt_37) rfl dX2_goOnDoors_58 ?_
    refine lv_iload_n hx hb dX2_goOnDoors_61 rfl (lv_at hl 1 rfl) ?_
    refine sg_iald X I (isSt_i1 isSt_37) (isSt_s1 isSt_37) h dX2_goOnDoors_62 (fun v1 h => ?_)
    refine lv_istore (lv' := [(6, .int v1), (0, .ref (sgA P 330)), (1, .int p1), (2, .int p2), (3, .int p3), (4, .int p4), (5, .int p5)]) hx hb dX2_goOnDoors_63 hl (by decide) rfl (fun ls hl => ?_)
    refine lv_iconst (v := 0) hx hb dX2_goOnDoors_65 (by decide) ?_
    refine lv_istore (lv' := [(7, .int 0), (6, .int v1), (0, .ref (sgA P 330)), (1, .int p1), (2, .int p2), (3, .int p3), (4, .int p4), (5, .int p5)]) hx hb dX2_goOnDoors_66 hl (by decide) rfl (fun ls hl => ?_)
    obtain ⟨res, e9, k9⟩ := sg_lb_some h
    refine sg_go (sg_lp_W (a := (sg_Rv p l e R s m args below meth c Q P shC 332 A cX2_goOnDoors)) (w := (fun x => sg_Wt p l e R s m args below meth c Q P shC 332 A 8 68 x.1 [(0, .ref (sgA P 330)), (1, .int p1), (2, .int p2), (3, .int p3), (4, .int p4), (5, .int p5), (6, .int v1), (7, .int x.2)])) (c := (fun y => sg_Wt p l e R s m args below meth c Q P shC 332 A 8 151 y [(0, .ref (sgA P 330)), (1, .int p1), (2, .int p2), (3, .int p3), (4, .int p4), (5, .int p5)])) (fun x st hb9 hk9 => ?_) N ((σ, 0)) res e9 (sg_k2_mono k9 (fun r h => ?_) (fun y8 h => ?_))) I (lv_sub hl [2, 3, 4, 5, 6, 7, 1, 0] rfl)
    · intro H locs ls I hl
      exact b_X2_goOnDoors_b_L68 X hlv hrec I hl hb9 hk9
    · obtain rfl := Option.some.inj h
      exact hk
    · intro H locs ls I hl
      refine lv_aload_n hx hb dX2_goOnDoors_151 rfl (lv_at hl 0 rfl) ?_
      refine lv_iload_n hx hb dX2_goOnDoors_152 rfl (lv_at hl 1 rfl) ?_
      refine lv_iconst (v := 1) hx hb dX2_goOnDoors_153 (by decide) ?_
      refine lv_iadd hx hb dX2_goOnDoors_154 ?_
      refine lv_iload_n hx hb dX2_goOnDoors_155 rfl (lv_at hl 2 rfl) ?_
      refine lv_iload_n hx hb dX2_goOnDoors_156 rfl (lv_at hl 3 rfl) ?_
      refine lv_iload hx hb dX2_goOnDoors_157 (lv_at hl 4 rfl) ?_
      refine lv_iload hx hb dX2_goOnDoors_159 (lv_at hl 5 rfl) ?_
      refine lv_bipush (v := 10) hx hb dX2_goOnDoors_161 (by decide) ?_
      refine lv_imul hx hb dX2_goOnDoors_163 ?_
      refine lv_bipush (v := 9) hx hb dX2_goOnDoors_164 (by decide) ?_
      refine lv_iadd hx hb dX2_goOnDoors_166 ?_
      refine sg_callVv (As := [.int (p1 + 1), .int p2, .int p3, .int p4, .int ((p5 * 10) + 9)]) X I mk_X2_56 (by omega) (by decide) shC_330 rfl (fun q9 e9 => hrec _ _ _ _ _ _ _ e9) h hl.1 rfl rfl (Nat.le_of_ble_eq_true rfl) dX2_goOnDoors_167 (fun v9 s10 H locs h I => ?_)
      obtain rfl := Option.some.inj h
      exact hk _ _ _ _ I dX2_goOnDoors_170
  · have h := sg_iff h z
    refine lv_iload_n hx hb dX2_goOnDoors_11 rfl (lv_at hl 3 rfl) ?_
    refine lv_aload_n hx hb dX2_goOnDoors_12 rfl (lv_at hl 0 rfl) ?_
    refine sg_geti X I fk_X2_53 (by decide) shC_330 rfl dX2_goOnDoors_13 ?_
    refine lv_icmp_gt (tgt := 36) hx hb dX2_goOnDoors_16 (by decide) (fun z => ?_) (fun z => ?_)
    · have h := sg_ift h z
      exact b_X2_goOnDoors_b_B36 X hlv hrec I (lv_sub hl [0, 3, 4, 5] rfl) h hk
    · have h := sg_iff h z
      refine lv_iload_n hx hb dX2_goOnDoors_19 rfl (lv_at hl 3 rfl) ?_
      refine lv_aload_n hx hb dX2_goOnDoors_20 rfl (lv_at hl 0 rfl) ?_
      refine sg_geti X I fk_X2_53 (by decide) shC_330 rfl dX2_goOnDoors_21 ?_
      refine lv_icmp_ne (tgt := 53) hx hb dX2_goOnDoors_24 (by decide) (fun z => ?_) (fun z => ?_)
      · have h := sg_iff h z
        obtain rfl := Option.some.inj h
        exact hk _ _ _ _ I dX2_goOnDoors_53
      · have h := sg_ift h z
        refine lv_iload hx hb dX2_goOnDoors_27 (lv_at hl 4 rfl) ?_
        refine lv_aload_n hx hb dX2_goOnDoors_29 rfl (lv_at hl 0 rfl) ?_
        refine sg_geti X I fk_X2_30 (by decide) shC_330 rfl dX2_goOnDoors_30 ?_
        refine lv_icmp_ge (tgt := 53) hx hb dX2_goOnDoors_33 (by decide) (fun z => ?_) (fun z => ?_)
        · have h := sg_ift h z
          obtain rfl := Option.some.inj h
          exact hk _ _ _ _ I dX2_goOnDoors_53
        · have h := sg_iff h z
          exact b_X2_goOnDoors_b_B36 X hlv hrec I (lv_sub hl [0, 3, 4, 5] rfl) h hk
set_option maxHeartbeats 4000000 in
set_option maxRecDepth 100000 in
theorem c_X2_goOnDoors_b {l : Launch} {P : sgP} {lv : Nat} {N : Nat} {rec : Int32 → Int32 → Int32 → Int32 → Int32 → sgS → Option (Int32 × sgS)} {p1 : Int32} {p2 : Int32} {p3 : Int32} {p4 : Int32} {p5 : Int32} {σ : sgS} (hlv : 2 ≤ lv) (hrec : ∀ (p1 : Int32) (p2 : Int32) (p3 : Int32) (p4 : Int32) (p5 : Int32) (σ : sgS) (q : Int32 × sgS), rec p1 p2 p3 p4 p5 σ = some q → sg_Mv P shC 332 l yX2_goOnDoors cX2_goOnDoors 8 none lv [.ref (sgA P 330), .int p1, .int p2, .int p3, .int p4, .int p5] σ q) {q : Int32 × sgS} (h : f_X2_goOnDoors_b N rec p1 p2 p3 p4 p5 σ = some q) : sg_Mv P shC 332 l yX2_goOnDoors cX2_goOnDoors 8 none (lv + 1) [.ref (sgA P 330), .int p1, .int p2, .int p3, .int p4, .int p5] σ q := by
  refine sg_mkv (plainFor_of_name (by decide +kernel)) (Nat.le_of_ble_eq_true rfl) ?_
  intro p e R s m args below meth c Q A ls H locs X I hl hk
  exact b_X2_goOnDoors_b X hlv hrec I hl h hk
def f_X2_goOnDoors : Nat → Nat → Int32 → Int32 → Int32 → Int32 → Int32 → sgS → Option (Int32 × sgS)
  | 0, _, _, _, _, _, _, _ => none
  | d + 1, N, p1, p2, p3, p4, p5, σ => f_X2_goOnDoors_b N (f_X2_goOnDoors d N) p1 p2 p3 p4 p5 σ
set_option maxHeartbeats 4000000 in
set_option maxRecDepth 100000 in
theorem cd_X2_goOnDoors {l : Launch} {P : sgP} {N : Nat} : ∀ (d : Nat) (p1 : Int32) (p2 : Int32) (p3 : Int32) (p4 : Int32) (p5 : Int32) (σ : sgS) (q : Int32 × sgS), f_X2_goOnDoors d N p1 p2 p3 p4 p5 σ = some q → sg_Mv P shC 332 l yX2_goOnDoors cX2_goOnDoors 8 none (2 + 1 * d) [.ref (sgA P 330), .int p1, .int p2, .int p3, .int p4, .int p5] σ q := by
  intro d
  induction d with
  | zero => intro p1 p2 p3 p4 p5 σ q h; cases h
  | succ d ih =>
    intro p1 p2 p3 p4 p5 σ q h
    have e : 2 + 1 * (d + 1) = 2 + 1 * d + 1 := by omega
    rw [e]
    exact c_X2_goOnDoors_b (by omega) ih h
set_option maxHeartbeats 4000000 in
set_option maxRecDepth 100000 in
theorem c_X2_goOnDoors {l : Launch} {P : sgP} {N : Nat} {p1 : Int32} {p2 : Int32} {p3 : Int32} {p4 : Int32} {p5 : Int32} {σ : sgS} {q : Int32 × sgS} (h : f_X2_goOnDoors 40 N p1 p2 p3 p4 p5 σ = some q) : sg_Mv P shC 332 l yX2_goOnDoors cX2_goOnDoors 8 none 42 [.ref (sgA P 330), .int p1, .int p2, .int p3, .int p4, .int p5] σ q := cd_X2_goOnDoors 40 p1 p2 p3 p4 p5 σ q h
def f_X2_findDoors (N : Nat) (p1 : Int32) (σ : sgS) : Option (Int32 × sgS) :=
  sg_pf σ 330 4 ((-1)) fun s1 =>
sg_pf s1 330 5 0 fun s2 =>
sg_pf s2 330 6 ((-1)) fun s3 =>
sg_cl (f_X2_goOnDoors 40 N 0 p1 0 0 0 s3) fun v4 s5 =>
some (0, s5)
set_option maxHeartbeats 4000000 in
set_option maxRecDepth 100000 in
theorem b_X2_findDoors {p : Program} {l : Launch} {e : Env} {R : Room} {s : State} {m : MethodId} {args : Array Value} {below : List Frame} {meth : Method} {c : Code} {Q : State → Prop} {P : sgP} {A : Nat → Prop} {N : Nat} {p1 : Int32} {σ : sgS} (X : sg_C P A 43 p R s m args c cX2_findDoors 2 RX2) {H : Heap} {locs : List Loc} (I : sg_I P shC 332 A s.heap σ H locs) {ls : Array Slot} (hl : lv_has ls 2 [(0, .ref (sgA P 330)), (1, .int p1)]) {st : Int32 × sgS} (h : f_X2_findDoors N p1 σ = some st) (hk : sg_Rv p l e R s m args below meth c Q P shC 332 A cX2_findDoors st) : W p l e R s m args below meth c H locs 0 0 Q (F0 m 0 ls []) := by
  unfold f_X2_findDoors at h
  have hx := X.1.1
  have hb := X.1.2.1
  have hown := X.1.2.2.2.1
  have hts := X.1.2.2.2.2
  refine lv_aload_n hx hb dX2_findDoors_0 rfl (lv_at hl 0 rfl) ?_
  refine lv_iconst (v := -1) hx hb dX2_findDoors_1 (by decide) ?_
  refine sg_puti X I fk_X2_53 wk_2_4 rfl rfl (by decide) shC_330 rfl h dX2_findDoors_2 (fun s1 H locs h I => ?_)
  refine lv_aload_n hx hb dX2_findDoors_5 rfl (lv_at hl 0 rfl) ?_
  refine lv_iconst (v := 0) hx hb dX2_findDoors_6 (by decide) ?_
  refine sg_puti X I fk_X2_30 wk_2_5 rfl rfl (by decide) shC_330 rfl h dX2_findDoors_7 (fun s2 H locs h I => ?_)
  refine lv_aload_n hx hb dX2_findDoors_10 rfl (lv_at hl 0 rfl) ?_
  refine lv_iconst (v := -1) hx hb dX2_findDoors_11 (by decide) ?_
  refine sg_puti X I fk_X2_33 wk_2_6 rfl rfl (by decide) shC_330 rfl h dX2_findDoors_12 (fun s3 H locs h I => ?_)
  refine lv_aload_n hx hb dX2_findDoors_15 rfl (lv_at hl 0 rfl) ?_
  refine lv_iconst (v := 0) hx hb dX2_findDoors_16 (by decide) ?_
  refine lv_iload_n hx hb dX2_findDoors_17 rfl (lv_at hl 1 rfl) ?_
  refine lv_iconst (v := 0) hx hb dX2_findDoors_18 (by decide) ?_
  refine lv_iconst (v := 0) hx hb dX2_findDoors_19 (by decide) ?_
  refine lv_iconst (v := 0) hx hb dX2_findDoors_20 (by decide) ?_
  refine sg_callVv (As := [.int 0, .int p1, .int 0, .int 0, .int 0]) X I mk_X2_56 (by decide) (by decide) shC_330 rfl (fun q9 e9 => c_X2_goOnDoors e9) h hl.1 rfl rfl (Nat.le_of_ble_eq_true rfl) dX2_findDoors_21 (fun v4 s5 H locs h I => ?_)
  obtain rfl := Option.some.inj h
  exact hk _ _ _ _ I dX2_findDoors_24
set_option maxHeartbeats 4000000 in
set_option maxRecDepth 100000 in
theorem c_X2_findDoors {l : Launch} {P : sgP} {N : Nat} {p1 : Int32} {σ : sgS} {q : Int32 × sgS} (h : f_X2_findDoors N p1 σ = some q) : sg_Mv P shC 332 l yX2_findDoors cX2_findDoors 2 none 43 [.ref (sgA P 330), .int p1] σ q := by
  refine sg_mkv (plainFor_of_name (by decide +kernel)) (Nat.le_of_ble_eq_true rfl) ?_
  intro p e R s m args below meth c Q A ls H locs X I hl hk
  exact b_X2_findDoors X I hl h hk
def f_X2_gain (N : Nat) (p1 : Int32) (p2 : Int32) (p3 : Int32) (σ : sgS) : Option (Int32) :=
  sg_ld σ (37 + 1) 4 p1 fun v1 =>
sg_cr (f_X0_hasPlace N 3 p2 σ) fun v2 =>
if v2 = 0 then
  (some ((-9)))
else
  (sg_cr (f_X5_reaches N v1 p2 σ) fun v3 =>
  if v3 = 0 then
    (some ((-9)))
  else
    (sg_ld σ 4 7 p2 fun v4 =>
    sg_rf 7 v1 fun j6 =>
    sg_ld σ (312 + j6) 7 p2 fun v7 =>
    if p3 = 0 then
      (some ((3 * v4) - v7))
    else
      (sg_nz 2 (
        some (((3 * v4) - v7) / 2)))))
set_option maxHeartbeats 4000000 in
set_option maxRecDepth 100000 in
theorem b_X2_gain {p : Program} {l : Launch} {e : Env} {R : Room} {s : State} {m : MethodId} {args : Array Value} {below : List Frame} {meth : Method} {c : Code} {Q : State → Prop} {P : sgP} {A : Nat → Prop} {N : Nat} {p1 : Int32} {p2 : Int32} {p3 : Int32} {σ : sgS} (X : sg_C P A 2 p R s m args c cX2_gain 6 RX2) {H : Heap} {locs : List Loc} (I : sg_I P shC 332 A s.heap σ H locs) {ls : Array Slot} (hl : lv_has ls 6 [(0, .ref (sgA P 330)), (1, .int p1), (2, .int p2), (3, .int p3)]) {st : Int32} (h : f_X2_gain N p1 p2 p3 σ = some st) (hk : sg_Ri p l e R s m args below meth c Q P shC 332 A cX2_gain (some .int) (st, σ)) : W p l e R s m args below meth c H locs 0 0 Q (F0 m 0 ls []) := by
  unfold f_X2_gain at h
  have hx := X.1.1
  have hb := X.1.2.1
  have hown := X.1.2.2.2.1
  have hts := X.1.2.2.2.2
  refine lv_aload_n hx hb dX2_gain_0 rfl (lv_at hl 0 rfl) ?_
  refine sg_getr X I fk_X2_15 (j := 37) (by decide) shC_330 rfl dX2_gain_1 ?_
  refine sg_getrN X I fn_X2_63 (j := 37 + 1) (isSt_i0 isSt_37) (isSt_s0 isSt_37) rfl dX2_gain_4 ?_
  refine lv_iload_n hx hb dX2_gain_7 rfl (lv_at hl 1 rfl) ?_
  refine sg_iald X I (isSt_i1 isSt_37) (isSt_s1 isSt_37) h dX2_gain_8 (fun v1 h => ?_)
  refine lv_istore (lv' := [(4, .int v1), (0, .ref (sgA P 330)), (1, .int p1), (2, .int p2), (3, .int p3)]) hx hb dX2_gain_9 hl (by decide) rfl (fun ls hl => ?_)
  refine lv_aload_n hx hb dX2_gain_11 rfl (lv_at hl 1 rfl) ?_
  refine sg_getr X I fk_X2_9 (j := 3) (by decide) shC_330 rfl dX2_gain_12 ?_
  refine lv_iload_n hx hb dX2_gain_15 rfl (lv_at hl 3 rfl) ?_
  refine sg_callVr (As := [.int p2]) X I mk_X2_69 (by decide) (by decide) shC_3 rfl (fun q9 e9 => c_X0_hasPlace isCo_3 e9) h hl.1 rfl rfl (Nat.le_of_ble_eq_true rfl) dX2_gain_16 (fun v2 H locs h I => ?_)
  refine lv_if_eq (tgt := 35) hx hb dX2_gain_19 (by decide) (fun z => ?_) (fun z => ?_)
  · have h := sg_ift h z
    refine lv_bipush (v := -9) hx hb dX2_gain_35 (by decide) ?_
    obtain rfl := Option.some.inj h
    exact hk _ _ _ _ _ I ⟨_, rfl, rfl⟩ dX2_gain_37
  · have h := sg_iff h z
    refine lv_aload_n hx hb dX2_gain_22 rfl (lv_at hl 1 rfl) ?_
    refine sg_getr X I fk_X2_19 (j := 302) (by decide) shC_330 rfl dX2_gain_23 ?_
    refine lv_iload hx hb dX2_gain_26 (lv_at hl 0 rfl) ?_
    refine lv_iload_n hx hb dX2_gain_28 rfl (lv_at hl 3 rfl) ?_
    refine sg_callVr (As := [.int v1, .int p2]) X I mk_X2_49 (by decide) (by decide) shC_302 rfl (fun q9 e9 => c_X5_reaches e9) h hl.1 rfl rfl (Nat.le_of_ble_eq_true rfl) dX2_gain_29 (fun v3 H locs h I => ?_)
    refine lv_if_ne (tgt := 38) hx hb dX2_gain_32 (by decide) (fun z => ?_) (fun z => ?_)
    · have h := sg_iff h z
      refine lv_iconst (v := 3) hx hb dX2_gain_38 (by decide) ?_
      refine lv_aload_n hx hb dX2_gain_39 rfl (lv_at hl 1 rfl) ?_
      refine sg_getr X I fk_X2_9 (j := 3) (by decide) shC_330 rfl dX2_gain_40 ?_
      refine sg_getrN X I fn_X2_73 (j := 4) (by decide) shC_3 rfl dX2_gain_43 ?_
      refine lv_iload_n hx hb dX2_gain_46 rfl (lv_at hl 3 rfl) ?_
      refine sg_iald X I (by decide) shC_4 h dX2_gain_47 (fun v4 h => ?_)
      refine lv_imul hx hb dX2_gain_48 ?_
      refine lv_aload_n hx hb dX2_gain_49 rfl (lv_at hl 1 rfl) ?_
      refine sg_getr X I fk_X2_19 (j := 302) (by decide) shC_330 rfl dX2_gain_50 ?_
      refine sg_getrN X I fn_X2_40 (j := 311) (by decide) shC_302 rfl dX2_gain_53 ?_
      refine lv_iload hx hb dX2_gain_56 (lv_at hl 0 rfl) ?_
      refine sg_aalda X I (by decide) shC_311 (r := fun k => 312 + k) (fun _ _ => rfl) h dX2_gain_58 (fun j6 hj6 h => ?_)
      refine lv_iload_n hx hb dX2_gain_59 rfl (lv_at hl 3 rfl) ?_
      refine sg_iald X I (shC_311i hj6) (shC_311s hj6) h dX2_gain_60 (fun v7 h => ?_)
      refine lv_isub hx hb dX2_gain_61 ?_
      refine lv_istore (lv' := [(5, .int ((3 * v4) - v7)), (4, .int v1), (0, .ref (sgA P 330)), (1, .int p1), (2, .int p2), (3, .int p3)]) hx hb dX2_gain_62 hl (by decide) rfl (fun ls hl => ?_)
      refine lv_iload_n hx hb dX2_gain_64 rfl (lv_at hl 5 rfl) ?_
      refine lv_if_eq (tgt := 75) hx hb dX2_gain_65 (by decide) (fun z => ?_) (fun z => ?_)
      · have h := sg_ift h z
        refine lv_iload hx hb dX2_gain_75 (lv_at hl 0 rfl) ?_
        obtain rfl := Option.some.inj h
        exact hk _ _ _ _ _ I ⟨_, rfl, rfl⟩ dX2_gain_77
      · have h := sg_iff h z
        refine lv_iload hx hb dX2_gain_68 (lv_at hl 0 rfl) ?_
        refine lv_iconst (v := 2) hx hb dX2_gain_70 (by decide) ?_
        refine sg_nzW (h := h) (fun z h => ?_)
        refine lv_idiv hx hb dX2_gain_71 z ?_
        refine lv_goto (tgt := 77) hx hb dX2_gain_72 (by decide) ?_
        obtain rfl := Option.some.inj h
        exact hk _ _ _ _ _ I ⟨_, rfl, rfl⟩ dX2_gain_77
    · have h := sg_ift h z
      refine lv_bipush (v := -9) hx hb dX2_gain_35 (by decide) ?_
      obtain rfl := Option.some.inj h
      exact hk _ _ _ _ _ I ⟨_, rfl, rfl⟩ dX2_gain_37
set_option maxHeartbeats 4000000 in
set_option maxRecDepth 100000 in
theorem c_X2_gain {l : Launch} {P : sgP} {N : Nat} {p1 : Int32} {p2 : Int32} {p3 : Int32} {σ : sgS} {q : Int32} (h : f_X2_gain N p1 p2 p3 σ = some q) : sg_Mi P shC 332 l yX2_gain cX2_gain 6 (some .int) 2 [.ref (sgA P 330), .int p1, .int p2, .int p3] σ (q, σ) := by
  refine sg_mki (plainFor_of_name (by decide +kernel)) (Nat.le_of_ble_eq_true rfl) ?_
  intro p e R s m args below meth c Q A ls H locs X I hl hk
  exact b_X2_gain X I hl h hk
def f_X2_isBestAgainst_L21 (N : Nat) (p1 : Int32) (p2 : Int32) (p3 : Int32) (w4 : Int32) (x5 : Int32) (σ : sgS) : Option ((Int32) ⊕ ((Int32) ⊕ (Unit))) :=
  if (σ.1 3 3) ≤ x5 then
  (some (.inr (.inr ())))
else
  (if x5 = p3 then
    (sg_cr (f_X2_gain N p1 x5 1 σ) fun v3 =>
    if v3 ≤ w4 then
      (some (.inr (.inl (x5 + 1))))
    else
      (some (.inl (vp_nar .boolean 0))))
  else
    (sg_cr (f_X2_gain N p1 x5 0 σ) fun v2 =>
    if v2 ≤ w4 then
      (some (.inr (.inl (x5 + 1))))
    else
      (some (.inl (vp_nar .boolean 0)))))
set_option maxHeartbeats 4000000 in
set_option maxRecDepth 100000 in
theorem b_X2_isBestAgainst_L21 {p : Program} {l : Launch} {e : Env} {R : Room} {s : State} {m : MethodId} {args : Array Value} {below : List Frame} {meth : Method} {c : Code} {Q : State → Prop} {P : sgP} {A : Nat → Prop} {N : Nat} {p1 : Int32} {p2 : Int32} {p3 : Int32} {w4 : Int32} {x5 : Int32} {σ : sgS} (X : sg_C P A 3 p R s m args c cX2_isBestAgainst 6 RX2) {H : Heap} {locs : List Loc} (I : sg_I P shC 332 A s.heap σ H locs) {ls : Array Slot} (hl : lv_has ls 6 [(0, .ref (sgA P 330)), (1, .int p1), (3, .int p3), (4, .int w4), (5, .int x5)]) {st : (Int32) ⊕ ((Int32) ⊕ (Unit))} (h : f_X2_isBestAgainst_L21 N p1 p2 p3 w4 x5 σ = some st) (hk : sg_k3 (fun r => sg_Ri p l e R s m args below meth c Q P shC 332 A cX2_isBestAgainst (some .boolean) (r, σ)) (fun x => sg_Wt p l e R s m args below meth c Q P shC 332 A 6 21 σ [(0, .ref (sgA P 330)), (1, .int p1), (3, .int p3), (4, .int w4), (5, .int x)]) (fun y => sg_Wt p l e R s m args below meth c Q P shC 332 A 6 64 σ []) st) : W p l e R s m args below meth c H locs 0 0 Q (F0 m 21 ls []) := by
  unfold f_X2_isBestAgainst_L21 at h
  have hx := X.1.1
  have hb := X.1.2.1
  have hown := X.1.2.2.2.1
  have hts := X.1.2.2.2.2
  refine lv_iload hx hb dX2_isBestAgainst_21 (lv_at hl 4 rfl) ?_
  refine lv_aload_n hx hb dX2_isBestAgainst_23 rfl (lv_at hl 0 rfl) ?_
  refine sg_getr X I fk_X2_9 (j := 3) (by decide) shC_330 rfl dX2_isBestAgainst_24 ?_
  refine sg_getiN X I fn_X2_44 (by decide) shC_3 rfl dX2_isBestAgainst_27 ?_
  refine lv_icmp_ge (tgt := 64) hx hb dX2_isBestAgainst_30 (by decide) (fun z => ?_) (fun z => ?_)
  · have h := sg_ift h z
    obtain rfl := Option.some.inj h
    exact sg_go hk I (lv_sub hl [] rfl)
  · have h := sg_iff h z
    refine lv_aload_n hx hb dX2_isBestAgainst_33 rfl (lv_at hl 0 rfl) ?_
    refine lv_iload_n hx hb dX2_isBestAgainst_34 rfl (lv_at hl 1 rfl) ?_
    refine lv_iload hx hb dX2_isBestAgainst_35 (lv_at hl 4 rfl) ?_
    refine lv_iload hx hb dX2_isBestAgainst_37 (lv_at hl 4 rfl) ?_
    refine lv_iload_n hx hb dX2_isBestAgainst_39 rfl (lv_at hl 2 rfl) ?_
    refine lv_icmp_ne (tgt := 47) hx hb dX2_isBestAgainst_40 (by decide) (fun z => ?_) (fun z => ?_)
    · have h := sg_iff h z
      refine lv_iconst (v := 0) hx hb dX2_isBestAgainst_47 (by decide) ?_
      refine sg_callVr (As := [.int p1, .int x5, .int 0]) X I mk_X2_84 (by decide) (by decide) shC_330 rfl (fun q9 e9 => c_X2_gain e9) h hl.1 rfl rfl (Nat.le_of_ble_eq_true rfl) dX2_isBestAgainst_48 (fun v2 H locs h I => ?_)
      refine lv_iload hx hb dX2_isBestAgainst_51 (lv_at hl 3 rfl) ?_
      refine lv_icmp_le (tgt := 58) hx hb dX2_isBestAgainst_53 (by decide) (fun z => ?_) (fun z => ?_)
      · have h := sg_ift h z
        refine lv_iinc (v := x5 + 1) (lv' := [(5, .int (x5 + 1)), (0, .ref (sgA P 330)), (1, .int p1), (3, .int p3), (4, .int w4)]) hx hb dX2_isBestAgainst_58 hl (k := 4) rfl rfl (by decide) rfl (fun ls hl => ?_)
        refine lv_goto (tgt := 21) hx hb dX2_isBestAgainst_61 (by decide) ?_
        obtain rfl := Option.some.inj h
        exact sg_go hk I (lv_sub hl [1, 2, 3, 4, 0] rfl)
      · have h := sg_iff h z
        refine lv_iconst (v := 0) hx hb dX2_isBestAgainst_56 (by decide) ?_
        obtain rfl := Option.some.inj h
        exact hk _ _ _ _ _ I ⟨_, rfl, rfl⟩ dX2_isBestAgainst_57
    · have h := sg_ift h z
      refine lv_iconst (v := 1) hx hb dX2_isBestAgainst_43 (by decide) ?_
      refine lv_goto (tgt := 48) hx hb dX2_isBestAgainst_44 (by decide) ?_
      refine sg_callVr (As := [.int p1, .int x5, .int 1]) X I mk_X2_84 (by decide) (by decide) shC_330 rfl (fun q9 e9 => c_X2_gain e9) h hl.1 rfl rfl (Nat.le_of_ble_eq_true rfl) dX2_isBestAgainst_48 (fun v3 H locs h I => ?_)
      refine lv_iload hx hb dX2_isBestAgainst_51 (lv_at hl 3 rfl) ?_
      refine lv_icmp_le (tgt := 58) hx hb dX2_isBestAgainst_53 (by decide) (fun z => ?_) (fun z => ?_)
      · have h := sg_ift h z
        refine lv_iinc (v := x5 + 1) (lv' := [(5, .int (x5 + 1)), (0, .ref (sgA P 330)), (1, .int p1), (3, .int p3), (4, .int w4)]) hx hb dX2_isBestAgainst_58 hl (k := 4) rfl rfl (by decide) rfl (fun ls hl => ?_)
        refine lv_goto (tgt := 21) hx hb dX2_isBestAgainst_61 (by decide) ?_
        obtain rfl := Option.some.inj h
        exact sg_go hk I (lv_sub hl [1, 2, 3, 4, 0] rfl)
      · have h := sg_iff h z
        refine lv_iconst (v := 0) hx hb dX2_isBestAgainst_56 (by decide) ?_
        obtain rfl := Option.some.inj h
        exact hk _ _ _ _ _ I ⟨_, rfl, rfl⟩ dX2_isBestAgainst_57
def f_X2_isBestAgainst_B13 (N : Nat) (p1 : Int32) (p2 : Int32) (p3 : Int32) (k1 : Int32) (k2 : Int32) (k3 : Int32) (σ : sgS) : Option (Int32) :=
  sg_cr (f_X2_gain N k1 k2 k3 σ) fun v1 =>
sg_lb (sg_lp (fun x => f_X2_isBestAgainst_L21 N p1 p2 p3 v1 x σ) N 0) (fun r => some r) fun y4 =>
some (vp_nar .boolean 1)
set_option maxHeartbeats 4000000 in
set_option maxRecDepth 100000 in
theorem b_X2_isBestAgainst_B13 {p : Program} {l : Launch} {e : Env} {R : Room} {s : State} {m : MethodId} {args : Array Value} {below : List Frame} {meth : Method} {c : Code} {Q : State → Prop} {P : sgP} {A : Nat → Prop} {N : Nat} {p1 : Int32} {p2 : Int32} {p3 : Int32} {k1 : Int32} {k2 : Int32} {k3 : Int32} {σ : sgS} (X : sg_C P A 3 p R s m args c cX2_isBestAgainst 6 RX2) {H : Heap} {locs : List Loc} (I : sg_I P shC 332 A s.heap σ H locs) {ls : Array Slot} (hl : lv_has ls 6 [(0, .ref (sgA P 330)), (1, .int p1), (3, .int p3)]) {st : Int32} (h : f_X2_isBestAgainst_B13 N p1 p2 p3 k1 k2 k3 σ = some st) (hk : sg_Ri p l e R s m args below meth c Q P shC 332 A cX2_isBestAgainst (some .boolean) (st, σ)) : W p l e R s m args below meth c H locs 0 0 Q (F0 m 13 ls [.int k3, .int k2, .int k1, .ref (sgA P 330)]) := by
  unfold f_X2_isBestAgainst_B13 at h
  have hx := X.1.1
  have hb := X.1.2.1
  have hown := X.1.2.2.2.1
  have hts := X.1.2.2.2.2
  refine sg_callVr (As := [.int k1, .int k2, .int k3]) X I mk_X2_84 (by decide) (by decide) shC_330 rfl (fun q9 e9 => c_X2_gain e9) h hl.1 rfl rfl (Nat.le_of_ble_eq_true rfl) dX2_isBestAgainst_13 (fun v1 H locs h I => ?_)
  refine lv_istore (lv' := [(4, .int v1), (0, .ref (sgA P 330)), (1, .int p1), (3, .int p3)]) hx hb dX2_isBestAgainst_16 hl (by decide) rfl (fun ls hl => ?_)
  refine lv_iconst (v := 0) hx hb dX2_isBestAgainst_18 (by decide) ?_
  refine lv_istore (lv' := [(5, .int 0), (4, .int v1), (0, .ref (sgA P 330)), (1, .int p1), (3, .int p3)]) hx hb dX2_isBestAgainst_19 hl (by decide) rfl (fun ls hl => ?_)
  obtain ⟨res, e9, k9⟩ := sg_lb_some h
  refine sg_go (sg_lp_W (a := (fun r => sg_Ri p l e R s m args below meth c Q P shC 332 A cX2_isBestAgainst (some .boolean) (r, σ))) (w := (fun x => sg_Wt p l e R s m args below meth c Q P shC 332 A 6 21 σ [(0, .ref (sgA P 330)), (1, .int p1), (3, .int p3), (4, .int v1), (5, .int x)])) (c := (fun y => sg_Wt p l e R s m args below meth c Q P shC 332 A 6 64 σ [])) (fun x st hb9 hk9 => ?_) N 0 res e9 (sg_k2_mono k9 (fun r h => ?_) (fun y4 h => ?_))) I (lv_sub hl [2, 3, 4, 1, 0] rfl)
  · intro H locs ls I hl
    exact b_X2_isBestAgainst_L21 X I hl hb9 hk9
  · obtain rfl := Option.some.inj h
    exact hk
  · intro H locs ls I hl
    refine lv_iconst (v := 1) hx hb dX2_isBestAgainst_64 (by decide) ?_
    obtain rfl := Option.some.inj h
    exact hk _ _ _ _ _ I ⟨_, rfl, rfl⟩ dX2_isBestAgainst_65
def f_X2_isBestAgainst (N : Nat) (p1 : Int32) (p2 : Int32) (p3 : Int32) (σ : sgS) : Option (Int32) :=
  if p2 = p3 then
  (f_X2_isBestAgainst_B13 N p1 p2 p3 p1 p2 1 σ)
else
  (f_X2_isBestAgainst_B13 N p1 p2 p3 p1 p2 0 σ)
set_option maxHeartbeats 4000000 in
set_option maxRecDepth 100000 in
theorem b_X2_isBestAgainst {p : Program} {l : Launch} {e : Env} {R : Room} {s : State} {m : MethodId} {args : Array Value} {below : List Frame} {meth : Method} {c : Code} {Q : State → Prop} {P : sgP} {A : Nat → Prop} {N : Nat} {p1 : Int32} {p2 : Int32} {p3 : Int32} {σ : sgS} (X : sg_C P A 3 p R s m args c cX2_isBestAgainst 6 RX2) {H : Heap} {locs : List Loc} (I : sg_I P shC 332 A s.heap σ H locs) {ls : Array Slot} (hl : lv_has ls 6 [(0, .ref (sgA P 330)), (1, .int p1), (2, .int p2), (3, .int p3)]) {st : Int32} (h : f_X2_isBestAgainst N p1 p2 p3 σ = some st) (hk : sg_Ri p l e R s m args below meth c Q P shC 332 A cX2_isBestAgainst (some .boolean) (st, σ)) : W p l e R s m args below meth c H locs 0 0 Q (F0 m 0 ls []) := by
  unfold f_X2_isBestAgainst at h
  have hx := X.1.1
  have hb := X.1.2.1
  have hown := X.1.2.2.2.1
  have hts := X.1.2.2.2.2
  refine lv_aload_n hx hb dX2_isBestAgainst_0 rfl (lv_at hl 0 rfl) ?_
  refine lv_iload_n hx hb dX2_isBestAgainst_1 rfl (lv_at hl 1 rfl) ?_
  refine lv_iload_n hx hb dX2_isBestAgainst_2 rfl (lv_at hl 2 rfl) ?_
  refine lv_iload_n hx hb dX2_isBestAgainst_3 rfl (lv_at hl 2 rfl) ?_
  refine lv_iload_n hx hb dX2_isBestAgainst_4 rfl (lv_at hl 3 rfl) ?_
  refine lv_icmp_ne (tgt := 12) hx hb dX2_isBestAgainst_5 (by decide) (fun z => ?_) (fun z => ?_)
  · have h := sg_iff h z
    refine lv_iconst (v := 0) hx hb dX2_isBestAgainst_12 (by decide) ?_
    exact b_X2_isBestAgainst_B13 X I (lv_sub hl [0, 1, 3] rfl) h hk
  · have h := sg_ift h z
    refine lv_iconst (v := 1) hx hb dX2_isBestAgainst_8 (by decide) ?_
    refine lv_goto (tgt := 13) hx hb dX2_isBestAgainst_9 (by decide) ?_
    exact b_X2_isBestAgainst_B13 X I (lv_sub hl [0, 1, 3] rfl) h hk
set_option maxHeartbeats 4000000 in
set_option maxRecDepth 100000 in
theorem c_X2_isBestAgainst {l : Launch} {P : sgP} {N : Nat} {p1 : Int32} {p2 : Int32} {p3 : Int32} {σ : sgS} {q : Int32} (h : f_X2_isBestAgainst N p1 p2 p3 σ = some q) : sg_Mi P shC 332 l yX2_isBestAgainst cX2_isBestAgainst 6 (some .boolean) 3 [.ref (sgA P 330), .int p1, .int p2, .int p3] σ (q, σ) := by
  refine sg_mki (plainFor_of_name (by decide +kernel)) (Nat.le_of_ble_eq_true rfl) ?_
  intro p e R s m args below meth c Q A ls H locs X I hl hk
  exact b_X2_isBestAgainst X I hl h hk
def f_X2_isRest (N : Nat) (p1 : Int32) (p2 : Int32) (p3 : Int32) (p4 : Int32) (σ : sgS) : Option (Int32) :=
  sg_cr (f_X2_isBestAgainst N p1 p3 p4 σ) fun v1 =>
if v1 = 0 then
  (some (vp_nar .boolean 0))
else
  (sg_cr (f_X2_isBestAgainst N p2 p4 p3 σ) fun v2 =>
  if v2 = 0 then
    (some (vp_nar .boolean 0))
  else
    (some (vp_nar .boolean 1)))
set_option maxHeartbeats 4000000 in
set_option maxRecDepth 100000 in
theorem b_X2_isRest {p : Program} {l : Launch} {e : Env} {R : Room} {s : State} {m : MethodId} {args : Array Value} {below : List Frame} {meth : Method} {c : Code} {Q : State → Prop} {P : sgP} {A : Nat → Prop} {N : Nat} {p1 : Int32} {p2 : Int32} {p3 : Int32} {p4 : Int32} {σ : sgS} (X : sg_C P A 4 p R s m args c cX2_isRest 5 RX2) {H : Heap} {locs : List Loc} (I : sg_I P shC 332 A s.heap σ H locs) {ls : Array Slot} (hl : lv_has ls 5 [(0, .ref (sgA P 330)), (1, .int p1), (2, .int p2), (3, .int p3), (4, .int p4)]) {st : Int32} (h : f_X2_isRest N p1 p2 p3 p4 σ = some st) (hk : sg_Ri p l e R s m args below meth c Q P shC 332 A cX2_isRest (some .boolean) (st, σ)) : W p l e R s m args below meth c H locs 0 0 Q (F0 m 0 ls []) := by
  unfold f_X2_isRest at h
  have hx := X.1.1
  have hb := X.1.2.1
  have hown := X.1.2.2.2.1
  have hts := X.1.2.2.2.2
  refine lv_aload_n hx hb dX2_isRest_0 rfl (lv_at hl 0 rfl) ?_
  refine lv_iload_n hx hb dX2_isRest_1 rfl (lv_at hl 1 rfl) ?_
  refine lv_iload_n hx hb dX2_isRest_2 rfl (lv_at hl 3 rfl) ?_
  refine lv_iload hx hb dX2_isRest_3 (lv_at hl 4 rfl) ?_
  refine sg_callVr (As := [.int p1, .int p3, .int p4]) X I mk_X2_80 (by decide) (by decide) shC_330 rfl (fun q9 e9 => c_X2_isBestAgainst e9) h hl.1 rfl rfl (Nat.le_of_ble_eq_true rfl) dX2_isRest_5 (fun v1 H locs h I => ?_)
  refine lv_if_eq (tgt := 26) hx hb dX2_isRest_8 (by decide) (fun z => ?_) (fun z => ?_)
  · have h := sg_ift h z
    refine lv_iconst (v := 0) hx hb dX2_isRest_26 (by decide) ?_
    obtain rfl := Option.some.inj h
    exact hk _ _ _ _ _ I ⟨_, rfl, rfl⟩ dX2_isRest_27
  · have h := sg_iff h z
    refine lv_aload_n hx hb dX2_isRest_11 rfl (lv_at hl 0 rfl) ?_
    refine lv_iload_n hx hb dX2_isRest_12 rfl (lv_at hl 2 rfl) ?_
    refine lv_iload hx hb dX2_isRest_13 (lv_at hl 4 rfl) ?_
    refine lv_iload_n hx hb dX2_isRest_15 rfl (lv_at hl 3 rfl) ?_
    refine sg_callVr (As := [.int p2, .int p4, .int p3]) X I mk_X2_80 (by decide) (by decide) shC_330 rfl (fun q9 e9 => c_X2_isBestAgainst e9) h hl.1 rfl rfl (Nat.le_of_ble_eq_true rfl) dX2_isRest_16 (fun v2 H locs h I => ?_)
    refine lv_if_eq (tgt := 26) hx hb dX2_isRest_19 (by decide) (fun z => ?_) (fun z => ?_)
    · have h := sg_ift h z
      refine lv_iconst (v := 0) hx hb dX2_isRest_26 (by decide) ?_
      obtain rfl := Option.some.inj h
      exact hk _ _ _ _ _ I ⟨_, rfl, rfl⟩ dX2_isRest_27
    · have h := sg_iff h z
      refine lv_iconst (v := 1) hx hb dX2_isRest_22 (by decide) ?_
      refine lv_goto (tgt := 27) hx hb dX2_isRest_23 (by decide) ?_
      obtain rfl := Option.some.inj h
      exact hk _ _ _ _ _ I ⟨_, rfl, rfl⟩ dX2_isRest_27
set_option maxHeartbeats 4000000 in
set_option maxRecDepth 100000 in
theorem c_X2_isRest {l : Launch} {P : sgP} {N : Nat} {p1 : Int32} {p2 : Int32} {p3 : Int32} {p4 : Int32} {σ : sgS} {q : Int32} (h : f_X2_isRest N p1 p2 p3 p4 σ = some q) : sg_Mi P shC 332 l yX2_isRest cX2_isRest 5 (some .boolean) 4 [.ref (sgA P 330), .int p1, .int p2, .int p3, .int p4] σ (q, σ) := by
  refine sg_mki (plainFor_of_name (by decide +kernel)) (Nat.le_of_ble_eq_true rfl) ?_
  intro p e R s m args below meth c Q A ls H locs X I hl hk
  exact b_X2_isRest X I hl h hk
def f_X2_howManyRests_L20 (N : Nat) (p1 : Int32) (p2 : Int32) (w4 : Int32) (x3 : Int32) (x5 : Int32) (σ : sgS) : Option ((Int32) ⊕ ((Int32 × Int32) ⊕ (Int32))) :=
  if (σ.1 3 3) ≤ x5 then
  (some (.inr (.inr x3)))
else
  (sg_cr (f_X2_isRest N p1 p2 w4 x5 σ) fun v1 =>
  if v1 = 0 then
    (some (.inr (.inl (x3 + 0, x5 + 1))))
  else
    (some (.inr (.inl (x3 + 1, x5 + 1)))))
set_option maxHeartbeats 4000000 in
set_option maxRecDepth 100000 in
theorem b_X2_howManyRests_L20 {p : Program} {l : Launch} {e : Env} {R : Room} {s : State} {m : MethodId} {args : Array Value} {below : List Frame} {meth : Method} {c : Code} {Q : State → Prop} {P : sgP} {A : Nat → Prop} {N : Nat} {p1 : Int32} {p2 : Int32} {w4 : Int32} {x3 : Int32} {x5 : Int32} {σ : sgS} (X : sg_C P A 5 p R s m args c cX2_howManyRests 6 RX2) {H : Heap} {locs : List Loc} (I : sg_I P shC 332 A s.heap σ H locs) {ls : Array Slot} (hl : lv_has ls 6 [(0, .ref (sgA P 330)), (1, .int p1), (2, .int p2), (3, .int x3), (4, .int w4), (5, .int x5)]) {st : (Int32) ⊕ ((Int32 × Int32) ⊕ (Int32))} (h : f_X2_howManyRests_L20 N p1 p2 w4 x3 x5 σ = some st) (hk : sg_k3 (fun r => sg_Ri p l e R s m args below meth c Q P shC 332 A cX2_howManyRests (some .int) (r, σ)) (fun x => sg_Wt p l e R s m args below meth c Q P shC 332 A 6 20 σ [(0, .ref (sgA P 330)), (1, .int p1), (2, .int p2), (3, .int x.1), (4, .int w4), (5, .int x.2)]) (fun y => sg_Wt p l e R s m args below meth c Q P shC 332 A 6 59 σ [(0, .ref (sgA P 330)), (1, .int p1), (2, .int p2), (3, .int y), (4, .int w4)]) st) : W p l e R s m args below meth c H locs 0 0 Q (F0 m 20 ls []) := by
  unfold f_X2_howManyRests_L20 at h
  have hx := X.1.1
  have hb := X.1.2.1
  have hown := X.1.2.2.2.1
  have hts := X.1.2.2.2.2
  refine lv_iload hx hb dX2_howManyRests_20 (lv_at hl 5 rfl) ?_
  refine lv_aload_n hx hb dX2_howManyRests_22 rfl (lv_at hl 0 rfl) ?_
  refine sg_getr X I fk_X2_9 (j := 3) (by decide) shC_330 rfl dX2_howManyRests_23 ?_
  refine sg_getiN X I fn_X2_44 (by decide) shC_3 rfl dX2_howManyRests_26 ?_
  refine lv_icmp_ge (tgt := 59) hx hb dX2_howManyRests_29 (by decide) (fun z => ?_) (fun z => ?_)
  · have h := sg_ift h z
    obtain rfl := Option.some.inj h
    exact sg_go hk I (lv_sub hl [0, 1, 2, 3, 4] rfl)
  · have h := sg_iff h z
    refine lv_iload_n hx hb dX2_howManyRests_32 rfl (lv_at hl 3 rfl) ?_
    refine lv_aload_n hx hb dX2_howManyRests_33 rfl (lv_at hl 0 rfl) ?_
    refine lv_iload_n hx hb dX2_howManyRests_34 rfl (lv_at hl 1 rfl) ?_
    refine lv_iload_n hx hb dX2_howManyRests_35 rfl (lv_at hl 2 rfl) ?_
    refine lv_iload hx hb dX2_howManyRests_36 (lv_at hl 4 rfl) ?_
    refine lv_iload hx hb dX2_howManyRests_38 (lv_at hl 5 rfl) ?_
    refine sg_callVr (As := [.int p1, .int p2, .int w4, .int x5]) X I mk_X2_76 (by decide) (by decide) shC_330 rfl (fun q9 e9 => c_X2_isRest e9) h hl.1 rfl rfl (Nat.le_of_ble_eq_true rfl) dX2_howManyRests_40 (fun v1 H locs h I => ?_)
    refine lv_if_eq (tgt := 50) hx hb dX2_howManyRests_43 (by decide) (fun z => ?_) (fun z => ?_)
    · have h := sg_ift h z
      refine lv_iconst (v := 0) hx hb dX2_howManyRests_50 (by decide) ?_
      refine lv_iadd hx hb dX2_howManyRests_51 ?_
      refine lv_istore_n (lv' := [(3, .int (x3 + 0)), (0, .ref (sgA P 330)), (1, .int p1), (2, .int p2), (4, .int w4), (5, .int x5)]) hx hb dX2_howManyRests_52 rfl hl (by decide) rfl (fun ls hl => ?_)
      refine lv_iinc (v := x5 + 1) (lv' := [(5, .int (x5 + 1)), (3, .int (x3 + 0)), (0, .ref (sgA P 330)), (1, .int p1), (2, .int p2), (4, .int w4)]) hx hb dX2_howManyRests_53 hl (k := 5) rfl rfl (by decide) rfl (fun ls hl => ?_)
      refine lv_goto (tgt := 20) hx hb dX2_howManyRests_56 (by decide) ?_
      obtain rfl := Option.some.inj h
      exact sg_go hk I (lv_sub hl [2, 3, 4, 1, 5, 0] rfl)
    · have h := sg_iff h z
      refine lv_iconst (v := 1) hx hb dX2_howManyRests_46 (by decide) ?_
      refine lv_goto (tgt := 51) hx hb dX2_howManyRests_47 (by decide) ?_
      refine lv_iadd hx hb dX2_howManyRests_51 ?_
      refine lv_istore_n (lv' := [(3, .int (x3 + 1)), (0, .ref (sgA P 330)), (1, .int p1), (2, .int p2), (4, .int w4), (5, .int x5)]) hx hb dX2_howManyRests_52 rfl hl (by decide) rfl (fun ls hl => ?_)
      refine lv_iinc (v := x5 + 1) (lv' := [(5, .int (x5 + 1)), (3, .int (x3 + 1)), (0, .ref (sgA P 330)), (1, .int p1), (2, .int p2), (4, .int w4)]) hx hb dX2_howManyRests_53 hl (k := 5) rfl rfl (by decide) rfl (fun ls hl => ?_)
      refine lv_goto (tgt := 20) hx hb dX2_howManyRests_56 (by decide) ?_
      obtain rfl := Option.some.inj h
      exact sg_go hk I (lv_sub hl [2, 3, 4, 1, 5, 0] rfl)
def f_X2_howManyRests_L5 (N : Nat) (p1 : Int32) (p2 : Int32) (x3 : Int32) (x4 : Int32) (σ : sgS) : Option ((Int32) ⊕ ((Int32 × Int32) ⊕ (Int32))) :=
  if (σ.1 3 3) ≤ x4 then
  (some (.inr (.inr x3)))
else
  (sg_lb (sg_lp (fun x => f_X2_howManyRests_L20 N p1 p2 x4 x.1 x.2 σ) N ((x3, 0))) (fun r => some (.inl r)) fun y2 =>
  some (.inr (.inl (y2, x4 + 1))))
set_option maxHeartbeats 4000000 in
set_option maxRecDepth 100000 in
theorem b_X2_howManyRests_L5 {p : Program} {l : Launch} {e : Env} {R : Room} {s : State} {m : MethodId} {args : Array Value} {below : List Frame} {meth : Method} {c : Code} {Q : State → Prop} {P : sgP} {A : Nat → Prop} {N : Nat} {p1 : Int32} {p2 : Int32} {x3 : Int32} {x4 : Int32} {σ : sgS} (X : sg_C P A 5 p R s m args c cX2_howManyRests 6 RX2) {H : Heap} {locs : List Loc} (I : sg_I P shC 332 A s.heap σ H locs) {ls : Array Slot} (hl : lv_has ls 6 [(0, .ref (sgA P 330)), (1, .int p1), (2, .int p2), (3, .int x3), (4, .int x4)]) {st : (Int32) ⊕ ((Int32 × Int32) ⊕ (Int32))} (h : f_X2_howManyRests_L5 N p1 p2 x3 x4 σ = some st) (hk : sg_k3 (fun r => sg_Ri p l e R s m args below meth c Q P shC 332 A cX2_howManyRests (some .int) (r, σ)) (fun x => sg_Wt p l e R s m args below meth c Q P shC 332 A 6 5 σ [(0, .ref (sgA P 330)), (1, .int p1), (2, .int p2), (3, .int x.1), (4, .int x.2)]) (fun y => sg_Wt p l e R s m args below meth c Q P shC 332 A 6 65 σ [(3, .int y)]) st) : W p l e R s m args below meth c H locs 0 0 Q (F0 m 5 ls []) := by
  unfold f_X2_howManyRests_L5 at h
  have hx := X.1.1
  have hb := X.1.2.1
  have hown := X.1.2.2.2.1
  have hts := X.1.2.2.2.2
  refine lv_iload hx hb dX2_howManyRests_5 (lv_at hl 4 rfl) ?_
  refine lv_aload_n hx hb dX2_howManyRests_7 rfl (lv_at hl 0 rfl) ?_
  refine sg_getr X I fk_X2_9 (j := 3) (by decide) shC_330 rfl dX2_howManyRests_8 ?_
  refine sg_getiN X I fn_X2_44 (by decide) shC_3 rfl dX2_howManyRests_11 ?_
  refine lv_icmp_ge (tgt := 65) hx hb dX2_howManyRests_14 (by decide) (fun z => ?_) (fun z => ?_)
  · have h := sg_ift h z
    obtain rfl := Option.some.inj h
    exact sg_go hk I (lv_sub hl [3] rfl)
  · have h := sg_iff h z
    refine lv_iconst (v := 0) hx hb dX2_howManyRests_17 (by decide) ?_
    refine lv_istore (lv' := [(5, .int 0), (0, .ref (sgA P 330)), (1, .int p1), (2, .int p2), (3, .int x3), (4, .int x4)]) hx hb dX2_howManyRests_18 hl (by decide) rfl (fun ls hl => ?_)
    obtain ⟨res, e9, k9⟩ := sg_lb_some h
    refine sg_go (sg_lp_W (a := (fun r => sg_Ri p l e R s m args below meth c Q P shC 332 A cX2_howManyRests (some .int) (r, σ))) (w := (fun x => sg_Wt p l e R s m args below meth c Q P shC 332 A 6 20 σ [(0, .ref (sgA P 330)), (1, .int p1), (2, .int p2), (3, .int x.1), (4, .int x4), (5, .int x.2)])) (c := (fun y => sg_Wt p l e R s m args below meth c Q P shC 332 A 6 59 σ [(0, .ref (sgA P 330)), (1, .int p1), (2, .int p2), (3, .int y), (4, .int x4)])) (fun x st hb9 hk9 => ?_) N ((x3, 0)) res e9 (sg_k2_mono k9 (fun r h => ?_) (fun y2 h => ?_))) I (lv_sub hl [1, 2, 3, 4, 5, 0] rfl)
    · intro H locs ls I hl
      exact b_X2_howManyRests_L20 X I hl hb9 hk9
    · obtain rfl := Option.some.inj h
      exact hk
    · intro H locs ls I hl
      refine lv_iinc (v := x4 + 1) (lv' := [(4, .int (x4 + 1)), (0, .ref (sgA P 330)), (1, .int p1), (2, .int p2), (3, .int y2)]) hx hb dX2_howManyRests_59 hl (k := 4) rfl rfl (by decide) rfl (fun ls hl => ?_)
      refine lv_goto (tgt := 5) hx hb dX2_howManyRests_62 (by decide) ?_
      obtain rfl := Option.some.inj h
      exact sg_go hk I (lv_sub hl [1, 2, 3, 4, 0] rfl)
def f_X2_howManyRests (N : Nat) (p1 : Int32) (p2 : Int32) (σ : sgS) : Option (Int32) :=
  sg_lb (sg_lp (fun x => f_X2_howManyRests_L5 N p1 p2 x.1 x.2 σ) N ((0, 0))) (fun r => some r) fun y3 =>
some y3
set_option maxHeartbeats 4000000 in
set_option maxRecDepth 100000 in
theorem b_X2_howManyRests {p : Program} {l : Launch} {e : Env} {R : Room} {s : State} {m : MethodId} {args : Array Value} {below : List Frame} {meth : Method} {c : Code} {Q : State → Prop} {P : sgP} {A : Nat → Prop} {N : Nat} {p1 : Int32} {p2 : Int32} {σ : sgS} (X : sg_C P A 5 p R s m args c cX2_howManyRests 6 RX2) {H : Heap} {locs : List Loc} (I : sg_I P shC 332 A s.heap σ H locs) {ls : Array Slot} (hl : lv_has ls 6 [(0, .ref (sgA P 330)), (1, .int p1), (2, .int p2)]) {st : Int32} (h : f_X2_howManyRests N p1 p2 σ = some st) (hk : sg_Ri p l e R s m args below meth c Q P shC 332 A cX2_howManyRests (some .int) (st, σ)) : W p l e R s m args below meth c H locs 0 0 Q (F0 m 0 ls []) := by
  unfold f_X2_howManyRests at h
  have hx := X.1.1
  have hb := X.1.2.1
  have hown := X.1.2.2.2.1
  have hts := X.1.2.2.2.2
  refine lv_iconst (v := 0) hx hb dX2_howManyRests_0 (by decide) ?_
  refine lv_istore_n (lv' := [(3, .int 0), (0, .ref (sgA P 330)), (1, .int p1), (2, .int p2)]) hx hb dX2_howManyRests_1 rfl hl (by decide) rfl (fun ls hl => ?_)
  refine lv_iconst (v := 0) hx hb dX2_howManyRests_2 (by decide) ?_
  refine lv_istore (lv' := [(4, .int 0), (3, .int 0), (0, .ref (sgA P 330)), (1, .int p1), (2, .int p2)]) hx hb dX2_howManyRests_3 hl (by decide) rfl (fun ls hl => ?_)
  obtain ⟨res, e9, k9⟩ := sg_lb_some h
  refine sg_go (sg_lp_W (a := (fun r => sg_Ri p l e R s m args below meth c Q P shC 332 A cX2_howManyRests (some .int) (r, σ))) (w := (fun x => sg_Wt p l e R s m args below meth c Q P shC 332 A 6 5 σ [(0, .ref (sgA P 330)), (1, .int p1), (2, .int p2), (3, .int x.1), (4, .int x.2)])) (c := (fun y => sg_Wt p l e R s m args below meth c Q P shC 332 A 6 65 σ [(3, .int y)])) (fun x st hb9 hk9 => ?_) N ((0, 0)) res e9 (sg_k2_mono k9 (fun r h => ?_) (fun y3 h => ?_))) I (lv_sub hl [2, 3, 4, 1, 0] rfl)
  · intro H locs ls I hl
    exact b_X2_howManyRests_L5 X I hl hb9 hk9
  · obtain rfl := Option.some.inj h
    exact hk
  · intro H locs ls I hl
    refine lv_iload_n hx hb dX2_howManyRests_65 rfl (lv_at hl 0 rfl) ?_
    obtain rfl := Option.some.inj h
    exact hk _ _ _ _ _ I ⟨_, rfl, rfl⟩ dX2_howManyRests_66
set_option maxHeartbeats 4000000 in
set_option maxRecDepth 100000 in
theorem c_X2_howManyRests {l : Launch} {P : sgP} {N : Nat} {p1 : Int32} {p2 : Int32} {σ : sgS} {q : Int32} (h : f_X2_howManyRests N p1 p2 σ = some q) : sg_Mi P shC 332 l yX2_howManyRests cX2_howManyRests 6 (some .int) 5 [.ref (sgA P 330), .int p1, .int p2] σ (q, σ) := by
  refine sg_mki (plainFor_of_name (by decide +kernel)) (Nat.le_of_ble_eq_true rfl) ?_
  intro p e R s m args below meth c Q A ls H locs X I hl hk
  exact b_X2_howManyRests X I hl h hk
def f_X2_restAt_L21 (N : Nat) (p1 : Int32) (p2 : Int32) (p3 : Int32) (w5 : Int32) (x4 : Int32) (x6 : Int32) (σ : sgS) : Option ((Int32) ⊕ ((Int32 × Int32) ⊕ (Int32))) :=
  if (σ.1 3 3) ≤ x6 then
  (some (.inr (.inr x4)))
else
  (sg_cr (f_X2_isRest N p1 p2 w5 x6 σ) fun v1 =>
  if v1 = 0 then
    (some (.inr (.inl (x4, x6 + 1))))
  else
    (if x4 = 0 then
      (some (.inl ((10 * w5) + x6)))
    else
      (some (.inr (.inl (x4 + (-1), x6 + 1))))))
set_option maxHeartbeats 4000000 in
set_option maxRecDepth 100000 in
theorem b_X2_restAt_L21 {p : Program} {l : Launch} {e : Env} {R : Room} {s : State} {m : MethodId} {args : Array Value} {below : List Frame} {meth : Method} {c : Code} {Q : State → Prop} {P : sgP} {A : Nat → Prop} {N : Nat} {p1 : Int32} {p2 : Int32} {p3 : Int32} {w5 : Int32} {x4 : Int32} {x6 : Int32} {σ : sgS} (X : sg_C P A 5 p R s m args c cX2_restAt 7 RX2) {H : Heap} {locs : List Loc} (I : sg_I P shC 332 A s.heap σ H locs) {ls : Array Slot} (hl : lv_has ls 7 [(0, .ref (sgA P 330)), (1, .int p1), (2, .int p2), (4, .int x4), (5, .int w5), (6, .int x6)]) {st : (Int32) ⊕ ((Int32 × Int32) ⊕ (Int32))} (h : f_X2_restAt_L21 N p1 p2 p3 w5 x4 x6 σ = some st) (hk : sg_k3 (fun r => sg_Ri p l e R s m args below meth c Q P shC 332 A cX2_restAt (some .int) (r, σ)) (fun x => sg_Wt p l e R s m args below meth c Q P shC 332 A 7 21 σ [(0, .ref (sgA P 330)), (1, .int p1), (2, .int p2), (4, .int x.1), (5, .int w5), (6, .int x.2)]) (fun y => sg_Wt p l e R s m args below meth c Q P shC 332 A 7 69 σ [(0, .ref (sgA P 330)), (1, .int p1), (2, .int p2), (4, .int y), (5, .int w5)]) st) : W p l e R s m args below meth c H locs 0 0 Q (F0 m 21 ls []) := by
  unfold f_X2_restAt_L21 at h
  have hx := X.1.1
  have hb := X.1.2.1
  have hown := X.1.2.2.2.1
  have hts := X.1.2.2.2.2
  refine lv_iload hx hb dX2_restAt_21 (lv_at hl 5 rfl) ?_
  refine lv_aload_n hx hb dX2_restAt_23 rfl (lv_at hl 0 rfl) ?_
  refine sg_getr X I fk_X2_9 (j := 3) (by decide) shC_330 rfl dX2_restAt_24 ?_
  refine sg_getiN X I fn_X2_44 (by decide) shC_3 rfl dX2_restAt_27 ?_
  refine lv_icmp_ge (tgt := 69) hx hb dX2_restAt_30 (by decide) (fun z => ?_) (fun z => ?_)
  · have h := sg_ift h z
    obtain rfl := Option.some.inj h
    exact sg_go hk I (lv_sub hl [0, 1, 2, 3, 4] rfl)
  · have h := sg_iff h z
    refine lv_aload_n hx hb dX2_restAt_33 rfl (lv_at hl 0 rfl) ?_
    refine lv_iload_n hx hb dX2_restAt_34 rfl (lv_at hl 1 rfl) ?_
    refine lv_iload_n hx hb dX2_restAt_35 rfl (lv_at hl 2 rfl) ?_
    refine lv_iload hx hb dX2_restAt_36 (lv_at hl 4 rfl) ?_
    refine lv_iload hx hb dX2_restAt_38 (lv_at hl 5 rfl) ?_
    refine sg_callVr (As := [.int p1, .int p2, .int w5, .int x6]) X I mk_X2_76 (by decide) (by decide) shC_330 rfl (fun q9 e9 => c_X2_isRest e9) h hl.1 rfl rfl (Nat.le_of_ble_eq_true rfl) dX2_restAt_40 (fun v1 H locs h I => ?_)
    refine lv_if_eq (tgt := 63) hx hb dX2_restAt_43 (by decide) (fun z => ?_) (fun z => ?_)
    · have h := sg_ift h z
      refine lv_iinc (v := x6 + 1) (lv' := [(6, .int (x6 + 1)), (0, .ref (sgA P 330)), (1, .int p1), (2, .int p2), (4, .int x4), (5, .int w5)]) hx hb dX2_restAt_63 hl (k := 5) rfl rfl (by decide) rfl (fun ls hl => ?_)
      refine lv_goto (tgt := 21) hx hb dX2_restAt_66 (by decide) ?_
      obtain rfl := Option.some.inj h
      exact sg_go hk I (lv_sub hl [1, 2, 3, 4, 5, 0] rfl)
    · have h := sg_iff h z
      refine lv_iload hx hb dX2_restAt_46 (lv_at hl 3 rfl) ?_
      refine lv_if_ne (tgt := 60) hx hb dX2_restAt_48 (by decide) (fun z => ?_) (fun z => ?_)
      · have h := sg_iff h z
        refine lv_iinc (v := x4 + (-1)) (lv' := [(4, .int (x4 + (-1))), (0, .ref (sgA P 330)), (1, .int p1), (2, .int p2), (5, .int w5), (6, .int x6)]) hx hb dX2_restAt_60 hl (k := 3) rfl rfl (by decide) rfl (fun ls hl => ?_)
        refine lv_iinc (v := x6 + 1) (lv' := [(6, .int (x6 + 1)), (4, .int (x4 + (-1))), (0, .ref (sgA P 330)), (1, .int p1), (2, .int p2), (5, .int w5)]) hx hb dX2_restAt_63 hl (k := 5) rfl rfl (by decide) rfl (fun ls hl => ?_)
        refine lv_goto (tgt := 21) hx hb dX2_restAt_66 (by decide) ?_
        obtain rfl := Option.some.inj h
        exact sg_go hk I (lv_sub hl [2, 3, 4, 1, 5, 0] rfl)
      · have h := sg_ift h z
        refine lv_bipush (v := 10) hx hb dX2_restAt_51 (by decide) ?_
        refine lv_iload hx hb dX2_restAt_53 (lv_at hl 4 rfl) ?_
        refine lv_imul hx hb dX2_restAt_55 ?_
        refine lv_iload hx hb dX2_restAt_56 (lv_at hl 5 rfl) ?_
        refine lv_iadd hx hb dX2_restAt_58 ?_
        obtain rfl := Option.some.inj h
        exact hk _ _ _ _ _ I ⟨_, rfl, rfl⟩ dX2_restAt_59
def f_X2_restAt_L6 (N : Nat) (p1 : Int32) (p2 : Int32) (p3 : Int32) (x4 : Int32) (x5 : Int32) (σ : sgS) : Option ((Int32) ⊕ ((Int32 × Int32) ⊕ (Unit))) :=
  if (σ.1 3 3) ≤ x5 then
  (some (.inr (.inr ())))
else
  (sg_lb (sg_lp (fun x => f_X2_restAt_L21 N p1 p2 p3 x5 x.1 x.2 σ) N ((x4, 0))) (fun r => some (.inl r)) fun y2 =>
  some (.inr (.inl (y2, x5 + 1))))
set_option maxHeartbeats 4000000 in
set_option maxRecDepth 100000 in
theorem b_X2_restAt_L6 {p : Program} {l : Launch} {e : Env} {R : Room} {s : State} {m : MethodId} {args : Array Value} {below : List Frame} {meth : Method} {c : Code} {Q : State → Prop} {P : sgP} {A : Nat → Prop} {N : Nat} {p1 : Int32} {p2 : Int32} {p3 : Int32} {x4 : Int32} {x5 : Int32} {σ : sgS} (X : sg_C P A 5 p R s m args c cX2_restAt 7 RX2) {H : Heap} {locs : List Loc} (I : sg_I P shC 332 A s.heap σ H locs) {ls : Array Slot} (hl : lv_has ls 7 [(0, .ref (sgA P 330)), (1, .int p1), (2, .int p2), (4, .int x4), (5, .int x5)]) {st : (Int32) ⊕ ((Int32 × Int32) ⊕ (Unit))} (h : f_X2_restAt_L6 N p1 p2 p3 x4 x5 σ = some st) (hk : sg_k3 (fun r => sg_Ri p l e R s m args below meth c Q P shC 332 A cX2_restAt (some .int) (r, σ)) (fun x => sg_Wt p l e R s m args below meth c Q P shC 332 A 7 6 σ [(0, .ref (sgA P 330)), (1, .int p1), (2, .int p2), (4, .int x.1), (5, .int x.2)]) (fun y => sg_Wt p l e R s m args below meth c Q P shC 332 A 7 75 σ []) st) : W p l e R s m args below meth c H locs 0 0 Q (F0 m 6 ls []) := by
  unfold f_X2_restAt_L6 at h
  have hx := X.1.1
  have hb := X.1.2.1
  have hown := X.1.2.2.2.1
  have hts := X.1.2.2.2.2
  refine lv_iload hx hb dX2_restAt_6 (lv_at hl 4 rfl) ?_
  refine lv_aload_n hx hb dX2_restAt_8 rfl (lv_at hl 0 rfl) ?_
  refine sg_getr X I fk_X2_9 (j := 3) (by decide) shC_330 rfl dX2_restAt_9 ?_
  refine sg_getiN X I fn_X2_44 (by decide) shC_3 rfl dX2_restAt_12 ?_
  refine lv_icmp_ge (tgt := 75) hx hb dX2_restAt_15 (by decide) (fun z => ?_) (fun z => ?_)
  · have h := sg_ift h z
    obtain rfl := Option.some.inj h
    exact sg_go hk I (lv_sub hl [] rfl)
  · have h := sg_iff h z
    refine lv_iconst (v := 0) hx hb dX2_restAt_18 (by decide) ?_
    refine lv_istore (lv' := [(6, .int 0), (0, .ref (sgA P 330)), (1, .int p1), (2, .int p2), (4, .int x4), (5, .int x5)]) hx hb dX2_restAt_19 hl (by decide) rfl (fun ls hl => ?_)
    obtain ⟨res, e9, k9⟩ := sg_lb_some h
    refine sg_go (sg_lp_W (a := (fun r => sg_Ri p l e R s m args below meth c Q P shC 332 A cX2_restAt (some .int) (r, σ))) (w := (fun x => sg_Wt p l e R s m args below meth c Q P shC 332 A 7 21 σ [(0, .ref (sgA P 330)), (1, .int p1), (2, .int p2), (4, .int x.1), (5, .int x5), (6, .int x.2)])) (c := (fun y => sg_Wt p l e R s m args below meth c Q P shC 332 A 7 69 σ [(0, .ref (sgA P 330)), (1, .int p1), (2, .int p2), (4, .int y), (5, .int x5)])) (fun x st hb9 hk9 => ?_) N ((x4, 0)) res e9 (sg_k2_mono k9 (fun r h => ?_) (fun y2 h => ?_))) I (lv_sub hl [1, 2, 3, 4, 5, 0] rfl)
    · intro H locs ls I hl
      exact b_X2_restAt_L21 X I hl hb9 hk9
    · obtain rfl := Option.some.inj h
      exact hk
    · intro H locs ls I hl
      refine lv_iinc (v := x5 + 1) (lv' := [(5, .int (x5 + 1)), (0, .ref (sgA P 330)), (1, .int p1), (2, .int p2), (4, .int y2)]) hx hb dX2_restAt_69 hl (k := 4) rfl rfl (by decide) rfl (fun ls hl => ?_)
      refine lv_goto (tgt := 6) hx hb dX2_restAt_72 (by decide) ?_
      obtain rfl := Option.some.inj h
      exact sg_go hk I (lv_sub hl [1, 2, 3, 4, 0] rfl)
def f_X2_restAt (N : Nat) (p1 : Int32) (p2 : Int32) (p3 : Int32) (σ : sgS) : Option (Int32) :=
  sg_lb (sg_lp (fun x => f_X2_restAt_L6 N p1 p2 p3 x.1 x.2 σ) N ((p3, 0))) (fun r => some r) fun y3 =>
some ((-1))
set_option maxHeartbeats 4000000 in
set_option maxRecDepth 100000 in
theorem b_X2_restAt {p : Program} {l : Launch} {e : Env} {R : Room} {s : State} {m : MethodId} {args : Array Value} {below : List Frame} {meth : Method} {c : Code} {Q : State → Prop} {P : sgP} {A : Nat → Prop} {N : Nat} {p1 : Int32} {p2 : Int32} {p3 : Int32} {σ : sgS} (X : sg_C P A 5 p R s m args c cX2_restAt 7 RX2) {H : Heap} {locs : List Loc} (I : sg_I P shC 332 A s.heap σ H locs) {ls : Array Slot} (hl : lv_has ls 7 [(0, .ref (sgA P 330)), (1, .int p1), (2, .int p2), (3, .int p3)]) {st : Int32} (h : f_X2_restAt N p1 p2 p3 σ = some st) (hk : sg_Ri p l e R s m args below meth c Q P shC 332 A cX2_restAt (some .int) (st, σ)) : W p l e R s m args below meth c H locs 0 0 Q (F0 m 0 ls []) := by
  unfold f_X2_restAt at h
  have hx := X.1.1
  have hb := X.1.2.1
  have hown := X.1.2.2.2.1
  have hts := X.1.2.2.2.2
  refine lv_iload_n hx hb dX2_restAt_0 rfl (lv_at hl 3 rfl) ?_
  refine lv_istore (lv' := [(4, .int p3), (0, .ref (sgA P 330)), (1, .int p1), (2, .int p2), (3, .int p3)]) hx hb dX2_restAt_1 hl (by decide) rfl (fun ls hl => ?_)
  refine lv_iconst (v := 0) hx hb dX2_restAt_3 (by decide) ?_
  refine lv_istore (lv' := [(5, .int 0), (4, .int p3), (0, .ref (sgA P 330)), (1, .int p1), (2, .int p2), (3, .int p3)]) hx hb dX2_restAt_4 hl (by decide) rfl (fun ls hl => ?_)
  obtain ⟨res, e9, k9⟩ := sg_lb_some h
  refine sg_go (sg_lp_W (a := (fun r => sg_Ri p l e R s m args below meth c Q P shC 332 A cX2_restAt (some .int) (r, σ))) (w := (fun x => sg_Wt p l e R s m args below meth c Q P shC 332 A 7 6 σ [(0, .ref (sgA P 330)), (1, .int p1), (2, .int p2), (4, .int x.1), (5, .int x.2)])) (c := (fun y => sg_Wt p l e R s m args below meth c Q P shC 332 A 7 75 σ [])) (fun x st hb9 hk9 => ?_) N ((p3, 0)) res e9 (sg_k2_mono k9 (fun r h => ?_) (fun y3 h => ?_))) I (lv_sub hl [2, 3, 4, 1, 0] rfl)
  · intro H locs ls I hl
    exact b_X2_restAt_L6 X I hl hb9 hk9
  · obtain rfl := Option.some.inj h
    exact hk
  · intro H locs ls I hl
    refine lv_iconst (v := -1) hx hb dX2_restAt_75 (by decide) ?_
    obtain rfl := Option.some.inj h
    exact hk _ _ _ _ _ I ⟨_, rfl, rfl⟩ dX2_restAt_76
set_option maxHeartbeats 4000000 in
set_option maxRecDepth 100000 in
theorem c_X2_restAt {l : Launch} {P : sgP} {N : Nat} {p1 : Int32} {p2 : Int32} {p3 : Int32} {σ : sgS} {q : Int32} (h : f_X2_restAt N p1 p2 p3 σ = some q) : sg_Mi P shC 332 l yX2_restAt cX2_restAt 7 (some .int) 5 [.ref (sgA P 330), .int p1, .int p2, .int p3] σ (q, σ) := by
  refine sg_mki (plainFor_of_name (by decide +kernel)) (Nat.le_of_ble_eq_true rfl) ?_
  intro p e R s m args below meth c Q A ls H locs X I hl hk
  exact b_X2_restAt X I hl h hk
def f_X3_emit (N : Nat) (p1 : Int32) (σ : sgS) : Option (Int32 × sgS) :=
  if (σ.1 19 2) < 240 then
  (sg_st σ 20 240 (σ.1 19 2) p1 fun s1 =>
  sg_pf s1 19 2 ((s1.1 19 2) + 1) fun s2 =>
  some (vp_nar .boolean 1, s2))
else
  (some (vp_nar .boolean 0, σ))
set_option maxHeartbeats 4000000 in
set_option maxRecDepth 100000 in
theorem b_X3_emit {p : Program} {l : Launch} {e : Env} {R : Room} {s : State} {m : MethodId} {args : Array Value} {below : List Frame} {meth : Method} {c : Code} {Q : State → Prop} {P : sgP} {A : Nat → Prop} {N : Nat} {p1 : Int32} {σ : sgS} (X : sg_C P A 1 p R s m args c cX3_emit 2 RX3) {H : Heap} {locs : List Loc} (I : sg_I P shC 332 A s.heap σ H locs) {ls : Array Slot} (hl : lv_has ls 2 [(0, .ref (sgA P 19)), (1, .int p1)]) {st : Int32 × sgS} (h : f_X3_emit N p1 σ = some st) (hk : sg_Ri p l e R s m args below meth c Q P shC 332 A cX3_emit (some .boolean) st) : W p l e R s m args below meth c H locs 0 0 Q (F0 m 0 ls []) := by
  unfold f_X3_emit at h
  have hx := X.1.1
  have hb := X.1.2.1
  have hown := X.1.2.2.2.1
  have hts := X.1.2.2.2.2
  refine lv_aload_n hx hb dX3_emit_0 rfl (lv_at hl 0 rfl) ?_
  refine sg_geti X I fk_X3_25 (by decide) shC_19 rfl dX3_emit_1 ?_
  refine lv_aload_n hx hb dX3_emit_4 rfl (lv_at hl 0 rfl) ?_
  refine sg_getr X I fk_X3_9 (j := 20) (by decide) shC_19 rfl dX3_emit_5 ?_
  refine sg_alen X I (v := 240) (by decide) shC_20 rfl dX3_emit_8 ?_
  refine lv_icmp_lt (tgt := 14) hx hb dX3_emit_9 (by decide) (fun z => ?_) (fun z => ?_)
  · have h := sg_ift h z
    refine lv_aload_n hx hb dX3_emit_14 rfl (lv_at hl 0 rfl) ?_
    refine sg_getr X I fk_X3_9 (j := 20) (by decide) shC_19 rfl dX3_emit_15 ?_
    refine lv_aload_n hx hb dX3_emit_18 rfl (lv_at hl 0 rfl) ?_
    refine sg_geti X I fk_X3_25 (by decide) shC_19 rfl dX3_emit_19 ?_
    refine lv_iload_n hx hb dX3_emit_22 rfl (lv_at hl 1 rfl) ?_
    refine sg_iast X I (by decide) shC_20 h dX3_emit_23 (fun s1 H locs h I => ?_)
    refine lv_aload_n hx hb dX3_emit_24 rfl (lv_at hl 0 rfl) ?_
    refine lv_dup hx hb dX3_emit_25 rfl ?_
    refine sg_geti X I fk_X3_25 (by decide) shC_19 rfl dX3_emit_26 ?_
    refine lv_iconst (v := 1) hx hb dX3_emit_29 (by decide) ?_
    refine lv_iadd hx hb dX3_emit_30 ?_
    refine sg_puti X I fk_X3_25 wk_3_2 rfl rfl (by decide) shC_19 rfl h dX3_emit_31 (fun s2 H locs h I => ?_)
    refine lv_iconst (v := 1) hx hb dX3_emit_34 (by decide) ?_
    obtain rfl := Option.some.inj h
    exact hk _ _ _ _ _ I ⟨_, rfl, rfl⟩ dX3_emit_35
  · have h := sg_iff h z
    refine lv_iconst (v := 0) hx hb dX3_emit_12 (by decide) ?_
    obtain rfl := Option.some.inj h
    exact hk _ _ _ _ _ I ⟨_, rfl, rfl⟩ dX3_emit_13
set_option maxHeartbeats 4000000 in
set_option maxRecDepth 100000 in
theorem c_X3_emit {l : Launch} {P : sgP} {N : Nat} {p1 : Int32} {σ : sgS} {q : Int32 × sgS} (h : f_X3_emit N p1 σ = some q) : sg_Mi P shC 332 l yX3_emit cX3_emit 2 (some .boolean) 1 [.ref (sgA P 19), .int p1] σ q := by
  refine sg_mki (plainFor_of_name (by decide +kernel)) (Nat.le_of_ble_eq_true rfl) ?_
  intro p e R s m args below meth c Q A ls H locs X I hl hk
  exact b_X3_emit X I hl h hk
def f_X3_goOnTruth_L2 (N : Nat) (rec : Int32 → sgS → Option (Int32 × sgS)) (p1 : Int32) (x2 : Int32) (σ : sgS) : Option ((Int32 × sgS) ⊕ ((sgS × Int32) ⊕ (sgS))) :=
  if 240 ≤ x2 then
  (some (.inr (.inr σ)))
else
  (sg_cl (f_X9_takes N 38 σ) fun v1 s2 =>
  if v1 = 0 then
    (some (.inr (.inr s2)))
  else
    (sg_cl (rec p1 s2) fun v3 s4 =>
    if v3 = 0 then
      (some (.inl (vp_nar .boolean 0, s4)))
    else
      (sg_cl (f_X3_emit N 20038 s4) fun v5 s6 =>
      if v5 = 0 then
        (some (.inl (vp_nar .boolean 0, s6)))
      else
        (some (.inr (.inl (s6, x2 + 1)))))))
set_option maxHeartbeats 4000000 in
set_option maxRecDepth 100000 in
theorem b_X3_goOnTruth_L2 {p : Program} {l : Launch} {e : Env} {R : Room} {s : State} {m : MethodId} {args : Array Value} {below : List Frame} {meth : Method} {c : Code} {Q : State → Prop} {P : sgP} {A : Nat → Prop} {lv : Nat} {N : Nat} {rec : Int32 → sgS → Option (Int32 × sgS)} {p1 : Int32} {x2 : Int32} {σ : sgS} (X : sg_C P A (lv + 1) p R s m args c cX3_goOnTruth 3 RX3) (hlv : 127 ≤ lv) (hrec : ∀ (p1 : Int32) (σ : sgS) (q : Int32 × sgS), rec p1 σ = some q → sg_Mi P shC 332 l yX3_readUnit cX3_readUnit 3 (some .boolean) lv [.ref (sgA P 19), .int p1] σ q) {H : Heap} {locs : List Loc} (I : sg_I P shC 332 A s.heap σ H locs) {ls : Array Slot} (hl : lv_has ls 3 [(0, .ref (sgA P 19)), (1, .int p1), (2, .int x2)]) {st : (Int32 × sgS) ⊕ ((sgS × Int32) ⊕ (sgS))} (h : f_X3_goOnTruth_L2 N rec p1 x2 σ = some st) (hk : sg_k3 (sg_Ri p l e R s m args below meth c Q P shC 332 A cX3_goOnTruth (some .boolean)) (fun x => sg_Wt p l e R s m args below meth c Q P shC 332 A 3 2 x.1 [(0, .ref (sgA P 19)), (1, .int p1), (2, .int x.2)]) (fun y => sg_Wt p l e R s m args below meth c Q P shC 332 A 3 47 y []) st) : W p l e R s m args below meth c H locs 0 0 Q (F0 m 2 ls []) := by
  unfold f_X3_goOnTruth_L2 at h
  have hx := X.1.1
  have hb := X.1.2.1
  have hown := X.1.2.2.2.1
  have hts := X.1.2.2.2.2
  refine lv_iload_n hx hb dX3_goOnTruth_2 rfl (lv_at hl 2 rfl) ?_
  refine lv_sipush (v := 240) hx hb dX3_goOnTruth_3 (by decide) ?_
  refine lv_icmp_ge (tgt := 47) hx hb dX3_goOnTruth_6 (by decide) (fun z => ?_) (fun z => ?_)
  · have h := sg_ift h z
    obtain rfl := Option.some.inj h
    exact sg_go hk I (lv_sub hl [] rfl)
  · have h := sg_iff h z
    refine lv_aload_n hx hb dX3_goOnTruth_9 rfl (lv_at hl 0 rfl) ?_
    refine sg_getr X I fk_X3_15 (j := 1) (by decide) shC_19 rfl dX3_goOnTruth_10 ?_
    refine lv_bipush (v := 38) hx hb dX3_goOnTruth_13 (by decide) ?_
    refine sg_callV (As := [.int 38]) X I mk_X3_36 (by omega) (by decide) shC_1 rfl (fun q9 e9 => c_X9_takes e9) h hl.1 rfl rfl (Nat.le_of_ble_eq_true rfl) dX3_goOnTruth_15 (fun v1 s2 H locs h I => ?_)
    refine lv_if_eq (tgt := 47) hx hb dX3_goOnTruth_18 (by decide) (fun z => ?_) (fun z => ?_)
    · have h := sg_ift h z
      obtain rfl := Option.some.inj h
      exact sg_go hk I (lv_sub hl [] rfl)
    · have h := sg_iff h z
      refine lv_aload_n hx hb dX3_goOnTruth_21 rfl (lv_at hl 0 rfl) ?_
      refine lv_iload_n hx hb dX3_goOnTruth_22 rfl (lv_at hl 1 rfl) ?_
      refine sg_callV (As := [.int p1]) X I mk_X3_63 (by omega) (by decide) shC_19 rfl (fun q9 e9 => hrec _ _ _ e9) h hl.1 rfl rfl (Nat.le_of_ble_eq_true rfl) dX3_goOnTruth_23 (fun v3 s4 H locs h I => ?_)
      refine lv_if_eq (tgt := 39) hx hb dX3_goOnTruth_26 (by decide) (fun z => ?_) (fun z => ?_)
      · have h := sg_ift h z
        refine lv_iconst (v := 0) hx hb dX3_goOnTruth_39 (by decide) ?_
        obtain rfl := Option.some.inj h
        exact hk _ _ _ _ _ I ⟨_, rfl, rfl⟩ dX3_goOnTruth_40
      · have h := sg_iff h z
        refine lv_aload_n hx hb dX3_goOnTruth_29 rfl (lv_at hl 0 rfl) ?_
        refine lv_sipush (v := 20038) hx hb dX3_goOnTruth_30 (by decide) ?_
        refine sg_callV (As := [.int 20038]) X I mk_X3_54 (by omega) (by decide) shC_19 rfl (fun q9 e9 => c_X3_emit e9) h hl.1 rfl rfl (Nat.le_of_ble_eq_true rfl) dX3_goOnTruth_33 (fun v5 s6 H locs h I => ?_)
        refine lv_if_ne (tgt := 41) hx hb dX3_goOnTruth_36 (by decide) (fun z => ?_) (fun z => ?_)
        · have h := sg_iff h z
          refine lv_iinc (v := x2 + 1) (lv' := [(2, .int (x2 + 1)), (0, .ref (sgA P 19)), (1, .int p1)]) hx hb dX3_goOnTruth_41 hl (k := 2) rfl rfl (by decide) rfl (fun ls hl => ?_)
          refine lv_goto (tgt := 2) hx hb dX3_goOnTruth_44 (by decide) ?_
          obtain rfl := Option.some.inj h
          exact sg_go hk I (lv_sub hl [1, 2, 0] rfl)
        · have h := sg_ift h z
          refine lv_iconst (v := 0) hx hb dX3_goOnTruth_39 (by decide) ?_
          obtain rfl := Option.some.inj h
          exact hk _ _ _ _ _ I ⟨_, rfl, rfl⟩ dX3_goOnTruth_40
def f_X3_goOnTruth (N : Nat) (rec : Int32 → sgS → Option (Int32 × sgS)) (p1 : Int32) (σ : sgS) : Option (Int32 × sgS) :=
  sg_lb (sg_lp (fun x => f_X3_goOnTruth_L2 N rec p1 x.2 x.1) N ((σ, 0))) (fun r => some r) fun y7 =>
some (vp_nar .boolean 1, y7)
set_option maxHeartbeats 4000000 in
set_option maxRecDepth 100000 in
theorem b_X3_goOnTruth {p : Program} {l : Launch} {e : Env} {R : Room} {s : State} {m : MethodId} {args : Array Value} {below : List Frame} {meth : Method} {c : Code} {Q : State → Prop} {P : sgP} {A : Nat → Prop} {lv : Nat} {N : Nat} {rec : Int32 → sgS → Option (Int32 × sgS)} {p1 : Int32} {σ : sgS} (X : sg_C P A (lv + 1) p R s m args c cX3_goOnTruth 3 RX3) (hlv : 127 ≤ lv) (hrec : ∀ (p1 : Int32) (σ : sgS) (q : Int32 × sgS), rec p1 σ = some q → sg_Mi P shC 332 l yX3_readUnit cX3_readUnit 3 (some .boolean) lv [.ref (sgA P 19), .int p1] σ q) {H : Heap} {locs : List Loc} (I : sg_I P shC 332 A s.heap σ H locs) {ls : Array Slot} (hl : lv_has ls 3 [(0, .ref (sgA P 19)), (1, .int p1)]) {st : Int32 × sgS} (h : f_X3_goOnTruth N rec p1 σ = some st) (hk : sg_Ri p l e R s m args below meth c Q P shC 332 A cX3_goOnTruth (some .boolean) st) : W p l e R s m args below meth c H locs 0 0 Q (F0 m 0 ls []) := by
  unfold f_X3_goOnTruth at h
  have hx := X.1.1
  have hb := X.1.2.1
  have hown := X.1.2.2.2.1
  have hts := X.1.2.2.2.2
  refine lv_iconst (v := 0) hx hb dX3_goOnTruth_0 (by decide) ?_
  refine lv_istore_n (lv' := [(2, .int 0), (0, .ref (sgA P 19)), (1, .int p1)]) hx hb dX3_goOnTruth_1 rfl hl (by decide) rfl (fun ls hl => ?_)
  obtain ⟨res, e9, k9⟩ := sg_lb_some h
  refine sg_go (sg_lp_W (a := (sg_Ri p l e R s m args below meth c Q P shC 332 A cX3_goOnTruth (some .boolean))) (w := (fun x => sg_Wt p l e R s m args below meth c Q P shC 332 A 3 2 x.1 [(0, .ref (sgA P 19)), (1, .int p1), (2, .int x.2)])) (c := (fun y => sg_Wt p l e R s m args below meth c Q P shC 332 A 3 47 y [])) (fun x st hb9 hk9 => ?_) N ((σ, 0)) res e9 (sg_k2_mono k9 (fun r h => ?_) (fun y7 h => ?_))) I (lv_sub hl [1, 2, 0] rfl)
  · intro H locs ls I hl
    exact b_X3_goOnTruth_L2 X hlv hrec I hl hb9 hk9
  · obtain rfl := Option.some.inj h
    exact hk
  · intro H locs ls I hl
    refine lv_iconst (v := 1) hx hb dX3_goOnTruth_47 (by decide) ?_
    obtain rfl := Option.some.inj h
    exact hk _ _ _ _ _ I ⟨_, rfl, rfl⟩ dX3_goOnTruth_48
set_option maxHeartbeats 4000000 in
set_option maxRecDepth 100000 in
theorem c_X3_goOnTruth {l : Launch} {P : sgP} {lv : Nat} {N : Nat} {rec : Int32 → sgS → Option (Int32 × sgS)} {p1 : Int32} {σ : sgS} (hlv : 127 ≤ lv) (hrec : ∀ (p1 : Int32) (σ : sgS) (q : Int32 × sgS), rec p1 σ = some q → sg_Mi P shC 332 l yX3_readUnit cX3_readUnit 3 (some .boolean) lv [.ref (sgA P 19), .int p1] σ q) {q : Int32 × sgS} (h : f_X3_goOnTruth N rec p1 σ = some q) : sg_Mi P shC 332 l yX3_goOnTruth cX3_goOnTruth 3 (some .boolean) (lv + 1) [.ref (sgA P 19), .int p1] σ q := by
  refine sg_mki (plainFor_of_name (by decide +kernel)) (Nat.le_of_ble_eq_true rfl) ?_
  intro p e R s m args below meth c Q A ls H locs X I hl hk
  exact b_X3_goOnTruth X hlv hrec I hl h hk
def f_X3_goOnCondition_L12 (N : Nat) (rec : Int32 → sgS → Option (Int32 × sgS)) (p1 : Int32) (x2 : Int32) (σ : sgS) : Option ((Int32 × sgS) ⊕ ((sgS × Int32) ⊕ (sgS))) :=
  if 240 ≤ x2 then
  (some (.inr (.inr σ)))
else
  (sg_cl (f_X9_takes N 124 σ) fun v3 s4 =>
  if v3 = 0 then
    (some (.inr (.inr s4)))
  else
    (sg_cl (rec p1 s4) fun v5 s6 =>
    if v5 = 0 then
      (some (.inl (vp_nar .boolean 0, s6)))
    else
      (sg_cl (f_X3_goOnTruth N rec p1 s6) fun v7 s8 =>
      if v7 = 0 then
        (some (.inl (vp_nar .boolean 0, s8)))
      else
        (sg_cl (f_X3_emit N 20124 s8) fun v9 s10 =>
        if v9 = 0 then
          (some (.inl (vp_nar .boolean 0, s10)))
        else
          (some (.inr (.inl (s10, x2 + 1))))))))
set_option maxHeartbeats 4000000 in
set_option maxRecDepth 100000 in
theorem b_X3_goOnCondition_L12 {p : Program} {l : Launch} {e : Env} {R : Room} {s : State} {m : MethodId} {args : Array Value} {below : List Frame} {meth : Method} {c : Code} {Q : State → Prop} {P : sgP} {A : Nat → Prop} {lv : Nat} {N : Nat} {rec : Int32 → sgS → Option (Int32 × sgS)} {p1 : Int32} {x2 : Int32} {σ : sgS} (X : sg_C P A (lv + 2) p R s m args c cX3_goOnCondition 3 RX3) (hlv : 127 ≤ lv) (hrec : ∀ (p1 : Int32) (σ : sgS) (q : Int32 × sgS), rec p1 σ = some q → sg_Mi P shC 332 l yX3_readUnit cX3_readUnit 3 (some .boolean) lv [.ref (sgA P 19), .int p1] σ q) {H : Heap} {locs : List Loc} (I : sg_I P shC 332 A s.heap σ H locs) {ls : Array Slot} (hl : lv_has ls 3 [(0, .ref (sgA P 19)), (1, .int p1), (2, .int x2)]) {st : (Int32 × sgS) ⊕ ((sgS × Int32) ⊕ (sgS))} (h : f_X3_goOnCondition_L12 N rec p1 x2 σ = some st) (hk : sg_k3 (sg_Ri p l e R s m args below meth c Q P shC 332 A cX3_goOnCondition (some .boolean)) (fun x => sg_Wt p l e R s m args below meth c Q P shC 332 A 3 12 x.1 [(0, .ref (sgA P 19)), (1, .int p1), (2, .int x.2)]) (fun y => sg_Wt p l e R s m args below meth c Q P shC 332 A 3 65 y []) st) : W p l e R s m args below meth c H locs 0 0 Q (F0 m 12 ls []) := by
  unfold f_X3_goOnCondition_L12 at h
  have hx := X.1.1
  have hb := X.1.2.1
  have hown := X.1.2.2.2.1
  have hts := X.1.2.2.2.2
  refine lv_iload_n hx hb dX3_goOnCondition_12 rfl (lv_at hl 2 rfl) ?_
  refine lv_sipush (v := 240) hx hb dX3_goOnCondition_13 (by decide) ?_
  refine lv_icmp_ge (tgt := 65) hx hb dX3_goOnCondition_16 (by decide) (fun z => ?_) (fun z => ?_)
  · have h := sg_ift h z
    obtain rfl := Option.some.inj h
    exact sg_go hk I (lv_sub hl [] rfl)
  · have h := sg_iff h z
    refine lv_aload_n hx hb dX3_goOnCondition_19 rfl (lv_at hl 0 rfl) ?_
    refine sg_getr X I fk_X3_15 (j := 1) (by decide) shC_19 rfl dX3_goOnCondition_20 ?_
    refine lv_bipush (v := 124) hx hb dX3_goOnCondition_23 (by decide) ?_
    refine sg_callV (As := [.int 124]) X I mk_X3_36 (by omega) (by decide) shC_1 rfl (fun q9 e9 => c_X9_takes e9) h hl.1 rfl rfl (Nat.le_of_ble_eq_true rfl) dX3_goOnCondition_25 (fun v3 s4 H locs h I => ?_)
    refine lv_if_eq (tgt := 65) hx hb dX3_goOnCondition_28 (by decide) (fun z => ?_) (fun z => ?_)
    · have h := sg_ift h z
      obtain rfl := Option.some.inj h
      exact sg_go hk I (lv_sub hl [] rfl)
    · have h := sg_iff h z
      refine lv_aload_n hx hb dX3_goOnCondition_31 rfl (lv_at hl 0 rfl) ?_
      refine lv_iload_n hx hb dX3_goOnCondition_32 rfl (lv_at hl 1 rfl) ?_
      refine sg_callV (As := [.int p1]) X I mk_X3_63 (by omega) (by decide) shC_19 rfl (fun q9 e9 => hrec _ _ _ e9) h hl.1 rfl rfl (Nat.le_of_ble_eq_true rfl) dX3_goOnCondition_33 (fun v5 s6 H locs h I => ?_)
      refine lv_if_eq (tgt := 57) hx hb dX3_goOnCondition_36 (by decide) (fun z => ?_) (fun z => ?_)
      · have h := sg_ift h z
        refine lv_iconst (v := 0) hx hb dX3_goOnCondition_57 (by decide) ?_
        obtain rfl := Option.some.inj h
        exact hk _ _ _ _ _ I ⟨_, rfl, rfl⟩ dX3_goOnCondition_58
      · have h := sg_iff h z
        refine lv_aload_n hx hb dX3_goOnCondition_39 rfl (lv_at hl 0 rfl) ?_
        refine lv_iload_n hx hb dX3_goOnCondition_40 rfl (lv_at hl 1 rfl) ?_
        refine sg_callV (As := [.int p1]) X I mk_X3_66 (by omega) (by decide) shC_19 rfl (fun q9 e9 => c_X3_goOnTruth hlv hrec e9) h hl.1 rfl rfl (Nat.le_of_ble_eq_true rfl) dX3_goOnCondition_41 (fun v7 s8 H locs h I => ?_)
        refine lv_if_eq (tgt := 57) hx hb dX3_goOnCondition_44 (by decide) (fun z => ?_) (fun z => ?_)
        · have h := sg_ift h z
          refine lv_iconst (v := 0) hx hb dX3_goOnCondition_57 (by decide) ?_
          obtain rfl := Option.some.inj h
          exact hk _ _ _ _ _ I ⟨_, rfl, rfl⟩ dX3_goOnCondition_58
        · have h := sg_iff h z
          refine lv_aload_n hx hb dX3_goOnCondition_47 rfl (lv_at hl 0 rfl) ?_
          refine lv_sipush (v := 20124) hx hb dX3_goOnCondition_48 (by decide) ?_
          refine sg_callV (As := [.int 20124]) X I mk_X3_54 (by omega) (by decide) shC_19 rfl (fun q9 e9 => c_X3_emit e9) h hl.1 rfl rfl (Nat.le_of_ble_eq_true rfl) dX3_goOnCondition_51 (fun v9 s10 H locs h I => ?_)
          refine lv_if_ne (tgt := 59) hx hb dX3_goOnCondition_54 (by decide) (fun z => ?_) (fun z => ?_)
          · have h := sg_iff h z
            refine lv_iinc (v := x2 + 1) (lv' := [(2, .int (x2 + 1)), (0, .ref (sgA P 19)), (1, .int p1)]) hx hb dX3_goOnCondition_59 hl (k := 2) rfl rfl (by decide) rfl (fun ls hl => ?_)
            refine lv_goto (tgt := 12) hx hb dX3_goOnCondition_62 (by decide) ?_
            obtain rfl := Option.some.inj h
            exact sg_go hk I (lv_sub hl [1, 2, 0] rfl)
          · have h := sg_ift h z
            refine lv_iconst (v := 0) hx hb dX3_goOnCondition_57 (by decide) ?_
            obtain rfl := Option.some.inj h
            exact hk _ _ _ _ _ I ⟨_, rfl, rfl⟩ dX3_goOnCondition_58
def f_X3_goOnCondition (N : Nat) (rec : Int32 → sgS → Option (Int32 × sgS)) (p1 : Int32) (σ : sgS) : Option (Int32 × sgS) :=
  sg_cl (f_X3_goOnTruth N rec p1 σ) fun v1 s2 =>
if v1 = 0 then
  (some (vp_nar .boolean 0, s2))
else
  (sg_lb (sg_lp (fun x => f_X3_goOnCondition_L12 N rec p1 x.2 x.1) N ((s2, 0))) (fun r => some r) fun y11 =>
  some (vp_nar .boolean 1, y11))
set_option maxHeartbeats 4000000 in
set_option maxRecDepth 100000 in
theorem b_X3_goOnCondition {p : Program} {l : Launch} {e : Env} {R : Room} {s : State} {m : MethodId} {args : Array Value} {below : List Frame} {meth : Method} {c : Code} {Q : State → Prop} {P : sgP} {A : Nat → Prop} {lv : Nat} {N : Nat} {rec : Int32 → sgS → Option (Int32 × sgS)} {p1 : Int32} {σ : sgS} (X : sg_C P A (lv + 2) p R s m args c cX3_goOnCondition 3 RX3) (hlv : 127 ≤ lv) (hrec : ∀ (p1 : Int32) (σ : sgS) (q : Int32 × sgS), rec p1 σ = some q → sg_Mi P shC 332 l yX3_readUnit cX3_readUnit 3 (some .boolean) lv [.ref (sgA P 19), .int p1] σ q) {H : Heap} {locs : List Loc} (I : sg_I P shC 332 A s.heap σ H locs) {ls : Array Slot} (hl : lv_has ls 3 [(0, .ref (sgA P 19)), (1, .int p1)]) {st : Int32 × sgS} (h : f_X3_goOnCondition N rec p1 σ = some st) (hk : sg_Ri p l e R s m args below meth c Q P shC 332 A cX3_goOnCondition (some .boolean) st) : W p l e R s m args below meth c H locs 0 0 Q (F0 m 0 ls []) := by
  unfold f_X3_goOnCondition at h
  have hx := X.1.1
  have hb := X.1.2.1
  have hown := X.1.2.2.2.1
  have hts := X.1.2.2.2.2
  refine lv_aload_n hx hb dX3_goOnCondition_0 rfl (lv_at hl 0 rfl) ?_
  refine lv_iload_n hx hb dX3_goOnCondition_1 rfl (lv_at hl 1 rfl) ?_
  refine sg_callV (As := [.int p1]) X I mk_X3_66 (by omega) (by decide) shC_19 rfl (fun q9 e9 => c_X3_goOnTruth hlv hrec e9) h hl.1 rfl rfl (Nat.le_of_ble_eq_true rfl) dX3_goOnCondition_2 (fun v1 s2 H locs h I => ?_)
  refine lv_if_ne (tgt := 10) hx hb dX3_goOnCondition_5 (by decide) (fun z => ?_) (fun z => ?_)
  · have h := sg_iff h z
    refine lv_iconst (v := 0) hx hb dX3_goOnCondition_10 (by decide) ?_
    refine lv_istore_n (lv' := [(2, .int 0), (0, .ref (sgA P 19)), (1, .int p1)]) hx hb dX3_goOnCondition_11 rfl hl (by decide) rfl (fun ls hl => ?_)
    obtain ⟨res, e9, k9⟩ := sg_lb_some h
    refine sg_go (sg_lp_W (a := (sg_Ri p l e R s m args below meth c Q P shC 332 A cX3_goOnCondition (some .boolean))) (w := (fun x => sg_Wt p l e R s m args below meth c Q P shC 332 A 3 12 x.1 [(0, .ref (sgA P 19)), (1, .int p1), (2, .int x.2)])) (c := (fun y => sg_Wt p l e R s m args below meth c Q P shC 332 A 3 65 y [])) (fun x st hb9 hk9 => ?_) N ((s2, 0)) res e9 (sg_k2_mono k9 (fun r h => ?_) (fun y11 h => ?_))) I (lv_sub hl [1, 2, 0] rfl)
    · intro H locs ls I hl
      exact b_X3_goOnCondition_L12 X hlv hrec I hl hb9 hk9
    · obtain rfl := Option.some.inj h
      exact hk
    · intro H locs ls I hl
      refine lv_iconst (v := 1) hx hb dX3_goOnCondition_65 (by decide) ?_
      obtain rfl := Option.some.inj h
      exact hk _ _ _ _ _ I ⟨_, rfl, rfl⟩ dX3_goOnCondition_66
  · have h := sg_ift h z
    refine lv_iconst (v := 0) hx hb dX3_goOnCondition_8 (by decide) ?_
    obtain rfl := Option.some.inj h
    exact hk _ _ _ _ _ I ⟨_, rfl, rfl⟩ dX3_goOnCondition_9
set_option maxHeartbeats 4000000 in
set_option maxRecDepth 100000 in
theorem c_X3_goOnCondition {l : Launch} {P : sgP} {lv : Nat} {N : Nat} {rec : Int32 → sgS → Option (Int32 × sgS)} {p1 : Int32} {σ : sgS} (hlv : 127 ≤ lv) (hrec : ∀ (p1 : Int32) (σ : sgS) (q : Int32 × sgS), rec p1 σ = some q → sg_Mi P shC 332 l yX3_readUnit cX3_readUnit 3 (some .boolean) lv [.ref (sgA P 19), .int p1] σ q) {q : Int32 × sgS} (h : f_X3_goOnCondition N rec p1 σ = some q) : sg_Mi P shC 332 l yX3_goOnCondition cX3_goOnCondition 3 (some .boolean) (lv + 2) [.ref (sgA P 19), .int p1] σ q := by
  refine sg_mki (plainFor_of_name (by decide +kernel)) (Nat.le_of_ble_eq_true rfl) ?_
  intro p e R s m args below meth c Q A ls H locs X I hl hk
  exact b_X3_goOnCondition X hlv hrec I hl h hk
def f_X3_readCondition (N : Nat) (rec : Int32 → sgS → Option (Int32 × sgS)) (p1 : Int32) (σ : sgS) : Option (Int32 × sgS) :=
  sg_cl (rec p1 σ) fun v1 s2 =>
if v1 = 0 then
  (some (vp_nar .boolean 0, s2))
else
  (sg_cl (f_X3_goOnCondition N rec p1 s2) fun v3 s4 =>
  if v3 = 0 then
    (some (vp_nar .boolean 0, s4))
  else
    (some (vp_nar .boolean 1, s4)))
set_option maxHeartbeats 4000000 in
set_option maxRecDepth 100000 in
theorem b_X3_readCondition {p : Program} {l : Launch} {e : Env} {R : Room} {s : State} {m : MethodId} {args : Array Value} {below : List Frame} {meth : Method} {c : Code} {Q : State → Prop} {P : sgP} {A : Nat → Prop} {lv : Nat} {N : Nat} {rec : Int32 → sgS → Option (Int32 × sgS)} {p1 : Int32} {σ : sgS} (X : sg_C P A (lv + 3) p R s m args c cX3_readCondition 2 RX3) (hlv : 127 ≤ lv) (hrec : ∀ (p1 : Int32) (σ : sgS) (q : Int32 × sgS), rec p1 σ = some q → sg_Mi P shC 332 l yX3_readUnit cX3_readUnit 3 (some .boolean) lv [.ref (sgA P 19), .int p1] σ q) {H : Heap} {locs : List Loc} (I : sg_I P shC 332 A s.heap σ H locs) {ls : Array Slot} (hl : lv_has ls 2 [(0, .ref (sgA P 19)), (1, .int p1)]) {st : Int32 × sgS} (h : f_X3_readCondition N rec p1 σ = some st) (hk : sg_Ri p l e R s m args below meth c Q P shC 332 A cX3_readCondition (some .boolean) st) : W p l e R s m args below meth c H locs 0 0 Q (F0 m 0 ls []) := by
  unfold f_X3_readCondition at h
  have hx := X.1.1
  have hb := X.1.2.1
  have hown := X.1.2.2.2.1
  have hts := X.1.2.2.2.2
  refine lv_aload_n hx hb dX3_readCondition_0 rfl (lv_at hl 0 rfl) ?_
  refine lv_iload_n hx hb dX3_readCondition_1 rfl (lv_at hl 1 rfl) ?_
  refine sg_callV (As := [.int p1]) X I mk_X3_63 (by omega) (by decide) shC_19 rfl (fun q9 e9 => hrec _ _ _ e9) h hl.1 rfl rfl (Nat.le_of_ble_eq_true rfl) dX3_readCondition_2 (fun v1 s2 H locs h I => ?_)
  refine lv_if_eq (tgt := 20) hx hb dX3_readCondition_5 (by decide) (fun z => ?_) (fun z => ?_)
  · have h := sg_ift h z
    refine lv_iconst (v := 0) hx hb dX3_readCondition_20 (by decide) ?_
    obtain rfl := Option.some.inj h
    exact hk _ _ _ _ _ I ⟨_, rfl, rfl⟩ dX3_readCondition_21
  · have h := sg_iff h z
    refine lv_aload_n hx hb dX3_readCondition_8 rfl (lv_at hl 0 rfl) ?_
    refine lv_iload_n hx hb dX3_readCondition_9 rfl (lv_at hl 1 rfl) ?_
    refine sg_callV (As := [.int p1]) X I mk_X3_60 (by omega) (by decide) shC_19 rfl (fun q9 e9 => c_X3_goOnCondition hlv hrec e9) h hl.1 rfl rfl (Nat.le_of_ble_eq_true rfl) dX3_readCondition_10 (fun v3 s4 H locs h I => ?_)
    refine lv_if_eq (tgt := 20) hx hb dX3_readCondition_13 (by decide) (fun z => ?_) (fun z => ?_)
    · have h := sg_ift h z
      refine lv_iconst (v := 0) hx hb dX3_readCondition_20 (by decide) ?_
      obtain rfl := Option.some.inj h
      exact hk _ _ _ _ _ I ⟨_, rfl, rfl⟩ dX3_readCondition_21
    · have h := sg_iff h z
      refine lv_iconst (v := 1) hx hb dX3_readCondition_16 (by decide) ?_
      refine lv_goto (tgt := 21) hx hb dX3_readCondition_17 (by decide) ?_
      obtain rfl := Option.some.inj h
      exact hk _ _ _ _ _ I ⟨_, rfl, rfl⟩ dX3_readCondition_21
set_option maxHeartbeats 4000000 in
set_option maxRecDepth 100000 in
theorem c_X3_readCondition {l : Launch} {P : sgP} {lv : Nat} {N : Nat} {rec : Int32 → sgS → Option (Int32 × sgS)} {p1 : Int32} {σ : sgS} (hlv : 127 ≤ lv) (hrec : ∀ (p1 : Int32) (σ : sgS) (q : Int32 × sgS), rec p1 σ = some q → sg_Mi P shC 332 l yX3_readUnit cX3_readUnit 3 (some .boolean) lv [.ref (sgA P 19), .int p1] σ q) {q : Int32 × sgS} (h : f_X3_readCondition N rec p1 σ = some q) : sg_Mi P shC 332 l yX3_readCondition cX3_readCondition 2 (some .boolean) (lv + 3) [.ref (sgA P 19), .int p1] σ q := by
  refine sg_mki (plainFor_of_name (by decide +kernel)) (Nat.le_of_ble_eq_true rfl) ?_
  intro p e R s m args below meth c Q A ls H locs X I hl hk
  exact b_X3_readCondition X hlv hrec I hl h hk
