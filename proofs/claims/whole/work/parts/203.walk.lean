def f_X3_readAtom_B124 (N : Nat) (rec : Int32 → sgS → Option (Int32 × sgS)) (p1 : Int32) (k0 : Int32) (σ : sgS) : Option (Int32 × sgS) :=
  if 0 ≤ k0 then
  (sg_pf σ 1 2 ((σ.1 1 2) + 1) fun s5 =>
  sg_cl (f_X3_emit N (10000 + k0) s5) fun v6 s7 =>
  some (vp_nar .boolean v6, s7))
else
  (some (vp_nar .boolean 0, σ))
set_option maxHeartbeats 4000000 in
set_option maxRecDepth 100000 in
theorem b_X3_readAtom_B124 {p : Program} {l : Launch} {e : Env} {R : Room} {s : State} {m : MethodId} {args : Array Value} {below : List Frame} {meth : Method} {c : Code} {Q : State → Prop} {P : sgP} {A : Nat → Prop} {lv : Nat} {N : Nat} {rec : Int32 → sgS → Option (Int32 × sgS)} {p1 : Int32} {k0 : Int32} {σ : sgS} (X : sg_C P A (lv + 1) p R s m args c cX3_readAtom 4 RX3) (hlv : 5 ≤ lv) (hrec : ∀ (p1 : Int32) (σ : sgS) (q : Int32 × sgS), rec p1 σ = some q → sg_Mi P shC 332 l yX3_readSum cX3_readSum 4 (some .boolean) lv [.ref (sgA P 19), .int p1] σ q) {H : Heap} {locs : List Loc} (I : sg_I P shC 332 A s.heap σ H locs) {ls : Array Slot} (hl : lv_has ls 4 [(0, .ref (sgA P 19))]) {st : Int32 × sgS} (h : f_X3_readAtom_B124 N rec p1 k0 σ = some st) (hk : sg_Ri p l e R s m args below meth c Q P shC 332 A cX3_readAtom (some .boolean) st) : W p l e R s m args below meth c H locs 0 0 Q (F0 m 124 ls [.int k0]) := by
  unfold f_X3_readAtom_B124 at h
  have hx := X.1.1
  have hb := X.1.2.1
  have hown := X.1.2.2.2.1
  have hts := X.1.2.2.2.2
  refine lv_istore_n (lv' := [(3, .int k0), (0, .ref (sgA P 19))]) hx hb dX3_readAtom_124 rfl hl (by decide) rfl (fun ls hl => ?_)
  refine lv_iload_n hx hb dX3_readAtom_125 rfl (lv_at hl 0 rfl) ?_
  refine lv_if_ge (tgt := 131) hx hb dX3_readAtom_126 (by decide) (fun z => ?_) (fun z => ?_)
  · have h := sg_ift h z
    refine lv_aload_n hx hb dX3_readAtom_131 rfl (lv_at hl 1 rfl) ?_
    refine sg_getr X I fk_X3_15 (j := 1) (by decide) shC_19 rfl dX3_readAtom_132 ?_
    refine lv_dup hx hb dX3_readAtom_135 rfl ?_
    refine sg_getiN X I fn_X3_19 (by decide) shC_1 rfl dX3_readAtom_136 ?_
    refine lv_iconst (v := 1) hx hb dX3_readAtom_139 (by decide) ?_
    refine lv_iadd hx hb dX3_readAtom_140 ?_
    refine sg_putiN X I fn_X3_19 wk_9_2 rfl rfl (by decide) shC_1 rfl h dX3_readAtom_141 (fun s5 H locs h I => ?_)
    refine lv_aload_n hx hb dX3_readAtom_144 rfl (lv_at hl 1 rfl) ?_
    refine lv_sipush (v := 10000) hx hb dX3_readAtom_145 (by decide) ?_
    refine lv_iload_n hx hb dX3_readAtom_148 rfl (lv_at hl 0 rfl) ?_
    refine lv_iadd hx hb dX3_readAtom_149 ?_
    refine sg_callV (As := [.int (10000 + k0)]) X I mk_X3_54 (by omega) (by decide) shC_19 rfl (fun q9 e9 => c_X3_emit e9) h hl.1 rfl rfl (Nat.le_of_ble_eq_true rfl) dX3_readAtom_150 (fun v6 s7 H locs h I => ?_)
    obtain rfl := Option.some.inj h
    exact hk _ _ _ _ _ I ⟨_, rfl, rfl⟩ dX3_readAtom_153
  · have h := sg_iff h z
    refine lv_iconst (v := 0) hx hb dX3_readAtom_129 (by decide) ?_
    obtain rfl := Option.some.inj h
    exact hk _ _ _ _ _ I ⟨_, rfl, rfl⟩ dX3_readAtom_130
def f_X3_readAtom (N : Nat) (rec : Int32 → sgS → Option (Int32 × sgS)) (p1 : Int32) (σ : sgS) : Option (Int32 × sgS) :=
  sg_cl (f_X9_sign N σ) fun v1 s2 =>
sg_cr (f_X9_isDigit N v1 s2) fun v3 =>
if v3 = 0 then
  (if v1 = 91 then
    (if p1 < 6 then
      (sg_pf s2 1 2 ((s2.1 1 2) + 1) fun s8 =>
      sg_cl (rec (p1 + 1) s8) fun v9 s10 =>
      if v9 = 0 then
        (some (vp_nar .boolean 0, s10))
      else
        (sg_cl (f_X9_sign N s10) fun v11 s12 =>
        if v11 = 93 then
          (sg_pf s12 1 2 ((s12.1 1 2) + 1) fun s13 =>
          some (vp_nar .boolean 1, s13))
        else
          (some (vp_nar .boolean 0, s12))))
    else
      (some (vp_nar .boolean 0, s2)))
  else
    (if 0 ≤ v1 then
      (sg_cr (f_J0_indexOf_0f7a4 N 2 ((v1.toUInt32 % 65536).toInt32) s2) fun v4 =>
      f_X3_readAtom_B124 N rec p1 v4 s2)
    else
      (f_X3_readAtom_B124 N rec p1 ((-1)) s2)))
else
  (sg_cl (f_X9_number N 4 s2) fun v14 s15 =>
  if v14 = ((-1)) then
    (some (vp_nar .boolean 0, s15))
  else
    (sg_cl (f_X3_emit N v14 s15) fun v16 s17 =>
    if v16 = 0 then
      (some (vp_nar .boolean 0, s17))
    else
      (some (vp_nar .boolean 1, s17))))
set_option maxHeartbeats 4000000 in
set_option maxRecDepth 100000 in
theorem b_X3_readAtom {p : Program} {l : Launch} {e : Env} {R : Room} {s : State} {m : MethodId} {args : Array Value} {below : List Frame} {meth : Method} {c : Code} {Q : State → Prop} {P : sgP} {A : Nat → Prop} {lv : Nat} {N : Nat} {rec : Int32 → sgS → Option (Int32 × sgS)} {p1 : Int32} {σ : sgS} (X : sg_C P A (lv + 1) p R s m args c cX3_readAtom 4 RX3) (hlv : 5 ≤ lv) (hrec : ∀ (p1 : Int32) (σ : sgS) (q : Int32 × sgS), rec p1 σ = some q → sg_Mi P shC 332 l yX3_readSum cX3_readSum 4 (some .boolean) lv [.ref (sgA P 19), .int p1] σ q) {H : Heap} {locs : List Loc} (I : sg_I P shC 332 A s.heap σ H locs) {ls : Array Slot} (hl : lv_has ls 4 [(0, .ref (sgA P 19)), (1, .int p1)]) {st : Int32 × sgS} (h : f_X3_readAtom N rec p1 σ = some st) (hk : sg_Ri p l e R s m args below meth c Q P shC 332 A cX3_readAtom (some .boolean) st) : W p l e R s m args below meth c H locs 0 0 Q (F0 m 0 ls []) := by
  unfold f_X3_readAtom at h
  have hx := X.1.1
  have hb := X.1.2.1
  have hown := X.1.2.2.2.1
  have hts := X.1.2.2.2.2
  refine lv_aload_n hx hb dX3_readAtom_0 rfl (lv_at hl 0 rfl) ?_
  refine sg_getr X I fk_X3_15 (j := 1) (by decide) shC_19 rfl dX3_readAtom_1 ?_
  refine sg_callV (As := []) X I mk_X3_32 (by omega) (by decide) shC_1 rfl (fun q9 e9 => c_X9_sign e9) h hl.1 rfl rfl (Nat.le_of_ble_eq_true rfl) dX3_readAtom_4 (fun v1 s2 H locs h I => ?_)
  refine lv_istore_n (lv' := [(2, .int v1), (0, .ref (sgA P 19)), (1, .int p1)]) hx hb dX3_readAtom_7 rfl hl (by decide) rfl (fun ls hl => ?_)
  refine lv_iload_n hx hb dX3_readAtom_8 rfl (lv_at hl 0 rfl) ?_
  refine sg_callSr (As := [.int v1]) X I mk_X3_75 (by omega) (fun q9 e9 => c_X9_isDigit e9) h hl.1 rfl rfl (Nat.le_of_ble_eq_true rfl) dX3_readAtom_9 (fun v3 H locs h I => ?_)
  refine lv_if_eq (tgt := 43) hx hb dX3_readAtom_12 (by decide) (fun z => ?_) (fun z => ?_)
  · have h := sg_ift h z
    refine lv_iload_n hx hb dX3_readAtom_43 rfl (lv_at hl 0 rfl) ?_
    refine lv_bipush (v := 91) hx hb dX3_readAtom_44 (by decide) ?_
    refine lv_icmp_ne (tgt := 109) hx hb dX3_readAtom_46 (by decide) (fun z => ?_) (fun z => ?_)
    · have h := sg_iff h z
      refine lv_iload_n hx hb dX3_readAtom_109 rfl (lv_at hl 0 rfl) ?_
      refine lv_if_ge (tgt := 117) hx hb dX3_readAtom_110 (by decide) (fun z => ?_) (fun z => ?_)
      · have h := sg_ift h z
        refine sg_ldcs (i := 2) X X.2.2.2.2.1.2.2.1.2.2.2 dX3_readAtom_117 ?_
        refine lv_iload_n hx hb dX3_readAtom_119 rfl (lv_at hl 0 rfl) ?_
        refine lv_i2c (v := (v1.toUInt32 % 65536).toInt32) hx hb dX3_readAtom_120 rfl ?_
        refine sg_callK (As := [.int ((v1.toUInt32 % 65536).toInt32)]) X I mk_X3_84 (by omega) (by decide) (fun q9 e9 => c_J0_indexOf_0f7a4 (by decide) e9) h hl.1 rfl rfl (Nat.le_of_ble_eq_true rfl) dX3_readAtom_121 (fun v4 H locs h I => ?_)
        exact b_X3_readAtom_B124 X hlv hrec I (lv_sub hl [1] rfl) h hk
      · have h := sg_iff h z
        refine lv_iconst (v := -1) hx hb dX3_readAtom_113 (by decide) ?_
        refine lv_goto (tgt := 124) hx hb dX3_readAtom_114 (by decide) ?_
        exact b_X3_readAtom_B124 X hlv hrec I (lv_sub hl [1] rfl) h hk
    · have h := sg_ift h z
      refine lv_iload_n hx hb dX3_readAtom_49 rfl (lv_at hl 2 rfl) ?_
      refine lv_bipush (v := 6) hx hb dX3_readAtom_50 (by decide) ?_
      refine lv_icmp_lt (tgt := 57) hx hb dX3_readAtom_52 (by decide) (fun z => ?_) (fun z => ?_)
      · have h := sg_ift h z
        refine lv_aload_n hx hb dX3_readAtom_57 rfl (lv_at hl 1 rfl) ?_
        refine sg_getr X I fk_X3_15 (j := 1) (by decide) shC_19 rfl dX3_readAtom_58 ?_
        refine lv_dup hx hb dX3_readAtom_61 rfl ?_
        refine sg_getiN X I fn_X3_19 (by decide) shC_1 rfl dX3_readAtom_62 ?_
        refine lv_iconst (v := 1) hx hb dX3_readAtom_65 (by decide) ?_
        refine lv_iadd hx hb dX3_readAtom_66 ?_
        refine sg_putiN X I fn_X3_19 wk_9_2 rfl rfl (by decide) shC_1 rfl h dX3_readAtom_67 (fun s8 H locs h I => ?_)
        refine lv_aload_n hx hb dX3_readAtom_70 rfl (lv_at hl 1 rfl) ?_
        refine lv_iload_n hx hb dX3_readAtom_71 rfl (lv_at hl 2 rfl) ?_
        refine lv_iconst (v := 1) hx hb dX3_readAtom_72 (by decide) ?_
        refine lv_iadd hx hb dX3_readAtom_73 ?_
        refine sg_callV (As := [.int (p1 + 1)]) X I mk_X3_46 (by omega) (by decide) shC_19 rfl (fun q9 e9 => hrec _ _ _ e9) h hl.1 rfl rfl (Nat.le_of_ble_eq_true rfl) dX3_readAtom_74 (fun v9 s10 H locs h I => ?_)
        refine lv_if_eq (tgt := 92) hx hb dX3_readAtom_77 (by decide) (fun z => ?_) (fun z => ?_)
        · have h := sg_ift h z
          refine lv_iconst (v := 0) hx hb dX3_readAtom_92 (by decide) ?_
          obtain rfl := Option.some.inj h
          exact hk _ _ _ _ _ I ⟨_, rfl, rfl⟩ dX3_readAtom_93
        · have h := sg_iff h z
          refine lv_aload_n hx hb dX3_readAtom_80 rfl (lv_at hl 1 rfl) ?_
          refine sg_getr X I fk_X3_15 (j := 1) (by decide) shC_19 rfl dX3_readAtom_81 ?_
          refine sg_callV (As := []) X I mk_X3_32 (by omega) (by decide) shC_1 rfl (fun q9 e9 => c_X9_sign e9) h hl.1 rfl rfl (Nat.le_of_ble_eq_true rfl) dX3_readAtom_84 (fun v11 s12 H locs h I => ?_)
          refine lv_bipush (v := 93) hx hb dX3_readAtom_87 (by decide) ?_
          refine lv_icmp_eq (tgt := 94) hx hb dX3_readAtom_89 (by decide) (fun z => ?_) (fun z => ?_)
          · have h := sg_ift h z
            refine lv_aload_n hx hb dX3_readAtom_94 rfl (lv_at hl 1 rfl) ?_
            refine sg_getr X I fk_X3_15 (j := 1) (by decide) shC_19 rfl dX3_readAtom_95 ?_
            refine lv_dup hx hb dX3_readAtom_98 rfl ?_
            refine sg_getiN X I fn_X3_19 (by decide) shC_1 rfl dX3_readAtom_99 ?_
            refine lv_iconst (v := 1) hx hb dX3_readAtom_102 (by decide) ?_
            refine lv_iadd hx hb dX3_readAtom_103 ?_
            refine sg_putiN X I fn_X3_19 wk_9_2 rfl rfl (by decide) shC_1 rfl h dX3_readAtom_104 (fun s13 H locs h I => ?_)
            refine lv_iconst (v := 1) hx hb dX3_readAtom_107 (by decide) ?_
            obtain rfl := Option.some.inj h
            exact hk _ _ _ _ _ I ⟨_, rfl, rfl⟩ dX3_readAtom_108
          · have h := sg_iff h z
            refine lv_iconst (v := 0) hx hb dX3_readAtom_92 (by decide) ?_
            obtain rfl := Option.some.inj h
            exact hk _ _ _ _ _ I ⟨_, rfl, rfl⟩ dX3_readAtom_93
      · have h := sg_iff h z
        refine lv_iconst (v := 0) hx hb dX3_readAtom_55 (by decide) ?_
        obtain rfl := Option.some.inj h
        exact hk _ _ _ _ _ I ⟨_, rfl, rfl⟩ dX3_readAtom_56
  · have h := sg_iff h z
    refine lv_aload_n hx hb dX3_readAtom_15 rfl (lv_at hl 1 rfl) ?_
    refine sg_getr X I fk_X3_15 (j := 1) (by decide) shC_19 rfl dX3_readAtom_16 ?_
    refine lv_iconst (v := 4) hx hb dX3_readAtom_19 (by decide) ?_
    refine sg_callV (As := [.int 4]) X I mk_X3_78 (by omega) (by decide) shC_1 rfl (fun q9 e9 => c_X9_number e9) h hl.1 rfl rfl (Nat.le_of_ble_eq_true rfl) dX3_readAtom_20 (fun v14 s15 H locs h I => ?_)
    refine lv_istore_n (lv' := [(3, .int v14), (2, .int v1), (0, .ref (sgA P 19)), (1, .int p1)]) hx hb dX3_readAtom_23 rfl hl (by decide) rfl (fun ls hl => ?_)
    refine lv_iload_n hx hb dX3_readAtom_24 rfl (lv_at hl 0 rfl) ?_
    refine lv_iconst (v := -1) hx hb dX3_readAtom_25 (by decide) ?_
    refine lv_icmp_eq (tgt := 41) hx hb dX3_readAtom_26 (by decide) (fun z => ?_) (fun z => ?_)
    · have h := sg_ift h z
      refine lv_iconst (v := 0) hx hb dX3_readAtom_41 (by decide) ?_
      obtain rfl := Option.some.inj h
      exact hk _ _ _ _ _ I ⟨_, rfl, rfl⟩ dX3_readAtom_42
    · have h := sg_iff h z
      refine lv_aload_n hx hb dX3_readAtom_29 rfl (lv_at hl 2 rfl) ?_
      refine lv_iload_n hx hb dX3_readAtom_30 rfl (lv_at hl 0 rfl) ?_
      refine sg_callV (As := [.int v14]) X I mk_X3_54 (by omega) (by decide) shC_19 rfl (fun q9 e9 => c_X3_emit e9) h hl.1 rfl rfl (Nat.le_of_ble_eq_true rfl) dX3_readAtom_31 (fun v16 s17 H locs h I => ?_)
      refine lv_if_eq (tgt := 41) hx hb dX3_readAtom_34 (by decide) (fun z => ?_) (fun z => ?_)
      · have h := sg_ift h z
        refine lv_iconst (v := 0) hx hb dX3_readAtom_41 (by decide) ?_
        obtain rfl := Option.some.inj h
        exact hk _ _ _ _ _ I ⟨_, rfl, rfl⟩ dX3_readAtom_42
      · have h := sg_iff h z
        refine lv_iconst (v := 1) hx hb dX3_readAtom_37 (by decide) ?_
        refine lv_goto (tgt := 42) hx hb dX3_readAtom_38 (by decide) ?_
        obtain rfl := Option.some.inj h
        exact hk _ _ _ _ _ I ⟨_, rfl, rfl⟩ dX3_readAtom_42
set_option maxHeartbeats 4000000 in
set_option maxRecDepth 100000 in
theorem c_X3_readAtom {l : Launch} {P : sgP} {lv : Nat} {N : Nat} {rec : Int32 → sgS → Option (Int32 × sgS)} {p1 : Int32} {σ : sgS} (hlv : 5 ≤ lv) (hrec : ∀ (p1 : Int32) (σ : sgS) (q : Int32 × sgS), rec p1 σ = some q → sg_Mi P shC 332 l yX3_readSum cX3_readSum 4 (some .boolean) lv [.ref (sgA P 19), .int p1] σ q) {q : Int32 × sgS} (h : f_X3_readAtom N rec p1 σ = some q) : sg_Mi P shC 332 l yX3_readAtom cX3_readAtom 4 (some .boolean) (lv + 1) [.ref (sgA P 19), .int p1] σ q := by
  refine sg_mki (plainFor_of_name (by decide +kernel)) (Nat.le_of_ble_eq_true rfl) ?_
  intro p e R s m args below meth c Q A ls H locs X I hl hk
  exact b_X3_readAtom X hlv hrec I hl h hk
def f_X3_readTerm_L12_B41 (N : Nat) (rec : Int32 → sgS → Option (Int32 × sgS)) (p1 : Int32) (u2 : Int32) (u3 : Int32) (σ : sgS) : Option ((Int32 × sgS) ⊕ ((sgS × Int32) ⊕ (sgS))) :=
  sg_pf σ 1 2 ((σ.1 1 2) + 1) fun s5 =>
sg_cl (f_X3_readAtom N rec p1 s5) fun v6 s7 =>
if v6 = 0 then
  (some (.inl (vp_nar .boolean 0, s7)))
else
  (sg_cl (f_X3_emit N (20000 + u3) s7) fun v8 s9 =>
  if v8 = 0 then
    (some (.inl (vp_nar .boolean 0, s9)))
  else
    (some (.inr (.inl (s9, u2 + 1)))))
set_option maxHeartbeats 4000000 in
set_option maxRecDepth 100000 in
theorem b_X3_readTerm_L12_B41 {p : Program} {l : Launch} {e : Env} {R : Room} {s : State} {m : MethodId} {args : Array Value} {below : List Frame} {meth : Method} {c : Code} {Q : State → Prop} {P : sgP} {A : Nat → Prop} {lv : Nat} {N : Nat} {rec : Int32 → sgS → Option (Int32 × sgS)} {p1 : Int32} {u2 : Int32} {u3 : Int32} {σ : sgS} (X : sg_C P A (lv + 2) p R s m args c cX3_readTerm 4 RX3) (hlv : 5 ≤ lv) (hrec : ∀ (p1 : Int32) (σ : sgS) (q : Int32 × sgS), rec p1 σ = some q → sg_Mi P shC 332 l yX3_readSum cX3_readSum 4 (some .boolean) lv [.ref (sgA P 19), .int p1] σ q) {H : Heap} {locs : List Loc} (I : sg_I P shC 332 A s.heap σ H locs) {ls : Array Slot} (hl : lv_has ls 4 [(0, .ref (sgA P 19)), (1, .int p1), (2, .int u2), (3, .int u3)]) {st : (Int32 × sgS) ⊕ ((sgS × Int32) ⊕ (sgS))} (h : f_X3_readTerm_L12_B41 N rec p1 u2 u3 σ = some st) (hk : sg_k3 (sg_Ri p l e R s m args below meth c Q P shC 332 A cX3_readTerm (some .boolean)) (fun x => sg_Wt p l e R s m args below meth c Q P shC 332 A 4 12 x.1 [(0, .ref (sgA P 19)), (1, .int p1), (2, .int x.2)]) (fun y => sg_Wt p l e R s m args below meth c Q P shC 332 A 4 82 y []) st) : W p l e R s m args below meth c H locs 0 0 Q (F0 m 41 ls []) := by
  unfold f_X3_readTerm_L12_B41 at h
  have hx := X.1.1
  have hb := X.1.2.1
  have hown := X.1.2.2.2.1
  have hts := X.1.2.2.2.2
  refine lv_aload_n hx hb dX3_readTerm_41 rfl (lv_at hl 0 rfl) ?_
  refine sg_getr X I fk_X3_15 (j := 1) (by decide) shC_19 rfl dX3_readTerm_42 ?_
  refine lv_dup hx hb dX3_readTerm_45 rfl ?_
  refine sg_getiN X I fn_X3_19 (by decide) shC_1 rfl dX3_readTerm_46 ?_
  refine lv_iconst (v := 1) hx hb dX3_readTerm_49 (by decide) ?_
  refine lv_iadd hx hb dX3_readTerm_50 ?_
  refine sg_putiN X I fn_X3_19 wk_9_2 rfl rfl (by decide) shC_1 rfl h dX3_readTerm_51 (fun s5 H locs h I => ?_)
  refine lv_aload_n hx hb dX3_readTerm_54 rfl (lv_at hl 0 rfl) ?_
  refine lv_iload_n hx hb dX3_readTerm_55 rfl (lv_at hl 1 rfl) ?_
  refine sg_callV (As := [.int p1]) X I mk_X3_72 (by omega) (by decide) shC_19 rfl (fun q9 e9 => c_X3_readAtom hlv hrec e9) h hl.1 rfl rfl (Nat.le_of_ble_eq_true rfl) dX3_readTerm_56 (fun v6 s7 H locs h I => ?_)
  refine lv_if_eq (tgt := 74) hx hb dX3_readTerm_59 (by decide) (fun z => ?_) (fun z => ?_)
  · have h := sg_ift h z
    refine lv_iconst (v := 0) hx hb dX3_readTerm_74 (by decide) ?_
    obtain rfl := Option.some.inj h
    exact hk _ _ _ _ _ I ⟨_, rfl, rfl⟩ dX3_readTerm_75
  · have h := sg_iff h z
    refine lv_aload_n hx hb dX3_readTerm_62 rfl (lv_at hl 0 rfl) ?_
    refine lv_sipush (v := 20000) hx hb dX3_readTerm_63 (by decide) ?_
    refine lv_iload_n hx hb dX3_readTerm_66 rfl (lv_at hl 3 rfl) ?_
    refine lv_iadd hx hb dX3_readTerm_67 ?_
    refine sg_callV (As := [.int (20000 + u3)]) X I mk_X3_54 (by omega) (by decide) shC_19 rfl (fun q9 e9 => c_X3_emit e9) h hl.1 rfl rfl (Nat.le_of_ble_eq_true rfl) dX3_readTerm_68 (fun v8 s9 H locs h I => ?_)
    refine lv_if_ne (tgt := 76) hx hb dX3_readTerm_71 (by decide) (fun z => ?_) (fun z => ?_)
    · have h := sg_iff h z
      refine lv_iinc (v := u2 + 1) (lv' := [(2, .int (u2 + 1)), (0, .ref (sgA P 19)), (1, .int p1), (3, .int u3)]) hx hb dX3_readTerm_76 hl (k := 2) rfl rfl (by decide) rfl (fun ls hl => ?_)
      refine lv_goto (tgt := 12) hx hb dX3_readTerm_79 (by decide) ?_
      obtain rfl := Option.some.inj h
      exact sg_go hk I (lv_sub hl [1, 2, 0] rfl)
    · have h := sg_ift h z
      refine lv_iconst (v := 0) hx hb dX3_readTerm_74 (by decide) ?_
      obtain rfl := Option.some.inj h
      exact hk _ _ _ _ _ I ⟨_, rfl, rfl⟩ dX3_readTerm_75
def f_X3_readTerm_L12 (N : Nat) (rec : Int32 → sgS → Option (Int32 × sgS)) (p1 : Int32) (x2 : Int32) (σ : sgS) : Option ((Int32 × sgS) ⊕ ((sgS × Int32) ⊕ (sgS))) :=
  if 240 ≤ x2 then
  (some (.inr (.inr σ)))
else
  (sg_cl (f_X9_sign N σ) fun v3 s4 =>
  if v3 = 42 then
    (f_X3_readTerm_L12_B41 N rec p1 x2 v3 s4)
  else
    (if v3 = 47 then
      (f_X3_readTerm_L12_B41 N rec p1 x2 v3 s4)
    else
      (some (.inl (vp_nar .boolean 1, s4)))))
set_option maxHeartbeats 4000000 in
set_option maxRecDepth 100000 in
theorem b_X3_readTerm_L12 {p : Program} {l : Launch} {e : Env} {R : Room} {s : State} {m : MethodId} {args : Array Value} {below : List Frame} {meth : Method} {c : Code} {Q : State → Prop} {P : sgP} {A : Nat → Prop} {lv : Nat} {N : Nat} {rec : Int32 → sgS → Option (Int32 × sgS)} {p1 : Int32} {x2 : Int32} {σ : sgS} (X : sg_C P A (lv + 2) p R s m args c cX3_readTerm 4 RX3) (hlv : 5 ≤ lv) (hrec : ∀ (p1 : Int32) (σ : sgS) (q : Int32 × sgS), rec p1 σ = some q → sg_Mi P shC 332 l yX3_readSum cX3_readSum 4 (some .boolean) lv [.ref (sgA P 19), .int p1] σ q) {H : Heap} {locs : List Loc} (I : sg_I P shC 332 A s.heap σ H locs) {ls : Array Slot} (hl : lv_has ls 4 [(0, .ref (sgA P 19)), (1, .int p1), (2, .int x2)]) {st : (Int32 × sgS) ⊕ ((sgS × Int32) ⊕ (sgS))} (h : f_X3_readTerm_L12 N rec p1 x2 σ = some st) (hk : sg_k3 (sg_Ri p l e R s m args below meth c Q P shC 332 A cX3_readTerm (some .boolean)) (fun x => sg_Wt p l e R s m args below meth c Q P shC 332 A 4 12 x.1 [(0, .ref (sgA P 19)), (1, .int p1), (2, .int x.2)]) (fun y => sg_Wt p l e R s m args below meth c Q P shC 332 A 4 82 y []) st) : W p l e R s m args below meth c H locs 0 0 Q (F0 m 12 ls []) := by
  unfold f_X3_readTerm_L12 at h
  have hx := X.1.1
  have hb := X.1.2.1
  have hown := X.1.2.2.2.1
  have hts := X.1.2.2.2.2
  refine lv_iload_n hx hb dX3_readTerm_12 rfl (lv_at hl 2 rfl) ?_
  refine lv_sipush (v := 240) hx hb dX3_readTerm_13 (by decide) ?_
  refine lv_icmp_ge (tgt := 82) hx hb dX3_readTerm_16 (by decide) (fun z => ?_) (fun z => ?_)
  · have h := sg_ift h z
    obtain rfl := Option.some.inj h
    exact sg_go hk I (lv_sub hl [] rfl)
  · have h := sg_iff h z
    refine lv_aload_n hx hb dX3_readTerm_19 rfl (lv_at hl 0 rfl) ?_
    refine sg_getr X I fk_X3_15 (j := 1) (by decide) shC_19 rfl dX3_readTerm_20 ?_
    refine sg_callV (As := []) X I mk_X3_32 (by omega) (by decide) shC_1 rfl (fun q9 e9 => c_X9_sign e9) h hl.1 rfl rfl (Nat.le_of_ble_eq_true rfl) dX3_readTerm_23 (fun v3 s4 H locs h I => ?_)
    refine lv_istore_n (lv' := [(3, .int v3), (0, .ref (sgA P 19)), (1, .int p1), (2, .int x2)]) hx hb dX3_readTerm_26 rfl hl (by decide) rfl (fun ls hl => ?_)
    refine lv_iload_n hx hb dX3_readTerm_27 rfl (lv_at hl 0 rfl) ?_
    refine lv_bipush (v := 42) hx hb dX3_readTerm_28 (by decide) ?_
    refine lv_icmp_eq (tgt := 41) hx hb dX3_readTerm_30 (by decide) (fun z => ?_) (fun z => ?_)
    · have h := sg_ift h z
      exact b_X3_readTerm_L12_B41 X hlv hrec I (lv_sub hl [1, 2, 3, 0] rfl) h hk
    · have h := sg_iff h z
      refine lv_iload_n hx hb dX3_readTerm_33 rfl (lv_at hl 0 rfl) ?_
      refine lv_bipush (v := 47) hx hb dX3_readTerm_34 (by decide) ?_
      refine lv_icmp_eq (tgt := 41) hx hb dX3_readTerm_36 (by decide) (fun z => ?_) (fun z => ?_)
      · have h := sg_ift h z
        exact b_X3_readTerm_L12_B41 X hlv hrec I (lv_sub hl [1, 2, 3, 0] rfl) h hk
      · have h := sg_iff h z
        refine lv_iconst (v := 1) hx hb dX3_readTerm_39 (by decide) ?_
        obtain rfl := Option.some.inj h
        exact hk _ _ _ _ _ I ⟨_, rfl, rfl⟩ dX3_readTerm_40
def f_X3_readTerm (N : Nat) (rec : Int32 → sgS → Option (Int32 × sgS)) (p1 : Int32) (σ : sgS) : Option (Int32 × sgS) :=
  sg_cl (f_X3_readAtom N rec p1 σ) fun v1 s2 =>
if v1 = 0 then
  (some (vp_nar .boolean 0, s2))
else
  (sg_lb (sg_lp (fun x => f_X3_readTerm_L12 N rec p1 x.2 x.1) N ((s2, 0))) (fun r => some r) fun y10 =>
  some (vp_nar .boolean 0, y10))
set_option maxHeartbeats 4000000 in
set_option maxRecDepth 100000 in
theorem b_X3_readTerm {p : Program} {l : Launch} {e : Env} {R : Room} {s : State} {m : MethodId} {args : Array Value} {below : List Frame} {meth : Method} {c : Code} {Q : State → Prop} {P : sgP} {A : Nat → Prop} {lv : Nat} {N : Nat} {rec : Int32 → sgS → Option (Int32 × sgS)} {p1 : Int32} {σ : sgS} (X : sg_C P A (lv + 2) p R s m args c cX3_readTerm 4 RX3) (hlv : 5 ≤ lv) (hrec : ∀ (p1 : Int32) (σ : sgS) (q : Int32 × sgS), rec p1 σ = some q → sg_Mi P shC 332 l yX3_readSum cX3_readSum 4 (some .boolean) lv [.ref (sgA P 19), .int p1] σ q) {H : Heap} {locs : List Loc} (I : sg_I P shC 332 A s.heap σ H locs) {ls : Array Slot} (hl : lv_has ls 4 [(0, .ref (sgA P 19)), (1, .int p1)]) {st : Int32 × sgS} (h : f_X3_readTerm N rec p1 σ = some st) (hk : sg_Ri p l e R s m args below meth c Q P shC 332 A cX3_readTerm (some .boolean) st) : W p l e R s m args below meth c H locs 0 0 Q (F0 m 0 ls []) := by
  unfold f_X3_readTerm at h
  have hx := X.1.1
  have hb := X.1.2.1
  have hown := X.1.2.2.2.1
  have hts := X.1.2.2.2.2
  refine lv_aload_n hx hb dX3_readTerm_0 rfl (lv_at hl 0 rfl) ?_
  refine lv_iload_n hx hb dX3_readTerm_1 rfl (lv_at hl 1 rfl) ?_
  refine sg_callV (As := [.int p1]) X I mk_X3_72 (by omega) (by decide) shC_19 rfl (fun q9 e9 => c_X3_readAtom hlv hrec e9) h hl.1 rfl rfl (Nat.le_of_ble_eq_true rfl) dX3_readTerm_2 (fun v1 s2 H locs h I => ?_)
  refine lv_if_ne (tgt := 10) hx hb dX3_readTerm_5 (by decide) (fun z => ?_) (fun z => ?_)
  · have h := sg_iff h z
    refine lv_iconst (v := 0) hx hb dX3_readTerm_10 (by decide) ?_
    refine lv_istore_n (lv' := [(2, .int 0), (0, .ref (sgA P 19)), (1, .int p1)]) hx hb dX3_readTerm_11 rfl hl (by decide) rfl (fun ls hl => ?_)
    obtain ⟨res, e9, k9⟩ := sg_lb_some h
    refine sg_go (sg_lp_W (a := (sg_Ri p l e R s m args below meth c Q P shC 332 A cX3_readTerm (some .boolean))) (w := (fun x => sg_Wt p l e R s m args below meth c Q P shC 332 A 4 12 x.1 [(0, .ref (sgA P 19)), (1, .int p1), (2, .int x.2)])) (c := (fun y => sg_Wt p l e R s m args below meth c Q P shC 332 A 4 82 y [])) (fun x st hb9 hk9 => ?_) N ((s2, 0)) res e9 (sg_k2_mono k9 (fun r h => ?_) (fun y10 h => ?_))) I (lv_sub hl [1, 2, 0] rfl)
    · intro H locs ls I hl
      exact b_X3_readTerm_L12 X hlv hrec I hl hb9 hk9
    · obtain rfl := Option.some.inj h
      exact hk
    · intro H locs ls I hl
      refine lv_iconst (v := 0) hx hb dX3_readTerm_82 (by decide) ?_
      obtain rfl := Option.some.inj h
      exact hk _ _ _ _ _ I ⟨_, rfl, rfl⟩ dX3_readTerm_83
  · have h := sg_ift h z
    refine lv_iconst (v := 0) hx hb dX3_readTerm_8 (by decide) ?_
    obtain rfl := Option.some.inj h
    exact hk _ _ _ _ _ I ⟨_, rfl, rfl⟩ dX3_readTerm_9
set_option maxHeartbeats 4000000 in
set_option maxRecDepth 100000 in
theorem c_X3_readTerm {l : Launch} {P : sgP} {lv : Nat} {N : Nat} {rec : Int32 → sgS → Option (Int32 × sgS)} {p1 : Int32} {σ : sgS} (hlv : 5 ≤ lv) (hrec : ∀ (p1 : Int32) (σ : sgS) (q : Int32 × sgS), rec p1 σ = some q → sg_Mi P shC 332 l yX3_readSum cX3_readSum 4 (some .boolean) lv [.ref (sgA P 19), .int p1] σ q) {q : Int32 × sgS} (h : f_X3_readTerm N rec p1 σ = some q) : sg_Mi P shC 332 l yX3_readTerm cX3_readTerm 4 (some .boolean) (lv + 2) [.ref (sgA P 19), .int p1] σ q := by
  refine sg_mki (plainFor_of_name (by decide +kernel)) (Nat.le_of_ble_eq_true rfl) ?_
  intro p e R s m args below meth c Q A ls H locs X I hl hk
  exact b_X3_readTerm X hlv hrec I hl h hk
def f_X3_readSum_b_L12_B41 (N : Nat) (rec : Int32 → sgS → Option (Int32 × sgS)) (p1 : Int32) (u2 : Int32) (u3 : Int32) (σ : sgS) : Option ((Int32 × sgS) ⊕ ((sgS × Int32) ⊕ (sgS))) :=
  sg_pf σ 1 2 ((σ.1 1 2) + 1) fun s5 =>
sg_cl (f_X3_readTerm N rec p1 s5) fun v6 s7 =>
if v6 = 0 then
  (some (.inl (vp_nar .boolean 0, s7)))
else
  (sg_cl (f_X3_emit N (20000 + u3) s7) fun v8 s9 =>
  if v8 = 0 then
    (some (.inl (vp_nar .boolean 0, s9)))
  else
    (some (.inr (.inl (s9, u2 + 1)))))
set_option maxHeartbeats 4000000 in
set_option maxRecDepth 100000 in
theorem b_X3_readSum_b_L12_B41 {p : Program} {l : Launch} {e : Env} {R : Room} {s : State} {m : MethodId} {args : Array Value} {below : List Frame} {meth : Method} {c : Code} {Q : State → Prop} {P : sgP} {A : Nat → Prop} {lv : Nat} {N : Nat} {rec : Int32 → sgS → Option (Int32 × sgS)} {p1 : Int32} {u2 : Int32} {u3 : Int32} {σ : sgS} (X : sg_C P A (lv + 3) p R s m args c cX3_readSum 4 RX3) (hlv : 5 ≤ lv) (hrec : ∀ (p1 : Int32) (σ : sgS) (q : Int32 × sgS), rec p1 σ = some q → sg_Mi P shC 332 l yX3_readSum cX3_readSum 4 (some .boolean) lv [.ref (sgA P 19), .int p1] σ q) {H : Heap} {locs : List Loc} (I : sg_I P shC 332 A s.heap σ H locs) {ls : Array Slot} (hl : lv_has ls 4 [(0, .ref (sgA P 19)), (1, .int p1), (2, .int u2), (3, .int u3)]) {st : (Int32 × sgS) ⊕ ((sgS × Int32) ⊕ (sgS))} (h : f_X3_readSum_b_L12_B41 N rec p1 u2 u3 σ = some st) (hk : sg_k3 (sg_Ri p l e R s m args below meth c Q P shC 332 A cX3_readSum (some .boolean)) (fun x => sg_Wt p l e R s m args below meth c Q P shC 332 A 4 12 x.1 [(0, .ref (sgA P 19)), (1, .int p1), (2, .int x.2)]) (fun y => sg_Wt p l e R s m args below meth c Q P shC 332 A 4 82 y []) st) : W p l e R s m args below meth c H locs 0 0 Q (F0 m 41 ls []) := by
  unfold f_X3_readSum_b_L12_B41 at h
  have hx := X.1.1
  have hb := X.1.2.1
  have hown := X.1.2.2.2.1
  have hts := X.1.2.2.2.2
  refine lv_aload_n hx hb dX3_readSum_41 rfl (lv_at hl 0 rfl) ?_
  refine sg_getr X I fk_X3_15 (j := 1) (by decide) shC_19 rfl dX3_readSum_42 ?_
  refine lv_dup hx hb dX3_readSum_45 rfl ?_
  refine sg_getiN X I fn_X3_19 (by decide) shC_1 rfl dX3_readSum_46 ?_
  refine lv_iconst (v := 1) hx hb dX3_readSum_49 (by decide) ?_
  refine lv_iadd hx hb dX3_readSum_50 ?_
  refine sg_putiN X I fn_X3_19 wk_9_2 rfl rfl (by decide) shC_1 rfl h dX3_readSum_51 (fun s5 H locs h I => ?_)
  refine lv_aload_n hx hb dX3_readSum_54 rfl (lv_at hl 0 rfl) ?_
  refine lv_iload_n hx hb dX3_readSum_55 rfl (lv_at hl 1 rfl) ?_
  refine sg_callV (As := [.int p1]) X I mk_X3_69 (by omega) (by decide) shC_19 rfl (fun q9 e9 => c_X3_readTerm hlv hrec e9) h hl.1 rfl rfl (Nat.le_of_ble_eq_true rfl) dX3_readSum_56 (fun v6 s7 H locs h I => ?_)
  refine lv_if_eq (tgt := 74) hx hb dX3_readSum_59 (by decide) (fun z => ?_) (fun z => ?_)
  · have h := sg_ift h z
    refine lv_iconst (v := 0) hx hb dX3_readSum_74 (by decide) ?_
    obtain rfl := Option.some.inj h
    exact hk _ _ _ _ _ I ⟨_, rfl, rfl⟩ dX3_readSum_75
  · have h := sg_iff h z
    refine lv_aload_n hx hb dX3_readSum_62 rfl (lv_at hl 0 rfl) ?_
    refine lv_sipush (v := 20000) hx hb dX3_readSum_63 (by decide) ?_
    refine lv_iload_n hx hb dX3_readSum_66 rfl (lv_at hl 3 rfl) ?_
    refine lv_iadd hx hb dX3_readSum_67 ?_
    refine sg_callV (As := [.int (20000 + u3)]) X I mk_X3_54 (by omega) (by decide) shC_19 rfl (fun q9 e9 => c_X3_emit e9) h hl.1 rfl rfl (Nat.le_of_ble_eq_true rfl) dX3_readSum_68 (fun v8 s9 H locs h I => ?_)
    refine lv_if_ne (tgt := 76) hx hb dX3_readSum_71 (by decide) (fun z => ?_) (fun z => ?_)
    · have h := sg_iff h z
      refine lv_iinc (v := u2 + 1) (lv' := [(2, .int (u2 + 1)), (0, .ref (sgA P 19)), (1, .int p1), (3, .int u3)]) hx hb dX3_readSum_76 hl (k := 2) rfl rfl (by decide) rfl (fun ls hl => ?_)
      refine lv_goto (tgt := 12) hx hb dX3_readSum_79 (by decide) ?_
      obtain rfl := Option.some.inj h
      exact sg_go hk I (lv_sub hl [1, 2, 0] rfl)
    · have h := sg_ift h z
      refine lv_iconst (v := 0) hx hb dX3_readSum_74 (by decide) ?_
      obtain rfl := Option.some.inj h
      exact hk _ _ _ _ _ I ⟨_, rfl, rfl⟩ dX3_readSum_75
def f_X3_readSum_b_L12 (N : Nat) (rec : Int32 → sgS → Option (Int32 × sgS)) (p1 : Int32) (x2 : Int32) (σ : sgS) : Option ((Int32 × sgS) ⊕ ((sgS × Int32) ⊕ (sgS))) :=
  if 240 ≤ x2 then
  (some (.inr (.inr σ)))
else
  (sg_cl (f_X9_sign N σ) fun v3 s4 =>
  if v3 = 43 then
    (f_X3_readSum_b_L12_B41 N rec p1 x2 v3 s4)
  else
    (if v3 = 45 then
      (f_X3_readSum_b_L12_B41 N rec p1 x2 v3 s4)
    else
      (some (.inl (vp_nar .boolean 1, s4)))))
set_option maxHeartbeats 4000000 in
set_option maxRecDepth 100000 in
theorem b_X3_readSum_b_L12 {p : Program} {l : Launch} {e : Env} {R : Room} {s : State} {m : MethodId} {args : Array Value} {below : List Frame} {meth : Method} {c : Code} {Q : State → Prop} {P : sgP} {A : Nat → Prop} {lv : Nat} {N : Nat} {rec : Int32 → sgS → Option (Int32 × sgS)} {p1 : Int32} {x2 : Int32} {σ : sgS} (X : sg_C P A (lv + 3) p R s m args c cX3_readSum 4 RX3) (hlv : 5 ≤ lv) (hrec : ∀ (p1 : Int32) (σ : sgS) (q : Int32 × sgS), rec p1 σ = some q → sg_Mi P shC 332 l yX3_readSum cX3_readSum 4 (some .boolean) lv [.ref (sgA P 19), .int p1] σ q) {H : Heap} {locs : List Loc} (I : sg_I P shC 332 A s.heap σ H locs) {ls : Array Slot} (hl : lv_has ls 4 [(0, .ref (sgA P 19)), (1, .int p1), (2, .int x2)]) {st : (Int32 × sgS) ⊕ ((sgS × Int32) ⊕ (sgS))} (h : f_X3_readSum_b_L12 N rec p1 x2 σ = some st) (hk : sg_k3 (sg_Ri p l e R s m args below meth c Q P shC 332 A cX3_readSum (some .boolean)) (fun x => sg_Wt p l e R s m args below meth c Q P shC 332 A 4 12 x.1 [(0, .ref (sgA P 19)), (1, .int p1), (2, .int x.2)]) (fun y => sg_Wt p l e R s m args below meth c Q P shC 332 A 4 82 y []) st) : W p l e R s m args below meth c H locs 0 0 Q (F0 m 12 ls []) := by
  unfold f_X3_readSum_b_L12 at h
  have hx := X.1.1
  have hb := X.1.2.1
  have hown := X.1.2.2.2.1
  have hts := X.1.2.2.2.2
  refine lv_iload_n hx hb dX3_readSum_12 rfl (lv_at hl 2 rfl) ?_
  refine lv_sipush (v := 240) hx hb dX3_readSum_13 (by decide) ?_
  refine lv_icmp_ge (tgt := 82) hx hb dX3_readSum_16 (by decide) (fun z => ?_) (fun z => ?_)
  · have h := sg_ift h z
    obtain rfl := Option.some.inj h
    exact sg_go hk I (lv_sub hl [] rfl)
  · have h := sg_iff h z
    refine lv_aload_n hx hb dX3_readSum_19 rfl (lv_at hl 0 rfl) ?_
    refine sg_getr X I fk_X3_15 (j := 1) (by decide) shC_19 rfl dX3_readSum_20 ?_
    refine sg_callV (As := []) X I mk_X3_32 (by omega) (by decide) shC_1 rfl (fun q9 e9 => c_X9_sign e9) h hl.1 rfl rfl (Nat.le_of_ble_eq_true rfl) dX3_readSum_23 (fun v3 s4 H locs h I => ?_)
    refine lv_istore_n (lv' := [(3, .int v3), (0, .ref (sgA P 19)), (1, .int p1), (2, .int x2)]) hx hb dX3_readSum_26 rfl hl (by decide) rfl (fun ls hl => ?_)
    refine lv_iload_n hx hb dX3_readSum_27 rfl (lv_at hl 0 rfl) ?_
    refine lv_bipush (v := 43) hx hb dX3_readSum_28 (by decide) ?_
    refine lv_icmp_eq (tgt := 41) hx hb dX3_readSum_30 (by decide) (fun z => ?_) (fun z => ?_)
    · have h := sg_ift h z
      exact b_X3_readSum_b_L12_B41 X hlv hrec I (lv_sub hl [1, 2, 3, 0] rfl) h hk
    · have h := sg_iff h z
      refine lv_iload_n hx hb dX3_readSum_33 rfl (lv_at hl 0 rfl) ?_
      refine lv_bipush (v := 45) hx hb dX3_readSum_34 (by decide) ?_
      refine lv_icmp_eq (tgt := 41) hx hb dX3_readSum_36 (by decide) (fun z => ?_) (fun z => ?_)
      · have h := sg_ift h z
        exact b_X3_readSum_b_L12_B41 X hlv hrec I (lv_sub hl [1, 2, 3, 0] rfl) h hk
      · have h := sg_iff h z
        refine lv_iconst (v := 1) hx hb dX3_readSum_39 (by decide) ?_
        obtain rfl := Option.some.inj h
        exact hk _ _ _ _ _ I ⟨_, rfl, rfl⟩ dX3_readSum_40
def f_X3_readSum_b (N : Nat) (rec : Int32 → sgS → Option (Int32 × sgS)) (p1 : Int32) (σ : sgS) : Option (Int32 × sgS) :=
  sg_cl (f_X3_readTerm N rec p1 σ) fun v1 s2 =>
if v1 = 0 then
  (some (vp_nar .boolean 0, s2))
else
  (sg_lb (sg_lp (fun x => f_X3_readSum_b_L12 N rec p1 x.2 x.1) N ((s2, 0))) (fun r => some r) fun y10 =>
  some (vp_nar .boolean 0, y10))
set_option maxHeartbeats 4000000 in
set_option maxRecDepth 100000 in
theorem b_X3_readSum_b {p : Program} {l : Launch} {e : Env} {R : Room} {s : State} {m : MethodId} {args : Array Value} {below : List Frame} {meth : Method} {c : Code} {Q : State → Prop} {P : sgP} {A : Nat → Prop} {lv : Nat} {N : Nat} {rec : Int32 → sgS → Option (Int32 × sgS)} {p1 : Int32} {σ : sgS} (X : sg_C P A (lv + 3) p R s m args c cX3_readSum 4 RX3) (hlv : 5 ≤ lv) (hrec : ∀ (p1 : Int32) (σ : sgS) (q : Int32 × sgS), rec p1 σ = some q → sg_Mi P shC 332 l yX3_readSum cX3_readSum 4 (some .boolean) lv [.ref (sgA P 19), .int p1] σ q) {H : Heap} {locs : List Loc} (I : sg_I P shC 332 A s.heap σ H locs) {ls : Array Slot} (hl : lv_has ls 4 [(0, .ref (sgA P 19)), (1, .int p1)]) {st : Int32 × sgS} (h : f_X3_readSum_b N rec p1 σ = some st) (hk : sg_Ri p l e R s m args below meth c Q P shC 332 A cX3_readSum (some .boolean) st) : W p l e R s m args below meth c H locs 0 0 Q (F0 m 0 ls []) := by
  unfold f_X3_readSum_b at h
  have hx := X.1.1
  have hb := X.1.2.1
  have hown := X.1.2.2.2.1
  have hts := X.1.2.2.2.2
  refine lv_aload_n hx hb dX3_readSum_0 rfl (lv_at hl 0 rfl) ?_
  refine lv_iload_n hx hb dX3_readSum_1 rfl (lv_at hl 1 rfl) ?_
  refine sg_callV (As := [.int p1]) X I mk_X3_69 (by omega) (by decide) shC_19 rfl (fun q9 e9 => c_X3_readTerm hlv hrec e9) h hl.1 rfl rfl (Nat.le_of_ble_eq_true rfl) dX3_readSum_2 (fun v1 s2 H locs h I => ?_)
  refine lv_if_ne (tgt := 10) hx hb dX3_readSum_5 (by decide) (fun z => ?_) (fun z => ?_)
  · have h := sg_iff h z
    refine lv_iconst (v := 0) hx hb dX3_readSum_10 (by decide) ?_
    refine lv_istore_n (lv' := [(2, .int 0), (0, .ref (sgA P 19)), (1, .int p1)]) hx hb dX3_readSum_11 rfl hl (by decide) rfl (fun ls hl => ?_)
    obtain ⟨res, e9, k9⟩ := sg_lb_some h
    refine sg_go (sg_lp_W (a := (sg_Ri p l e R s m args below meth c Q P shC 332 A cX3_readSum (some .boolean))) (w := (fun x => sg_Wt p l e R s m args below meth c Q P shC 332 A 4 12 x.1 [(0, .ref (sgA P 19)), (1, .int p1), (2, .int x.2)])) (c := (fun y => sg_Wt p l e R s m args below meth c Q P shC 332 A 4 82 y [])) (fun x st hb9 hk9 => ?_) N ((s2, 0)) res e9 (sg_k2_mono k9 (fun r h => ?_) (fun y10 h => ?_))) I (lv_sub hl [1, 2, 0] rfl)
    · intro H locs ls I hl
      exact b_X3_readSum_b_L12 X hlv hrec I hl hb9 hk9
    · obtain rfl := Option.some.inj h
      exact hk
    · intro H locs ls I hl
      refine lv_iconst (v := 0) hx hb dX3_readSum_82 (by decide) ?_
      obtain rfl := Option.some.inj h
      exact hk _ _ _ _ _ I ⟨_, rfl, rfl⟩ dX3_readSum_83
  · have h := sg_ift h z
    refine lv_iconst (v := 0) hx hb dX3_readSum_8 (by decide) ?_
    obtain rfl := Option.some.inj h
    exact hk _ _ _ _ _ I ⟨_, rfl, rfl⟩ dX3_readSum_9
set_option maxHeartbeats 4000000 in
set_option maxRecDepth 100000 in
theorem c_X3_readSum_b {l : Launch} {P : sgP} {lv : Nat} {N : Nat} {rec : Int32 → sgS → Option (Int32 × sgS)} {p1 : Int32} {σ : sgS} (hlv : 5 ≤ lv) (hrec : ∀ (p1 : Int32) (σ : sgS) (q : Int32 × sgS), rec p1 σ = some q → sg_Mi P shC 332 l yX3_readSum cX3_readSum 4 (some .boolean) lv [.ref (sgA P 19), .int p1] σ q) {q : Int32 × sgS} (h : f_X3_readSum_b N rec p1 σ = some q) : sg_Mi P shC 332 l yX3_readSum cX3_readSum 4 (some .boolean) (lv + 3) [.ref (sgA P 19), .int p1] σ q := by
  refine sg_mki (plainFor_of_name (by decide +kernel)) (Nat.le_of_ble_eq_true rfl) ?_
  intro p e R s m args below meth c Q A ls H locs X I hl hk
  exact b_X3_readSum_b X hlv hrec I hl h hk
def f_X3_readSum : Nat → Nat → Int32 → sgS → Option (Int32 × sgS)
  | 0, _, _, _ => none
  | d + 1, N, p1, σ => f_X3_readSum_b N (f_X3_readSum d N) p1 σ
set_option maxHeartbeats 4000000 in
set_option maxRecDepth 100000 in
theorem cd_X3_readSum {l : Launch} {P : sgP} {N : Nat} : ∀ (d : Nat) (p1 : Int32) (σ : sgS) (q : Int32 × sgS), f_X3_readSum d N p1 σ = some q → sg_Mi P shC 332 l yX3_readSum cX3_readSum 4 (some .boolean) (5 + 3 * d) [.ref (sgA P 19), .int p1] σ q := by
  intro d
  induction d with
  | zero => intro p1 σ q h; cases h
  | succ d ih =>
    intro p1 σ q h
    have e : 5 + 3 * (d + 1) = 5 + 3 * d + 3 := by omega
    rw [e]
    exact c_X3_readSum_b (by omega) ih h
set_option maxHeartbeats 4000000 in
set_option maxRecDepth 100000 in
theorem c_X3_readSum {l : Launch} {P : sgP} {N : Nat} {p1 : Int32} {σ : sgS} {q : Int32 × sgS} (h : f_X3_readSum 40 N p1 σ = some q) : sg_Mi P shC 332 l yX3_readSum cX3_readSum 4 (some .boolean) 125 [.ref (sgA P 19), .int p1] σ q := cd_X3_readSum 40 p1 σ q h
def f_X3_isComparison (N : Nat) (p0 : Int32) (σ : sgS) : Option (Int32) :=
  if p0 = 61 then
  (some (vp_nar .boolean 1))
else
  (if p0 = 60 then
    (some (vp_nar .boolean 1))
  else
    (if p0 = 62 then
      (some (vp_nar .boolean 1))
    else
      (some (vp_nar .boolean 0))))
set_option maxHeartbeats 4000000 in
set_option maxRecDepth 100000 in
theorem b_X3_isComparison {p : Program} {l : Launch} {e : Env} {R : Room} {s : State} {m : MethodId} {args : Array Value} {below : List Frame} {meth : Method} {c : Code} {Q : State → Prop} {P : sgP} {A : Nat → Prop} {N : Nat} {p0 : Int32} {σ : sgS} (X : sg_C P A 1 p R s m args c cX3_isComparison 1 RX3) {H : Heap} {locs : List Loc} (I : sg_I P shC 332 A s.heap σ H locs) {ls : Array Slot} (hl : lv_has ls 1 [(0, .int p0)]) {st : Int32} (h : f_X3_isComparison N p0 σ = some st) (hk : sg_Ri p l e R s m args below meth c Q P shC 332 A cX3_isComparison (some .boolean) (st, σ)) : W p l e R s m args below meth c H locs 0 0 Q (F0 m 0 ls []) := by
  unfold f_X3_isComparison at h
  have hx := X.1.1
  have hb := X.1.2.1
  have hown := X.1.2.2.2.1
  have hts := X.1.2.2.2.2
  refine lv_iload_n hx hb dX3_isComparison_0 rfl (lv_at hl 0 rfl) ?_
  refine lv_bipush (v := 61) hx hb dX3_isComparison_1 (by decide) ?_
  refine lv_icmp_eq (tgt := 18) hx hb dX3_isComparison_3 (by decide) (fun z => ?_) (fun z => ?_)
  · have h := sg_ift h z
    refine lv_iconst (v := 1) hx hb dX3_isComparison_18 (by decide) ?_
    refine lv_goto (tgt := 23) hx hb dX3_isComparison_19 (by decide) ?_
    obtain rfl := Option.some.inj h
    exact hk _ _ _ _ _ I ⟨_, rfl, rfl⟩ dX3_isComparison_23
  · have h := sg_iff h z
    refine lv_iload_n hx hb dX3_isComparison_6 rfl (lv_at hl 0 rfl) ?_
    refine lv_bipush (v := 60) hx hb dX3_isComparison_7 (by decide) ?_
    refine lv_icmp_eq (tgt := 18) hx hb dX3_isComparison_9 (by decide) (fun z => ?_) (fun z => ?_)
    · have h := sg_ift h z
      refine lv_iconst (v := 1) hx hb dX3_isComparison_18 (by decide) ?_
      refine lv_goto (tgt := 23) hx hb dX3_isComparison_19 (by decide) ?_
      obtain rfl := Option.some.inj h
      exact hk _ _ _ _ _ I ⟨_, rfl, rfl⟩ dX3_isComparison_23
    · have h := sg_iff h z
      refine lv_iload_n hx hb dX3_isComparison_12 rfl (lv_at hl 0 rfl) ?_
      refine lv_bipush (v := 62) hx hb dX3_isComparison_13 (by decide) ?_
      refine lv_icmp_ne (tgt := 22) hx hb dX3_isComparison_15 (by decide) (fun z => ?_) (fun z => ?_)
      · have h := sg_iff h z
        refine lv_iconst (v := 0) hx hb dX3_isComparison_22 (by decide) ?_
        obtain rfl := Option.some.inj h
        exact hk _ _ _ _ _ I ⟨_, rfl, rfl⟩ dX3_isComparison_23
      · have h := sg_ift h z
        refine lv_iconst (v := 1) hx hb dX3_isComparison_18 (by decide) ?_
        refine lv_goto (tgt := 23) hx hb dX3_isComparison_19 (by decide) ?_
        obtain rfl := Option.some.inj h
        exact hk _ _ _ _ _ I ⟨_, rfl, rfl⟩ dX3_isComparison_23
set_option maxHeartbeats 4000000 in
set_option maxRecDepth 100000 in
theorem c_X3_isComparison {l : Launch} {P : sgP} {N : Nat} {p0 : Int32} {σ : sgS} {q : Int32} (h : f_X3_isComparison N p0 σ = some q) : sg_Mi P shC 332 l yX3_isComparison cX3_isComparison 1 (some .boolean) 1 [.int p0] σ (q, σ) := by
  refine sg_mki (plainFor_of_name (by decide +kernel)) (Nat.le_of_ble_eq_true rfl) ?_
  intro p e R s m args below meth c Q A ls H locs X I hl hk
  exact b_X3_isComparison X I hl h hk
def f_X3_goOnComparison (N : Nat) (p1 : Int32) (σ : sgS) : Option (Int32 × sgS) :=
  sg_cl (f_X9_sign N σ) fun v1 s2 =>
sg_cr (f_X3_isComparison N v1 s2) fun v3 =>
if v3 = 0 then
  (some (vp_nar .boolean 0, s2))
else
  (sg_pf s2 1 2 ((s2.1 1 2) + 1) fun s4 =>
  sg_cl (f_X3_readSum 40 N p1 s4) fun v5 s6 =>
  if v5 = 0 then
    (some (vp_nar .boolean 0, s6))
  else
    (sg_cl (f_X3_emit N (20000 + v1) s6) fun v7 s8 =>
    if v7 = 0 then
      (some (vp_nar .boolean 0, s8))
    else
      (some (vp_nar .boolean 1, s8))))
set_option maxHeartbeats 4000000 in
set_option maxRecDepth 100000 in
theorem b_X3_goOnComparison {p : Program} {l : Launch} {e : Env} {R : Room} {s : State} {m : MethodId} {args : Array Value} {below : List Frame} {meth : Method} {c : Code} {Q : State → Prop} {P : sgP} {A : Nat → Prop} {N : Nat} {p1 : Int32} {σ : sgS} (X : sg_C P A 126 p R s m args c cX3_goOnComparison 3 RX3) {H : Heap} {locs : List Loc} (I : sg_I P shC 332 A s.heap σ H locs) {ls : Array Slot} (hl : lv_has ls 3 [(0, .ref (sgA P 19)), (1, .int p1)]) {st : Int32 × sgS} (h : f_X3_goOnComparison N p1 σ = some st) (hk : sg_Ri p l e R s m args below meth c Q P shC 332 A cX3_goOnComparison (some .boolean) st) : W p l e R s m args below meth c H locs 0 0 Q (F0 m 0 ls []) := by
  unfold f_X3_goOnComparison at h
  have hx := X.1.1
  have hb := X.1.2.1
  have hown := X.1.2.2.2.1
  have hts := X.1.2.2.2.2
  refine lv_aload_n hx hb dX3_goOnComparison_0 rfl (lv_at hl 0 rfl) ?_
  refine sg_getr X I fk_X3_15 (j := 1) (by decide) shC_19 rfl dX3_goOnComparison_1 ?_
  refine sg_callV (As := []) X I mk_X3_32 (by decide) (by decide) shC_1 rfl (fun q9 e9 => c_X9_sign e9) h hl.1 rfl rfl (Nat.le_of_ble_eq_true rfl) dX3_goOnComparison_4 (fun v1 s2 H locs h I => ?_)
  refine lv_istore_n (lv' := [(2, .int v1), (0, .ref (sgA P 19)), (1, .int p1)]) hx hb dX3_goOnComparison_7 rfl hl (by decide) rfl (fun ls hl => ?_)
  refine lv_iload_n hx hb dX3_goOnComparison_8 rfl (lv_at hl 0 rfl) ?_
  refine sg_callSr (As := [.int v1]) X I mk_X3_49 (by decide) (fun q9 e9 => c_X3_isComparison e9) h hl.1 rfl rfl (Nat.le_of_ble_eq_true rfl) dX3_goOnComparison_9 (fun v3 H locs h I => ?_)
  refine lv_if_ne (tgt := 17) hx hb dX3_goOnComparison_12 (by decide) (fun z => ?_) (fun z => ?_)
  · have h := sg_iff h z
    refine lv_aload_n hx hb dX3_goOnComparison_17 rfl (lv_at hl 1 rfl) ?_
    refine sg_getr X I fk_X3_15 (j := 1) (by decide) shC_19 rfl dX3_goOnComparison_18 ?_
    refine lv_dup hx hb dX3_goOnComparison_21 rfl ?_
    refine sg_getiN X I fn_X3_19 (by decide) shC_1 rfl dX3_goOnComparison_22 ?_
    refine lv_iconst (v := 1) hx hb dX3_goOnComparison_25 (by decide) ?_
    refine lv_iadd hx hb dX3_goOnComparison_26 ?_
    refine sg_putiN X I fn_X3_19 wk_9_2 rfl rfl (by decide) shC_1 rfl h dX3_goOnComparison_27 (fun s4 H locs h I => ?_)
    refine lv_aload_n hx hb dX3_goOnComparison_30 rfl (lv_at hl 1 rfl) ?_
    refine lv_iload_n hx hb dX3_goOnComparison_31 rfl (lv_at hl 2 rfl) ?_
    refine sg_callV (As := [.int p1]) X I mk_X3_46 (by decide) (by decide) shC_19 rfl (fun q9 e9 => c_X3_readSum e9) h hl.1 rfl rfl (Nat.le_of_ble_eq_true rfl) dX3_goOnComparison_32 (fun v5 s6 H locs h I => ?_)
    refine lv_if_eq (tgt := 54) hx hb dX3_goOnComparison_35 (by decide) (fun z => ?_) (fun z => ?_)
    · have h := sg_ift h z
      refine lv_iconst (v := 0) hx hb dX3_goOnComparison_54 (by decide) ?_
      obtain rfl := Option.some.inj h
      exact hk _ _ _ _ _ I ⟨_, rfl, rfl⟩ dX3_goOnComparison_55
    · have h := sg_iff h z
      refine lv_aload_n hx hb dX3_goOnComparison_38 rfl (lv_at hl 1 rfl) ?_
      refine lv_sipush (v := 20000) hx hb dX3_goOnComparison_39 (by decide) ?_
      refine lv_iload_n hx hb dX3_goOnComparison_42 rfl (lv_at hl 0 rfl) ?_
      refine lv_iadd hx hb dX3_goOnComparison_43 ?_
      refine sg_callV (As := [.int (20000 + v1)]) X I mk_X3_54 (by decide) (by decide) shC_19 rfl (fun q9 e9 => c_X3_emit e9) h hl.1 rfl rfl (Nat.le_of_ble_eq_true rfl) dX3_goOnComparison_44 (fun v7 s8 H locs h I => ?_)
      refine lv_if_eq (tgt := 54) hx hb dX3_goOnComparison_47 (by decide) (fun z => ?_) (fun z => ?_)
      · have h := sg_ift h z
        refine lv_iconst (v := 0) hx hb dX3_goOnComparison_54 (by decide) ?_
        obtain rfl := Option.some.inj h
        exact hk _ _ _ _ _ I ⟨_, rfl, rfl⟩ dX3_goOnComparison_55
      · have h := sg_iff h z
        refine lv_iconst (v := 1) hx hb dX3_goOnComparison_50 (by decide) ?_
        refine lv_goto (tgt := 55) hx hb dX3_goOnComparison_51 (by decide) ?_
        obtain rfl := Option.some.inj h
        exact hk _ _ _ _ _ I ⟨_, rfl, rfl⟩ dX3_goOnComparison_55
  · have h := sg_ift h z
    refine lv_iconst (v := 0) hx hb dX3_goOnComparison_15 (by decide) ?_
    obtain rfl := Option.some.inj h
    exact hk _ _ _ _ _ I ⟨_, rfl, rfl⟩ dX3_goOnComparison_16
set_option maxHeartbeats 4000000 in
set_option maxRecDepth 100000 in
theorem c_X3_goOnComparison {l : Launch} {P : sgP} {N : Nat} {p1 : Int32} {σ : sgS} {q : Int32 × sgS} (h : f_X3_goOnComparison N p1 σ = some q) : sg_Mi P shC 332 l yX3_goOnComparison cX3_goOnComparison 3 (some .boolean) 126 [.ref (sgA P 19), .int p1] σ q := by
  refine sg_mki (plainFor_of_name (by decide +kernel)) (Nat.le_of_ble_eq_true rfl) ?_
  intro p e R s m args below meth c Q A ls H locs X I hl hk
  exact b_X3_goOnComparison X I hl h hk
def f_X3_readUnit_b_B42 (N : Nat) (rec : Int32 → sgS → Option (Int32 × sgS)) (p1 : Int32) (u2 : Int32) (σ : sgS) : Option (Int32 × sgS) :=
  if p1 < 6 then
  (sg_pf σ 1 2 ((σ.1 1 2) + 1) fun s3 =>
  if u2 = 33 then
    (sg_cl (rec (p1 + 1) s3) fun v8 s9 =>
    if v8 = 0 then
      (some (vp_nar .boolean 0, s9))
    else
      (sg_cl (f_X3_emit N 20033 s9) fun v10 s11 =>
      if v10 = 0 then
        (some (vp_nar .boolean 0, s11))
      else
        (some (vp_nar .boolean 1, s11))))
  else
    (sg_cl (f_X3_readCondition N rec (p1 + 1) s3) fun v4 s5 =>
    if v4 = 0 then
      (some (vp_nar .boolean 0, s5))
    else
      (sg_cl (f_X9_takes N 41 s5) fun v6 s7 =>
      if v6 = 0 then
        (some (vp_nar .boolean 0, s7))
      else
        (some (vp_nar .boolean 1, s7)))))
else
  (some (vp_nar .boolean 0, σ))
set_option maxHeartbeats 4000000 in
set_option maxRecDepth 100000 in
theorem b_X3_readUnit_b_B42 {p : Program} {l : Launch} {e : Env} {R : Room} {s : State} {m : MethodId} {args : Array Value} {below : List Frame} {meth : Method} {c : Code} {Q : State → Prop} {P : sgP} {A : Nat → Prop} {lv : Nat} {N : Nat} {rec : Int32 → sgS → Option (Int32 × sgS)} {p1 : Int32} {u2 : Int32} {σ : sgS} (X : sg_C P A (lv + 4) p R s m args c cX3_readUnit 3 RX3) (hlv : 127 ≤ lv) (hrec : ∀ (p1 : Int32) (σ : sgS) (q : Int32 × sgS), rec p1 σ = some q → sg_Mi P shC 332 l yX3_readUnit cX3_readUnit 3 (some .boolean) lv [.ref (sgA P 19), .int p1] σ q) {H : Heap} {locs : List Loc} (I : sg_I P shC 332 A s.heap σ H locs) {ls : Array Slot} (hl : lv_has ls 3 [(0, .ref (sgA P 19)), (1, .int p1), (2, .int u2)]) {st : Int32 × sgS} (h : f_X3_readUnit_b_B42 N rec p1 u2 σ = some st) (hk : sg_Ri p l e R s m args below meth c Q P shC 332 A cX3_readUnit (some .boolean) st) : W p l e R s m args below meth c H locs 0 0 Q (F0 m 42 ls []) := by
  unfold f_X3_readUnit_b_B42 at h
  have hx := X.1.1
  have hb := X.1.2.1
  have hown := X.1.2.2.2.1
  have hts := X.1.2.2.2.2
  refine lv_iload_n hx hb dX3_readUnit_42 rfl (lv_at hl 1 rfl) ?_
  refine lv_bipush (v := 6) hx hb dX3_readUnit_43 (by decide) ?_
  refine lv_icmp_lt (tgt := 50) hx hb dX3_readUnit_45 (by decide) (fun z => ?_) (fun z => ?_)
  · have h := sg_ift h z
    refine lv_aload_n hx hb dX3_readUnit_50 rfl (lv_at hl 0 rfl) ?_
    refine sg_getr X I fk_X3_15 (j := 1) (by decide) shC_19 rfl dX3_readUnit_51 ?_
    refine lv_dup hx hb dX3_readUnit_54 rfl ?_
    refine sg_getiN X I fn_X3_19 (by decide) shC_1 rfl dX3_readUnit_55 ?_
    refine lv_iconst (v := 1) hx hb dX3_readUnit_58 (by decide) ?_
    refine lv_iadd hx hb dX3_readUnit_59 ?_
    refine sg_putiN X I fn_X3_19 wk_9_2 rfl rfl (by decide) shC_1 rfl h dX3_readUnit_60 (fun s3 H locs h I => ?_)
    refine lv_iload_n hx hb dX3_readUnit_63 rfl (lv_at hl 2 rfl) ?_
    refine lv_bipush (v := 33) hx hb dX3_readUnit_64 (by decide) ?_
    refine lv_icmp_ne (tgt := 95) hx hb dX3_readUnit_66 (by decide) (fun z => ?_) (fun z => ?_)
    · have h := sg_iff h z
      refine lv_aload_n hx hb dX3_readUnit_95 rfl (lv_at hl 0 rfl) ?_
      refine lv_iload_n hx hb dX3_readUnit_96 rfl (lv_at hl 1 rfl) ?_
      refine lv_iconst (v := 1) hx hb dX3_readUnit_97 (by decide) ?_
      refine lv_iadd hx hb dX3_readUnit_98 ?_
      refine sg_callV (As := [.int (p1 + 1)]) X I mk_X3_40 (by omega) (by decide) shC_19 rfl (fun q9 e9 => c_X3_readCondition hlv hrec e9) h hl.1 rfl rfl (Nat.le_of_ble_eq_true rfl) dX3_readUnit_99 (fun v4 s5 H locs h I => ?_)
      refine lv_if_eq (tgt := 121) hx hb dX3_readUnit_102 (by decide) (fun z => ?_) (fun z => ?_)
      · have h := sg_ift h z
        refine lv_iconst (v := 0) hx hb dX3_readUnit_121 (by decide) ?_
        obtain rfl := Option.some.inj h
        exact hk _ _ _ _ _ I ⟨_, rfl, rfl⟩ dX3_readUnit_122
      · have h := sg_iff h z
        refine lv_aload_n hx hb dX3_readUnit_105 rfl (lv_at hl 0 rfl) ?_
        refine sg_getr X I fk_X3_15 (j := 1) (by decide) shC_19 rfl dX3_readUnit_106 ?_
        refine lv_bipush (v := 41) hx hb dX3_readUnit_109 (by decide) ?_
        refine sg_callV (As := [.int 41]) X I mk_X3_36 (by omega) (by decide) shC_1 rfl (fun q9 e9 => c_X9_takes e9) h hl.1 rfl rfl (Nat.le_of_ble_eq_true rfl) dX3_readUnit_111 (fun v6 s7 H locs h I => ?_)
        refine lv_if_eq (tgt := 121) hx hb dX3_readUnit_114 (by decide) (fun z => ?_) (fun z => ?_)
        · have h := sg_ift h z
          refine lv_iconst (v := 0) hx hb dX3_readUnit_121 (by decide) ?_
          obtain rfl := Option.some.inj h
          exact hk _ _ _ _ _ I ⟨_, rfl, rfl⟩ dX3_readUnit_122
        · have h := sg_iff h z
          refine lv_iconst (v := 1) hx hb dX3_readUnit_117 (by decide) ?_
          refine lv_goto (tgt := 122) hx hb dX3_readUnit_118 (by decide) ?_
          obtain rfl := Option.some.inj h
          exact hk _ _ _ _ _ I ⟨_, rfl, rfl⟩ dX3_readUnit_122
    · have h := sg_ift h z
      refine lv_aload_n hx hb dX3_readUnit_69 rfl (lv_at hl 0 rfl) ?_
      refine lv_iload_n hx hb dX3_readUnit_70 rfl (lv_at hl 1 rfl) ?_
      refine lv_iconst (v := 1) hx hb dX3_readUnit_71 (by decide) ?_
      refine lv_iadd hx hb dX3_readUnit_72 ?_
      refine sg_callV (As := [.int (p1 + 1)]) X I mk_X3_63 (by omega) (by decide) shC_19 rfl (fun q9 e9 => hrec _ _ _ e9) h hl.1 rfl rfl (Nat.le_of_ble_eq_true rfl) dX3_readUnit_73 (fun v8 s9 H locs h I => ?_)
      refine lv_if_eq (tgt := 93) hx hb dX3_readUnit_76 (by decide) (fun z => ?_) (fun z => ?_)
      · have h := sg_ift h z
        refine lv_iconst (v := 0) hx hb dX3_readUnit_93 (by decide) ?_
        obtain rfl := Option.some.inj h
        exact hk _ _ _ _ _ I ⟨_, rfl, rfl⟩ dX3_readUnit_94
      · have h := sg_iff h z
        refine lv_aload_n hx hb dX3_readUnit_79 rfl (lv_at hl 0 rfl) ?_
        refine lv_sipush (v := 20033) hx hb dX3_readUnit_80 (by decide) ?_
        refine sg_callV (As := [.int 20033]) X I mk_X3_54 (by omega) (by decide) shC_19 rfl (fun q9 e9 => c_X3_emit e9) h hl.1 rfl rfl (Nat.le_of_ble_eq_true rfl) dX3_readUnit_83 (fun v10 s11 H locs h I => ?_)
        refine lv_if_eq (tgt := 93) hx hb dX3_readUnit_86 (by decide) (fun z => ?_) (fun z => ?_)
        · have h := sg_ift h z
          refine lv_iconst (v := 0) hx hb dX3_readUnit_93 (by decide) ?_
          obtain rfl := Option.some.inj h
          exact hk _ _ _ _ _ I ⟨_, rfl, rfl⟩ dX3_readUnit_94
        · have h := sg_iff h z
          refine lv_iconst (v := 1) hx hb dX3_readUnit_89 (by decide) ?_
          refine lv_goto (tgt := 94) hx hb dX3_readUnit_90 (by decide) ?_
          obtain rfl := Option.some.inj h
          exact hk _ _ _ _ _ I ⟨_, rfl, rfl⟩ dX3_readUnit_94
  · have h := sg_iff h z
    refine lv_iconst (v := 0) hx hb dX3_readUnit_48 (by decide) ?_
    obtain rfl := Option.some.inj h
    exact hk _ _ _ _ _ I ⟨_, rfl, rfl⟩ dX3_readUnit_49
def f_X3_readUnit_b (N : Nat) (rec : Int32 → sgS → Option (Int32 × sgS)) (p1 : Int32) (σ : sgS) : Option (Int32 × sgS) :=
  sg_cl (f_X9_sign N σ) fun v1 s2 =>
if v1 = 33 then
  (f_X3_readUnit_b_B42 N rec p1 v1 s2)
else
  (if v1 = 40 then
    (f_X3_readUnit_b_B42 N rec p1 v1 s2)
  else
    (sg_cl (f_X3_readSum 40 N p1 s2) fun v12 s13 =>
    if v12 = 0 then
      (some (vp_nar .boolean 0, s13))
    else
      (sg_cl (f_X3_goOnComparison N p1 s13) fun v14 s15 =>
      if v14 = 0 then
        (some (vp_nar .boolean 0, s15))
      else
        (some (vp_nar .boolean 1, s15)))))
set_option maxHeartbeats 4000000 in
set_option maxRecDepth 100000 in
theorem b_X3_readUnit_b {p : Program} {l : Launch} {e : Env} {R : Room} {s : State} {m : MethodId} {args : Array Value} {below : List Frame} {meth : Method} {c : Code} {Q : State → Prop} {P : sgP} {A : Nat → Prop} {lv : Nat} {N : Nat} {rec : Int32 → sgS → Option (Int32 × sgS)} {p1 : Int32} {σ : sgS} (X : sg_C P A (lv + 4) p R s m args c cX3_readUnit 3 RX3) (hlv : 127 ≤ lv) (hrec : ∀ (p1 : Int32) (σ : sgS) (q : Int32 × sgS), rec p1 σ = some q → sg_Mi P shC 332 l yX3_readUnit cX3_readUnit 3 (some .boolean) lv [.ref (sgA P 19), .int p1] σ q) {H : Heap} {locs : List Loc} (I : sg_I P shC 332 A s.heap σ H locs) {ls : Array Slot} (hl : lv_has ls 3 [(0, .ref (sgA P 19)), (1, .int p1)]) {st : Int32 × sgS} (h : f_X3_readUnit_b N rec p1 σ = some st) (hk : sg_Ri p l e R s m args below meth c Q P shC 332 A cX3_readUnit (some .boolean) st) : W p l e R s m args below meth c H locs 0 0 Q (F0 m 0 ls []) := by
  unfold f_X3_readUnit_b at h
  have hx := X.1.1
  have hb := X.1.2.1
  have hown := X.1.2.2.2.1
  have hts := X.1.2.2.2.2
  refine lv_aload_n hx hb dX3_readUnit_0 rfl (lv_at hl 0 rfl) ?_
  refine sg_getr X I fk_X3_15 (j := 1) (by decide) shC_19 rfl dX3_readUnit_1 ?_
  refine sg_callV (As := []) X I mk_X3_32 (by omega) (by decide) shC_1 rfl (fun q9 e9 => c_X9_sign e9) h hl.1 rfl rfl (Nat.le_of_ble_eq_true rfl) dX3_readUnit_4 (fun v1 s2 H locs h I => ?_)
  refine lv_istore_n (lv' := [(2, .int v1), (0, .ref (sgA P 19)), (1, .int p1)]) hx hb dX3_readUnit_7 rfl hl (by decide) rfl (fun ls hl => ?_)
  refine lv_iload_n hx hb dX3_readUnit_8 rfl (lv_at hl 0 rfl) ?_
  refine lv_bipush (v := 33) hx hb dX3_readUnit_9 (by decide) ?_
  refine lv_icmp_eq (tgt := 42) hx hb dX3_readUnit_11 (by decide) (fun z => ?_) (fun z => ?_)
  · have h := sg_ift h z
    exact b_X3_readUnit_b_B42 X hlv hrec I (lv_sub hl [1, 2, 0] rfl) h hk
  · have h := sg_iff h z
    refine lv_iload_n hx hb dX3_readUnit_14 rfl (lv_at hl 0 rfl) ?_
    refine lv_bipush (v := 40) hx hb dX3_readUnit_15 (by decide) ?_
    refine lv_icmp_eq (tgt := 42) hx hb dX3_readUnit_17 (by decide) (fun z => ?_) (fun z => ?_)
    · have h := sg_ift h z
      exact b_X3_readUnit_b_B42 X hlv hrec I (lv_sub hl [1, 2, 0] rfl) h hk
    · have h := sg_iff h z
      refine lv_aload_n hx hb dX3_readUnit_20 rfl (lv_at hl 1 rfl) ?_
      refine lv_iload_n hx hb dX3_readUnit_21 rfl (lv_at hl 2 rfl) ?_
      refine sg_callV (As := [.int p1]) X I mk_X3_46 (by omega) (by decide) shC_19 rfl (fun q9 e9 => c_X3_readSum e9) h hl.1 rfl rfl (Nat.le_of_ble_eq_true rfl) dX3_readUnit_22 (fun v12 s13 H locs h I => ?_)
      refine lv_if_eq (tgt := 40) hx hb dX3_readUnit_25 (by decide) (fun z => ?_) (fun z => ?_)
      · have h := sg_ift h z
        refine lv_iconst (v := 0) hx hb dX3_readUnit_40 (by decide) ?_
        obtain rfl := Option.some.inj h
        exact hk _ _ _ _ _ I ⟨_, rfl, rfl⟩ dX3_readUnit_41
      · have h := sg_iff h z
        refine lv_aload_n hx hb dX3_readUnit_28 rfl (lv_at hl 1 rfl) ?_
        refine lv_iload_n hx hb dX3_readUnit_29 rfl (lv_at hl 2 rfl) ?_
        refine sg_callV (As := [.int p1]) X I mk_X3_57 (by omega) (by decide) shC_19 rfl (fun q9 e9 => c_X3_goOnComparison e9) h hl.1 rfl rfl (Nat.le_of_ble_eq_true rfl) dX3_readUnit_30 (fun v14 s15 H locs h I => ?_)
        refine lv_if_eq (tgt := 40) hx hb dX3_readUnit_33 (by decide) (fun z => ?_) (fun z => ?_)
        · have h := sg_ift h z
          refine lv_iconst (v := 0) hx hb dX3_readUnit_40 (by decide) ?_
          obtain rfl := Option.some.inj h
          exact hk _ _ _ _ _ I ⟨_, rfl, rfl⟩ dX3_readUnit_41
        · have h := sg_iff h z
          refine lv_iconst (v := 1) hx hb dX3_readUnit_36 (by decide) ?_
          refine lv_goto (tgt := 41) hx hb dX3_readUnit_37 (by decide) ?_
          obtain rfl := Option.some.inj h
          exact hk _ _ _ _ _ I ⟨_, rfl, rfl⟩ dX3_readUnit_41
set_option maxHeartbeats 4000000 in
set_option maxRecDepth 100000 in
theorem c_X3_readUnit_b {l : Launch} {P : sgP} {lv : Nat} {N : Nat} {rec : Int32 → sgS → Option (Int32 × sgS)} {p1 : Int32} {σ : sgS} (hlv : 127 ≤ lv) (hrec : ∀ (p1 : Int32) (σ : sgS) (q : Int32 × sgS), rec p1 σ = some q → sg_Mi P shC 332 l yX3_readUnit cX3_readUnit 3 (some .boolean) lv [.ref (sgA P 19), .int p1] σ q) {q : Int32 × sgS} (h : f_X3_readUnit_b N rec p1 σ = some q) : sg_Mi P shC 332 l yX3_readUnit cX3_readUnit 3 (some .boolean) (lv + 4) [.ref (sgA P 19), .int p1] σ q := by
  refine sg_mki (plainFor_of_name (by decide +kernel)) (Nat.le_of_ble_eq_true rfl) ?_
  intro p e R s m args below meth c Q A ls H locs X I hl hk
  exact b_X3_readUnit_b X hlv hrec I hl h hk
def f_X3_readUnit : Nat → Nat → Int32 → sgS → Option (Int32 × sgS)
  | 0, _, _, _ => none
  | d + 1, N, p1, σ => f_X3_readUnit_b N (f_X3_readUnit d N) p1 σ
set_option maxHeartbeats 4000000 in
set_option maxRecDepth 100000 in
theorem cd_X3_readUnit {l : Launch} {P : sgP} {N : Nat} : ∀ (d : Nat) (p1 : Int32) (σ : sgS) (q : Int32 × sgS), f_X3_readUnit d N p1 σ = some q → sg_Mi P shC 332 l yX3_readUnit cX3_readUnit 3 (some .boolean) (127 + 4 * d) [.ref (sgA P 19), .int p1] σ q := by
  intro d
  induction d with
  | zero => intro p1 σ q h; cases h
  | succ d ih =>
    intro p1 σ q h
    have e : 127 + 4 * (d + 1) = 127 + 4 * d + 4 := by omega
    rw [e]
    exact c_X3_readUnit_b (by omega) ih h
set_option maxHeartbeats 4000000 in
set_option maxRecDepth 100000 in
theorem c_X3_readUnit {l : Launch} {P : sgP} {N : Nat} {p1 : Int32} {σ : sgS} {q : Int32 × sgS} (h : f_X3_readUnit 40 N p1 σ = some q) : sg_Mi P shC 332 l yX3_readUnit cX3_readUnit 3 (some .boolean) 287 [.ref (sgA P 19), .int p1] σ q := cd_X3_readUnit 40 p1 σ q h
def f_X3_readWorth (N : Nat) (σ : sgS) : Option (Int32 × sgS) :=
  sg_cl (f_X9_takes N 63 σ) fun v1 s2 =>
if v1 = 0 then
  (some (vp_nar .boolean 0, s2))
else
  (sg_cl (f_X3_emit N 20063 s2) fun v3 s4 =>
  if v3 = 0 then
    (some (vp_nar .boolean 0, s4))
  else
    (sg_cl (f_X3_readSum 40 N 0 s4) fun v5 s6 =>
    if v5 = 0 then
      (some (vp_nar .boolean 0, s6))
    else
      (sg_cl (f_X3_emit N 20059 s6) fun v7 s8 =>
      if v7 = 0 then
        (some (vp_nar .boolean 0, s8))
      else
        (some (vp_nar .boolean 1, s8)))))
set_option maxHeartbeats 4000000 in
set_option maxRecDepth 100000 in
theorem b_X3_readWorth {p : Program} {l : Launch} {e : Env} {R : Room} {s : State} {m : MethodId} {args : Array Value} {below : List Frame} {meth : Method} {c : Code} {Q : State → Prop} {P : sgP} {A : Nat → Prop} {N : Nat} {σ : sgS} (X : sg_C P A 126 p R s m args c cX3_readWorth 1 RX3) {H : Heap} {locs : List Loc} (I : sg_I P shC 332 A s.heap σ H locs) {ls : Array Slot} (hl : lv_has ls 1 [(0, .ref (sgA P 19))]) {st : Int32 × sgS} (h : f_X3_readWorth N σ = some st) (hk : sg_Ri p l e R s m args below meth c Q P shC 332 A cX3_readWorth (some .boolean) st) : W p l e R s m args below meth c H locs 0 0 Q (F0 m 0 ls []) := by
  unfold f_X3_readWorth at h
  have hx := X.1.1
  have hb := X.1.2.1
  have hown := X.1.2.2.2.1
  have hts := X.1.2.2.2.2
  refine lv_aload_n hx hb dX3_readWorth_0 rfl (lv_at hl 0 rfl) ?_
  refine sg_getr X I fk_X3_15 (j := 1) (by decide) shC_19 rfl dX3_readWorth_1 ?_
  refine lv_bipush (v := 63) hx hb dX3_readWorth_4 (by decide) ?_
  refine sg_callV (As := [.int 63]) X I mk_X3_36 (by decide) (by decide) shC_1 rfl (fun q9 e9 => c_X9_takes e9) h hl.1 rfl rfl (Nat.le_of_ble_eq_true rfl) dX3_readWorth_6 (fun v1 s2 H locs h I => ?_)
  refine lv_if_eq (tgt := 44) hx hb dX3_readWorth_9 (by decide) (fun z => ?_) (fun z => ?_)
  · have h := sg_ift h z
    refine lv_iconst (v := 0) hx hb dX3_readWorth_44 (by decide) ?_
    obtain rfl := Option.some.inj h
    exact hk _ _ _ _ _ I ⟨_, rfl, rfl⟩ dX3_readWorth_45
  · have h := sg_iff h z
    refine lv_aload_n hx hb dX3_readWorth_12 rfl (lv_at hl 0 rfl) ?_
    refine lv_sipush (v := 20063) hx hb dX3_readWorth_13 (by decide) ?_
    refine sg_callV (As := [.int 20063]) X I mk_X3_54 (by decide) (by decide) shC_19 rfl (fun q9 e9 => c_X3_emit e9) h hl.1 rfl rfl (Nat.le_of_ble_eq_true rfl) dX3_readWorth_16 (fun v3 s4 H locs h I => ?_)
    refine lv_if_eq (tgt := 44) hx hb dX3_readWorth_19 (by decide) (fun z => ?_) (fun z => ?_)
    · have h := sg_ift h z
      refine lv_iconst (v := 0) hx hb dX3_readWorth_44 (by decide) ?_
      obtain rfl := Option.some.inj h
      exact hk _ _ _ _ _ I ⟨_, rfl, rfl⟩ dX3_readWorth_45
    · have h := sg_iff h z
      refine lv_aload_n hx hb dX3_readWorth_22 rfl (lv_at hl 0 rfl) ?_
      refine lv_iconst (v := 0) hx hb dX3_readWorth_23 (by decide) ?_
      refine sg_callV (As := [.int 0]) X I mk_X3_46 (by decide) (by decide) shC_19 rfl (fun q9 e9 => c_X3_readSum e9) h hl.1 rfl rfl (Nat.le_of_ble_eq_true rfl) dX3_readWorth_24 (fun v5 s6 H locs h I => ?_)
      refine lv_if_eq (tgt := 44) hx hb dX3_readWorth_27 (by decide) (fun z => ?_) (fun z => ?_)
      · have h := sg_ift h z
        refine lv_iconst (v := 0) hx hb dX3_readWorth_44 (by decide) ?_
        obtain rfl := Option.some.inj h
        exact hk _ _ _ _ _ I ⟨_, rfl, rfl⟩ dX3_readWorth_45
      · have h := sg_iff h z
        refine lv_aload_n hx hb dX3_readWorth_30 rfl (lv_at hl 0 rfl) ?_
        refine lv_sipush (v := 20059) hx hb dX3_readWorth_31 (by decide) ?_
        refine sg_callV (As := [.int 20059]) X I mk_X3_54 (by decide) (by decide) shC_19 rfl (fun q9 e9 => c_X3_emit e9) h hl.1 rfl rfl (Nat.le_of_ble_eq_true rfl) dX3_readWorth_34 (fun v7 s8 H locs h I => ?_)
        refine lv_if_eq (tgt := 44) hx hb dX3_readWorth_37 (by decide) (fun z => ?_) (fun z => ?_)
        · have h := sg_ift h z
          refine lv_iconst (v := 0) hx hb dX3_readWorth_44 (by decide) ?_
          obtain rfl := Option.some.inj h
          exact hk _ _ _ _ _ I ⟨_, rfl, rfl⟩ dX3_readWorth_45
        · have h := sg_iff h z
          refine lv_iconst (v := 1) hx hb dX3_readWorth_40 (by decide) ?_
          refine lv_goto (tgt := 45) hx hb dX3_readWorth_41 (by decide) ?_
          obtain rfl := Option.some.inj h
          exact hk _ _ _ _ _ I ⟨_, rfl, rfl⟩ dX3_readWorth_45
set_option maxHeartbeats 4000000 in
set_option maxRecDepth 100000 in
theorem c_X3_readWorth {l : Launch} {P : sgP} {N : Nat} {σ : sgS} {q : Int32 × sgS} (h : f_X3_readWorth N σ = some q) : sg_Mi P shC 332 l yX3_readWorth cX3_readWorth 1 (some .boolean) 126 [.ref (sgA P 19)] σ q := by
  refine sg_mki (plainFor_of_name (by decide +kernel)) (Nat.le_of_ble_eq_true rfl) ?_
  intro p e R s m args below meth c Q A ls H locs X I hl hk
  exact b_X3_readWorth X I hl h hk
def f_X3_readClause_B46 (N : Nat) (σ : sgS) : Option (Int32 × sgS) :=
  sg_cl (f_X3_readCondition N (f_X3_readUnit 40 N) 0 σ) fun v7 s8 =>
if v7 = 0 then
  (some (vp_nar .boolean 0, s8))
else
  (sg_cl (f_X3_readWorth N s8) fun v9 s10 =>
  if v9 = 0 then
    (some (vp_nar .boolean 0, s10))
  else
    (some (vp_nar .boolean 1, s10)))
set_option maxHeartbeats 4000000 in
set_option maxRecDepth 100000 in
theorem b_X3_readClause_B46 {p : Program} {l : Launch} {e : Env} {R : Room} {s : State} {m : MethodId} {args : Array Value} {below : List Frame} {meth : Method} {c : Code} {Q : State → Prop} {P : sgP} {A : Nat → Prop} {N : Nat} {σ : sgS} (X : sg_C P A 291 p R s m args c cX3_readClause 2 RX3) {H : Heap} {locs : List Loc} (I : sg_I P shC 332 A s.heap σ H locs) {ls : Array Slot} (hl : lv_has ls 2 [(0, .ref (sgA P 19))]) {st : Int32 × sgS} (h : f_X3_readClause_B46 N σ = some st) (hk : sg_Ri p l e R s m args below meth c Q P shC 332 A cX3_readClause (some .boolean) st) : W p l e R s m args below meth c H locs 0 0 Q (F0 m 46 ls []) := by
  unfold f_X3_readClause_B46 at h
  have hx := X.1.1
  have hb := X.1.2.1
  have hown := X.1.2.2.2.1
  have hts := X.1.2.2.2.2
  refine lv_aload_n hx hb dX3_readClause_46 rfl (lv_at hl 0 rfl) ?_
  refine lv_iconst (v := 0) hx hb dX3_readClause_47 (by decide) ?_
  refine sg_callV (As := [.int 0]) X I mk_X3_40 (by decide) (by decide) shC_19 rfl (fun q9 e9 => c_X3_readCondition (lv := 287) (by decide) (fun _ _ _ => c_X3_readUnit) e9) h hl.1 rfl rfl (Nat.le_of_ble_eq_true rfl) dX3_readClause_48 (fun v7 s8 H locs h I => ?_)
  refine lv_if_eq (tgt := 65) hx hb dX3_readClause_51 (by decide) (fun z => ?_) (fun z => ?_)
  · have h := sg_ift h z
    refine lv_iconst (v := 0) hx hb dX3_readClause_65 (by decide) ?_
    obtain rfl := Option.some.inj h
    exact hk _ _ _ _ _ I ⟨_, rfl, rfl⟩ dX3_readClause_66
  · have h := sg_iff h z
    refine lv_aload_n hx hb dX3_readClause_54 rfl (lv_at hl 0 rfl) ?_
    refine sg_callV (As := []) X I mk_X3_43 (by decide) (by decide) shC_19 rfl (fun q9 e9 => c_X3_readWorth e9) h hl.1 rfl rfl (Nat.le_of_ble_eq_true rfl) dX3_readClause_55 (fun v9 s10 H locs h I => ?_)
    refine lv_if_eq (tgt := 65) hx hb dX3_readClause_58 (by decide) (fun z => ?_) (fun z => ?_)
    · have h := sg_ift h z
      refine lv_iconst (v := 0) hx hb dX3_readClause_65 (by decide) ?_
      obtain rfl := Option.some.inj h
      exact hk _ _ _ _ _ I ⟨_, rfl, rfl⟩ dX3_readClause_66
    · have h := sg_iff h z
      refine lv_iconst (v := 1) hx hb dX3_readClause_61 (by decide) ?_
      refine lv_goto (tgt := 66) hx hb dX3_readClause_62 (by decide) ?_
      obtain rfl := Option.some.inj h
      exact hk _ _ _ _ _ I ⟨_, rfl, rfl⟩ dX3_readClause_66
def f_X3_readClause (N : Nat) (σ : sgS) : Option (Int32 × sgS) :=
  sg_cl (f_X9_takes N 121 σ) fun v1 s2 =>
if v1 = 0 then
  (some (vp_nar .boolean 0, s2))
else
  (sg_cl (f_X9_takes N 58 s2) fun v3 s4 =>
  if v3 = 0 then
    (some (vp_nar .boolean 0, s4))
  else
    (sg_cl (f_X9_sign N s4) fun v5 s6 =>
    if v5 = 33 then
      (f_X3_readClause_B46 N s6)
    else
      (if v5 = 40 then
        (f_X3_readClause_B46 N s6)
      else
        (sg_cl (f_X3_readSum 40 N 0 s6) fun v11 s12 =>
        if v11 = 0 then
          (some (vp_nar .boolean 0, s12))
        else
          (sg_cl (f_X9_sign N s12) fun v13 s14 =>
          sg_cr (f_X3_isComparison N v13 s14) fun v15 =>
          if v15 = 0 then
            (sg_cl (f_X3_emit N 20059 s14) fun v22 s23 =>
            some (vp_nar .boolean v22, s23))
          else
            (sg_cl (f_X3_goOnComparison N 0 s14) fun v16 s17 =>
            if v16 = 0 then
              (some (vp_nar .boolean 0, s17))
            else
              (sg_cl (f_X3_goOnCondition N (f_X3_readUnit 40 N) 0 s17) fun v18 s19 =>
              if v18 = 0 then
                (some (vp_nar .boolean 0, s19))
              else
                (sg_cl (f_X3_readWorth N s19) fun v20 s21 =>
                if v20 = 0 then
                  (some (vp_nar .boolean 0, s21))
                else
                  (some (vp_nar .boolean 1, s21))))))))))
set_option maxHeartbeats 4000000 in
set_option maxRecDepth 100000 in
theorem b_X3_readClause {p : Program} {l : Launch} {e : Env} {R : Room} {s : State} {m : MethodId} {args : Array Value} {below : List Frame} {meth : Method} {c : Code} {Q : State → Prop} {P : sgP} {A : Nat → Prop} {N : Nat} {σ : sgS} (X : sg_C P A 291 p R s m args c cX3_readClause 2 RX3) {H : Heap} {locs : List Loc} (I : sg_I P shC 332 A s.heap σ H locs) {ls : Array Slot} (hl : lv_has ls 2 [(0, .ref (sgA P 19))]) {st : Int32 × sgS} (h : f_X3_readClause N σ = some st) (hk : sg_Ri p l e R s m args below meth c Q P shC 332 A cX3_readClause (some .boolean) st) : W p l e R s m args below meth c H locs 0 0 Q (F0 m 0 ls []) := by
  unfold f_X3_readClause at h
  have hx := X.1.1
  have hb := X.1.2.1
  have hown := X.1.2.2.2.1
  have hts := X.1.2.2.2.2
  refine lv_aload_n hx hb dX3_readClause_0 rfl (lv_at hl 0 rfl) ?_
  refine sg_getr X I fk_X3_15 (j := 1) (by decide) shC_19 rfl dX3_readClause_1 ?_
  refine lv_bipush (v := 121) hx hb dX3_readClause_4 (by decide) ?_
  refine sg_callV (As := [.int 121]) X I mk_X3_36 (by decide) (by decide) shC_1 rfl (fun q9 e9 => c_X9_takes e9) h hl.1 rfl rfl (Nat.le_of_ble_eq_true rfl) dX3_readClause_6 (fun v1 s2 H locs h I => ?_)
  refine lv_if_eq (tgt := 24) hx hb dX3_readClause_9 (by decide) (fun z => ?_) (fun z => ?_)
  · have h := sg_ift h z
    refine lv_iconst (v := 0) hx hb dX3_readClause_24 (by decide) ?_
    obtain rfl := Option.some.inj h
    exact hk _ _ _ _ _ I ⟨_, rfl, rfl⟩ dX3_readClause_25
  · have h := sg_iff h z
    refine lv_aload_n hx hb dX3_readClause_12 rfl (lv_at hl 0 rfl) ?_
    refine sg_getr X I fk_X3_15 (j := 1) (by decide) shC_19 rfl dX3_readClause_13 ?_
    refine lv_bipush (v := 58) hx hb dX3_readClause_16 (by decide) ?_
    refine sg_callV (As := [.int 58]) X I mk_X3_36 (by decide) (by decide) shC_1 rfl (fun q9 e9 => c_X9_takes e9) h hl.1 rfl rfl (Nat.le_of_ble_eq_true rfl) dX3_readClause_18 (fun v3 s4 H locs h I => ?_)
    refine lv_if_ne (tgt := 26) hx hb dX3_readClause_21 (by decide) (fun z => ?_) (fun z => ?_)
    · have h := sg_iff h z
      refine lv_aload_n hx hb dX3_readClause_26 rfl (lv_at hl 0 rfl) ?_
      refine sg_getr X I fk_X3_15 (j := 1) (by decide) shC_19 rfl dX3_readClause_27 ?_
      refine sg_callV (As := []) X I mk_X3_32 (by decide) (by decide) shC_1 rfl (fun q9 e9 => c_X9_sign e9) h hl.1 rfl rfl (Nat.le_of_ble_eq_true rfl) dX3_readClause_30 (fun v5 s6 H locs h I => ?_)
      refine lv_istore_n (lv' := [(1, .int v5), (0, .ref (sgA P 19))]) hx hb dX3_readClause_33 rfl hl (by decide) rfl (fun ls hl => ?_)
      refine lv_iload_n hx hb dX3_readClause_34 rfl (lv_at hl 0 rfl) ?_
      refine lv_bipush (v := 33) hx hb dX3_readClause_35 (by decide) ?_
      refine lv_icmp_eq (tgt := 46) hx hb dX3_readClause_37 (by decide) (fun z => ?_) (fun z => ?_)
      · have h := sg_ift h z
        exact b_X3_readClause_B46 X I (lv_sub hl [1] rfl) h hk
      · have h := sg_iff h z
        refine lv_iload_n hx hb dX3_readClause_40 rfl (lv_at hl 0 rfl) ?_
        refine lv_bipush (v := 40) hx hb dX3_readClause_41 (by decide) ?_
        refine lv_icmp_ne (tgt := 67) hx hb dX3_readClause_43 (by decide) (fun z => ?_) (fun z => ?_)
        · have h := sg_iff h z
          refine lv_aload_n hx hb dX3_readClause_67 rfl (lv_at hl 1 rfl) ?_
          refine lv_iconst (v := 0) hx hb dX3_readClause_68 (by decide) ?_
          refine sg_callV (As := [.int 0]) X I mk_X3_46 (by decide) (by decide) shC_19 rfl (fun q9 e9 => c_X3_readSum e9) h hl.1 rfl rfl (Nat.le_of_ble_eq_true rfl) dX3_readClause_69 (fun v11 s12 H locs h I => ?_)
          refine lv_if_ne (tgt := 77) hx hb dX3_readClause_72 (by decide) (fun z => ?_) (fun z => ?_)
          · have h := sg_iff h z
            refine lv_aload_n hx hb dX3_readClause_77 rfl (lv_at hl 1 rfl) ?_
            refine sg_getr X I fk_X3_15 (j := 1) (by decide) shC_19 rfl dX3_readClause_78 ?_
            refine sg_callV (As := []) X I mk_X3_32 (by decide) (by decide) shC_1 rfl (fun q9 e9 => c_X9_sign e9) h hl.1 rfl rfl (Nat.le_of_ble_eq_true rfl) dX3_readClause_81 (fun v13 s14 H locs h I => ?_)
            refine sg_callSr (As := [.int v13]) X I mk_X3_49 (by decide) (fun q9 e9 => c_X3_isComparison e9) h hl.1 rfl rfl (Nat.le_of_ble_eq_true rfl) dX3_readClause_84 (fun v15 H locs h I => ?_)
            refine lv_if_ne (tgt := 98) hx hb dX3_readClause_87 (by decide) (fun z => ?_) (fun z => ?_)
            · have h := sg_iff h z
              refine lv_aload_n hx hb dX3_readClause_98 rfl (lv_at hl 1 rfl) ?_
              refine lv_iconst (v := 0) hx hb dX3_readClause_99 (by decide) ?_
              refine sg_callV (As := [.int 0]) X I mk_X3_57 (by decide) (by decide) shC_19 rfl (fun q9 e9 => c_X3_goOnComparison e9) h hl.1 rfl rfl (Nat.le_of_ble_eq_true rfl) dX3_readClause_100 (fun v16 s17 H locs h I => ?_)
              refine lv_if_eq (tgt := 125) hx hb dX3_readClause_103 (by decide) (fun z => ?_) (fun z => ?_)
              · have h := sg_ift h z
                refine lv_iconst (v := 0) hx hb dX3_readClause_125 (by decide) ?_
                obtain rfl := Option.some.inj h
                exact hk _ _ _ _ _ I ⟨_, rfl, rfl⟩ dX3_readClause_126
              · have h := sg_iff h z
                refine lv_aload_n hx hb dX3_readClause_106 rfl (lv_at hl 1 rfl) ?_
                refine lv_iconst (v := 0) hx hb dX3_readClause_107 (by decide) ?_
                refine sg_callV (As := [.int 0]) X I mk_X3_60 (by decide) (by decide) shC_19 rfl (fun q9 e9 => c_X3_goOnCondition (lv := 287) (by decide) (fun _ _ _ => c_X3_readUnit) e9) h hl.1 rfl rfl (Nat.le_of_ble_eq_true rfl) dX3_readClause_108 (fun v18 s19 H locs h I => ?_)
                refine lv_if_eq (tgt := 125) hx hb dX3_readClause_111 (by decide) (fun z => ?_) (fun z => ?_)
                · have h := sg_ift h z
                  refine lv_iconst (v := 0) hx hb dX3_readClause_125 (by decide) ?_
                  obtain rfl := Option.some.inj h
                  exact hk _ _ _ _ _ I ⟨_, rfl, rfl⟩ dX3_readClause_126
                · have h := sg_iff h z
                  refine lv_aload_n hx hb dX3_readClause_114 rfl (lv_at hl 1 rfl) ?_
                  refine sg_callV (As := []) X I mk_X3_43 (by decide) (by decide) shC_19 rfl (fun q9 e9 => c_X3_readWorth e9) h hl.1 rfl rfl (Nat.le_of_ble_eq_true rfl) dX3_readClause_115 (fun v20 s21 H locs h I => ?_)
                  refine lv_if_eq (tgt := 125) hx hb dX3_readClause_118 (by decide) (fun z => ?_) (fun z => ?_)
                  · have h := sg_ift h z
                    refine lv_iconst (v := 0) hx hb dX3_readClause_125 (by decide) ?_
                    obtain rfl := Option.some.inj h
                    exact hk _ _ _ _ _ I ⟨_, rfl, rfl⟩ dX3_readClause_126
                  · have h := sg_iff h z
                    refine lv_iconst (v := 1) hx hb dX3_readClause_121 (by decide) ?_
                    refine lv_goto (tgt := 126) hx hb dX3_readClause_122 (by decide) ?_
                    obtain rfl := Option.some.inj h
                    exact hk _ _ _ _ _ I ⟨_, rfl, rfl⟩ dX3_readClause_126
            · have h := sg_ift h z
              refine lv_aload_n hx hb dX3_readClause_90 rfl (lv_at hl 1 rfl) ?_
              refine lv_sipush (v := 20059) hx hb dX3_readClause_91 (by decide) ?_
              refine sg_callV (As := [.int 20059]) X I mk_X3_54 (by decide) (by decide) shC_19 rfl (fun q9 e9 => c_X3_emit e9) h hl.1 rfl rfl (Nat.le_of_ble_eq_true rfl) dX3_readClause_94 (fun v22 s23 H locs h I => ?_)
              obtain rfl := Option.some.inj h
              exact hk _ _ _ _ _ I ⟨_, rfl, rfl⟩ dX3_readClause_97
          · have h := sg_ift h z
            refine lv_iconst (v := 0) hx hb dX3_readClause_75 (by decide) ?_
            obtain rfl := Option.some.inj h
            exact hk _ _ _ _ _ I ⟨_, rfl, rfl⟩ dX3_readClause_76
        · have h := sg_ift h z
          exact b_X3_readClause_B46 X I (lv_sub hl [1] rfl) h hk
    · have h := sg_ift h z
      refine lv_iconst (v := 0) hx hb dX3_readClause_24 (by decide) ?_
      obtain rfl := Option.some.inj h
      exact hk _ _ _ _ _ I ⟨_, rfl, rfl⟩ dX3_readClause_25
set_option maxHeartbeats 4000000 in
set_option maxRecDepth 100000 in
theorem c_X3_readClause {l : Launch} {P : sgP} {N : Nat} {σ : sgS} {q : Int32 × sgS} (h : f_X3_readClause N σ = some q) : sg_Mi P shC 332 l yX3_readClause cX3_readClause 2 (some .boolean) 291 [.ref (sgA P 19)] σ q := by
  refine sg_mki (plainFor_of_name (by decide +kernel)) (Nat.le_of_ble_eq_true rfl) ?_
  intro p e R s m args below meth c Q A ls H locs X I hl hk
  exact b_X3_readClause X I hl h hk
def f_X3_readLaw_L15 (N : Nat) (x1 : Int32) (σ : sgS) : Option ((Int32 × sgS) ⊕ ((sgS × Int32) ⊕ (sgS))) :=
  if 240 ≤ x1 then
  (some (.inr (.inr σ)))
else
  (sg_cl (f_X3_readClause N σ) fun v3 s4 =>
  if v3 = 0 then
    (some (.inl (vp_nar .boolean 0, s4)))
  else
    (sg_cl (f_X9_sign N s4) fun v5 s6 =>
    if v5 = ((-1)) then
      (some (.inl (vp_nar .boolean 1, s6)))
    else
      (sg_cl (f_X9_takes N 59 s6) fun v7 s8 =>
      if v7 = 0 then
        (some (.inl (vp_nar .boolean 0, s8)))
      else
        (some (.inr (.inl (s8, x1 + 1)))))))
set_option maxHeartbeats 4000000 in
set_option maxRecDepth 100000 in
theorem b_X3_readLaw_L15 {p : Program} {l : Launch} {e : Env} {R : Room} {s : State} {m : MethodId} {args : Array Value} {below : List Frame} {meth : Method} {c : Code} {Q : State → Prop} {P : sgP} {A : Nat → Prop} {N : Nat} {x1 : Int32} {σ : sgS} (X : sg_C P A 292 p R s m args c cX3_readLaw 2 RX3) {H : Heap} {locs : List Loc} (I : sg_I P shC 332 A s.heap σ H locs) {ls : Array Slot} (hl : lv_has ls 2 [(0, .ref (sgA P 19)), (1, .int x1)]) {st : (Int32 × sgS) ⊕ ((sgS × Int32) ⊕ (sgS))} (h : f_X3_readLaw_L15 N x1 σ = some st) (hk : sg_k3 (sg_Ri p l e R s m args below meth c Q P shC 332 A cX3_readLaw (some .boolean)) (fun x => sg_Wt p l e R s m args below meth c Q P shC 332 A 2 15 x.1 [(0, .ref (sgA P 19)), (1, .int x.2)]) (fun y => sg_Wt p l e R s m args below meth c Q P shC 332 A 2 64 y []) st) : W p l e R s m args below meth c H locs 0 0 Q (F0 m 15 ls []) := by
  unfold f_X3_readLaw_L15 at h
  have hx := X.1.1
  have hb := X.1.2.1
  have hown := X.1.2.2.2.1
  have hts := X.1.2.2.2.2
  refine lv_iload_n hx hb dX3_readLaw_15 rfl (lv_at hl 1 rfl) ?_
  refine lv_sipush (v := 240) hx hb dX3_readLaw_16 (by decide) ?_
  refine lv_icmp_ge (tgt := 64) hx hb dX3_readLaw_19 (by decide) (fun z => ?_) (fun z => ?_)
  · have h := sg_ift h z
    obtain rfl := Option.some.inj h
    exact sg_go hk I (lv_sub hl [] rfl)
  · have h := sg_iff h z
    refine lv_aload_n hx hb dX3_readLaw_22 rfl (lv_at hl 0 rfl) ?_
    refine sg_callV (As := []) X I mk_X3_28 (by decide) (by decide) shC_19 rfl (fun q9 e9 => c_X3_readClause e9) h hl.1 rfl rfl (Nat.le_of_ble_eq_true rfl) dX3_readLaw_23 (fun v3 s4 H locs h I => ?_)
    refine lv_if_ne (tgt := 31) hx hb dX3_readLaw_26 (by decide) (fun z => ?_) (fun z => ?_)
    · have h := sg_iff h z
      refine lv_aload_n hx hb dX3_readLaw_31 rfl (lv_at hl 0 rfl) ?_
      refine sg_getr X I fk_X3_15 (j := 1) (by decide) shC_19 rfl dX3_readLaw_32 ?_
      refine sg_callV (As := []) X I mk_X3_32 (by decide) (by decide) shC_1 rfl (fun q9 e9 => c_X9_sign e9) h hl.1 rfl rfl (Nat.le_of_ble_eq_true rfl) dX3_readLaw_35 (fun v5 s6 H locs h I => ?_)
      refine lv_iconst (v := -1) hx hb dX3_readLaw_38 (by decide) ?_
      refine lv_icmp_ne (tgt := 44) hx hb dX3_readLaw_39 (by decide) (fun z => ?_) (fun z => ?_)
      · have h := sg_iff h z
        refine lv_aload_n hx hb dX3_readLaw_44 rfl (lv_at hl 0 rfl) ?_
        refine sg_getr X I fk_X3_15 (j := 1) (by decide) shC_19 rfl dX3_readLaw_45 ?_
        refine lv_bipush (v := 59) hx hb dX3_readLaw_48 (by decide) ?_
        refine sg_callV (As := [.int 59]) X I mk_X3_36 (by decide) (by decide) shC_1 rfl (fun q9 e9 => c_X9_takes e9) h hl.1 rfl rfl (Nat.le_of_ble_eq_true rfl) dX3_readLaw_50 (fun v7 s8 H locs h I => ?_)
        refine lv_if_ne (tgt := 58) hx hb dX3_readLaw_53 (by decide) (fun z => ?_) (fun z => ?_)
        · have h := sg_iff h z
          refine lv_iinc (v := x1 + 1) (lv' := [(1, .int (x1 + 1)), (0, .ref (sgA P 19))]) hx hb dX3_readLaw_58 hl (k := 1) rfl rfl (by decide) rfl (fun ls hl => ?_)
          refine lv_goto (tgt := 15) hx hb dX3_readLaw_61 (by decide) ?_
          obtain rfl := Option.some.inj h
          exact sg_go hk I (lv_sub hl [1, 0] rfl)
        · have h := sg_ift h z
          refine lv_iconst (v := 0) hx hb dX3_readLaw_56 (by decide) ?_
          obtain rfl := Option.some.inj h
          exact hk _ _ _ _ _ I ⟨_, rfl, rfl⟩ dX3_readLaw_57
      · have h := sg_ift h z
        refine lv_iconst (v := 1) hx hb dX3_readLaw_42 (by decide) ?_
        obtain rfl := Option.some.inj h
        exact hk _ _ _ _ _ I ⟨_, rfl, rfl⟩ dX3_readLaw_43
    · have h := sg_ift h z
      refine lv_iconst (v := 0) hx hb dX3_readLaw_29 (by decide) ?_
      obtain rfl := Option.some.inj h
      exact hk _ _ _ _ _ I ⟨_, rfl, rfl⟩ dX3_readLaw_30
def f_X3_readLaw (N : Nat) (σ : sgS) : Option (Int32 × sgS) :=
  sg_pf σ 1 2 0 fun s1 =>
sg_pf s1 19 2 0 fun s2 =>
sg_lb (sg_lp (fun x => f_X3_readLaw_L15 N x.2 x.1) N ((s2, 0))) (fun r => some r) fun y9 =>
some (vp_nar .boolean 0, y9)
set_option maxHeartbeats 4000000 in
set_option maxRecDepth 100000 in
theorem b_X3_readLaw {p : Program} {l : Launch} {e : Env} {R : Room} {s : State} {m : MethodId} {args : Array Value} {below : List Frame} {meth : Method} {c : Code} {Q : State → Prop} {P : sgP} {A : Nat → Prop} {N : Nat} {σ : sgS} (X : sg_C P A 292 p R s m args c cX3_readLaw 2 RX3) {H : Heap} {locs : List Loc} (I : sg_I P shC 332 A s.heap σ H locs) {ls : Array Slot} (hl : lv_has ls 2 [(0, .ref (sgA P 19))]) {st : Int32 × sgS} (h : f_X3_readLaw N σ = some st) (hk : sg_Ri p l e R s m args below meth c Q P shC 332 A cX3_readLaw (some .boolean) st) : W p l e R s m args below meth c H locs 0 0 Q (F0 m 0 ls []) := by
  unfold f_X3_readLaw at h
  have hx := X.1.1
  have hb := X.1.2.1
  have hown := X.1.2.2.2.1
  have hts := X.1.2.2.2.2
  refine lv_aload_n hx hb dX3_readLaw_0 rfl (lv_at hl 0 rfl) ?_
  refine sg_getr X I fk_X3_15 (j := 1) (by decide) shC_19 rfl dX3_readLaw_1 ?_
  refine lv_iconst (v := 0) hx hb dX3_readLaw_4 (by decide) ?_
  refine sg_putiN X I fn_X3_19 wk_9_2 rfl rfl (by decide) shC_1 rfl h dX3_readLaw_5 (fun s1 H locs h I => ?_)
  refine lv_aload_n hx hb dX3_readLaw_8 rfl (lv_at hl 0 rfl) ?_
  refine lv_iconst (v := 0) hx hb dX3_readLaw_9 (by decide) ?_
  refine sg_puti X I fk_X3_25 wk_3_2 rfl rfl (by decide) shC_19 rfl h dX3_readLaw_10 (fun s2 H locs h I => ?_)
  refine lv_iconst (v := 0) hx hb dX3_readLaw_13 (by decide) ?_
  refine lv_istore_n (lv' := [(1, .int 0), (0, .ref (sgA P 19))]) hx hb dX3_readLaw_14 rfl hl (by decide) rfl (fun ls hl => ?_)
  obtain ⟨res, e9, k9⟩ := sg_lb_some h
  refine sg_go (sg_lp_W (a := (sg_Ri p l e R s m args below meth c Q P shC 332 A cX3_readLaw (some .boolean))) (w := (fun x => sg_Wt p l e R s m args below meth c Q P shC 332 A 2 15 x.1 [(0, .ref (sgA P 19)), (1, .int x.2)])) (c := (fun y => sg_Wt p l e R s m args below meth c Q P shC 332 A 2 64 y [])) (fun x st hb9 hk9 => ?_) N ((s2, 0)) res e9 (sg_k2_mono k9 (fun r h => ?_) (fun y9 h => ?_))) I (lv_sub hl [1, 0] rfl)
  · intro H locs ls I hl
    exact b_X3_readLaw_L15 X I hl hb9 hk9
  · obtain rfl := Option.some.inj h
    exact hk
  · intro H locs ls I hl
    refine lv_iconst (v := 0) hx hb dX3_readLaw_64 (by decide) ?_
    obtain rfl := Option.some.inj h
    exact hk _ _ _ _ _ I ⟨_, rfl, rfl⟩ dX3_readLaw_65
set_option maxHeartbeats 4000000 in
set_option maxRecDepth 100000 in
theorem c_X3_readLaw {l : Launch} {P : sgP} {N : Nat} {σ : sgS} {q : Int32 × sgS} (h : f_X3_readLaw N σ = some q) : sg_Mi P shC 332 l yX3_readLaw cX3_readLaw 2 (some .boolean) 292 [.ref (sgA P 19)] σ q := by
  refine sg_mki (plainFor_of_name (by decide +kernel)) (Nat.le_of_ble_eq_true rfl) ?_
  intro p e R s m args below meth c Q A ls H locs X I hl hk
  exact b_X3_readLaw X I hl h hk
def f_X4_keep (N : Nat) (p1 : Nat) (p1n : Nat) (p2 : Int32) (σ : sgS) : Option (Int32 × sgS) :=
  if 4 ≤ (σ.1 21 4) then
  (some ((-1), σ))
else
  (if p2 < 0 then
    (some ((-1), σ))
  else
    (if 240 < p2 then
      (some ((-1), σ))
    else
      (if p2 ≤ (Int32.ofNat p1n) then
        (sg_rf 4 (σ.1 21 4) fun j2 =>
        sg_cp σ p1 p1n (23 + j2) 240 0 0 p2 fun s3 =>
        sg_st s3 27 4 (s3.1 21 4) p2 fun s4 =>
        sg_pf s4 21 4 ((s4.1 21 4) + 1) fun s5 =>
        some ((s5.1 21 4) - 1, s5))
      else
        (some ((-1), σ)))))
set_option maxHeartbeats 4000000 in
set_option maxRecDepth 100000 in
theorem b_X4_keep {p : Program} {l : Launch} {e : Env} {R : Room} {s : State} {m : MethodId} {args : Array Value} {below : List Frame} {meth : Method} {c : Code} {Q : State → Prop} {P : sgP} {A : Nat → Prop} {N : Nat} {p1 : Nat} {p1n : Nat} {p2 : Int32} {σ : sgS} (X : sg_C P A 2 p R s m args c cX4_keep 3 RX4) (hp1 : p1 < 332) (gp1 : shC p1 = .inr (0, p1n, sg_g0)) {H : Heap} {locs : List Loc} (I : sg_I P shC 332 A s.heap σ H locs) {ls : Array Slot} (hl : lv_has ls 3 [(0, .ref (sgA P 21)), (1, .ref (sgA P p1)), (2, .int p2)]) {st : Int32 × sgS} (h : f_X4_keep N p1 p1n p2 σ = some st) (hk : sg_Ri p l e R s m args below meth c Q P shC 332 A cX4_keep (some .int) st) : W p l e R s m args below meth c H locs 0 0 Q (F0 m 0 ls []) := by
  unfold f_X4_keep at h
  have hx := X.1.1
  have hb := X.1.2.1
  have hown := X.1.2.2.2.1
  have hts := X.1.2.2.2.2
  refine lv_aload_n hx hb dX4_keep_0 rfl (lv_at hl 0 rfl) ?_
  refine sg_geti X I fk_X4_27 (by decide) shC_21 rfl dX4_keep_1 ?_
  refine lv_iconst (v := 4) hx hb dX4_keep_4 (by decide) ?_
  refine lv_icmp_ge (tgt := 25) hx hb dX4_keep_5 (by decide) (fun z => ?_) (fun z => ?_)
  · have h := sg_ift h z
    refine lv_iconst (v := -1) hx hb dX4_keep_25 (by decide) ?_
    obtain rfl := Option.some.inj h
    exact hk _ _ _ _ _ I ⟨_, rfl, rfl⟩ dX4_keep_26
  · have h := sg_iff h z
    refine lv_iload_n hx hb dX4_keep_8 rfl (lv_at hl 2 rfl) ?_
    refine lv_if_lt (tgt := 25) hx hb dX4_keep_9 (by decide) (fun z => ?_) (fun z => ?_)
    · have h := sg_ift h z
      refine lv_iconst (v := -1) hx hb dX4_keep_25 (by decide) ?_
      obtain rfl := Option.some.inj h
      exact hk _ _ _ _ _ I ⟨_, rfl, rfl⟩ dX4_keep_26
    · have h := sg_iff h z
      refine lv_iload_n hx hb dX4_keep_12 rfl (lv_at hl 2 rfl) ?_
      refine lv_sipush (v := 240) hx hb dX4_keep_13 (by decide) ?_
      refine lv_icmp_gt (tgt := 25) hx hb dX4_keep_16 (by decide) (fun z => ?_) (fun z => ?_)
      · have h := sg_ift h z
        refine lv_iconst (v := -1) hx hb dX4_keep_25 (by decide) ?_
        obtain rfl := Option.some.inj h
        exact hk _ _ _ _ _ I ⟨_, rfl, rfl⟩ dX4_keep_26
      · have h := sg_iff h z
        refine lv_iload_n hx hb dX4_keep_19 rfl (lv_at hl 2 rfl) ?_
        refine lv_aload_n hx hb dX4_keep_20 rfl (lv_at hl 1 rfl) ?_
        refine sg_alen X I (v := Int32.ofNat p1n) hp1 gp1 rfl dX4_keep_21 ?_
        refine lv_icmp_le (tgt := 27) hx hb dX4_keep_22 (by decide) (fun z => ?_) (fun z => ?_)
        · have h := sg_ift h z
          refine lv_aload_n hx hb dX4_keep_27 rfl (lv_at hl 1 rfl) ?_
          refine lv_iconst (v := 0) hx hb dX4_keep_28 (by decide) ?_
          refine lv_aload_n hx hb dX4_keep_29 rfl (lv_at hl 0 rfl) ?_
          refine sg_getr X I fk_X4_11 (j := 22) (by decide) shC_21 rfl dX4_keep_30 ?_
          refine lv_aload_n hx hb dX4_keep_33 rfl (lv_at hl 0 rfl) ?_
          refine sg_geti X I fk_X4_27 (by decide) shC_21 rfl dX4_keep_34 ?_
          refine sg_aalda X I (by decide) shC_22 (r := fun k => 23 + k) (fun _ _ => rfl) h dX4_keep_37 (fun j2 hj2 h => ?_)
          refine lv_iconst (v := 0) hx hb dX4_keep_38 (by decide) ?_
          refine lv_iload_n hx hb dX4_keep_39 rfl (lv_at hl 2 rfl) ?_
          refine sg_copy X I hl.1 (by first | decide | omega) qw_621 ⟨qw_622, qw_623, qw_624⟩ hp1 (shC_22i hj2) gp1 (shC_22s hj2) h (Nat.le_of_ble_eq_true rfl) dX4_keep_40 (fun s3 H locs h I => ?_)
          refine lv_aload_n hx hb dX4_keep_43 rfl (lv_at hl 0 rfl) ?_
          refine sg_getr X I fk_X4_16 (j := 27) (by decide) shC_21 rfl dX4_keep_44 ?_
          refine lv_aload_n hx hb dX4_keep_47 rfl (lv_at hl 0 rfl) ?_
          refine sg_geti X I fk_X4_27 (by decide) shC_21 rfl dX4_keep_48 ?_
          refine lv_iload_n hx hb dX4_keep_51 rfl (lv_at hl 2 rfl) ?_
          refine sg_iast X I (by decide) shC_27 h dX4_keep_52 (fun s4 H locs h I => ?_)
          refine lv_aload_n hx hb dX4_keep_53 rfl (lv_at hl 0 rfl) ?_
          refine lv_dup hx hb dX4_keep_54 rfl ?_
          refine sg_geti X I fk_X4_27 (by decide) shC_21 rfl dX4_keep_55 ?_
          refine lv_iconst (v := 1) hx hb dX4_keep_58 (by decide) ?_
          refine lv_iadd hx hb dX4_keep_59 ?_
          refine sg_puti X I fk_X4_27 wk_4_4 rfl rfl (by decide) shC_21 rfl h dX4_keep_60 (fun s5 H locs h I => ?_)
          refine lv_aload_n hx hb dX4_keep_63 rfl (lv_at hl 0 rfl) ?_
          refine sg_geti X I fk_X4_27 (by decide) shC_21 rfl dX4_keep_64 ?_
          refine lv_iconst (v := 1) hx hb dX4_keep_67 (by decide) ?_
          refine lv_isub hx hb dX4_keep_68 ?_
          obtain rfl := Option.some.inj h
          exact hk _ _ _ _ _ I ⟨_, rfl, rfl⟩ dX4_keep_69
        · have h := sg_iff h z
          refine lv_iconst (v := -1) hx hb dX4_keep_25 (by decide) ?_
          obtain rfl := Option.some.inj h
          exact hk _ _ _ _ _ I ⟨_, rfl, rfl⟩ dX4_keep_26
set_option maxHeartbeats 4000000 in
set_option maxRecDepth 100000 in
theorem c_X4_keep {l : Launch} {P : sgP} {N : Nat} {p1 : Nat} {p1n : Nat} {p2 : Int32} {σ : sgS} (hp1 : p1 < 332) (gp1 : shC p1 = .inr (0, p1n, sg_g0)) {q : Int32 × sgS} (h : f_X4_keep N p1 p1n p2 σ = some q) : sg_Mi P shC 332 l yX4_keep cX4_keep 3 (some .int) 2 [.ref (sgA P 21), .ref (sgA P p1), .int p2] σ q := by
  refine sg_mki (plainFor_of_name (by decide +kernel)) (Nat.le_of_ble_eq_true rfl) ?_
  intro p e R s m args below meth c Q A ls H locs X I hl hk
  exact b_X4_keep X hp1 gp1 I hl h hk
def f_X5_shortenBy_L15 (N : Nat) (p1 : Int32) (w2 : Int32) (x3 : Int32) (σ : sgS) : Option ((Int32 × sgS) ⊕ ((sgS × Int32) ⊕ (sgS))) :=
  if (σ.1 3 3) ≤ x3 then
  (some (.inr (.inr σ)))
else
  (sg_rf 7 w2 fun j2 =>
  sg_ld σ (312 + j2) 7 p1 fun v3 =>
  sg_rf 7 p1 fun j5 =>
  sg_ld σ (312 + j5) 7 x3 fun v6 =>
  sg_rf 7 w2 fun j8 =>
  sg_ld σ (312 + j8) 7 x3 fun v9 =>
  if v9 ≤ (v3 + v6) then
    (some (.inr (.inl (σ, x3 + 1))))
  else
    (sg_rf 7 w2 fun j11 =>
    sg_st σ (312 + j11) 7 x3 (v3 + v6) fun s12 =>
    some (.inr (.inl (s12, x3 + 1)))))
set_option maxHeartbeats 4000000 in
set_option maxRecDepth 100000 in
theorem b_X5_shortenBy_L15 {p : Program} {l : Launch} {e : Env} {R : Room} {s : State} {m : MethodId} {args : Array Value} {below : List Frame} {meth : Method} {c : Code} {Q : State → Prop} {P : sgP} {A : Nat → Prop} {N : Nat} {p1 : Int32} {w2 : Int32} {x3 : Int32} {σ : sgS} (X : sg_C P A 1 p R s m args c cX5_shortenBy 5 RX5) {H : Heap} {locs : List Loc} (I : sg_I P shC 332 A s.heap σ H locs) {ls : Array Slot} (hl : lv_has ls 5 [(0, .ref (sgA P 302)), (1, .int p1), (2, .int w2), (3, .int x3)]) {st : (Int32 × sgS) ⊕ ((sgS × Int32) ⊕ (sgS))} (h : f_X5_shortenBy_L15 N p1 w2 x3 σ = some st) (hk : sg_k3 (sg_Rv p l e R s m args below meth c Q P shC 332 A cX5_shortenBy) (fun x => sg_Wt p l e R s m args below meth c Q P shC 332 A 5 15 x.1 [(0, .ref (sgA P 302)), (1, .int p1), (2, .int w2), (3, .int x.2)]) (fun y => sg_Wt p l e R s m args below meth c Q P shC 332 A 5 74 y [(0, .ref (sgA P 302)), (1, .int p1), (2, .int w2)]) st) : W p l e R s m args below meth c H locs 0 0 Q (F0 m 15 ls []) := by
  unfold f_X5_shortenBy_L15 at h
  have hx := X.1.1
  have hb := X.1.2.1
  have hown := X.1.2.2.2.1
  have hts := X.1.2.2.2.2
  refine lv_iload_n hx hb dX5_shortenBy_15 rfl (lv_at hl 3 rfl) ?_
  refine lv_aload_n hx hb dX5_shortenBy_16 rfl (lv_at hl 0 rfl) ?_
  refine sg_getr X I fk_X5_23 (j := 3) (by decide) shC_302 rfl dX5_shortenBy_17 ?_
  refine sg_getiN X I fn_X5_52 (by decide) shC_3 rfl dX5_shortenBy_20 ?_
  refine lv_icmp_ge (tgt := 74) hx hb dX5_shortenBy_23 (by decide) (fun z => ?_) (fun z => ?_)
  · have h := sg_ift h z
    obtain rfl := Option.some.inj h
    exact sg_go hk I (lv_sub hl [0, 1, 2] rfl)
  · have h := sg_iff h z
    refine lv_aload_n hx hb dX5_shortenBy_26 rfl (lv_at hl 0 rfl) ?_
    refine sg_getr X I fk_X5_16 (j := 311) (by decide) shC_302 rfl dX5_shortenBy_27 ?_
    refine lv_iload_n hx hb dX5_shortenBy_30 rfl (lv_at hl 2 rfl) ?_
    refine sg_aalda X I (by decide) shC_311 (r := fun k => 312 + k) (fun _ _ => rfl) h dX5_shortenBy_31 (fun j2 hj2 h => ?_)
    refine lv_iload_n hx hb dX5_shortenBy_32 rfl (lv_at hl 1 rfl) ?_
    refine sg_iald X I (shC_311i hj2) (shC_311s hj2) h dX5_shortenBy_33 (fun v3 h => ?_)
    refine lv_aload_n hx hb dX5_shortenBy_34 rfl (lv_at hl 0 rfl) ?_
    refine sg_getr X I fk_X5_16 (j := 311) (by decide) shC_302 rfl dX5_shortenBy_35 ?_
    refine lv_iload_n hx hb dX5_shortenBy_38 rfl (lv_at hl 1 rfl) ?_
    refine sg_aalda X I (by decide) shC_311 (r := fun k => 312 + k) (fun _ _ => rfl) h dX5_shortenBy_39 (fun j5 hj5 h => ?_)
    refine lv_iload_n hx hb dX5_shortenBy_40 rfl (lv_at hl 3 rfl) ?_
    refine sg_iald X I (shC_311i hj5) (shC_311s hj5) h dX5_shortenBy_41 (fun v6 h => ?_)
    refine lv_iadd hx hb dX5_shortenBy_42 ?_
    refine lv_istore (lv' := [(4, .int (v3 + v6)), (0, .ref (sgA P 302)), (1, .int p1), (2, .int w2), (3, .int x3)]) hx hb dX5_shortenBy_43 hl (by decide) rfl (fun ls hl => ?_)
    refine lv_iload hx hb dX5_shortenBy_45 (lv_at hl 0 rfl) ?_
    refine lv_aload_n hx hb dX5_shortenBy_47 rfl (lv_at hl 1 rfl) ?_
    refine sg_getr X I fk_X5_16 (j := 311) (by decide) shC_302 rfl dX5_shortenBy_48 ?_
    refine lv_iload_n hx hb dX5_shortenBy_51 rfl (lv_at hl 3 rfl) ?_
    refine sg_aalda X I (by decide) shC_311 (r := fun k => 312 + k) (fun _ _ => rfl) h dX5_shortenBy_52 (fun j8 hj8 h => ?_)
    refine lv_iload_n hx hb dX5_shortenBy_53 rfl (lv_at hl 4 rfl) ?_
    refine sg_iald X I (shC_311i hj8) (shC_311s hj8) h dX5_shortenBy_54 (fun v9 h => ?_)
    refine lv_icmp_ge (tgt := 68) hx hb dX5_shortenBy_55 (by decide) (fun z => ?_) (fun z => ?_)
    · have h := sg_ift h z
      refine lv_iinc (v := x3 + 1) (lv' := [(3, .int (x3 + 1)), (4, .int (v3 + v6)), (0, .ref (sgA P 302)), (1, .int p1), (2, .int w2)]) hx hb dX5_shortenBy_68 hl (k := 4) rfl rfl (by decide) rfl (fun ls hl => ?_)
      refine lv_goto (tgt := 15) hx hb dX5_shortenBy_71 (by decide) ?_
      obtain rfl := Option.some.inj h
      exact sg_go hk I (lv_sub hl [2, 3, 4, 0] rfl)
    · have h := sg_iff h z
      refine lv_aload_n hx hb dX5_shortenBy_58 rfl (lv_at hl 1 rfl) ?_
      refine sg_getr X I fk_X5_16 (j := 311) (by decide) shC_302 rfl dX5_shortenBy_59 ?_
      refine lv_iload_n hx hb dX5_shortenBy_62 rfl (lv_at hl 3 rfl) ?_
      refine sg_aalda X I (by decide) shC_311 (r := fun k => 312 + k) (fun _ _ => rfl) h dX5_shortenBy_63 (fun j11 hj11 h => ?_)
      refine lv_iload_n hx hb dX5_shortenBy_64 rfl (lv_at hl 4 rfl) ?_
      refine lv_iload hx hb dX5_shortenBy_65 (lv_at hl 0 rfl) ?_
      refine sg_iast X I (shC_311i hj11) (shC_311s hj11) h dX5_shortenBy_67 (fun s12 H locs h I => ?_)
      refine lv_iinc (v := x3 + 1) (lv' := [(3, .int (x3 + 1)), (4, .int (v3 + v6)), (0, .ref (sgA P 302)), (1, .int p1), (2, .int w2)]) hx hb dX5_shortenBy_68 hl (k := 4) rfl rfl (by decide) rfl (fun ls hl => ?_)
      refine lv_goto (tgt := 15) hx hb dX5_shortenBy_71 (by decide) ?_
      obtain rfl := Option.some.inj h
      exact sg_go hk I (lv_sub hl [2, 3, 4, 0] rfl)
def f_X5_shortenBy_L2 (N : Nat) (p1 : Int32) (x2 : Int32) (σ : sgS) : Option ((Int32 × sgS) ⊕ ((sgS × Int32) ⊕ (sgS))) :=
  if (σ.1 3 3) ≤ x2 then
  (some (.inr (.inr σ)))
else
  (sg_lb (sg_lp (fun x => f_X5_shortenBy_L15 N p1 x2 x.2 x.1) N ((σ, 0))) (fun r => some (.inl r)) fun y13 =>
  some (.inr (.inl (y13, x2 + 1))))
set_option maxHeartbeats 4000000 in
set_option maxRecDepth 100000 in
theorem b_X5_shortenBy_L2 {p : Program} {l : Launch} {e : Env} {R : Room} {s : State} {m : MethodId} {args : Array Value} {below : List Frame} {meth : Method} {c : Code} {Q : State → Prop} {P : sgP} {A : Nat → Prop} {N : Nat} {p1 : Int32} {x2 : Int32} {σ : sgS} (X : sg_C P A 1 p R s m args c cX5_shortenBy 5 RX5) {H : Heap} {locs : List Loc} (I : sg_I P shC 332 A s.heap σ H locs) {ls : Array Slot} (hl : lv_has ls 5 [(0, .ref (sgA P 302)), (1, .int p1), (2, .int x2)]) {st : (Int32 × sgS) ⊕ ((sgS × Int32) ⊕ (sgS))} (h : f_X5_shortenBy_L2 N p1 x2 σ = some st) (hk : sg_k3 (sg_Rv p l e R s m args below meth c Q P shC 332 A cX5_shortenBy) (fun x => sg_Wt p l e R s m args below meth c Q P shC 332 A 5 2 x.1 [(0, .ref (sgA P 302)), (1, .int p1), (2, .int x.2)]) (fun y => sg_Wt p l e R s m args below meth c Q P shC 332 A 5 80 y []) st) : W p l e R s m args below meth c H locs 0 0 Q (F0 m 2 ls []) := by
  unfold f_X5_shortenBy_L2 at h
  have hx := X.1.1
  have hb := X.1.2.1
  have hown := X.1.2.2.2.1
  have hts := X.1.2.2.2.2
  refine lv_iload_n hx hb dX5_shortenBy_2 rfl (lv_at hl 2 rfl) ?_
  refine lv_aload_n hx hb dX5_shortenBy_3 rfl (lv_at hl 0 rfl) ?_
  refine sg_getr X I fk_X5_23 (j := 3) (by decide) shC_302 rfl dX5_shortenBy_4 ?_
  refine sg_getiN X I fn_X5_52 (by decide) shC_3 rfl dX5_shortenBy_7 ?_
  refine lv_icmp_ge (tgt := 80) hx hb dX5_shortenBy_10 (by decide) (fun z => ?_) (fun z => ?_)
  · have h := sg_ift h z
    obtain rfl := Option.some.inj h
    exact sg_go hk I (lv_sub hl [] rfl)
  · have h := sg_iff h z
    refine lv_iconst (v := 0) hx hb dX5_shortenBy_13 (by decide) ?_
    refine lv_istore_n (lv' := [(3, .int 0), (0, .ref (sgA P 302)), (1, .int p1), (2, .int x2)]) hx hb dX5_shortenBy_14 rfl hl (by decide) rfl (fun ls hl => ?_)
    obtain ⟨res, e9, k9⟩ := sg_lb_some h
    refine sg_go (sg_lp_W (a := (sg_Rv p l e R s m args below meth c Q P shC 332 A cX5_shortenBy)) (w := (fun x => sg_Wt p l e R s m args below meth c Q P shC 332 A 5 15 x.1 [(0, .ref (sgA P 302)), (1, .int p1), (2, .int x2), (3, .int x.2)])) (c := (fun y => sg_Wt p l e R s m args below meth c Q P shC 332 A 5 74 y [(0, .ref (sgA P 302)), (1, .int p1), (2, .int x2)])) (fun x st hb9 hk9 => ?_) N ((σ, 0)) res e9 (sg_k2_mono k9 (fun r h => ?_) (fun y13 h => ?_))) I (lv_sub hl [1, 2, 3, 0] rfl)
    · intro H locs ls I hl
      exact b_X5_shortenBy_L15 X I hl hb9 hk9
    · obtain rfl := Option.some.inj h
      exact hk
    · intro H locs ls I hl
      refine lv_iinc (v := x2 + 1) (lv' := [(2, .int (x2 + 1)), (0, .ref (sgA P 302)), (1, .int p1)]) hx hb dX5_shortenBy_74 hl (k := 2) rfl rfl (by decide) rfl (fun ls hl => ?_)
      refine lv_goto (tgt := 2) hx hb dX5_shortenBy_77 (by decide) ?_
      obtain rfl := Option.some.inj h
      exact sg_go hk I (lv_sub hl [1, 2, 0] rfl)
def f_X5_shortenBy (N : Nat) (p1 : Int32) (σ : sgS) : Option (Int32 × sgS) :=
  sg_lb (sg_lp (fun x => f_X5_shortenBy_L2 N p1 x.2 x.1) N ((σ, 0))) (fun r => some r) fun y14 =>
some (0, y14)
set_option maxHeartbeats 4000000 in
set_option maxRecDepth 100000 in
theorem b_X5_shortenBy {p : Program} {l : Launch} {e : Env} {R : Room} {s : State} {m : MethodId} {args : Array Value} {below : List Frame} {meth : Method} {c : Code} {Q : State → Prop} {P : sgP} {A : Nat → Prop} {N : Nat} {p1 : Int32} {σ : sgS} (X : sg_C P A 1 p R s m args c cX5_shortenBy 5 RX5) {H : Heap} {locs : List Loc} (I : sg_I P shC 332 A s.heap σ H locs) {ls : Array Slot} (hl : lv_has ls 5 [(0, .ref (sgA P 302)), (1, .int p1)]) {st : Int32 × sgS} (h : f_X5_shortenBy N p1 σ = some st) (hk : sg_Rv p l e R s m args below meth c Q P shC 332 A cX5_shortenBy st) : W p l e R s m args below meth c H locs 0 0 Q (F0 m 0 ls []) := by
  unfold f_X5_shortenBy at h
  have hx := X.1.1
  have hb := X.1.2.1
  have hown := X.1.2.2.2.1
  have hts := X.1.2.2.2.2
  refine lv_iconst (v := 0) hx hb dX5_shortenBy_0 (by decide) ?_
  refine lv_istore_n (lv' := [(2, .int 0), (0, .ref (sgA P 302)), (1, .int p1)]) hx hb dX5_shortenBy_1 rfl hl (by decide) rfl (fun ls hl => ?_)
  obtain ⟨res, e9, k9⟩ := sg_lb_some h
  refine sg_go (sg_lp_W (a := (sg_Rv p l e R s m args below meth c Q P shC 332 A cX5_shortenBy)) (w := (fun x => sg_Wt p l e R s m args below meth c Q P shC 332 A 5 2 x.1 [(0, .ref (sgA P 302)), (1, .int p1), (2, .int x.2)])) (c := (fun y => sg_Wt p l e R s m args below meth c Q P shC 332 A 5 80 y [])) (fun x st hb9 hk9 => ?_) N ((σ, 0)) res e9 (sg_k2_mono k9 (fun r h => ?_) (fun y14 h => ?_))) I (lv_sub hl [1, 2, 0] rfl)
  · intro H locs ls I hl
    exact b_X5_shortenBy_L2 X I hl hb9 hk9
  · obtain rfl := Option.some.inj h
    exact hk
  · intro H locs ls I hl
    obtain rfl := Option.some.inj h
    exact hk _ _ _ _ I dX5_shortenBy_80
set_option maxHeartbeats 4000000 in
set_option maxRecDepth 100000 in
theorem c_X5_shortenBy {l : Launch} {P : sgP} {N : Nat} {p1 : Int32} {σ : sgS} {q : Int32 × sgS} (h : f_X5_shortenBy N p1 σ = some q) : sg_Mv P shC 332 l yX5_shortenBy cX5_shortenBy 5 none 1 [.ref (sgA P 302), .int p1] σ q := by
  refine sg_mkv (plainFor_of_name (by decide +kernel)) (Nat.le_of_ble_eq_true rfl) ?_
  intro p e R s m args below meth c Q A ls H locs X I hl hk
  exact b_X5_shortenBy X I hl h hk
def f_X5_measure_L41_B95 (N : Nat) (p1 : Nat) (w2 : Int32) (j7 : Nat) (u3 : Int32) (k1 : Int32) (k2 : Int32) (σ : sgS) : Option ((Int32 × sgS) ⊕ ((sgS × Int32) ⊕ (sgS))) :=
  sg_st σ (304 + j7) 7 k1 k2 fun s9 =>
sg_rf 7 w2 fun j11 =>
if w2 = u3 then
  (sg_st s9 (312 + j11) 7 u3 0 fun s16 =>
  some (.inr (.inl (s16, u3 + 1))))
else
  (sg_rf 7 w2 fun j13 =>
  sg_ld s9 (304 + j13) 7 u3 fun v14 =>
  sg_st s9 (312 + j11) 7 u3 v14 fun s15 =>
  some (.inr (.inl (s15, u3 + 1))))
set_option maxHeartbeats 4000000 in
set_option maxRecDepth 100000 in
theorem b_X5_measure_L41_B95 {p : Program} {l : Launch} {e : Env} {R : Room} {s : State} {m : MethodId} {args : Array Value} {below : List Frame} {meth : Method} {c : Code} {Q : State → Prop} {P : sgP} {A : Nat → Prop} {N : Nat} {p1 : Nat} {w2 : Int32} {j7 : Nat} {u3 : Int32} {k1 : Int32} {k2 : Int32} {σ : sgS} (X : sg_C P A 5 p R s m args c cX5_measure 5 RX5) (hp1 : isSt p1) (hj7 : j7 < 7) {H : Heap} {locs : List Loc} (I : sg_I P shC 332 A s.heap σ H locs) {ls : Array Slot} (hl : lv_has ls 5 [(0, .ref (sgA P 302)), (1, .ref (sgA P p1)), (2, .int w2), (3, .int u3)]) {st : (Int32 × sgS) ⊕ ((sgS × Int32) ⊕ (sgS))} (h : f_X5_measure_L41_B95 N p1 w2 j7 u3 k1 k2 σ = some st) (hk : sg_k3 (sg_Rv p l e R s m args below meth c Q P shC 332 A cX5_measure) (fun x => sg_Wt p l e R s m args below meth c Q P shC 332 A 5 41 x.1 [(0, .ref (sgA P 302)), (1, .ref (sgA P p1)), (2, .int w2), (3, .int x.2)]) (fun y => sg_Wt p l e R s m args below meth c Q P shC 332 A 5 127 y [(0, .ref (sgA P 302)), (1, .ref (sgA P p1)), (2, .int w2)]) st) : W p l e R s m args below meth c H locs 0 0 Q (F0 m 95 ls [.int k2, .int k1, .ref (sgA P (304 + j7))]) := by
  unfold f_X5_measure_L41_B95 at h
  have hx := X.1.1
  have hb := X.1.2.1
  have hown := X.1.2.2.2.1
  have hts := X.1.2.2.2.2
  refine sg_iast X I (shC_303i hj7) (shC_303s hj7) h dX5_measure_95 (fun s9 H locs h I => ?_)
  refine lv_aload_n hx hb dX5_measure_96 rfl (lv_at hl 0 rfl) ?_
  refine sg_getr X I fk_X5_16 (j := 311) (by decide) shC_302 rfl dX5_measure_97 ?_
  refine lv_iload_n hx hb dX5_measure_100 rfl (lv_at hl 2 rfl) ?_
  refine sg_aalda X I (by decide) shC_311 (r := fun k => 312 + k) (fun _ _ => rfl) h dX5_measure_101 (fun j11 hj11 h => ?_)
  refine lv_iload_n hx hb dX5_measure_102 rfl (lv_at hl 3 rfl) ?_
  refine lv_iload_n hx hb dX5_measure_103 rfl (lv_at hl 2 rfl) ?_
  refine lv_iload_n hx hb dX5_measure_104 rfl (lv_at hl 3 rfl) ?_
  refine lv_icmp_ne (tgt := 112) hx hb dX5_measure_105 (by decide) (fun z => ?_) (fun z => ?_)
  · have h := sg_iff h z
    refine lv_aload_n hx hb dX5_measure_112 rfl (lv_at hl 0 rfl) ?_
    refine sg_getr X I fk_X5_11 (j := 303) (by decide) shC_302 rfl dX5_measure_113 ?_
    refine lv_iload_n hx hb dX5_measure_116 rfl (lv_at hl 2 rfl) ?_
    refine sg_aalda X I (by decide) shC_303 (r := fun k => 304 + k) (fun _ _ => rfl) h dX5_measure_117 (fun j13 hj13 h => ?_)
    refine lv_iload_n hx hb dX5_measure_118 rfl (lv_at hl 3 rfl) ?_
    refine sg_iald X I (shC_303i hj13) (shC_303s hj13) h dX5_measure_119 (fun v14 h => ?_)
    refine sg_iast X I (shC_311i hj11) (shC_311s hj11) h dX5_measure_120 (fun s15 H locs h I => ?_)
    refine lv_iinc (v := u3 + 1) (lv' := [(3, .int (u3 + 1)), (0, .ref (sgA P 302)), (1, .ref (sgA P p1)), (2, .int w2)]) hx hb dX5_measure_121 hl (k := 3) rfl rfl (by decide) rfl (fun ls hl => ?_)
    refine lv_goto (tgt := 41) hx hb dX5_measure_124 (by decide) ?_
    obtain rfl := Option.some.inj h
    exact sg_go hk I (lv_sub hl [1, 2, 3, 0] rfl)
  · have h := sg_ift h z
    refine lv_iconst (v := 0) hx hb dX5_measure_108 (by decide) ?_
    refine lv_goto (tgt := 120) hx hb dX5_measure_109 (by decide) ?_
    refine sg_iast X I (shC_311i hj11) (shC_311s hj11) h dX5_measure_120 (fun s16 H locs h I => ?_)
    refine lv_iinc (v := u3 + 1) (lv' := [(3, .int (u3 + 1)), (0, .ref (sgA P 302)), (1, .ref (sgA P p1)), (2, .int w2)]) hx hb dX5_measure_121 hl (k := 3) rfl rfl (by decide) rfl (fun ls hl => ?_)
    refine lv_goto (tgt := 41) hx hb dX5_measure_124 (by decide) ?_
    obtain rfl := Option.some.inj h
    exact sg_go hk I (lv_sub hl [1, 2, 3, 0] rfl)
def f_X5_measure_L41 (N : Nat) (p1 : Nat) (w2 : Int32) (x3 : Int32) (σ : sgS) : Option ((Int32 × sgS) ⊕ ((sgS × Int32) ⊕ (sgS))) :=
  if (σ.1 3 3) ≤ x3 then
  (some (.inr (.inr σ)))
else
  (sg_cr (f_X1_shortestBetween N w2 x3 (σ.1 p1 5) σ) fun v5 =>
  sg_rf 7 w2 fun j7 =>
  if v5 = ((-1)) then
    (f_X5_measure_L41_B95 N p1 w2 j7 x3 x3 1000000 σ)
  else
    (sg_ld σ 51 12 v5 fun v8 =>
    f_X5_measure_L41_B95 N p1 w2 j7 x3 x3 v8 σ))
set_option maxHeartbeats 4000000 in
set_option maxRecDepth 100000 in
theorem b_X5_measure_L41 {p : Program} {l : Launch} {e : Env} {R : Room} {s : State} {m : MethodId} {args : Array Value} {below : List Frame} {meth : Method} {c : Code} {Q : State → Prop} {P : sgP} {A : Nat → Prop} {N : Nat} {p1 : Nat} {w2 : Int32} {x3 : Int32} {σ : sgS} (X : sg_C P A 5 p R s m args c cX5_measure 5 RX5) (hp1 : isSt p1) {H : Heap} {locs : List Loc} (I : sg_I P shC 332 A s.heap σ H locs) {ls : Array Slot} (hl : lv_has ls 5 [(0, .ref (sgA P 302)), (1, .ref (sgA P p1)), (2, .int w2), (3, .int x3)]) {st : (Int32 × sgS) ⊕ ((sgS × Int32) ⊕ (sgS))} (h : f_X5_measure_L41 N p1 w2 x3 σ = some st) (hk : sg_k3 (sg_Rv p l e R s m args below meth c Q P shC 332 A cX5_measure) (fun x => sg_Wt p l e R s m args below meth c Q P shC 332 A 5 41 x.1 [(0, .ref (sgA P 302)), (1, .ref (sgA P p1)), (2, .int w2), (3, .int x.2)]) (fun y => sg_Wt p l e R s m args below meth c Q P shC 332 A 5 127 y [(0, .ref (sgA P 302)), (1, .ref (sgA P p1)), (2, .int w2)]) st) : W p l e R s m args below meth c H locs 0 0 Q (F0 m 41 ls []) := by
  unfold f_X5_measure_L41 at h
  have hx := X.1.1
  have hb := X.1.2.1
  have hown := X.1.2.2.2.1
  have hts := X.1.2.2.2.2
  refine lv_iload_n hx hb dX5_measure_41 rfl (lv_at hl 3 rfl) ?_
  refine lv_aload_n hx hb dX5_measure_42 rfl (lv_at hl 0 rfl) ?_
  refine sg_getr X I fk_X5_23 (j := 3) (by decide) shC_302 rfl dX5_measure_43 ?_
  refine sg_getiN X I fn_X5_52 (by decide) shC_3 rfl dX5_measure_46 ?_
  refine lv_icmp_ge (tgt := 127) hx hb dX5_measure_49 (by decide) (fun z => ?_) (fun z => ?_)
  · have h := sg_ift h z
    obtain rfl := Option.some.inj h
    exact sg_go hk I (lv_sub hl [0, 1, 2] rfl)
  · have h := sg_iff h z
    refine lv_aload_n hx hb dX5_measure_52 rfl (lv_at hl 0 rfl) ?_
    refine sg_getr X I fk_X5_27 (j := 49) (by decide) shC_302 rfl dX5_measure_53 ?_
    refine lv_iload_n hx hb dX5_measure_56 rfl (lv_at hl 2 rfl) ?_
    refine lv_iload_n hx hb dX5_measure_57 rfl (lv_at hl 3 rfl) ?_
    refine lv_aload_n hx hb dX5_measure_58 rfl (lv_at hl 1 rfl) ?_
    refine sg_getiN X I fn_X5_43 (isSt_i0 hp1) (isSt_s0 hp1) rfl dX5_measure_59 ?_
    refine sg_callVr (As := [.int w2, .int x3, .int (σ.1 p1 5)]) X I mk_X5_55 (by decide) (by decide) shC_49 rfl (fun q9 e9 => c_X1_shortestBetween e9) h hl.1 rfl rfl (Nat.le_of_ble_eq_true rfl) dX5_measure_62 (fun v5 H locs h I => ?_)
    refine lv_istore (lv' := [(4, .int v5), (0, .ref (sgA P 302)), (1, .ref (sgA P p1)), (2, .int w2), (3, .int x3)]) hx hb dX5_measure_65 hl (by decide) rfl (fun ls hl => ?_)
    refine lv_aload_n hx hb dX5_measure_67 rfl (lv_at hl 1 rfl) ?_
    refine sg_getr X I fk_X5_11 (j := 303) (by decide) shC_302 rfl dX5_measure_68 ?_
    refine lv_iload_n hx hb dX5_measure_71 rfl (lv_at hl 3 rfl) ?_
    refine sg_aalda X I (by decide) shC_303 (r := fun k => 304 + k) (fun _ _ => rfl) h dX5_measure_72 (fun j7 hj7 h => ?_)
    refine lv_iload_n hx hb dX5_measure_73 rfl (lv_at hl 4 rfl) ?_
    refine lv_iload hx hb dX5_measure_74 (lv_at hl 0 rfl) ?_
    refine lv_iconst (v := -1) hx hb dX5_measure_76 (by decide) ?_
    refine lv_icmp_ne (tgt := 85) hx hb dX5_measure_77 (by decide) (fun z => ?_) (fun z => ?_)
    · have h := sg_iff h z
      refine lv_aload_n hx hb dX5_measure_85 rfl (lv_at hl 1 rfl) ?_
      refine sg_getr X I fk_X5_27 (j := 49) (by decide) shC_302 rfl dX5_measure_86 ?_
      refine sg_getrN X I fn_X5_60 (j := 51) (by decide) shC_49 rfl dX5_measure_89 ?_
      refine lv_iload hx hb dX5_measure_92 (lv_at hl 0 rfl) ?_
      refine sg_iald X I (by decide) shC_51 h dX5_measure_94 (fun v8 h => ?_)
      exact b_X5_measure_L41_B95 X hp1 hj7 I (lv_sub hl [1, 2, 3, 4] rfl) h hk
    · have h := sg_ift h z
      refine lv_ldc (v := 1000000) hx hb hown (hts _ qw_1109) dX5_measure_80 ?_
      refine lv_goto (tgt := 95) hx hb dX5_measure_82 (by decide) ?_
      exact b_X5_measure_L41_B95 X hp1 hj7 I (lv_sub hl [1, 2, 3, 4] rfl) h hk
def f_X5_measure_L28 (N : Nat) (p1 : Nat) (x2 : Int32) (σ : sgS) : Option ((Int32 × sgS) ⊕ ((sgS × Int32) ⊕ (sgS))) :=
  if (σ.1 3 3) ≤ x2 then
  (some (.inr (.inr σ)))
else
  (sg_lb (sg_lp (fun x => f_X5_measure_L41 N p1 x2 x.2 x.1) N ((σ, 0))) (fun r => some (.inl r)) fun y17 =>
  some (.inr (.inl (y17, x2 + 1))))
set_option maxHeartbeats 4000000 in
set_option maxRecDepth 100000 in
theorem b_X5_measure_L28 {p : Program} {l : Launch} {e : Env} {R : Room} {s : State} {m : MethodId} {args : Array Value} {below : List Frame} {meth : Method} {c : Code} {Q : State → Prop} {P : sgP} {A : Nat → Prop} {N : Nat} {p1 : Nat} {x2 : Int32} {σ : sgS} (X : sg_C P A 5 p R s m args c cX5_measure 5 RX5) (hp1 : isSt p1) {H : Heap} {locs : List Loc} (I : sg_I P shC 332 A s.heap σ H locs) {ls : Array Slot} (hl : lv_has ls 5 [(0, .ref (sgA P 302)), (1, .ref (sgA P p1)), (2, .int x2)]) {st : (Int32 × sgS) ⊕ ((sgS × Int32) ⊕ (sgS))} (h : f_X5_measure_L28 N p1 x2 σ = some st) (hk : sg_k3 (sg_Rv p l e R s m args below meth c Q P shC 332 A cX5_measure) (fun x => sg_Wt p l e R s m args below meth c Q P shC 332 A 5 28 x.1 [(0, .ref (sgA P 302)), (1, .ref (sgA P p1)), (2, .int x.2)]) (fun y => sg_Wt p l e R s m args below meth c Q P shC 332 A 5 133 y [(0, .ref (sgA P 302))]) st) : W p l e R s m args below meth c H locs 0 0 Q (F0 m 28 ls []) := by
  unfold f_X5_measure_L28 at h
  have hx := X.1.1
  have hb := X.1.2.1
  have hown := X.1.2.2.2.1
  have hts := X.1.2.2.2.2
  refine lv_iload_n hx hb dX5_measure_28 rfl (lv_at hl 2 rfl) ?_
  refine lv_aload_n hx hb dX5_measure_29 rfl (lv_at hl 0 rfl) ?_
  refine sg_getr X I fk_X5_23 (j := 3) (by decide) shC_302 rfl dX5_measure_30 ?_
  refine sg_getiN X I fn_X5_52 (by decide) shC_3 rfl dX5_measure_33 ?_
  refine lv_icmp_ge (tgt := 133) hx hb dX5_measure_36 (by decide) (fun z => ?_) (fun z => ?_)
  · have h := sg_ift h z
    obtain rfl := Option.some.inj h
    exact sg_go hk I (lv_sub hl [0] rfl)
  · have h := sg_iff h z
    refine lv_iconst (v := 0) hx hb dX5_measure_39 (by decide) ?_
    refine lv_istore_n (lv' := [(3, .int 0), (0, .ref (sgA P 302)), (1, .ref (sgA P p1)), (2, .int x2)]) hx hb dX5_measure_40 rfl hl (by decide) rfl (fun ls hl => ?_)
    obtain ⟨res, e9, k9⟩ := sg_lb_some h
    refine sg_go (sg_lp_W (a := (sg_Rv p l e R s m args below meth c Q P shC 332 A cX5_measure)) (w := (fun x => sg_Wt p l e R s m args below meth c Q P shC 332 A 5 41 x.1 [(0, .ref (sgA P 302)), (1, .ref (sgA P p1)), (2, .int x2), (3, .int x.2)])) (c := (fun y => sg_Wt p l e R s m args below meth c Q P shC 332 A 5 127 y [(0, .ref (sgA P 302)), (1, .ref (sgA P p1)), (2, .int x2)])) (fun x st hb9 hk9 => ?_) N ((σ, 0)) res e9 (sg_k2_mono k9 (fun r h => ?_) (fun y17 h => ?_))) I (lv_sub hl [1, 2, 3, 0] rfl)
    · intro H locs ls I hl
      exact b_X5_measure_L41 X hp1 I hl hb9 hk9
    · obtain rfl := Option.some.inj h
      exact hk
    · intro H locs ls I hl
      refine lv_iinc (v := x2 + 1) (lv' := [(2, .int (x2 + 1)), (0, .ref (sgA P 302)), (1, .ref (sgA P p1))]) hx hb dX5_measure_127 hl (k := 2) rfl rfl (by decide) rfl (fun ls hl => ?_)
      refine lv_goto (tgt := 28) hx hb dX5_measure_130 (by decide) ?_
      obtain rfl := Option.some.inj h
      exact sg_go hk I (lv_sub hl [1, 2, 0] rfl)
def f_X5_measure_L135 (N : Nat) (p1 : Nat) (x2 : Int32) (σ : sgS) : Option ((Int32 × sgS) ⊕ ((sgS × Int32) ⊕ (sgS))) :=
  if (σ.1 3 3) ≤ x2 then
  (some (.inr (.inr σ)))
else
  (sg_cl (f_X5_shortenBy N x2 σ) fun v19 s20 =>
  some (.inr (.inl (s20, x2 + 1))))
set_option maxHeartbeats 4000000 in
set_option maxRecDepth 100000 in
theorem b_X5_measure_L135 {p : Program} {l : Launch} {e : Env} {R : Room} {s : State} {m : MethodId} {args : Array Value} {below : List Frame} {meth : Method} {c : Code} {Q : State → Prop} {P : sgP} {A : Nat → Prop} {N : Nat} {p1 : Nat} {x2 : Int32} {σ : sgS} (X : sg_C P A 5 p R s m args c cX5_measure 5 RX5) (hp1 : isSt p1) {H : Heap} {locs : List Loc} (I : sg_I P shC 332 A s.heap σ H locs) {ls : Array Slot} (hl : lv_has ls 5 [(0, .ref (sgA P 302)), (2, .int x2)]) {st : (Int32 × sgS) ⊕ ((sgS × Int32) ⊕ (sgS))} (h : f_X5_measure_L135 N p1 x2 σ = some st) (hk : sg_k3 (sg_Rv p l e R s m args below meth c Q P shC 332 A cX5_measure) (fun x => sg_Wt p l e R s m args below meth c Q P shC 332 A 5 135 x.1 [(0, .ref (sgA P 302)), (2, .int x.2)]) (fun y => sg_Wt p l e R s m args below meth c Q P shC 332 A 5 157 y []) st) : W p l e R s m args below meth c H locs 0 0 Q (F0 m 135 ls []) := by
  unfold f_X5_measure_L135 at h
  have hx := X.1.1
  have hb := X.1.2.1
  have hown := X.1.2.2.2.1
  have hts := X.1.2.2.2.2
  refine lv_iload_n hx hb dX5_measure_135 rfl (lv_at hl 1 rfl) ?_
  refine lv_aload_n hx hb dX5_measure_136 rfl (lv_at hl 0 rfl) ?_
  refine sg_getr X I fk_X5_23 (j := 3) (by decide) shC_302 rfl dX5_measure_137 ?_
  refine sg_getiN X I fn_X5_52 (by decide) shC_3 rfl dX5_measure_140 ?_
  refine lv_icmp_ge (tgt := 157) hx hb dX5_measure_143 (by decide) (fun z => ?_) (fun z => ?_)
  · have h := sg_ift h z
    obtain rfl := Option.some.inj h
    exact sg_go hk I (lv_sub hl [] rfl)
  · have h := sg_iff h z
    refine lv_aload_n hx hb dX5_measure_146 rfl (lv_at hl 0 rfl) ?_
    refine lv_iload_n hx hb dX5_measure_147 rfl (lv_at hl 1 rfl) ?_
    refine sg_callVv (As := [.int x2]) X I mk_X5_63 (by decide) (by decide) shC_302 rfl (fun q9 e9 => c_X5_shortenBy e9) h hl.1 rfl rfl (Nat.le_of_ble_eq_true rfl) dX5_measure_148 (fun v19 s20 H locs h I => ?_)
    refine lv_iinc (v := x2 + 1) (lv' := [(2, .int (x2 + 1)), (0, .ref (sgA P 302))]) hx hb dX5_measure_151 hl (k := 1) rfl rfl (by decide) rfl (fun ls hl => ?_)
    refine lv_goto (tgt := 135) hx hb dX5_measure_154 (by decide) ?_
    obtain rfl := Option.some.inj h
    exact sg_go hk I (lv_sub hl [1, 0] rfl)
def f_X5_measure (N : Nat) (p1 : Nat) (σ : sgS) : Option (Int32 × sgS) :=
  sg_cl (f_X1_measure N p1 σ) fun v1 s2 =>
sg_cr (f_X0_allRoads N 3 s2) fun v3 =>
sg_pf s2 302 5 (v3 &&& ((s2.1 p1 5) ^^^ ((-1)))) fun s4 =>
sg_lb (sg_lp (fun x => f_X5_measure_L28 N p1 x.2 x.1) N ((s4, 0))) (fun r => some r) fun y18 =>
sg_lb (sg_lp (fun x => f_X5_measure_L135 N p1 x.2 x.1) N ((y18, 0))) (fun r => some r) fun y21 =>
some (0, y21)
set_option maxHeartbeats 4000000 in
set_option maxRecDepth 100000 in
theorem b_X5_measure {p : Program} {l : Launch} {e : Env} {R : Room} {s : State} {m : MethodId} {args : Array Value} {below : List Frame} {meth : Method} {c : Code} {Q : State → Prop} {P : sgP} {A : Nat → Prop} {N : Nat} {p1 : Nat} {σ : sgS} (X : sg_C P A 5 p R s m args c cX5_measure 5 RX5) (hp1 : isSt p1) {H : Heap} {locs : List Loc} (I : sg_I P shC 332 A s.heap σ H locs) {ls : Array Slot} (hl : lv_has ls 5 [(0, .ref (sgA P 302)), (1, .ref (sgA P p1))]) {st : Int32 × sgS} (h : f_X5_measure N p1 σ = some st) (hk : sg_Rv p l e R s m args below meth c Q P shC 332 A cX5_measure st) : W p l e R s m args below meth c H locs 0 0 Q (F0 m 0 ls []) := by
  unfold f_X5_measure at h
  have hx := X.1.1
  have hb := X.1.2.1
  have hown := X.1.2.2.2.1
  have hts := X.1.2.2.2.2
  refine lv_aload_n hx hb dX5_measure_0 rfl (lv_at hl 0 rfl) ?_
  refine sg_getr X I fk_X5_27 (j := 49) (by decide) shC_302 rfl dX5_measure_1 ?_
  refine lv_aload_n hx hb dX5_measure_4 rfl (lv_at hl 1 rfl) ?_
  refine sg_callVv (As := [.ref (sgA P p1)]) X I mk_X5_31 (by decide) (by decide) shC_49 rfl (fun q9 e9 => c_X1_measure hp1 e9) h hl.1 rfl rfl (Nat.le_of_ble_eq_true rfl) dX5_measure_5 (fun v1 s2 H locs h I => ?_)
  refine lv_aload_n hx hb dX5_measure_8 rfl (lv_at hl 0 rfl) ?_
  refine lv_aload_n hx hb dX5_measure_9 rfl (lv_at hl 0 rfl) ?_
  refine sg_getr X I fk_X5_23 (j := 3) (by decide) shC_302 rfl dX5_measure_10 ?_
  refine sg_callVr (As := []) X I mk_X5_37 (by decide) (by decide) shC_3 rfl (fun q9 e9 => c_X0_allRoads isCo_3 e9) h hl.1 rfl rfl (Nat.le_of_ble_eq_true rfl) dX5_measure_13 (fun v3 H locs h I => ?_)
  refine lv_aload_n hx hb dX5_measure_16 rfl (lv_at hl 1 rfl) ?_
  refine sg_getiN X I fn_X5_43 (isSt_i0 hp1) (isSt_s0 hp1) rfl dX5_measure_17 ?_
  refine lv_iconst (v := -1) hx hb dX5_measure_20 (by decide) ?_
  refine lv_ixor hx hb dX5_measure_21 ?_
  refine lv_iand hx hb dX5_measure_22 ?_
  refine sg_puti X I fk_X5_49 wk_5_5 rfl rfl (by decide) shC_302 rfl h dX5_measure_23 (fun s4 H locs h I => ?_)
  refine lv_iconst (v := 0) hx hb dX5_measure_26 (by decide) ?_
  refine lv_istore_n (lv' := [(2, .int 0), (0, .ref (sgA P 302)), (1, .ref (sgA P p1))]) hx hb dX5_measure_27 rfl hl (by decide) rfl (fun ls hl => ?_)
  obtain ⟨res, e9, k9⟩ := sg_lb_some h
  refine sg_go (sg_lp_W (a := (sg_Rv p l e R s m args below meth c Q P shC 332 A cX5_measure)) (w := (fun x => sg_Wt p l e R s m args below meth c Q P shC 332 A 5 28 x.1 [(0, .ref (sgA P 302)), (1, .ref (sgA P p1)), (2, .int x.2)])) (c := (fun y => sg_Wt p l e R s m args below meth c Q P shC 332 A 5 133 y [(0, .ref (sgA P 302))])) (fun x st hb9 hk9 => ?_) N ((s4, 0)) res e9 (sg_k2_mono k9 (fun r h => ?_) (fun y18 h => ?_))) I (lv_sub hl [1, 2, 0] rfl)
  · intro H locs ls I hl
    exact b_X5_measure_L28 X hp1 I hl hb9 hk9
  · obtain rfl := Option.some.inj h
    exact hk
  · intro H locs ls I hl
    refine lv_iconst (v := 0) hx hb dX5_measure_133 (by decide) ?_
    refine lv_istore_n (lv' := [(2, .int 0), (0, .ref (sgA P 302))]) hx hb dX5_measure_134 rfl hl (by decide) rfl (fun ls hl => ?_)
    obtain ⟨res, e9, k9⟩ := sg_lb_some h
    refine sg_go (sg_lp_W (a := (sg_Rv p l e R s m args below meth c Q P shC 332 A cX5_measure)) (w := (fun x => sg_Wt p l e R s m args below meth c Q P shC 332 A 5 135 x.1 [(0, .ref (sgA P 302)), (2, .int x.2)])) (c := (fun y => sg_Wt p l e R s m args below meth c Q P shC 332 A 5 157 y [])) (fun x st hb9 hk9 => ?_) N ((y18, 0)) res e9 (sg_k2_mono k9 (fun r h => ?_) (fun y21 h => ?_))) I (lv_sub hl [1, 0] rfl)
    · intro H locs ls I hl
      exact b_X5_measure_L135 X hp1 I hl hb9 hk9
    · obtain rfl := Option.some.inj h
      exact hk
    · intro H locs ls I hl
      obtain rfl := Option.some.inj h
      exact hk _ _ _ _ I dX5_measure_157
set_option maxHeartbeats 4000000 in
set_option maxRecDepth 100000 in
theorem c_X5_measure {l : Launch} {P : sgP} {N : Nat} {p1 : Nat} {σ : sgS} (hp1 : isSt p1) {q : Int32 × sgS} (h : f_X5_measure N p1 σ = some q) : sg_Mv P shC 332 l yX5_measure cX5_measure 5 none 5 [.ref (sgA P 302), .ref (sgA P p1)] σ q := by
  refine sg_mkv (plainFor_of_name (by decide +kernel)) (Nat.le_of_ble_eq_true rfl) ?_
  intro p e R s m args below meth c Q A ls H locs X I hl hk
  exact b_X5_measure X hp1 I hl h hk
def f_X5_leadsOn (N : Nat) (p1 : Int32) (p2 : Int32) (p3 : Int32) (σ : sgS) : Option (Int32) :=
  sg_cr (f_X5_reaches N p1 p3 σ) fun v1 =>
if v1 = 0 then
  (some (vp_nar .boolean 0))
else
  (sg_rf 7 p1 fun j3 =>
  sg_ld σ (304 + j3) 7 p2 fun v4 =>
  sg_rf 7 p2 fun j6 =>
  sg_ld σ (312 + j6) 7 p3 fun v7 =>
  sg_rf 7 p1 fun j9 =>
  sg_ld σ (312 + j9) 7 p3 fun v10 =>
  if (v4 + v7) = v10 then
    (some (vp_nar .boolean 1))
  else
    (some (vp_nar .boolean 0)))
set_option maxHeartbeats 4000000 in
set_option maxRecDepth 100000 in
theorem b_X5_leadsOn {p : Program} {l : Launch} {e : Env} {R : Room} {s : State} {m : MethodId} {args : Array Value} {below : List Frame} {meth : Method} {c : Code} {Q : State → Prop} {P : sgP} {A : Nat → Prop} {N : Nat} {p1 : Int32} {p2 : Int32} {p3 : Int32} {σ : sgS} (X : sg_C P A 2 p R s m args c cX5_leadsOn 4 RX5) {H : Heap} {locs : List Loc} (I : sg_I P shC 332 A s.heap σ H locs) {ls : Array Slot} (hl : lv_has ls 4 [(0, .ref (sgA P 302)), (1, .int p1), (2, .int p2), (3, .int p3)]) {st : Int32} (h : f_X5_leadsOn N p1 p2 p3 σ = some st) (hk : sg_Ri p l e R s m args below meth c Q P shC 332 A cX5_leadsOn (some .boolean) (st, σ)) : W p l e R s m args below meth c H locs 0 0 Q (F0 m 0 ls []) := by
  unfold f_X5_leadsOn at h
  have hx := X.1.1
  have hb := X.1.2.1
  have hown := X.1.2.2.2.1
  have hts := X.1.2.2.2.2
  refine lv_aload_n hx hb dX5_leadsOn_0 rfl (lv_at hl 0 rfl) ?_
  refine lv_iload_n hx hb dX5_leadsOn_1 rfl (lv_at hl 1 rfl) ?_
  refine lv_iload_n hx hb dX5_leadsOn_2 rfl (lv_at hl 3 rfl) ?_
  refine sg_callVr (As := [.int p1, .int p3]) X I mk_X5_83 (by decide) (by decide) shC_302 rfl (fun q9 e9 => c_X5_reaches e9) h hl.1 rfl rfl (Nat.le_of_ble_eq_true rfl) dX5_leadsOn_3 (fun v1 H locs h I => ?_)
  refine lv_if_eq (tgt := 41) hx hb dX5_leadsOn_6 (by decide) (fun z => ?_) (fun z => ?_)
  · have h := sg_ift h z
    refine lv_iconst (v := 0) hx hb dX5_leadsOn_41 (by decide) ?_
    obtain rfl := Option.some.inj h
    exact hk _ _ _ _ _ I ⟨_, rfl, rfl⟩ dX5_leadsOn_42
  · have h := sg_iff h z
    refine lv_aload_n hx hb dX5_leadsOn_9 rfl (lv_at hl 0 rfl) ?_
    refine sg_getr X I fk_X5_11 (j := 303) (by decide) shC_302 rfl dX5_leadsOn_10 ?_
    refine lv_iload_n hx hb dX5_leadsOn_13 rfl (lv_at hl 1 rfl) ?_
    refine sg_aalda X I (by decide) shC_303 (r := fun k => 304 + k) (fun _ _ => rfl) h dX5_leadsOn_14 (fun j3 hj3 h => ?_)
    refine lv_iload_n hx hb dX5_leadsOn_15 rfl (lv_at hl 2 rfl) ?_
    refine sg_iald X I (shC_303i hj3) (shC_303s hj3) h dX5_leadsOn_16 (fun v4 h => ?_)
    refine lv_aload_n hx hb dX5_leadsOn_17 rfl (lv_at hl 0 rfl) ?_
    refine sg_getr X I fk_X5_16 (j := 311) (by decide) shC_302 rfl dX5_leadsOn_18 ?_
    refine lv_iload_n hx hb dX5_leadsOn_21 rfl (lv_at hl 2 rfl) ?_
    refine sg_aalda X I (by decide) shC_311 (r := fun k => 312 + k) (fun _ _ => rfl) h dX5_leadsOn_22 (fun j6 hj6 h => ?_)
    refine lv_iload_n hx hb dX5_leadsOn_23 rfl (lv_at hl 3 rfl) ?_
    refine sg_iald X I (shC_311i hj6) (shC_311s hj6) h dX5_leadsOn_24 (fun v7 h => ?_)
    refine lv_iadd hx hb dX5_leadsOn_25 ?_
    refine lv_aload_n hx hb dX5_leadsOn_26 rfl (lv_at hl 0 rfl) ?_
    refine sg_getr X I fk_X5_16 (j := 311) (by decide) shC_302 rfl dX5_leadsOn_27 ?_
    refine lv_iload_n hx hb dX5_leadsOn_30 rfl (lv_at hl 1 rfl) ?_
    refine sg_aalda X I (by decide) shC_311 (r := fun k => 312 + k) (fun _ _ => rfl) h dX5_leadsOn_31 (fun j9 hj9 h => ?_)
    refine lv_iload_n hx hb dX5_leadsOn_32 rfl (lv_at hl 3 rfl) ?_
    refine sg_iald X I (shC_311i hj9) (shC_311s hj9) h dX5_leadsOn_33 (fun v10 h => ?_)
    refine lv_icmp_ne (tgt := 41) hx hb dX5_leadsOn_34 (by decide) (fun z => ?_) (fun z => ?_)
    · have h := sg_iff h z
      refine lv_iconst (v := 0) hx hb dX5_leadsOn_41 (by decide) ?_
      obtain rfl := Option.some.inj h
      exact hk _ _ _ _ _ I ⟨_, rfl, rfl⟩ dX5_leadsOn_42
    · have h := sg_ift h z
      refine lv_iconst (v := 1) hx hb dX5_leadsOn_37 (by decide) ?_
      refine lv_goto (tgt := 42) hx hb dX5_leadsOn_38 (by decide) ?_
      obtain rfl := Option.some.inj h
      exact hk _ _ _ _ _ I ⟨_, rfl, rfl⟩ dX5_leadsOn_42
set_option maxHeartbeats 4000000 in
set_option maxRecDepth 100000 in
theorem c_X5_leadsOn {l : Launch} {P : sgP} {N : Nat} {p1 : Int32} {p2 : Int32} {p3 : Int32} {σ : sgS} {q : Int32} (h : f_X5_leadsOn N p1 p2 p3 σ = some q) : sg_Mi P shC 332 l yX5_leadsOn cX5_leadsOn 4 (some .boolean) 2 [.ref (sgA P 302), .int p1, .int p2, .int p3] σ (q, σ) := by
  refine sg_mki (plainFor_of_name (by decide +kernel)) (Nat.le_of_ble_eq_true rfl) ?_
  intro p e R s m args below meth c Q A ls H locs X I hl hk
  exact b_X5_leadsOn X I hl h hk
