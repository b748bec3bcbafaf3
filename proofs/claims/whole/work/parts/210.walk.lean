def f_X12_readCounty_L29 (N : Nat) (w1 : Int32) (x2 : Int32) (σ : sgS) : Option ((Int32 × sgS) ⊕ ((sgS × Int32) ⊕ (sgS))) :=
  if 2 ≤ x2 then
  (some (.inr (.inr σ)))
else
  (sg_cr (f_X12_usual N 115 x2 σ) fun v6 =>
  sg_st σ 11 2 x2 v6 fun s7 =>
  some (.inr (.inl (s7, x2 + 1))))
set_option maxHeartbeats 4000000 in
set_option maxRecDepth 100000 in
theorem b_X12_readCounty_L29 {p : Program} {l : Launch} {e : Env} {R : Room} {s : State} {m : MethodId} {args : Array Value} {below : List Frame} {meth : Method} {c : Code} {Q : State → Prop} {P : sgP} {A : Nat → Prop} {N : Nat} {w1 : Int32} {x2 : Int32} {σ : sgS} (X : sg_C P A 5 p R s m args c cX12_readCounty 4 RX12) {H : Heap} {locs : List Loc} (I : sg_I P shM 35 A s.heap σ H locs) {ls : Array Slot} (hl : lv_has ls 4 [(0, .ref (sgA P 0)), (1, .int w1), (2, .int x2)]) {st : (Int32 × sgS) ⊕ ((sgS × Int32) ⊕ (sgS))} (h : f_X12_readCounty_L29 N w1 x2 σ = some st) (hk : sg_k3 (sg_Ri p l e R s m args below meth c Q P shM 35 A cX12_readCounty (some .int)) (fun x => sg_Wt p l e R s m args below meth c Q P shM 35 A 4 29 x.1 [(0, .ref (sgA P 0)), (1, .int w1), (2, .int x.2)]) (fun y => sg_Wt p l e R s m args below meth c Q P shM 35 A 4 52 y [(0, .ref (sgA P 0)), (1, .int w1)]) st) : W p l e R s m args below meth c H locs 0 0 Q (F0 m 29 ls []) := by
  unfold f_X12_readCounty_L29 at h
  have hx := X.1.1
  have hb := X.1.2.1
  have hown := X.1.2.2.2.1
  have hts := X.1.2.2.2.2
  refine lv_iload_n hx hb dX12_readCounty_29 rfl (lv_at hl 2 rfl) ?_
  refine lv_iconst (v := 2) hx hb dX12_readCounty_30 (by decide) ?_
  refine lv_icmp_ge (tgt := 52) hx hb dX12_readCounty_31 (by decide) (fun z => ?_) (fun z => ?_)
  · have h := sg_ift h z
    obtain rfl := Option.some.inj h
    exact sg_go hk I (lv_sub hl [0, 1] rfl)
  · have h := sg_iff h z
    refine lv_aload_n hx hb dX12_readCounty_34 rfl (lv_at hl 0 rfl) ?_
    refine sg_getr X I fk_X12_40 (j := 11) (by decide) shM_0 rfl dX12_readCounty_35 ?_
    refine lv_iload_n hx hb dX12_readCounty_38 rfl (lv_at hl 2 rfl) ?_
    refine lv_bipush (v := 115) hx hb dX12_readCounty_39 (by decide) ?_
    refine lv_iload_n hx hb dX12_readCounty_41 rfl (lv_at hl 2 rfl) ?_
    refine sg_callSr (As := [.int 115, .int x2]) X I mk_X12_239 (by decide) (fun q9 e9 => c_X12_usual e9) h hl.1 rfl rfl (Nat.le_of_ble_eq_true rfl) dX12_readCounty_42 (fun v6 H locs h I => ?_)
    refine sg_iast X I (by decide) shM_11 h dX12_readCounty_45 (fun s7 H locs h I => ?_)
    refine lv_iinc (v := x2 + 1) (lv' := [(2, .int (x2 + 1)), (0, .ref (sgA P 0)), (1, .int w1)]) hx hb dX12_readCounty_46 hl (k := 2) rfl rfl (by decide) rfl (fun ls hl => ?_)
    refine lv_goto (tgt := 29) hx hb dX12_readCounty_49 (by decide) ?_
    obtain rfl := Option.some.inj h
    exact sg_go hk I (lv_sub hl [1, 2, 0] rfl)
def f_X12_readCounty_L54_B290 (N : Nat) (u1 : Int32) (k0 : Int32) (σ : sgS) : Option ((Int32 × sgS) ⊕ ((sgS × Int32 × Int32) ⊕ (sgS))) :=
  if k0 = 0 then
  (sg_pf σ 0 3 ((σ.1 0 3) + 0) fun s13 =>
  some (.inr (.inl (s13, u1, k0))))
else
  (sg_pf σ 0 3 ((σ.1 0 3) + 1) fun s14 =>
  some (.inr (.inl (s14, u1, k0))))
set_option maxHeartbeats 4000000 in
set_option maxRecDepth 100000 in
theorem b_X12_readCounty_L54_B290 {p : Program} {l : Launch} {e : Env} {R : Room} {s : State} {m : MethodId} {args : Array Value} {below : List Frame} {meth : Method} {c : Code} {Q : State → Prop} {P : sgP} {A : Nat → Prop} {N : Nat} {u1 : Int32} {k0 : Int32} {σ : sgS} (X : sg_C P A 5 p R s m args c cX12_readCounty 4 RX12) {H : Heap} {locs : List Loc} (I : sg_I P shM 35 A s.heap σ H locs) {ls : Array Slot} (hl : lv_has ls 4 [(0, .ref (sgA P 0)), (1, .int u1)]) {st : (Int32 × sgS) ⊕ ((sgS × Int32 × Int32) ⊕ (sgS))} (h : f_X12_readCounty_L54_B290 N u1 k0 σ = some st) (hk : sg_k3 (sg_Ri p l e R s m args below meth c Q P shM 35 A cX12_readCounty (some .int)) (fun x => sg_Wt p l e R s m args below meth c Q P shM 35 A 4 54 x.1 [(0, .ref (sgA P 0)), (1, .int x.2.1), (2, .int x.2.2)]) (fun y => sg_Wt p l e R s m args below meth c Q P shM 35 A 4 312 y [(0, .ref (sgA P 0))]) st) : W p l e R s m args below meth c H locs 0 0 Q (F0 m 290 ls [.int k0]) := by
  unfold f_X12_readCounty_L54_B290 at h
  have hx := X.1.1
  have hb := X.1.2.1
  have hown := X.1.2.2.2.1
  have hts := X.1.2.2.2.2
  refine lv_istore_n (lv' := [(2, .int k0), (0, .ref (sgA P 0)), (1, .int u1)]) hx hb dX12_readCounty_290 rfl hl (by decide) rfl (fun ls hl => ?_)
  refine lv_aload_n hx hb dX12_readCounty_291 rfl (lv_at hl 1 rfl) ?_
  refine lv_dup hx hb dX12_readCounty_292 rfl ?_
  refine sg_geti X I fk_X12_130 (by decide) shM_0 rfl dX12_readCounty_293 ?_
  refine lv_iload_n hx hb dX12_readCounty_296 rfl (lv_at hl 0 rfl) ?_
  refine lv_if_eq (tgt := 304) hx hb dX12_readCounty_297 (by decide) (fun z => ?_) (fun z => ?_)
  · have h := sg_ift h z
    refine lv_iconst (v := 0) hx hb dX12_readCounty_304 (by decide) ?_
    refine lv_iadd hx hb dX12_readCounty_305 ?_
    refine sg_puti X I fk_X12_130 wk_12_3 rfl rfl (by decide) shM_0 rfl h dX12_readCounty_306 (fun s13 H locs h I => ?_)
    refine lv_goto (tgt := 54) hx hb dX12_readCounty_309 (by decide) ?_
    obtain rfl := Option.some.inj h
    exact sg_go hk I (lv_sub hl [1, 2, 0] rfl)
  · have h := sg_iff h z
    refine lv_iconst (v := 1) hx hb dX12_readCounty_300 (by decide) ?_
    refine lv_goto (tgt := 305) hx hb dX12_readCounty_301 (by decide) ?_
    refine lv_iadd hx hb dX12_readCounty_305 ?_
    refine sg_puti X I fk_X12_130 wk_12_3 rfl rfl (by decide) shM_0 rfl h dX12_readCounty_306 (fun s14 H locs h I => ?_)
    refine lv_goto (tgt := 54) hx hb dX12_readCounty_309 (by decide) ?_
    obtain rfl := Option.some.inj h
    exact sg_go hk I (lv_sub hl [1, 2, 0] rfl)
def f_X12_readCounty_L54_B268 (N : Nat) (u1 : Int32) (σ : sgS) : Option ((Int32 × sgS) ⊕ ((sgS × Int32 × Int32) ⊕ (sgS))) :=
  if (σ.1 0 4) = ((-1)) then
  (sg_cl (f_X12_look N σ) fun v15 s16 =>
  if v15 = 59 then
    (f_X12_readCounty_L54_B290 N u1 1 s16)
  else
    (f_X12_readCounty_L54_B290 N u1 0 s16))
else
  (f_X12_readCounty_L54_B290 N u1 0 σ)
set_option maxHeartbeats 4000000 in
set_option maxRecDepth 100000 in
theorem b_X12_readCounty_L54_B268 {p : Program} {l : Launch} {e : Env} {R : Room} {s : State} {m : MethodId} {args : Array Value} {below : List Frame} {meth : Method} {c : Code} {Q : State → Prop} {P : sgP} {A : Nat → Prop} {N : Nat} {u1 : Int32} {σ : sgS} (X : sg_C P A 5 p R s m args c cX12_readCounty 4 RX12) {H : Heap} {locs : List Loc} (I : sg_I P shM 35 A s.heap σ H locs) {ls : Array Slot} (hl : lv_has ls 4 [(0, .ref (sgA P 0)), (1, .int u1)]) {st : (Int32 × sgS) ⊕ ((sgS × Int32 × Int32) ⊕ (sgS))} (h : f_X12_readCounty_L54_B268 N u1 σ = some st) (hk : sg_k3 (sg_Ri p l e R s m args below meth c Q P shM 35 A cX12_readCounty (some .int)) (fun x => sg_Wt p l e R s m args below meth c Q P shM 35 A 4 54 x.1 [(0, .ref (sgA P 0)), (1, .int x.2.1), (2, .int x.2.2)]) (fun y => sg_Wt p l e R s m args below meth c Q P shM 35 A 4 312 y [(0, .ref (sgA P 0))]) st) : W p l e R s m args below meth c H locs 0 0 Q (F0 m 268 ls []) := by
  unfold f_X12_readCounty_L54_B268 at h
  have hx := X.1.1
  have hb := X.1.2.1
  have hown := X.1.2.2.2.1
  have hts := X.1.2.2.2.2
  refine lv_aload_n hx hb dX12_readCounty_268 rfl (lv_at hl 0 rfl) ?_
  refine sg_geti X I fk_X12_137 (by decide) shM_0 rfl dX12_readCounty_269 ?_
  refine lv_iconst (v := -1) hx hb dX12_readCounty_272 (by decide) ?_
  refine lv_icmp_ne (tgt := 289) hx hb dX12_readCounty_273 (by decide) (fun z => ?_) (fun z => ?_)
  · have h := sg_iff h z
    refine lv_iconst (v := 0) hx hb dX12_readCounty_289 (by decide) ?_
    exact b_X12_readCounty_L54_B290 X I (lv_sub hl [0, 1] rfl) h hk
  · have h := sg_ift h z
    refine lv_aload_n hx hb dX12_readCounty_276 rfl (lv_at hl 0 rfl) ?_
    refine sg_callV (As := []) X I mk_X12_149 (by decide) (by decide) shM_0 rfl (fun q9 e9 => c_X12_look e9) h hl.1 rfl rfl (Nat.le_of_ble_eq_true rfl) dX12_readCounty_277 (fun v15 s16 H locs h I => ?_)
    refine lv_bipush (v := 59) hx hb dX12_readCounty_280 (by decide) ?_
    refine lv_icmp_ne (tgt := 289) hx hb dX12_readCounty_282 (by decide) (fun z => ?_) (fun z => ?_)
    · have h := sg_iff h z
      refine lv_iconst (v := 0) hx hb dX12_readCounty_289 (by decide) ?_
      exact b_X12_readCounty_L54_B290 X I (lv_sub hl [0, 1] rfl) h hk
    · have h := sg_ift h z
      refine lv_iconst (v := 1) hx hb dX12_readCounty_285 (by decide) ?_
      refine lv_goto (tgt := 290) hx hb dX12_readCounty_286 (by decide) ?_
      exact b_X12_readCounty_L54_B290 X I (lv_sub hl [0, 1] rfl) h hk
def f_X12_readCounty_L54_B213 (N : Nat) (u1 : Int32) (u3 : Int32) (σ : sgS) : Option ((Int32 × sgS) ⊕ ((sgS × Int32 × Int32) ⊕ (sgS))) :=
  if u3 = 119 then
  (if 4 ≤ (σ.1 0 23) then
    (sg_cl (f_X12_bad N σ) fun v17 s18 =>
    f_X12_readCounty_L54_B268 N u1 s18)
  else
    (sg_pf σ 0 3 ((σ.1 0 3) + 1) fun s19 =>
    sg_cl (f_X12_items N u3 14 4 (s19.1 0 23) 1 s19) fun v20 s21 =>
    sg_pf s21 0 23 ((s21.1 0 23) + 1) fun s22 =>
    f_X12_readCounty_L54_B268 N u1 s22))
else
  (sg_cl (f_X12_bad N σ) fun v11 s12 =>
  f_X12_readCounty_L54_B268 N u1 s12)
set_option maxHeartbeats 4000000 in
set_option maxRecDepth 100000 in
theorem b_X12_readCounty_L54_B213 {p : Program} {l : Launch} {e : Env} {R : Room} {s : State} {m : MethodId} {args : Array Value} {below : List Frame} {meth : Method} {c : Code} {Q : State → Prop} {P : sgP} {A : Nat → Prop} {N : Nat} {u1 : Int32} {u3 : Int32} {σ : sgS} (X : sg_C P A 5 p R s m args c cX12_readCounty 4 RX12) {H : Heap} {locs : List Loc} (I : sg_I P shM 35 A s.heap σ H locs) {ls : Array Slot} (hl : lv_has ls 4 [(0, .ref (sgA P 0)), (1, .int u1), (3, .int u3)]) {st : (Int32 × sgS) ⊕ ((sgS × Int32 × Int32) ⊕ (sgS))} (h : f_X12_readCounty_L54_B213 N u1 u3 σ = some st) (hk : sg_k3 (sg_Ri p l e R s m args below meth c Q P shM 35 A cX12_readCounty (some .int)) (fun x => sg_Wt p l e R s m args below meth c Q P shM 35 A 4 54 x.1 [(0, .ref (sgA P 0)), (1, .int x.2.1), (2, .int x.2.2)]) (fun y => sg_Wt p l e R s m args below meth c Q P shM 35 A 4 312 y [(0, .ref (sgA P 0))]) st) : W p l e R s m args below meth c H locs 0 0 Q (F0 m 213 ls []) := by
  unfold f_X12_readCounty_L54_B213 at h
  have hx := X.1.1
  have hb := X.1.2.1
  have hown := X.1.2.2.2.1
  have hts := X.1.2.2.2.2
  refine lv_iload_n hx hb dX12_readCounty_213 rfl (lv_at hl 2 rfl) ?_
  refine lv_bipush (v := 119) hx hb dX12_readCounty_214 (by decide) ?_
  refine lv_icmp_ne (tgt := 264) hx hb dX12_readCounty_216 (by decide) (fun z => ?_) (fun z => ?_)
  · have h := sg_iff h z
    refine lv_aload_n hx hb dX12_readCounty_264 rfl (lv_at hl 0 rfl) ?_
    refine sg_callVv (As := []) X I mk_X12_146 (by decide) (by decide) shM_0 rfl (fun q9 e9 => c_X12_bad e9) h hl.1 rfl rfl (Nat.le_of_ble_eq_true rfl) dX12_readCounty_265 (fun v11 s12 H locs h I => ?_)
    exact b_X12_readCounty_L54_B268 X I (lv_sub hl [0, 1] rfl) h hk
  · have h := sg_ift h z
    refine lv_aload_n hx hb dX12_readCounty_219 rfl (lv_at hl 0 rfl) ?_
    refine sg_geti X I fk_X12_265 (by decide) shM_0 rfl dX12_readCounty_220 ?_
    refine lv_iconst (v := 4) hx hb dX12_readCounty_223 (by decide) ?_
    refine lv_icmp_ge (tgt := 264) hx hb dX12_readCounty_224 (by decide) (fun z => ?_) (fun z => ?_)
    · have h := sg_ift h z
      refine lv_aload_n hx hb dX12_readCounty_264 rfl (lv_at hl 0 rfl) ?_
      refine sg_callVv (As := []) X I mk_X12_146 (by decide) (by decide) shM_0 rfl (fun q9 e9 => c_X12_bad e9) h hl.1 rfl rfl (Nat.le_of_ble_eq_true rfl) dX12_readCounty_265 (fun v17 s18 H locs h I => ?_)
      exact b_X12_readCounty_L54_B268 X I (lv_sub hl [0, 1] rfl) h hk
    · have h := sg_iff h z
      refine lv_aload_n hx hb dX12_readCounty_227 rfl (lv_at hl 0 rfl) ?_
      refine lv_dup hx hb dX12_readCounty_228 rfl ?_
      refine sg_geti X I fk_X12_130 (by decide) shM_0 rfl dX12_readCounty_229 ?_
      refine lv_iconst (v := 1) hx hb dX12_readCounty_232 (by decide) ?_
      refine lv_iadd hx hb dX12_readCounty_233 ?_
      refine sg_puti X I fk_X12_130 wk_12_3 rfl rfl (by decide) shM_0 rfl h dX12_readCounty_234 (fun s19 H locs h I => ?_)
      refine lv_aload_n hx hb dX12_readCounty_237 rfl (lv_at hl 0 rfl) ?_
      refine lv_iload_n hx hb dX12_readCounty_238 rfl (lv_at hl 2 rfl) ?_
      refine lv_aload_n hx hb dX12_readCounty_239 rfl (lv_at hl 0 rfl) ?_
      refine sg_getr X I fk_X12_49 (j := 14) (by decide) shM_0 rfl dX12_readCounty_240 ?_
      refine lv_aload_n hx hb dX12_readCounty_243 rfl (lv_at hl 0 rfl) ?_
      refine sg_geti X I fk_X12_265 (by decide) shM_0 rfl dX12_readCounty_244 ?_
      refine lv_iconst (v := 1) hx hb dX12_readCounty_247 (by decide) ?_
      refine sg_callVv (As := [.int u3, .ref (sgA P 14), .int (s19.1 0 23), .int 1]) X I mk_X12_268 (by decide) (by decide) shM_0 rfl (fun q9 e9 => c_X12_items (by decide) shM_14 e9) h hl.1 rfl rfl (Nat.le_of_ble_eq_true rfl) dX12_readCounty_248 (fun v20 s21 H locs h I => ?_)
      refine lv_aload_n hx hb dX12_readCounty_251 rfl (lv_at hl 0 rfl) ?_
      refine lv_dup hx hb dX12_readCounty_252 rfl ?_
      refine sg_geti X I fk_X12_265 (by decide) shM_0 rfl dX12_readCounty_253 ?_
      refine lv_iconst (v := 1) hx hb dX12_readCounty_256 (by decide) ?_
      refine lv_iadd hx hb dX12_readCounty_257 ?_
      refine sg_puti X I fk_X12_265 wk_12_23 rfl rfl (by decide) shM_0 rfl h dX12_readCounty_258 (fun s22 H locs h I => ?_)
      refine lv_goto (tgt := 268) hx hb dX12_readCounty_261 (by decide) ?_
      exact b_X12_readCounty_L54_B268 X I (lv_sub hl [0, 1] rfl) h hk
def f_X12_readCounty_L54_B159 (N : Nat) (u1 : Int32) (u3 : Int32) (σ : sgS) : Option ((Int32 × sgS) ⊕ ((sgS × Int32 × Int32) ⊕ (sgS))) :=
  if u3 = 114 then
  (if 12 ≤ (σ.1 0 22) then
    (f_X12_readCounty_L54_B213 N u1 u3 σ)
  else
    (sg_pf σ 0 3 ((σ.1 0 3) + 1) fun s23 =>
    sg_cl (f_X12_items N u3 13 48 (4 * (s23.1 0 22)) 4 s23) fun v24 s25 =>
    sg_pf s25 0 22 ((s25.1 0 22) + 1) fun s26 =>
    f_X12_readCounty_L54_B268 N u1 s26))
else
  (f_X12_readCounty_L54_B213 N u1 u3 σ)
set_option maxHeartbeats 4000000 in
set_option maxRecDepth 100000 in
theorem b_X12_readCounty_L54_B159 {p : Program} {l : Launch} {e : Env} {R : Room} {s : State} {m : MethodId} {args : Array Value} {below : List Frame} {meth : Method} {c : Code} {Q : State → Prop} {P : sgP} {A : Nat → Prop} {N : Nat} {u1 : Int32} {u3 : Int32} {σ : sgS} (X : sg_C P A 5 p R s m args c cX12_readCounty 4 RX12) {H : Heap} {locs : List Loc} (I : sg_I P shM 35 A s.heap σ H locs) {ls : Array Slot} (hl : lv_has ls 4 [(0, .ref (sgA P 0)), (1, .int u1), (3, .int u3)]) {st : (Int32 × sgS) ⊕ ((sgS × Int32 × Int32) ⊕ (sgS))} (h : f_X12_readCounty_L54_B159 N u1 u3 σ = some st) (hk : sg_k3 (sg_Ri p l e R s m args below meth c Q P shM 35 A cX12_readCounty (some .int)) (fun x => sg_Wt p l e R s m args below meth c Q P shM 35 A 4 54 x.1 [(0, .ref (sgA P 0)), (1, .int x.2.1), (2, .int x.2.2)]) (fun y => sg_Wt p l e R s m args below meth c Q P shM 35 A 4 312 y [(0, .ref (sgA P 0))]) st) : W p l e R s m args below meth c H locs 0 0 Q (F0 m 159 ls []) := by
  unfold f_X12_readCounty_L54_B159 at h
  have hx := X.1.1
  have hb := X.1.2.1
  have hown := X.1.2.2.2.1
  have hts := X.1.2.2.2.2
  refine lv_iload_n hx hb dX12_readCounty_159 rfl (lv_at hl 2 rfl) ?_
  refine lv_bipush (v := 114) hx hb dX12_readCounty_160 (by decide) ?_
  refine lv_icmp_ne (tgt := 213) hx hb dX12_readCounty_162 (by decide) (fun z => ?_) (fun z => ?_)
  · have h := sg_iff h z
    exact b_X12_readCounty_L54_B213 X I (lv_sub hl [0, 1, 2] rfl) h hk
  · have h := sg_ift h z
    refine lv_aload_n hx hb dX12_readCounty_165 rfl (lv_at hl 0 rfl) ?_
    refine sg_geti X I fk_X12_262 (by decide) shM_0 rfl dX12_readCounty_166 ?_
    refine lv_bipush (v := 12) hx hb dX12_readCounty_169 (by decide) ?_
    refine lv_icmp_ge (tgt := 213) hx hb dX12_readCounty_171 (by decide) (fun z => ?_) (fun z => ?_)
    · have h := sg_ift h z
      exact b_X12_readCounty_L54_B213 X I (lv_sub hl [0, 1, 2] rfl) h hk
    · have h := sg_iff h z
      refine lv_aload_n hx hb dX12_readCounty_174 rfl (lv_at hl 0 rfl) ?_
      refine lv_dup hx hb dX12_readCounty_175 rfl ?_
      refine sg_geti X I fk_X12_130 (by decide) shM_0 rfl dX12_readCounty_176 ?_
      refine lv_iconst (v := 1) hx hb dX12_readCounty_179 (by decide) ?_
      refine lv_iadd hx hb dX12_readCounty_180 ?_
      refine sg_puti X I fk_X12_130 wk_12_3 rfl rfl (by decide) shM_0 rfl h dX12_readCounty_181 (fun s23 H locs h I => ?_)
      refine lv_aload_n hx hb dX12_readCounty_184 rfl (lv_at hl 0 rfl) ?_
      refine lv_iload_n hx hb dX12_readCounty_185 rfl (lv_at hl 2 rfl) ?_
      refine lv_aload_n hx hb dX12_readCounty_186 rfl (lv_at hl 0 rfl) ?_
      refine sg_getr X I fk_X12_46 (j := 13) (by decide) shM_0 rfl dX12_readCounty_187 ?_
      refine lv_iconst (v := 4) hx hb dX12_readCounty_190 (by decide) ?_
      refine lv_aload_n hx hb dX12_readCounty_191 rfl (lv_at hl 0 rfl) ?_
      refine sg_geti X I fk_X12_262 (by decide) shM_0 rfl dX12_readCounty_192 ?_
      refine lv_imul hx hb dX12_readCounty_195 ?_
      refine lv_iconst (v := 4) hx hb dX12_readCounty_196 (by decide) ?_
      refine sg_callVv (As := [.int u3, .ref (sgA P 13), .int (4 * (s23.1 0 22)), .int 4]) X I mk_X12_268 (by decide) (by decide) shM_0 rfl (fun q9 e9 => c_X12_items (by decide) shM_13 e9) h hl.1 rfl rfl (Nat.le_of_ble_eq_true rfl) dX12_readCounty_197 (fun v24 s25 H locs h I => ?_)
      refine lv_aload_n hx hb dX12_readCounty_200 rfl (lv_at hl 0 rfl) ?_
      refine lv_dup hx hb dX12_readCounty_201 rfl ?_
      refine sg_geti X I fk_X12_262 (by decide) shM_0 rfl dX12_readCounty_202 ?_
      refine lv_iconst (v := 1) hx hb dX12_readCounty_205 (by decide) ?_
      refine lv_iadd hx hb dX12_readCounty_206 ?_
      refine sg_puti X I fk_X12_262 wk_12_22 rfl rfl (by decide) shM_0 rfl h dX12_readCounty_207 (fun s26 H locs h I => ?_)
      refine lv_goto (tgt := 268) hx hb dX12_readCounty_210 (by decide) ?_
      exact b_X12_readCounty_L54_B268 X I (lv_sub hl [0, 1] rfl) h hk
def f_X12_readCounty_L54_B107 (N : Nat) (u1 : Int32) (u3 : Int32) (σ : sgS) : Option ((Int32 × sgS) ⊕ ((sgS × Int32 × Int32) ⊕ (sgS))) :=
  if u3 = 112 then
  (if 7 ≤ (σ.1 0 21) then
    (f_X12_readCounty_L54_B159 N u1 u3 σ)
  else
    (sg_pf σ 0 3 ((σ.1 0 3) + 1) fun s27 =>
    sg_cl (f_X12_items N u3 12 7 (s27.1 0 21) 1 s27) fun v28 s29 =>
    sg_pf s29 0 21 ((s29.1 0 21) + 1) fun s30 =>
    f_X12_readCounty_L54_B268 N u1 s30))
else
  (f_X12_readCounty_L54_B159 N u1 u3 σ)
set_option maxHeartbeats 4000000 in
set_option maxRecDepth 100000 in
theorem b_X12_readCounty_L54_B107 {p : Program} {l : Launch} {e : Env} {R : Room} {s : State} {m : MethodId} {args : Array Value} {below : List Frame} {meth : Method} {c : Code} {Q : State → Prop} {P : sgP} {A : Nat → Prop} {N : Nat} {u1 : Int32} {u3 : Int32} {σ : sgS} (X : sg_C P A 5 p R s m args c cX12_readCounty 4 RX12) {H : Heap} {locs : List Loc} (I : sg_I P shM 35 A s.heap σ H locs) {ls : Array Slot} (hl : lv_has ls 4 [(0, .ref (sgA P 0)), (1, .int u1), (3, .int u3)]) {st : (Int32 × sgS) ⊕ ((sgS × Int32 × Int32) ⊕ (sgS))} (h : f_X12_readCounty_L54_B107 N u1 u3 σ = some st) (hk : sg_k3 (sg_Ri p l e R s m args below meth c Q P shM 35 A cX12_readCounty (some .int)) (fun x => sg_Wt p l e R s m args below meth c Q P shM 35 A 4 54 x.1 [(0, .ref (sgA P 0)), (1, .int x.2.1), (2, .int x.2.2)]) (fun y => sg_Wt p l e R s m args below meth c Q P shM 35 A 4 312 y [(0, .ref (sgA P 0))]) st) : W p l e R s m args below meth c H locs 0 0 Q (F0 m 107 ls []) := by
  unfold f_X12_readCounty_L54_B107 at h
  have hx := X.1.1
  have hb := X.1.2.1
  have hown := X.1.2.2.2.1
  have hts := X.1.2.2.2.2
  refine lv_iload_n hx hb dX12_readCounty_107 rfl (lv_at hl 2 rfl) ?_
  refine lv_bipush (v := 112) hx hb dX12_readCounty_108 (by decide) ?_
  refine lv_icmp_ne (tgt := 159) hx hb dX12_readCounty_110 (by decide) (fun z => ?_) (fun z => ?_)
  · have h := sg_iff h z
    exact b_X12_readCounty_L54_B159 X I (lv_sub hl [0, 1, 2] rfl) h hk
  · have h := sg_ift h z
    refine lv_aload_n hx hb dX12_readCounty_113 rfl (lv_at hl 0 rfl) ?_
    refine sg_geti X I fk_X12_259 (by decide) shM_0 rfl dX12_readCounty_114 ?_
    refine lv_bipush (v := 7) hx hb dX12_readCounty_117 (by decide) ?_
    refine lv_icmp_ge (tgt := 159) hx hb dX12_readCounty_119 (by decide) (fun z => ?_) (fun z => ?_)
    · have h := sg_ift h z
      exact b_X12_readCounty_L54_B159 X I (lv_sub hl [0, 1, 2] rfl) h hk
    · have h := sg_iff h z
      refine lv_aload_n hx hb dX12_readCounty_122 rfl (lv_at hl 0 rfl) ?_
      refine lv_dup hx hb dX12_readCounty_123 rfl ?_
      refine sg_geti X I fk_X12_130 (by decide) shM_0 rfl dX12_readCounty_124 ?_
      refine lv_iconst (v := 1) hx hb dX12_readCounty_127 (by decide) ?_
      refine lv_iadd hx hb dX12_readCounty_128 ?_
      refine sg_puti X I fk_X12_130 wk_12_3 rfl rfl (by decide) shM_0 rfl h dX12_readCounty_129 (fun s27 H locs h I => ?_)
      refine lv_aload_n hx hb dX12_readCounty_132 rfl (lv_at hl 0 rfl) ?_
      refine lv_iload_n hx hb dX12_readCounty_133 rfl (lv_at hl 2 rfl) ?_
      refine lv_aload_n hx hb dX12_readCounty_134 rfl (lv_at hl 0 rfl) ?_
      refine sg_getr X I fk_X12_43 (j := 12) (by decide) shM_0 rfl dX12_readCounty_135 ?_
      refine lv_aload_n hx hb dX12_readCounty_138 rfl (lv_at hl 0 rfl) ?_
      refine sg_geti X I fk_X12_259 (by decide) shM_0 rfl dX12_readCounty_139 ?_
      refine lv_iconst (v := 1) hx hb dX12_readCounty_142 (by decide) ?_
      refine sg_callVv (As := [.int u3, .ref (sgA P 12), .int (s27.1 0 21), .int 1]) X I mk_X12_268 (by decide) (by decide) shM_0 rfl (fun q9 e9 => c_X12_items (by decide) shM_12 e9) h hl.1 rfl rfl (Nat.le_of_ble_eq_true rfl) dX12_readCounty_143 (fun v28 s29 H locs h I => ?_)
      refine lv_aload_n hx hb dX12_readCounty_146 rfl (lv_at hl 0 rfl) ?_
      refine lv_dup hx hb dX12_readCounty_147 rfl ?_
      refine sg_geti X I fk_X12_259 (by decide) shM_0 rfl dX12_readCounty_148 ?_
      refine lv_iconst (v := 1) hx hb dX12_readCounty_151 (by decide) ?_
      refine lv_iadd hx hb dX12_readCounty_152 ?_
      refine sg_puti X I fk_X12_259 wk_12_21 rfl rfl (by decide) shM_0 rfl h dX12_readCounty_153 (fun s30 H locs h I => ?_)
      refine lv_goto (tgt := 268) hx hb dX12_readCounty_156 (by decide) ?_
      exact b_X12_readCounty_L54_B268 X I (lv_sub hl [0, 1] rfl) h hk
def f_X12_readCounty_L54 (N : Nat) (x1 : Int32) (x2 : Int32) (σ : sgS) : Option ((Int32 × sgS) ⊕ ((sgS × Int32 × Int32) ⊕ (sgS))) :=
  if x2 = 0 then
  (some (.inr (.inr σ)))
else
  (if (σ.1 0 4) = ((-1)) then
    (sg_cl (f_X12_look N σ) fun v9 s10 =>
    if v9 = 115 then
      (if x1 = 0 then
        (sg_pf s10 0 3 ((s10.1 0 3) + 1) fun s31 =>
        sg_cl (f_X12_items N v9 11 2 0 2 s31) fun v32 s33 =>
        f_X12_readCounty_L54_B268 N 1 s33)
      else
        (f_X12_readCounty_L54_B107 N x1 v9 s10))
    else
      (f_X12_readCounty_L54_B107 N x1 v9 s10))
  else
    (some (.inr (.inr σ))))
set_option maxHeartbeats 4000000 in
set_option maxRecDepth 100000 in
theorem b_X12_readCounty_L54 {p : Program} {l : Launch} {e : Env} {R : Room} {s : State} {m : MethodId} {args : Array Value} {below : List Frame} {meth : Method} {c : Code} {Q : State → Prop} {P : sgP} {A : Nat → Prop} {N : Nat} {x1 : Int32} {x2 : Int32} {σ : sgS} (X : sg_C P A 5 p R s m args c cX12_readCounty 4 RX12) {H : Heap} {locs : List Loc} (I : sg_I P shM 35 A s.heap σ H locs) {ls : Array Slot} (hl : lv_has ls 4 [(0, .ref (sgA P 0)), (1, .int x1), (2, .int x2)]) {st : (Int32 × sgS) ⊕ ((sgS × Int32 × Int32) ⊕ (sgS))} (h : f_X12_readCounty_L54 N x1 x2 σ = some st) (hk : sg_k3 (sg_Ri p l e R s m args below meth c Q P shM 35 A cX12_readCounty (some .int)) (fun x => sg_Wt p l e R s m args below meth c Q P shM 35 A 4 54 x.1 [(0, .ref (sgA P 0)), (1, .int x.2.1), (2, .int x.2.2)]) (fun y => sg_Wt p l e R s m args below meth c Q P shM 35 A 4 312 y [(0, .ref (sgA P 0))]) st) : W p l e R s m args below meth c H locs 0 0 Q (F0 m 54 ls []) := by
  unfold f_X12_readCounty_L54 at h
  have hx := X.1.1
  have hb := X.1.2.1
  have hown := X.1.2.2.2.1
  have hts := X.1.2.2.2.2
  refine lv_iload_n hx hb dX12_readCounty_54 rfl (lv_at hl 2 rfl) ?_
  refine lv_if_eq (tgt := 312) hx hb dX12_readCounty_55 (by decide) (fun z => ?_) (fun z => ?_)
  · have h := sg_ift h z
    obtain rfl := Option.some.inj h
    exact sg_go hk I (lv_sub hl [0] rfl)
  · have h := sg_iff h z
    refine lv_aload_n hx hb dX12_readCounty_58 rfl (lv_at hl 0 rfl) ?_
    refine sg_geti X I fk_X12_137 (by decide) shM_0 rfl dX12_readCounty_59 ?_
    refine lv_iconst (v := -1) hx hb dX12_readCounty_62 (by decide) ?_
    refine lv_icmp_ne (tgt := 312) hx hb dX12_readCounty_63 (by decide) (fun z => ?_) (fun z => ?_)
    · have h := sg_iff h z
      obtain rfl := Option.some.inj h
      exact sg_go hk I (lv_sub hl [0] rfl)
    · have h := sg_ift h z
      refine lv_aload_n hx hb dX12_readCounty_66 rfl (lv_at hl 0 rfl) ?_
      refine sg_callV (As := []) X I mk_X12_149 (by decide) (by decide) shM_0 rfl (fun q9 e9 => c_X12_look e9) h hl.1 rfl rfl (Nat.le_of_ble_eq_true rfl) dX12_readCounty_67 (fun v9 s10 H locs h I => ?_)
      refine lv_istore_n (lv' := [(3, .int v9), (0, .ref (sgA P 0)), (1, .int x1), (2, .int x2)]) hx hb dX12_readCounty_70 rfl hl (by decide) rfl (fun ls hl => ?_)
      refine lv_iload_n hx hb dX12_readCounty_71 rfl (lv_at hl 0 rfl) ?_
      refine lv_bipush (v := 115) hx hb dX12_readCounty_72 (by decide) ?_
      refine lv_icmp_ne (tgt := 107) hx hb dX12_readCounty_74 (by decide) (fun z => ?_) (fun z => ?_)
      · have h := sg_iff h z
        exact b_X12_readCounty_L54_B107 X I (lv_sub hl [1, 2, 0] rfl) h hk
      · have h := sg_ift h z
        refine lv_iload_n hx hb dX12_readCounty_77 rfl (lv_at hl 2 rfl) ?_
        refine lv_if_ne (tgt := 107) hx hb dX12_readCounty_78 (by decide) (fun z => ?_) (fun z => ?_)
        · have h := sg_iff h z
          exact b_X12_readCounty_L54_B107 X I (lv_sub hl [1, 2, 0] rfl) h hk
        · have h := sg_ift h z
          refine lv_iconst (v := 1) hx hb dX12_readCounty_81 (by decide) ?_
          refine lv_istore_n (lv' := [(1, .int 1), (3, .int v9), (0, .ref (sgA P 0)), (2, .int x2)]) hx hb dX12_readCounty_82 rfl hl (by decide) rfl (fun ls hl => ?_)
          refine lv_aload_n hx hb dX12_readCounty_83 rfl (lv_at hl 2 rfl) ?_
          refine lv_dup hx hb dX12_readCounty_84 rfl ?_
          refine sg_geti X I fk_X12_130 (by decide) shM_0 rfl dX12_readCounty_85 ?_
          refine lv_iconst (v := 1) hx hb dX12_readCounty_88 (by decide) ?_
          refine lv_iadd hx hb dX12_readCounty_89 ?_
          refine sg_puti X I fk_X12_130 wk_12_3 rfl rfl (by decide) shM_0 rfl h dX12_readCounty_90 (fun s31 H locs h I => ?_)
          refine lv_aload_n hx hb dX12_readCounty_93 rfl (lv_at hl 2 rfl) ?_
          refine lv_iload_n hx hb dX12_readCounty_94 rfl (lv_at hl 1 rfl) ?_
          refine lv_aload_n hx hb dX12_readCounty_95 rfl (lv_at hl 2 rfl) ?_
          refine sg_getr X I fk_X12_40 (j := 11) (by decide) shM_0 rfl dX12_readCounty_96 ?_
          refine lv_iconst (v := 0) hx hb dX12_readCounty_99 (by decide) ?_
          refine lv_iconst (v := 2) hx hb dX12_readCounty_100 (by decide) ?_
          refine sg_callVv (As := [.int v9, .ref (sgA P 11), .int 0, .int 2]) X I mk_X12_268 (by decide) (by decide) shM_0 rfl (fun q9 e9 => c_X12_items (by decide) shM_11 e9) h hl.1 rfl rfl (Nat.le_of_ble_eq_true rfl) dX12_readCounty_101 (fun v32 s33 H locs h I => ?_)
          refine lv_goto (tgt := 268) hx hb dX12_readCounty_104 (by decide) ?_
          exact b_X12_readCounty_L54_B268 X I (lv_sub hl [2, 0] rfl) h hk
def f_X12_readCounty (N : Nat) (σ : sgS) : Option (Int32 × sgS) :=
  sg_pf σ 0 3 0 fun s1 =>
sg_pf s1 0 4 ((-1)) fun s2 =>
sg_pf s2 0 21 0 fun s3 =>
sg_pf s3 0 22 0 fun s4 =>
sg_pf s4 0 23 0 fun s5 =>
sg_lb (sg_lp (fun x => f_X12_readCounty_L29 N 0 x.2 x.1) N ((s5, 0))) (fun r => some r) fun y8 =>
sg_lb (sg_lp (fun x => f_X12_readCounty_L54 N x.2.1 x.2.2 x.1) N ((y8, 0, 1))) (fun r => some r) fun y34 =>
if (y34.1 0 4) = ((-1)) then
  (sg_cl (f_X12_look N y34) fun v35 s36 =>
  if v35 = ((-1)) then
    (sg_cr (f_X12_isWhole N s36) fun v39 =>
    if v39 = 0 then
      (sg_cl (f_X12_bad N s36) fun v40 s41 =>
      some (s41.1 0 4, s41))
    else
      (some (s36.1 0 4, s36)))
  else
    (sg_cl (f_X12_bad N s36) fun v37 s38 =>
    some (s38.1 0 4, s38)))
else
  (some (y34.1 0 4, y34))
set_option maxHeartbeats 4000000 in
set_option maxRecDepth 100000 in
theorem b_X12_readCounty {p : Program} {l : Launch} {e : Env} {R : Room} {s : State} {m : MethodId} {args : Array Value} {below : List Frame} {meth : Method} {c : Code} {Q : State → Prop} {P : sgP} {A : Nat → Prop} {N : Nat} {σ : sgS} (X : sg_C P A 5 p R s m args c cX12_readCounty 4 RX12) {H : Heap} {locs : List Loc} (I : sg_I P shM 35 A s.heap σ H locs) {ls : Array Slot} (hl : lv_has ls 4 [(0, .ref (sgA P 0))]) {st : Int32 × sgS} (h : f_X12_readCounty N σ = some st) (hk : sg_Ri p l e R s m args below meth c Q P shM 35 A cX12_readCounty (some .int) st) : W p l e R s m args below meth c H locs 0 0 Q (F0 m 0 ls []) := by
  unfold f_X12_readCounty at h
  have hx := X.1.1
  have hb := X.1.2.1
  have hown := X.1.2.2.2.1
  have hts := X.1.2.2.2.2
  refine lv_aload_n hx hb dX12_readCounty_0 rfl (lv_at hl 0 rfl) ?_
  refine lv_iconst (v := 0) hx hb dX12_readCounty_1 (by decide) ?_
  refine sg_puti X I fk_X12_130 wk_12_3 rfl rfl (by decide) shM_0 rfl h dX12_readCounty_2 (fun s1 H locs h I => ?_)
  refine lv_aload_n hx hb dX12_readCounty_5 rfl (lv_at hl 0 rfl) ?_
  refine lv_iconst (v := -1) hx hb dX12_readCounty_6 (by decide) ?_
  refine sg_puti X I fk_X12_137 wk_12_4 rfl rfl (by decide) shM_0 rfl h dX12_readCounty_7 (fun s2 H locs h I => ?_)
  refine lv_aload_n hx hb dX12_readCounty_10 rfl (lv_at hl 0 rfl) ?_
  refine lv_iconst (v := 0) hx hb dX12_readCounty_11 (by decide) ?_
  refine sg_puti X I fk_X12_259 wk_12_21 rfl rfl (by decide) shM_0 rfl h dX12_readCounty_12 (fun s3 H locs h I => ?_)
  refine lv_aload_n hx hb dX12_readCounty_15 rfl (lv_at hl 0 rfl) ?_
  refine lv_iconst (v := 0) hx hb dX12_readCounty_16 (by decide) ?_
  refine sg_puti X I fk_X12_262 wk_12_22 rfl rfl (by decide) shM_0 rfl h dX12_readCounty_17 (fun s4 H locs h I => ?_)
  refine lv_aload_n hx hb dX12_readCounty_20 rfl (lv_at hl 0 rfl) ?_
  refine lv_iconst (v := 0) hx hb dX12_readCounty_21 (by decide) ?_
  refine sg_puti X I fk_X12_265 wk_12_23 rfl rfl (by decide) shM_0 rfl h dX12_readCounty_22 (fun s5 H locs h I => ?_)
  refine lv_iconst (v := 0) hx hb dX12_readCounty_25 (by decide) ?_
  refine lv_istore_n (lv' := [(1, .int 0), (0, .ref (sgA P 0))]) hx hb dX12_readCounty_26 rfl hl (by decide) rfl (fun ls hl => ?_)
  refine lv_iconst (v := 0) hx hb dX12_readCounty_27 (by decide) ?_
  refine lv_istore_n (lv' := [(2, .int 0), (1, .int 0), (0, .ref (sgA P 0))]) hx hb dX12_readCounty_28 rfl hl (by decide) rfl (fun ls hl => ?_)
  obtain ⟨res, e9, k9⟩ := sg_lb_some h
  refine sg_go (sg_lp_W (a := (sg_Ri p l e R s m args below meth c Q P shM 35 A cX12_readCounty (some .int))) (w := (fun x => sg_Wt p l e R s m args below meth c Q P shM 35 A 4 29 x.1 [(0, .ref (sgA P 0)), (1, .int 0), (2, .int x.2)])) (c := (fun y => sg_Wt p l e R s m args below meth c Q P shM 35 A 4 52 y [(0, .ref (sgA P 0)), (1, .int 0)])) (fun x st hb9 hk9 => ?_) N ((s5, 0)) res e9 (sg_k2_mono k9 (fun r h => ?_) (fun y8 h => ?_))) I (lv_sub hl [2, 1, 0] rfl)
  · intro H locs ls I hl
    exact b_X12_readCounty_L29 X I hl hb9 hk9
  · obtain rfl := Option.some.inj h
    exact hk
  · intro H locs ls I hl
    refine lv_iconst (v := 1) hx hb dX12_readCounty_52 (by decide) ?_
    refine lv_istore_n (lv' := [(2, .int 1), (0, .ref (sgA P 0)), (1, .int 0)]) hx hb dX12_readCounty_53 rfl hl (by decide) rfl (fun ls hl => ?_)
    obtain ⟨res, e9, k9⟩ := sg_lb_some h
    refine sg_go (sg_lp_W (a := (sg_Ri p l e R s m args below meth c Q P shM 35 A cX12_readCounty (some .int))) (w := (fun x => sg_Wt p l e R s m args below meth c Q P shM 35 A 4 54 x.1 [(0, .ref (sgA P 0)), (1, .int x.2.1), (2, .int x.2.2)])) (c := (fun y => sg_Wt p l e R s m args below meth c Q P shM 35 A 4 312 y [(0, .ref (sgA P 0))])) (fun x st hb9 hk9 => ?_) N ((y8, 0, 1)) res e9 (sg_k2_mono k9 (fun r h => ?_) (fun y34 h => ?_))) I (lv_sub hl [1, 2, 0] rfl)
    · intro H locs ls I hl
      exact b_X12_readCounty_L54 X I hl hb9 hk9
    · obtain rfl := Option.some.inj h
      exact hk
    · intro H locs ls I hl
      refine lv_aload_n hx hb dX12_readCounty_312 rfl (lv_at hl 0 rfl) ?_
      refine sg_geti X I fk_X12_137 (by decide) shM_0 rfl dX12_readCounty_313 ?_
      refine lv_iconst (v := -1) hx hb dX12_readCounty_316 (by decide) ?_
      refine lv_icmp_ne (tgt := 339) hx hb dX12_readCounty_317 (by decide) (fun z => ?_) (fun z => ?_)
      · have h := sg_iff h z
        refine lv_aload_n hx hb dX12_readCounty_339 rfl (lv_at hl 0 rfl) ?_
        refine sg_geti X I fk_X12_137 (by decide) shM_0 rfl dX12_readCounty_340 ?_
        obtain rfl := Option.some.inj h
        exact hk _ _ _ _ _ I ⟨_, rfl, rfl⟩ dX12_readCounty_343
      · have h := sg_ift h z
        refine lv_aload_n hx hb dX12_readCounty_320 rfl (lv_at hl 0 rfl) ?_
        refine sg_callV (As := []) X I mk_X12_149 (by decide) (by decide) shM_0 rfl (fun q9 e9 => c_X12_look e9) h hl.1 rfl rfl (Nat.le_of_ble_eq_true rfl) dX12_readCounty_321 (fun v35 s36 H locs h I => ?_)
        refine lv_iconst (v := -1) hx hb dX12_readCounty_324 (by decide) ?_
        refine lv_icmp_ne (tgt := 335) hx hb dX12_readCounty_325 (by decide) (fun z => ?_) (fun z => ?_)
        · have h := sg_iff h z
          refine lv_aload_n hx hb dX12_readCounty_335 rfl (lv_at hl 0 rfl) ?_
          refine sg_callVv (As := []) X I mk_X12_146 (by decide) (by decide) shM_0 rfl (fun q9 e9 => c_X12_bad e9) h hl.1 rfl rfl (Nat.le_of_ble_eq_true rfl) dX12_readCounty_336 (fun v37 s38 H locs h I => ?_)
          refine lv_aload_n hx hb dX12_readCounty_339 rfl (lv_at hl 0 rfl) ?_
          refine sg_geti X I fk_X12_137 (by decide) shM_0 rfl dX12_readCounty_340 ?_
          obtain rfl := Option.some.inj h
          exact hk _ _ _ _ _ I ⟨_, rfl, rfl⟩ dX12_readCounty_343
        · have h := sg_ift h z
          refine lv_aload_n hx hb dX12_readCounty_328 rfl (lv_at hl 0 rfl) ?_
          refine sg_callVr (As := []) X I mk_X12_272 (by decide) (by decide) shM_0 rfl (fun q9 e9 => c_X12_isWhole e9) h hl.1 rfl rfl (Nat.le_of_ble_eq_true rfl) dX12_readCounty_329 (fun v39 H locs h I => ?_)
          refine lv_if_ne (tgt := 339) hx hb dX12_readCounty_332 (by decide) (fun z => ?_) (fun z => ?_)
          · have h := sg_iff h z
            refine lv_aload_n hx hb dX12_readCounty_339 rfl (lv_at hl 0 rfl) ?_
            refine sg_geti X I fk_X12_137 (by decide) shM_0 rfl dX12_readCounty_340 ?_
            obtain rfl := Option.some.inj h
            exact hk _ _ _ _ _ I ⟨_, rfl, rfl⟩ dX12_readCounty_343
          · have h := sg_ift h z
            refine lv_aload_n hx hb dX12_readCounty_335 rfl (lv_at hl 0 rfl) ?_
            refine sg_callVv (As := []) X I mk_X12_146 (by decide) (by decide) shM_0 rfl (fun q9 e9 => c_X12_bad e9) h hl.1 rfl rfl (Nat.le_of_ble_eq_true rfl) dX12_readCounty_336 (fun v40 s41 H locs h I => ?_)
            refine lv_aload_n hx hb dX12_readCounty_339 rfl (lv_at hl 0 rfl) ?_
            refine sg_geti X I fk_X12_137 (by decide) shM_0 rfl dX12_readCounty_340 ?_
            obtain rfl := Option.some.inj h
            exact hk _ _ _ _ _ I ⟨_, rfl, rfl⟩ dX12_readCounty_343
set_option maxHeartbeats 4000000 in
set_option maxRecDepth 100000 in
theorem c_X12_readCounty {l : Launch} {P : sgP} {N : Nat} {σ : sgS} {q : Int32 × sgS} (h : f_X12_readCounty N σ = some q) : sg_Mi P shM 35 l yX12_readCounty cX12_readCounty 4 (some .int) 5 [.ref (sgA P 0)] σ q := by
  refine sg_mki (plainFor_of_name (by decide +kernel)) (Nat.le_of_ble_eq_true rfl) ?_
  intro p e R s m args below meth c Q A ls H locs X I hl hk
  exact b_X12_readCounty X I hl h hk
def f_X12_readWay_L17 (N : Nat) (p1 : Int32) (σ : sgS) : Option ((Int32 × sgS) ⊕ ((sgS) ⊕ (sgS))) :=
  sg_cl (f_X12_look N σ) fun v4 s5 =>
sg_cr (f_X12_isDigit N v4 s5) fun v6 =>
if v6 = 0 then
  (some (.inr (.inr s5)))
else
  (sg_ld s5 20 5 p1 fun v7 =>
  if 12 ≤ v7 then
    (some (.inr (.inr s5)))
  else
    (sg_ld s5 20 5 p1 fun v8 =>
    sg_cr (f_X12_here N s5) fun v9 =>
    sg_st s5 19 60 ((12 * p1) + v8) (v9 - 48) fun s10 =>
    sg_ld s10 20 5 p1 fun v11 =>
    sg_st s10 20 5 p1 (v11 + 1) fun s12 =>
    sg_pf s12 0 3 ((s12.1 0 3) + 1) fun s13 =>
    some (.inr (.inl s13))))
set_option maxHeartbeats 4000000 in
set_option maxRecDepth 100000 in
theorem b_X12_readWay_L17 {p : Program} {l : Launch} {e : Env} {R : Room} {s : State} {m : MethodId} {args : Array Value} {below : List Frame} {meth : Method} {c : Code} {Q : State → Prop} {P : sgP} {A : Nat → Prop} {N : Nat} {p1 : Int32} {σ : sgS} (X : sg_C P A 3 p R s m args c cX12_readWay 2 RX12) {H : Heap} {locs : List Loc} (I : sg_I P shM 35 A s.heap σ H locs) {ls : Array Slot} (hl : lv_has ls 2 [(0, .ref (sgA P 0)), (1, .int p1)]) {st : (Int32 × sgS) ⊕ ((sgS) ⊕ (sgS))} (h : f_X12_readWay_L17 N p1 σ = some st) (hk : sg_k3 (sg_Ri p l e R s m args below meth c Q P shM 35 A cX12_readWay (some .int)) (fun x => sg_Wt p l e R s m args below meth c Q P shM 35 A 2 17 x [(0, .ref (sgA P 0)), (1, .int p1)]) (fun y => sg_Wt p l e R s m args below meth c Q P shM 35 A 2 84 y [(0, .ref (sgA P 0)), (1, .int p1)]) st) : W p l e R s m args below meth c H locs 0 0 Q (F0 m 17 ls []) := by
  unfold f_X12_readWay_L17 at h
  have hx := X.1.1
  have hb := X.1.2.1
  have hown := X.1.2.2.2.1
  have hts := X.1.2.2.2.2
  refine lv_aload_n hx hb dX12_readWay_17 rfl (lv_at hl 0 rfl) ?_
  refine sg_callV (As := []) X I mk_X12_149 (by decide) (by decide) shM_0 rfl (fun q9 e9 => c_X12_look e9) h hl.1 rfl rfl (Nat.le_of_ble_eq_true rfl) dX12_readWay_18 (fun v4 s5 H locs h I => ?_)
  refine sg_callSr (As := [.int v4]) X I mk_X12_152 (by decide) (fun q9 e9 => c_X12_isDigit e9) h hl.1 rfl rfl (Nat.le_of_ble_eq_true rfl) dX12_readWay_21 (fun v6 H locs h I => ?_)
  refine lv_if_eq (tgt := 84) hx hb dX12_readWay_24 (by decide) (fun z => ?_) (fun z => ?_)
  · have h := sg_ift h z
    obtain rfl := Option.some.inj h
    exact sg_go hk I (lv_sub hl [0, 1] rfl)
  · have h := sg_iff h z
    refine lv_aload_n hx hb dX12_readWay_27 rfl (lv_at hl 0 rfl) ?_
    refine sg_getr X I fk_X12_67 (j := 20) (by decide) shM_0 rfl dX12_readWay_28 ?_
    refine lv_iload_n hx hb dX12_readWay_31 rfl (lv_at hl 1 rfl) ?_
    refine sg_iald X I (by decide) shM_20 h dX12_readWay_32 (fun v7 h => ?_)
    refine lv_bipush (v := 12) hx hb dX12_readWay_33 (by decide) ?_
    refine lv_icmp_ge (tgt := 84) hx hb dX12_readWay_35 (by decide) (fun z => ?_) (fun z => ?_)
    · have h := sg_ift h z
      obtain rfl := Option.some.inj h
      exact sg_go hk I (lv_sub hl [0, 1] rfl)
    · have h := sg_iff h z
      refine lv_aload_n hx hb dX12_readWay_38 rfl (lv_at hl 0 rfl) ?_
      refine sg_getr X I fk_X12_64 (j := 19) (by decide) shM_0 rfl dX12_readWay_39 ?_
      refine lv_bipush (v := 12) hx hb dX12_readWay_42 (by decide) ?_
      refine lv_iload_n hx hb dX12_readWay_44 rfl (lv_at hl 1 rfl) ?_
      refine lv_imul hx hb dX12_readWay_45 ?_
      refine lv_aload_n hx hb dX12_readWay_46 rfl (lv_at hl 0 rfl) ?_
      refine sg_getr X I fk_X12_67 (j := 20) (by decide) shM_0 rfl dX12_readWay_47 ?_
      refine lv_iload_n hx hb dX12_readWay_50 rfl (lv_at hl 1 rfl) ?_
      refine sg_iald X I (by decide) shM_20 h dX12_readWay_51 (fun v8 h => ?_)
      refine lv_iadd hx hb dX12_readWay_52 ?_
      refine lv_aload_n hx hb dX12_readWay_53 rfl (lv_at hl 0 rfl) ?_
      refine sg_callVr (As := []) X I mk_X12_133 (by decide) (by decide) shM_0 rfl (fun q9 e9 => c_X12_here e9) h hl.1 rfl rfl (Nat.le_of_ble_eq_true rfl) dX12_readWay_54 (fun v9 H locs h I => ?_)
      refine lv_bipush (v := 48) hx hb dX12_readWay_57 (by decide) ?_
      refine lv_isub hx hb dX12_readWay_59 ?_
      refine sg_iast X I (by decide) shM_19 h dX12_readWay_60 (fun s10 H locs h I => ?_)
      refine lv_aload_n hx hb dX12_readWay_61 rfl (lv_at hl 0 rfl) ?_
      refine sg_getr X I fk_X12_67 (j := 20) (by decide) shM_0 rfl dX12_readWay_62 ?_
      refine lv_iload_n hx hb dX12_readWay_65 rfl (lv_at hl 1 rfl) ?_
      refine lv_dup2_11 hx hb dX12_readWay_66 rfl rfl ?_
      refine sg_iald X I (by decide) shM_20 h dX12_readWay_67 (fun v11 h => ?_)
      refine lv_iconst (v := 1) hx hb dX12_readWay_68 (by decide) ?_
      refine lv_iadd hx hb dX12_readWay_69 ?_
      refine sg_iast X I (by decide) shM_20 h dX12_readWay_70 (fun s12 H locs h I => ?_)
      refine lv_aload_n hx hb dX12_readWay_71 rfl (lv_at hl 0 rfl) ?_
      refine lv_dup hx hb dX12_readWay_72 rfl ?_
      refine sg_geti X I fk_X12_130 (by decide) shM_0 rfl dX12_readWay_73 ?_
      refine lv_iconst (v := 1) hx hb dX12_readWay_76 (by decide) ?_
      refine lv_iadd hx hb dX12_readWay_77 ?_
      refine sg_puti X I fk_X12_130 wk_12_3 rfl rfl (by decide) shM_0 rfl h dX12_readWay_78 (fun s13 H locs h I => ?_)
      refine lv_goto (tgt := 17) hx hb dX12_readWay_81 (by decide) ?_
      obtain rfl := Option.some.inj h
      exact sg_go hk I (lv_sub hl [0, 1] rfl)
def f_X12_readWay (N : Nat) (p1 : Int32) (σ : sgS) : Option (Int32 × sgS) :=
  sg_pf σ 0 3 0 fun s1 =>
sg_pf s1 0 4 ((-1)) fun s2 =>
sg_st s2 20 5 p1 0 fun s3 =>
sg_lb (sg_lp (fun x => f_X12_readWay_L17 N p1 x) N s3) (fun r => some r) fun y14 =>
sg_cl (f_X12_look N y14) fun v15 s16 =>
if v15 = ((-1)) then
  (sg_ld s16 20 5 p1 fun v19 =>
  if 2 ≤ v19 then
    (some (s16.1 0 4, s16))
  else
    (sg_cl (f_X12_bad N s16) fun v20 s21 =>
    some (s21.1 0 4, s21)))
else
  (sg_cl (f_X12_bad N s16) fun v17 s18 =>
  some (s18.1 0 4, s18))
set_option maxHeartbeats 4000000 in
set_option maxRecDepth 100000 in
theorem b_X12_readWay {p : Program} {l : Launch} {e : Env} {R : Room} {s : State} {m : MethodId} {args : Array Value} {below : List Frame} {meth : Method} {c : Code} {Q : State → Prop} {P : sgP} {A : Nat → Prop} {N : Nat} {p1 : Int32} {σ : sgS} (X : sg_C P A 3 p R s m args c cX12_readWay 2 RX12) {H : Heap} {locs : List Loc} (I : sg_I P shM 35 A s.heap σ H locs) {ls : Array Slot} (hl : lv_has ls 2 [(0, .ref (sgA P 0)), (1, .int p1)]) {st : Int32 × sgS} (h : f_X12_readWay N p1 σ = some st) (hk : sg_Ri p l e R s m args below meth c Q P shM 35 A cX12_readWay (some .int) st) : W p l e R s m args below meth c H locs 0 0 Q (F0 m 0 ls []) := by
  unfold f_X12_readWay at h
  have hx := X.1.1
  have hb := X.1.2.1
  have hown := X.1.2.2.2.1
  have hts := X.1.2.2.2.2
  refine lv_aload_n hx hb dX12_readWay_0 rfl (lv_at hl 0 rfl) ?_
  refine lv_iconst (v := 0) hx hb dX12_readWay_1 (by decide) ?_
  refine sg_puti X I fk_X12_130 wk_12_3 rfl rfl (by decide) shM_0 rfl h dX12_readWay_2 (fun s1 H locs h I => ?_)
  refine lv_aload_n hx hb dX12_readWay_5 rfl (lv_at hl 0 rfl) ?_
  refine lv_iconst (v := -1) hx hb dX12_readWay_6 (by decide) ?_
  refine sg_puti X I fk_X12_137 wk_12_4 rfl rfl (by decide) shM_0 rfl h dX12_readWay_7 (fun s2 H locs h I => ?_)
  refine lv_aload_n hx hb dX12_readWay_10 rfl (lv_at hl 0 rfl) ?_
  refine sg_getr X I fk_X12_67 (j := 20) (by decide) shM_0 rfl dX12_readWay_11 ?_
  refine lv_iload_n hx hb dX12_readWay_14 rfl (lv_at hl 1 rfl) ?_
  refine lv_iconst (v := 0) hx hb dX12_readWay_15 (by decide) ?_
  refine sg_iast X I (by decide) shM_20 h dX12_readWay_16 (fun s3 H locs h I => ?_)
  obtain ⟨res, e9, k9⟩ := sg_lb_some h
  refine sg_go (sg_lp_W (a := (sg_Ri p l e R s m args below meth c Q P shM 35 A cX12_readWay (some .int))) (w := (fun x => sg_Wt p l e R s m args below meth c Q P shM 35 A 2 17 x [(0, .ref (sgA P 0)), (1, .int p1)])) (c := (fun y => sg_Wt p l e R s m args below meth c Q P shM 35 A 2 84 y [(0, .ref (sgA P 0)), (1, .int p1)])) (fun x st hb9 hk9 => ?_) N s3 res e9 (sg_k2_mono k9 (fun r h => ?_) (fun y14 h => ?_))) I (lv_sub hl [0, 1] rfl)
  · intro H locs ls I hl
    exact b_X12_readWay_L17 X I hl hb9 hk9
  · obtain rfl := Option.some.inj h
    exact hk
  · intro H locs ls I hl
    refine lv_aload_n hx hb dX12_readWay_84 rfl (lv_at hl 0 rfl) ?_
    refine sg_callV (As := []) X I mk_X12_149 (by decide) (by decide) shM_0 rfl (fun q9 e9 => c_X12_look e9) h hl.1 rfl rfl (Nat.le_of_ble_eq_true rfl) dX12_readWay_85 (fun v15 s16 H locs h I => ?_)
    refine lv_iconst (v := -1) hx hb dX12_readWay_88 (by decide) ?_
    refine lv_icmp_ne (tgt := 102) hx hb dX12_readWay_89 (by decide) (fun z => ?_) (fun z => ?_)
    · have h := sg_iff h z
      refine lv_aload_n hx hb dX12_readWay_102 rfl (lv_at hl 0 rfl) ?_
      refine sg_callVv (As := []) X I mk_X12_146 (by decide) (by decide) shM_0 rfl (fun q9 e9 => c_X12_bad e9) h hl.1 rfl rfl (Nat.le_of_ble_eq_true rfl) dX12_readWay_103 (fun v17 s18 H locs h I => ?_)
      refine lv_aload_n hx hb dX12_readWay_106 rfl (lv_at hl 0 rfl) ?_
      refine sg_geti X I fk_X12_137 (by decide) shM_0 rfl dX12_readWay_107 ?_
      obtain rfl := Option.some.inj h
      exact hk _ _ _ _ _ I ⟨_, rfl, rfl⟩ dX12_readWay_110
    · have h := sg_ift h z
      refine lv_aload_n hx hb dX12_readWay_92 rfl (lv_at hl 0 rfl) ?_
      refine sg_getr X I fk_X12_67 (j := 20) (by decide) shM_0 rfl dX12_readWay_93 ?_
      refine lv_iload_n hx hb dX12_readWay_96 rfl (lv_at hl 1 rfl) ?_
      refine sg_iald X I (by decide) shM_20 h dX12_readWay_97 (fun v19 h => ?_)
      refine lv_iconst (v := 2) hx hb dX12_readWay_98 (by decide) ?_
      refine lv_icmp_ge (tgt := 106) hx hb dX12_readWay_99 (by decide) (fun z => ?_) (fun z => ?_)
      · have h := sg_ift h z
        refine lv_aload_n hx hb dX12_readWay_106 rfl (lv_at hl 0 rfl) ?_
        refine sg_geti X I fk_X12_137 (by decide) shM_0 rfl dX12_readWay_107 ?_
        obtain rfl := Option.some.inj h
        exact hk _ _ _ _ _ I ⟨_, rfl, rfl⟩ dX12_readWay_110
      · have h := sg_iff h z
        refine lv_aload_n hx hb dX12_readWay_102 rfl (lv_at hl 0 rfl) ?_
        refine sg_callVv (As := []) X I mk_X12_146 (by decide) (by decide) shM_0 rfl (fun q9 e9 => c_X12_bad e9) h hl.1 rfl rfl (Nat.le_of_ble_eq_true rfl) dX12_readWay_103 (fun v20 s21 H locs h I => ?_)
        refine lv_aload_n hx hb dX12_readWay_106 rfl (lv_at hl 0 rfl) ?_
        refine sg_geti X I fk_X12_137 (by decide) shM_0 rfl dX12_readWay_107 ?_
        obtain rfl := Option.some.inj h
        exact hk _ _ _ _ _ I ⟨_, rfl, rfl⟩ dX12_readWay_110
set_option maxHeartbeats 4000000 in
set_option maxRecDepth 100000 in
theorem c_X12_readWay {l : Launch} {P : sgP} {N : Nat} {p1 : Int32} {σ : sgS} {q : Int32 × sgS} (h : f_X12_readWay N p1 σ = some q) : sg_Mi P shM 35 l yX12_readWay cX12_readWay 2 (some .int) 3 [.ref (sgA P 0), .int p1] σ q := by
  refine sg_mki (plainFor_of_name (by decide +kernel)) (Nat.le_of_ble_eq_true rfl) ?_
  intro p e R s m args below meth c Q A ls H locs X I hl hk
  exact b_X12_readWay X I hl h hk
def f_X12_fault (N : Nat) (p1 : Int32) (σ : sgS) : Option (Int32 × sgS) :=
  if p1 = 0 then
  (sg_cl (f_X12_readCounty N σ) fun v5 s6 =>
  some (v5, s6))
else
  (if p1 = 1 then
    (sg_cl (f_X12_readLaw N 4 σ) fun v3 s4 =>
    some (v3, s4))
  else
    (if p1 = 2 then
      (sg_cl (f_X12_readWay N 4 σ) fun v1 s2 =>
      some (v1, s2))
    else
      (some ((-2), σ))))
set_option maxHeartbeats 4000000 in
set_option maxRecDepth 100000 in
theorem b_X12_fault {p : Program} {l : Launch} {e : Env} {R : Room} {s : State} {m : MethodId} {args : Array Value} {below : List Frame} {meth : Method} {c : Code} {Q : State → Prop} {P : sgP} {A : Nat → Prop} {N : Nat} {p1 : Int32} {σ : sgS} (X : sg_C P A 292 p R s m args c cX12_fault 2 RX12) {H : Heap} {locs : List Loc} (I : sg_I P shM 35 A s.heap σ H locs) {ls : Array Slot} (hl : lv_has ls 2 [(0, .ref (sgA P 0)), (1, .int p1)]) {st : Int32 × sgS} (h : f_X12_fault N p1 σ = some st) (hk : sg_Ri p l e R s m args below meth c Q P shM 35 A cX12_fault (some .int) st) : W p l e R s m args below meth c H locs 0 0 Q (F0 m 0 ls []) := by
  unfold f_X12_fault at h
  have hx := X.1.1
  have hb := X.1.2.1
  have hown := X.1.2.2.2.1
  have hts := X.1.2.2.2.2
  refine lv_iload_n hx hb dX12_fault_0 rfl (lv_at hl 1 rfl) ?_
  refine lv_if_ne (tgt := 11) hx hb dX12_fault_1 (by decide) (fun z => ?_) (fun z => ?_)
  · have h := sg_iff h z
    refine lv_iload_n hx hb dX12_fault_11 rfl (lv_at hl 1 rfl) ?_
    refine lv_iconst (v := 1) hx hb dX12_fault_12 (by decide) ?_
    refine lv_icmp_ne (tgt := 24) hx hb dX12_fault_13 (by decide) (fun z => ?_) (fun z => ?_)
    · have h := sg_iff h z
      refine lv_iload_n hx hb dX12_fault_24 rfl (lv_at hl 1 rfl) ?_
      refine lv_iconst (v := 2) hx hb dX12_fault_25 (by decide) ?_
      refine lv_icmp_ne (tgt := 37) hx hb dX12_fault_26 (by decide) (fun z => ?_) (fun z => ?_)
      · have h := sg_iff h z
        refine lv_bipush (v := -2) hx hb dX12_fault_37 (by decide) ?_
        obtain rfl := Option.some.inj h
        exact hk _ _ _ _ _ I ⟨_, rfl, rfl⟩ dX12_fault_39
      · have h := sg_ift h z
        refine lv_aload_n hx hb dX12_fault_29 rfl (lv_at hl 0 rfl) ?_
        refine lv_iconst (v := 4) hx hb dX12_fault_30 (by decide) ?_
        refine sg_callV (As := [.int 4]) X I mk_X12_282 (by decide) (by decide) shM_0 rfl (fun q9 e9 => c_X12_readWay e9) h hl.1 rfl rfl (Nat.le_of_ble_eq_true rfl) dX12_fault_31 (fun v1 s2 H locs h I => ?_)
        refine lv_goto (tgt := 39) hx hb dX12_fault_34 (by decide) ?_
        obtain rfl := Option.some.inj h
        exact hk _ _ _ _ _ I ⟨_, rfl, rfl⟩ dX12_fault_39
    · have h := sg_ift h z
      refine lv_aload_n hx hb dX12_fault_16 rfl (lv_at hl 0 rfl) ?_
      refine lv_iconst (v := 4) hx hb dX12_fault_17 (by decide) ?_
      refine sg_callV (As := [.int 4]) X I mk_X12_279 (by decide) (by decide) shM_0 rfl (fun q9 e9 => c_X12_readLaw e9) h hl.1 rfl rfl (Nat.le_of_ble_eq_true rfl) dX12_fault_18 (fun v3 s4 H locs h I => ?_)
      refine lv_goto (tgt := 39) hx hb dX12_fault_21 (by decide) ?_
      obtain rfl := Option.some.inj h
      exact hk _ _ _ _ _ I ⟨_, rfl, rfl⟩ dX12_fault_39
  · have h := sg_ift h z
    refine lv_aload_n hx hb dX12_fault_4 rfl (lv_at hl 0 rfl) ?_
    refine sg_callV (As := []) X I mk_X12_276 (by decide) (by decide) shM_0 rfl (fun q9 e9 => c_X12_readCounty e9) h hl.1 rfl rfl (Nat.le_of_ble_eq_true rfl) dX12_fault_5 (fun v5 s6 H locs h I => ?_)
    refine lv_goto (tgt := 39) hx hb dX12_fault_8 (by decide) ?_
    obtain rfl := Option.some.inj h
    exact hk _ _ _ _ _ I ⟨_, rfl, rfl⟩ dX12_fault_39
set_option maxHeartbeats 4000000 in
set_option maxRecDepth 100000 in
theorem c_X12_fault {l : Launch} {P : sgP} {N : Nat} {p1 : Int32} {σ : sgS} {q : Int32 × sgS} (h : f_X12_fault N p1 σ = some q) : sg_Mi P shM 35 l yX12_fault cX12_fault 2 (some .int) 292 [.ref (sgA P 0), .int p1] σ q := by
  refine sg_mki (plainFor_of_name (by decide +kernel)) (Nat.le_of_ble_eq_true rfl) ?_
  intro p e R s m args below meth c Q A ls H locs X I hl hk
  exact b_X12_fault X I hl h hk
def f_X12_layTold_L2 (N : Nat) (x1 : Int32) (σ : sgS) : Option ((Int32 × sgS) ⊕ ((sgS × Int32) ⊕ (sgS))) :=
  if 34 ≤ x1 then
  (some (.inr (.inr σ)))
else
  (sg_st σ 21 215 x1 0 fun s1 =>
  some (.inr (.inl (s1, x1 + 1))))
set_option maxHeartbeats 4000000 in
set_option maxRecDepth 100000 in
theorem b_X12_layTold_L2 {p : Program} {l : Launch} {e : Env} {R : Room} {s : State} {m : MethodId} {args : Array Value} {below : List Frame} {meth : Method} {c : Code} {Q : State → Prop} {P : sgP} {A : Nat → Prop} {N : Nat} {x1 : Int32} {σ : sgS} (X : sg_C P A 1 p R s m args c cX12_layTold 2 RX12) {H : Heap} {locs : List Loc} (I : sg_I P shM 35 A s.heap σ H locs) {ls : Array Slot} (hl : lv_has ls 2 [(0, .ref (sgA P 0)), (1, .int x1)]) {st : (Int32 × sgS) ⊕ ((sgS × Int32) ⊕ (sgS))} (h : f_X12_layTold_L2 N x1 σ = some st) (hk : sg_k3 (sg_Rv p l e R s m args below meth c Q P shM 35 A cX12_layTold) (fun x => sg_Wt p l e R s m args below meth c Q P shM 35 A 2 2 x.1 [(0, .ref (sgA P 0)), (1, .int x.2)]) (fun y => sg_Wt p l e R s m args below meth c Q P shM 35 A 2 21 y [(0, .ref (sgA P 0))]) st) : W p l e R s m args below meth c H locs 0 0 Q (F0 m 2 ls []) := by
  unfold f_X12_layTold_L2 at h
  have hx := X.1.1
  have hb := X.1.2.1
  have hown := X.1.2.2.2.1
  have hts := X.1.2.2.2.2
  refine lv_iload_n hx hb dX12_layTold_2 rfl (lv_at hl 1 rfl) ?_
  refine lv_bipush (v := 34) hx hb dX12_layTold_3 (by decide) ?_
  refine lv_icmp_ge (tgt := 21) hx hb dX12_layTold_5 (by decide) (fun z => ?_) (fun z => ?_)
  · have h := sg_ift h z
    obtain rfl := Option.some.inj h
    exact sg_go hk I (lv_sub hl [0] rfl)
  · have h := sg_iff h z
    refine lv_aload_n hx hb dX12_layTold_8 rfl (lv_at hl 0 rfl) ?_
    refine sg_getr X I fk_X12_70 (j := 21) (by decide) shM_0 rfl dX12_layTold_9 ?_
    refine lv_iload_n hx hb dX12_layTold_12 rfl (lv_at hl 1 rfl) ?_
    refine lv_iconst (v := 0) hx hb dX12_layTold_13 (by decide) ?_
    refine sg_iast X I (by decide) shM_21 h dX12_layTold_14 (fun s1 H locs h I => ?_)
    refine lv_iinc (v := x1 + 1) (lv' := [(1, .int (x1 + 1)), (0, .ref (sgA P 0))]) hx hb dX12_layTold_15 hl (k := 1) rfl rfl (by decide) rfl (fun ls hl => ?_)
    refine lv_goto (tgt := 2) hx hb dX12_layTold_18 (by decide) ?_
    obtain rfl := Option.some.inj h
    exact sg_go hk I (lv_sub hl [1, 0] rfl)
def f_X12_layTold_L23_B53 (N : Nat) (u1 : Int32) (k1 : Int32) (k2 : Int32) (σ : sgS) : Option ((Int32 × sgS) ⊕ ((sgS × Int32) ⊕ (sgS))) :=
  sg_st σ 21 215 k1 k2 fun s3 =>
sg_st s3 21 215 (4 + u1) ((-1)) fun s4 =>
some (.inr (.inl (s4, u1 + 1)))
set_option maxHeartbeats 4000000 in
set_option maxRecDepth 100000 in
theorem b_X12_layTold_L23_B53 {p : Program} {l : Launch} {e : Env} {R : Room} {s : State} {m : MethodId} {args : Array Value} {below : List Frame} {meth : Method} {c : Code} {Q : State → Prop} {P : sgP} {A : Nat → Prop} {N : Nat} {u1 : Int32} {k1 : Int32} {k2 : Int32} {σ : sgS} (X : sg_C P A 1 p R s m args c cX12_layTold 2 RX12) {H : Heap} {locs : List Loc} (I : sg_I P shM 35 A s.heap σ H locs) {ls : Array Slot} (hl : lv_has ls 2 [(0, .ref (sgA P 0)), (1, .int u1)]) {st : (Int32 × sgS) ⊕ ((sgS × Int32) ⊕ (sgS))} (h : f_X12_layTold_L23_B53 N u1 k1 k2 σ = some st) (hk : sg_k3 (sg_Rv p l e R s m args below meth c Q P shM 35 A cX12_layTold) (fun x => sg_Wt p l e R s m args below meth c Q P shM 35 A 2 23 x.1 [(0, .ref (sgA P 0)), (1, .int x.2)]) (fun y => sg_Wt p l e R s m args below meth c Q P shM 35 A 2 69 y [(0, .ref (sgA P 0))]) st) : W p l e R s m args below meth c H locs 0 0 Q (F0 m 53 ls [.int k2, .int k1, .ref (sgA P 21)]) := by
  unfold f_X12_layTold_L23_B53 at h
  have hx := X.1.1
  have hb := X.1.2.1
  have hown := X.1.2.2.2.1
  have hts := X.1.2.2.2.2
  refine sg_iast X I (by decide) shM_21 h dX12_layTold_53 (fun s3 H locs h I => ?_)
  refine lv_aload_n hx hb dX12_layTold_54 rfl (lv_at hl 0 rfl) ?_
  refine sg_getr X I fk_X12_70 (j := 21) (by decide) shM_0 rfl dX12_layTold_55 ?_
  refine lv_iconst (v := 4) hx hb dX12_layTold_58 (by decide) ?_
  refine lv_iload_n hx hb dX12_layTold_59 rfl (lv_at hl 1 rfl) ?_
  refine lv_iadd hx hb dX12_layTold_60 ?_
  refine lv_iconst (v := -1) hx hb dX12_layTold_61 (by decide) ?_
  refine sg_iast X I (by decide) shM_21 h dX12_layTold_62 (fun s4 H locs h I => ?_)
  refine lv_iinc (v := u1 + 1) (lv' := [(1, .int (u1 + 1)), (0, .ref (sgA P 0))]) hx hb dX12_layTold_63 hl (k := 1) rfl rfl (by decide) rfl (fun ls hl => ?_)
  refine lv_goto (tgt := 23) hx hb dX12_layTold_66 (by decide) ?_
  obtain rfl := Option.some.inj h
  exact sg_go hk I (lv_sub hl [1, 0] rfl)
def f_X12_layTold_L23 (N : Nat) (x1 : Int32) (σ : sgS) : Option ((Int32 × sgS) ⊕ ((sgS × Int32) ⊕ (sgS))) :=
  if 4 ≤ x1 then
  (some (.inr (.inr σ)))
else
  (if (σ.1 0 30) ≤ x1 then
    (f_X12_layTold_L23_B53 N x1 (0 + x1) 0 σ)
  else
    (sg_ld σ 18 4 x1 fun v5 =>
    f_X12_layTold_L23_B53 N x1 (0 + x1) v5 σ))
set_option maxHeartbeats 4000000 in
set_option maxRecDepth 100000 in
theorem b_X12_layTold_L23 {p : Program} {l : Launch} {e : Env} {R : Room} {s : State} {m : MethodId} {args : Array Value} {below : List Frame} {meth : Method} {c : Code} {Q : State → Prop} {P : sgP} {A : Nat → Prop} {N : Nat} {x1 : Int32} {σ : sgS} (X : sg_C P A 1 p R s m args c cX12_layTold 2 RX12) {H : Heap} {locs : List Loc} (I : sg_I P shM 35 A s.heap σ H locs) {ls : Array Slot} (hl : lv_has ls 2 [(0, .ref (sgA P 0)), (1, .int x1)]) {st : (Int32 × sgS) ⊕ ((sgS × Int32) ⊕ (sgS))} (h : f_X12_layTold_L23 N x1 σ = some st) (hk : sg_k3 (sg_Rv p l e R s m args below meth c Q P shM 35 A cX12_layTold) (fun x => sg_Wt p l e R s m args below meth c Q P shM 35 A 2 23 x.1 [(0, .ref (sgA P 0)), (1, .int x.2)]) (fun y => sg_Wt p l e R s m args below meth c Q P shM 35 A 2 69 y [(0, .ref (sgA P 0))]) st) : W p l e R s m args below meth c H locs 0 0 Q (F0 m 23 ls []) := by
  unfold f_X12_layTold_L23 at h
  have hx := X.1.1
  have hb := X.1.2.1
  have hown := X.1.2.2.2.1
  have hts := X.1.2.2.2.2
  refine lv_iload_n hx hb dX12_layTold_23 rfl (lv_at hl 1 rfl) ?_
  refine lv_iconst (v := 4) hx hb dX12_layTold_24 (by decide) ?_
  refine lv_icmp_ge (tgt := 69) hx hb dX12_layTold_25 (by decide) (fun z => ?_) (fun z => ?_)
  · have h := sg_ift h z
    obtain rfl := Option.some.inj h
    exact sg_go hk I (lv_sub hl [0] rfl)
  · have h := sg_iff h z
    refine lv_aload_n hx hb dX12_layTold_28 rfl (lv_at hl 0 rfl) ?_
    refine sg_getr X I fk_X12_70 (j := 21) (by decide) shM_0 rfl dX12_layTold_29 ?_
    refine lv_iconst (v := 0) hx hb dX12_layTold_32 (by decide) ?_
    refine lv_iload_n hx hb dX12_layTold_33 rfl (lv_at hl 1 rfl) ?_
    refine lv_iadd hx hb dX12_layTold_34 ?_
    refine lv_iload_n hx hb dX12_layTold_35 rfl (lv_at hl 1 rfl) ?_
    refine lv_aload_n hx hb dX12_layTold_36 rfl (lv_at hl 0 rfl) ?_
    refine sg_geti X I fk_X12_285 (by decide) shM_0 rfl dX12_layTold_37 ?_
    refine lv_icmp_ge (tgt := 52) hx hb dX12_layTold_40 (by decide) (fun z => ?_) (fun z => ?_)
    · have h := sg_ift h z
      refine lv_iconst (v := 0) hx hb dX12_layTold_52 (by decide) ?_
      exact b_X12_layTold_L23_B53 X I (lv_sub hl [0, 1] rfl) h hk
    · have h := sg_iff h z
      refine lv_aload_n hx hb dX12_layTold_43 rfl (lv_at hl 0 rfl) ?_
      refine sg_getr X I fk_X12_61 (j := 18) (by decide) shM_0 rfl dX12_layTold_44 ?_
      refine lv_iload_n hx hb dX12_layTold_47 rfl (lv_at hl 1 rfl) ?_
      refine sg_iald X I (by decide) shM_18 h dX12_layTold_48 (fun v5 h => ?_)
      refine lv_goto (tgt := 53) hx hb dX12_layTold_49 (by decide) ?_
      exact b_X12_layTold_L23_B53 X I (lv_sub hl [0, 1] rfl) h hk
def f_X12_layTold (N : Nat) (σ : sgS) : Option (Int32 × sgS) :=
  sg_lb (sg_lp (fun x => f_X12_layTold_L2 N x.2 x.1) N ((σ, 0))) (fun r => some r) fun y2 =>
sg_lb (sg_lp (fun x => f_X12_layTold_L23 N x.2 x.1) N ((y2, 0))) (fun r => some r) fun y6 =>
sg_ld y6 15 2 1 fun v7 =>
sg_st y6 21 215 32 v7 fun s8 =>
some (0, s8)
set_option maxHeartbeats 4000000 in
set_option maxRecDepth 100000 in
theorem b_X12_layTold {p : Program} {l : Launch} {e : Env} {R : Room} {s : State} {m : MethodId} {args : Array Value} {below : List Frame} {meth : Method} {c : Code} {Q : State → Prop} {P : sgP} {A : Nat → Prop} {N : Nat} {σ : sgS} (X : sg_C P A 1 p R s m args c cX12_layTold 2 RX12) {H : Heap} {locs : List Loc} (I : sg_I P shM 35 A s.heap σ H locs) {ls : Array Slot} (hl : lv_has ls 2 [(0, .ref (sgA P 0))]) {st : Int32 × sgS} (h : f_X12_layTold N σ = some st) (hk : sg_Rv p l e R s m args below meth c Q P shM 35 A cX12_layTold st) : W p l e R s m args below meth c H locs 0 0 Q (F0 m 0 ls []) := by
  unfold f_X12_layTold at h
  have hx := X.1.1
  have hb := X.1.2.1
  have hown := X.1.2.2.2.1
  have hts := X.1.2.2.2.2
  refine lv_iconst (v := 0) hx hb dX12_layTold_0 (by decide) ?_
  refine lv_istore_n (lv' := [(1, .int 0), (0, .ref (sgA P 0))]) hx hb dX12_layTold_1 rfl hl (by decide) rfl (fun ls hl => ?_)
  obtain ⟨res, e9, k9⟩ := sg_lb_some h
  refine sg_go (sg_lp_W (a := (sg_Rv p l e R s m args below meth c Q P shM 35 A cX12_layTold)) (w := (fun x => sg_Wt p l e R s m args below meth c Q P shM 35 A 2 2 x.1 [(0, .ref (sgA P 0)), (1, .int x.2)])) (c := (fun y => sg_Wt p l e R s m args below meth c Q P shM 35 A 2 21 y [(0, .ref (sgA P 0))])) (fun x st hb9 hk9 => ?_) N ((σ, 0)) res e9 (sg_k2_mono k9 (fun r h => ?_) (fun y2 h => ?_))) I (lv_sub hl [1, 0] rfl)
  · intro H locs ls I hl
    exact b_X12_layTold_L2 X I hl hb9 hk9
  · obtain rfl := Option.some.inj h
    exact hk
  · intro H locs ls I hl
    refine lv_iconst (v := 0) hx hb dX12_layTold_21 (by decide) ?_
    refine lv_istore_n (lv' := [(1, .int 0), (0, .ref (sgA P 0))]) hx hb dX12_layTold_22 rfl hl (by decide) rfl (fun ls hl => ?_)
    obtain ⟨res, e9, k9⟩ := sg_lb_some h
    refine sg_go (sg_lp_W (a := (sg_Rv p l e R s m args below meth c Q P shM 35 A cX12_layTold)) (w := (fun x => sg_Wt p l e R s m args below meth c Q P shM 35 A 2 23 x.1 [(0, .ref (sgA P 0)), (1, .int x.2)])) (c := (fun y => sg_Wt p l e R s m args below meth c Q P shM 35 A 2 69 y [(0, .ref (sgA P 0))])) (fun x st hb9 hk9 => ?_) N ((y2, 0)) res e9 (sg_k2_mono k9 (fun r h => ?_) (fun y6 h => ?_))) I (lv_sub hl [1, 0] rfl)
    · intro H locs ls I hl
      exact b_X12_layTold_L23 X I hl hb9 hk9
    · obtain rfl := Option.some.inj h
      exact hk
    · intro H locs ls I hl
      refine lv_aload_n hx hb dX12_layTold_69 rfl (lv_at hl 0 rfl) ?_
      refine sg_getr X I fk_X12_70 (j := 21) (by decide) shM_0 rfl dX12_layTold_70 ?_
      refine lv_bipush (v := 32) hx hb dX12_layTold_73 (by decide) ?_
      refine lv_aload_n hx hb dX12_layTold_75 rfl (lv_at hl 0 rfl) ?_
      refine sg_getr X I fk_X12_52 (j := 15) (by decide) shM_0 rfl dX12_layTold_76 ?_
      refine lv_iconst (v := 1) hx hb dX12_layTold_79 (by decide) ?_
      refine sg_iald X I (by decide) shM_15 h dX12_layTold_80 (fun v7 h => ?_)
      refine sg_iast X I (by decide) shM_21 h dX12_layTold_81 (fun s8 H locs h I => ?_)
      obtain rfl := Option.some.inj h
      exact hk _ _ _ _ I dX12_layTold_82
set_option maxHeartbeats 4000000 in
set_option maxRecDepth 100000 in
theorem c_X12_layTold {l : Launch} {P : sgP} {N : Nat} {σ : sgS} {q : Int32 × sgS} (h : f_X12_layTold N σ = some q) : sg_Mv P shM 35 l yX12_layTold cX12_layTold 2 none 1 [.ref (sgA P 0)] σ q := by
  refine sg_mkv (plainFor_of_name (by decide +kernel)) (Nat.le_of_ble_eq_true rfl) ?_
  intro p e R s m args below meth c Q A ls H locs X I hl hk
  exact b_X12_layTold X I hl h hk
def f_X12_takeCounty_L26 (N : Nat) (x1 : Int32) (σ : sgS) : Option ((Int32 × sgS) ⊕ ((sgS × Int32) ⊕ (sgS))) :=
  if 2 ≤ x1 then
  (some (.inr (.inr σ)))
else
  (sg_ld σ 11 2 x1 fun v4 =>
  sg_st σ 15 2 x1 v4 fun s5 =>
  some (.inr (.inl (s5, x1 + 1))))
set_option maxHeartbeats 4000000 in
set_option maxRecDepth 100000 in
theorem b_X12_takeCounty_L26 {p : Program} {l : Launch} {e : Env} {R : Room} {s : State} {m : MethodId} {args : Array Value} {below : List Frame} {meth : Method} {c : Code} {Q : State → Prop} {P : sgP} {A : Nat → Prop} {N : Nat} {x1 : Int32} {σ : sgS} (X : sg_C P A 2 p R s m args c cX12_takeCounty 2 RX12) {H : Heap} {locs : List Loc} (I : sg_I P shM 35 A s.heap σ H locs) {ls : Array Slot} (hl : lv_has ls 2 [(0, .ref (sgA P 0)), (1, .int x1)]) {st : (Int32 × sgS) ⊕ ((sgS × Int32) ⊕ (sgS))} (h : f_X12_takeCounty_L26 N x1 σ = some st) (hk : sg_k3 (sg_Ri p l e R s m args below meth c Q P shM 35 A cX12_takeCounty (some .int)) (fun x => sg_Wt p l e R s m args below meth c Q P shM 35 A 2 26 x.1 [(0, .ref (sgA P 0)), (1, .int x.2)]) (fun y => sg_Wt p l e R s m args below meth c Q P shM 35 A 2 49 y [(0, .ref (sgA P 0))]) st) : W p l e R s m args below meth c H locs 0 0 Q (F0 m 26 ls []) := by
  unfold f_X12_takeCounty_L26 at h
  have hx := X.1.1
  have hb := X.1.2.1
  have hown := X.1.2.2.2.1
  have hts := X.1.2.2.2.2
  refine lv_iload_n hx hb dX12_takeCounty_26 rfl (lv_at hl 1 rfl) ?_
  refine lv_iconst (v := 2) hx hb dX12_takeCounty_27 (by decide) ?_
  refine lv_icmp_ge (tgt := 49) hx hb dX12_takeCounty_28 (by decide) (fun z => ?_) (fun z => ?_)
  · have h := sg_ift h z
    obtain rfl := Option.some.inj h
    exact sg_go hk I (lv_sub hl [0] rfl)
  · have h := sg_iff h z
    refine lv_aload_n hx hb dX12_takeCounty_31 rfl (lv_at hl 0 rfl) ?_
    refine sg_getr X I fk_X12_52 (j := 15) (by decide) shM_0 rfl dX12_takeCounty_32 ?_
    refine lv_iload_n hx hb dX12_takeCounty_35 rfl (lv_at hl 1 rfl) ?_
    refine lv_aload_n hx hb dX12_takeCounty_36 rfl (lv_at hl 0 rfl) ?_
    refine sg_getr X I fk_X12_40 (j := 11) (by decide) shM_0 rfl dX12_takeCounty_37 ?_
    refine lv_iload_n hx hb dX12_takeCounty_40 rfl (lv_at hl 1 rfl) ?_
    refine sg_iald X I (by decide) shM_11 h dX12_takeCounty_41 (fun v4 h => ?_)
    refine sg_iast X I (by decide) shM_15 h dX12_takeCounty_42 (fun s5 H locs h I => ?_)
    refine lv_iinc (v := x1 + 1) (lv' := [(1, .int (x1 + 1)), (0, .ref (sgA P 0))]) hx hb dX12_takeCounty_43 hl (k := 1) rfl rfl (by decide) rfl (fun ls hl => ?_)
    refine lv_goto (tgt := 26) hx hb dX12_takeCounty_46 (by decide) ?_
    obtain rfl := Option.some.inj h
    exact sg_go hk I (lv_sub hl [1, 0] rfl)
def f_X12_takeCounty_L51 (N : Nat) (x1 : Int32) (σ : sgS) : Option ((Int32 × sgS) ⊕ ((sgS × Int32) ⊕ (sgS))) :=
  if 7 ≤ x1 then
  (some (.inr (.inr σ)))
else
  (sg_ld σ 12 7 x1 fun v7 =>
  sg_st σ 16 7 x1 v7 fun s8 =>
  some (.inr (.inl (s8, x1 + 1))))
set_option maxHeartbeats 4000000 in
set_option maxRecDepth 100000 in
theorem b_X12_takeCounty_L51 {p : Program} {l : Launch} {e : Env} {R : Room} {s : State} {m : MethodId} {args : Array Value} {below : List Frame} {meth : Method} {c : Code} {Q : State → Prop} {P : sgP} {A : Nat → Prop} {N : Nat} {x1 : Int32} {σ : sgS} (X : sg_C P A 2 p R s m args c cX12_takeCounty 2 RX12) {H : Heap} {locs : List Loc} (I : sg_I P shM 35 A s.heap σ H locs) {ls : Array Slot} (hl : lv_has ls 2 [(0, .ref (sgA P 0)), (1, .int x1)]) {st : (Int32 × sgS) ⊕ ((sgS × Int32) ⊕ (sgS))} (h : f_X12_takeCounty_L51 N x1 σ = some st) (hk : sg_k3 (sg_Ri p l e R s m args below meth c Q P shM 35 A cX12_takeCounty (some .int)) (fun x => sg_Wt p l e R s m args below meth c Q P shM 35 A 2 51 x.1 [(0, .ref (sgA P 0)), (1, .int x.2)]) (fun y => sg_Wt p l e R s m args below meth c Q P shM 35 A 2 75 y [(0, .ref (sgA P 0))]) st) : W p l e R s m args below meth c H locs 0 0 Q (F0 m 51 ls []) := by
  unfold f_X12_takeCounty_L51 at h
  have hx := X.1.1
  have hb := X.1.2.1
  have hown := X.1.2.2.2.1
  have hts := X.1.2.2.2.2
  refine lv_iload_n hx hb dX12_takeCounty_51 rfl (lv_at hl 1 rfl) ?_
  refine lv_bipush (v := 7) hx hb dX12_takeCounty_52 (by decide) ?_
  refine lv_icmp_ge (tgt := 75) hx hb dX12_takeCounty_54 (by decide) (fun z => ?_) (fun z => ?_)
  · have h := sg_ift h z
    obtain rfl := Option.some.inj h
    exact sg_go hk I (lv_sub hl [0] rfl)
  · have h := sg_iff h z
    refine lv_aload_n hx hb dX12_takeCounty_57 rfl (lv_at hl 0 rfl) ?_
    refine sg_getr X I fk_X12_55 (j := 16) (by decide) shM_0 rfl dX12_takeCounty_58 ?_
    refine lv_iload_n hx hb dX12_takeCounty_61 rfl (lv_at hl 1 rfl) ?_
    refine lv_aload_n hx hb dX12_takeCounty_62 rfl (lv_at hl 0 rfl) ?_
    refine sg_getr X I fk_X12_43 (j := 12) (by decide) shM_0 rfl dX12_takeCounty_63 ?_
    refine lv_iload_n hx hb dX12_takeCounty_66 rfl (lv_at hl 1 rfl) ?_
    refine sg_iald X I (by decide) shM_12 h dX12_takeCounty_67 (fun v7 h => ?_)
    refine sg_iast X I (by decide) shM_16 h dX12_takeCounty_68 (fun s8 H locs h I => ?_)
    refine lv_iinc (v := x1 + 1) (lv' := [(1, .int (x1 + 1)), (0, .ref (sgA P 0))]) hx hb dX12_takeCounty_69 hl (k := 1) rfl rfl (by decide) rfl (fun ls hl => ?_)
    refine lv_goto (tgt := 51) hx hb dX12_takeCounty_72 (by decide) ?_
    obtain rfl := Option.some.inj h
    exact sg_go hk I (lv_sub hl [1, 0] rfl)
def f_X12_takeCounty_L77 (N : Nat) (x1 : Int32) (σ : sgS) : Option ((Int32 × sgS) ⊕ ((sgS × Int32) ⊕ (sgS))) :=
  if 48 ≤ x1 then
  (some (.inr (.inr σ)))
else
  (sg_ld σ 13 48 x1 fun v10 =>
  sg_st σ 17 48 x1 v10 fun s11 =>
  some (.inr (.inl (s11, x1 + 1))))
set_option maxHeartbeats 4000000 in
set_option maxRecDepth 100000 in
theorem b_X12_takeCounty_L77 {p : Program} {l : Launch} {e : Env} {R : Room} {s : State} {m : MethodId} {args : Array Value} {below : List Frame} {meth : Method} {c : Code} {Q : State → Prop} {P : sgP} {A : Nat → Prop} {N : Nat} {x1 : Int32} {σ : sgS} (X : sg_C P A 2 p R s m args c cX12_takeCounty 2 RX12) {H : Heap} {locs : List Loc} (I : sg_I P shM 35 A s.heap σ H locs) {ls : Array Slot} (hl : lv_has ls 2 [(0, .ref (sgA P 0)), (1, .int x1)]) {st : (Int32 × sgS) ⊕ ((sgS × Int32) ⊕ (sgS))} (h : f_X12_takeCounty_L77 N x1 σ = some st) (hk : sg_k3 (sg_Ri p l e R s m args below meth c Q P shM 35 A cX12_takeCounty (some .int)) (fun x => sg_Wt p l e R s m args below meth c Q P shM 35 A 2 77 x.1 [(0, .ref (sgA P 0)), (1, .int x.2)]) (fun y => sg_Wt p l e R s m args below meth c Q P shM 35 A 2 101 y [(0, .ref (sgA P 0))]) st) : W p l e R s m args below meth c H locs 0 0 Q (F0 m 77 ls []) := by
  unfold f_X12_takeCounty_L77 at h
  have hx := X.1.1
  have hb := X.1.2.1
  have hown := X.1.2.2.2.1
  have hts := X.1.2.2.2.2
  refine lv_iload_n hx hb dX12_takeCounty_77 rfl (lv_at hl 1 rfl) ?_
  refine lv_bipush (v := 48) hx hb dX12_takeCounty_78 (by decide) ?_
  refine lv_icmp_ge (tgt := 101) hx hb dX12_takeCounty_80 (by decide) (fun z => ?_) (fun z => ?_)
  · have h := sg_ift h z
    obtain rfl := Option.some.inj h
    exact sg_go hk I (lv_sub hl [0] rfl)
  · have h := sg_iff h z
    refine lv_aload_n hx hb dX12_takeCounty_83 rfl (lv_at hl 0 rfl) ?_
    refine sg_getr X I fk_X12_58 (j := 17) (by decide) shM_0 rfl dX12_takeCounty_84 ?_
    refine lv_iload_n hx hb dX12_takeCounty_87 rfl (lv_at hl 1 rfl) ?_
    refine lv_aload_n hx hb dX12_takeCounty_88 rfl (lv_at hl 0 rfl) ?_
    refine sg_getr X I fk_X12_46 (j := 13) (by decide) shM_0 rfl dX12_takeCounty_89 ?_
    refine lv_iload_n hx hb dX12_takeCounty_92 rfl (lv_at hl 1 rfl) ?_
    refine sg_iald X I (by decide) shM_13 h dX12_takeCounty_93 (fun v10 h => ?_)
    refine sg_iast X I (by decide) shM_17 h dX12_takeCounty_94 (fun s11 H locs h I => ?_)
    refine lv_iinc (v := x1 + 1) (lv' := [(1, .int (x1 + 1)), (0, .ref (sgA P 0))]) hx hb dX12_takeCounty_95 hl (k := 1) rfl rfl (by decide) rfl (fun ls hl => ?_)
    refine lv_goto (tgt := 77) hx hb dX12_takeCounty_98 (by decide) ?_
    obtain rfl := Option.some.inj h
    exact sg_go hk I (lv_sub hl [1, 0] rfl)
def f_X12_takeCounty_L103 (N : Nat) (x1 : Int32) (σ : sgS) : Option ((Int32 × sgS) ⊕ ((sgS × Int32) ⊕ (sgS))) :=
  if 4 ≤ x1 then
  (some (.inr (.inr σ)))
else
  (sg_ld σ 14 4 x1 fun v13 =>
  sg_st σ 18 4 x1 v13 fun s14 =>
  some (.inr (.inl (s14, x1 + 1))))
set_option maxHeartbeats 4000000 in
set_option maxRecDepth 100000 in
theorem b_X12_takeCounty_L103 {p : Program} {l : Launch} {e : Env} {R : Room} {s : State} {m : MethodId} {args : Array Value} {below : List Frame} {meth : Method} {c : Code} {Q : State → Prop} {P : sgP} {A : Nat → Prop} {N : Nat} {x1 : Int32} {σ : sgS} (X : sg_C P A 2 p R s m args c cX12_takeCounty 2 RX12) {H : Heap} {locs : List Loc} (I : sg_I P shM 35 A s.heap σ H locs) {ls : Array Slot} (hl : lv_has ls 2 [(0, .ref (sgA P 0)), (1, .int x1)]) {st : (Int32 × sgS) ⊕ ((sgS × Int32) ⊕ (sgS))} (h : f_X12_takeCounty_L103 N x1 σ = some st) (hk : sg_k3 (sg_Ri p l e R s m args below meth c Q P shM 35 A cX12_takeCounty (some .int)) (fun x => sg_Wt p l e R s m args below meth c Q P shM 35 A 2 103 x.1 [(0, .ref (sgA P 0)), (1, .int x.2)]) (fun y => sg_Wt p l e R s m args below meth c Q P shM 35 A 2 126 y [(0, .ref (sgA P 0))]) st) : W p l e R s m args below meth c H locs 0 0 Q (F0 m 103 ls []) := by
  unfold f_X12_takeCounty_L103 at h
  have hx := X.1.1
  have hb := X.1.2.1
  have hown := X.1.2.2.2.1
  have hts := X.1.2.2.2.2
  refine lv_iload_n hx hb dX12_takeCounty_103 rfl (lv_at hl 1 rfl) ?_
  refine lv_iconst (v := 4) hx hb dX12_takeCounty_104 (by decide) ?_
  refine lv_icmp_ge (tgt := 126) hx hb dX12_takeCounty_105 (by decide) (fun z => ?_) (fun z => ?_)
  · have h := sg_ift h z
    obtain rfl := Option.some.inj h
    exact sg_go hk I (lv_sub hl [0] rfl)
  · have h := sg_iff h z
    refine lv_aload_n hx hb dX12_takeCounty_108 rfl (lv_at hl 0 rfl) ?_
    refine sg_getr X I fk_X12_61 (j := 18) (by decide) shM_0 rfl dX12_takeCounty_109 ?_
    refine lv_iload_n hx hb dX12_takeCounty_112 rfl (lv_at hl 1 rfl) ?_
    refine lv_aload_n hx hb dX12_takeCounty_113 rfl (lv_at hl 0 rfl) ?_
    refine sg_getr X I fk_X12_49 (j := 14) (by decide) shM_0 rfl dX12_takeCounty_114 ?_
    refine lv_iload_n hx hb dX12_takeCounty_117 rfl (lv_at hl 1 rfl) ?_
    refine sg_iald X I (by decide) shM_14 h dX12_takeCounty_118 (fun v13 h => ?_)
    refine sg_iast X I (by decide) shM_18 h dX12_takeCounty_119 (fun s14 H locs h I => ?_)
    refine lv_iinc (v := x1 + 1) (lv' := [(1, .int (x1 + 1)), (0, .ref (sgA P 0))]) hx hb dX12_takeCounty_120 hl (k := 1) rfl rfl (by decide) rfl (fun ls hl => ?_)
    refine lv_goto (tgt := 103) hx hb dX12_takeCounty_123 (by decide) ?_
    obtain rfl := Option.some.inj h
    exact sg_go hk I (lv_sub hl [1, 0] rfl)
def f_X12_takeCounty_L128 (N : Nat) (x1 : Int32) (σ : sgS) : Option ((Int32 × sgS) ⊕ ((sgS × Int32) ⊕ (sgS))) :=
  if 215 ≤ x1 then
  (some (.inr (.inr σ)))
else
  (sg_st σ 21 215 x1 0 fun s16 =>
  some (.inr (.inl (s16, x1 + 1))))
set_option maxHeartbeats 4000000 in
set_option maxRecDepth 100000 in
theorem b_X12_takeCounty_L128 {p : Program} {l : Launch} {e : Env} {R : Room} {s : State} {m : MethodId} {args : Array Value} {below : List Frame} {meth : Method} {c : Code} {Q : State → Prop} {P : sgP} {A : Nat → Prop} {N : Nat} {x1 : Int32} {σ : sgS} (X : sg_C P A 2 p R s m args c cX12_takeCounty 2 RX12) {H : Heap} {locs : List Loc} (I : sg_I P shM 35 A s.heap σ H locs) {ls : Array Slot} (hl : lv_has ls 2 [(0, .ref (sgA P 0)), (1, .int x1)]) {st : (Int32 × sgS) ⊕ ((sgS × Int32) ⊕ (sgS))} (h : f_X12_takeCounty_L128 N x1 σ = some st) (hk : sg_k3 (sg_Ri p l e R s m args below meth c Q P shM 35 A cX12_takeCounty (some .int)) (fun x => sg_Wt p l e R s m args below meth c Q P shM 35 A 2 128 x.1 [(0, .ref (sgA P 0)), (1, .int x.2)]) (fun y => sg_Wt p l e R s m args below meth c Q P shM 35 A 2 148 y [(0, .ref (sgA P 0))]) st) : W p l e R s m args below meth c H locs 0 0 Q (F0 m 128 ls []) := by
  unfold f_X12_takeCounty_L128 at h
  have hx := X.1.1
  have hb := X.1.2.1
  have hown := X.1.2.2.2.1
  have hts := X.1.2.2.2.2
  refine lv_iload_n hx hb dX12_takeCounty_128 rfl (lv_at hl 1 rfl) ?_
  refine lv_sipush (v := 215) hx hb dX12_takeCounty_129 (by decide) ?_
  refine lv_icmp_ge (tgt := 148) hx hb dX12_takeCounty_132 (by decide) (fun z => ?_) (fun z => ?_)
  · have h := sg_ift h z
    obtain rfl := Option.some.inj h
    exact sg_go hk I (lv_sub hl [0] rfl)
  · have h := sg_iff h z
    refine lv_aload_n hx hb dX12_takeCounty_135 rfl (lv_at hl 0 rfl) ?_
    refine sg_getr X I fk_X12_70 (j := 21) (by decide) shM_0 rfl dX12_takeCounty_136 ?_
    refine lv_iload_n hx hb dX12_takeCounty_139 rfl (lv_at hl 1 rfl) ?_
    refine lv_iconst (v := 0) hx hb dX12_takeCounty_140 (by decide) ?_
    refine sg_iast X I (by decide) shM_21 h dX12_takeCounty_141 (fun s16 H locs h I => ?_)
    refine lv_iinc (v := x1 + 1) (lv' := [(1, .int (x1 + 1)), (0, .ref (sgA P 0))]) hx hb dX12_takeCounty_142 hl (k := 1) rfl rfl (by decide) rfl (fun ls hl => ?_)
    refine lv_goto (tgt := 128) hx hb dX12_takeCounty_145 (by decide) ?_
    obtain rfl := Option.some.inj h
    exact sg_go hk I (lv_sub hl [1, 0] rfl)
def f_X12_takeCounty (N : Nat) (σ : sgS) : Option (Int32 × sgS) :=
  sg_pf σ 0 28 (σ.1 0 21) fun s1 =>
sg_pf s1 0 29 (s1.1 0 22) fun s2 =>
sg_pf s2 0 30 (s2.1 0 23) fun s3 =>
sg_lb (sg_lp (fun x => f_X12_takeCounty_L26 N x.2 x.1) N ((s3, 0))) (fun r => some r) fun y6 =>
sg_lb (sg_lp (fun x => f_X12_takeCounty_L51 N x.2 x.1) N ((y6, 0))) (fun r => some r) fun y9 =>
sg_lb (sg_lp (fun x => f_X12_takeCounty_L77 N x.2 x.1) N ((y9, 0))) (fun r => some r) fun y12 =>
sg_lb (sg_lp (fun x => f_X12_takeCounty_L103 N x.2 x.1) N ((y12, 0))) (fun r => some r) fun y15 =>
sg_lb (sg_lp (fun x => f_X12_takeCounty_L128 N x.2 x.1) N ((y15, 0))) (fun r => some r) fun y17 =>
sg_cl (f_X12_layTold N y17) fun v18 s19 =>
sg_pf s19 0 54 0 fun s20 =>
sg_pf s20 0 42 0 fun s21 =>
sg_pf s21 0 57 0 fun s22 =>
some (s22.1 0 28, s22)
set_option maxHeartbeats 4000000 in
set_option maxRecDepth 100000 in
theorem b_X12_takeCounty {p : Program} {l : Launch} {e : Env} {R : Room} {s : State} {m : MethodId} {args : Array Value} {below : List Frame} {meth : Method} {c : Code} {Q : State → Prop} {P : sgP} {A : Nat → Prop} {N : Nat} {σ : sgS} (X : sg_C P A 2 p R s m args c cX12_takeCounty 2 RX12) {H : Heap} {locs : List Loc} (I : sg_I P shM 35 A s.heap σ H locs) {ls : Array Slot} (hl : lv_has ls 2 [(0, .ref (sgA P 0))]) {st : Int32 × sgS} (h : f_X12_takeCounty N σ = some st) (hk : sg_Ri p l e R s m args below meth c Q P shM 35 A cX12_takeCounty (some .int) st) : W p l e R s m args below meth c H locs 0 0 Q (F0 m 0 ls []) := by
  unfold f_X12_takeCounty at h
  have hx := X.1.1
  have hb := X.1.2.1
  have hown := X.1.2.2.2.1
  have hts := X.1.2.2.2.2
  refine lv_aload_n hx hb dX12_takeCounty_0 rfl (lv_at hl 0 rfl) ?_
  refine lv_aload_n hx hb dX12_takeCounty_1 rfl (lv_at hl 0 rfl) ?_
  refine sg_geti X I fk_X12_259 (by decide) shM_0 rfl dX12_takeCounty_2 ?_
  refine sg_puti X I fk_X12_288 wk_12_28 rfl rfl (by decide) shM_0 rfl h dX12_takeCounty_5 (fun s1 H locs h I => ?_)
  refine lv_aload_n hx hb dX12_takeCounty_8 rfl (lv_at hl 0 rfl) ?_
  refine lv_aload_n hx hb dX12_takeCounty_9 rfl (lv_at hl 0 rfl) ?_
  refine sg_geti X I fk_X12_262 (by decide) shM_0 rfl dX12_takeCounty_10 ?_
  refine sg_puti X I fk_X12_291 wk_12_29 rfl rfl (by decide) shM_0 rfl h dX12_takeCounty_13 (fun s2 H locs h I => ?_)
  refine lv_aload_n hx hb dX12_takeCounty_16 rfl (lv_at hl 0 rfl) ?_
  refine lv_aload_n hx hb dX12_takeCounty_17 rfl (lv_at hl 0 rfl) ?_
  refine sg_geti X I fk_X12_265 (by decide) shM_0 rfl dX12_takeCounty_18 ?_
  refine sg_puti X I fk_X12_285 wk_12_30 rfl rfl (by decide) shM_0 rfl h dX12_takeCounty_21 (fun s3 H locs h I => ?_)
  refine lv_iconst (v := 0) hx hb dX12_takeCounty_24 (by decide) ?_
  refine lv_istore_n (lv' := [(1, .int 0), (0, .ref (sgA P 0))]) hx hb dX12_takeCounty_25 rfl hl (by decide) rfl (fun ls hl => ?_)
  obtain ⟨res, e9, k9⟩ := sg_lb_some h
  refine sg_go (sg_lp_W (a := (sg_Ri p l e R s m args below meth c Q P shM 35 A cX12_takeCounty (some .int))) (w := (fun x => sg_Wt p l e R s m args below meth c Q P shM 35 A 2 26 x.1 [(0, .ref (sgA P 0)), (1, .int x.2)])) (c := (fun y => sg_Wt p l e R s m args below meth c Q P shM 35 A 2 49 y [(0, .ref (sgA P 0))])) (fun x st hb9 hk9 => ?_) N ((s3, 0)) res e9 (sg_k2_mono k9 (fun r h => ?_) (fun y6 h => ?_))) I (lv_sub hl [1, 0] rfl)
  · intro H locs ls I hl
    exact b_X12_takeCounty_L26 X I hl hb9 hk9
  · obtain rfl := Option.some.inj h
    exact hk
  · intro H locs ls I hl
    refine lv_iconst (v := 0) hx hb dX12_takeCounty_49 (by decide) ?_
    refine lv_istore_n (lv' := [(1, .int 0), (0, .ref (sgA P 0))]) hx hb dX12_takeCounty_50 rfl hl (by decide) rfl (fun ls hl => ?_)
    obtain ⟨res, e9, k9⟩ := sg_lb_some h
    refine sg_go (sg_lp_W (a := (sg_Ri p l e R s m args below meth c Q P shM 35 A cX12_takeCounty (some .int))) (w := (fun x => sg_Wt p l e R s m args below meth c Q P shM 35 A 2 51 x.1 [(0, .ref (sgA P 0)), (1, .int x.2)])) (c := (fun y => sg_Wt p l e R s m args below meth c Q P shM 35 A 2 75 y [(0, .ref (sgA P 0))])) (fun x st hb9 hk9 => ?_) N ((y6, 0)) res e9 (sg_k2_mono k9 (fun r h => ?_) (fun y9 h => ?_))) I (lv_sub hl [1, 0] rfl)
    · intro H locs ls I hl
      exact b_X12_takeCounty_L51 X I hl hb9 hk9
    · obtain rfl := Option.some.inj h
      exact hk
    · intro H locs ls I hl
      refine lv_iconst (v := 0) hx hb dX12_takeCounty_75 (by decide) ?_
      refine lv_istore_n (lv' := [(1, .int 0), (0, .ref (sgA P 0))]) hx hb dX12_takeCounty_76 rfl hl (by decide) rfl (fun ls hl => ?_)
      obtain ⟨res, e9, k9⟩ := sg_lb_some h
      refine sg_go (sg_lp_W (a := (sg_Ri p l e R s m args below meth c Q P shM 35 A cX12_takeCounty (some .int))) (w := (fun x => sg_Wt p l e R s m args below meth c Q P shM 35 A 2 77 x.1 [(0, .ref (sgA P 0)), (1, .int x.2)])) (c := (fun y => sg_Wt p l e R s m args below meth c Q P shM 35 A 2 101 y [(0, .ref (sgA P 0))])) (fun x st hb9 hk9 => ?_) N ((y9, 0)) res e9 (sg_k2_mono k9 (fun r h => ?_) (fun y12 h => ?_))) I (lv_sub hl [1, 0] rfl)
      · intro H locs ls I hl
        exact b_X12_takeCounty_L77 X I hl hb9 hk9
      · obtain rfl := Option.some.inj h
        exact hk
      · intro H locs ls I hl
        refine lv_iconst (v := 0) hx hb dX12_takeCounty_101 (by decide) ?_
        refine lv_istore_n (lv' := [(1, .int 0), (0, .ref (sgA P 0))]) hx hb dX12_takeCounty_102 rfl hl (by decide) rfl (fun ls hl => ?_)
        obtain ⟨res, e9, k9⟩ := sg_lb_some h
        refine sg_go (sg_lp_W (a := (sg_Ri p l e R s m args below meth c Q P shM 35 A cX12_takeCounty (some .int))) (w := (fun x => sg_Wt p l e R s m args below meth c Q P shM 35 A 2 103 x.1 [(0, .ref (sgA P 0)), (1, .int x.2)])) (c := (fun y => sg_Wt p l e R s m args below meth c Q P shM 35 A 2 126 y [(0, .ref (sgA P 0))])) (fun x st hb9 hk9 => ?_) N ((y12, 0)) res e9 (sg_k2_mono k9 (fun r h => ?_) (fun y15 h => ?_))) I (lv_sub hl [1, 0] rfl)
        · intro H locs ls I hl
          exact b_X12_takeCounty_L103 X I hl hb9 hk9
        · obtain rfl := Option.some.inj h
          exact hk
        · intro H locs ls I hl
          refine lv_iconst (v := 0) hx hb dX12_takeCounty_126 (by decide) ?_
          refine lv_istore_n (lv' := [(1, .int 0), (0, .ref (sgA P 0))]) hx hb dX12_takeCounty_127 rfl hl (by decide) rfl (fun ls hl => ?_)
          obtain ⟨res, e9, k9⟩ := sg_lb_some h
          refine sg_go (sg_lp_W (a := (sg_Ri p l e R s m args below meth c Q P shM 35 A cX12_takeCounty (some .int))) (w := (fun x => sg_Wt p l e R s m args below meth c Q P shM 35 A 2 128 x.1 [(0, .ref (sgA P 0)), (1, .int x.2)])) (c := (fun y => sg_Wt p l e R s m args below meth c Q P shM 35 A 2 148 y [(0, .ref (sgA P 0))])) (fun x st hb9 hk9 => ?_) N ((y15, 0)) res e9 (sg_k2_mono k9 (fun r h => ?_) (fun y17 h => ?_))) I (lv_sub hl [1, 0] rfl)
          · intro H locs ls I hl
            exact b_X12_takeCounty_L128 X I hl hb9 hk9
          · obtain rfl := Option.some.inj h
            exact hk
          · intro H locs ls I hl
            refine lv_aload_n hx hb dX12_takeCounty_148 rfl (lv_at hl 0 rfl) ?_
            refine sg_callVv (As := []) X I mk_X12_294 (by decide) (by decide) shM_0 rfl (fun q9 e9 => c_X12_layTold e9) h hl.1 rfl rfl (Nat.le_of_ble_eq_true rfl) dX12_takeCounty_149 (fun v18 s19 H locs h I => ?_)
            refine lv_aload_n hx hb dX12_takeCounty_152 rfl (lv_at hl 0 rfl) ?_
            refine lv_iconst (v := 0) hx hb dX12_takeCounty_153 (by decide) ?_
            refine sg_puti X I fk_X12_297 wk_12_54 rfl rfl (by decide) shM_0 rfl h dX12_takeCounty_154 (fun s20 H locs h I => ?_)
            refine lv_aload_n hx hb dX12_takeCounty_157 rfl (lv_at hl 0 rfl) ?_
            refine lv_iconst (v := 0) hx hb dX12_takeCounty_158 (by decide) ?_
            refine sg_puti X I fk_X12_300 wk_12_42 rfl rfl (by decide) shM_0 rfl h dX12_takeCounty_159 (fun s21 H locs h I => ?_)
            refine lv_aload_n hx hb dX12_takeCounty_162 rfl (lv_at hl 0 rfl) ?_
            refine lv_iconst (v := 0) hx hb dX12_takeCounty_163 (by decide) ?_
            refine sg_puti X I fk_X12_303 wk_12_57 (by decide) (by decide) (by decide) shM_0 rfl h dX12_takeCounty_164 (fun s22 H locs h I => ?_)
            refine lv_aload_n hx hb dX12_takeCounty_167 rfl (lv_at hl 0 rfl) ?_
            refine sg_geti X I fk_X12_288 (by decide) shM_0 rfl dX12_takeCounty_168 ?_
            obtain rfl := Option.some.inj h
            exact hk _ _ _ _ _ I ⟨_, rfl, rfl⟩ dX12_takeCounty_171
set_option maxHeartbeats 4000000 in
set_option maxRecDepth 100000 in
theorem c_X12_takeCounty {l : Launch} {P : sgP} {N : Nat} {σ : sgS} {q : Int32 × sgS} (h : f_X12_takeCounty N σ = some q) : sg_Mi P shM 35 l yX12_takeCounty cX12_takeCounty 2 (some .int) 2 [.ref (sgA P 0)] σ q := by
  refine sg_mki (plainFor_of_name (by decide +kernel)) (Nat.le_of_ble_eq_true rfl) ?_
  intro p e R s m args below meth c Q A ls H locs X I hl hk
  exact b_X12_takeCounty X I hl h hk
def f_X12_text_B69 (N : Nat) (p1 : Int32) (σ : sgS) : Option (Int32 × sgS) :=
  if p1 = 2 then
  (if 4 ≤ (σ.1 0 33) then
    (some ((-1), σ))
  else
    (sg_cl (f_X12_readWay N (σ.1 0 33) σ) fun v1 s2 =>
    if v1 = ((-1)) then
      (sg_pf s2 0 2 0 fun s3 =>
      sg_pf s3 0 33 ((s3.1 0 33) + 1) fun s4 =>
      some ((s4.1 0 33) - 1, s4))
    else
      (some ((-1), s2))))
else
  (some ((-1), σ))
set_option maxHeartbeats 4000000 in
set_option maxRecDepth 100000 in
theorem b_X12_text_B69 {p : Program} {l : Launch} {e : Env} {R : Room} {s : State} {m : MethodId} {args : Array Value} {below : List Frame} {meth : Method} {c : Code} {Q : State → Prop} {P : sgP} {A : Nat → Prop} {N : Nat} {p1 : Int32} {σ : sgS} (X : sg_C P A 292 p R s m args c cX12_text 2 RX12) {H : Heap} {locs : List Loc} (I : sg_I P shM 35 A s.heap σ H locs) {ls : Array Slot} (hl : lv_has ls 2 [(0, .ref (sgA P 0)), (1, .int p1)]) {st : Int32 × sgS} (h : f_X12_text_B69 N p1 σ = some st) (hk : sg_Ri p l e R s m args below meth c Q P shM 35 A cX12_text (some .int) st) : W p l e R s m args below meth c H locs 0 0 Q (F0 m 69 ls []) := by
  unfold f_X12_text_B69 at h
  have hx := X.1.1
  have hb := X.1.2.1
  have hown := X.1.2.2.2.1
  have hts := X.1.2.2.2.2
  refine lv_iload_n hx hb dX12_text_69 rfl (lv_at hl 1 rfl) ?_
  refine lv_iconst (v := 2) hx hb dX12_text_70 (by decide) ?_
  refine lv_icmp_ne (tgt := 116) hx hb dX12_text_71 (by decide) (fun z => ?_) (fun z => ?_)
  · have h := sg_iff h z
    refine lv_iconst (v := -1) hx hb dX12_text_116 (by decide) ?_
    obtain rfl := Option.some.inj h
    exact hk _ _ _ _ _ I ⟨_, rfl, rfl⟩ dX12_text_117
  · have h := sg_ift h z
    refine lv_aload_n hx hb dX12_text_74 rfl (lv_at hl 0 rfl) ?_
    refine sg_geti X I fk_X12_313 (by decide) shM_0 rfl dX12_text_75 ?_
    refine lv_iconst (v := 4) hx hb dX12_text_78 (by decide) ?_
    refine lv_icmp_ge (tgt := 116) hx hb dX12_text_79 (by decide) (fun z => ?_) (fun z => ?_)
    · have h := sg_ift h z
      refine lv_iconst (v := -1) hx hb dX12_text_116 (by decide) ?_
      obtain rfl := Option.some.inj h
      exact hk _ _ _ _ _ I ⟨_, rfl, rfl⟩ dX12_text_117
    · have h := sg_iff h z
      refine lv_aload_n hx hb dX12_text_82 rfl (lv_at hl 0 rfl) ?_
      refine lv_aload_n hx hb dX12_text_83 rfl (lv_at hl 0 rfl) ?_
      refine sg_geti X I fk_X12_313 (by decide) shM_0 rfl dX12_text_84 ?_
      refine sg_callV (As := [.int (σ.1 0 33)]) X I mk_X12_282 (by decide) (by decide) shM_0 rfl (fun q9 e9 => c_X12_readWay e9) h hl.1 rfl rfl (Nat.le_of_ble_eq_true rfl) dX12_text_87 (fun v1 s2 H locs h I => ?_)
      refine lv_iconst (v := -1) hx hb dX12_text_90 (by decide) ?_
      refine lv_icmp_ne (tgt := 116) hx hb dX12_text_91 (by decide) (fun z => ?_) (fun z => ?_)
      · have h := sg_iff h z
        refine lv_iconst (v := -1) hx hb dX12_text_116 (by decide) ?_
        obtain rfl := Option.some.inj h
        exact hk _ _ _ _ _ I ⟨_, rfl, rfl⟩ dX12_text_117
      · have h := sg_ift h z
        refine lv_aload_n hx hb dX12_text_94 rfl (lv_at hl 0 rfl) ?_
        refine lv_iconst (v := 0) hx hb dX12_text_95 (by decide) ?_
        refine sg_puti X I fk_X12_127 wk_12_2 rfl rfl (by decide) shM_0 rfl h dX12_text_96 (fun s3 H locs h I => ?_)
        refine lv_aload_n hx hb dX12_text_99 rfl (lv_at hl 0 rfl) ?_
        refine lv_dup hx hb dX12_text_100 rfl ?_
        refine sg_geti X I fk_X12_313 (by decide) shM_0 rfl dX12_text_101 ?_
        refine lv_iconst (v := 1) hx hb dX12_text_104 (by decide) ?_
        refine lv_iadd hx hb dX12_text_105 ?_
        refine sg_puti X I fk_X12_313 wk_12_33 rfl rfl (by decide) shM_0 rfl h dX12_text_106 (fun s4 H locs h I => ?_)
        refine lv_aload_n hx hb dX12_text_109 rfl (lv_at hl 0 rfl) ?_
        refine sg_geti X I fk_X12_313 (by decide) shM_0 rfl dX12_text_110 ?_
        refine lv_iconst (v := 1) hx hb dX12_text_113 (by decide) ?_
        refine lv_isub hx hb dX12_text_114 ?_
        obtain rfl := Option.some.inj h
        exact hk _ _ _ _ _ I ⟨_, rfl, rfl⟩ dX12_text_115
def f_X12_text_B22 (N : Nat) (p1 : Int32) (σ : sgS) : Option (Int32 × sgS) :=
  if p1 = 1 then
  (if 4 ≤ (σ.1 0 13) then
    (f_X12_text_B69 N p1 σ)
  else
    (sg_cl (f_X12_readLaw N (σ.1 0 13) σ) fun v5 s6 =>
    if v5 = ((-1)) then
      (sg_pf s6 0 2 0 fun s7 =>
      sg_pf s7 0 13 ((s7.1 0 13) + 1) fun s8 =>
      some ((s8.1 0 13) - 1, s8))
    else
      (f_X12_text_B69 N p1 s6)))
else
  (f_X12_text_B69 N p1 σ)
set_option maxHeartbeats 4000000 in
set_option maxRecDepth 100000 in
theorem b_X12_text_B22 {p : Program} {l : Launch} {e : Env} {R : Room} {s : State} {m : MethodId} {args : Array Value} {below : List Frame} {meth : Method} {c : Code} {Q : State → Prop} {P : sgP} {A : Nat → Prop} {N : Nat} {p1 : Int32} {σ : sgS} (X : sg_C P A 292 p R s m args c cX12_text 2 RX12) {H : Heap} {locs : List Loc} (I : sg_I P shM 35 A s.heap σ H locs) {ls : Array Slot} (hl : lv_has ls 2 [(0, .ref (sgA P 0)), (1, .int p1)]) {st : Int32 × sgS} (h : f_X12_text_B22 N p1 σ = some st) (hk : sg_Ri p l e R s m args below meth c Q P shM 35 A cX12_text (some .int) st) : W p l e R s m args below meth c H locs 0 0 Q (F0 m 22 ls []) := by
  unfold f_X12_text_B22 at h
  have hx := X.1.1
  have hb := X.1.2.1
  have hown := X.1.2.2.2.1
  have hts := X.1.2.2.2.2
  refine lv_iload_n hx hb dX12_text_22 rfl (lv_at hl 1 rfl) ?_
  refine lv_iconst (v := 1) hx hb dX12_text_23 (by decide) ?_
  refine lv_icmp_ne (tgt := 69) hx hb dX12_text_24 (by decide) (fun z => ?_) (fun z => ?_)
  · have h := sg_iff h z
    exact b_X12_text_B69 X I (lv_sub hl [0, 1] rfl) h hk
  · have h := sg_ift h z
    refine lv_aload_n hx hb dX12_text_27 rfl (lv_at hl 0 rfl) ?_
    refine sg_geti X I fk_X12_310 (by decide) shM_0 rfl dX12_text_28 ?_
    refine lv_iconst (v := 4) hx hb dX12_text_31 (by decide) ?_
    refine lv_icmp_ge (tgt := 69) hx hb dX12_text_32 (by decide) (fun z => ?_) (fun z => ?_)
    · have h := sg_ift h z
      exact b_X12_text_B69 X I (lv_sub hl [0, 1] rfl) h hk
    · have h := sg_iff h z
      refine lv_aload_n hx hb dX12_text_35 rfl (lv_at hl 0 rfl) ?_
      refine lv_aload_n hx hb dX12_text_36 rfl (lv_at hl 0 rfl) ?_
      refine sg_geti X I fk_X12_310 (by decide) shM_0 rfl dX12_text_37 ?_
      refine sg_callV (As := [.int (σ.1 0 13)]) X I mk_X12_279 (by decide) (by decide) shM_0 rfl (fun q9 e9 => c_X12_readLaw e9) h hl.1 rfl rfl (Nat.le_of_ble_eq_true rfl) dX12_text_40 (fun v5 s6 H locs h I => ?_)
      refine lv_iconst (v := -1) hx hb dX12_text_43 (by decide) ?_
      refine lv_icmp_ne (tgt := 69) hx hb dX12_text_44 (by decide) (fun z => ?_) (fun z => ?_)
      · have h := sg_iff h z
        exact b_X12_text_B69 X I (lv_sub hl [0, 1] rfl) h hk
      · have h := sg_ift h z
        refine lv_aload_n hx hb dX12_text_47 rfl (lv_at hl 0 rfl) ?_
        refine lv_iconst (v := 0) hx hb dX12_text_48 (by decide) ?_
        refine sg_puti X I fk_X12_127 wk_12_2 rfl rfl (by decide) shM_0 rfl h dX12_text_49 (fun s7 H locs h I => ?_)
        refine lv_aload_n hx hb dX12_text_52 rfl (lv_at hl 0 rfl) ?_
        refine lv_dup hx hb dX12_text_53 rfl ?_
        refine sg_geti X I fk_X12_310 (by decide) shM_0 rfl dX12_text_54 ?_
        refine lv_iconst (v := 1) hx hb dX12_text_57 (by decide) ?_
        refine lv_iadd hx hb dX12_text_58 ?_
        refine sg_puti X I fk_X12_310 wk_12_13 rfl rfl (by decide) shM_0 rfl h dX12_text_59 (fun s8 H locs h I => ?_)
        refine lv_aload_n hx hb dX12_text_62 rfl (lv_at hl 0 rfl) ?_
        refine sg_geti X I fk_X12_310 (by decide) shM_0 rfl dX12_text_63 ?_
        refine lv_iconst (v := 1) hx hb dX12_text_66 (by decide) ?_
        refine lv_isub hx hb dX12_text_67 ?_
        obtain rfl := Option.some.inj h
        exact hk _ _ _ _ _ I ⟨_, rfl, rfl⟩ dX12_text_68
def f_X12_text (N : Nat) (p1 : Int32) (σ : sgS) : Option (Int32 × sgS) :=
  if p1 = 0 then
  (sg_cl (f_X12_readCounty N σ) fun v9 s10 =>
  if v9 = ((-1)) then
    (sg_pf s10 0 2 0 fun s11 =>
    sg_cl (f_X12_takeCounty N s11) fun v12 s13 =>
    some (v12, s13))
  else
    (f_X12_text_B22 N p1 s10))
else
  (f_X12_text_B22 N p1 σ)
set_option maxHeartbeats 4000000 in
set_option maxRecDepth 100000 in
theorem b_X12_text {p : Program} {l : Launch} {e : Env} {R : Room} {s : State} {m : MethodId} {args : Array Value} {below : List Frame} {meth : Method} {c : Code} {Q : State → Prop} {P : sgP} {A : Nat → Prop} {N : Nat} {p1 : Int32} {σ : sgS} (X : sg_C P A 292 p R s m args c cX12_text 2 RX12) {H : Heap} {locs : List Loc} (I : sg_I P shM 35 A s.heap σ H locs) {ls : Array Slot} (hl : lv_has ls 2 [(0, .ref (sgA P 0)), (1, .int p1)]) {st : Int32 × sgS} (h : f_X12_text N p1 σ = some st) (hk : sg_Ri p l e R s m args below meth c Q P shM 35 A cX12_text (some .int) st) : W p l e R s m args below meth c H locs 0 0 Q (F0 m 0 ls []) := by
  unfold f_X12_text at h
  have hx := X.1.1
  have hb := X.1.2.1
  have hown := X.1.2.2.2.1
  have hts := X.1.2.2.2.2
  refine lv_iload_n hx hb dX12_text_0 rfl (lv_at hl 1 rfl) ?_
  refine lv_if_ne (tgt := 22) hx hb dX12_text_1 (by decide) (fun z => ?_) (fun z => ?_)
  · have h := sg_iff h z
    exact b_X12_text_B22 X I (lv_sub hl [0, 1] rfl) h hk
  · have h := sg_ift h z
    refine lv_aload_n hx hb dX12_text_4 rfl (lv_at hl 0 rfl) ?_
    refine sg_callV (As := []) X I mk_X12_276 (by decide) (by decide) shM_0 rfl (fun q9 e9 => c_X12_readCounty e9) h hl.1 rfl rfl (Nat.le_of_ble_eq_true rfl) dX12_text_5 (fun v9 s10 H locs h I => ?_)
    refine lv_iconst (v := -1) hx hb dX12_text_8 (by decide) ?_
    refine lv_icmp_ne (tgt := 22) hx hb dX12_text_9 (by decide) (fun z => ?_) (fun z => ?_)
    · have h := sg_iff h z
      exact b_X12_text_B22 X I (lv_sub hl [0, 1] rfl) h hk
    · have h := sg_ift h z
      refine lv_aload_n hx hb dX12_text_12 rfl (lv_at hl 0 rfl) ?_
      refine lv_iconst (v := 0) hx hb dX12_text_13 (by decide) ?_
      refine sg_puti X I fk_X12_127 wk_12_2 rfl rfl (by decide) shM_0 rfl h dX12_text_14 (fun s11 H locs h I => ?_)
      refine lv_aload_n hx hb dX12_text_17 rfl (lv_at hl 0 rfl) ?_
      refine sg_callV (As := []) X I mk_X12_307 (by decide) (by decide) shM_0 rfl (fun q9 e9 => c_X12_takeCounty e9) h hl.1 rfl rfl (Nat.le_of_ble_eq_true rfl) dX12_text_18 (fun v12 s13 H locs h I => ?_)
      obtain rfl := Option.some.inj h
      exact hk _ _ _ _ _ I ⟨_, rfl, rfl⟩ dX12_text_21
set_option maxHeartbeats 4000000 in
set_option maxRecDepth 100000 in
theorem c_X12_text {l : Launch} {P : sgP} {N : Nat} {p1 : Int32} {σ : sgS} {q : Int32 × sgS} (h : f_X12_text N p1 σ = some q) : sg_Mi P shM 35 l yX12_text cX12_text 2 (some .int) 292 [.ref (sgA P 0), .int p1] σ q := by
  refine sg_mki (plainFor_of_name (by decide +kernel)) (Nat.le_of_ble_eq_true rfl) ?_
  intro p e R s m args below meth c Q A ls H locs X I hl hk
  exact b_X12_text X I hl h hk
def f_X12_isPlace (N : Nat) (p1 : Int32) (σ : sgS) : Option (Int32) :=
  sg_cr (f_X12_in N p1 0 ((σ.1 0 28) - 1) σ) fun v1 =>
some (vp_nar .boolean v1)
set_option maxHeartbeats 4000000 in
set_option maxRecDepth 100000 in
theorem b_X12_isPlace {p : Program} {l : Launch} {e : Env} {R : Room} {s : State} {m : MethodId} {args : Array Value} {below : List Frame} {meth : Method} {c : Code} {Q : State → Prop} {P : sgP} {A : Nat → Prop} {N : Nat} {p1 : Int32} {σ : sgS} (X : sg_C P A 2 p R s m args c cX12_isPlace 2 RX12) {H : Heap} {locs : List Loc} (I : sg_I P shM 35 A s.heap σ H locs) {ls : Array Slot} (hl : lv_has ls 2 [(0, .ref (sgA P 0)), (1, .int p1)]) {st : Int32} (h : f_X12_isPlace N p1 σ = some st) (hk : sg_Ri p l e R s m args below meth c Q P shM 35 A cX12_isPlace (some .boolean) (st, σ)) : W p l e R s m args below meth c H locs 0 0 Q (F0 m 0 ls []) := by
  unfold f_X12_isPlace at h
  have hx := X.1.1
  have hb := X.1.2.1
  have hown := X.1.2.2.2.1
  have hts := X.1.2.2.2.2
  refine lv_iload_n hx hb dX12_isPlace_0 rfl (lv_at hl 1 rfl) ?_
  refine lv_iconst (v := 0) hx hb dX12_isPlace_1 (by decide) ?_
  refine lv_aload_n hx hb dX12_isPlace_2 rfl (lv_at hl 0 rfl) ?_
  refine sg_geti X I fk_X12_288 (by decide) shM_0 rfl dX12_isPlace_3 ?_
  refine lv_iconst (v := 1) hx hb dX12_isPlace_6 (by decide) ?_
  refine lv_isub hx hb dX12_isPlace_7 ?_
  refine sg_callSr (As := [.int p1, .int 0, .int ((σ.1 0 28) - 1)]) X I mk_X12_235 (by decide) (fun q9 e9 => c_X12_in e9) h hl.1 rfl rfl (Nat.le_of_ble_eq_true rfl) dX12_isPlace_8 (fun v1 H locs h I => ?_)
  obtain rfl := Option.some.inj h
  exact hk _ _ _ _ _ I ⟨_, rfl, rfl⟩ dX12_isPlace_11
set_option maxHeartbeats 4000000 in
set_option maxRecDepth 100000 in
theorem c_X12_isPlace {l : Launch} {P : sgP} {N : Nat} {p1 : Int32} {σ : sgS} {q : Int32} (h : f_X12_isPlace N p1 σ = some q) : sg_Mi P shM 35 l yX12_isPlace cX12_isPlace 2 (some .boolean) 2 [.ref (sgA P 0), .int p1] σ (q, σ) := by
  refine sg_mki (plainFor_of_name (by decide +kernel)) (Nat.le_of_ble_eq_true rfl) ?_
  intro p e R s m args below meth c Q A ls H locs X I hl hk
  exact b_X12_isPlace X I hl h hk
def f_X12_isRoad (N : Nat) (p1 : Int32) (σ : sgS) : Option (Int32) :=
  sg_cr (f_X12_in N p1 0 ((σ.1 0 29) - 1) σ) fun v1 =>
some (vp_nar .boolean v1)
set_option maxHeartbeats 4000000 in
set_option maxRecDepth 100000 in
theorem b_X12_isRoad {p : Program} {l : Launch} {e : Env} {R : Room} {s : State} {m : MethodId} {args : Array Value} {below : List Frame} {meth : Method} {c : Code} {Q : State → Prop} {P : sgP} {A : Nat → Prop} {N : Nat} {p1 : Int32} {σ : sgS} (X : sg_C P A 2 p R s m args c cX12_isRoad 2 RX12) {H : Heap} {locs : List Loc} (I : sg_I P shM 35 A s.heap σ H locs) {ls : Array Slot} (hl : lv_has ls 2 [(0, .ref (sgA P 0)), (1, .int p1)]) {st : Int32} (h : f_X12_isRoad N p1 σ = some st) (hk : sg_Ri p l e R s m args below meth c Q P shM 35 A cX12_isRoad (some .boolean) (st, σ)) : W p l e R s m args below meth c H locs 0 0 Q (F0 m 0 ls []) := by
  unfold f_X12_isRoad at h
  have hx := X.1.1
  have hb := X.1.2.1
  have hown := X.1.2.2.2.1
  have hts := X.1.2.2.2.2
  refine lv_iload_n hx hb dX12_isRoad_0 rfl (lv_at hl 1 rfl) ?_
  refine lv_iconst (v := 0) hx hb dX12_isRoad_1 (by decide) ?_
  refine lv_aload_n hx hb dX12_isRoad_2 rfl (lv_at hl 0 rfl) ?_
  refine sg_geti X I fk_X12_291 (by decide) shM_0 rfl dX12_isRoad_3 ?_
  refine lv_iconst (v := 1) hx hb dX12_isRoad_6 (by decide) ?_
  refine lv_isub hx hb dX12_isRoad_7 ?_
  refine sg_callSr (As := [.int p1, .int 0, .int ((σ.1 0 29) - 1)]) X I mk_X12_235 (by decide) (fun q9 e9 => c_X12_in e9) h hl.1 rfl rfl (Nat.le_of_ble_eq_true rfl) dX12_isRoad_8 (fun v1 H locs h I => ?_)
  obtain rfl := Option.some.inj h
  exact hk _ _ _ _ _ I ⟨_, rfl, rfl⟩ dX12_isRoad_11
set_option maxHeartbeats 4000000 in
set_option maxRecDepth 100000 in
theorem c_X12_isRoad {l : Launch} {P : sgP} {N : Nat} {p1 : Int32} {σ : sgS} {q : Int32} (h : f_X12_isRoad N p1 σ = some q) : sg_Mi P shM 35 l yX12_isRoad cX12_isRoad 2 (some .boolean) 2 [.ref (sgA P 0), .int p1] σ (q, σ) := by
  refine sg_mki (plainFor_of_name (by decide +kernel)) (Nat.le_of_ble_eq_true rfl) ?_
  intro p e R s m args below meth c Q A ls H locs X I hl hk
  exact b_X12_isRoad X I hl h hk
def f_X12_isSet (N : Nat) (p1 : Int32) (σ : sgS) : Option (Int32) :=
  sg_cr (f_X12_in N p1 0 ((σ.1 0 30) - 1) σ) fun v1 =>
some (vp_nar .boolean v1)
set_option maxHeartbeats 4000000 in
set_option maxRecDepth 100000 in
theorem b_X12_isSet {p : Program} {l : Launch} {e : Env} {R : Room} {s : State} {m : MethodId} {args : Array Value} {below : List Frame} {meth : Method} {c : Code} {Q : State → Prop} {P : sgP} {A : Nat → Prop} {N : Nat} {p1 : Int32} {σ : sgS} (X : sg_C P A 2 p R s m args c cX12_isSet 2 RX12) {H : Heap} {locs : List Loc} (I : sg_I P shM 35 A s.heap σ H locs) {ls : Array Slot} (hl : lv_has ls 2 [(0, .ref (sgA P 0)), (1, .int p1)]) {st : Int32} (h : f_X12_isSet N p1 σ = some st) (hk : sg_Ri p l e R s m args below meth c Q P shM 35 A cX12_isSet (some .boolean) (st, σ)) : W p l e R s m args below meth c H locs 0 0 Q (F0 m 0 ls []) := by
  unfold f_X12_isSet at h
  have hx := X.1.1
  have hb := X.1.2.1
  have hown := X.1.2.2.2.1
  have hts := X.1.2.2.2.2
  refine lv_iload_n hx hb dX12_isSet_0 rfl (lv_at hl 1 rfl) ?_
  refine lv_iconst (v := 0) hx hb dX12_isSet_1 (by decide) ?_
  refine lv_aload_n hx hb dX12_isSet_2 rfl (lv_at hl 0 rfl) ?_
  refine sg_geti X I fk_X12_285 (by decide) shM_0 rfl dX12_isSet_3 ?_
  refine lv_iconst (v := 1) hx hb dX12_isSet_6 (by decide) ?_
  refine lv_isub hx hb dX12_isSet_7 ?_
  refine sg_callSr (As := [.int p1, .int 0, .int ((σ.1 0 30) - 1)]) X I mk_X12_235 (by decide) (fun q9 e9 => c_X12_in e9) h hl.1 rfl rfl (Nat.le_of_ble_eq_true rfl) dX12_isSet_8 (fun v1 H locs h I => ?_)
  obtain rfl := Option.some.inj h
  exact hk _ _ _ _ _ I ⟨_, rfl, rfl⟩ dX12_isSet_11
set_option maxHeartbeats 4000000 in
set_option maxRecDepth 100000 in
theorem c_X12_isSet {l : Launch} {P : sgP} {N : Nat} {p1 : Int32} {σ : sgS} {q : Int32} (h : f_X12_isSet N p1 σ = some q) : sg_Mi P shM 35 l yX12_isSet cX12_isSet 2 (some .boolean) 2 [.ref (sgA P 0), .int p1] σ (q, σ) := by
  refine sg_mki (plainFor_of_name (by decide +kernel)) (Nat.le_of_ble_eq_true rfl) ?_
  intro p e R s m args below meth c Q A ls H locs X I hl hk
  exact b_X12_isSet X I hl h hk
def f_X12_isWay (N : Nat) (p1 : Int32) (σ : sgS) : Option (Int32) :=
  sg_cr (f_X12_in N p1 0 ((σ.1 0 33) - 1) σ) fun v1 =>
some (vp_nar .boolean v1)
set_option maxHeartbeats 4000000 in
set_option maxRecDepth 100000 in
theorem b_X12_isWay {p : Program} {l : Launch} {e : Env} {R : Room} {s : State} {m : MethodId} {args : Array Value} {below : List Frame} {meth : Method} {c : Code} {Q : State → Prop} {P : sgP} {A : Nat → Prop} {N : Nat} {p1 : Int32} {σ : sgS} (X : sg_C P A 2 p R s m args c cX12_isWay 2 RX12) {H : Heap} {locs : List Loc} (I : sg_I P shM 35 A s.heap σ H locs) {ls : Array Slot} (hl : lv_has ls 2 [(0, .ref (sgA P 0)), (1, .int p1)]) {st : Int32} (h : f_X12_isWay N p1 σ = some st) (hk : sg_Ri p l e R s m args below meth c Q P shM 35 A cX12_isWay (some .boolean) (st, σ)) : W p l e R s m args below meth c H locs 0 0 Q (F0 m 0 ls []) := by
  unfold f_X12_isWay at h
  have hx := X.1.1
  have hb := X.1.2.1
  have hown := X.1.2.2.2.1
  have hts := X.1.2.2.2.2
  refine lv_iload_n hx hb dX12_isWay_0 rfl (lv_at hl 1 rfl) ?_
  refine lv_iconst (v := 0) hx hb dX12_isWay_1 (by decide) ?_
  refine lv_aload_n hx hb dX12_isWay_2 rfl (lv_at hl 0 rfl) ?_
  refine sg_geti X I fk_X12_313 (by decide) shM_0 rfl dX12_isWay_3 ?_
  refine lv_iconst (v := 1) hx hb dX12_isWay_6 (by decide) ?_
  refine lv_isub hx hb dX12_isWay_7 ?_
  refine sg_callSr (As := [.int p1, .int 0, .int ((σ.1 0 33) - 1)]) X I mk_X12_235 (by decide) (fun q9 e9 => c_X12_in e9) h hl.1 rfl rfl (Nat.le_of_ble_eq_true rfl) dX12_isWay_8 (fun v1 H locs h I => ?_)
  obtain rfl := Option.some.inj h
  exact hk _ _ _ _ _ I ⟨_, rfl, rfl⟩ dX12_isWay_11
set_option maxHeartbeats 4000000 in
set_option maxRecDepth 100000 in
theorem c_X12_isWay {l : Launch} {P : sgP} {N : Nat} {p1 : Int32} {σ : sgS} {q : Int32} (h : f_X12_isWay N p1 σ = some q) : sg_Mi P shM 35 l yX12_isWay cX12_isWay 2 (some .boolean) 2 [.ref (sgA P 0), .int p1] σ (q, σ) := by
  refine sg_mki (plainFor_of_name (by decide +kernel)) (Nat.le_of_ble_eq_true rfl) ?_
  intro p e R s m args below meth c Q A ls H locs X I hl hk
  exact b_X12_isWay X I hl h hk
def f_X12_of (N : Nat) (p1 : Int32) (p2 : Int32) (σ : sgS) : Option (Int32) :=
  sg_ld σ 17 48 ((4 * p1) + p2) fun v1 =>
some v1
set_option maxHeartbeats 4000000 in
set_option maxRecDepth 100000 in
theorem b_X12_of {p : Program} {l : Launch} {e : Env} {R : Room} {s : State} {m : MethodId} {args : Array Value} {below : List Frame} {meth : Method} {c : Code} {Q : State → Prop} {P : sgP} {A : Nat → Prop} {N : Nat} {p1 : Int32} {p2 : Int32} {σ : sgS} (X : sg_C P A 1 p R s m args c cX12_of 3 RX12) {H : Heap} {locs : List Loc} (I : sg_I P shM 35 A s.heap σ H locs) {ls : Array Slot} (hl : lv_has ls 3 [(0, .ref (sgA P 0)), (1, .int p1), (2, .int p2)]) {st : Int32} (h : f_X12_of N p1 p2 σ = some st) (hk : sg_Ri p l e R s m args below meth c Q P shM 35 A cX12_of (some .int) (st, σ)) : W p l e R s m args below meth c H locs 0 0 Q (F0 m 0 ls []) := by
  unfold f_X12_of at h
  have hx := X.1.1
  have hb := X.1.2.1
  have hown := X.1.2.2.2.1
  have hts := X.1.2.2.2.2
  refine lv_aload_n hx hb dX12_of_0 rfl (lv_at hl 0 rfl) ?_
  refine sg_getr X I fk_X12_58 (j := 17) (by decide) shM_0 rfl dX12_of_1 ?_
  refine lv_iconst (v := 4) hx hb dX12_of_4 (by decide) ?_
  refine lv_iload_n hx hb dX12_of_5 rfl (lv_at hl 1 rfl) ?_
  refine lv_imul hx hb dX12_of_6 ?_
  refine lv_iload_n hx hb dX12_of_7 rfl (lv_at hl 2 rfl) ?_
  refine lv_iadd hx hb dX12_of_8 ?_
  refine sg_iald X I (by decide) shM_17 h dX12_of_9 (fun v1 h => ?_)
  obtain rfl := Option.some.inj h
  exact hk _ _ _ _ _ I ⟨_, rfl, rfl⟩ dX12_of_10
set_option maxHeartbeats 4000000 in
set_option maxRecDepth 100000 in
theorem c_X12_of {l : Launch} {P : sgP} {N : Nat} {p1 : Int32} {p2 : Int32} {σ : sgS} {q : Int32} (h : f_X12_of N p1 p2 σ = some q) : sg_Mi P shM 35 l yX12_of cX12_of 3 (some .int) 1 [.ref (sgA P 0), .int p1, .int p2] σ (q, σ) := by
  refine sg_mki (plainFor_of_name (by decide +kernel)) (Nat.le_of_ble_eq_true rfl) ?_
  intro p e R s m args below meth c Q A ls H locs X I hl hk
  exact b_X12_of X I hl h hk
def f_X12_isClosed (N : Nat) (p1 : Int32) (σ : sgS) : Option (Int32) :=
  sg_ld σ 21 215 31 fun v1 =>
sg_cr (f_X12_has N v1 p1 σ) fun v2 =>
some (vp_nar .boolean v2)
set_option maxHeartbeats 4000000 in
set_option maxRecDepth 100000 in
theorem b_X12_isClosed {p : Program} {l : Launch} {e : Env} {R : Room} {s : State} {m : MethodId} {args : Array Value} {below : List Frame} {meth : Method} {c : Code} {Q : State → Prop} {P : sgP} {A : Nat → Prop} {N : Nat} {p1 : Int32} {σ : sgS} (X : sg_C P A 2 p R s m args c cX12_isClosed 2 RX12) {H : Heap} {locs : List Loc} (I : sg_I P shM 35 A s.heap σ H locs) {ls : Array Slot} (hl : lv_has ls 2 [(0, .ref (sgA P 0)), (1, .int p1)]) {st : Int32} (h : f_X12_isClosed N p1 σ = some st) (hk : sg_Ri p l e R s m args below meth c Q P shM 35 A cX12_isClosed (some .boolean) (st, σ)) : W p l e R s m args below meth c H locs 0 0 Q (F0 m 0 ls []) := by
  unfold f_X12_isClosed at h
  have hx := X.1.1
  have hb := X.1.2.1
  have hown := X.1.2.2.2.1
  have hts := X.1.2.2.2.2
  refine lv_aload_n hx hb dX12_isClosed_0 rfl (lv_at hl 0 rfl) ?_
  refine sg_getr X I fk_X12_70 (j := 21) (by decide) shM_0 rfl dX12_isClosed_1 ?_
  refine lv_bipush (v := 31) hx hb dX12_isClosed_4 (by decide) ?_
  refine sg_iald X I (by decide) shM_21 h dX12_isClosed_6 (fun v1 h => ?_)
  refine lv_iload_n hx hb dX12_isClosed_7 rfl (lv_at hl 1 rfl) ?_
  refine sg_callSr (As := [.int v1, .int p1]) X I mk_X12_246 (by decide) (fun q9 e9 => c_X12_has e9) h hl.1 rfl rfl (Nat.le_of_ble_eq_true rfl) dX12_isClosed_8 (fun v2 H locs h I => ?_)
  obtain rfl := Option.some.inj h
  exact hk _ _ _ _ _ I ⟨_, rfl, rfl⟩ dX12_isClosed_11
set_option maxHeartbeats 4000000 in
set_option maxRecDepth 100000 in
theorem c_X12_isClosed {l : Launch} {P : sgP} {N : Nat} {p1 : Int32} {σ : sgS} {q : Int32} (h : f_X12_isClosed N p1 σ = some q) : sg_Mi P shM 35 l yX12_isClosed cX12_isClosed 2 (some .boolean) 2 [.ref (sgA P 0), .int p1] σ (q, σ) := by
  refine sg_mki (plainFor_of_name (by decide +kernel)) (Nat.le_of_ble_eq_true rfl) ?_
  intro p e R s m args below meth c Q A ls H locs X I hl hk
  exact b_X12_isClosed X I hl h hk
def f_X12_joins_B20 (N : Nat) (p1 : Int32) (p2 : Int32) (p3 : Int32) (σ : sgS) : Option (Int32) :=
  sg_cr (f_X12_of N p1 0 σ) fun v2 =>
if v2 = p3 then
  (sg_cr (f_X12_of N p1 1 σ) fun v3 =>
  if v3 = p2 then
    (some (vp_nar .boolean 1))
  else
    (some (vp_nar .boolean 0)))
else
  (some (vp_nar .boolean 0))
set_option maxHeartbeats 4000000 in
set_option maxRecDepth 100000 in
theorem b_X12_joins_B20 {p : Program} {l : Launch} {e : Env} {R : Room} {s : State} {m : MethodId} {args : Array Value} {below : List Frame} {meth : Method} {c : Code} {Q : State → Prop} {P : sgP} {A : Nat → Prop} {N : Nat} {p1 : Int32} {p2 : Int32} {p3 : Int32} {σ : sgS} (X : sg_C P A 2 p R s m args c cX12_joins 4 RX12) {H : Heap} {locs : List Loc} (I : sg_I P shM 35 A s.heap σ H locs) {ls : Array Slot} (hl : lv_has ls 4 [(0, .ref (sgA P 0)), (1, .int p1), (2, .int p2), (3, .int p3)]) {st : Int32} (h : f_X12_joins_B20 N p1 p2 p3 σ = some st) (hk : sg_Ri p l e R s m args below meth c Q P shM 35 A cX12_joins (some .boolean) (st, σ)) : W p l e R s m args below meth c H locs 0 0 Q (F0 m 20 ls []) := by
  unfold f_X12_joins_B20 at h
  have hx := X.1.1
  have hb := X.1.2.1
  have hown := X.1.2.2.2.1
  have hts := X.1.2.2.2.2
  refine lv_aload_n hx hb dX12_joins_20 rfl (lv_at hl 0 rfl) ?_
  refine lv_iload_n hx hb dX12_joins_21 rfl (lv_at hl 1 rfl) ?_
  refine lv_iconst (v := 0) hx hb dX12_joins_22 (by decide) ?_
  refine sg_callVr (As := [.int p1, .int 0]) X I mk_X12_316 (by decide) (by decide) shM_0 rfl (fun q9 e9 => c_X12_of e9) h hl.1 rfl rfl (Nat.le_of_ble_eq_true rfl) dX12_joins_23 (fun v2 H locs h I => ?_)
  refine lv_iload_n hx hb dX12_joins_26 rfl (lv_at hl 3 rfl) ?_
  refine lv_icmp_ne (tgt := 44) hx hb dX12_joins_27 (by decide) (fun z => ?_) (fun z => ?_)
  · have h := sg_iff h z
    refine lv_iconst (v := 0) hx hb dX12_joins_44 (by decide) ?_
    obtain rfl := Option.some.inj h
    exact hk _ _ _ _ _ I ⟨_, rfl, rfl⟩ dX12_joins_45
  · have h := sg_ift h z
    refine lv_aload_n hx hb dX12_joins_30 rfl (lv_at hl 0 rfl) ?_
    refine lv_iload_n hx hb dX12_joins_31 rfl (lv_at hl 1 rfl) ?_
    refine lv_iconst (v := 1) hx hb dX12_joins_32 (by decide) ?_
    refine sg_callVr (As := [.int p1, .int 1]) X I mk_X12_316 (by decide) (by decide) shM_0 rfl (fun q9 e9 => c_X12_of e9) h hl.1 rfl rfl (Nat.le_of_ble_eq_true rfl) dX12_joins_33 (fun v3 H locs h I => ?_)
    refine lv_iload_n hx hb dX12_joins_36 rfl (lv_at hl 2 rfl) ?_
    refine lv_icmp_ne (tgt := 44) hx hb dX12_joins_37 (by decide) (fun z => ?_) (fun z => ?_)
    · have h := sg_iff h z
      refine lv_iconst (v := 0) hx hb dX12_joins_44 (by decide) ?_
      obtain rfl := Option.some.inj h
      exact hk _ _ _ _ _ I ⟨_, rfl, rfl⟩ dX12_joins_45
    · have h := sg_ift h z
      refine lv_iconst (v := 1) hx hb dX12_joins_40 (by decide) ?_
      refine lv_goto (tgt := 45) hx hb dX12_joins_41 (by decide) ?_
      obtain rfl := Option.some.inj h
      exact hk _ _ _ _ _ I ⟨_, rfl, rfl⟩ dX12_joins_45
def f_X12_joins (N : Nat) (p1 : Int32) (p2 : Int32) (p3 : Int32) (σ : sgS) : Option (Int32) :=
  sg_cr (f_X12_of N p1 0 σ) fun v1 =>
if v1 = p2 then
  (sg_cr (f_X12_of N p1 1 σ) fun v4 =>
  if v4 = p3 then
    (some (vp_nar .boolean 1))
  else
    (f_X12_joins_B20 N p1 p2 p3 σ))
else
  (f_X12_joins_B20 N p1 p2 p3 σ)
set_option maxHeartbeats 4000000 in
set_option maxRecDepth 100000 in
theorem b_X12_joins {p : Program} {l : Launch} {e : Env} {R : Room} {s : State} {m : MethodId} {args : Array Value} {below : List Frame} {meth : Method} {c : Code} {Q : State → Prop} {P : sgP} {A : Nat → Prop} {N : Nat} {p1 : Int32} {p2 : Int32} {p3 : Int32} {σ : sgS} (X : sg_C P A 2 p R s m args c cX12_joins 4 RX12) {H : Heap} {locs : List Loc} (I : sg_I P shM 35 A s.heap σ H locs) {ls : Array Slot} (hl : lv_has ls 4 [(0, .ref (sgA P 0)), (1, .int p1), (2, .int p2), (3, .int p3)]) {st : Int32} (h : f_X12_joins N p1 p2 p3 σ = some st) (hk : sg_Ri p l e R s m args below meth c Q P shM 35 A cX12_joins (some .boolean) (st, σ)) : W p l e R s m args below meth c H locs 0 0 Q (F0 m 0 ls []) := by
  unfold f_X12_joins at h
  have hx := X.1.1
  have hb := X.1.2.1
  have hown := X.1.2.2.2.1
  have hts := X.1.2.2.2.2
  refine lv_aload_n hx hb dX12_joins_0 rfl (lv_at hl 0 rfl) ?_
  refine lv_iload_n hx hb dX12_joins_1 rfl (lv_at hl 1 rfl) ?_
  refine lv_iconst (v := 0) hx hb dX12_joins_2 (by decide) ?_
  refine sg_callVr (As := [.int p1, .int 0]) X I mk_X12_316 (by decide) (by decide) shM_0 rfl (fun q9 e9 => c_X12_of e9) h hl.1 rfl rfl (Nat.le_of_ble_eq_true rfl) dX12_joins_3 (fun v1 H locs h I => ?_)
  refine lv_iload_n hx hb dX12_joins_6 rfl (lv_at hl 2 rfl) ?_
  refine lv_icmp_ne (tgt := 20) hx hb dX12_joins_7 (by decide) (fun z => ?_) (fun z => ?_)
  · have h := sg_iff h z
    exact b_X12_joins_B20 X I (lv_sub hl [0, 1, 2, 3] rfl) h hk
  · have h := sg_ift h z
    refine lv_aload_n hx hb dX12_joins_10 rfl (lv_at hl 0 rfl) ?_
    refine lv_iload_n hx hb dX12_joins_11 rfl (lv_at hl 1 rfl) ?_
    refine lv_iconst (v := 1) hx hb dX12_joins_12 (by decide) ?_
    refine sg_callVr (As := [.int p1, .int 1]) X I mk_X12_316 (by decide) (by decide) shM_0 rfl (fun q9 e9 => c_X12_of e9) h hl.1 rfl rfl (Nat.le_of_ble_eq_true rfl) dX12_joins_13 (fun v4 H locs h I => ?_)
    refine lv_iload_n hx hb dX12_joins_16 rfl (lv_at hl 3 rfl) ?_
    refine lv_icmp_eq (tgt := 40) hx hb dX12_joins_17 (by decide) (fun z => ?_) (fun z => ?_)
    · have h := sg_ift h z
      refine lv_iconst (v := 1) hx hb dX12_joins_40 (by decide) ?_
      refine lv_goto (tgt := 45) hx hb dX12_joins_41 (by decide) ?_
      obtain rfl := Option.some.inj h
      exact hk _ _ _ _ _ I ⟨_, rfl, rfl⟩ dX12_joins_45
    · have h := sg_iff h z
      exact b_X12_joins_B20 X I (lv_sub hl [0, 1, 2, 3] rfl) h hk
set_option maxHeartbeats 4000000 in
set_option maxRecDepth 100000 in
theorem c_X12_joins {l : Launch} {P : sgP} {N : Nat} {p1 : Int32} {p2 : Int32} {p3 : Int32} {σ : sgS} {q : Int32} (h : f_X12_joins N p1 p2 p3 σ = some q) : sg_Mi P shM 35 l yX12_joins cX12_joins 4 (some .boolean) 2 [.ref (sgA P 0), .int p1, .int p2, .int p3] σ (q, σ) := by
  refine sg_mki (plainFor_of_name (by decide +kernel)) (Nat.le_of_ble_eq_true rfl) ?_
  intro p e R s m args below meth c Q A ls H locs X I hl hk
  exact b_X12_joins X I hl h hk
def f_X12_longBy (N : Nat) (p1 : Int32) (σ : sgS) : Option (Int32 × sgS) :=
  sg_cr (f_X12_of N p1 2 σ) fun v1 =>
sg_cr (f_X12_of N p1 3 σ) fun v2 =>
sg_nz 4 (
  if (σ.1 0 36) = ((-1)) then
    (some ((if (1 : Int32) < ((if (v1 + (v2 / 4)) < 24 then (v1 + (v2 / 4)) else 24)) then ((if (v1 + (v2 / 4)) < 24 then (v1 + (v2 / 4)) else 24)) else 1), σ))
  else
    (sg_cr (f_X12_of N p1 2 σ) fun v3 =>
    sg_st σ 9 6 0 v3 fun s4 =>
    sg_cr (f_X12_of N p1 3 s4) fun v5 =>
    sg_st s4 9 6 1 v5 fun s6 =>
    sg_ld s6 21 215 (12 + p1) fun v7 =>
    sg_st s6 9 6 2 v7 fun s8 =>
    sg_cr (f_X12_of N p1 0 s8) fun v9 =>
    sg_ld s8 16 7 v9 fun v10 =>
    sg_cr (f_X12_of N p1 1 s8) fun v11 =>
    sg_ld s8 16 7 v11 fun v12 =>
    sg_st s8 9 6 3 (v10 + v12) fun s13 =>
    sg_ld s13 21 215 31 fun v14 =>
    sg_cr (f_J6_bitCount_0f7a4 N v14 s13) fun v15 =>
    sg_st s13 9 6 4 v15 fun s16 =>
    sg_ld s16 21 215 33 fun v17 =>
    sg_nz 100 (
      sg_st s16 9 6 5 (v17 - v17 / 100 * 100) fun s18 =>
      sg_cl (f_X12_worthOf N (s18.1 0 36) s18) fun v19 s20 =>
      some ((if (1 : Int32) < ((if v19 < 24 then v19 else 24)) then ((if v19 < 24 then v19 else 24)) else 1), s20))))
set_option maxHeartbeats 4000000 in
set_option maxRecDepth 100000 in
theorem b_X12_longBy {p : Program} {l : Launch} {e : Env} {R : Room} {s : State} {m : MethodId} {args : Array Value} {below : List Frame} {meth : Method} {c : Code} {Q : State → Prop} {P : sgP} {A : Nat → Prop} {N : Nat} {p1 : Int32} {σ : sgS} (X : sg_C P A 6 p R s m args c cX12_longBy 3 RX12) {H : Heap} {locs : List Loc} (I : sg_I P shM 35 A s.heap σ H locs) {ls : Array Slot} (hl : lv_has ls 3 [(0, .ref (sgA P 0)), (1, .int p1)]) {st : Int32 × sgS} (h : f_X12_longBy N p1 σ = some st) (hk : sg_Ri p l e R s m args below meth c Q P shM 35 A cX12_longBy (some .int) st) : W p l e R s m args below meth c H locs 0 0 Q (F0 m 0 ls []) := by
  unfold f_X12_longBy at h
  have hx := X.1.1
  have hb := X.1.2.1
  have hown := X.1.2.2.2.1
  have hts := X.1.2.2.2.2
  refine lv_aload_n hx hb dX12_longBy_0 rfl (lv_at hl 0 rfl) ?_
  refine lv_iload_n hx hb dX12_longBy_1 rfl (lv_at hl 1 rfl) ?_
  refine lv_iconst (v := 2) hx hb dX12_longBy_2 (by decide) ?_
  refine sg_callVr (As := [.int p1, .int 2]) X I mk_X12_316 (by decide) (by decide) shM_0 rfl (fun q9 e9 => c_X12_of e9) h hl.1 rfl rfl (Nat.le_of_ble_eq_true rfl) dX12_longBy_3 (fun v1 H locs h I => ?_)
  refine lv_aload_n hx hb dX12_longBy_6 rfl (lv_at hl 0 rfl) ?_
  refine lv_iload_n hx hb dX12_longBy_7 rfl (lv_at hl 1 rfl) ?_
  refine lv_iconst (v := 3) hx hb dX12_longBy_8 (by decide) ?_
  refine sg_callVr (As := [.int p1, .int 3]) X I mk_X12_316 (by decide) (by decide) shM_0 rfl (fun q9 e9 => c_X12_of e9) h hl.1 rfl rfl (Nat.le_of_ble_eq_true rfl) dX12_longBy_9 (fun v2 H locs h I => ?_)
  refine lv_iconst (v := 4) hx hb dX12_longBy_12 (by decide) ?_
  refine sg_nzW (h := h) (fun z h => ?_)
  refine lv_idiv hx hb dX12_longBy_13 z ?_
  refine lv_iadd hx hb dX12_longBy_14 ?_
  refine lv_istore_n (lv' := [(2, .int (v1 + (v2 / 4))), (0, .ref (sgA P 0)), (1, .int p1)]) hx hb dX12_longBy_15 rfl hl (by decide) rfl (fun ls hl => ?_)
  refine lv_aload_n hx hb dX12_longBy_16 rfl (lv_at hl 1 rfl) ?_
  refine sg_geti X I fk_X12_76 (by decide) shM_0 rfl dX12_longBy_17 ?_
  refine lv_iconst (v := -1) hx hb dX12_longBy_20 (by decide) ?_
  refine lv_icmp_eq (tgt := 133) hx hb dX12_longBy_21 (by decide) (fun z => ?_) (fun z => ?_)
  · have h := sg_ift h z
    refine lv_iconst (v := 1) hx hb dX12_longBy_133 (by decide) ?_
    refine lv_bipush (v := 24) hx hb dX12_longBy_134 (by decide) ?_
    refine lv_iload_n hx hb dX12_longBy_136 rfl (lv_at hl 0 rfl) ?_
    refine sg_mmin X hl.1 (by first | decide | omega) qw_754 qw_289 qw_286 qw_290 (Nat.le_of_ble_eq_true rfl) dX12_longBy_137 ?_
    refine sg_mmax X hl.1 (by first | decide | omega) qw_755 qw_285 qw_286 qw_287 (Nat.le_of_ble_eq_true rfl) dX12_longBy_140 ?_
    obtain rfl := Option.some.inj h
    exact hk _ _ _ _ _ I ⟨_, rfl, rfl⟩ dX12_longBy_143
  · have h := sg_iff h z
    refine lv_aload_n hx hb dX12_longBy_24 rfl (lv_at hl 1 rfl) ?_
    refine sg_getr X I fk_X12_34 (j := 9) (by decide) shM_0 rfl dX12_longBy_25 ?_
    refine lv_iconst (v := 0) hx hb dX12_longBy_28 (by decide) ?_
    refine lv_aload_n hx hb dX12_longBy_29 rfl (lv_at hl 1 rfl) ?_
    refine lv_iload_n hx hb dX12_longBy_30 rfl (lv_at hl 2 rfl) ?_
    refine lv_iconst (v := 2) hx hb dX12_longBy_31 (by decide) ?_
    refine sg_callVr (As := [.int p1, .int 2]) X I mk_X12_316 (by decide) (by decide) shM_0 rfl (fun q9 e9 => c_X12_of e9) h hl.1 rfl rfl (Nat.le_of_ble_eq_true rfl) dX12_longBy_32 (fun v3 H locs h I => ?_)
    refine sg_iast X I (by decide) shM_9 h dX12_longBy_35 (fun s4 H locs h I => ?_)
    refine lv_aload_n hx hb dX12_longBy_36 rfl (lv_at hl 1 rfl) ?_
    refine sg_getr X I fk_X12_34 (j := 9) (by decide) shM_0 rfl dX12_longBy_37 ?_
    refine lv_iconst (v := 1) hx hb dX12_longBy_40 (by decide) ?_
    refine lv_aload_n hx hb dX12_longBy_41 rfl (lv_at hl 1 rfl) ?_
    refine lv_iload_n hx hb dX12_longBy_42 rfl (lv_at hl 2 rfl) ?_
    refine lv_iconst (v := 3) hx hb dX12_longBy_43 (by decide) ?_
    refine sg_callVr (As := [.int p1, .int 3]) X I mk_X12_316 (by decide) (by decide) shM_0 rfl (fun q9 e9 => c_X12_of e9) h hl.1 rfl rfl (Nat.le_of_ble_eq_true rfl) dX12_longBy_44 (fun v5 H locs h I => ?_)
    refine sg_iast X I (by decide) shM_9 h dX12_longBy_47 (fun s6 H locs h I => ?_)
    refine lv_aload_n hx hb dX12_longBy_48 rfl (lv_at hl 1 rfl) ?_
    refine sg_getr X I fk_X12_34 (j := 9) (by decide) shM_0 rfl dX12_longBy_49 ?_
    refine lv_iconst (v := 2) hx hb dX12_longBy_52 (by decide) ?_
    refine lv_aload_n hx hb dX12_longBy_53 rfl (lv_at hl 1 rfl) ?_
    refine sg_getr X I fk_X12_70 (j := 21) (by decide) shM_0 rfl dX12_longBy_54 ?_
    refine lv_bipush (v := 12) hx hb dX12_longBy_57 (by decide) ?_
    refine lv_iload_n hx hb dX12_longBy_59 rfl (lv_at hl 2 rfl) ?_
    refine lv_iadd hx hb dX12_longBy_60 ?_
    refine sg_iald X I (by decide) shM_21 h dX12_longBy_61 (fun v7 h => ?_)
    refine sg_iast X I (by decide) shM_9 h dX12_longBy_62 (fun s8 H locs h I => ?_)
    refine lv_aload_n hx hb dX12_longBy_63 rfl (lv_at hl 1 rfl) ?_
    refine sg_getr X I fk_X12_34 (j := 9) (by decide) shM_0 rfl dX12_longBy_64 ?_
    refine lv_iconst (v := 3) hx hb dX12_longBy_67 (by decide) ?_
    refine lv_aload_n hx hb dX12_longBy_68 rfl (lv_at hl 1 rfl) ?_
    refine sg_getr X I fk_X12_55 (j := 16) (by decide) shM_0 rfl dX12_longBy_69 ?_
    refine lv_aload_n hx hb dX12_longBy_72 rfl (lv_at hl 1 rfl) ?_
    refine lv_iload_n hx hb dX12_longBy_73 rfl (lv_at hl 2 rfl) ?_
    refine lv_iconst (v := 0) hx hb dX12_longBy_74 (by decide) ?_
    refine sg_callVr (As := [.int p1, .int 0]) X I mk_X12_316 (by decide) (by decide) shM_0 rfl (fun q9 e9 => c_X12_of e9) h hl.1 rfl rfl (Nat.le_of_ble_eq_true rfl) dX12_longBy_75 (fun v9 H locs h I => ?_)
    refine sg_iald X I (by decide) shM_16 h dX12_longBy_78 (fun v10 h => ?_)
    refine lv_aload_n hx hb dX12_longBy_79 rfl (lv_at hl 1 rfl) ?_
    refine sg_getr X I fk_X12_55 (j := 16) (by decide) shM_0 rfl dX12_longBy_80 ?_
    refine lv_aload_n hx hb dX12_longBy_83 rfl (lv_at hl 1 rfl) ?_
    refine lv_iload_n hx hb dX12_longBy_84 rfl (lv_at hl 2 rfl) ?_
    refine lv_iconst (v := 1) hx hb dX12_longBy_85 (by decide) ?_
    refine sg_callVr (As := [.int p1, .int 1]) X I mk_X12_316 (by decide) (by decide) shM_0 rfl (fun q9 e9 => c_X12_of e9) h hl.1 rfl rfl (Nat.le_of_ble_eq_true rfl) dX12_longBy_86 (fun v11 H locs h I => ?_)
    refine sg_iald X I (by decide) shM_16 h dX12_longBy_89 (fun v12 h => ?_)
    refine lv_iadd hx hb dX12_longBy_90 ?_
    refine sg_iast X I (by decide) shM_9 h dX12_longBy_91 (fun s13 H locs h I => ?_)
    refine lv_aload_n hx hb dX12_longBy_92 rfl (lv_at hl 1 rfl) ?_
    refine sg_getr X I fk_X12_34 (j := 9) (by decide) shM_0 rfl dX12_longBy_93 ?_
    refine lv_iconst (v := 4) hx hb dX12_longBy_96 (by decide) ?_
    refine lv_aload_n hx hb dX12_longBy_97 rfl (lv_at hl 1 rfl) ?_
    refine sg_getr X I fk_X12_70 (j := 21) (by decide) shM_0 rfl dX12_longBy_98 ?_
    refine lv_bipush (v := 31) hx hb dX12_longBy_101 (by decide) ?_
    refine sg_iald X I (by decide) shM_21 h dX12_longBy_103 (fun v14 h => ?_)
    refine sg_callSr (As := [.int v14]) X I mk_X12_319 (by decide) (fun q9 e9 => c_J6_bitCount_0f7a4 e9) h hl.1 rfl rfl (Nat.le_of_ble_eq_true rfl) dX12_longBy_104 (fun v15 H locs h I => ?_)
    refine sg_iast X I (by decide) shM_9 h dX12_longBy_107 (fun s16 H locs h I => ?_)
    refine lv_aload_n hx hb dX12_longBy_108 rfl (lv_at hl 1 rfl) ?_
    refine sg_getr X I fk_X12_34 (j := 9) (by decide) shM_0 rfl dX12_longBy_109 ?_
    refine lv_iconst (v := 5) hx hb dX12_longBy_112 (by decide) ?_
    refine lv_aload_n hx hb dX12_longBy_113 rfl (lv_at hl 1 rfl) ?_
    refine sg_getr X I fk_X12_70 (j := 21) (by decide) shM_0 rfl dX12_longBy_114 ?_
    refine lv_bipush (v := 33) hx hb dX12_longBy_117 (by decide) ?_
    refine sg_iald X I (by decide) shM_21 h dX12_longBy_119 (fun v17 h => ?_)
    refine lv_bipush (v := 100) hx hb dX12_longBy_120 (by decide) ?_
    refine sg_nzW (h := h) (fun z h => ?_)
    refine lv_irem hx hb dX12_longBy_122 z ?_
    refine sg_iast X I (by decide) shM_9 h dX12_longBy_123 (fun s18 H locs h I => ?_)
    refine lv_aload_n hx hb dX12_longBy_124 rfl (lv_at hl 1 rfl) ?_
    refine lv_aload_n hx hb dX12_longBy_125 rfl (lv_at hl 1 rfl) ?_
    refine sg_geti X I fk_X12_76 (by decide) shM_0 rfl dX12_longBy_126 ?_
    refine sg_callV (As := [.int (s18.1 0 36)]) X I mk_X12_324 (by decide) (by decide) shM_0 rfl (fun q9 e9 => c_X12_worthOf e9) h hl.1 rfl rfl (Nat.le_of_ble_eq_true rfl) dX12_longBy_129 (fun v19 s20 H locs h I => ?_)
    refine lv_istore_n (lv' := [(2, .int v19), (0, .ref (sgA P 0)), (1, .int p1)]) hx hb dX12_longBy_132 rfl hl (by decide) rfl (fun ls hl => ?_)
    refine lv_iconst (v := 1) hx hb dX12_longBy_133 (by decide) ?_
    refine lv_bipush (v := 24) hx hb dX12_longBy_134 (by decide) ?_
    refine lv_iload_n hx hb dX12_longBy_136 rfl (lv_at hl 0 rfl) ?_
    refine sg_mmin X hl.1 (by first | decide | omega) qw_754 qw_289 qw_286 qw_290 (Nat.le_of_ble_eq_true rfl) dX12_longBy_137 ?_
    refine sg_mmax X hl.1 (by first | decide | omega) qw_755 qw_285 qw_286 qw_287 (Nat.le_of_ble_eq_true rfl) dX12_longBy_140 ?_
    obtain rfl := Option.some.inj h
    exact hk _ _ _ _ _ I ⟨_, rfl, rfl⟩ dX12_longBy_143
set_option maxHeartbeats 4000000 in
set_option maxRecDepth 100000 in
theorem c_X12_longBy {l : Launch} {P : sgP} {N : Nat} {p1 : Int32} {σ : sgS} {q : Int32 × sgS} (h : f_X12_longBy N p1 σ = some q) : sg_Mi P shM 35 l yX12_longBy cX12_longBy 3 (some .int) 6 [.ref (sgA P 0), .int p1] σ q := by
  refine sg_mki (plainFor_of_name (by decide +kernel)) (Nat.le_of_ble_eq_true rfl) ?_
  intro p e R s m args below meth c Q A ls H locs X I hl hk
  exact b_X12_longBy X I hl h hk
def f_X12_layLongs_L2 (N : Nat) (x1 : Int32) (σ : sgS) : Option ((Int32 × sgS) ⊕ ((sgS × Int32) ⊕ (sgS))) :=
  if (σ.1 0 29) ≤ x1 then
  (some (.inr (.inr σ)))
else
  (sg_cl (f_X12_longBy N x1 σ) fun v1 s2 =>
  sg_st s2 23 12 x1 v1 fun s3 =>
  some (.inr (.inl (s3, x1 + 1))))
set_option maxHeartbeats 4000000 in
set_option maxRecDepth 100000 in
theorem b_X12_layLongs_L2 {p : Program} {l : Launch} {e : Env} {R : Room} {s : State} {m : MethodId} {args : Array Value} {below : List Frame} {meth : Method} {c : Code} {Q : State → Prop} {P : sgP} {A : Nat → Prop} {N : Nat} {x1 : Int32} {σ : sgS} (X : sg_C P A 7 p R s m args c cX12_layLongs 2 RX12) {H : Heap} {locs : List Loc} (I : sg_I P shM 35 A s.heap σ H locs) {ls : Array Slot} (hl : lv_has ls 2 [(0, .ref (sgA P 0)), (1, .int x1)]) {st : (Int32 × sgS) ⊕ ((sgS × Int32) ⊕ (sgS))} (h : f_X12_layLongs_L2 N x1 σ = some st) (hk : sg_k3 (sg_Rv p l e R s m args below meth c Q P shM 35 A cX12_layLongs) (fun x => sg_Wt p l e R s m args below meth c Q P shM 35 A 2 2 x.1 [(0, .ref (sgA P 0)), (1, .int x.2)]) (fun y => sg_Wt p l e R s m args below meth c Q P shM 35 A 2 27 y []) st) : W p l e R s m args below meth c H locs 0 0 Q (F0 m 2 ls []) := by
  unfold f_X12_layLongs_L2 at h
  have hx := X.1.1
  have hb := X.1.2.1
  have hown := X.1.2.2.2.1
  have hts := X.1.2.2.2.2
  refine lv_iload_n hx hb dX12_layLongs_2 rfl (lv_at hl 1 rfl) ?_
  refine lv_aload_n hx hb dX12_layLongs_3 rfl (lv_at hl 0 rfl) ?_
  refine sg_geti X I fk_X12_291 (by decide) shM_0 rfl dX12_layLongs_4 ?_
  refine lv_icmp_ge (tgt := 27) hx hb dX12_layLongs_7 (by decide) (fun z => ?_) (fun z => ?_)
  · have h := sg_ift h z
    obtain rfl := Option.some.inj h
    exact sg_go hk I (lv_sub hl [] rfl)
  · have h := sg_iff h z
    refine lv_aload_n hx hb dX12_layLongs_10 rfl (lv_at hl 0 rfl) ?_
    refine sg_getr X I fk_X12_83 (j := 23) (by decide) shM_0 rfl dX12_layLongs_11 ?_
    refine lv_iload_n hx hb dX12_layLongs_14 rfl (lv_at hl 1 rfl) ?_
    refine lv_aload_n hx hb dX12_layLongs_15 rfl (lv_at hl 0 rfl) ?_
    refine lv_iload_n hx hb dX12_layLongs_16 rfl (lv_at hl 1 rfl) ?_
    refine sg_callV (As := [.int x1]) X I mk_X12_331 (by decide) (by decide) shM_0 rfl (fun q9 e9 => c_X12_longBy e9) h hl.1 rfl rfl (Nat.le_of_ble_eq_true rfl) dX12_layLongs_17 (fun v1 s2 H locs h I => ?_)
    refine sg_iast X I (by decide) shM_23 h dX12_layLongs_20 (fun s3 H locs h I => ?_)
    refine lv_iinc (v := x1 + 1) (lv' := [(1, .int (x1 + 1)), (0, .ref (sgA P 0))]) hx hb dX12_layLongs_21 hl (k := 1) rfl rfl (by decide) rfl (fun ls hl => ?_)
    refine lv_goto (tgt := 2) hx hb dX12_layLongs_24 (by decide) ?_
    obtain rfl := Option.some.inj h
    exact sg_go hk I (lv_sub hl [1, 0] rfl)
def f_X12_layLongs (N : Nat) (σ : sgS) : Option (Int32 × sgS) :=
  sg_lb (sg_lp (fun x => f_X12_layLongs_L2 N x.2 x.1) N ((σ, 0))) (fun r => some r) fun y4 =>
some (0, y4)
set_option maxHeartbeats 4000000 in
set_option maxRecDepth 100000 in
theorem b_X12_layLongs {p : Program} {l : Launch} {e : Env} {R : Room} {s : State} {m : MethodId} {args : Array Value} {below : List Frame} {meth : Method} {c : Code} {Q : State → Prop} {P : sgP} {A : Nat → Prop} {N : Nat} {σ : sgS} (X : sg_C P A 7 p R s m args c cX12_layLongs 2 RX12) {H : Heap} {locs : List Loc} (I : sg_I P shM 35 A s.heap σ H locs) {ls : Array Slot} (hl : lv_has ls 2 [(0, .ref (sgA P 0))]) {st : Int32 × sgS} (h : f_X12_layLongs N σ = some st) (hk : sg_Rv p l e R s m args below meth c Q P shM 35 A cX12_layLongs st) : W p l e R s m args below meth c H locs 0 0 Q (F0 m 0 ls []) := by
  unfold f_X12_layLongs at h
  have hx := X.1.1
  have hb := X.1.2.1
  have hown := X.1.2.2.2.1
  have hts := X.1.2.2.2.2
  refine lv_iconst (v := 0) hx hb dX12_layLongs_0 (by decide) ?_
  refine lv_istore_n (lv' := [(1, .int 0), (0, .ref (sgA P 0))]) hx hb dX12_layLongs_1 rfl hl (by decide) rfl (fun ls hl => ?_)
  obtain ⟨res, e9, k9⟩ := sg_lb_some h
  refine sg_go (sg_lp_W (a := (sg_Rv p l e R s m args below meth c Q P shM 35 A cX12_layLongs)) (w := (fun x => sg_Wt p l e R s m args below meth c Q P shM 35 A 2 2 x.1 [(0, .ref (sgA P 0)), (1, .int x.2)])) (c := (fun y => sg_Wt p l e R s m args below meth c Q P shM 35 A 2 27 y [])) (fun x st hb9 hk9 => ?_) N ((σ, 0)) res e9 (sg_k2_mono k9 (fun r h => ?_) (fun y4 h => ?_))) I (lv_sub hl [1, 0] rfl)
  · intro H locs ls I hl
    exact b_X12_layLongs_L2 X I hl hb9 hk9
  · obtain rfl := Option.some.inj h
    exact hk
  · intro H locs ls I hl
    obtain rfl := Option.some.inj h
    exact hk _ _ _ _ I dX12_layLongs_27
set_option maxHeartbeats 4000000 in
set_option maxRecDepth 100000 in
theorem c_X12_layLongs {l : Launch} {P : sgP} {N : Nat} {σ : sgS} {q : Int32 × sgS} (h : f_X12_layLongs N σ = some q) : sg_Mv P shM 35 l yX12_layLongs cX12_layLongs 2 none 7 [.ref (sgA P 0)] σ q := by
  refine sg_mkv (plainFor_of_name (by decide +kernel)) (Nat.le_of_ble_eq_true rfl) ?_
  intro p e R s m args below meth c Q A ls H locs X I hl hk
  exact b_X12_layLongs X I hl h hk
