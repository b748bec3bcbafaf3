/-! calls, and how a method's contract comes of its walk -/
def sg_cr {α : Type} (r : Option Int32) (K : Int32 → Option α) : Option α := match r with
  | none => none
  | some v => K v
/-- the words of a call: of an instance's method, of a static one -/
def sg_Y (y : MethodName) (np : Nat) : Prop := y.cls ≠ "java/lang/invoke/MethodHandle" ∧ y.cls ≠ "java/lang/invoke/VarHandle" ∧ (parseMethodDescriptor y.desc).map (fun d => d.parameters.length) = some np
def sg_V (own : String) (index : Nat) (C : String) (y : MethodName) (bytes : ByteArray) (mL : Nat) (ret : Option FieldType) (np : Nat) : Prop :=
  sg_Y y np ∧ Cond.methodLink own index y ∈ wsL_law ∧ Cond.instanceMethod y ∈ wsL_law ∧ Cond.selects C y y ∈ wsL_law ∧ Cond.initialized y.cls ∈ wsL_law ∧ Cond.code y bytes mL ret ∈ wsL_law ∧ mL ≤ 41
def sg_Sw (own : String) (index : Nat) (y : MethodName) (bytes : ByteArray) (mL : Nat) (ret : Option FieldType) (np : Nat) : Prop :=
  sg_Y y np ∧ Cond.methodLink own index y ∈ wsL_law ∧ Cond.static y ∈ wsL_law ∧ Cond.initialized y.cls ∈ wsL_law ∧ Cond.code y bytes mL ret ∈ wsL_law ∧ mL ≤ 41
theorem sg_blind {P : sgP} {sh : Nat → sgE} {n : Nat} {σ : sgS} {sz : Nat} {av : List Value} : FrameBlind (va_Pc av (sg_Pre P sh n σ sz)) := fun a U g mk q => by
  obtain ⟨q0, q1, q2, q3, q4, q5, q6⟩ := q
  exact ⟨q0, q1, q2, q3, va_K.moved (u := U) (U := U.calling g mk a) (Vm.Alike.refl U.vm) q4, sg_N_calling q5, sg_ST_calling q6⟩
section CAL
variable {p : Program} {l : Launch} {e : Env} {R : Room} {s : State} {m : MethodId} {args : Array Value} {below : List Frame} {meth : Method} {c : Code} {H : Heap} {locs : List Loc} {cells slots : Nat} {Q : State → Prop}
variable {cc : ByteArray} {pc nL kk0 : Nat} {own : String} {ls : Array Slot} {rest : List Value} {P : sgP} {sh : Nat → sgE} {n : Nat} {A : Nat → Prop} {σ : sgS} {α : Type} {st : α}
theorem sg_preU {av : List Value} (X : sg_C P A kk0 p R s m args c cc nL own) (I : sg_I P sh n A s.heap σ H locs) : ∀ U : State, U.heap = H → s.WarmedH U.vm → va_Pc av (sg_Pre P sh n σ H.size) av.toArray U := fun U hU hW =>
  ⟨rfl, by rw [hU], by rw [hU]; exact I.1, I.2.1.weaken (fun _ _ _ _ => trivial), va_K.moved hW.alike X.2.1, sg_N_warm X.2.2.2.1 hW, by rw [hU]; exact sg_ST_go X.2.2.2.2.1 hW I.2.2 (sg_A_sub I.2.1 I.2.2 X.2.2.1)⟩
theorem sg_fix (X : sg_C P A kk0 p R s m args c cc nL own) {lev mL : Nat} (hlev : lev < kk0) (hm : mL ≤ 41) : (sg_rm lev).frames + 1 ≤ R.frames ∧ 8 + (mL + 11) + (sg_rm lev).locals ≤ R.locals := by
  have h1 := X.2.2.2.2.2.1
  have h2 := X.2.2.2.2.2.2
  refine ⟨by show lev + 1 ≤ R.frames; omega, by show 8 + (mL + 11) + 60 * lev ≤ R.locals; omega⟩
theorem sg_runV (X : sg_C P A kk0 p R s m args c cc nL own) (I : sg_I P sh n A s.heap σ H locs) (hcel : cells ≤ R.cells) (hslo : slots ≤ R.slots) {index : Nat} {C : String} {y : MethodName} {bytes : ByteArray} {mL np : Nat} {ret : Option FieldType} (V : sg_V own index C y bytes mL ret np) {lev : Nat} (hlev : lev < kk0) {i ci N : Nat} {T : u_T} {ks : List Nat} (hi : i < n) (hsh : sh i = .inl (ci, ks)) (hc : vwCl[ci]? = some (C, T, N)) {As stk : List Value}
    {Qc : Array Value → State → Outcome → State → Prop} (hM : Met l y (Cond.code y bytes mL ret :: wsL_law) (sg_rm lev) (va_Pc (.ref (sgA P i) :: As) (sg_Pre P sh n σ H.size)) Qc 0 0 (sg_A P n H.size))
    (hls : ls.size = nL) (hn : As.length = np) (hst : stk = As.reverse ++ .ref (sgA P i) :: rest) (hrest : (rest.map fun v => v.category).sum ≤ 8) (hdg : decode cc pc = .ok (.invokevirtual index, 3)) :
    va_Run p l e R s m args below meth c H locs cells slots 0 0 (F0 m pc ls stk) rest (Qc (Value.ref (sgA P i) :: As).toArray) (sg_A P n H.size) := by
  obtain ⟨hy, h1, h2, h3, h4, h5, h6⟩ := V
  have hts := X.1.2.2.2.2
  exact va_runV (As := As) (rest := rest) X.1 hM ⟨callB_of np hts (sg_goodIn h5) rfl rfl rfl (hts _ h4) (hts _ h1) hy (sg_fix X hlev h6), hts _ h2, hts _ h3⟩ ⟨sg_blind, va_recv X.2.1 I.1 hc (sg_obj hi hsh), sg_preU X I⟩ rfl hn hls hst (lv_room hrest) hdg ⟨hcel, hslo⟩
theorem sg_runS (X : sg_C P A kk0 p R s m args c cc nL own) (I : sg_I P sh n A s.heap σ H locs) (hcel : cells ≤ R.cells) (hslo : slots ≤ R.slots) {index : Nat} {y : MethodName} {bytes : ByteArray} {mL np : Nat} {ret : Option FieldType} (V : sg_Sw own index y bytes mL ret np) {lev : Nat} (hlev : lev < kk0) {As stk : List Value}
    {Qc : Array Value → State → Outcome → State → Prop} (hM : Met l y (Cond.code y bytes mL ret :: wsL_law) (sg_rm lev) (va_Pc As (sg_Pre P sh n σ H.size)) Qc 0 0 (sg_A P n H.size))
    (hls : ls.size = nL) (hn : As.length = np) (hst : stk = As.reverse ++ rest) (hrest : (rest.map fun v => v.category).sum ≤ 8) (hdg : decode cc pc = .ok (.invokestatic index, 3)) :
    va_Run p l e R s m args below meth c H locs cells slots 0 0 (F0 m pc ls stk) rest (Qc As.toArray) (sg_A P n H.size) := by
  obtain ⟨hy, h1, h2, h4, h5, h6⟩ := V
  have hts := X.1.2.2.2.2
  exact va_runS (As := As) (rest := rest) X.1 hM ⟨callB_of np hts (sg_goodIn h5) rfl rfl rfl (hts _ h4) (hts _ h1) hy (sg_fix X hlev h6), hts _ h2⟩ ⟨sg_blind, sg_preU X I⟩ rfl hn hls hst (lv_room hrest) hdg ⟨hcel, hslo⟩
theorem sg_behi (X : sg_C P A kk0 p R s m args c cc nL own) (I : sg_I P sh n A s.heap σ H locs) {av : Array Value} {q : Int32 × sgS} {st0 : List Value} (hr : va_Run p l e R s m args below meth c H locs 0 0 0 0 (F0 m pc ls st0) rest (va_Qi (fun r u => r = q.1 ∧ u = q.2) (fun (u : sgS) t => va_P (sgD P) vwCl (sg_w P sh n u) t.heap) (sg_A P n H.size) av) (sg_A P n H.size))
    (kk : ∀ (H : Heap) (locs : List Loc), sg_I P sh n A s.heap q.2 H locs → W p l e R s m args below meth c H locs 0 0 Q (F0 m (pc + 3) ls (.int q.1 :: rest))) : W p l e R s m args below meth c H locs 0 0 Q (F0 m pc ls st0) := by
  have hsub := sg_A_sub I.2.1 I.2.2 X.2.2.1
  refine va_calli hr I.2.2 (fun q _ h => hsub q h) hsub (fun r u t H1 locs1 ht hvm hw hB hz hk hS => ?_)
  obtain ⟨rfl, rfl⟩ := hw
  rw [ht] at hB
  exact kk H1 locs1 ⟨hB, sg_D _ I.2.1, hS⟩
theorem sg_behv (X : sg_C P A kk0 p R s m args c cc nL own) (I : sg_I P sh n A s.heap σ H locs) {av : Array Value} {q : Int32 × sgS} {st0 : List Value} (hr : va_Run p l e R s m args below meth c H locs 0 0 0 0 (F0 m pc ls st0) rest (va_Qv (fun u => u = q.2) (fun (u : sgS) t => va_P (sgD P) vwCl (sg_w P sh n u) t.heap) (sg_A P n H.size) av) (sg_A P n H.size))
    (kk : ∀ (H : Heap) (locs : List Loc), sg_I P sh n A s.heap q.2 H locs → W p l e R s m args below meth c H locs 0 0 Q (F0 m (pc + 3) ls rest)) : W p l e R s m args below meth c H locs 0 0 Q (F0 m pc ls st0) := by
  have hsub := sg_A_sub I.2.1 I.2.2 X.2.2.1
  refine va_callv hr I.2.2 (fun q _ h => hsub q h) hsub (fun u t H1 locs1 ht hvm hw hB hz hk hS => ?_)
  obtain rfl := hw
  rw [ht] at hB
  exact kk H1 locs1 ⟨hB, sg_D _ I.2.1, hS⟩
theorem sg_callV (X : sg_C P A kk0 p R s m args c cc nL own) (I : sg_I P sh n A s.heap σ H locs) {index : Nat} {C : String} {y : MethodName} {bytes : ByteArray} {mL np : Nat} {ret : Option FieldType} (V : sg_V own index C y bytes mL ret np) {lev : Nat} (hlev : lev < kk0) {i ci N : Nat} {T : u_T} {ks : List Nat} (hi : i < n) (hsh : sh i = .inl (ci, ks)) (hc : vwCl[ci]? = some (C, T, N)) {As stk : List Value} {r : Option (Int32 × sgS)}
    (hM : ∀ q, r = some q → sg_Mi P sh n l y bytes mL ret lev (.ref (sgA P i) :: As) σ q) {K : Int32 → sgS → Option α} (h : sg_cl r K = some st) (hls : ls.size = nL) (hn : As.length = np) (hst : stk = As.reverse ++ .ref (sgA P i) :: rest) (hrest : (rest.map fun v => v.category).sum ≤ 8) (hdg : decode cc pc = .ok (.invokevirtual index, 3))
    (kk : ∀ (v : Int32) (σ : sgS) (H : Heap) (locs : List Loc), K v σ = some st → sg_I P sh n A s.heap σ H locs → W p l e R s m args below meth c H locs 0 0 Q (F0 m (pc + 3) ls (.int v :: rest))) : W p l e R s m args below meth c H locs 0 0 Q (F0 m pc ls stk) := by
  match r, h, hM with
  | some q, h, hM => exact sg_behi X I (sg_runV X I (Nat.zero_le _) (Nat.zero_le _) V hlev hi hsh hc (hM q rfl H.size) hls hn hst hrest hdg) (fun H1 locs1 I1 => kk q.1 q.2 H1 locs1 h I1)
theorem sg_callVr (X : sg_C P A kk0 p R s m args c cc nL own) (I : sg_I P sh n A s.heap σ H locs) {index : Nat} {C : String} {y : MethodName} {bytes : ByteArray} {mL np : Nat} {ret : Option FieldType} (V : sg_V own index C y bytes mL ret np) {lev : Nat} (hlev : lev < kk0) {i ci N : Nat} {T : u_T} {ks : List Nat} (hi : i < n) (hsh : sh i = .inl (ci, ks)) (hc : vwCl[ci]? = some (C, T, N)) {As stk : List Value} {r : Option Int32}
    (hM : ∀ q, r = some q → sg_Mi P sh n l y bytes mL ret lev (.ref (sgA P i) :: As) σ (q, σ)) {K : Int32 → Option α} (h : sg_cr r K = some st) (hls : ls.size = nL) (hn : As.length = np) (hst : stk = As.reverse ++ .ref (sgA P i) :: rest) (hrest : (rest.map fun v => v.category).sum ≤ 8) (hdg : decode cc pc = .ok (.invokevirtual index, 3))
    (kk : ∀ (v : Int32) (H : Heap) (locs : List Loc), K v = some st → sg_I P sh n A s.heap σ H locs → W p l e R s m args below meth c H locs 0 0 Q (F0 m (pc + 3) ls (.int v :: rest))) : W p l e R s m args below meth c H locs 0 0 Q (F0 m pc ls stk) := by
  match r, h, hM with
  | some q, h, hM => exact sg_behi X I (sg_runV X I (Nat.zero_le _) (Nat.zero_le _) V hlev hi hsh hc (hM q rfl H.size) hls hn hst hrest hdg) (fun H1 locs1 I1 => kk q H1 locs1 h I1)
theorem sg_callVv (X : sg_C P A kk0 p R s m args c cc nL own) (I : sg_I P sh n A s.heap σ H locs) {index : Nat} {C : String} {y : MethodName} {bytes : ByteArray} {mL np : Nat} {ret : Option FieldType} (V : sg_V own index C y bytes mL ret np) {lev : Nat} (hlev : lev < kk0) {i ci N : Nat} {T : u_T} {ks : List Nat} (hi : i < n) (hsh : sh i = .inl (ci, ks)) (hc : vwCl[ci]? = some (C, T, N)) {As stk : List Value} {r : Option (Int32 × sgS)}
    (hM : ∀ q, r = some q → sg_Mv P sh n l y bytes mL ret lev (.ref (sgA P i) :: As) σ q) {K : Int32 → sgS → Option α} (h : sg_cl r K = some st) (hls : ls.size = nL) (hn : As.length = np) (hst : stk = As.reverse ++ .ref (sgA P i) :: rest) (hrest : (rest.map fun v => v.category).sum ≤ 8) (hdg : decode cc pc = .ok (.invokevirtual index, 3))
    (kk : ∀ (v : Int32) (σ : sgS) (H : Heap) (locs : List Loc), K v σ = some st → sg_I P sh n A s.heap σ H locs → W p l e R s m args below meth c H locs 0 0 Q (F0 m (pc + 3) ls rest)) : W p l e R s m args below meth c H locs 0 0 Q (F0 m pc ls stk) := by
  match r, h, hM with
  | some q, h, hM => exact sg_behv X I (sg_runV X I (Nat.zero_le _) (Nat.zero_le _) V hlev hi hsh hc (hM q rfl H.size) hls hn hst hrest hdg) (fun H1 locs1 I1 => kk q.1 q.2 H1 locs1 h I1)
theorem sg_callS (X : sg_C P A kk0 p R s m args c cc nL own) (I : sg_I P sh n A s.heap σ H locs) {index : Nat} {y : MethodName} {bytes : ByteArray} {mL np : Nat} {ret : Option FieldType} (V : sg_Sw own index y bytes mL ret np) {lev : Nat} (hlev : lev < kk0) {As stk : List Value} {r : Option (Int32 × sgS)}
    (hM : ∀ q, r = some q → sg_Mi P sh n l y bytes mL ret lev As σ q) {K : Int32 → sgS → Option α} (h : sg_cl r K = some st) (hls : ls.size = nL) (hn : As.length = np) (hst : stk = As.reverse ++ rest) (hrest : (rest.map fun v => v.category).sum ≤ 8) (hdg : decode cc pc = .ok (.invokestatic index, 3))
    (kk : ∀ (v : Int32) (σ : sgS) (H : Heap) (locs : List Loc), K v σ = some st → sg_I P sh n A s.heap σ H locs → W p l e R s m args below meth c H locs 0 0 Q (F0 m (pc + 3) ls (.int v :: rest))) : W p l e R s m args below meth c H locs 0 0 Q (F0 m pc ls stk) := by
  match r, h, hM with
  | some q, h, hM => exact sg_behi X I (sg_runS X I (Nat.zero_le _) (Nat.zero_le _) V hlev (hM q rfl H.size) hls hn hst hrest hdg) (fun H1 locs1 I1 => kk q.1 q.2 H1 locs1 h I1)
theorem sg_callSr (X : sg_C P A kk0 p R s m args c cc nL own) (I : sg_I P sh n A s.heap σ H locs) {index : Nat} {y : MethodName} {bytes : ByteArray} {mL np : Nat} {ret : Option FieldType} (V : sg_Sw own index y bytes mL ret np) {lev : Nat} (hlev : lev < kk0) {As stk : List Value} {r : Option Int32}
    (hM : ∀ q, r = some q → sg_Mi P sh n l y bytes mL ret lev As σ (q, σ)) {K : Int32 → Option α} (h : sg_cr r K = some st) (hls : ls.size = nL) (hn : As.length = np) (hst : stk = As.reverse ++ rest) (hrest : (rest.map fun v => v.category).sum ≤ 8) (hdg : decode cc pc = .ok (.invokestatic index, 3))
    (kk : ∀ (v : Int32) (H : Heap) (locs : List Loc), K v = some st → sg_I P sh n A s.heap σ H locs → W p l e R s m args below meth c H locs 0 0 Q (F0 m (pc + 3) ls (.int v :: rest))) : W p l e R s m args below meth c H locs 0 0 Q (F0 m pc ls stk) := by
  match r, h, hM with
  | some q, h, hM => exact sg_behi X I (sg_runS X I (Nat.zero_le _) (Nat.zero_le _) V hlev (hM q rfl H.size) hls hn hst hrest hdg) (fun H1 locs1 I1 => kk q H1 locs1 h I1)
theorem sg_callSv (X : sg_C P A kk0 p R s m args c cc nL own) (I : sg_I P sh n A s.heap σ H locs) {index : Nat} {y : MethodName} {bytes : ByteArray} {mL np : Nat} {ret : Option FieldType} (V : sg_Sw own index y bytes mL ret np) {lev : Nat} (hlev : lev < kk0) {As stk : List Value} {r : Option (Int32 × sgS)}
    (hM : ∀ q, r = some q → sg_Mv P sh n l y bytes mL ret lev As σ q) {K : Int32 → sgS → Option α} (h : sg_cl r K = some st) (hls : ls.size = nL) (hn : As.length = np) (hst : stk = As.reverse ++ rest) (hrest : (rest.map fun v => v.category).sum ≤ 8) (hdg : decode cc pc = .ok (.invokestatic index, 3))
    (kk : ∀ (v : Int32) (σ : sgS) (H : Heap) (locs : List Loc), K v σ = some st → sg_I P sh n A s.heap σ H locs → W p l e R s m args below meth c H locs 0 0 Q (F0 m (pc + 3) ls rest)) : W p l e R s m args below meth c H locs 0 0 Q (F0 m pc ls stk) := by
  match r, h, hM with
  | some q, h, hM => exact sg_behv X I (sg_runS X I (Nat.zero_le _) (Nat.zero_le _) V hlev (hM q rfl H.size) hls hn hst hrest hdg) (fun H1 locs1 I1 => kk q.1 q.2 H1 locs1 h I1)
theorem sg_callSvr (X : sg_C P A kk0 p R s m args c cc nL own) (I : sg_I P sh n A s.heap σ H locs) {index : Nat} {y : MethodName} {bytes : ByteArray} {mL np : Nat} {ret : Option FieldType} (V : sg_Sw own index y bytes mL ret np) {lev : Nat} (hlev : lev < kk0) {As stk : List Value} {r : Option Int32}
    (hM : ∀ q, r = some q → sg_Mv P sh n l y bytes mL ret lev As σ (q, σ)) {K : Int32 → Option α} (h : sg_cr r K = some st) (hls : ls.size = nL) (hn : As.length = np) (hst : stk = As.reverse ++ rest) (hrest : (rest.map fun v => v.category).sum ≤ 8) (hdg : decode cc pc = .ok (.invokestatic index, 3))
    (kk : ∀ (v : Int32) (H : Heap) (locs : List Loc), K v = some st → sg_I P sh n A s.heap σ H locs → W p l e R s m args below meth c H locs 0 0 Q (F0 m (pc + 3) ls rest)) : W p l e R s m args below meth c H locs 0 0 Q (F0 m pc ls stk) := by
  match r, h, hM with
  | some q, h, hM => exact sg_behv X I (sg_runS X I (Nat.zero_le _) (Nat.zero_le _) V hlev (hM q rfl H.size) hls hn hst hrest hdg) (fun H1 locs1 I1 => kk q H1 locs1 h I1)
/-- at pc with these locals and this state the walk goes on well -/
def sg_Wt (p : Program) (l : Launch) (e : Env) (R : Room) (s : State) (m : MethodId) (args : Array Value) (below : List Frame) (meth : Method) (c : Code) (Q : State → Prop) (P : sgP) (sh : Nat → sgE) (n : Nat) (A : Nat → Prop) (nL pc : Nat) (σ : sgS) (lv : List (Nat × Value)) : Prop :=
  ∀ (H : Heap) (locs : List Loc) (ls : Array Slot), sg_I P sh n A s.heap σ H locs → lv_has ls nL lv → W p l e R s m args below meth c H locs 0 0 Q (F0 m pc ls [])
/-- where a method returns q: an int, or nothing -/
def sg_Ri (p : Program) (l : Launch) (e : Env) (R : Room) (s : State) (m : MethodId) (args : Array Value) (below : List Frame) (meth : Method) (c : Code) (Q : State → Prop) (P : sgP) (sh : Nat → sgE) (n : Nat) (A : Nat → Prop) (cc : ByteArray) (ret : Option FieldType) (q : Int32 × sgS) : Prop :=
  ∀ (H : Heap) (locs : List Loc) (ls : Array Slot) (pc : Nat) (v : Int32), sg_I P sh n A s.heap q.2 H locs → (∃ ty, ret = some ty ∧ narrow ty (.int v) = .int q.1) → decode cc pc = .ok (.ireturn, 1) → W p l e R s m args below meth c H locs 0 0 Q (F0 m pc ls [.int v])
def sg_Rv (p : Program) (l : Launch) (e : Env) (R : Room) (s : State) (m : MethodId) (args : Array Value) (below : List Frame) (meth : Method) (c : Code) (Q : State → Prop) (P : sgP) (sh : Nat → sgE) (n : Nat) (A : Nat → Prop) (cc : ByteArray) (q : Int32 × sgS) : Prop :=
  ∀ (H : Heap) (locs : List Loc) (ls : Array Slot) (pc : Nat), sg_I P sh n A s.heap q.2 H locs → decode cc pc = .ok (.return_, 1) → W p l e R s m args below meth c H locs 0 0 Q (F0 m pc ls [])
end CAL
theorem sg_zret {p : Program} {l : Launch} {e : Env} {R : Room} {s : State} {m : MethodId} {args : Array Value} {below : List Frame} {meth : Method} {c : Code} {H : Heap} {locs : List Loc} {cells slots : Nat} {cc : ByteArray} {Qc : Array Value → State → Outcome → State → Prop} {free : Addr → Prop} {v v' : Int32} {ty : FieldType} (hexec : p.tables.exec = Jvm.exec) (hb : c.code = cc) (hr : meth.sig.returnType = some ty) (hn : narrow ty (.int v) = .int v')
    (hq : ∀ t : State, t.heap = H → s.WarmedH t.vm → Qc args s (.returned (some (.int v'))) t) (hf : ∀ q ∈ locs, free q.base)
    {pc : Nat} {ls : Array Slot} (hdg : decode cc pc = .ok (.ireturn, 1)) (hlocks : meth.locks = false) : W p l e R s m args below meth c H locs cells slots (MQ below Qc args s cells slots free) (F0 m pc ls [.int v]) := by
  intro T hT X
  obtain ⟨fs, hret, hrun, hended, hW, hframe⟩ := X.leave (v := some (.int v')) (fun h => by rw [hr] at h; cases h)
  have hmeth' : T.vm.method? m = some meth := X.method'
  refine ⟨T.setFrames fs, ?_, .returned (some (.int v')), hrun, hended, hq _ hT hW, locs, ⟨⟨_, rfl⟩, hW, hframe⟩, hf⟩
  jvm_step X.here [X.here.top, hexec, hb, hdg, hmeth', hr, hn]
  (try refine ⟨rfl, ?_⟩); (try refine ⟨rfl, ?_⟩)
  first | (intro acts; rw [hret _ acts rfl rfl rfl]) | rw [hret _ _ rfl rfl rfl]
  exact Steps.refl _
/-- a contract out of a walk, of a method that no native stands for (its class may be one of those in which some are) -/
theorem sg_ofWF {l : Launch} {y : MethodName} {ws ws' : List Cond} {rm : Room} {Pc : Array Value → State → Prop} {Qc : Array Value → State → Outcome → State → Prop} {mc ms : Nat} {free : Addr → Prop} {cc : ByteArray} {maxL : Nat} {ret : Option FieldType}
    (hy : plainFor y = true) (hw : ws = Cond.code y cc maxL ret :: ws')
    (body : ∀ p e s m args below meth c s₁, BodyLoose p l y (headSpec ws rm) cc maxL ret e s m args below meth c s₁ → c.maxLocals = maxL → Pc args s →
      W p l e (headSpec ws rm).room s m args below meth c s.heap [] 0 0 (MQ below Qc args s mc ms free) (entryFrame m args maxL)) : Met l y ws rm Pc Qc mc ms free := by
  refine MetFree.of_bodySF (code := cc) (maxLocals := maxL) (ret := ret) hy ?_ ?_
  · intro args s m h hn
    obtain ⟨meth, c, h1, h2, h3, h4, h5, h6, -, -⟩ := Cond.code_spec hn (atoms_spec (ws := ws) h _ (by rw [hw]; exact List.mem_cons_self))
    exact ⟨meth, c, h1, h2, h3, h4, h5, h6⟩
  · intro p e s m args below meth c s₁ B hml hP _
    have hh0 : s₁.heap = s.heap := by rw [B.state]; rfl
    obtain ⟨t, a1, o, b1, b2, b3⟩ := body p e s m args below meth c s₁ B hml hP s₁ hh0 (Stand.of_body B)
    exact ⟨t, o, a1, b1, b2, ⟨b3.1, b3.2⟩⟩
theorem sg_mki {P : sgP} {sh : Nat → sgE} {n : Nat} {l : Launch} {y : MethodName} {cc : ByteArray} {mL : Nat} {ret : Option FieldType} {k : Nat} {avs : List Value} {σ : sgS} {q : Int32 × sgS} (hy : plainFor y = true) (hav : (lg_sl avs).length ≤ mL)
    (body : ∀ (p : Program) (e : Env) (R : Room) (s : State) (m : MethodId) (args : Array Value) (below : List Frame) (meth : Method) (c : Code) (Q : State → Prop) (A : Nat → Prop) (ls : Array Slot) (H : Heap) (locs : List Loc), sg_C P A k p R s m args c cc mL y.cls → sg_I P sh n A s.heap σ H locs → lv_has ls mL (lv_args 0 avs) → sg_Ri p l e R s m args below meth c Q P sh n A cc ret q → W p l e R s m args below meth c H locs 0 0 Q (F0 m 0 ls [])) :
    sg_Mi P sh n l y cc mL ret k avs σ q := by
  intro sz
  refine sg_ofWF (cc := cc) (maxL := mL) (ret := ret) hy rfl ?_
  intro p e s m args below meth c s₁ B hml hv
  obtain ⟨rfl, rfl, hP, hD, hK, hN, hST⟩ := hv
  have hts := atoms_spec (ws := Cond.code y cc mL ret :: wsL_law) B.pre
  have hown : s.vm.findClass y.cls = some m.cls := findClass_of_methodNamed B.named
  have hlocks := B.notSynchronized
  have hl := lv_entry avs (n := mL) hav
  rw [lg_entry_eq]
  refine body p e (sg_rm k) s m _ below meth c _ (sg_A P n s.heap.size) _ _ _ ⟨⟨B.exec, B.bytes, hml, hown, fun w hw => hts w (List.mem_cons_of_mem _ hw)⟩, hK, fun q h => Or.inr h, hN, hST, Nat.le_refl _, Nat.le_refl _⟩ ⟨hP, sg_A_of hD, va_S.rf⟩ hl ?_
  intro H locs ls pc v I hret hdg
  obtain ⟨ty, hty, hn⟩ := hret
  have hr : meth.sig.returnType = some ty := by rw [B.returns, hty]
  exact sg_zret B.exec B.bytes hr hn (fun t ht hW => ⟨⟨q.1, q.2, rfl, ⟨rfl, rfl⟩, by show va_P (sgD P) vwCl (sg_w P sh n q.2) t.heap; rw [ht]; exact I.1⟩, I.2.2.F ht⟩) I.2.2.2.2 hdg hlocks
theorem sg_mkv {P : sgP} {sh : Nat → sgE} {n : Nat} {l : Launch} {y : MethodName} {cc : ByteArray} {mL : Nat} {k : Nat} {avs : List Value} {σ : sgS} {q : Int32 × sgS} (hy : plainFor y = true) (hav : (lg_sl avs).length ≤ mL)
    (body : ∀ (p : Program) (e : Env) (R : Room) (s : State) (m : MethodId) (args : Array Value) (below : List Frame) (meth : Method) (c : Code) (Q : State → Prop) (A : Nat → Prop) (ls : Array Slot) (H : Heap) (locs : List Loc), sg_C P A k p R s m args c cc mL y.cls → sg_I P sh n A s.heap σ H locs → lv_has ls mL (lv_args 0 avs) → sg_Rv p l e R s m args below meth c Q P sh n A cc q → W p l e R s m args below meth c H locs 0 0 Q (F0 m 0 ls [])) :
    sg_Mv P sh n l y cc mL none k avs σ q := by
  intro sz
  refine sg_ofWF (cc := cc) (maxL := mL) (ret := none) hy rfl ?_
  intro p e s m args below meth c s₁ B hml hv
  obtain ⟨rfl, rfl, hP, hD, hK, hN, hST⟩ := hv
  have hts := atoms_spec (ws := Cond.code y cc mL none :: wsL_law) B.pre
  have hown : s.vm.findClass y.cls = some m.cls := findClass_of_methodNamed B.named
  have hlocks := B.notSynchronized
  have hl := lv_entry avs (n := mL) hav
  rw [lg_entry_eq]
  refine body p e (sg_rm k) s m _ below meth c _ (sg_A P n s.heap.size) _ _ _ ⟨⟨B.exec, B.bytes, hml, hown, fun w hw => hts w (List.mem_cons_of_mem _ hw)⟩, hK, fun q h => Or.inr h, hN, hST, Nat.le_refl _, Nat.le_refl _⟩ ⟨hP, sg_A_of hD, va_S.rf⟩ hl ?_
  intro H locs ls pc I hdg
  exact W.vret B.exec B.bytes B.returns (fun t ht hW => ⟨⟨q.2, rfl, rfl, by show va_P (sgD P) vwCl (sg_w P sh n q.2) t.heap; rw [ht]; exact I.1⟩, I.2.2.F ht⟩) I.2.2.2.2 hdg hlocks
section MTH
variable {p : Program} {l : Launch} {e : Env} {R : Room} {s : State} {m : MethodId} {args : Array Value} {below : List Frame} {meth : Method} {c : Code} {H : Heap} {locs : List Loc} {Q : State → Prop}
variable {cc : ByteArray} {pc nL kk0 : Nat} {own : String} {ls : Array Slot} {rest : List Value} {P : sgP} {sh : Nat → sgE} {n : Nat} {A : Nat → Prop} {σ : sgS}
theorem sg_go {lv : List (Nat × Value)} (h : sg_Wt p l e R s m args below meth c Q P sh n A nL pc σ lv) (I : sg_I P sh n A s.heap σ H locs) (hl : lv_has ls nL lv) : W p l e R s m args below meth c H locs 0 0 Q (F0 m pc ls []) := h H locs ls I hl
theorem sg_mmin (X : sg_C P A kk0 p R s m args c cc nL own) (hls : ls.size = nL) (hk : 0 < kk0) {index : Nat} (h1 : Cond.methodLink own index Lib.Math.min.name ∈ wsL_law) (h2 : Cond.static Lib.Math.min.name ∈ wsL_law) (h3 : Cond.initialized "java/lang/Math" ∈ wsL_law) (h4 : Cond.code Lib.Math.min.name Lib.Math.min.code 2 (some .int) ∈ wsL_law) (hrest : (rest.map fun v => v.category).sum ≤ 8) {x y : Int32} (hdg : decode cc pc = .ok (.invokestatic index, 3))
    (kk : W p l e R s m args below meth c H locs 0 0 Q (F0 m (pc + 3) ls (.int (if y < x then y else x) :: rest))) : W p l e R s m args below meth c H locs 0 0 Q (F0 m pc ls (.int y :: .int x :: rest)) := by
  obtain ⟨⟨hx, hb, hml, hown, hts⟩, -, -, -, -, hr1, hr2⟩ := X
  exact va_mmin hx hb (hml.trans hls.symm) hown (hts _ h1) (hts _ h2) (hts _ h3) (hts _ h4) (Nat.le_trans hk hr1) (by omega) (Nat.zero_le _) (Nat.zero_le _) hdg kk
theorem sg_mmax (X : sg_C P A kk0 p R s m args c cc nL own) (hls : ls.size = nL) (hk : 0 < kk0) {index : Nat} (h1 : Cond.methodLink own index Lib.Math.max.name ∈ wsL_law) (h2 : Cond.static Lib.Math.max.name ∈ wsL_law) (h3 : Cond.initialized "java/lang/Math" ∈ wsL_law) (h4 : Cond.code Lib.Math.max.name Lib.Math.max.code 2 (some .int) ∈ wsL_law) (hrest : (rest.map fun v => v.category).sum ≤ 8) {x y : Int32} (hdg : decode cc pc = .ok (.invokestatic index, 3))
    (kk : W p l e R s m args below meth c H locs 0 0 Q (F0 m (pc + 3) ls (.int (if x < y then y else x) :: rest))) : W p l e R s m args below meth c H locs 0 0 Q (F0 m pc ls (.int y :: .int x :: rest)) := by
  obtain ⟨⟨hx, hb, hml, hown, hts⟩, -, -, -, -, hr1, hr2⟩ := X
  exact va_mmax hx hb (hml.trans hls.symm) hown (hts _ h1) (hts _ h2) (hts _ h3) (hts _ h4) (Nat.le_trans hk hr1) (by omega) (Nat.zero_le _) (Nat.zero_le _) hdg kk
end MTH
theorem sg_nb (v : Int32) : narrow .boolean (.int v) = .int (vp_nar .boolean v) := rfl
/-! the three texts: their bytes, and the JDK's walks over them -/
def sg_sl (i : Nat) : Nat := ([8, 4, 6] : List Nat).getD i 0
def sg_sb (i : Nat) : List Int32 := ([[104, 107, 99, 97, 98, 108, 100, 115], [115, 112, 114, 119], [108, 100, 110, 99, 114, 121]] : List (List Int32)).getD i []
def sg_bt {α : Type} (i : Nat) (x : Int32) (K : Int32 → Option α) : Option α := if x < 0 ∨ sg_sl i ≤ x.toNatClampNeg then none else K ((sg_sb i).getD x.toNatClampNeg 0)
section STR
variable {p : Program} {l : Launch} {e : Env} {R : Room} {s : State} {m : MethodId} {args : Array Value} {below : List Frame} {meth : Method} {c : Code} {H : Heap} {locs : List Loc} {Q : State → Prop}
variable {cc : ByteArray} {pc nL kk0 : Nat} {own : String} {ls : Array Slot} {rest : List Value} {P : sgP} {sh : Nat → sgE} {n : Nat} {A : Nat → Prop} {σ : sgS} {α : Type} {st : α}
theorem sg_ldcs (X : sg_C P A kk0 p R s m args c cc nL own) {index i : Nat} {tx : String} (hZ : vk_R own index tx (sgK P i) s) (hdg : decode cc pc = .ok (.ldc index, 2))
    (kk : W p l e R s m args below meth c H locs 0 0 Q (F0 m (pc + 2) ls (.ref (sgK P i) :: rest))) : W p l e R s m args below meth c H locs 0 0 Q (F0 m pc ls rest) := va_ldcS X.1.1 X.1.2.1 X.1.2.2.2.1 hZ hdg kk
theorem sg_sval (X : sg_C P A kk0 p R s m args c cc nL own) (I : sg_I P sh n A s.heap σ H locs) {index i : Nat} (hi : i < 3) (hl : Cond.fieldLink own index "java/lang/String" "value" "[B" ∈ wsL_law) (hdg : decode cc pc = .ok (.getfield index, 3))
    (kk : W p l e R s m args below meth c H locs 0 0 Q (F0 m (pc + 3) ls (.ref (sgV P i) :: rest))) : W p l e R s m args below meth c H locs 0 0 Q (F0 m pc ls (.ref (sgK P i) :: rest)) :=
  vk_getf X.1.1 X.1.2.1 (X.2.2.2.2.1.2.1.1 i hi).2.2.1 I.2.2 X.1.2.2.2.1 (X.1.2.2.2.2 _ hl) (fun _ h => h) hdg kk
theorem sg_scod (X : sg_C P A kk0 p R s m args c cc nL own) (I : sg_I P sh n A s.heap σ H locs) {index i : Nat} (hi : i < 3) (hl : Cond.fieldLink own index "java/lang/String" "coder" "B" ∈ wsL_law) (hdg : decode cc pc = .ok (.getfield index, 3))
    (kk : W p l e R s m args below meth c H locs 0 0 Q (F0 m (pc + 3) ls (.int 0 :: rest))) : W p l e R s m args below meth c H locs 0 0 Q (F0 m pc ls (.ref (sgK P i) :: rest)) :=
  vk_getf X.1.1 X.1.2.1 (X.2.2.2.2.1.2.1.1 i hi).2.1 I.2.2 X.1.2.2.2.1 (X.1.2.2.2.2 _ hl) (fun _ h => h) hdg kk
theorem sg_slen (X : sg_C P A kk0 p R s m args c cc nL own) (I : sg_I P sh n A s.heap σ H locs) {i : Nat} (hi : i < 3) (hdg : decode cc pc = .ok (.arraylength, 1))
    (kk : W p l e R s m args below meth c H locs 0 0 Q (F0 m (pc + 1) ls (.int (Int32.ofNat (sg_sl i)) :: rest))) : W p l e R s m args below meth c H locs 0 0 Q (F0 m pc ls (.ref (sgV P i) :: rest)) :=
  va_tlen X.1.1 X.1.2.1 (X.2.2.2.2.1.2.1.1 i hi).2.2.2 I.2.2 rfl hdg kk
theorem sg_sbal (X : sg_C P A kk0 p R s m args c cc nL own) (I : sg_I P sh n A s.heap σ H locs) {i : Nat} (hi : i < 3) {x : Int32} {K : Int32 → Option α} (h : sg_bt i x K = some st) (hdg : decode cc pc = .ok (.baload, 1))
    (kk : ∀ v : Int32, K v = some st → W p l e R s m args below meth c H locs 0 0 Q (F0 m (pc + 1) ls (.int v :: rest))) : W p l e R s m args below meth c H locs 0 0 Q (F0 m pc ls (.int x :: .ref (sgV P i) :: rest)) := by
  by_cases hin : x < 0 ∨ sg_sl i ≤ x.toNatClampNeg
  · rw [sg_bt, if_pos hin] at h; cases h
  · rw [sg_bt, if_neg hin] at h
    exact va_tb X.1.1 X.1.2.1 (X.2.2.2.2.1.2.1.1 i hi).2.2.2 I.2.2 hin rfl hdg (kk _ h)
theorem sg_gcs (X : sg_C P A kk0 p R s m args c cc nL own) (I : sg_I P sh n A s.heap σ H locs) {index : Nat} (hl : Cond.fieldLink own index "java/lang/String" "COMPACT_STRINGS" "Z" ∈ wsL_law) (hdg : decode cc pc = .ok (.getstatic index, 3))
    (kk : W p l e R s m args below meth c H locs 0 0 Q (F0 m (pc + 3) ls (.int 1 :: rest))) : W p l e R s m args below meth c H locs 0 0 Q (F0 m pc ls rest) :=
  va_gets X.1.1 X.1.2.1 X.2.2.2.2.1.2.2.2.1 I.2.2 X.1.2.2.2.1 (X.1.2.2.2.2 _ hl) (fun _ h => h) hdg kk
theorem sg_callK (X : sg_C P A kk0 p R s m args c cc nL own) (I : sg_I P sh n A s.heap σ H locs) {index : Nat} {y : MethodName} {bytes : ByteArray} {mL np : Nat} {ret : Option FieldType} (V : sg_V own index "java/lang/String" y bytes mL ret np) {lev : Nat} (hlev : lev < kk0) {i : Nat} (hi : i < 3) {As stk : List Value} {r : Option Int32}
    (hM : ∀ q, r = some q → sg_Mi P sh n l y bytes mL ret lev (.ref (sgK P i) :: As) σ (q, σ)) {K : Int32 → Option α} (h : sg_cr r K = some st) (hls : ls.size = nL) (hn : As.length = np) (hst : stk = As.reverse ++ .ref (sgK P i) :: rest) (hrest : (rest.map fun v => v.category).sum ≤ 8) (hdg : decode cc pc = .ok (.invokevirtual index, 3))
    (kk : ∀ (v : Int32) (H : Heap) (locs : List Loc), K v = some st → sg_I P sh n A s.heap σ H locs → W p l e R s m args below meth c H locs 0 0 Q (F0 m (pc + 3) ls (.int v :: rest))) : W p l e R s m args below meth c H locs 0 0 Q (F0 m pc ls stk) := by
  match r, h, hM with
  | some q, h, hM =>
    obtain ⟨hy, h1, h2, h3, h4, h5, h6⟩ := V
    have hts := X.1.2.2.2.2
    exact sg_behi X I (va_runV (As := As) (rest := rest) X.1 (hM q rfl H.size) ⟨callB_of np hts (sg_goodIn h5) rfl rfl rfl (hts _ h4) (hts _ h1) hy (sg_fix X hlev h6), hts _ h2, hts _ h3⟩ ⟨sg_blind, vk_recv X.2.2.2.2.1.2.1 hi I.2.2, sg_preU X I⟩ rfl hn hls hst (lv_room hrest) hdg ⟨Nat.zero_le _, Nat.zero_le _⟩) (fun H1 locs1 I1 => kk q H1 locs1 h I1)
theorem sg_gfo (X : sg_C P A kk0 p R s m args c cc nL own) (I : sg_I P sh n A s.heap σ H locs) {index : Nat} (hl : Cond.fieldLink own index "jdk/internal/util/Preconditions" "SIOOBE_FORMATTER" "Ljava/util/function/BiFunction;" ∈ wsL_law) (hdg : decode cc pc = .ok (.getstatic index, 3))
    (kk : ∀ v : Value, (v = .null ∨ ∃ t, v = .ref t) → W p l e R s m args below meth c H locs 0 0 Q (F0 m (pc + 3) ls (v :: rest))) : W p l e R s m args below meth c H locs 0 0 Q (F0 m pc ls rest) := by
  rcases X.2.2.2.2.1.2.2.2.2 with hz | ⟨t, hz⟩
  · exact va_gets X.1.1 X.1.2.1 hz I.2.2 X.1.2.2.2.1 (X.1.2.2.2.2 _ hl) (fun _ h => h) hdg (kk _ (Or.inl rfl))
  · exact va_gets X.1.1 X.1.2.1 hz I.2.2 X.1.2.2.2.1 (X.1.2.2.2.2 _ hl) (fun _ h => h) hdg (kk _ (Or.inr ⟨t, rfl⟩))
end STR
