/-! String.length of the three texts: an int, and the heap as it was -/
def sg_Qh (v : Int32) : Array Value → State → Outcome → State → Prop := fun _ st o t => o = .returned (some (.int v)) ∧ t.heap = st.heap
section LEN
variable {p : Program} {l : Launch} {e : Env} {R : Room} {s : State} {m : MethodId} {args : Array Value} {below : List Frame} {meth : Method} {c : Code} {H : Heap} {locs : List Loc} {cells slots : Nat} {Q : State → Prop}
variable {cc : ByteArray} {pc nL kk0 : Nat} {own : String} {ls : Array Slot} {rest : List Value} {P : sgP} {sh : Nat → sgE} {n base : Nat} {A : Nat → Prop} {σ : sgS}
theorem sg_behh {v : Int32} {st0 : List Value} {av : Array Value} (hr : va_Run p l e R s m args below meth c H locs cells slots 0 0 (F0 m pc ls st0) rest (sg_Qh v av) (fun _ => False))
    (kk : W p l e R s m args below meth c H locs cells slots Q (F0 m (pc + 3) ls (.int v :: rest))) : W p l e R s m args below meth c H locs cells slots Q (F0 m pc ls st0) := by
  intro T hT X
  obtain ⟨v', st₀, t, T', L, h0, X', hL, e1, e2, ⟨hv, hh⟩, st⟩ := hr T hT X
  cases hv
  obtain ⟨t2, a1, b1⟩ := kk T' (by rw [e1, hh, h0]) (Stand.forget X' (fun q h => (hL q h).elim))
  exact ⟨t2, st t2 a1, b1⟩
/-- such a contract, called on a text -/
theorem sg_callKh (X : sg_C P A kk0 p R s m args c cc nL own) (I : sg_I P sh n A s.heap σ H locs) (hcel : cells ≤ R.cells) (hslo : slots ≤ R.slots) {index : Nat} {y : MethodName} {bytes : ByteArray} {mL np : Nat} {ret : Option FieldType} (V : sg_V own index "java/lang/String" y bytes mL ret np) {lev : Nat} (hlev : lev < kk0) {i : Nat} (hi : i < 3) {As stk : List Value} {v : Int32}
    (hM : Met l y (Cond.code y bytes mL ret :: wsL_law) (sg_rm lev) (va_Pc (.ref (sgK P i) :: As) (sg_Pre P sh n σ H.size)) (sg_Qh v) 0 0 (fun _ => False)) (hls : ls.size = nL) (hn : As.length = np) (hst : stk = As.reverse ++ .ref (sgK P i) :: rest) (hrest : (rest.map fun v => v.category).sum ≤ 8) (hdg : decode cc pc = .ok (.invokevirtual index, 3))
    (kk : W p l e R s m args below meth c H locs cells slots Q (F0 m (pc + 3) ls (.int v :: rest))) : W p l e R s m args below meth c H locs cells slots Q (F0 m pc ls stk) := by
  obtain ⟨hy, h1, h2, h3, h4, h5, h6⟩ := V
  have hts := X.1.2.2.2.2
  exact sg_behh (va_runV (As := As) (rest := rest) X.1 hM ⟨callB_of np hts (sg_goodIn h5) rfl rfl rfl (hts _ h4) (hts _ h1) hy (sg_fix X hlev h6), hts _ h2, hts _ h3⟩ ⟨sg_blind, vk_recv X.2.2.2.2.1.2.1 hi I.2.2, sg_preU X I⟩ rfl hn hls hst (lv_room hrest) hdg ⟨hcel, hslo⟩) kk
/-- from a walk that leaves the heap alone -/
theorem sg_mkh {y : MethodName} {mL : Nat} {ret : Option FieldType} {k : Nat} {avs : List Value} {v : Int32} {sz : Nat} (hy : plainName y.cls = true) (hav : (lg_sl avs).length ≤ mL)
    (body : ∀ (p : Program) (e : Env) (R : Room) (s : State) (m : MethodId) (args : Array Value) (below : List Frame) (meth : Method) (c : Code) (Q : State → Prop) (A : Nat → Prop) (ls : Array Slot), sg_C P A k p R s m args c cc mL y.cls → sg_I P sh n A s.heap σ s.heap [] → lv_has ls mL (lv_args 0 avs) → (∀ (ls : Array Slot) (pc : Nat) (w : Int32), (∃ ty, ret = some ty ∧ narrow ty (.int w) = .int v) → decode cc pc = .ok (.ireturn, 1) → W p l e R s m args below meth c s.heap [] 0 0 Q (F0 m pc ls [.int w])) → W p l e R s m args below meth c s.heap [] 0 0 Q (F0 m 0 ls [])) :
    Met l y (Cond.code y cc mL ret :: wsL_law) (sg_rm k) (va_Pc avs (sg_Pre P sh n σ sz)) (sg_Qh v) 0 0 (fun _ => False) := by
  refine Met.ofW (cc := cc) (maxL := mL) (ret := ret) hy rfl ?_
  intro p e s m args below meth c s₁ B hml hv
  obtain ⟨rfl, rfl, hP, hD, hK, hN, hST⟩ := hv
  have hts := atoms_spec (ws := Cond.code y cc mL ret :: wsL_law) B.pre
  have hown : s.vm.findClass y.cls = some m.cls := findClass_of_methodNamed B.named
  have hlocks := B.notSynchronized
  have hl := lv_entry avs (n := mL) hav
  rw [lg_entry_eq]
  refine body p e (sg_rm k) s m _ below meth c _ (sg_A P n s.heap.size) _ ⟨⟨B.exec, B.bytes, hml, hown, fun w hw => hts w (List.mem_cons_of_mem _ hw)⟩, hK, fun q h => Or.inr h, hN, hST, Nat.le_refl _, Nat.le_refl _⟩ ⟨hP, sg_A_of hD, va_S.rf⟩ hl ?_
  intro ls pc w hret hdg
  obtain ⟨ty, hty, hn⟩ := hret
  have hr : meth.sig.returnType = some ty := by rw [B.returns, hty]
  exact sg_zret B.exec B.bytes hr hn (fun t ht hW => ⟨rfl, ht⟩) (fun q h => by cases h) hdg hlocks
end LEN
theorem h_J0_coder {l : Launch} {P : sgP} {sh : Nat → sgE} {n : Nat} {σ : sgS} {sz i : Nat} (hi : i < 3) : Met l yJ0_coder_7d493 (Cond.code yJ0_coder_7d493 cJ0_coder_7d493 1 (some .byte) :: wsL_law) (sg_rm 1) (va_Pc [.ref (sgK P i)] (sg_Pre P sh n σ sz)) (sg_Qh 0) 0 0 (fun _ => False) := by
  refine sg_mkh (by decide +kernel) (Nat.le_of_ble_eq_true rfl) ?_
  intro p e R s m args below meth c Q A ls X I hl hk
  have hx := X.1.1
  have hb := X.1.2.1
  refine sg_gcs X I qw_87 dJ0_coder_7d493_0 ?_
  refine lv_if_eq (tgt := 13) hx hb dJ0_coder_7d493_3 (by decide) (fun z => absurd z (by decide)) (fun z => ?_)
  refine lv_aload_n hx hb dJ0_coder_7d493_6 rfl (lv_at hl 0 rfl) ?_
  refine sg_scod X I hi qw_88 dJ0_coder_7d493_7 ?_
  refine lv_goto (tgt := 14) hx hb dJ0_coder_7d493_10 (by decide) ?_
  exact hk _ _ _ ⟨_, rfl, rfl⟩ dJ0_coder_7d493_14
theorem h_J0_length {l : Launch} {P : sgP} {sh : Nat → sgE} {n : Nat} {σ : sgS} {sz i : Nat} (hi : i < 3) : Met l yJ0_length_8abf5 (Cond.code yJ0_length_8abf5 cJ0_length_8abf5 1 (some .int) :: wsL_law) (sg_rm 2) (va_Pc [.ref (sgK P i)] (sg_Pre P sh n σ sz)) (sg_Qh (Int32.ofNat (sg_sl i) >>> ((0 : Int32) &&& 31))) 0 0 (fun _ => False) := by
  refine sg_mkh (by decide +kernel) (Nat.le_of_ble_eq_true rfl) ?_
  intro p e R s m args below meth c Q A ls X I hl hk
  have hx := X.1.1
  have hb := X.1.2.1
  refine lv_aload_n hx hb dJ0_length_8abf5_0 rfl (lv_at hl 0 rfl) ?_
  refine sg_sval X I hi qw_82 dJ0_length_8abf5_1 ?_
  refine sg_slen X I hi dJ0_length_8abf5_4 ?_
  refine lv_aload_n hx hb dJ0_length_8abf5_5 rfl (lv_at hl 0 rfl) ?_
  refine sg_callKh (As := []) X I (Nat.zero_le _) (Nat.zero_le _) mk_J0_335 (by decide) hi (h_J0_coder hi) hl.1 rfl rfl (Nat.le_of_ble_eq_true rfl) dJ0_length_8abf5_6 ?_
  refine lv_ishr hx hb dJ0_length_8abf5_9 ?_
  exact hk _ _ _ ⟨_, rfl, rfl⟩ dJ0_length_8abf5_10
/-! the rows of a constructor over its last shape S, cell i still as x -/
section MK2
variable {p : Program} {l : Launch} {e : Env} {R : Room} {s : State} {m : MethodId} {args : Array Value} {below : List Frame} {meth : Method} {c : Code} {H : Heap} {locs : List Loc} {cells slots : Nat} {Q : State → Prop}
variable {cc : ByteArray} {pc nL kk0 : Nat} {own : String} {ls : Array Slot} {rest : List Value} {P : sgP} {S : Nat → sgE} {x0 : sgE} {n i base : Nat} {A : Nat → Prop} {σ : sgS}
theorem mk_newA (X : sg_C P A kk0 p R s m args c cc nL own) (hb9 : ∀ j, sgA P j = base + j) (J : sg_J P (sg_su S i x0) n A s.heap σ H locs) {atype : ArrayType} {t : Nat} (ht : (t = 0 ∧ atype = .int) ∨ (t = 1 ∧ atype = .boolean)) (hw : Cond.arrayClass (newarray.typeOf atype) ∈ wsL_law) {x : Int32} {N : Nat} (hn : ¬ x < 0) (hN : x.toNatClampNeg = N) (hby : N ≤ 10000) (hi : i ≠ n) (he : S n = .inr (t, N, sg_g0)) (hcells : cells + 1 ≤ R.cells) (hslots : slots + N ≤ R.slots) (hdg : decode cc pc = .ok (.newarray atype, 2))
    (kk : ∀ H : Heap, sg_J P (sg_su S i x0) (n + 1) A s.heap σ H locs → W p l e R s m args below meth c H locs (cells + 1) (slots + N) Q (F0 m (pc + 2) ls (.ref (sgA P n) :: rest))) : W p l e R s m args below meth c H locs cells slots Q (F0 m pc ls (.int x :: rest)) :=
  sg_newA X hb9 J ht hw hn hN hby hcells hslots hdg (fun H J => kk H (sg_J_congr J (fun j hj => by
    by_cases h : j = n
    · subst h; rw [sg_su_at, sg_su_ne (Ne.symm hi), he]
    · rw [sg_su_ne h])))
theorem mk_newM (X : sg_C P A kk0 p R s m args c cc nL own) (hAO : sg_AO s) (hb9 : ∀ j, sgA P j = base + j) (J : sg_J P (sg_su S i x0) n A s.heap σ H locs) {index : Nat} (hw : Cond.classLink own index ("[" ++ (FieldType.array .int).toString) ∈ wsL_law) (hw2 : Cond.arrayClass .int ∈ wsL_law) {x y : Int32} {N K : Nat} (hn : ¬ x < 0) (hk : ¬ y < 0) (hN : x.toNatClampNeg = N) (hK' : y.toNatClampNeg = K) (hby : N ≤ 1000) (hby2 : K ≤ 10000) (hi : i < n) (he : S n = .inr (3, N, fun k => n + 1 + k + 1)) (he2 : ∀ q, n < q → q ≤ n + N → S q = .inr (0, K, sg_g0)) (hcells : cells + (1 + N) ≤ R.cells) (hslots : slots + (N + N * K) ≤ R.slots) (hdg : decode cc pc = .ok (.multianewarray index 2, 4))
    (kk : ∀ H : Heap, sg_J P (sg_su S i x0) (n + 1 + N) A s.heap σ H locs → W p l e R s m args below meth c H locs (cells + 1 + N) (slots + N + N * K) Q (F0 m (pc + 4) ls (.ref (sgA P n) :: rest))) : W p l e R s m args below meth c H locs cells slots Q (F0 m pc ls (.int y :: .int x :: rest)) :=
  sg_newM X hAO hb9 J hw hw2 hn hk hN hK' hby hby2 hcells hslots hdg (fun H J => kk H (sg_J_congr J (fun j hj => by
    unfold sg_sm
    by_cases h : j = n
    · rw [if_pos h, sg_su_ne (by omega), h, he]
    · rw [if_neg h]
      by_cases h2 : n < j ∧ j ≤ n + N
      · rw [if_pos h2, sg_su_ne (by omega), he2 j h2.1 h2.2]
      · rw [if_neg h2])))
theorem mk_putr (X : sg_C P A kk0 p R s m args c cc nL own) (hin9 : meth.name = "<init>") {ci : Nat} {ks ks' : List Nat} (J : sg_J P (sg_su S i (.inl (ci, ks))) n A s.heap σ H locs) {index k j : Nat} (F : sg_F own index ci k) (G : sg_G ci) {ty : FieldType} {C : String} {T : u_T} {N : Nat} (hc : vwCl[ci]? = some (C, T, N)) (hfin : (T k).2.2.2 = true) (hdecl : (T k).1 = own) (hd : parseFieldDescriptor (T k).2.2.1 = some ty) (hn : narrow ty (.ref (sgA P j)) = .ref (sgA P j)) (hf : fits ty (.ref (sgA P j)) = true) (hi : i < n) (hk : k < ks.length) (hks : ks.set k (j + 3) = ks') (hdg : decode cc pc = .ok (.putfield index, 3))
    (kk : ∀ (H : Heap) (locs : List Loc), sg_J P (sg_su S i (.inl (ci, ks'))) n A s.heap σ H locs → W p l e R s m args below meth c H locs cells slots Q (F0 m (pc + 3) ls rest)) : W p l e R s m args below meth c H locs cells slots Q (F0 m pc ls (.ref (sgA P j) :: .ref (sgA P i) :: rest)) :=
  sg_putr X hin9 J F G hc hfin hdecl hd hn hf hi sg_su_at hk hdg (fun H locs J => kk H locs (sg_J_congr J (fun q _ => by
    by_cases h : q = i
    · subst h; rw [sg_su_at, sg_su_at, hks]
    · rw [sg_su_ne h, sg_su_ne h, sg_su_ne h])))
end MK2
