/-! RoadWheels.wheels, which may throw -/
def sg_NE : String := "java/util/NoSuchElementException"
def sg_xw : List Cond := [.castable sg_NE sg_NE, .declares ⟨"java/lang/RuntimeException", "<init>", "()V"⟩, .declares ⟨"java/lang/Exception", "<init>", "()V"⟩, .declares ⟨"java/lang/Throwable", "<init>", "()V"⟩]
def sg_EX (A : Nat → Prop) (U : State) (H : Heap) : Prop := vx_Zq Bundle.tN "UNASSIGNED_STACK" Bundle.steD A U H ∧ vx_Zq Bundle.tN "SUPPRESSED_SENTINEL" Bundle.listD A U H ∧ ∀ w ∈ sg_xw, va_Nw w U
def sg_isX : Cond → Bool
  | .castable _ _ => true
  | .declares _ => true
  | _ => false
theorem sg_xw_is : sg_xw.all sg_isX = true := by decide +kernel
theorem sg_xw_warm {s U : State} (h : ∀ w ∈ sg_xw, va_Nw w s) (hW : s.WarmedH U.vm) : ∀ w ∈ sg_xw, va_Nw w U := by
  intro w hw
  have h1 := h w hw
  have h2 := List.all_eq_true.mp sg_xw_is w hw
  cases w <;> first | exact va_Nw.warmC hW h1 | exact va_Nw.warmD hW h1 | (simp [sg_isX] at h2; done)
theorem sg_xw_calling {U : State} {g : JFrame} {mk : MethodId} {a : Array Value} (h : ∀ w ∈ sg_xw, va_Nw w U) : ∀ w ∈ sg_xw, va_Nw w (U.calling g mk a) := by
  intro w hw
  have h1 := h w hw
  have h2 := List.all_eq_true.mp sg_xw_is w hw
  cases w <;> first | exact va_Nw.same rfl (rfl : U.vm = (U.calling g mk a).vm) h1 | (simp [sg_isX] at h2; done)
theorem sg_EX_go {A B : Nat → Prop} {s U : State} {H0 H : Heap} {locs : List Loc} (h : sg_EX A s H0) (hW : s.WarmedH U.vm) (hS : va_S A H0 H locs) (hAB : ∀ q, B q → A q) : sg_EX B U H := by
  have hk : ∀ a : Nat, a < H0.size → ¬ A a → H[a]? = H0[a]? := hS.2.1
  exact ⟨vx_Zq.moved hW.alike ((h.1.kept hk).narrow hAB), vx_Zq.moved hW.alike ((h.2.1.kept hk).narrow hAB), sg_xw_warm h.2.2 hW⟩
theorem sg_EX_calling {A : Nat → Prop} {U : State} {H : Heap} {g : JFrame} {mk : MethodId} {a : Array Value} (h : sg_EX A U H) : sg_EX A (U.calling g mk a) H := by
  have hv : U.vm.Alike (U.calling g mk a).vm := Vm.Alike.refl U.vm
  exact ⟨vx_Zq.moved hv h.1, vx_Zq.moved hv h.2.1, sg_xw_calling h.2.2⟩
theorem sg_vxb : ∀ w ∈ (vx_at0 RX11 214 sg_NE ["java/lang/RuntimeException", "java/lang/Exception"]).filter (fun w => !goodWord w), w ∈ sg_xw := by decide +kernel
theorem sg_vxg : ∀ w ∈ Cond.classLink RX11 212 sg_NE :: Cond.initialized sg_NE :: vx_at0 RX11 214 sg_NE ["java/lang/RuntimeException", "java/lang/Exception"], vx_ot w = true := by decide +kernel
theorem sg_xot : ∀ w ∈ sg_xw, w.onTables = true := by decide +kernel
/-- what wheels gives: none where the machine would fail, some none where it throws -/
def f_X11_wheels (N : Nat) (p1 : Int32) (p2 : Int32) (σ : sgS) : Option (Option Int32) :=
  sg_cr (f_X0_hasSet N 3 p1 σ) fun v1 =>
    if v1 = 0 then some none
    else if p2 < 0 then some none
    else if p2 ≤ 2 then
      (if p2 = 0 then sg_ld σ 38 4 p1 fun r => some (some r)
      else if p2 = 1 then sg_ld σ 39 4 p1 fun r => some (some r)
      else sg_ld σ 40 4 p1 fun r => some (some r))
    else some none
def sg_PreX (P : sgP) (σ : sgS) (sz : Nat) (U : State) : Prop := sg_Pre P shC 332 σ sz U ∧ sg_EX (sg_A P 332 sz) U U.heap
def sg_QX (P : sgP) (σ : sgS) (sz : Nat) (q : Option Int32) : Array Value → State → Outcome → State → Prop := va_Qi (fun r (_ : Unit) => q = some r) (fun _ t => va_P (sgD P) vwCl (sg_w P shC 332 σ) t.heap) (sg_A P 332 sz)
def sg_XX (P : sgP) (σ : sgS) (sz : Nat) (q : Option Int32) : String → State → State → Prop := vx_X (fun _ : Unit => q = none) (fun E _ t => E = sg_NE ∧ va_P (sgD P) vwCl (sg_w P shC 332 σ) t.heap) (sg_A P 332 sz)
set_option maxHeartbeats 4000000 in
set_option maxRecDepth 100000 in
theorem x_X11_wheels {l : Launch} (hl9 : l.stackTraces = false) {P : sgP} {N : Nat} {p1 p2 : Int32} {σ : sgS} {q : Option Int32} (h : f_X11_wheels N p1 p2 σ = some q) (sz : Nat) : vx_Met l yX11_wheels (Cond.code yX11_wheels cX11_wheels 3 (some .int) :: wsL_law) (sg_rmc 8 1 6) (va_Pc [.ref (sgA P 0), .int p1, .int p2] (sg_PreX P σ sz)) (sg_QX P σ sz q) (sg_XX P σ sz q) 1 6 (sg_A P 332 sz) := by
  refine vx_ofW (cc := cX11_wheels) (maxL := 3) (ret := some .int) (by decide +kernel) rfl ?_
  intro p e s m args below meth c s₁ B hml hno hv
  obtain ⟨rfl, ⟨rfl, hP, hD, hK, hN, hST⟩, hEX⟩ := hv
  have hts := atoms_spec (ws := Cond.code yX11_wheels cX11_wheels 3 (some .int) :: wsL_law) B.pre
  have hown : s.vm.findClass RX11 = some m.cls := findClass_of_methodNamed B.named
  have hlocks := B.notSynchronized
  have hr := B.returns
  have hl := lv_entry [.ref (sgA P 0), .int p1, .int p2] (n := 3) (Nat.le_of_ble_eq_true rfl)
  rw [lg_entry_eq]
  generalize (lg_sl [.ref (sgA P 0), .int p1, .int p2] ++ List.replicate (3 - (lg_sl [.ref (sgA P 0), .int p1, .int p2]).length) Slot.unset).toArray = ls at hl ⊢
  have hl : lv_has ls 3 [(0, .ref (sgA P 0)), (1, .int p1), (2, .int p2)] := hl
  have X : sg_C P (sg_A P 332 s.heap.size) 8 p (sg_rmc 8 1 6) s m (#[.ref (sgA P 0), .int p1, .int p2] : Array Value) c cX11_wheels 3 RX11 := ⟨⟨B.exec, B.bytes, hml, hown, fun w hw => hts w (List.mem_cons_of_mem _ hw)⟩, hK, fun q h => Or.inr h, hN, hST, Nat.le_refl _, Nat.le_refl _⟩
  have I : sg_I P shC 332 (sg_A P 332 s.heap.size) s.heap σ s.heap [] := ⟨hP, sg_A_of hD, va_S.rf⟩
  have hx := X.1.1
  have hb := X.1.2.1
  have hts := X.1.2.2.2.2
  have thr : ∀ (H : Heap) (locs : List Loc) (ls : Array Slot), q = none → sg_I P shC 332 (sg_A P 332 s.heap.size) s.heap σ H locs → ls.size = 3 → W p l e (sg_rmc 8 1 6) s m (#[.ref (sgA P 0), .int p1, .int p2] : Array Value) below meth c H locs 0 0 (vx_MQ below (sg_QX P σ s.heap.size q) (sg_XX P σ s.heap.size q) (#[.ref (sgA P 0), .int p1, .int p2] : Array Value) s 1 6 (sg_A P 332 s.heap.size)) (F0 m 20 ls []) := fun H locs ls hq I hls => by
    refine vx_throw0 (own := RX11) (cls := sg_NE) (names := ["java/lang/RuntimeException", "java/lang/Exception"]) (ik := 212) (ic := 214) (A := sg_A P 332 s.heap.size) hx hb hl9 hown (by decide +kernel) (by decide +kernel) (hts _ qw_796) (hts _ qw_797) (vx_hat (fun w hw => hts w (List.mem_append_right _ hw)) sg_vxb (fun w hw => va_Nw.use (sg_xot w hw) (hEX.2.2 w hw))) sg_vxg hEX.1 hEX.2.1 I.2.2 (hls.trans hml.symm) dX11_wheels_20 dX11_wheels_23 dX11_wheels_24 dX11_wheels_27 (fun x hx => (hno x hx).elim) (Nat.le_of_ble_eq_true rfl) (Nat.le_of_ble_eq_true rfl) (Nat.le_of_ble_eq_true rfl) (Nat.le_of_ble_eq_true rfl) hlocks (fun t hvm hsz hk => ?_) I.2.2.2.2 (Nat.le_of_ble_eq_true rfl) (Nat.le_of_ble_eq_true rfl)
    exact ⟨(), hq, ⟨rfl, I.1.kept (fun k x hx9 => hk x.1 (I.1 k x hx9).lt)⟩, Nat.le_trans I.2.2.1 hsz, fun a h1 h2 => (hk a (Nat.lt_of_lt_of_le h1 I.2.2.1)).trans (I.2.2.2.1 a h1 h2)⟩
  have ret : ∀ (H : Heap) (locs : List Loc) (ls : Array Slot) (pc : Nat) (v : Int32), q = some v → sg_I P shC 332 (sg_A P 332 s.heap.size) s.heap σ H locs → decode cX11_wheels pc = .ok (.ireturn, 1) → W p l e (sg_rmc 8 1 6) s m (#[.ref (sgA P 0), .int p1, .int p2] : Array Value) below meth c H locs 0 0 (vx_MQ below (sg_QX P σ s.heap.size q) (sg_XX P σ s.heap.size q) (#[.ref (sgA P 0), .int p1, .int p2] : Array Value) s 1 6 (sg_A P 332 s.heap.size)) (F0 m pc ls [.int v]) := fun H locs ls pc v hq I hdg => by
    refine vx_ret ?_
    refine W.widen (k := 1) (n := 6) (Nat.zero_le _) (Nat.zero_le _) ?_
    exact W.iret hx hb hr (fun t ht hW => ⟨⟨v, (), rfl, hq, by show va_P _ _ _ t.heap; rw [ht]; exact I.1⟩, I.2.2.F ht⟩) I.2.2.2.2 hdg hlocks
  unfold f_X11_wheels at h
  refine lv_aload_n hx hb dX11_wheels_0 rfl (lv_at hl 0 rfl) ?_
  refine sg_getr X I fk_X11_19 (j := 3) (by decide) shC_0 rfl dX11_wheels_1 ?_
  refine lv_iload_n hx hb dX11_wheels_4 rfl (lv_at hl 1 rfl) ?_
  refine sg_callVr (As := [.int p1]) X I mk_X11_209 (by decide) (by decide) shC_3 rfl (fun q9 e9 => c_X0_hasSet isCo_3 e9) h hl.1 rfl rfl (Nat.le_of_ble_eq_true rfl) dX11_wheels_5 (fun v1 H locs h I => ?_)
  refine lv_if_eq (tgt := 20) hx hb dX11_wheels_8 (by decide) (fun z => ?_) (fun z => ?_)
  · have h := sg_ift h z
    exact thr _ _ _ (Option.some.inj h).symm I hl.1
  have h := sg_iff h z
  refine lv_iload_n hx hb dX11_wheels_11 rfl (lv_at hl 2 rfl) ?_
  refine lv_if_lt (tgt := 20) hx hb dX11_wheels_12 (by decide) (fun z => ?_) (fun z => ?_)
  · have h := sg_ift h z
    exact thr _ _ _ (Option.some.inj h).symm I hl.1
  have h := sg_iff h z
  refine lv_iload_n hx hb dX11_wheels_15 rfl (lv_at hl 2 rfl) ?_
  refine lv_iconst (v := 2) hx hb dX11_wheels_16 (by decide) ?_
  refine lv_icmp_le (tgt := 28) hx hb dX11_wheels_17 (by decide) (fun z => ?_) (fun z => ?_)
  · have h := sg_ift h z
    refine lv_iload_n hx hb dX11_wheels_28 rfl (lv_at hl 2 rfl) ?_
    refine lv_if_ne (tgt := 42) hx hb dX11_wheels_29 (by decide) (fun z => ?_) (fun z => ?_)
    · have h := sg_iff h z
      refine lv_iload_n hx hb dX11_wheels_42 rfl (lv_at hl 2 rfl) ?_
      refine lv_iconst (v := 1) hx hb dX11_wheels_43 (by decide) ?_
      refine lv_icmp_ne (tgt := 59) hx hb dX11_wheels_44 (by decide) (fun z => ?_) (fun z => ?_)
      · have h := sg_iff h z
        refine lv_aload_n hx hb dX11_wheels_59 rfl (lv_at hl 0 rfl) ?_
        refine sg_getr X I fk_X11_52 (j := 37) (by decide) shC_0 rfl dX11_wheels_60 ?_
        refine sg_getrN X I fn_X11_221 (j := 40) (by decide) shC_37 rfl dX11_wheels_63 ?_
        refine lv_iload_n hx hb dX11_wheels_66 rfl (lv_at hl 1 rfl) ?_
        refine sg_iald X I (by decide) shC_40 h dX11_wheels_67 (fun v h => ?_)
        exact ret _ _ _ _ _ (Option.some.inj h).symm I dX11_wheels_68
      · have h := sg_ift h z
        refine lv_aload_n hx hb dX11_wheels_47 rfl (lv_at hl 0 rfl) ?_
        refine sg_getr X I fk_X11_52 (j := 37) (by decide) shC_0 rfl dX11_wheels_48 ?_
        refine sg_getrN X I fn_X11_218 (j := 39) (by decide) shC_37 rfl dX11_wheels_51 ?_
        refine lv_iload_n hx hb dX11_wheels_54 rfl (lv_at hl 1 rfl) ?_
        refine sg_iald X I (by decide) shC_39 h dX11_wheels_55 (fun v h => ?_)
        refine lv_goto (tgt := 68) hx hb dX11_wheels_56 (by decide) ?_
        exact ret _ _ _ _ _ (Option.some.inj h).symm I dX11_wheels_68
    · have h := sg_ift h z
      refine lv_aload_n hx hb dX11_wheels_32 rfl (lv_at hl 0 rfl) ?_
      refine sg_getr X I fk_X11_52 (j := 37) (by decide) shC_0 rfl dX11_wheels_33 ?_
      refine sg_getrN X I fn_X11_215 (j := 38) (by decide) shC_37 rfl dX11_wheels_36 ?_
      refine lv_iload_n hx hb dX11_wheels_39 rfl (lv_at hl 1 rfl) ?_
      refine sg_iald X I (by decide) shC_38 h dX11_wheels_40 (fun v h => ?_)
      exact ret _ _ _ _ _ (Option.some.inj h).symm I dX11_wheels_41
  · have h := sg_iff h z
    exact thr _ _ _ (Option.some.inj h).symm I hl.1
