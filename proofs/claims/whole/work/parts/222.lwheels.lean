/-! the law's own wheels: calls RoadWheels.wheels, catches what it throws -/
theorem sg_D_l {A : Nat → Prop} {u v : va_W} (h : va_D A (u ++ v)) : va_D A u := by
  refine ⟨fun i j a b hi hj hab => ?_, fun k q hk => ?_⟩
  · exact h.1 i j a b (by rw [List.getElem?_append_left (List.getElem?_eq_some_iff.mp hi).1]; exact hi) (by rw [List.getElem?_append_left (List.getElem?_eq_some_iff.mp hj).1]; exact hj) hab
  · exact h.2 k q (by rw [List.getElem?_append_left (List.getElem?_eq_some_iff.mp hk).1]; exact hk)
theorem sg_P_l {D : va_G} {cl : List vw_C} {H : Heap} {u v : va_W} (h : va_P D cl (u ++ v) H) : va_P D cl u H := fun k q hk => h k q (by rw [List.getElem?_append_left (List.getElem?_eq_some_iff.mp hk).1]; exact hk)
theorem sg_P_r {D : va_G} {cl : List vw_C} {H : Heap} {u v : va_W} (h : va_P D cl (u ++ v) H) : va_P D cl v H := fun k q hk => h (u.length + k) q (by rw [List.getElem?_append_right (Nat.le_add_right _ _), Nat.add_sub_cancel_left]; exact hk)
theorem sg_w_len {P : sgP} {sh : Nat → sgE} {n : Nat} {σ : sgS} : (sg_w P sh n σ).length = n := by unfold sg_w; rw [List.length_map, List.length_range]
theorem sg_D_x {P : sgP} {sh : Nat → sgE} {n o : Nat} {σ : sgS} {x : va_E} {A : Nat → Prop} (h : va_D A (sg_w P sh n σ ++ [(o, x)])) : (∀ i, i < n → sgA P i ≠ o) ∧ A o := by
  have ho : (sg_w P sh n σ ++ [(o, x)])[n]? = some (o, x) := by rw [List.getElem?_append_right (by rw [sg_w_len]; exact Nat.le_refl _), sg_w_len, Nat.sub_self]; rfl
  refine ⟨fun i hi e => ?_, h.2 n _ ho⟩
  have h1 : (sg_w P sh n σ ++ [(o, x)])[i]? = some (sgA P i, sg_ent P sh σ i) := by rw [List.getElem?_append_left (by rw [sg_w_len]; exact hi)]; exact sg_at hi
  have := h.1 i n _ _ h1 ho e
  omega
def sg_lo (o : Nat) (cL : ClassId) (f : Nat → Int64) : Nat × va_E := (o, .inl (cL, 1, .inr (.inl f)))
def sg_A2 (P : sgP) (sz o : Nat) : Nat → Prop := fun q => sg_A P 332 sz q ∨ q = o
def sg_PreL (P : sgP) (cL : ClassId) (o : Nat) (f : Nat → Int64) (σ : sgS) (sz : Nat) (U : State) : Prop :=
  U.heap.size = sz ∧ va_P (sgD P) vwCl (sg_w P shC 332 σ ++ [sg_lo o cL f]) U.heap ∧ va_D (fun _ => True) (sg_w P shC 332 σ ++ [sg_lo o cL f]) ∧ va_K (sgD P) vwCl (sg_ty P) U ∧ va_K (sgD P) vwCl [(cL, .long)] U ∧ sg_N U ∧ sg_ST P (sg_A2 P sz o) U U.heap ∧ sg_EX (sg_A2 P sz o) U U.heap
theorem sg_blindL {P : sgP} {cL : ClassId} {o : Nat} {f : Nat → Int64} {σ : sgS} {sz : Nat} {av : List Value} : FrameBlind (va_Pc av (sg_PreL P cL o f σ sz)) := fun a U g mk q => by
  obtain ⟨q0, q1, q2, q3, q4, q5, q6, q7, q8⟩ := q
  exact ⟨q0, q1, q2, q3, va_K.moved (u := U) (U := U.calling g mk a) (Vm.Alike.refl U.vm) q4, va_K.moved (u := U) (U := U.calling g mk a) (Vm.Alike.refl U.vm) q5, sg_N_calling q6, sg_ST_calling q7, sg_EX_calling q8⟩
theorem sg_blindX {P : sgP} {σ : sgS} {sz : Nat} {av : List Value} : FrameBlind (va_Pc av (sg_PreX P σ sz)) := fun a U g mk q => by
  obtain ⟨q0, ⟨q1, q2, q3, q4, q5, q6⟩, q8⟩ := q
  exact ⟨q0, ⟨q1, q2, q3, va_K.moved (u := U) (U := U.calling g mk a) (Vm.Alike.refl U.vm) q4, sg_N_calling q5, sg_ST_calling q6⟩, sg_EX_calling q8⟩
set_option maxHeartbeats 4000000 in
set_option maxRecDepth 100000 in
theorem m_L_wheels {l : Launch} (hl9 : l.stackTraces = false) {P : sgP} {cL : ClassId} {o : Nat} {f : Nat → Int64} {N : Nat} {p1 p2 : Int32} {σ : sgS} {q : Option Int32} (h : f_X11_wheels N p1 p2 σ = some q) (sz : Nat) : Met l yL_wheels (Cond.codeWith yL_wheels cL_wheels 5 (some .int) [(0, 10, 13, 13)] :: wsL_law) (sg_rmc 9 1 6) (va_Pc [.ref (sgA P 0), .int p1, .int p2, .ref o] (sg_PreL P cL o f σ sz))
    (va_Qi (fun r u => (q = none ∧ r = 1 ∧ u = f) ∨ ∃ v, q = some v ∧ r = 0 ∧ u = vp_updL f 0 v.toInt64) (fun (u : Nat → Int64) t => va_P (sgD P) vwCl (sg_w P shC 332 σ ++ [sg_lo o cL u]) t.heap) (sg_A2 P sz o)) 1 6 (sg_A2 P sz o) := by
  refine va_MetW (cc := cL_wheels) (maxL := 5) (ret := some .int) (hh := [(0, 10, 13, 13)]) (by decide +kernel) rfl ?_
  intro p e s m args below meth c s₁ B hml hv
  obtain ⟨rfl, rfl, hP, hD, hK, hKL, hN, hST, hEX⟩ := hv
  have hts0 := atoms_spec (ws := Cond.codeWith yL_wheels cL_wheels 5 (some .int) [(0, 10, 13, 13)] :: wsL_law) B.pre
  have htab : c.exceptionTable.toList = [] ++ (⟨0, 10, 13, 13⟩ : ExceptionTableEntry) :: [] := vx_table (x := yL_wheels) B (hts0 _ List.mem_cons_self)
  have hts : ∀ w ∈ wsL_law, w.before _ s = true := fun w hw => hts0 w (List.mem_cons_of_mem _ hw)
  have hown : s.vm.findClass RL = some m.cls := findClass_of_methodNamed B.named
  have hlocks := B.notSynchronized
  have hr := B.returns
  have hx := B.exec
  have hb := B.bytes
  have hl := lv_entry [.ref (sgA P 0), .int p1, .int p2, .ref o] (n := 5) (Nat.le_of_ble_eq_true rfl)
  rw [lg_entry_eq]
  generalize (lg_sl [.ref (sgA P 0), .int p1, .int p2, .ref o] ++ List.replicate (5 - (lg_sl [.ref (sgA P 0), .int p1, .int p2, .ref o]).length) Slot.unset).toArray = ls at hl ⊢
  have hl : lv_has ls 5 [(0, .ref (sgA P 0)), (1, .int p1), (2, .int p2), (3, .ref o)] := hl
  obtain ⟨hne, -⟩ := sg_D_x hD
  have hD2 : va_D (sg_A2 P s.heap.size o) (sg_w P shC 332 σ ++ [sg_lo o cL f]) := ⟨hD.1, fun k z hk => by
    by_cases hk1 : k < 332
    · rw [List.getElem?_append_left (by rw [sg_w_len]; exact hk1), sg_at hk1] at hk
      cases hk
      exact Or.inl (Or.inl ⟨k, hk1, rfl⟩)
    · rw [List.getElem?_append_right (by rw [sg_w_len]; omega), sg_w_len] at hk
      have hz : k - 332 < 1 := (List.getElem?_eq_some_iff.mp hk).1
      rw [show k - 332 = 0 by omega] at hk
      cases hk
      exact Or.inr rfl⟩
  have hA : ∀ z, s.heap.size ≤ z → sg_A2 P s.heap.size o z := fun z hz => Or.inl (Or.inr hz)
  have hlo : o < s.heap.size := (sg_P_r hP 0 (sg_lo o cL f) rfl).lt
  have hnot : ¬ sg_A P 332 s.heap.size o := by
    rintro (⟨i, hi, e9⟩ | e9)
    · exact hne i hi e9.symm
    · omega
  refine lv_aload_n hx hb dL_wheels_0 rfl (lv_at hl 3 rfl) ?_
  refine lv_iconst (v := 0) hx hb dL_wheels_1 (by decide) ?_
  refine lv_aload_n hx hb dL_wheels_2 rfl (lv_at hl 0 rfl) ?_
  refine lv_iload_n hx hb dL_wheels_3 rfl (lv_at hl 1 rfl) ?_
  refine lv_iload_n hx hb dL_wheels_4 rfl (lv_at hl 2 rfl) ?_
  have hsub : ∀ z, sg_A P 332 s.heap.size z → sg_A2 P s.heap.size o z := fun z hz => Or.inl hz
  obtain ⟨hy, v1, v2, v3, v4, v5, v6⟩ := mk_L_7
  have hrun : vx_Run p l e (sg_rmc 9 1 6) s m _ below meth c s.heap [] 0 0 1 6 (F0 m 5 ls [.int p2, .int p1, .ref (sgA P 0), .int 0, .ref o]) [.int 0, .ref o] (sg_QX P σ s.heap.size q (Value.ref (sgA P 0) :: [.int p1, .int p2]).toArray) (sg_XX P σ s.heap.size q) (sg_A P 332 s.heap.size) :=
    vx_runV (As := [.int p1, .int p2]) (rest := [.int 0, .ref o]) (nL := 5) (Ts := wsL_law) (own := RL) ⟨hx, hb, hml, hown, hts⟩ (x_X11_wheels hl9 h s.heap.size) ⟨callB_of 2 hts (sg_goodIn v5) rfl rfl rfl (hts _ v4) (hts _ v1) hy ⟨Nat.le_of_ble_eq_true rfl, Nat.le_of_ble_eq_true rfl⟩, hts _ v2, hts _ v3⟩ ⟨sg_blindX, va_recv hK (sg_P_l hP) (ci := 11) (q0 := 0) rfl (sg_obj (by decide) shC_0), fun U hU hW => ⟨rfl, ⟨by rw [hU], by rw [hU]; exact sg_P_l hP, (sg_D_l hD).weaken (fun _ _ _ _ => trivial), va_K.moved hW.alike hK, sg_N_warm hN hW, by rw [hU]; exact sg_ST_go hST hW (va_S.rf (A := sg_A2 P s.heap.size o)) hsub⟩, by rw [hU]; exact sg_EX_go hEX hW (va_S.rf (A := sg_A2 P s.heap.size o)) hsub⟩⟩ rfl rfl hl.1 rfl (lv_room (Nat.le_of_ble_eq_true rfl)) dL_wheels_5 ⟨Nat.le_of_ble_eq_true rfl, Nat.le_of_ble_eq_true rfl⟩
  refine vx_calli hrun (va_S.rf (A := sg_A2 P s.heap.size o)) (fun z _ hz => hsub z hz) hsub (fun z _ hz => hsub z hz) (fun E ce q9 u t H1 locs1 ht hvm hpx hBX hsz hk hS hce hcv hcl => ?_) (fun r u t H1 locs1 ht hvm hp hB hsz hk hS => ?_)
  · obtain ⟨rfl, hB⟩ := hBX
    rw [ht] at hB
    refine vx_catch (name := sg_NE) (E := sg_NE) hown [] ⟨0, 10, 13, 13⟩ [] htab (fun _ hz => by cases hz) (by decide +kernel) (by decide) (hts _ qw_791) (va_Nw.use rfl (hEX.2.2 _ List.mem_cons_self)) hce hcv hcl ?_
    refine lv_astore (lv' := [(4, .ref q9), (0, .ref (sgA P 0)), (1, .int p1), (2, .int p2), (3, .ref o)]) hx hb dL_wheels_13 hl (by decide) rfl (fun ls hl => ?_)
    refine lv_iconst (v := 1) hx hb dL_wheels_15 (by decide) ?_
    have hPo : va_P (sgD P) vwCl (sg_w P shC 332 σ ++ [sg_lo o cL f]) H1 := hB.app ((sg_P_r hP).kept (fun k z hz => by
      have h0 : k < 1 := (List.getElem?_eq_some_iff.mp hz).1
      rw [show k = 0 by omega] at hz
      cases hz
      exact hk o hlo hnot))
    exact W.iret hx hb hr (fun t ht hW => ⟨⟨1, f, rfl, Or.inl ⟨hpx, rfl, rfl⟩, by show va_P _ _ _ t.heap; rw [ht]; exact hPo⟩, hS.F ht⟩) hS.2.2 dL_wheels_16
  · have hB : va_P (sgD P) vwCl (sg_w P shC 332 σ) t.heap := hB
    rw [ht] at hB
    have hPo : va_P (sgD P) vwCl (sg_w P shC 332 σ ++ [sg_lo o cL f]) H1 := hB.app ((sg_P_r hP).kept (fun k z hz => by
      have h0 : k < 1 := (List.getElem?_eq_some_iff.mp hz).1
      rw [show k = 0 by omega] at hz
      cases hz
      exact hk o hlo hnot))
    have hat : (sg_w P shC 332 σ ++ [sg_lo o cL f])[332]? = some (o, .inl (cL, 1, .inr (.inl f))) := by rw [List.getElem?_append_right (by rw [sg_w_len]; exact Nat.le_refl _), sg_w_len]; rfl
    refine lv_i2l (v := r.toInt64) hx hb dL_wheels_8 rfl ?_
    refine va_last (D := sgD P) hx hb hKL hPo hD2 hS 332 0 hat rfl (i := 0) (show vp_in (nI 0) 1 from vp_in_nI (by decide) (by decide)) dL_wheels_9 (fun H1 locs1 h1 h2 h3 => ?_)
    refine lv_goto (tgt := 17) hx hb dL_wheels_10 (by decide) ?_
    refine lv_iconst (v := 0) hx hb dL_wheels_17 (by decide) ?_
    have hset : (sg_w P shC 332 σ ++ [sg_lo o cL f]).set 332 (o, .inl (cL, 1, .inr (.inl (vp_updL f (0 : Int32).toNatClampNeg r.toInt64)))) = sg_w P shC 332 σ ++ [sg_lo o cL (vp_updL f 0 r.toInt64)] := by
      rw [List.set_append_right _ _ (by rw [sg_w_len]; exact Nat.le_refl _), sg_w_len]
      rfl
    rw [hset] at h1
    exact W.iret hx hb hr (fun t ht hW => ⟨⟨0, vp_updL f 0 r.toInt64, rfl, Or.inr ⟨r, hp, rfl, rfl⟩, by show va_P _ _ _ t.heap; rw [ht]; exact h1⟩, h3.F ht⟩) h3.2.2 dL_wheels_18
