section LAWW
variable {p : Program} {l : Launch} {e : Env} {s : State} {m : MethodId} {below : List Frame} {meth : Method} {c : Code} {H : Heap} {locs : List Loc} {cells slots : Nat} {Q : State → Prop}
variable {b L : Nat} {xs : Nat → Int32} {P Pm : sgP} {cL : ClassId} {σ τ : sgS} {f : Nat → Int64} {pc : Nat} {ls : Array Slot} {Rel : sgS → sgS → Prop}
theorem lw_Dlo {o B : Nat} {σ : sgS} {cL : ClassId} {f : Nat → Int64} {P : sgP} {A : Nat → Prop} (h : ∀ i, sgA P i = B + i) (ho : B + 332 ≤ o) (hA : ∀ q, B ≤ q → A q) : va_D A (sg_w P shC 332 σ ++ [sg_lo o cL f]) := by
  have key : ∀ (i : Nat) (x : Nat × va_E), (sg_w P shC 332 σ ++ [sg_lo o cL f])[i]? = some x → (i < 332 ∧ x.1 = B + i) ∨ (i = 332 ∧ x.1 = o) := by
    intro i x hi
    by_cases hk : i < 332
    · rw [List.getElem?_append_left (by rw [sg_w_len]; exact hk), sg_at hk] at hi
      cases hi
      exact Or.inl ⟨hk, h i⟩
    · rw [List.getElem?_append_right (by rw [sg_w_len]; omega), sg_w_len] at hi
      have hz : i - 332 < 1 := (List.getElem?_eq_some_iff.mp hi).1
      rw [show i - 332 = 0 by omega] at hi
      cases hi
      exact Or.inr ⟨by omega, rfl⟩
  refine ⟨fun i j x y hi hj e => ?_, fun k q hk => ?_⟩
  · have h1 := key i x hi
    have h2 := key j y hj
    omega
  · have h1 := key k q hk
    exact hA _ (by omega)
theorem lw_k6 (X : lw_X p s m c b L xs P Pm cL) (hl9 : l.stackTraces = false) (hL : L ≤ 3072) {n : Nat} (hi : n + 6 ≤ L) (O : lw_Wh Rel (xs (n + 1)) (xs (n + 2))) (HR : Rel σ τ) (I : lw_I s P Pm cL σ τ f H locs) (hl : lv_has ls 7 (lw_lv s P Pm b (nI n))) (hcel : cells + 1 ≤ room_1.cells) (hslo : slots + 6 ≤ room_1.slots)
    (kk : lw_Wt Rel p l e s m b below meth c Q P Pm cL n (cells + 1) (slots + 6) 1643) : W p l e room_1 s m #[Value.ref b] below meth c H locs cells slots Q (F0 m 426 ls []) := by
  obtain ⟨N, M, K, q, v, k, τ', h1, h2, h3, HR2, hq⟩ := O σ τ HR
  have hx := X.1.1.1
  have hb := X.1.1.2.1
  have hts := X.1.1.2.2.2.2
  have hX := X.2.2.2.2.2.2.2
  refine lv_aload_n hx hb dL_law_426 rfl (lv_at hl 2 rfl) ?_
  refine lw_arg X I (n := n) (k := 1) (by omega) hL (lv_at hl 1 rfl) (lv_at hl 0 rfl) rfl dL_law_427 dL_law_428 dL_law_430 dL_law_431 dL_law_432 ?_
  refine lw_arg X I (n := n) (k := 2) (by omega) hL (lv_at hl 1 rfl) (lv_at hl 0 rfl) rfl dL_law_433 dL_law_434 dL_law_436 dL_law_437 dL_law_438 ?_
  refine lv_aload_n hx hb dL_law_439 rfl (lv_at hl 4 rfl) ?_
  have hPo : va_P (sgD P) vwCl (sg_w P shC 332 σ ++ [sg_lo (lw_o s) cL f]) H := I.1.app I.2.2.1
  have hsub : ∀ z, sg_A2 P H.size (lw_o s) z → lw_A s z := by
    rintro z ((⟨i, hi, rfl⟩ | hz) | rfl)
    · show s.heap.size ≤ _; rw [hX.1 i]; omega
    · have := I.2.2.2.1; show s.heap.size ≤ _; omega
    · show s.heap.size ≤ s.heap.size + 367; omega
  have hrun : va_Run p l e room_1 s m #[Value.ref b] below meth c H locs cells slots 1 6 (F0 m 440 ls [.ref (lw_o s), .int (xs (n + 2)), .int (xs (n + 1)), .ref (sgA P 0)]) [] (va_Qi (fun r u => (q = none ∧ r = 1 ∧ u = f) ∨ ∃ v, q = some v ∧ r = 0 ∧ u = vp_updL f 0 v.toInt64) (fun (u : Nat → Int64) t => va_P (sgD P) vwCl (sg_w P shC 332 σ ++ [sg_lo (lw_o s) cL u]) t.heap) (sg_A2 P H.size (lw_o s)) ([.ref (sgA P 0), .int (xs (n + 1)), .int (xs (n + 2)), .ref (lw_o s)] : List Value).toArray) (sg_A2 P H.size (lw_o s)) :=
    vx_runSW (hh := [(0, 10, 13, 13)]) (As := [.ref (sgA P 0), .int (xs (n + 1)), .int (xs (n + 2)), .ref (lw_o s)]) (rest := []) (nL := 7) (Ts := wsL_law) (own := RL) X.1.1 (m_L_wheels hl9 (P := P) (cL := cL) (o := lw_o s) (f := f) h1 H.size)
      (vx_cwSW 4 hts (fun w hw => by
        have hm : w ∈ wsL_law := by
          unfold va_wsS at hw
          rcases List.mem_append.mp hw with h | h
          · simp only [List.mem_cons, List.not_mem_nil, or_false] at h
            rcases h with rfl | rfl | rfl
            · exact qw_787
            · exact qw_788
            · exact qw_789
          · rcases List.mem_cons.mp h with rfl | h
            · exact qw_790
            · exact h
        exact ⟨hm, good_of_word (wsL_law_gw _ hm)⟩) rfl rfl rfl (by decide +kernel) ⟨by decide, by decide⟩)
      ⟨sg_blindL, fun U hU hW => ⟨rfl, by rw [hU], by rw [hU]; exact hPo, lw_Dlo hX.1 (by show _ ≤ s.heap.size + 367; omega) (fun _ _ => trivial), va_K.moved hW.alike X.1.2.1, va_K.moved hW.alike X.2.2.1, sg_N_warm X.1.2.2.2.1 hW, by rw [hU]; exact sg_ST_go X.1.2.2.2.2.1 hW I.2.2.2 hsub, by rw [hU]; exact sg_EX_go X.2.2.2.1 hW I.2.2.2 hsub⟩⟩ rfl rfl hl.1 rfl (lv_room (by decide)) dL_law_440 ⟨hcel, hslo⟩
  refine va_calli hrun I.2.2.2 (fun q _ h => hsub q h) hsub (fun r u t H1 locs1 ht hvm hw hB hz hk hS => ?_)
  have hB : va_P (sgD P) vwCl (sg_w P shC 332 σ ++ [sg_lo (lw_o s) cL u]) t.heap := hB
  rw [ht] at hB
  have I1 : lw_I s P Pm cL σ τ u H1 locs1 := ⟨sg_P_l hB, lw_keep I.2.1 (fun i hi => hk _ (lw_ltw I.2.1 i hi) (by
    rintro ((⟨j, hj, e9⟩ | e9) | e9)
    · rw [hX.1 j, hX.2 i] at e9; omega
    · have := lw_ltw I.2.1 i hi; omega
    · rw [hX.2 i] at e9; have e9 : _ = s.heap.size + 367 := e9; omega)), sg_P_r hB, hS⟩
  refine lv_istore (lv' := [(5, .int r), (4, .int (nI n)), (0, .ref b), (1, .ref (sgA P 0)), (2, .ref (sgA Pm 0)), (3, .ref (lw_o s))]) hx hb dL_law_443 hl (by decide) rfl (fun ls hl => ?_)
  refine lv_aload_n hx hb dL_law_445 rfl (lv_at hl 4 rfl) ?_
  refine lw_arg X I1 (n := n) (k := 1) (by omega) hL (lv_at hl 2 rfl) (lv_at hl 1 rfl) rfl dL_law_446 dL_law_447 dL_law_449 dL_law_450 dL_law_451 ?_
  refine lw_arg X I1 (n := n) (k := 2) (by omega) hL (lv_at hl 2 rfl) (lv_at hl 1 rfl) rfl dL_law_452 dL_law_453 dL_law_455 dL_law_456 dL_law_457 ?_
  refine lw_callM (q := (v, τ')) (As := [.int (xs (n + 1)), .int (xs (n + 2))]) X I1 hcel hslo mk_L_51 (lev := 3) (by decide) (c_X12_wheels h2) hl.1 rfl rfl (Nat.le_of_ble_eq_true rfl) dL_law_458 (fun H locs I => ?_)
  refine lv_istore (lv' := [(6, .int v), (5, .int r), (4, .int (nI n)), (0, .ref b), (1, .ref (sgA P 0)), (2, .ref (sgA Pm 0)), (3, .ref (lw_o s))]) hx hb dL_law_461 hl (by decide) rfl (fun ls hl => ?_)
  refine lv_aload_n hx hb dL_law_463 rfl (lv_at hl 5 rfl) ?_
  refine lw_callM (q := (k, τ')) (As := []) X I hcel hslo mk_L_52 (lev := 1) (by decide) (c_X12_thrown h3) hl.1 rfl rfl (Nat.le_of_ble_eq_true rfl) dL_law_464 (fun H locs I => ?_)
  refine lv_iload hx hb dL_law_467 (lv_at hl 1 rfl) ?_
  have hl5 : lv_has ls 7 (lw_lv s P Pm b (nI n)) := lv_sub hl [2, 3, 4, 5, 6] rfl
  rcases hw with ⟨e1, e2, e3⟩ | ⟨v', e1, e2, e3⟩
  · rcases hq with ⟨-, e4⟩ | ⟨e4, -⟩
    · subst e2 e4
      refine lv_icmp_eq (tgt := 474) hx hb dL_law_469 (by decide) (fun _ => ?_) (fun h => absurd rfl h)
      refine lv_iload hx hb dL_law_474 (lv_at hl 1 rfl) ?_
      refine lv_if_ne (tgt := 491) hx hb dL_law_476 (by decide) (fun _ => ?_) (fun h => absurd h (by decide))
      refine lv_goto (tgt := 1643) hx hb dL_law_491 (by decide) ?_
      exact kk _ _ _ H locs ls HR2 I hl5
    · rw [e1] at e4; cases e4
  · rcases hq with ⟨e4, -⟩ | ⟨e4, e5⟩
    · rw [e1] at e4; cases e4
    · rw [e1] at e4
      cases e4
      subst e2 e5
      refine lv_icmp_eq (tgt := 474) hx hb dL_law_469 (by decide) (fun _ => ?_) (fun h => absurd rfl h)
      refine lv_iload hx hb dL_law_474 (lv_at hl 1 rfl) ?_
      refine lv_if_ne (tgt := 491) hx hb dL_law_476 (by decide) (fun h => absurd rfl h) (fun _ => ?_)
      refine lv_aload_n hx hb dL_law_479 rfl (lv_at hl 6 rfl) ?_
      refine lv_iconst (v := 0) hx hb dL_law_480 (by decide) ?_
      refine va_lald (D := sgD P) hx hb X.2.2.1 I.2.2.1 0 0 rfl rfl (i := 0) (show vp_in (nI 0) 1 from vp_in_nI (by decide) (by decide)) dL_law_481 ?_
      refine lv_iload hx hb dL_law_482 (lv_at hl 0 rfl) ?_
      refine lv_i2l (v := v.toInt64) hx hb dL_law_484 rfl ?_
      refine W.lcmp hx hb dL_law_485 ?_
      refine lv_if_eq (tgt := 491) hx hb dL_law_486 (by decide) (fun _ => ?_) (fun h => absurd ((lg_cmp_eq _ _).mpr (by rw [e3]; simp [vp_updL])) h)
      refine lv_goto (tgt := 1643) hx hb dL_law_491 (by decide) ?_
      exact kk _ _ _ H locs ls HR2 I hl5
end LAWW
