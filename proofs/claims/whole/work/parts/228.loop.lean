theorem lw_cmp {L n : Nat} (hL : L ≤ 3072) (hn : n ≤ 3078) (h : ¬ (Int32.ofNat L - 6 < nI n)) : n + 6 ≤ L := by
  rw [Int32.lt_iff_toInt_lt] at h
  have e1 : (Int32.ofNat L - 6).toInt = (L : Int) - 6 := by
    rw [show Int32.ofNat L - 6 = Int32.ofInt ((L : Int) - 6) by
      rw [Int32.ofInt_sub]; rfl]
    exact Int32.toInt_ofInt_of_le (by omega) (by omega)
  have e2 : (nI n).toInt = (n : Int) := Int32.toInt_ofNat_of_lt (by omega)
  rw [e1, e2] at h
  omega
section LAWL
variable {p : Program} {l : Launch} {e : Env} {s : State} {m : MethodId} {below : List Frame} {meth : Method} {c : Code} {Q : State → Prop}
variable {b L : Nat} {xs : Nat → Int32} {P Pm : sgP} {cL : ClassId} {Rel : sgS → sgS → Prop}
theorem lw_loop (X : lw_X p s m c b L xs P Pm cL) (hl9 : l.stackTraces = false) (hL : L ≤ 3072) (O : lw_Ops Rel)
    (hend : ∀ (H : Heap) (locs : List Loc) (ls : Array Slot) (cells slots : Nat), cells ≤ room_1.cells → slots ≤ room_1.slots → va_S (lw_A s) s.heap H locs → W p l e room_1 s m #[Value.ref b] below meth c H locs cells slots Q (F0 m 1649 ls [])) :
    ∀ (k n cells slots : Nat), L ≤ n + 6 * k → n ≤ 3078 → cells + k ≤ room_1.cells → slots + 6 * k ≤ room_1.slots → lw_Wt Rel p l e s m b below meth c Q P Pm cL n cells slots 23 := by
  have hx := X.1.1.1
  have hb := X.1.1.2.1
  intro k
  induction k with
  | zero =>
    intro n cells slots h1 h2 h3 h4 σ τ f H locs ls HR I hl
    refine lv_iload hx hb dL_law_23 (lv_at hl 0 rfl) ?_
    refine lv_aload_n hx hb dL_law_25 rfl (lv_at hl 1 rfl) ?_
    refine va_slen hx hb X.2.2.2.2.1 X.2.2.2.2.2.1 (fun h => by have := X.2.2.2.2.2.1; have h : s.heap.size ≤ b := h; omega) I.2.2.2 dL_law_26 ?_
    refine lv_bipush (v := 6) hx hb dL_law_27 (by decide) ?_
    refine lv_isub hx hb dL_law_29 ?_
    refine lv_icmp_gt (tgt := 1649) hx hb dL_law_30 (by decide) (fun _ => ?_) (fun h => ?_)
    · exact hend H locs ls cells slots (by omega) (by omega) I.2.2.2
    · have := lw_cmp hL h2 h
      omega
  | succ k ih =>
    intro n cells slots h1 h2 h3 h4 σ τ f H locs ls HR I hl
    refine lv_iload hx hb dL_law_23 (lv_at hl 0 rfl) ?_
    refine lv_aload_n hx hb dL_law_25 rfl (lv_at hl 1 rfl) ?_
    refine va_slen hx hb X.2.2.2.2.1 X.2.2.2.2.2.1 (fun h => by have := X.2.2.2.2.2.1; have h : s.heap.size ≤ b := h; omega) I.2.2.2 dL_law_26 ?_
    refine lv_bipush (v := 6) hx hb dL_law_27 (by decide) ?_
    refine lv_isub hx hb dL_law_29 ?_
    refine lv_icmp_gt (tgt := 1649) hx hb dL_law_30 (by decide) (fun _ => ?_) (fun h => ?_)
    · exact hend H locs ls cells slots (by omega) (by omega) I.2.2.2
    · have hn := lw_cmp hL h2 h
      refine lv_aload_n hx hb dL_law_33 rfl (lv_at hl 1 rfl) ?_
      refine lv_iload hx hb dL_law_34 (lv_at hl 0 rfl) ?_
      refine lw_sld X I (n := n) (by omega) hL dL_law_36 ?_
      refine lv_bipush (v := 63) hx hb dL_law_37 (by decide) ?_
      refine lv_iand hx hb dL_law_39 ?_
      refine lw_switch X hl9 hL hn O HR I hl (by omega) (by omega) ?_ (lw_and63 (xs n)).1
      intro σ τ f H locs ls HR I hl
      refine lv_iinc (v := nI (n + 6)) (lv' := lw_lv s P Pm b (nI (n + 6))) hx hb dL_law_1643 hl (k := 0) rfl (by rw [← lw_nI]; rfl) (by decide) rfl (fun ls hl => ?_)
      refine lv_goto (tgt := 23) hx hb dL_law_1646 (by decide) ?_
      exact ih (n + 6) (cells + 1) (slots + 6) (by omega) (by omega) (by omega) (by omega) σ τ f H locs ls HR I hl
/-! the begin: x, m, out -/
def lw_sh (i : Nat) : sgE := if i < 332 then shC i else match shM (i - 332) with
  | .inl (q, ks) => .inl (q, ks.map (fun t => if t < 3 then t else t + 332))
  | .inr z => .inr z
def lw_Pm (P : sgP) : sgP := (P.1, P.2.1, P.2.2.1, fun i => sgA P (332 + i), P.2.2.2.2)
def lw_s0 : sgS := (fun _ _ => 0, fun _ => 0)
def lw_sC : sgS := sg_up (sg_up lw_s0 21 5 (-1)) 0 14 2
def lw_sB : sgS := sg_up (sg_up lw_sC 332 36 (-1)) 332 37 2
def lw_sM : sgS := sg_up (sg_up lw_s0 0 36 (-1)) 0 37 2
theorem lw_sh_lo {j : Nat} (h : j < 332) : lw_sh j = shC j := if_pos h
theorem lw_sh_hi {j : Nat} : lw_sh (332 + j) = match shM j with
  | .inl (q, ks) => .inl (q, ks.map (fun t => if t < 3 then t else t + 332))
  | .inr z => .inr z := by
  unfold lw_sh
  rw [if_neg (by omega), Nat.add_sub_cancel_left]
theorem lw_fl (ad : Nat → Nat) (f : Nat → Int32) (L : Int64) : ∀ (ks : List Nat) (k : Nat), sg_fl (fun i => ad (332 + i)) f L k ks = sg_fl ad f L k (ks.map (fun t => if t < 3 then t else t + 332)) := by
  intro ks
  induction ks with
  | nil => intro k; rfl
  | cons t ks ih =>
    intro k
    show sg_fv _ f L k t :: sg_fl _ f L (k + 1) ks = sg_fv ad f L k (if t < 3 then t else t + 332) :: sg_fl ad f L (k + 1) _
    rw [ih (k + 1)]
    congr 1
    match t with
    | 0 => rfl
    | 1 => rfl
    | 2 => rfl
    | j + 3 =>
      rw [if_neg (by omega), show j + 3 + 332 = (332 + j) + 3 by omega]
      rfl
theorem lw_g0 (j : Nat) : ∀ t N g, shM j = .inr (t, N, g) → t < 2 := by
  by_cases h : j < 35
  · have key : ∀ j : Fin 35, (match shM j with | .inl _ => true | .inr z => decide (z.1 < 2)) = true := by decide +kernel
    intro t N g e9
    have := key ⟨j, h⟩
    simp only [e9] at this
    exact of_decide_eq_true this
  · intro t N g e9
    unfold shM at e9
    rw [List.getD_eq_getElem?_getD, List.getElem?_eq_none (by show 35 ≤ j; omega)] at e9
    cases e9
    decide
theorem lw_split {P : sgP} {H : Heap} {σ : sgS} (h : va_P (sgD P) vwCl (sg_w P lw_sh 367 σ) H) : va_P (sgD P) vwCl (sg_w P shC 332 σ) H ∧ va_P (sgD P) vwCl (sg_w (lw_Pm P) shM 35 (fun i => σ.1 (332 + i), fun i => σ.2 (332 + i))) H := by
  refine ⟨fun k q hk => ?_, fun k q hk => ?_⟩
  · have hkn : k < 332 := by have := (List.getElem?_eq_some_iff.mp hk).1; rwa [sg_w_len] at this
    rw [sg_at hkn] at hk
    have := h k (sgA P k, sg_ent P lw_sh σ k) (sg_at (by omega))
    have e1 : sg_ent P lw_sh σ k = sg_ent P shC σ k := by unfold sg_ent; rw [lw_sh_lo hkn]
    rw [e1] at this
    cases hk
    exact this
  · have hkn : k < 35 := by have := (List.getElem?_eq_some_iff.mp hk).1; rwa [sg_w_len] at this
    rw [sg_at hkn] at hk
    have := h (332 + k) (sgA P (332 + k), sg_ent P lw_sh σ (332 + k)) (sg_at (by omega))
    have e1 : sg_ent P lw_sh σ (332 + k) = sg_ent (lw_Pm P) shM (fun i => σ.1 (332 + i), fun i => σ.2 (332 + i)) k := by
      unfold sg_ent
      rw [lw_sh_hi]
      cases hs : shM k with
      | inl z => exact congrArg (fun x => Sum.inr (z.1, x)) (lw_fl (sgA P) (σ.1 (332 + k)) (σ.2 (332 + k)) z.2 0).symm
      | inr z =>
        have ht := lw_g0 k z.1 z.2.1 z.2.2 hs
        show sg_ar P _ z.1 z.2.1 z.2.2 = sg_ar (lw_Pm P) _ z.1 z.2.1 z.2.2
        rw [sg_ar, sg_ar, if_pos ht, if_pos ht]
        rfl
    rw [e1] at this
    cases hk
    exact this
theorem lw_tau : ((fun i => lw_sB.1 (332 + i), fun i => lw_sB.2 (332 + i)) : sgS) = lw_sM := by
  have key : ∀ i k, lw_sB.1 (332 + i) k = lw_sM.1 i k := by
    intro i k
    simp only [lw_sB, lw_sC, lw_sM, lw_s0, sg_up, sg_row]
    by_cases h : i = 0
    · subst h; simp
    · simp [h, show 332 + i ≠ 332 by omega, show 332 + i ≠ 0 by omega, show 332 + i ≠ 21 by omega]
  exact Prod.ext (funext fun i => funext fun k => key i k) rfl
theorem lw_sBC {P : sgP} : sg_w P shC 332 lw_sB = sg_w P shC 332 lw_sC := by
  apply List.map_congr_left
  intro i hi
  have hi : i < 332 := List.mem_range.mp hi
  have e1 : lw_sB.1 i = lw_sC.1 i := by
    unfold lw_sB sg_up
    rw [sg_row_nt (by omega), sg_row_nt (by omega)]
  have e2 : lw_sB.2 i = lw_sC.2 i := rfl
  unfold sg_ent
  rw [e1, e2]
theorem lw_begin {H : Heap} {locs : List Loc} (hH : H = s.heap) (hlo : locs = []) (hb9 : ∀ j, sgA P j = s.heap.size + j) (X : sg_C P (lw_A s) 1400 p room_1 s m #[Value.ref b] c cL_law 7 RL) (hAO : sg_AO s) {ls : Array Slot} (hl : lv_has ls 7 [(0, .ref b)])
    (kk : ∀ (cL : ClassId) (f : Nat → Int64) (H : Heap) (locs : List Loc) (ls : Array Slot), va_K (sgD P) vwCl [(cL, .long)] s → lw_I s P (lw_Pm P) cL lw_sC lw_sM f H locs → lv_has ls 7 (lw_lv s P (lw_Pm P) b (nI 0)) → W p l e room_1 s m #[Value.ref b] below meth c H locs 368 21680 Q (F0 m 23 ls [])) :
    W p l e room_1 s m #[Value.ref b] below meth c H locs 0 0 Q (F0 m 0 ls []) := by
  subst hH hlo
  have hx := X.1.1
  have hb := X.1.2.1
  have hts := X.1.2.2.2.2
  have J : sg_J P lw_sh 0 (lw_A s) s.heap lw_s0 s.heap [] := ⟨⟨fun k q hk => (by cases hk), ⟨fun i j x y hi => (by cases hi), fun k q hk => (by cases hk)⟩, va_S.rf⟩, by rw [hb9]; rfl, fun j _ => ⟨rfl, rfl⟩⟩
  refine sg_newO X hb9 J (index := 8) (ci := 11) ⟨sgG_11, RX11, TX11, 16, rfl, inlX11, qw_0, qw_1, qw_2⟩ rfl (ks := [2, 2, 2, 2, 2, 2, 2, 2, 2, 2, 2, 2, 2, 2, 0, 1]) (fresh_11 (sgA P)) (by decide) (by decide) dL_law_0 (fun H J => ?_)
  refine lv_dup hx hb dL_law_3 rfl ?_
  refine sg_callI (base := s.heap.size) (index := 15) (i := 0) (As := []) (np := 0) (mc := 331) (ms := 4511) (lev := 5) (n' := 332) (sh' := shC) (σ' := lw_sC) X hAO hb9 J ⟨by decide +kernel, by decide +kernel, by decide +kernel⟩ rfl qw_8 qw_9 qw_2 qw_10 (by decide) (by decide) (by decide) (fun j hj => ?_) (k_X11_init hb9 J.2.2 sg_su_at) hl.1 rfl rfl (Nat.le_of_ble_eq_true rfl) dL_law_4 ⟨by decide, by decide⟩ (fun H locs J => ?_)
  · unfold lw_sC sg_up
    rw [sg_row_nt (by omega), sg_row_nt (by omega)]
    exact ⟨rfl, rfl⟩
  refine lv_astore_n (lv' := [(1, .ref (sgA P 0)), (0, .ref b)]) hx hb dL_law_7 rfl hl (by decide) rfl (fun ls hl => ?_)
  refine sg_newO X hb9 (sg_J_congr J (fun j hj => (lw_sh_lo hj).symm)) (index := 16) (ci := 12) ⟨sgG_12, RX12, TX12, 58, rfl, inlX12, qw_3, qw_4, qw_5⟩ rfl (ks := [0, 2, 0, 0, 0, 0, 2, 2, 2, 2, 2, 2, 2, 0, 0, 2, 2, 2, 2, 2, 2, 0, 0, 0, 2, 2, 2, 2, 0, 0, 0, 2, 2, 0, 2, 2, 0, 0, 2, 2, 0, 2, 0, 1, 2, 2, 0, 0, 0, 2, 2, 2, 2, 2, 0, 2, 2, 0]) (fresh_12 (sgA P)) (by decide) (by decide) dL_law_8 (fun H J => ?_)
  refine lv_dup hx hb dL_law_11 rfl ?_
  refine sg_callI (base := s.heap.size) (index := 18) (i := 332) (As := []) (np := 0) (mc := 34) (ms := 17094) (lev := 3) (n' := 367) (sh' := lw_sh) (σ' := lw_sB) X hAO hb9 J ⟨by decide +kernel, by decide +kernel, by decide +kernel⟩ rfl qw_169 qw_170 qw_5 qw_171 (by decide) (by decide) (by decide) (fun j hj => ?_) (k_X12_init (i := 332) hb9 J.2.2 sg_su_at (fun j hj => sg_su_ne (by omega)) rfl rfl rfl rfl rfl rfl rfl rfl rfl rfl rfl rfl rfl rfl rfl rfl rfl rfl rfl rfl rfl rfl rfl rfl rfl rfl rfl rfl rfl rfl rfl rfl rfl rfl rfl) hl.1 rfl rfl (Nat.le_of_ble_eq_true rfl) dL_law_12 ⟨by decide, by decide⟩ (fun H locs J => ?_)
  · unfold lw_sB lw_sC sg_up
    rw [sg_row_nt (by omega), sg_row_nt (by omega), sg_row_nt (by omega), sg_row_nt (by omega)]
    exact ⟨rfl, rfl⟩
  refine lv_astore_n (lv' := [(2, .ref (sgA P 332)), (1, .ref (sgA P 0)), (0, .ref b)]) hx hb dL_law_15 rfl hl (by decide) rfl (fun ls hl => ?_)
  refine lv_iconst (v := 1) hx hb dL_law_16 (by decide) ?_
  refine va_newaK (atype := .long) (N := 1) hx hb (hts _ qw_6) rfl dL_law_17 rfl (by decide) (by decide) (by decide) (by decide) (by decide) J.2.1 fun H1 cA e1 z1 o1 hAr hNm => ?_
  refine lv_astore_n (lv' := [(3, .ref (lw_o s)), (2, .ref (sgA P 332)), (1, .ref (sgA P 0)), (0, .ref b)]) hx hb dL_law_19 rfl hl (by decide) (by rw [hb9]; rfl) (fun ls hl => ?_)
  refine lv_iconst (v := 0) hx hb dL_law_20 (by decide) ?_
  refine lv_istore (lv' := [(4, .int 0), (3, .ref (lw_o s)), (2, .ref (sgA P 332)), (1, .ref (sgA P 0)), (0, .ref b)]) hx hb dL_law_21 hl (by decide) rfl (fun ls hl => ?_)
  have h1 := J.1.2.2
  have hz := J.2.1
  have hP : va_P (sgD P) vwCl (sg_w P lw_sh 367 lw_sB) H1 := J.1.1.kept (fun k x hx => o1 x.1 (by rw [← hz]; exact (J.1.1 k x hx).lt))
  obtain ⟨hP1, hP2⟩ := lw_split hP
  rw [lw_tau] at hP2
  rw [lw_sBC] at hP1
  refine kk cA (fun _ => 0) H1 locs ls ⟨X.2.1.1, fun k q hk => ?_⟩ ⟨hP1, hP2, fun k x hx => ?_, ⟨Nat.le_trans h1.1 (by omega), fun x g1 g2 => (o1 x (by rw [← hz]; exact Nat.lt_of_lt_of_le g1 h1.1)).trans (h1.2.1 x g1 g2), h1.2.2⟩⟩ (lv_sub hl [0, 4, 3, 2, 1] rfl)
  · have hz1 : k < 1 := (List.getElem?_eq_some_iff.mp hk).1
    rw [show k = 0 by omega] at hk
    cases hk
    exact ⟨hAr, hNm⟩
  · have hz1 : k < 1 := (List.getElem?_eq_some_iff.mp hx).1
    rw [show k = 0 by omega] at hx
    cases hx
    show H1[s.heap.size + 367]? = _
    rw [← hb9, e1]
    rfl
end LAWL
