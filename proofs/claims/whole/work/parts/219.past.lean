theorem sg_tail_up {σ : sgS} {n i k : Nat} {v : Int32} (h0 : ∀ j, n ≤ j → σ.1 j = (fun _ => 0) ∧ σ.2 j = 0) (hi : i < n) : ∀ j, n ≤ j → (sg_up σ i k v).1 j = (fun _ => 0) ∧ (sg_up σ i k v).2 j = 0 := fun j hj => by
  have e1 : (sg_up σ i k v).1 j = σ.1 j := sg_row_nt (by omega)
  rw [e1]
  exact h0 j hj
theorem sg_tail_ge {σ : sgS} {n n' : Nat} (h0 : ∀ j, n ≤ j → σ.1 j = (fun _ => 0) ∧ σ.2 j = 0) (h : n ≤ n') : ∀ j, n' ≤ j → σ.1 j = (fun _ => 0) ∧ σ.2 j = 0 := fun j hj => h0 j (by omega)
section PST
variable {p : Program} {l : Launch} {e : Env} {R : Room} {s : State} {m : MethodId} {args : Array Value} {below : List Frame} {meth : Method} {c : Code} {Q : State → Prop} {P : sgP} {A : Nat → Prop} {base : Nat} {S : Nat → sgE} {i : Nat} {σ : sgS}
set_option maxHeartbeats 4000000 in
set_option maxRecDepth 100000 in
theorem k_X6_loop (hb9 : ∀ j, sgA P j = base + j) (X : sg_C P A 4 p R s m args c cX6_init 2 RX6) (hAO : sg_AO s) (hmc : 249 ≤ R.cells) (hms : 2239 ≤ R.slots) (eS : ∀ j t, j < 40 → t < 6 → S (i + 10 + 6 * j + t) = shSt (i + 10 + 6 * j) t) {ks : List Nat} (hks : ks[0]? = some (i + 1 + 3))
    (hk : ∀ (H : Heap) (locs : List Loc) (ls : Array Slot), sg_J P (sg_su (sg_su S (i + 1) (.inr (2, 40, sg_gj i 40))) i (.inl (6, ks))) (i + 250) A s.heap σ H locs → W p l e R s m args below meth c H locs 249 2239 Q (F0 m 69 ls [])) :
    ∀ (d j : Nat), j + d = 40 → ∀ (H : Heap) (locs : List Loc) (ls : Array Slot), sg_J P (sg_su (sg_su S (i + 1) (.inr (2, 40, sg_gj i j))) i (.inl (6, ks))) (i + 10 + 6 * j) A s.heap σ H locs → lv_has ls 2 [(1, .int (nI j)), (0, .ref (sgA P i))] → W p l e R s m args below meth c H locs (9 + 6 * j) (679 + 39 * j) Q (F0 m 44 ls []) := by
  have hx := X.1.1
  have hb := X.1.2.1
  intro d
  induction d with
  | zero =>
    intro j hj H locs ls J hl
    obtain rfl : j = 40 := by omega
    refine lv_iload_n hx hb dX6_init_44 rfl (lv_at hl 0 rfl) ?_
    refine lv_bipush (v := 40) hx hb dX6_init_45 (by decide) ?_
    refine lv_icmp_ge (tgt := 69) hx hb dX6_init_47 (by decide) (fun z => ?_) (fun z => absurd (show (40 : Int32) ≤ nI 40 by decide) z)
    exact hk _ _ _ J
  | succ d ih =>
    intro j hj H locs ls J hl
    have hlt : j < 40 := by omega
    refine lv_iload_n hx hb dX6_init_44 rfl (lv_at hl 0 rfl) ?_
    refine lv_bipush (v := 40) hx hb dX6_init_45 (by decide) ?_
    refine lv_icmp_ge (tgt := 69) hx hb dX6_init_47 (by decide) (fun z => absurd z (nI_ge hlt (by decide))) (fun z => ?_)
    refine lv_aload_n hx hb dX6_init_50 rfl (lv_at hl 1 rfl) ?_
    refine sg_getr X J.1 fk_X6_11 (j := i + 1) (by omega) sg_su_at hks dX6_init_51 ?_
    refine lv_iload_n hx hb dX6_init_54 rfl (lv_at hl 0 rfl) ?_
    refine sg_newO X hb9 J (index := 9) (ci := 8) ⟨sgG_8, RX8, TX8, 8, rfl, inlX8, qw_132, qw_36, qw_37⟩ rfl (fresh_8 (sgA P)) (by omega) (by omega) dX6_init_55 (fun H J => ?_)
    refine lv_dup hx hb dX6_init_58 rfl ?_
    have hT : ∀ t, t < 6 → (sg_su (sg_su S (i + 1) (.inr (2, 40, sg_gj i j))) i (.inl (6, ks))) (i + 10 + 6 * j + t) = shSt (i + 10 + 6 * j) t := fun t ht => by
      rw [sg_su_ne (by omega), sg_su_ne (by omega)]
      exact eS j t hlt ht
    refine sg_callIN (base := base) (host := RX11) (index := 21) (i := i + 10 + 6 * j) (As := []) (np := 0) (mc := 5) (ms := 31) (lev := 3) (n' := i + 10 + 6 * j + 6) X hAO hb9 J ⟨by decide +kernel, by decide +kernel, by decide +kernel⟩ rfl (List.mem_of_getElem? (i := 73) rfl) qw_110 qw_37 qw_111 (by decide) (by decide) (by omega) (sg_tail_ge J.2.2 (by omega)) (k_X8_init (S := sg_su (sg_su S (i + 1) (.inr (2, 40, sg_gj i j))) i (.inl (6, ks))) hb9 J.2.2 sg_su_at (fun q hq => sg_su_ne (by omega)) (hT 0 (by decide)) (hT 1 (by decide)) (hT 2 (by decide)) (hT 3 (by decide)) (hT 4 (by decide)) (hT 5 (by decide))) hl.1 rfl rfl (Nat.le_of_ble_eq_true rfl) dX6_init_59 ⟨by omega, by omega⟩ (fun H locs J => ?_)
    refine sg_aast X J (i := i + 1) (j := i + 10 + 6 * j) (N := 40) (by omega) (by omega) (by rw [sg_su_ne (by omega), sg_su_at]) (hT 0 (by decide)) (vp_in_nI hlt (by decide)) dX6_init_62 (fun H locs J => ?_)
    refine lv_iinc (v := nI (j + 1)) (lv' := [(1, .int (nI (j + 1))), (0, .ref (sgA P i))]) hx hb dX6_init_63 hl (k := 0) rfl (nI_1 j) (by decide) rfl (fun ls hl => ?_)
    refine lv_goto (tgt := 44) hx hb dX6_init_66 (by decide) ?_
    have h9 := ih (j + 1) (by omega) H locs ls (by
      rw [show i + 10 + 6 * (j + 1) = i + 10 + 6 * j + 6 by omega]
      refine sg_J_congr J (fun q hq => ?_)
      by_cases h1 : q = i + 1
      · subst h1
        rw [sg_su_at, sg_su_ne (by omega), sg_su_at, nI_clamp (by omega)]
        congr 3
        funext z
        unfold sg_gj
        by_cases hz : z = j
        · subst hz; simp
        · rw [if_neg hz]
          by_cases hz2 : z < j
          · rw [if_pos hz2, if_pos (by omega)]
          · rw [if_neg hz2, if_neg (by omega)]
      · rw [sg_su_ne h1]
        by_cases h2 : q = i
        · subst h2; rw [sg_su_at, sg_su_at]
        · rw [sg_su_ne h2, sg_su_ne h2, sg_su_ne h1, sg_su_ne h1]) hl
    rw [show 9 + 6 * (j + 1) = 9 + 6 * j + 1 + 5 by omega, show 679 + 39 * (j + 1) = 679 + 39 * j + 8 + 31 by omega] at h9
    exact h9
end PST
set_option maxHeartbeats 4000000 in
set_option maxRecDepth 100000 in
theorem k_X6_init {l : Launch} {P : sgP} {base : Nat} (hb9 : ∀ j, sgA P j = base + j) {sh S : Nat → sgE} {i : Nat} {σ : sgS} (h0 : ∀ j, i + 1 ≤ j → σ.1 j = (fun _ => 0) ∧ σ.2 j = 0) (hs : sh i = .inl (6, [2, 0, 0, 2, 2, 2, 0])) (hlt : ∀ j, j < i → sh j = S j) (e0 : S i = .inl (6, [i + 1 + 3, 0, 0, i + 2 + 3, i + 3 + 3, i + 9 + 3, 0])) (e1 : S (i + 1) = .inr (2, 40, sg_gj i 40)) (e2 : S (i + 2) = .inr (0, 300, sg_g0)) (e3 : ∀ t, t < 6 → S (i + 3 + t) = shSt (i + 3) t) (e9 : S (i + 9) = .inr (0, 300, sg_g0)) (eS : ∀ j t, j < 40 → t < 6 → S (i + 10 + 6 * j + t) = shSt (i + 10 + 6 * j) t) : sg_MI P l yX6_init cX6_init 2 4 249 2239 [.ref (sgA P i)] sh (i + 1) σ S (i + 250) σ := by
  refine sg_mkI hb9 (by decide +kernel) rfl (Nat.le_of_ble_eq_true rfl) h0 ?_
  intro p e R s m args below meth c Q A ls H locs X hin hAO hmc hms J hl hk
  have hx := X.1.1
  have hb := X.1.2.1
  refine lv_aload_n hx hb dX6_init_0 rfl (lv_at hl 0 rfl) ?_
  refine sg_objI X hl.1 (by decide) qw_131 qw_12 qw_13 dX6_init_1 ?_
  refine lv_aload_n hx hb dX6_init_4 rfl (lv_at hl 0 rfl) ?_
  refine lv_bipush (v := 40) hx hb dX6_init_5 (by decide) ?_
  refine sg_newQ (N := 40) X hAO hb9 J qw_132 (by decide) (by decide) (by decide) (by omega) (by omega) dX6_init_7 (fun H J => ?_)
  have J : sg_J P (sg_su (sg_su S (i + 1) (.inr (2, 40, sg_gj i 0))) i (.inl (6, [2, 0, 0, 2, 2, 2, 0]))) (i + 2) A s.heap σ H locs := sg_J_congr J (fun j hj => by
    by_cases h1 : j = i + 1
    · subst h1; rw [sg_su_at, sg_su_ne (by omega), sg_su_at]; rfl
    · rw [sg_su_ne h1]
      by_cases h2 : j = i
      · subst h2; rw [sg_su_at, hs]
      · rw [sg_su_ne h2, sg_su_ne h1]; exact hlt j (by omega))
  have g2 : (sg_su S (i + 1) (.inr (2, 40, sg_gj i 0))) (i + 2) = .inr (0, 300, sg_g0) := by rw [sg_su_ne (by omega)]; exact e2
  have g9 : (sg_su S (i + 1) (.inr (2, 40, sg_gj i 0))) (i + 9) = .inr (0, 300, sg_g0) := by rw [sg_su_ne (by omega)]; exact e9
  refine mk_putr (ks' := [i + 1 + 3, 0, 0, 2, 2, 2, 0]) (ty := .array (.object "RoadWheels$State")) X hin J fk_X6_11 sgG_6 rfl rfl rfl (by decide +kernel) rfl rfl (by omega) (Nat.le_of_ble_eq_true rfl) rfl dX6_init_10 (fun H locs J => ?_)
  refine lv_aload_n hx hb dX6_init_13 rfl (lv_at hl 0 rfl) ?_
  refine lv_sipush (v := 300) hx hb dX6_init_14 (by decide) ?_
  refine mk_newA (N := 300) X hb9 J (Or.inl ⟨rfl, rfl⟩) qw_60 (by decide) (by decide) (by decide) (by omega) g2 (by omega) (by omega) dX6_init_17 (fun H J => ?_)
  refine mk_putr (ks' := [i + 1 + 3, 0, 0, i + 2 + 3, 2, 2, 0]) (ty := .array .int) X hin J fk_X6_17 sgG_6 rfl rfl rfl (by decide +kernel) rfl rfl (by omega) (Nat.le_of_ble_eq_true rfl) rfl dX6_init_19 (fun H locs J => ?_)
  refine lv_aload_n hx hb dX6_init_22 rfl (lv_at hl 0 rfl) ?_
  refine sg_newO X hb9 J (index := 9) (ci := 8) ⟨sgG_8, RX8, TX8, 8, rfl, inlX8, qw_132, qw_36, qw_37⟩ rfl (fresh_8 (sgA P)) (by omega) (by omega) dX6_init_23 (fun H J => ?_)
  refine lv_dup hx hb dX6_init_26 rfl ?_
  have hT : ∀ t, t < 6 → (sg_su (sg_su S (i + 1) (.inr (2, 40, sg_gj i 0))) i (.inl (6, [i + 1 + 3, 0, 0, i + 2 + 3, 2, 2, 0]))) (i + 3 + t) = shSt (i + 3) t := fun t ht => by
    rw [sg_su_ne (by omega), sg_su_ne (by omega)]
    exact e3 t ht
  refine sg_callIN (base := base) (host := RX11) (index := 21) (i := i + 3) (As := []) (np := 0) (mc := 5) (ms := 31) (lev := 3) (n' := i + 3 + 6) X hAO hb9 J ⟨by decide +kernel, by decide +kernel, by decide +kernel⟩ rfl (List.mem_of_getElem? (i := 73) rfl) qw_110 qw_37 qw_111 (by decide) (by decide) (by omega) (sg_tail_ge J.2.2 (by omega)) (k_X8_init (S := sg_su (sg_su S (i + 1) (.inr (2, 40, sg_gj i 0))) i (.inl (6, [i + 1 + 3, 0, 0, i + 2 + 3, 2, 2, 0]))) hb9 J.2.2 sg_su_at (fun q hq => sg_su_ne (by omega)) (hT 0 (by decide)) (hT 1 (by decide)) (hT 2 (by decide)) (hT 3 (by decide)) (hT 4 (by decide)) (hT 5 (by decide))) hl.1 rfl rfl (Nat.le_of_ble_eq_true rfl) dX6_init_27 ⟨by omega, by omega⟩ (fun H locs J => ?_)
  refine mk_putr (ks' := [i + 1 + 3, 0, 0, i + 2 + 3, i + 3 + 3, 2, 0]) (ty := .object "RoadWheels$State") X hin J fk_X6_22 sgG_6 rfl rfl rfl (by decide +kernel) rfl rfl (by omega) (Nat.le_of_ble_eq_true rfl) rfl dX6_init_30 (fun H locs J => ?_)
  refine lv_aload_n hx hb dX6_init_33 rfl (lv_at hl 0 rfl) ?_
  refine lv_sipush (v := 300) hx hb dX6_init_34 (by decide) ?_
  refine mk_newA (N := 300) X hb9 J (Or.inl ⟨rfl, rfl⟩) qw_60 (by decide) (by decide) (by decide) (by omega) g9 (by omega) (by omega) dX6_init_37 (fun H J => ?_)
  refine mk_putr (ks' := [i + 1 + 3, 0, 0, i + 2 + 3, i + 3 + 3, i + 9 + 3, 0]) (ty := .array .int) X hin J fk_X6_26 sgG_6 rfl rfl rfl (by decide +kernel) rfl rfl (by omega) (Nat.le_of_ble_eq_true rfl) rfl dX6_init_39 (fun H locs J => ?_)
  refine lv_iconst (v := 0) hx hb dX6_init_42 (by decide) ?_
  refine lv_istore_n (lv' := [(1, .int 0), (0, .ref (sgA P i))]) hx hb dX6_init_43 rfl hl (by decide) rfl (fun ls hl => ?_)
  refine k_X6_loop hb9 X hAO hmc hms eS (ks := [i + 1 + 3, 0, 0, i + 2 + 3, i + 3 + 3, i + 9 + 3, 0]) rfl (fun H locs ls J => ?_) 40 0 rfl H locs ls J hl
  refine hk _ _ _ _ (sg_J_congr J (fun j hj => ?_)) dX6_init_69
  by_cases h1 : j = i
  · subst h1; rw [sg_su_at, e0]
  · rw [sg_su_ne h1]
    by_cases h2 : j = i + 1
    · subst h2
      rw [sg_su_at, e1]
    · rw [sg_su_ne h2]
