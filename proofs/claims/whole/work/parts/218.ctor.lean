theorem fresh_0 (ad : Nat → Nat) : ∀ j, j < 13 → defaultValue (sg_tyOf 0 j) = vp_V (sg_fl ad (fun _ => 0) 0 0 [0, 0, 0, 0, 0, 0, 2, 2, 2, 2, 2, 2, 2]) j := by
  intro j hj
  match j, hj with
  | 0, _ => rfl
  | 1, _ => rfl
  | 2, _ => rfl
  | 3, _ => rfl
  | 4, _ => rfl
  | 5, _ => rfl
  | 6, _ => rfl
  | 7, _ => rfl
  | 8, _ => rfl
  | 9, _ => rfl
  | 10, _ => rfl
  | 11, _ => rfl
  | 12, _ => rfl
  | j + 13, h => exact absurd h (by omega)
theorem fresh_1 (ad : Nat → Nat) : ∀ j, j < 5 → defaultValue (sg_tyOf 1 j) = vp_V (sg_fl ad (fun _ => 0) 0 0 [2, 2, 2, 2, 2]) j := by
  intro j hj
  match j, hj with
  | 0, _ => rfl
  | 1, _ => rfl
  | 2, _ => rfl
  | 3, _ => rfl
  | 4, _ => rfl
  | j + 5, h => exact absurd h (by omega)
theorem fresh_2 (ad : Nat → Nat) : ∀ j, j < 7 → defaultValue (sg_tyOf 2 j) = vp_V (sg_fl ad (fun _ => 0) 0 0 [2, 2, 2, 0, 0, 0, 0]) j := by
  intro j hj
  match j, hj with
  | 0, _ => rfl
  | 1, _ => rfl
  | 2, _ => rfl
  | 3, _ => rfl
  | 4, _ => rfl
  | 5, _ => rfl
  | 6, _ => rfl
  | j + 7, h => exact absurd h (by omega)
theorem fresh_3 (ad : Nat → Nat) : ∀ j, j < 3 → defaultValue (sg_tyOf 3 j) = vp_V (sg_fl ad (fun _ => 0) 0 0 [2, 2, 0]) j := by
  intro j hj
  match j, hj with
  | 0, _ => rfl
  | 1, _ => rfl
  | 2, _ => rfl
  | j + 3, h => exact absurd h (by omega)
theorem fresh_4 (ad : Nat → Nat) : ∀ j, j < 6 → defaultValue (sg_tyOf 4 j) = vp_V (sg_fl ad (fun _ => 0) 0 0 [2, 2, 2, 0, 0, 0]) j := by
  intro j hj
  match j, hj with
  | 0, _ => rfl
  | 1, _ => rfl
  | 2, _ => rfl
  | 3, _ => rfl
  | 4, _ => rfl
  | 5, _ => rfl
  | j + 6, h => exact absurd h (by omega)
theorem fresh_5 (ad : Nat → Nat) : ∀ j, j < 6 → defaultValue (sg_tyOf 5 j) = vp_V (sg_fl ad (fun _ => 0) 0 0 [2, 2, 2, 2, 2, 0]) j := by
  intro j hj
  match j, hj with
  | 0, _ => rfl
  | 1, _ => rfl
  | 2, _ => rfl
  | 3, _ => rfl
  | 4, _ => rfl
  | 5, _ => rfl
  | j + 6, h => exact absurd h (by omega)
theorem fresh_6 (ad : Nat → Nat) : ∀ j, j < 7 → defaultValue (sg_tyOf 6 j) = vp_V (sg_fl ad (fun _ => 0) 0 0 [2, 0, 0, 2, 2, 2, 0]) j := by
  intro j hj
  match j, hj with
  | 0, _ => rfl
  | 1, _ => rfl
  | 2, _ => rfl
  | 3, _ => rfl
  | 4, _ => rfl
  | 5, _ => rfl
  | 6, _ => rfl
  | j + 7, h => exact absurd h (by omega)
theorem fresh_7 (ad : Nat → Nat) : ∀ j, j < 10 → defaultValue (sg_tyOf 7 j) = vp_V (sg_fl ad (fun _ => 0) 0 0 [2, 2, 2, 2, 2, 2, 2, 2, 2, 0]) j := by
  intro j hj
  match j, hj with
  | 0, _ => rfl
  | 1, _ => rfl
  | 2, _ => rfl
  | 3, _ => rfl
  | 4, _ => rfl
  | 5, _ => rfl
  | 6, _ => rfl
  | 7, _ => rfl
  | 8, _ => rfl
  | 9, _ => rfl
  | j + 10, h => exact absurd h (by omega)
theorem fresh_8 (ad : Nat → Nat) : ∀ j, j < 8 → defaultValue (sg_tyOf 8 j) = vp_V (sg_fl ad (fun _ => 0) 0 0 [2, 2, 2, 2, 2, 0, 0, 0]) j := by
  intro j hj
  match j, hj with
  | 0, _ => rfl
  | 1, _ => rfl
  | 2, _ => rfl
  | 3, _ => rfl
  | 4, _ => rfl
  | 5, _ => rfl
  | 6, _ => rfl
  | 7, _ => rfl
  | j + 8, h => exact absurd h (by omega)
theorem fresh_9 (ad : Nat → Nat) : ∀ j, j < 3 → defaultValue (sg_tyOf 9 j) = vp_V (sg_fl ad (fun _ => 0) 0 0 [2, 0, 0]) j := by
  intro j hj
  match j, hj with
  | 0, _ => rfl
  | 1, _ => rfl
  | 2, _ => rfl
  | j + 3, h => exact absurd h (by omega)
theorem fresh_10 (ad : Nat → Nat) : ∀ j, j < 5 → defaultValue (sg_tyOf 10 j) = vp_V (sg_fl ad (fun _ => 0) 0 0 [2, 2, 2, 0, 0]) j := by
  intro j hj
  match j, hj with
  | 0, _ => rfl
  | 1, _ => rfl
  | 2, _ => rfl
  | 3, _ => rfl
  | 4, _ => rfl
  | j + 5, h => exact absurd h (by omega)
theorem fresh_11 (ad : Nat → Nat) : ∀ j, j < 16 → defaultValue (sg_tyOf 11 j) = vp_V (sg_fl ad (fun _ => 0) 0 0 [2, 2, 2, 2, 2, 2, 2, 2, 2, 2, 2, 2, 2, 2, 0, 1]) j := by
  intro j hj
  match j, hj with
  | 0, _ => rfl
  | 1, _ => rfl
  | 2, _ => rfl
  | 3, _ => rfl
  | 4, _ => rfl
  | 5, _ => rfl
  | 6, _ => rfl
  | 7, _ => rfl
  | 8, _ => rfl
  | 9, _ => rfl
  | 10, _ => rfl
  | 11, _ => rfl
  | 12, _ => rfl
  | 13, _ => rfl
  | 14, _ => rfl
  | 15, _ => rfl
  | j + 16, h => exact absurd h (by omega)
theorem fresh_12 (ad : Nat → Nat) : ∀ j, j < 58 → defaultValue (sg_tyOf 12 j) = vp_V (sg_fl ad (fun _ => 0) 0 0 [0, 2, 0, 0, 0, 0, 2, 2, 2, 2, 2, 2, 2, 0, 0, 2, 2, 2, 2, 2, 2, 0, 0, 0, 2, 2, 2, 2, 0, 0, 0, 2, 2, 0, 2, 2, 0, 0, 2, 2, 0, 2, 0, 1, 2, 2, 0, 0, 0, 2, 2, 2, 2, 2, 0, 2, 2, 0]) j := by
  intro j hj
  match j, hj with
  | 0, _ => rfl
  | 1, _ => rfl
  | 2, _ => rfl
  | 3, _ => rfl
  | 4, _ => rfl
  | 5, _ => rfl
  | 6, _ => rfl
  | 7, _ => rfl
  | 8, _ => rfl
  | 9, _ => rfl
  | 10, _ => rfl
  | 11, _ => rfl
  | 12, _ => rfl
  | 13, _ => rfl
  | 14, _ => rfl
  | 15, _ => rfl
  | 16, _ => rfl
  | 17, _ => rfl
  | 18, _ => rfl
  | 19, _ => rfl
  | 20, _ => rfl
  | 21, _ => rfl
  | 22, _ => rfl
  | 23, _ => rfl
  | 24, _ => rfl
  | 25, _ => rfl
  | 26, _ => rfl
  | 27, _ => rfl
  | 28, _ => rfl
  | 29, _ => rfl
  | 30, _ => rfl
  | 31, _ => rfl
  | 32, _ => rfl
  | 33, _ => rfl
  | 34, _ => rfl
  | 35, _ => rfl
  | 36, _ => rfl
  | 37, _ => rfl
  | 38, _ => rfl
  | 39, _ => rfl
  | 40, _ => rfl
  | 41, _ => rfl
  | 42, _ => rfl
  | 43, _ => rfl
  | 44, _ => rfl
  | 45, _ => rfl
  | 46, _ => rfl
  | 47, _ => rfl
  | 48, _ => rfl
  | 49, _ => rfl
  | 50, _ => rfl
  | 51, _ => rfl
  | 52, _ => rfl
  | 53, _ => rfl
  | 54, _ => rfl
  | 55, _ => rfl
  | 56, _ => rfl
  | 57, _ => rfl
  | j + 58, h => exact absurd h (by omega)
set_option maxHeartbeats 4000000 in
set_option maxRecDepth 100000 in
theorem k_X9_init {l : Launch} {P : sgP} {base : Nat} (hb9 : ∀ j, sgA P j = base + j) {sh S : Nat → sgE} {i : Nat} {σ : sgS} (h0 : ∀ j, i + 1 ≤ j → σ.1 j = (fun _ => 0) ∧ σ.2 j = 0) (hs : sh i = .inl (9, [2, 0, 0])) (hlt : ∀ j, j < i → sh j = S j) (e0 : S i = .inl (9, [i + 1 + 3, 0, 0])) (e1 : S (i + 1) = .inr (0, 240, sg_g0)) : sg_MI P l yX9_init cX9_init 1 3 1 240 [.ref (sgA P i)] sh (i + 1) σ S (i + 2) σ := by
  refine sg_mkI hb9 (by decide +kernel) rfl (Nat.le_of_ble_eq_true rfl) h0 ?_
  intro p e R s m args below meth c Q A ls H locs X hin hAO hmc hms J hl hk
  have hx := X.1.1
  have hb := X.1.2.1
  have hown := X.1.2.2.2.1
  have J : sg_J P (sg_su S i (.inl (9, [2, 0, 0]))) (i + 1) A s.heap σ H locs := sg_J_congr J (fun j hj => by
    by_cases h : j = i
    · subst h; rw [sg_su_at, hs]
    · rw [sg_su_ne h]; exact hlt j (by omega))
  refine lv_aload_n hx hb dX9_init_0 rfl (lv_at hl 0 rfl) ?_
  refine sg_objI X hl.1 (by decide) qw_65 qw_12 qw_13 dX9_init_1 ?_
  refine lv_aload_n hx hb dX9_init_4 rfl (lv_at hl 0 rfl) ?_
  refine lv_sipush (v := 240) hx hb dX9_init_5 (by decide) ?_
  refine mk_newA (N := 240) X hb9 J (Or.inl ⟨rfl, rfl⟩) qw_60 (by decide) (by decide) (by decide) (by omega) e1 (Nat.le_trans (Nat.le_of_ble_eq_true rfl) hmc) (Nat.le_trans (Nat.le_of_ble_eq_true rfl) hms) dX9_init_8 (fun H J => ?_)
  refine mk_putr (ks' := [i + 1 + 3, 0, 0]) (ty := .array .int) X hin J fk_X9_9 sgG_9 rfl rfl rfl (by decide +kernel) rfl rfl (by omega) (Nat.le_of_ble_eq_true rfl) rfl dX9_init_10 (fun H locs J => ?_)
  exact hk _ _ _ _ (sg_J_congr J (fun j hj => by
    by_cases h : j = i
    · subst h; rw [sg_su_at, e0]
    · rw [sg_su_ne h])) dX9_init_13
set_option maxHeartbeats 4000000 in
set_option maxRecDepth 100000 in
theorem k_X0_init {l : Launch} {P : sgP} {base : Nat} (hb9 : ∀ j, sgA P j = base + j) {sh S : Nat → sgE} {i : Nat} {σ : sgS} (h0 : ∀ j, i + 1 ≤ j → σ.1 j = (fun _ => 0) ∧ σ.2 j = 0) (hs : sh i = .inl (0, [0, 0, 0, 0, 0, 0, 2, 2, 2, 2, 2, 2, 2])) (hlt : ∀ j, j < i → sh j = S j) (e0 : S i = .inl (0, [0, 0, 0, 0, 0, 0, i + 1 + 3, i + 2 + 3, i + 3 + 3, i + 4 + 3, i + 5 + 3, i + 6 + 3, i + 7 + 3])) (e1 : S (i + 1) = .inr (0, 7, sg_g0)) (e2 : S (i + 2) = .inr (0, 12, sg_g0)) (e3 : S (i + 3) = .inr (0, 12, sg_g0)) (e4 : S (i + 4) = .inr (0, 12, sg_g0)) (e5 : S (i + 5) = .inr (0, 12, sg_g0)) (e6 : S (i + 6) = .inr (0, 4, sg_g0)) (e7 : S (i + 7) = .inr (0, 8, sg_g0)) : sg_MI P l yX0_init cX0_init 1 3 7 67 [.ref (sgA P i)] sh (i + 1) σ S (i + 8) σ := by
  refine sg_mkI hb9 (by decide +kernel) rfl (Nat.le_of_ble_eq_true rfl) h0 ?_
  intro p e R s m args below meth c Q A ls H locs X hin hAO hmc hms J hl hk
  have hx := X.1.1
  have hb := X.1.2.1
  have hown := X.1.2.2.2.1
  have J : sg_J P (sg_su S i (.inl (0, [0, 0, 0, 0, 0, 0, 2, 2, 2, 2, 2, 2, 2]))) (i + 1) A s.heap σ H locs := sg_J_congr J (fun j hj => by
    by_cases h : j = i
    · subst h; rw [sg_su_at, hs]
    · rw [sg_su_ne h]; exact hlt j (by omega))
  refine lv_aload_n hx hb dX0_init_0 rfl (lv_at hl 0 rfl) ?_
  refine sg_objI X hl.1 (by decide) qw_69 qw_12 qw_13 dX0_init_1 ?_
  refine lv_aload_n hx hb dX0_init_4 rfl (lv_at hl 0 rfl) ?_
  refine lv_bipush (v := 7) hx hb dX0_init_5 (by decide) ?_
  refine mk_newA (N := 7) X hb9 J (Or.inl ⟨rfl, rfl⟩) qw_60 (by decide) (by decide) (by decide) (by omega) e1 (Nat.le_trans (Nat.le_of_ble_eq_true rfl) hmc) (Nat.le_trans (Nat.le_of_ble_eq_true rfl) hms) dX0_init_7 (fun H J => ?_)
  refine mk_putr (ks' := [0, 0, 0, 0, 0, 0, i + 1 + 3, 2, 2, 2, 2, 2, 2]) (ty := .array .int) X hin J fk_X0_9 sgG_0 rfl rfl rfl (by decide +kernel) rfl rfl (by omega) (Nat.le_of_ble_eq_true rfl) rfl dX0_init_9 (fun H locs J => ?_)
  refine lv_aload_n hx hb dX0_init_12 rfl (lv_at hl 0 rfl) ?_
  refine lv_bipush (v := 12) hx hb dX0_init_13 (by decide) ?_
  refine mk_newA (N := 12) X hb9 J (Or.inl ⟨rfl, rfl⟩) qw_60 (by decide) (by decide) (by decide) (by omega) e2 (Nat.le_trans (Nat.le_of_ble_eq_true rfl) hmc) (Nat.le_trans (Nat.le_of_ble_eq_true rfl) hms) dX0_init_15 (fun H J => ?_)
  refine mk_putr (ks' := [0, 0, 0, 0, 0, 0, i + 1 + 3, i + 2 + 3, 2, 2, 2, 2, 2]) (ty := .array .int) X hin J fk_X0_15 sgG_0 rfl rfl rfl (by decide +kernel) rfl rfl (by omega) (Nat.le_of_ble_eq_true rfl) rfl dX0_init_17 (fun H locs J => ?_)
  refine lv_aload_n hx hb dX0_init_20 rfl (lv_at hl 0 rfl) ?_
  refine lv_bipush (v := 12) hx hb dX0_init_21 (by decide) ?_
  refine mk_newA (N := 12) X hb9 J (Or.inl ⟨rfl, rfl⟩) qw_60 (by decide) (by decide) (by decide) (by omega) e3 (Nat.le_trans (Nat.le_of_ble_eq_true rfl) hmc) (Nat.le_trans (Nat.le_of_ble_eq_true rfl) hms) dX0_init_23 (fun H J => ?_)
  refine mk_putr (ks' := [0, 0, 0, 0, 0, 0, i + 1 + 3, i + 2 + 3, i + 3 + 3, 2, 2, 2, 2]) (ty := .array .int) X hin J fk_X0_18 sgG_0 rfl rfl rfl (by decide +kernel) rfl rfl (by omega) (Nat.le_of_ble_eq_true rfl) rfl dX0_init_25 (fun H locs J => ?_)
  refine lv_aload_n hx hb dX0_init_28 rfl (lv_at hl 0 rfl) ?_
  refine lv_bipush (v := 12) hx hb dX0_init_29 (by decide) ?_
  refine mk_newA (N := 12) X hb9 J (Or.inl ⟨rfl, rfl⟩) qw_60 (by decide) (by decide) (by decide) (by omega) e4 (Nat.le_trans (Nat.le_of_ble_eq_true rfl) hmc) (Nat.le_trans (Nat.le_of_ble_eq_true rfl) hms) dX0_init_31 (fun H J => ?_)
  refine mk_putr (ks' := [0, 0, 0, 0, 0, 0, i + 1 + 3, i + 2 + 3, i + 3 + 3, i + 4 + 3, 2, 2, 2]) (ty := .array .int) X hin J fk_X0_21 sgG_0 rfl rfl rfl (by decide +kernel) rfl rfl (by omega) (Nat.le_of_ble_eq_true rfl) rfl dX0_init_33 (fun H locs J => ?_)
  refine lv_aload_n hx hb dX0_init_36 rfl (lv_at hl 0 rfl) ?_
  refine lv_bipush (v := 12) hx hb dX0_init_37 (by decide) ?_
  refine mk_newA (N := 12) X hb9 J (Or.inl ⟨rfl, rfl⟩) qw_60 (by decide) (by decide) (by decide) (by omega) e5 (Nat.le_trans (Nat.le_of_ble_eq_true rfl) hmc) (Nat.le_trans (Nat.le_of_ble_eq_true rfl) hms) dX0_init_39 (fun H J => ?_)
  refine mk_putr (ks' := [0, 0, 0, 0, 0, 0, i + 1 + 3, i + 2 + 3, i + 3 + 3, i + 4 + 3, i + 5 + 3, 2, 2]) (ty := .array .int) X hin J fk_X0_24 sgG_0 rfl rfl rfl (by decide +kernel) rfl rfl (by omega) (Nat.le_of_ble_eq_true rfl) rfl dX0_init_41 (fun H locs J => ?_)
  refine lv_aload_n hx hb dX0_init_44 rfl (lv_at hl 0 rfl) ?_
  refine lv_iconst (v := 4) hx hb dX0_init_45 (by decide) ?_
  refine mk_newA (N := 4) X hb9 J (Or.inl ⟨rfl, rfl⟩) qw_60 (by decide) (by decide) (by decide) (by omega) e6 (Nat.le_trans (Nat.le_of_ble_eq_true rfl) hmc) (Nat.le_trans (Nat.le_of_ble_eq_true rfl) hms) dX0_init_46 (fun H J => ?_)
  refine mk_putr (ks' := [0, 0, 0, 0, 0, 0, i + 1 + 3, i + 2 + 3, i + 3 + 3, i + 4 + 3, i + 5 + 3, i + 6 + 3, 2]) (ty := .array .int) X hin J fk_X0_27 sgG_0 rfl rfl rfl (by decide +kernel) rfl rfl (by omega) (Nat.le_of_ble_eq_true rfl) rfl dX0_init_48 (fun H locs J => ?_)
  refine lv_aload_n hx hb dX0_init_51 rfl (lv_at hl 0 rfl) ?_
  refine va_ldcS hx hb hown X.2.2.2.2.1.2.2.1.1 dX0_init_52 ?_
  refine sg_callKh (As := []) (v := 8) X J.1 (Nat.le_trans (Nat.le_of_ble_eq_true rfl) hmc) (Nat.le_trans (Nat.le_of_ble_eq_true rfl) hms) mk_X0_32 (by decide) (i := 0) (by decide) (h_J0_length (by decide)) hl.1 rfl rfl (Nat.le_of_ble_eq_true rfl) dX0_init_54 ?_
  refine mk_newA (N := 8) X hb9 J (Or.inl ⟨rfl, rfl⟩) qw_60 (by decide) (by decide) (by decide) (by omega) e7 (Nat.le_trans (Nat.le_of_ble_eq_true rfl) hmc) (Nat.le_trans (Nat.le_of_ble_eq_true rfl) hms) dX0_init_57 (fun H J => ?_)
  refine mk_putr (ks' := [0, 0, 0, 0, 0, 0, i + 1 + 3, i + 2 + 3, i + 3 + 3, i + 4 + 3, i + 5 + 3, i + 6 + 3, i + 7 + 3]) (ty := .array .int) X hin J fk_X0_37 sgG_0 rfl rfl rfl (by decide +kernel) rfl rfl (by omega) (Nat.le_of_ble_eq_true rfl) rfl dX0_init_59 (fun H locs J => ?_)
  exact hk _ _ _ _ (sg_J_congr J (fun j hj => by
    by_cases h : j = i
    · subst h; rw [sg_su_at, e0]
    · rw [sg_su_ne h])) dX0_init_62
set_option maxHeartbeats 4000000 in
set_option maxRecDepth 100000 in
theorem k_X3_init {l : Launch} {P : sgP} {base : Nat} (hb9 : ∀ j, sgA P j = base + j) {sh S : Nat → sgE} {i p1 : Nat} {σ : sgS} (h0 : ∀ j, i + 1 ≤ j → σ.1 j = (fun _ => 0) ∧ σ.2 j = 0) (hs : sh i = .inl (3, [2, 2, 0])) (hlt : ∀ j, j < i → sh j = S j) (e0 : S i = .inl (3, [p1 + 3, i + 1 + 3, 0])) (e1 : S (i + 1) = .inr (0, 240, sg_g0)) : sg_MI P l yX3_init cX3_init 2 3 1 240 [.ref (sgA P i), .ref (sgA P p1)] sh (i + 1) σ S (i + 2) σ := by
  refine sg_mkI hb9 (by decide +kernel) rfl (Nat.le_of_ble_eq_true rfl) h0 ?_
  intro p e R s m args below meth c Q A ls H locs X hin hAO hmc hms J hl hk
  have hx := X.1.1
  have hb := X.1.2.1
  have hown := X.1.2.2.2.1
  have J : sg_J P (sg_su S i (.inl (3, [2, 2, 0]))) (i + 1) A s.heap σ H locs := sg_J_congr J (fun j hj => by
    by_cases h : j = i
    · subst h; rw [sg_su_at, hs]
    · rw [sg_su_ne h]; exact hlt j (by omega))
  refine lv_aload_n hx hb dX3_init_0 rfl (lv_at hl 0 rfl) ?_
  refine sg_objI X hl.1 (by decide) qw_92 qw_12 qw_13 dX3_init_1 ?_
  refine lv_aload_n hx hb dX3_init_4 rfl (lv_at hl 0 rfl) ?_
  refine lv_sipush (v := 240) hx hb dX3_init_5 (by decide) ?_
  refine mk_newA (N := 240) X hb9 J (Or.inl ⟨rfl, rfl⟩) qw_60 (by decide) (by decide) (by decide) (by omega) e1 (Nat.le_trans (Nat.le_of_ble_eq_true rfl) hmc) (Nat.le_trans (Nat.le_of_ble_eq_true rfl) hms) dX3_init_8 (fun H J => ?_)
  refine mk_putr (ks' := [2, i + 1 + 3, 0]) (ty := .array .int) X hin J fk_X3_9 sgG_3 rfl rfl rfl (by decide +kernel) rfl rfl (by omega) (Nat.le_of_ble_eq_true rfl) rfl dX3_init_10 (fun H locs J => ?_)
  refine lv_aload_n hx hb dX3_init_13 rfl (lv_at hl 0 rfl) ?_
  refine lv_aload_n hx hb dX3_init_14 rfl (lv_at hl 1 rfl) ?_
  refine mk_putr (ks' := [p1 + 3, i + 1 + 3, 0]) (ty := .object "RoadWheels$Tape") X hin J fk_X3_15 sgG_3 rfl rfl rfl (by decide +kernel) rfl rfl (by omega) (Nat.le_of_ble_eq_true rfl) rfl dX3_init_15 (fun H locs J => ?_)
  exact hk _ _ _ _ (sg_J_congr J (fun j hj => by
    by_cases h : j = i
    · subst h; rw [sg_su_at, e0]
    · rw [sg_su_ne h])) dX3_init_18
set_option maxHeartbeats 4000000 in
set_option maxRecDepth 100000 in
theorem k_X4_init {l : Launch} {P : sgP} {base : Nat} (hb9 : ∀ j, sgA P j = base + j) {sh S : Nat → sgE} {i : Nat} {σ : sgS} (h0 : ∀ j, i + 1 ≤ j → σ.1 j = (fun _ => 0) ∧ σ.2 j = 0) (hs : sh i = .inl (4, [2, 2, 2, 0, 0, 0])) (hlt : ∀ j, j < i → sh j = S j) (e0 : S i = .inl (4, [i + 1 + 3, i + 6 + 3, i + 7 + 3, 0, 0, 0])) (e1 : S (i + 1) = .inr (3, 4, fun k => i + 1 + 1 + k + 1)) (e2 : S (i + 2) = .inr (0, 240, sg_g0)) (e3 : S (i + 3) = .inr (0, 240, sg_g0)) (e4 : S (i + 4) = .inr (0, 240, sg_g0)) (e5 : S (i + 5) = .inr (0, 240, sg_g0)) (e6 : S (i + 6) = .inr (0, 4, sg_g0)) (e7 : S (i + 7) = .inr (0, 240, sg_g0)) : sg_MI P l yX4_init cX4_init 1 3 7 1208 [.ref (sgA P i)] sh (i + 1) σ S (i + 8) (sg_up σ i 5 (-1)) := by
  refine sg_mkI hb9 (by decide +kernel) rfl (Nat.le_of_ble_eq_true rfl) h0 ?_
  intro p e R s m args below meth c Q A ls H locs X hin hAO hmc hms J hl hk
  have hx := X.1.1
  have hb := X.1.2.1
  have hown := X.1.2.2.2.1
  have J : sg_J P (sg_su S i (.inl (4, [2, 2, 2, 0, 0, 0]))) (i + 1) A s.heap σ H locs := sg_J_congr J (fun j hj => by
    by_cases h : j = i
    · subst h; rw [sg_su_at, hs]
    · rw [sg_su_ne h]; exact hlt j (by omega))
  refine lv_aload_n hx hb dX4_init_0 rfl (lv_at hl 0 rfl) ?_
  refine sg_objI X hl.1 (by decide) qw_97 qw_12 qw_13 dX4_init_1 ?_
  refine lv_aload_n hx hb dX4_init_4 rfl (lv_at hl 0 rfl) ?_
  refine lv_iconst (v := 4) hx hb dX4_init_5 (by decide) ?_
  refine lv_sipush (v := 240) hx hb dX4_init_6 (by decide) ?_
  refine mk_newM (N := 4) (K := 240) X hAO hb9 J qw_98 qw_60 (by decide) (by decide) (by decide) (by decide) (by decide) (by decide) (by omega) e1 (fun q h1 h2 => by rcases (show q = i + 2 ∨ q = i + 3 ∨ q = i + 4 ∨ q = i + 5 by omega) with rfl | rfl | rfl | rfl <;> first | exact e2 | exact e3 | exact e4 | exact e5) (Nat.le_trans (Nat.le_of_ble_eq_true rfl) hmc) (Nat.le_trans (Nat.le_of_ble_eq_true rfl) hms) dX4_init_9 (fun H J => ?_)
  refine mk_putr (ks' := [i + 1 + 3, 2, 2, 0, 0, 0]) (ty := .array (.array .int)) X hin J fk_X4_11 sgG_4 rfl rfl rfl (by decide +kernel) rfl rfl (by omega) (Nat.le_of_ble_eq_true rfl) rfl dX4_init_13 (fun H locs J => ?_)
  refine lv_aload_n hx hb dX4_init_16 rfl (lv_at hl 0 rfl) ?_
  refine lv_iconst (v := 4) hx hb dX4_init_17 (by decide) ?_
  refine mk_newA (N := 4) X hb9 J (Or.inl ⟨rfl, rfl⟩) qw_60 (by decide) (by decide) (by decide) (by omega) e6 (Nat.le_trans (Nat.le_of_ble_eq_true rfl) hmc) (Nat.le_trans (Nat.le_of_ble_eq_true rfl) hms) dX4_init_18 (fun H J => ?_)
  refine mk_putr (ks' := [i + 1 + 3, i + 6 + 3, 2, 0, 0, 0]) (ty := .array .int) X hin J fk_X4_16 sgG_4 rfl rfl rfl (by decide +kernel) rfl rfl (by omega) (Nat.le_of_ble_eq_true rfl) rfl dX4_init_20 (fun H locs J => ?_)
  refine lv_aload_n hx hb dX4_init_23 rfl (lv_at hl 0 rfl) ?_
  refine lv_sipush (v := 240) hx hb dX4_init_24 (by decide) ?_
  refine mk_newA (N := 240) X hb9 J (Or.inl ⟨rfl, rfl⟩) qw_60 (by decide) (by decide) (by decide) (by omega) e7 (Nat.le_trans (Nat.le_of_ble_eq_true rfl) hmc) (Nat.le_trans (Nat.le_of_ble_eq_true rfl) hms) dX4_init_27 (fun H J => ?_)
  refine mk_putr (ks' := [i + 1 + 3, i + 6 + 3, i + 7 + 3, 0, 0, 0]) (ty := .array .int) X hin J fk_X4_20 sgG_4 rfl rfl rfl (by decide +kernel) rfl rfl (by omega) (Nat.le_of_ble_eq_true rfl) rfl dX4_init_29 (fun H locs J => ?_)
  refine lv_aload_n hx hb dX4_init_32 rfl (lv_at hl 0 rfl) ?_
  refine lv_iconst (v := -1) hx hb dX4_init_33 (by decide) ?_
  refine sg_putz X J fk_X4_23 wk_4_5 (by omega) sg_su_at rfl dX4_init_34 (fun H locs J => ?_)
  exact hk _ _ _ _ (sg_J_congr J (fun j hj => by
    by_cases h : j = i
    · subst h; rw [sg_su_at, e0]
    · rw [sg_su_ne h])) dX4_init_37
set_option maxHeartbeats 4000000 in
set_option maxRecDepth 100000 in
theorem k_X10_init {l : Launch} {P : sgP} {base : Nat} (hb9 : ∀ j, sgA P j = base + j) {sh S : Nat → sgE} {i : Nat} {σ : sgS} (h0 : ∀ j, i + 1 ≤ j → σ.1 j = (fun _ => 0) ∧ σ.2 j = 0) (hs : sh i = .inl (10, [2, 2, 2, 0, 0])) (hlt : ∀ j, j < i → sh j = S j) (e0 : S i = .inl (10, [i + 1 + 3, i + 6 + 3, i + 7 + 3, 0, 0])) (e1 : S (i + 1) = .inr (3, 4, fun k => i + 1 + 1 + k + 1)) (e2 : S (i + 2) = .inr (0, 12, sg_g0)) (e3 : S (i + 3) = .inr (0, 12, sg_g0)) (e4 : S (i + 4) = .inr (0, 12, sg_g0)) (e5 : S (i + 5) = .inr (0, 12, sg_g0)) (e6 : S (i + 6) = .inr (0, 4, sg_g0)) (e7 : S (i + 7) = .inr (0, 12, sg_g0)) : sg_MI P l yX10_init cX10_init 1 3 7 68 [.ref (sgA P i)] sh (i + 1) σ S (i + 8) σ := by
  refine sg_mkI hb9 (by decide +kernel) rfl (Nat.le_of_ble_eq_true rfl) h0 ?_
  intro p e R s m args below meth c Q A ls H locs X hin hAO hmc hms J hl hk
  have hx := X.1.1
  have hb := X.1.2.1
  have hown := X.1.2.2.2.1
  have J : sg_J P (sg_su S i (.inl (10, [2, 2, 2, 0, 0]))) (i + 1) A s.heap σ H locs := sg_J_congr J (fun j hj => by
    by_cases h : j = i
    · subst h; rw [sg_su_at, hs]
    · rw [sg_su_ne h]; exact hlt j (by omega))
  refine lv_aload_n hx hb dX10_init_0 rfl (lv_at hl 0 rfl) ?_
  refine sg_objI X hl.1 (by decide) qw_105 qw_12 qw_13 dX10_init_1 ?_
  refine lv_aload_n hx hb dX10_init_4 rfl (lv_at hl 0 rfl) ?_
  refine lv_iconst (v := 4) hx hb dX10_init_5 (by decide) ?_
  refine lv_bipush (v := 12) hx hb dX10_init_6 (by decide) ?_
  refine mk_newM (N := 4) (K := 12) X hAO hb9 J qw_106 qw_60 (by decide) (by decide) (by decide) (by decide) (by decide) (by decide) (by omega) e1 (fun q h1 h2 => by rcases (show q = i + 2 ∨ q = i + 3 ∨ q = i + 4 ∨ q = i + 5 by omega) with rfl | rfl | rfl | rfl <;> first | exact e2 | exact e3 | exact e4 | exact e5) (Nat.le_trans (Nat.le_of_ble_eq_true rfl) hmc) (Nat.le_trans (Nat.le_of_ble_eq_true rfl) hms) dX10_init_8 (fun H J => ?_)
  refine mk_putr (ks' := [i + 1 + 3, 2, 2, 0, 0]) (ty := .array (.array .int)) X hin J fk_X10_11 sgG_10 rfl rfl rfl (by decide +kernel) rfl rfl (by omega) (Nat.le_of_ble_eq_true rfl) rfl dX10_init_12 (fun H locs J => ?_)
  refine lv_aload_n hx hb dX10_init_15 rfl (lv_at hl 0 rfl) ?_
  refine lv_iconst (v := 4) hx hb dX10_init_16 (by decide) ?_
  refine mk_newA (N := 4) X hb9 J (Or.inl ⟨rfl, rfl⟩) qw_60 (by decide) (by decide) (by decide) (by omega) e6 (Nat.le_trans (Nat.le_of_ble_eq_true rfl) hmc) (Nat.le_trans (Nat.le_of_ble_eq_true rfl) hms) dX10_init_17 (fun H J => ?_)
  refine mk_putr (ks' := [i + 1 + 3, i + 6 + 3, 2, 0, 0]) (ty := .array .int) X hin J fk_X10_16 sgG_10 rfl rfl rfl (by decide +kernel) rfl rfl (by omega) (Nat.le_of_ble_eq_true rfl) rfl dX10_init_19 (fun H locs J => ?_)
  refine lv_aload_n hx hb dX10_init_22 rfl (lv_at hl 0 rfl) ?_
  refine lv_bipush (v := 12) hx hb dX10_init_23 (by decide) ?_
  refine mk_newA (N := 12) X hb9 J (Or.inl ⟨rfl, rfl⟩) qw_60 (by decide) (by decide) (by decide) (by omega) e7 (Nat.le_trans (Nat.le_of_ble_eq_true rfl) hmc) (Nat.le_trans (Nat.le_of_ble_eq_true rfl) hms) dX10_init_25 (fun H J => ?_)
  refine mk_putr (ks' := [i + 1 + 3, i + 6 + 3, i + 7 + 3, 0, 0]) (ty := .array .int) X hin J fk_X10_20 sgG_10 rfl rfl rfl (by decide +kernel) rfl rfl (by omega) (Nat.le_of_ble_eq_true rfl) rfl dX10_init_27 (fun H locs J => ?_)
  exact hk _ _ _ _ (sg_J_congr J (fun j hj => by
    by_cases h : j = i
    · subst h; rw [sg_su_at, e0]
    · rw [sg_su_ne h])) dX10_init_30
set_option maxHeartbeats 4000000 in
set_option maxRecDepth 100000 in
theorem k_X8_init {l : Launch} {P : sgP} {base : Nat} (hb9 : ∀ j, sgA P j = base + j) {sh S : Nat → sgE} {i : Nat} {σ : sgS} (h0 : ∀ j, i + 1 ≤ j → σ.1 j = (fun _ => 0) ∧ σ.2 j = 0) (hs : sh i = .inl (8, [2, 2, 2, 2, 2, 0, 0, 0])) (hlt : ∀ j, j < i → sh j = S j) (e0 : S i = .inl (8, [i + 1 + 3, i + 2 + 3, i + 3 + 3, i + 4 + 3, i + 5 + 3, 0, 0, 0])) (e1 : S (i + 1) = .inr (0, 4, sg_g0)) (e2 : S (i + 2) = .inr (0, 4, sg_g0)) (e3 : S (i + 3) = .inr (0, 4, sg_g0)) (e4 : S (i + 4) = .inr (0, 12, sg_g0)) (e5 : S (i + 5) = .inr (0, 7, sg_g0)) : sg_MI P l yX8_init cX8_init 1 3 5 31 [.ref (sgA P i)] sh (i + 1) σ S (i + 6) σ := by
  refine sg_mkI hb9 (by decide +kernel) rfl (Nat.le_of_ble_eq_true rfl) h0 ?_
  intro p e R s m args below meth c Q A ls H locs X hin hAO hmc hms J hl hk
  have hx := X.1.1
  have hb := X.1.2.1
  have hown := X.1.2.2.2.1
  have J : sg_J P (sg_su S i (.inl (8, [2, 2, 2, 2, 2, 0, 0, 0]))) (i + 1) A s.heap σ H locs := sg_J_congr J (fun j hj => by
    by_cases h : j = i
    · subst h; rw [sg_su_at, hs]
    · rw [sg_su_ne h]; exact hlt j (by omega))
  refine lv_aload_n hx hb dX8_init_0 rfl (lv_at hl 0 rfl) ?_
  refine sg_objI X hl.1 (by decide) qw_112 qw_12 qw_13 dX8_init_1 ?_
  refine lv_aload_n hx hb dX8_init_4 rfl (lv_at hl 0 rfl) ?_
  refine lv_iconst (v := 4) hx hb dX8_init_5 (by decide) ?_
  refine mk_newA (N := 4) X hb9 J (Or.inl ⟨rfl, rfl⟩) qw_60 (by decide) (by decide) (by decide) (by omega) e1 (Nat.le_trans (Nat.le_of_ble_eq_true rfl) hmc) (Nat.le_trans (Nat.le_of_ble_eq_true rfl) hms) dX8_init_6 (fun H J => ?_)
  refine mk_putr (ks' := [i + 1 + 3, 2, 2, 2, 2, 0, 0, 0]) (ty := .array .int) X hin J fk_X8_9 sgG_8 rfl rfl rfl (by decide +kernel) rfl rfl (by omega) (Nat.le_of_ble_eq_true rfl) rfl dX8_init_8 (fun H locs J => ?_)
  refine lv_aload_n hx hb dX8_init_11 rfl (lv_at hl 0 rfl) ?_
  refine lv_iconst (v := 4) hx hb dX8_init_12 (by decide) ?_
  refine mk_newA (N := 4) X hb9 J (Or.inl ⟨rfl, rfl⟩) qw_60 (by decide) (by decide) (by decide) (by omega) e2 (Nat.le_trans (Nat.le_of_ble_eq_true rfl) hmc) (Nat.le_trans (Nat.le_of_ble_eq_true rfl) hms) dX8_init_13 (fun H J => ?_)
  refine mk_putr (ks' := [i + 1 + 3, i + 2 + 3, 2, 2, 2, 0, 0, 0]) (ty := .array .int) X hin J fk_X8_15 sgG_8 rfl rfl rfl (by decide +kernel) rfl rfl (by omega) (Nat.le_of_ble_eq_true rfl) rfl dX8_init_15 (fun H locs J => ?_)
  refine lv_aload_n hx hb dX8_init_18 rfl (lv_at hl 0 rfl) ?_
  refine lv_iconst (v := 4) hx hb dX8_init_19 (by decide) ?_
  refine mk_newA (N := 4) X hb9 J (Or.inl ⟨rfl, rfl⟩) qw_60 (by decide) (by decide) (by decide) (by omega) e3 (Nat.le_trans (Nat.le_of_ble_eq_true rfl) hmc) (Nat.le_trans (Nat.le_of_ble_eq_true rfl) hms) dX8_init_20 (fun H J => ?_)
  refine mk_putr (ks' := [i + 1 + 3, i + 2 + 3, i + 3 + 3, 2, 2, 0, 0, 0]) (ty := .array .int) X hin J fk_X8_18 sgG_8 rfl rfl rfl (by decide +kernel) rfl rfl (by omega) (Nat.le_of_ble_eq_true rfl) rfl dX8_init_22 (fun H locs J => ?_)
  refine lv_aload_n hx hb dX8_init_25 rfl (lv_at hl 0 rfl) ?_
  refine lv_bipush (v := 12) hx hb dX8_init_26 (by decide) ?_
  refine mk_newA (N := 12) X hb9 J (Or.inl ⟨rfl, rfl⟩) qw_60 (by decide) (by decide) (by decide) (by omega) e4 (Nat.le_trans (Nat.le_of_ble_eq_true rfl) hmc) (Nat.le_trans (Nat.le_of_ble_eq_true rfl) hms) dX8_init_28 (fun H J => ?_)
  refine mk_putr (ks' := [i + 1 + 3, i + 2 + 3, i + 3 + 3, i + 4 + 3, 2, 0, 0, 0]) (ty := .array .int) X hin J fk_X8_21 sgG_8 rfl rfl rfl (by decide +kernel) rfl rfl (by omega) (Nat.le_of_ble_eq_true rfl) rfl dX8_init_30 (fun H locs J => ?_)
  refine lv_aload_n hx hb dX8_init_33 rfl (lv_at hl 0 rfl) ?_
  refine lv_bipush (v := 7) hx hb dX8_init_34 (by decide) ?_
  refine mk_newA (N := 7) X hb9 J (Or.inl ⟨rfl, rfl⟩) qw_60 (by decide) (by decide) (by decide) (by omega) e5 (Nat.le_trans (Nat.le_of_ble_eq_true rfl) hmc) (Nat.le_trans (Nat.le_of_ble_eq_true rfl) hms) dX8_init_36 (fun H J => ?_)
  refine mk_putr (ks' := [i + 1 + 3, i + 2 + 3, i + 3 + 3, i + 4 + 3, i + 5 + 3, 0, 0, 0]) (ty := .array .int) X hin J fk_X8_24 sgG_8 rfl rfl rfl (by decide +kernel) rfl rfl (by omega) (Nat.le_of_ble_eq_true rfl) rfl dX8_init_38 (fun H locs J => ?_)
  exact hk _ _ _ _ (sg_J_congr J (fun j hj => by
    by_cases h : j = i
    · subst h; rw [sg_su_at, e0]
    · rw [sg_su_ne h])) dX8_init_41
set_option maxHeartbeats 4000000 in
set_option maxRecDepth 100000 in
theorem k_X1_init {l : Launch} {P : sgP} {base : Nat} (hb9 : ∀ j, sgA P j = base + j) {sh S : Nat → sgE} {i p1 p2 p3 : Nat} {σ : sgS} (h0 : ∀ j, i + 1 ≤ j → σ.1 j = (fun _ => 0) ∧ σ.2 j = 0) (hs : sh i = .inl (1, [2, 2, 2, 2, 2])) (hlt : ∀ j, j < i → sh j = S j) (e0 : S i = .inl (1, [p1 + 3, p2 + 3, p3 + 3, i + 1 + 3, i + 2 + 3])) (e1 : S (i + 1) = .inr (0, 6, sg_g0)) (e2 : S (i + 2) = .inr (0, 12, sg_g0)) : sg_MI P l yX1_init cX1_init 4 3 2 18 [.ref (sgA P i), .ref (sgA P p1), .ref (sgA P p2), .ref (sgA P p3)] sh (i + 1) σ S (i + 3) σ := by
  refine sg_mkI hb9 (by decide +kernel) rfl (Nat.le_of_ble_eq_true rfl) h0 ?_
  intro p e R s m args below meth c Q A ls H locs X hin hAO hmc hms J hl hk
  have hx := X.1.1
  have hb := X.1.2.1
  have hown := X.1.2.2.2.1
  have J : sg_J P (sg_su S i (.inl (1, [2, 2, 2, 2, 2]))) (i + 1) A s.heap σ H locs := sg_J_congr J (fun j hj => by
    by_cases h : j = i
    · subst h; rw [sg_su_at, hs]
    · rw [sg_su_ne h]; exact hlt j (by omega))
  refine lv_aload_n hx hb dX1_init_0 rfl (lv_at hl 0 rfl) ?_
  refine sg_objI X hl.1 (by decide) qw_121 qw_12 qw_13 dX1_init_1 ?_
  refine lv_aload_n hx hb dX1_init_4 rfl (lv_at hl 0 rfl) ?_
  refine va_ldcS hx hb hown X.2.2.2.2.1.2.2.1.2.2.1 dX1_init_5 ?_
  refine sg_callKh (As := []) (v := 6) X J.1 (Nat.le_trans (Nat.le_of_ble_eq_true rfl) hmc) (Nat.le_trans (Nat.le_of_ble_eq_true rfl) hms) mk_X1_13 (by decide) (i := 2) (by decide) (h_J0_length (by decide)) hl.1 rfl rfl (Nat.le_of_ble_eq_true rfl) dX1_init_7 ?_
  refine mk_newA (N := 6) X hb9 J (Or.inl ⟨rfl, rfl⟩) qw_60 (by decide) (by decide) (by decide) (by omega) e1 (Nat.le_trans (Nat.le_of_ble_eq_true rfl) hmc) (Nat.le_trans (Nat.le_of_ble_eq_true rfl) hms) dX1_init_10 (fun H J => ?_)
  refine mk_putr (ks' := [2, 2, 2, i + 1 + 3, 2]) (ty := .array .int) X hin J fk_X1_19 sgG_1 rfl rfl rfl (by decide +kernel) rfl rfl (by omega) (Nat.le_of_ble_eq_true rfl) rfl dX1_init_12 (fun H locs J => ?_)
  refine lv_aload_n hx hb dX1_init_15 rfl (lv_at hl 0 rfl) ?_
  refine lv_bipush (v := 12) hx hb dX1_init_16 (by decide) ?_
  refine mk_newA (N := 12) X hb9 J (Or.inl ⟨rfl, rfl⟩) qw_60 (by decide) (by decide) (by decide) (by omega) e2 (Nat.le_trans (Nat.le_of_ble_eq_true rfl) hmc) (Nat.le_trans (Nat.le_of_ble_eq_true rfl) hms) dX1_init_18 (fun H J => ?_)
  refine mk_putr (ks' := [2, 2, 2, i + 1 + 3, i + 2 + 3]) (ty := .array .int) X hin J fk_X1_25 sgG_1 rfl rfl rfl (by decide +kernel) rfl rfl (by omega) (Nat.le_of_ble_eq_true rfl) rfl dX1_init_20 (fun H locs J => ?_)
  refine lv_aload_n hx hb dX1_init_23 rfl (lv_at hl 0 rfl) ?_
  refine lv_aload_n hx hb dX1_init_24 rfl (lv_at hl 1 rfl) ?_
  refine mk_putr (ks' := [p1 + 3, 2, 2, i + 1 + 3, i + 2 + 3]) (ty := .object "RoadWheels$County") X hin J fk_X1_28 sgG_1 rfl rfl rfl (by decide +kernel) rfl rfl (by omega) (Nat.le_of_ble_eq_true rfl) rfl dX1_init_25 (fun H locs J => ?_)
  refine lv_aload_n hx hb dX1_init_28 rfl (lv_at hl 0 rfl) ?_
  refine lv_aload_n hx hb dX1_init_29 rfl (lv_at hl 2 rfl) ?_
  refine mk_putr (ks' := [p1 + 3, p2 + 3, 2, i + 1 + 3, i + 2 + 3]) (ty := .object "RoadWheels$Laws") X hin J fk_X1_32 sgG_1 rfl rfl rfl (by decide +kernel) rfl rfl (by omega) (Nat.le_of_ble_eq_true rfl) rfl dX1_init_30 (fun H locs J => ?_)
  refine lv_aload_n hx hb dX1_init_33 rfl (lv_at hl 0 rfl) ?_
  refine lv_aload_n hx hb dX1_init_34 rfl (lv_at hl 3 rfl) ?_
  refine mk_putr (ks' := [p1 + 3, p2 + 3, p3 + 3, i + 1 + 3, i + 2 + 3]) (ty := .object "RoadWheels$Ways") X hin J fk_X1_36 sgG_1 rfl rfl rfl (by decide +kernel) rfl rfl (by omega) (Nat.le_of_ble_eq_true rfl) rfl dX1_init_35 (fun H locs J => ?_)
  exact hk _ _ _ _ (sg_J_congr J (fun j hj => by
    by_cases h : j = i
    · subst h; rw [sg_su_at, e0]
    · rw [sg_su_ne h])) dX1_init_38
set_option maxHeartbeats 4000000 in
set_option maxRecDepth 100000 in
theorem k_X5_init {l : Launch} {P : sgP} {base : Nat} (hb9 : ∀ j, sgA P j = base + j) {sh S : Nat → sgE} {i p1 p2 : Nat} {σ : sgS} (h0 : ∀ j, i + 1 ≤ j → σ.1 j = (fun _ => 0) ∧ σ.2 j = 0) (hs : sh i = .inl (5, [2, 2, 2, 2, 2, 0])) (hlt : ∀ j, j < i → sh j = S j) (e0 : S i = .inl (5, [p1 + 3, p2 + 3, i + 1 + 3, i + 9 + 3, i + 17 + 3, 0])) (e1 : S (i + 1) = .inr (3, 7, fun k => i + 1 + 1 + k + 1)) (e2 : S (i + 2) = .inr (0, 7, sg_g0)) (e3 : S (i + 3) = .inr (0, 7, sg_g0)) (e4 : S (i + 4) = .inr (0, 7, sg_g0)) (e5 : S (i + 5) = .inr (0, 7, sg_g0)) (e6 : S (i + 6) = .inr (0, 7, sg_g0)) (e7 : S (i + 7) = .inr (0, 7, sg_g0)) (e8 : S (i + 8) = .inr (0, 7, sg_g0)) (e9 : S (i + 9) = .inr (3, 7, fun k => i + 9 + 1 + k + 1)) (e10 : S (i + 10) = .inr (0, 7, sg_g0)) (e11 : S (i + 11) = .inr (0, 7, sg_g0)) (e12 : S (i + 12) = .inr (0, 7, sg_g0)) (e13 : S (i + 13) = .inr (0, 7, sg_g0)) (e14 : S (i + 14) = .inr (0, 7, sg_g0)) (e15 : S (i + 15) = .inr (0, 7, sg_g0)) (e16 : S (i + 16) = .inr (0, 7, sg_g0)) (e17 : S (i + 17) = .inr (0, 7, sg_g0)) : sg_MI P l yX5_init cX5_init 3 3 17 119 [.ref (sgA P i), .ref (sgA P p1), .ref (sgA P p2)] sh (i + 1) σ S (i + 18) σ := by
  refine sg_mkI hb9 (by decide +kernel) rfl (Nat.le_of_ble_eq_true rfl) h0 ?_
  intro p e R s m args below meth c Q A ls H locs X hin hAO hmc hms J hl hk
  have hx := X.1.1
  have hb := X.1.2.1
  have hown := X.1.2.2.2.1
  have J : sg_J P (sg_su S i (.inl (5, [2, 2, 2, 2, 2, 0]))) (i + 1) A s.heap σ H locs := sg_J_congr J (fun j hj => by
    by_cases h : j = i
    · subst h; rw [sg_su_at, hs]
    · rw [sg_su_ne h]; exact hlt j (by omega))
  refine lv_aload_n hx hb dX5_init_0 rfl (lv_at hl 0 rfl) ?_
  refine sg_objI X hl.1 (by decide) qw_140 qw_12 qw_13 dX5_init_1 ?_
  refine lv_aload_n hx hb dX5_init_4 rfl (lv_at hl 0 rfl) ?_
  refine lv_bipush (v := 7) hx hb dX5_init_5 (by decide) ?_
  refine lv_bipush (v := 7) hx hb dX5_init_7 (by decide) ?_
  refine mk_newM (N := 7) (K := 7) X hAO hb9 J qw_141 qw_60 (by decide) (by decide) (by decide) (by decide) (by decide) (by decide) (by omega) e1 (fun q h1 h2 => by rcases (show q = i + 2 ∨ q = i + 3 ∨ q = i + 4 ∨ q = i + 5 ∨ q = i + 6 ∨ q = i + 7 ∨ q = i + 8 by omega) with rfl | rfl | rfl | rfl | rfl | rfl | rfl <;> first | exact e2 | exact e3 | exact e4 | exact e5 | exact e6 | exact e7 | exact e8) (Nat.le_trans (Nat.le_of_ble_eq_true rfl) hmc) (Nat.le_trans (Nat.le_of_ble_eq_true rfl) hms) dX5_init_9 (fun H J => ?_)
  refine mk_putr (ks' := [2, 2, i + 1 + 3, 2, 2, 0]) (ty := .array (.array .int)) X hin J fk_X5_11 sgG_5 rfl rfl rfl (by decide +kernel) rfl rfl (by omega) (Nat.le_of_ble_eq_true rfl) rfl dX5_init_13 (fun H locs J => ?_)
  refine lv_aload_n hx hb dX5_init_16 rfl (lv_at hl 0 rfl) ?_
  refine lv_bipush (v := 7) hx hb dX5_init_17 (by decide) ?_
  refine lv_bipush (v := 7) hx hb dX5_init_19 (by decide) ?_
  refine mk_newM (N := 7) (K := 7) X hAO hb9 J qw_141 qw_60 (by decide) (by decide) (by decide) (by decide) (by decide) (by decide) (by omega) e9 (fun q h1 h2 => by rcases (show q = i + 10 ∨ q = i + 11 ∨ q = i + 12 ∨ q = i + 13 ∨ q = i + 14 ∨ q = i + 15 ∨ q = i + 16 by omega) with rfl | rfl | rfl | rfl | rfl | rfl | rfl <;> first | exact e10 | exact e11 | exact e12 | exact e13 | exact e14 | exact e15 | exact e16) (Nat.le_trans (Nat.le_of_ble_eq_true rfl) hmc) (Nat.le_trans (Nat.le_of_ble_eq_true rfl) hms) dX5_init_21 (fun H J => ?_)
  refine mk_putr (ks' := [2, 2, i + 1 + 3, i + 9 + 3, 2, 0]) (ty := .array (.array .int)) X hin J fk_X5_16 sgG_5 rfl rfl rfl (by decide +kernel) rfl rfl (by omega) (Nat.le_of_ble_eq_true rfl) rfl dX5_init_25 (fun H locs J => ?_)
  refine lv_aload_n hx hb dX5_init_28 rfl (lv_at hl 0 rfl) ?_
  refine lv_bipush (v := 7) hx hb dX5_init_29 (by decide) ?_
  refine mk_newA (N := 7) X hb9 J (Or.inl ⟨rfl, rfl⟩) qw_60 (by decide) (by decide) (by decide) (by omega) e17 (Nat.le_trans (Nat.le_of_ble_eq_true rfl) hmc) (Nat.le_trans (Nat.le_of_ble_eq_true rfl) hms) dX5_init_31 (fun H J => ?_)
  refine mk_putr (ks' := [2, 2, i + 1 + 3, i + 9 + 3, i + 17 + 3, 0]) (ty := .array .int) X hin J fk_X5_19 sgG_5 rfl rfl rfl (by decide +kernel) rfl rfl (by omega) (Nat.le_of_ble_eq_true rfl) rfl dX5_init_33 (fun H locs J => ?_)
  refine lv_aload_n hx hb dX5_init_36 rfl (lv_at hl 0 rfl) ?_
  refine lv_aload_n hx hb dX5_init_37 rfl (lv_at hl 1 rfl) ?_
  refine mk_putr (ks' := [p1 + 3, 2, i + 1 + 3, i + 9 + 3, i + 17 + 3, 0]) (ty := .object "RoadWheels$County") X hin J fk_X5_23 sgG_5 rfl rfl rfl (by decide +kernel) rfl rfl (by omega) (Nat.le_of_ble_eq_true rfl) rfl dX5_init_38 (fun H locs J => ?_)
  refine lv_aload_n hx hb dX5_init_41 rfl (lv_at hl 0 rfl) ?_
  refine lv_aload_n hx hb dX5_init_42 rfl (lv_at hl 2 rfl) ?_
  refine mk_putr (ks' := [p1 + 3, p2 + 3, i + 1 + 3, i + 9 + 3, i + 17 + 3, 0]) (ty := .object "RoadWheels$Days") X hin J fk_X5_27 sgG_5 rfl rfl rfl (by decide +kernel) rfl rfl (by omega) (Nat.le_of_ble_eq_true rfl) rfl dX5_init_43 (fun H locs J => ?_)
  exact hk _ _ _ _ (sg_J_congr J (fun j hj => by
    by_cases h : j = i
    · subst h; rw [sg_su_at, e0]
    · rw [sg_su_ne h])) dX5_init_46
set_option maxHeartbeats 4000000 in
set_option maxRecDepth 100000 in
theorem k_X7_init {l : Launch} {P : sgP} {base : Nat} (hb9 : ∀ j, sgA P j = base + j) {sh S : Nat → sgE} {i p1 p2 p3 p4 : Nat} {σ : sgS} (h0 : ∀ j, i + 1 ≤ j → σ.1 j = (fun _ => 0) ∧ σ.2 j = 0) (hs : sh i = .inl (7, [2, 2, 2, 2, 2, 2, 2, 2, 2, 0])) (hlt : ∀ j, j < i → sh j = S j) (e0 : S i = .inl (7, [p1 + 3, p2 + 3, p3 + 3, p4 + 3, i + 1 + 3, i + 2 + 3, i + 3 + 3, i + 4 + 3, i + 5 + 3, 0])) (e1 : S (i + 1) = .inr (0, 10, sg_g0)) (e2 : S (i + 2) = .inr (0, 10, sg_g0)) (e3 : S (i + 3) = .inr (0, 10, sg_g0)) (e4 : S (i + 4) = .inr (1, 10, sg_g0)) (e5 : S (i + 5) = .inr (3, 4, fun k => i + 5 + 1 + k + 1)) (e6 : S (i + 6) = .inr (0, 10, sg_g0)) (e7 : S (i + 7) = .inr (0, 10, sg_g0)) (e8 : S (i + 8) = .inr (0, 10, sg_g0)) (e9 : S (i + 9) = .inr (0, 10, sg_g0)) : sg_MI P l yX7_init cX7_init 5 3 9 84 [.ref (sgA P i), .ref (sgA P p1), .ref (sgA P p2), .ref (sgA P p3), .ref (sgA P p4)] sh (i + 1) σ S (i + 10) σ := by
  refine sg_mkI hb9 (by decide +kernel) rfl (Nat.le_of_ble_eq_true rfl) h0 ?_
  intro p e R s m args below meth c Q A ls H locs X hin hAO hmc hms J hl hk
  have hx := X.1.1
  have hb := X.1.2.1
  have hown := X.1.2.2.2.1
  have J : sg_J P (sg_su S i (.inl (7, [2, 2, 2, 2, 2, 2, 2, 2, 2, 0]))) (i + 1) A s.heap σ H locs := sg_J_congr J (fun j hj => by
    by_cases h : j = i
    · subst h; rw [sg_su_at, hs]
    · rw [sg_su_ne h]; exact hlt j (by omega))
  refine lv_aload_n hx hb dX7_init_0 rfl (lv_at hl 0 rfl) ?_
  refine sg_objI X hl.1 (by decide) qw_150 qw_12 qw_13 dX7_init_1 ?_
  refine lv_aload_n hx hb dX7_init_4 rfl (lv_at hl 0 rfl) ?_
  refine lv_bipush (v := 10) hx hb dX7_init_5 (by decide) ?_
  refine mk_newA (N := 10) X hb9 J (Or.inl ⟨rfl, rfl⟩) qw_60 (by decide) (by decide) (by decide) (by omega) e1 (Nat.le_trans (Nat.le_of_ble_eq_true rfl) hmc) (Nat.le_trans (Nat.le_of_ble_eq_true rfl) hms) dX7_init_7 (fun H J => ?_)
  refine mk_putr (ks' := [2, 2, 2, 2, i + 1 + 3, 2, 2, 2, 2, 0]) (ty := .array .int) X hin J fk_X7_9 sgG_7 rfl rfl rfl (by decide +kernel) rfl rfl (by omega) (Nat.le_of_ble_eq_true rfl) rfl dX7_init_9 (fun H locs J => ?_)
  refine lv_aload_n hx hb dX7_init_12 rfl (lv_at hl 0 rfl) ?_
  refine lv_bipush (v := 10) hx hb dX7_init_13 (by decide) ?_
  refine mk_newA (N := 10) X hb9 J (Or.inl ⟨rfl, rfl⟩) qw_60 (by decide) (by decide) (by decide) (by omega) e2 (Nat.le_trans (Nat.le_of_ble_eq_true rfl) hmc) (Nat.le_trans (Nat.le_of_ble_eq_true rfl) hms) dX7_init_15 (fun H J => ?_)
  refine mk_putr (ks' := [2, 2, 2, 2, i + 1 + 3, i + 2 + 3, 2, 2, 2, 0]) (ty := .array .int) X hin J fk_X7_15 sgG_7 rfl rfl rfl (by decide +kernel) rfl rfl (by omega) (Nat.le_of_ble_eq_true rfl) rfl dX7_init_17 (fun H locs J => ?_)
  refine lv_aload_n hx hb dX7_init_20 rfl (lv_at hl 0 rfl) ?_
  refine lv_bipush (v := 10) hx hb dX7_init_21 (by decide) ?_
  refine mk_newA (N := 10) X hb9 J (Or.inl ⟨rfl, rfl⟩) qw_60 (by decide) (by decide) (by decide) (by omega) e3 (Nat.le_trans (Nat.le_of_ble_eq_true rfl) hmc) (Nat.le_trans (Nat.le_of_ble_eq_true rfl) hms) dX7_init_23 (fun H J => ?_)
  refine mk_putr (ks' := [2, 2, 2, 2, i + 1 + 3, i + 2 + 3, i + 3 + 3, 2, 2, 0]) (ty := .array .int) X hin J fk_X7_18 sgG_7 rfl rfl rfl (by decide +kernel) rfl rfl (by omega) (Nat.le_of_ble_eq_true rfl) rfl dX7_init_25 (fun H locs J => ?_)
  refine lv_aload_n hx hb dX7_init_28 rfl (lv_at hl 0 rfl) ?_
  refine lv_bipush (v := 10) hx hb dX7_init_29 (by decide) ?_
  refine mk_newA (N := 10) X hb9 J (Or.inr ⟨rfl, rfl⟩) qw_154 (by decide) (by decide) (by decide) (by omega) e4 (Nat.le_trans (Nat.le_of_ble_eq_true rfl) hmc) (Nat.le_trans (Nat.le_of_ble_eq_true rfl) hms) dX7_init_31 (fun H J => ?_)
  refine mk_putr (ks' := [2, 2, 2, 2, i + 1 + 3, i + 2 + 3, i + 3 + 3, i + 4 + 3, 2, 0]) (ty := .array .boolean) X hin J fk_X7_21 sgG_7 rfl rfl rfl (by decide +kernel) rfl rfl (by omega) (Nat.le_of_ble_eq_true rfl) rfl dX7_init_33 (fun H locs J => ?_)
  refine lv_aload_n hx hb dX7_init_36 rfl (lv_at hl 0 rfl) ?_
  refine lv_iconst (v := 4) hx hb dX7_init_37 (by decide) ?_
  refine lv_bipush (v := 10) hx hb dX7_init_38 (by decide) ?_
  refine mk_newM (N := 4) (K := 10) X hAO hb9 J qw_156 qw_60 (by decide) (by decide) (by decide) (by decide) (by decide) (by decide) (by omega) e5 (fun q h1 h2 => by rcases (show q = i + 6 ∨ q = i + 7 ∨ q = i + 8 ∨ q = i + 9 by omega) with rfl | rfl | rfl | rfl <;> first | exact e6 | exact e7 | exact e8 | exact e9) (Nat.le_trans (Nat.le_of_ble_eq_true rfl) hmc) (Nat.le_trans (Nat.le_of_ble_eq_true rfl) hms) dX7_init_40 (fun H J => ?_)
  refine mk_putr (ks' := [2, 2, 2, 2, i + 1 + 3, i + 2 + 3, i + 3 + 3, i + 4 + 3, i + 5 + 3, 0]) (ty := .array (.array .int)) X hin J fk_X7_27 sgG_7 rfl rfl rfl (by decide +kernel) rfl rfl (by omega) (Nat.le_of_ble_eq_true rfl) rfl dX7_init_44 (fun H locs J => ?_)
  refine lv_aload_n hx hb dX7_init_47 rfl (lv_at hl 0 rfl) ?_
  refine lv_aload_n hx hb dX7_init_48 rfl (lv_at hl 1 rfl) ?_
  refine mk_putr (ks' := [p1 + 3, 2, 2, 2, i + 1 + 3, i + 2 + 3, i + 3 + 3, i + 4 + 3, i + 5 + 3, 0]) (ty := .object "RoadWheels$County") X hin J fk_X7_30 sgG_7 rfl rfl rfl (by decide +kernel) rfl rfl (by omega) (Nat.le_of_ble_eq_true rfl) rfl dX7_init_49 (fun H locs J => ?_)
  refine lv_aload_n hx hb dX7_init_52 rfl (lv_at hl 0 rfl) ?_
  refine lv_aload_n hx hb dX7_init_53 rfl (lv_at hl 2 rfl) ?_
  refine mk_putr (ks' := [p1 + 3, p2 + 3, 2, 2, i + 1 + 3, i + 2 + 3, i + 3 + 3, i + 4 + 3, i + 5 + 3, 0]) (ty := .object "RoadWheels$Ways") X hin J fk_X7_34 sgG_7 rfl rfl rfl (by decide +kernel) rfl rfl (by omega) (Nat.le_of_ble_eq_true rfl) rfl dX7_init_54 (fun H locs J => ?_)
  refine lv_aload_n hx hb dX7_init_57 rfl (lv_at hl 0 rfl) ?_
  refine lv_aload_n hx hb dX7_init_58 rfl (lv_at hl 3 rfl) ?_
  refine mk_putr (ks' := [p1 + 3, p2 + 3, p3 + 3, 2, i + 1 + 3, i + 2 + 3, i + 3 + 3, i + 4 + 3, i + 5 + 3, 0]) (ty := .object "RoadWheels$Days") X hin J fk_X7_38 sgG_7 rfl rfl rfl (by decide +kernel) rfl rfl (by omega) (Nat.le_of_ble_eq_true rfl) rfl dX7_init_59 (fun H locs J => ?_)
  refine lv_aload_n hx hb dX7_init_62 rfl (lv_at hl 0 rfl) ?_
  refine lv_aload hx hb dX7_init_63 (lv_at hl 4 rfl) ?_
  refine mk_putr (ks' := [p1 + 3, p2 + 3, p3 + 3, p4 + 3, i + 1 + 3, i + 2 + 3, i + 3 + 3, i + 4 + 3, i + 5 + 3, 0]) (ty := .object "RoadWheels$State") X hin J fk_X7_42 sgG_7 rfl rfl rfl (by decide +kernel) rfl rfl (by omega) (Nat.le_of_ble_eq_true rfl) rfl dX7_init_65 (fun H locs J => ?_)
  exact hk _ _ _ _ (sg_J_congr J (fun j hj => by
    by_cases h : j = i
    · subst h; rw [sg_su_at, e0]
    · rw [sg_su_ne h])) dX7_init_68
set_option maxHeartbeats 4000000 in
set_option maxRecDepth 100000 in
theorem k_X2_init {l : Launch} {P : sgP} {base : Nat} (hb9 : ∀ j, sgA P j = base + j) {sh S : Nat → sgE} {i p1 p2 p3 : Nat} {σ : sgS} (h0 : ∀ j, i + 1 ≤ j → σ.1 j = (fun _ => 0) ∧ σ.2 j = 0) (hs : sh i = .inl (2, [2, 2, 2, 0, 0, 0, 0])) (hlt : ∀ j, j < i → sh j = S j) (e0 : S i = .inl (2, [p1 + 3, p2 + 3, p3 + 3, 0, 0, 0, 0])) : sg_MI P l yX2_init cX2_init 4 3 0 0 [.ref (sgA P i), .ref (sgA P p1), .ref (sgA P p2), .ref (sgA P p3)] sh (i + 1) σ S (i + 1) σ := by
  refine sg_mkI hb9 (by decide +kernel) rfl (Nat.le_of_ble_eq_true rfl) h0 ?_
  intro p e R s m args below meth c Q A ls H locs X hin hAO hmc hms J hl hk
  have hx := X.1.1
  have hb := X.1.2.1
  have hown := X.1.2.2.2.1
  have J : sg_J P (sg_su S i (.inl (2, [2, 2, 2, 0, 0, 0, 0]))) (i + 1) A s.heap σ H locs := sg_J_congr J (fun j hj => by
    by_cases h : j = i
    · subst h; rw [sg_su_at, hs]
    · rw [sg_su_ne h]; exact hlt j (by omega))
  refine lv_aload_n hx hb dX2_init_0 rfl (lv_at hl 0 rfl) ?_
  refine sg_objI X hl.1 (by decide) qw_165 qw_12 qw_13 dX2_init_1 ?_
  refine lv_aload_n hx hb dX2_init_4 rfl (lv_at hl 0 rfl) ?_
  refine lv_aload_n hx hb dX2_init_5 rfl (lv_at hl 1 rfl) ?_
  refine mk_putr (ks' := [p1 + 3, 2, 2, 0, 0, 0, 0]) (ty := .object "RoadWheels$County") X hin J fk_X2_9 sgG_2 rfl rfl rfl (by decide +kernel) rfl rfl (by omega) (Nat.le_of_ble_eq_true rfl) rfl dX2_init_6 (fun H locs J => ?_)
  refine lv_aload_n hx hb dX2_init_9 rfl (lv_at hl 0 rfl) ?_
  refine lv_aload_n hx hb dX2_init_10 rfl (lv_at hl 2 rfl) ?_
  refine mk_putr (ks' := [p1 + 3, p2 + 3, 2, 0, 0, 0, 0]) (ty := .object "RoadWheels$State") X hin J fk_X2_15 sgG_2 rfl rfl rfl (by decide +kernel) rfl rfl (by omega) (Nat.le_of_ble_eq_true rfl) rfl dX2_init_11 (fun H locs J => ?_)
  refine lv_aload_n hx hb dX2_init_14 rfl (lv_at hl 0 rfl) ?_
  refine lv_aload_n hx hb dX2_init_15 rfl (lv_at hl 3 rfl) ?_
  refine mk_putr (ks' := [p1 + 3, p2 + 3, p3 + 3, 0, 0, 0, 0]) (ty := .object "RoadWheels$Net") X hin J fk_X2_19 sgG_2 rfl rfl rfl (by decide +kernel) rfl rfl (by omega) (Nat.le_of_ble_eq_true rfl) rfl dX2_init_16 (fun H locs J => ?_)
  exact hk _ _ _ _ (sg_J_congr J (fun j hj => by
    by_cases h : j = i
    · subst h; rw [sg_su_at, e0]
    · rw [sg_su_ne h])) dX2_init_19
