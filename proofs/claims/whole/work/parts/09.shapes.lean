def sg_g0 : Nat → Nat := fun _ => 0
def shC0 : List sgE := [.inl (11, [3, 5, 13, 21, 23, 31, 76, 82, 39, 42, 46, 64, 74, 75, 0, 1]), .inl (9, [4, 0, 0]), .inr (0, 240, sg_g0), .inl (0, [0, 0, 0, 0, 0, 0, 6, 7, 8, 9, 10, 11, 12]), .inr (0, 7, sg_g0), .inr (0, 12, sg_g0), .inr (0, 12, sg_g0), .inr (0, 12, sg_g0), .inr (0, 12, sg_g0), .inr (0, 4, sg_g0), .inr (0, 8, sg_g0), .inl (0, [0, 0, 0, 0, 0, 0, 14, 15, 16, 17, 18, 19, 20]), .inr (0, 7, sg_g0), .inr (0, 12, sg_g0), .inr (0, 12, sg_g0), .inr (0, 12, sg_g0), .inr (0, 12, sg_g0), .inr (0, 4, sg_g0), .inr (0, 8, sg_g0), .inl (3, [3, 22, 0]), .inr (0, 240, sg_g0), .inl (4, [24, 29, 30, 0, 0, 0]), .inr (3, 4, (fun k => 23 + k)), .inr (0, 240, sg_g0), .inr (0, 240, sg_g0), .inr (0, 240, sg_g0), .inr (0, 240, sg_g0), .inr (0, 4, sg_g0), .inr (0, 240, sg_g0), .inl (10, [32, 37, 38, 0, 0]), .inr (3, 4, (fun k => 31 + k)), .inr (0, 12, sg_g0), .inr (0, 12, sg_g0), .inr (0, 12, sg_g0), .inr (0, 12, sg_g0), .inr (0, 4, sg_g0), .inr (0, 12, sg_g0), .inl (1, [5, 23, 31, 40, 41]), .inr (0, 6, sg_g0), .inr (0, 12, sg_g0), .inl (6, [43, 0, 0, 44, 328, 45, 0]), .inr (2, 40, (fun k => 86 + 6 * k)), .inr (0, 300, sg_g0), .inr (0, 300, sg_g0), .inl (5, [5, 39, 47, 55, 63, 0]), .inr (3, 7, (fun k => 46 + k)), .inr (0, 7, sg_g0), .inr (0, 7, sg_g0), .inr (0, 7, sg_g0), .inr (0, 7, sg_g0), .inr (0, 7, sg_g0), .inr (0, 7, sg_g0), .inr (0, 7, sg_g0), .inr (3, 7, (fun k => 54 + k)), .inr (0, 7, sg_g0), .inr (0, 7, sg_g0), .inr (0, 7, sg_g0), .inr (0, 7, sg_g0), .inr (0, 7, sg_g0), .inr (0, 7, sg_g0), .inr (0, 7, sg_g0), .inr (0, 7, sg_g0), .inl (7, [5, 31, 39, 82, 65, 66, 67, 68, 69, 0]), .inr (0, 10, sg_g0), .inr (0, 10, sg_g0), .inr (0, 10, sg_g0), .inr (1, 10, sg_g0), .inr (3, 4, (fun k => 68 + k)), .inr (0, 10, sg_g0), .inr (0, 10, sg_g0), .inr (0, 10, sg_g0), .inr (0, 10, sg_g0), .inl (2, [5, 76, 46, 0, 0, 0, 0]), .inr (0, 5, sg_g0)]
def shM0 : List sgE := [.inl (12, [0, 3, 0, 0, 0, 0, 4, 5, 6, 7, 8, 9, 10, 0, 0, 11, 12, 13, 14, 15, 16, 0, 0, 0, 17, 18, 19, 20, 0, 0, 0, 21, 22, 0, 23, 24, 0, 0, 25, 26, 0, 27, 0, 1, 28, 29, 0, 0, 0, 30, 31, 32, 33, 34, 0, 35, 36, 0]), .inr (0, 240, sg_g0), .inr (0, 2600, sg_g0), .inr (0, 2600, sg_g0), .inr (0, 5, sg_g0), .inr (0, 5, sg_g0), .inr (0, 700, sg_g0), .inr (0, 700, sg_g0), .inr (0, 700, sg_g0), .inr (0, 6, sg_g0), .inr (0, 80, sg_g0), .inr (0, 2, sg_g0), .inr (0, 7, sg_g0), .inr (0, 48, sg_g0), .inr (0, 4, sg_g0), .inr (0, 2, sg_g0), .inr (0, 7, sg_g0), .inr (0, 48, sg_g0), .inr (0, 4, sg_g0), .inr (0, 60, sg_g0), .inr (0, 5, sg_g0), .inr (0, 215, sg_g0), .inr (0, 5, sg_g0), .inr (0, 12, sg_g0), .inr (0, 12, sg_g0), .inr (0, 8600, sg_g0), .inr (0, 49, sg_g0), .inr (0, 49, sg_g0), .inr (0, 34, sg_g0), .inr (0, 10, sg_g0), .inr (0, 10, sg_g0), .inr (0, 10, sg_g0), .inr (1, 10, sg_g0), .inr (0, 40, sg_g0), .inr (0, 215, sg_g0)]
def shSt (o t : Nat) : sgE := if t = 0 then .inl (8, [o + 1 + 2, o + 2 + 2, o + 3 + 2, o + 4 + 2, o + 5 + 2, 0, 0, 0]) else if t = 4 then .inr (0, 12, sg_g0) else if t = 5 then .inr (0, 7, sg_g0) else .inr (0, 4, sg_g0)
def shC (i : Nat) : sgE := if i < 74 then shC0.getD i (.inr (0, 0, sg_g0)) else shSt (i - (i - 74) % 6) ((i - 74) % 6)
def shM (i : Nat) : sgE := shM0.getD i (.inr (0, 0, sg_g0))
theorem shC_0 : shC 0 = .inl (11, [3, 5, 13, 21, 23, 31, 76, 82, 39, 42, 46, 64, 74, 75, 0, 1]) := rfl
theorem shC_1 : shC 1 = .inl (9, [4, 0, 0]) := rfl
theorem shC_2 : shC 2 = .inr (0, 240, sg_g0) := rfl
theorem shC_3 : shC 3 = .inl (0, [0, 0, 0, 0, 0, 0, 6, 7, 8, 9, 10, 11, 12]) := rfl
theorem shC_4 : shC 4 = .inr (0, 7, sg_g0) := rfl
theorem shC_5 : shC 5 = .inr (0, 12, sg_g0) := rfl
theorem shC_6 : shC 6 = .inr (0, 12, sg_g0) := rfl
theorem shC_7 : shC 7 = .inr (0, 12, sg_g0) := rfl
theorem shC_8 : shC 8 = .inr (0, 12, sg_g0) := rfl
theorem shC_9 : shC 9 = .inr (0, 4, sg_g0) := rfl
theorem shC_10 : shC 10 = .inr (0, 8, sg_g0) := rfl
theorem shC_11 : shC 11 = .inl (0, [0, 0, 0, 0, 0, 0, 14, 15, 16, 17, 18, 19, 20]) := rfl
theorem shC_12 : shC 12 = .inr (0, 7, sg_g0) := rfl
theorem shC_13 : shC 13 = .inr (0, 12, sg_g0) := rfl
theorem shC_14 : shC 14 = .inr (0, 12, sg_g0) := rfl
theorem shC_15 : shC 15 = .inr (0, 12, sg_g0) := rfl
theorem shC_16 : shC 16 = .inr (0, 12, sg_g0) := rfl
theorem shC_17 : shC 17 = .inr (0, 4, sg_g0) := rfl
theorem shC_18 : shC 18 = .inr (0, 8, sg_g0) := rfl
theorem shC_19 : shC 19 = .inl (3, [3, 22, 0]) := rfl
theorem shC_20 : shC 20 = .inr (0, 240, sg_g0) := rfl
theorem shC_21 : shC 21 = .inl (4, [24, 29, 30, 0, 0, 0]) := rfl
theorem shC_22 : shC 22 = .inr (3, 4, (fun k => 23 + k)) := rfl
theorem shC_23 : shC 23 = .inr (0, 240, sg_g0) := rfl
theorem shC_24 : shC 24 = .inr (0, 240, sg_g0) := rfl
theorem shC_25 : shC 25 = .inr (0, 240, sg_g0) := rfl
theorem shC_26 : shC 26 = .inr (0, 240, sg_g0) := rfl
theorem shC_27 : shC 27 = .inr (0, 4, sg_g0) := rfl
theorem shC_28 : shC 28 = .inr (0, 240, sg_g0) := rfl
theorem shC_29 : shC 29 = .inl (10, [32, 37, 38, 0, 0]) := rfl
theorem shC_30 : shC 30 = .inr (3, 4, (fun k => 31 + k)) := rfl
theorem shC_31 : shC 31 = .inr (0, 12, sg_g0) := rfl
theorem shC_32 : shC 32 = .inr (0, 12, sg_g0) := rfl
theorem shC_33 : shC 33 = .inr (0, 12, sg_g0) := rfl
theorem shC_34 : shC 34 = .inr (0, 12, sg_g0) := rfl
theorem shC_35 : shC 35 = .inr (0, 4, sg_g0) := rfl
theorem shC_36 : shC 36 = .inr (0, 12, sg_g0) := rfl
theorem shC_37 : shC 37 = .inl (1, [5, 23, 31, 40, 41]) := rfl
theorem shC_38 : shC 38 = .inr (0, 6, sg_g0) := rfl
theorem shC_39 : shC 39 = .inr (0, 12, sg_g0) := rfl
theorem shC_40 : shC 40 = .inl (6, [43, 0, 0, 44, 328, 45, 0]) := rfl
theorem shC_41 : shC 41 = .inr (2, 40, (fun k => 86 + 6 * k)) := rfl
theorem shC_42 : shC 42 = .inr (0, 300, sg_g0) := rfl
theorem shC_43 : shC 43 = .inr (0, 300, sg_g0) := rfl
theorem shC_44 : shC 44 = .inl (5, [5, 39, 47, 55, 63, 0]) := rfl
theorem shC_45 : shC 45 = .inr (3, 7, (fun k => 46 + k)) := rfl
theorem shC_46 : shC 46 = .inr (0, 7, sg_g0) := rfl
theorem shC_47 : shC 47 = .inr (0, 7, sg_g0) := rfl
theorem shC_48 : shC 48 = .inr (0, 7, sg_g0) := rfl
theorem shC_49 : shC 49 = .inr (0, 7, sg_g0) := rfl
theorem shC_50 : shC 50 = .inr (0, 7, sg_g0) := rfl
theorem shC_51 : shC 51 = .inr (0, 7, sg_g0) := rfl
theorem shC_52 : shC 52 = .inr (0, 7, sg_g0) := rfl
theorem shC_53 : shC 53 = .inr (3, 7, (fun k => 54 + k)) := rfl
theorem shC_54 : shC 54 = .inr (0, 7, sg_g0) := rfl
theorem shC_55 : shC 55 = .inr (0, 7, sg_g0) := rfl
theorem shC_56 : shC 56 = .inr (0, 7, sg_g0) := rfl
theorem shC_57 : shC 57 = .inr (0, 7, sg_g0) := rfl
theorem shC_58 : shC 58 = .inr (0, 7, sg_g0) := rfl
theorem shC_59 : shC 59 = .inr (0, 7, sg_g0) := rfl
theorem shC_60 : shC 60 = .inr (0, 7, sg_g0) := rfl
theorem shC_61 : shC 61 = .inr (0, 7, sg_g0) := rfl
theorem shC_62 : shC 62 = .inl (7, [5, 31, 39, 82, 65, 66, 67, 68, 69, 0]) := rfl
theorem shC_63 : shC 63 = .inr (0, 10, sg_g0) := rfl
theorem shC_64 : shC 64 = .inr (0, 10, sg_g0) := rfl
theorem shC_65 : shC 65 = .inr (0, 10, sg_g0) := rfl
theorem shC_66 : shC 66 = .inr (1, 10, sg_g0) := rfl
theorem shC_67 : shC 67 = .inr (3, 4, (fun k => 68 + k)) := rfl
theorem shC_68 : shC 68 = .inr (0, 10, sg_g0) := rfl
theorem shC_69 : shC 69 = .inr (0, 10, sg_g0) := rfl
theorem shC_70 : shC 70 = .inr (0, 10, sg_g0) := rfl
theorem shC_71 : shC 71 = .inr (0, 10, sg_g0) := rfl
theorem shC_72 : shC 72 = .inl (2, [5, 76, 46, 0, 0, 0, 0]) := rfl
theorem shC_73 : shC 73 = .inr (0, 5, sg_g0) := rfl
theorem shM_0 : shM 0 = .inl (12, [0, 3, 0, 0, 0, 0, 4, 5, 6, 7, 8, 9, 10, 0, 0, 11, 12, 13, 14, 15, 16, 0, 0, 0, 17, 18, 19, 20, 0, 0, 0, 21, 22, 0, 23, 24, 0, 0, 25, 26, 0, 27, 0, 1, 28, 29, 0, 0, 0, 30, 31, 32, 33, 34, 0, 35, 36, 0]) := rfl
theorem shM_1 : shM 1 = .inr (0, 240, sg_g0) := rfl
theorem shM_2 : shM 2 = .inr (0, 2600, sg_g0) := rfl
theorem shM_3 : shM 3 = .inr (0, 2600, sg_g0) := rfl
theorem shM_4 : shM 4 = .inr (0, 5, sg_g0) := rfl
theorem shM_5 : shM 5 = .inr (0, 5, sg_g0) := rfl
theorem shM_6 : shM 6 = .inr (0, 700, sg_g0) := rfl
theorem shM_7 : shM 7 = .inr (0, 700, sg_g0) := rfl
theorem shM_8 : shM 8 = .inr (0, 700, sg_g0) := rfl
theorem shM_9 : shM 9 = .inr (0, 6, sg_g0) := rfl
theorem shM_10 : shM 10 = .inr (0, 80, sg_g0) := rfl
theorem shM_11 : shM 11 = .inr (0, 2, sg_g0) := rfl
theorem shM_12 : shM 12 = .inr (0, 7, sg_g0) := rfl
theorem shM_13 : shM 13 = .inr (0, 48, sg_g0) := rfl
theorem shM_14 : shM 14 = .inr (0, 4, sg_g0) := rfl
theorem shM_15 : shM 15 = .inr (0, 2, sg_g0) := rfl
theorem shM_16 : shM 16 = .inr (0, 7, sg_g0) := rfl
theorem shM_17 : shM 17 = .inr (0, 48, sg_g0) := rfl
theorem shM_18 : shM 18 = .inr (0, 4, sg_g0) := rfl
theorem shM_19 : shM 19 = .inr (0, 60, sg_g0) := rfl
theorem shM_20 : shM 20 = .inr (0, 5, sg_g0) := rfl
theorem shM_21 : shM 21 = .inr (0, 215, sg_g0) := rfl
theorem shM_22 : shM 22 = .inr (0, 5, sg_g0) := rfl
theorem shM_23 : shM 23 = .inr (0, 12, sg_g0) := rfl
theorem shM_24 : shM 24 = .inr (0, 12, sg_g0) := rfl
theorem shM_25 : shM 25 = .inr (0, 8600, sg_g0) := rfl
theorem shM_26 : shM 26 = .inr (0, 49, sg_g0) := rfl
theorem shM_27 : shM 27 = .inr (0, 49, sg_g0) := rfl
theorem shM_28 : shM 28 = .inr (0, 34, sg_g0) := rfl
theorem shM_29 : shM 29 = .inr (0, 10, sg_g0) := rfl
theorem shM_30 : shM 30 = .inr (0, 10, sg_g0) := rfl
theorem shM_31 : shM 31 = .inr (0, 10, sg_g0) := rfl
theorem shM_32 : shM 32 = .inr (1, 10, sg_g0) := rfl
theorem shM_33 : shM 33 = .inr (0, 40, sg_g0) := rfl
theorem shM_34 : shM 34 = .inr (0, 215, sg_g0) := rfl
def isSt (o : Nat) : Prop := ∃ j, j < 43 ∧ o = 74 + 6 * j
theorem isSt_lit (j : Nat) (h : j < 43) : isSt (74 + 6 * j) := ⟨j, h, rfl⟩
theorem isSt_ah {j : Nat} (h : j < 40) : isSt (86 + 6 * j) := ⟨j + 2, by omega, by omega⟩
theorem isSt_sh {o : Nat} (h : isSt o) (t : Nat) (ht : t < 6) : shC (o + t) = shSt o t := by
  obtain ⟨j, hj, rfl⟩ := h
  unfold shC
  rw [if_neg (by omega), show (74 + 6 * j + t - 74) % 6 = t by omega, show 74 + 6 * j + t - t = 74 + 6 * j by omega]
theorem isSt_s0 {o : Nat} (h : isSt o) : shC o = .inl (8, [o + 1 + 2, o + 2 + 2, o + 3 + 2, o + 4 + 2, o + 5 + 2, 0, 0, 0]) := isSt_sh h 0 (by decide)
theorem isSt_i0 {o : Nat} (h : isSt o) : o < 332 := by obtain ⟨j, hj, rfl⟩ := h; omega
theorem isSt_s1 {o : Nat} (h : isSt o) : shC (o + 1) = .inr (0, 4, sg_g0) := isSt_sh h 1 (by decide)
theorem isSt_i1 {o : Nat} (h : isSt o) : o + 1 < 332 := by obtain ⟨j, hj, rfl⟩ := h; omega
theorem isSt_s2 {o : Nat} (h : isSt o) : shC (o + 2) = .inr (0, 4, sg_g0) := isSt_sh h 2 (by decide)
theorem isSt_i2 {o : Nat} (h : isSt o) : o + 2 < 332 := by obtain ⟨j, hj, rfl⟩ := h; omega
theorem isSt_s3 {o : Nat} (h : isSt o) : shC (o + 3) = .inr (0, 4, sg_g0) := isSt_sh h 3 (by decide)
theorem isSt_i3 {o : Nat} (h : isSt o) : o + 3 < 332 := by obtain ⟨j, hj, rfl⟩ := h; omega
theorem isSt_s4 {o : Nat} (h : isSt o) : shC (o + 4) = .inr (0, 12, sg_g0) := isSt_sh h 4 (by decide)
theorem isSt_i4 {o : Nat} (h : isSt o) : o + 4 < 332 := by obtain ⟨j, hj, rfl⟩ := h; omega
theorem isSt_s5 {o : Nat} (h : isSt o) : shC (o + 5) = .inr (0, 7, sg_g0) := isSt_sh h 5 (by decide)
theorem isSt_i5 {o : Nat} (h : isSt o) : o + 5 < 332 := by obtain ⟨j, hj, rfl⟩ := h; omega
def isCo (o : Nat) : Prop := o = 3 ∨ o = 11
theorem isCo_3 : isCo 3 := Or.inl rfl
theorem isCo_11 : isCo 11 := Or.inr rfl
theorem isCo_s0 {o : Nat} (h : isCo o) : shC o = .inl (0, [0, 0, 0, 0, 0, 0, o + 1 + 2, o + 2 + 2, o + 3 + 2, o + 4 + 2, o + 5 + 2, o + 6 + 2, o + 7 + 2]) := by rcases h with rfl | rfl <;> rfl
theorem isCo_i0 {o : Nat} (h : isCo o) : o < 332 := by rcases h with rfl | rfl <;> decide
theorem isCo_s1 {o : Nat} (h : isCo o) : shC (o + 1) = .inr (0, 7, sg_g0) := by rcases h with rfl | rfl <;> rfl
theorem isCo_i1 {o : Nat} (h : isCo o) : o + 1 < 332 := by rcases h with rfl | rfl <;> decide
theorem isCo_s2 {o : Nat} (h : isCo o) : shC (o + 2) = .inr (0, 12, sg_g0) := by rcases h with rfl | rfl <;> rfl
theorem isCo_i2 {o : Nat} (h : isCo o) : o + 2 < 332 := by rcases h with rfl | rfl <;> decide
theorem isCo_s3 {o : Nat} (h : isCo o) : shC (o + 3) = .inr (0, 12, sg_g0) := by rcases h with rfl | rfl <;> rfl
theorem isCo_i3 {o : Nat} (h : isCo o) : o + 3 < 332 := by rcases h with rfl | rfl <;> decide
theorem isCo_s4 {o : Nat} (h : isCo o) : shC (o + 4) = .inr (0, 12, sg_g0) := by rcases h with rfl | rfl <;> rfl
theorem isCo_i4 {o : Nat} (h : isCo o) : o + 4 < 332 := by rcases h with rfl | rfl <;> decide
theorem isCo_s5 {o : Nat} (h : isCo o) : shC (o + 5) = .inr (0, 12, sg_g0) := by rcases h with rfl | rfl <;> rfl
theorem isCo_i5 {o : Nat} (h : isCo o) : o + 5 < 332 := by rcases h with rfl | rfl <;> decide
theorem isCo_s6 {o : Nat} (h : isCo o) : shC (o + 6) = .inr (0, 4, sg_g0) := by rcases h with rfl | rfl <;> rfl
theorem isCo_i6 {o : Nat} (h : isCo o) : o + 6 < 332 := by rcases h with rfl | rfl <;> decide
theorem isCo_s7 {o : Nat} (h : isCo o) : shC (o + 7) = .inr (0, 8, sg_g0) := by rcases h with rfl | rfl <;> rfl
theorem isCo_i7 {o : Nat} (h : isCo o) : o + 7 < 332 := by rcases h with rfl | rfl <;> decide
theorem shC_22i {j : Nat} (h : j < 4) : 23 + j < 332 := by omega
theorem shC_22s {j : Nat} (h : j < 4) : shC (23 + j) = .inr (0, 240, sg_g0) := by
  match j, h with
  | 0, _ => rfl
  | 1, _ => rfl
  | 2, _ => rfl
  | 3, _ => rfl
  | j + 4, h => exact absurd h (by omega)
theorem shC_30i {j : Nat} (h : j < 4) : 31 + j < 332 := by omega
theorem shC_30s {j : Nat} (h : j < 4) : shC (31 + j) = .inr (0, 12, sg_g0) := by
  match j, h with
  | 0, _ => rfl
  | 1, _ => rfl
  | 2, _ => rfl
  | 3, _ => rfl
  | j + 4, h => exact absurd h (by omega)
theorem shC_45i {j : Nat} (h : j < 7) : 46 + j < 332 := by omega
theorem shC_45s {j : Nat} (h : j < 7) : shC (46 + j) = .inr (0, 7, sg_g0) := by
  match j, h with
  | 0, _ => rfl
  | 1, _ => rfl
  | 2, _ => rfl
  | 3, _ => rfl
  | 4, _ => rfl
  | 5, _ => rfl
  | 6, _ => rfl
  | j + 7, h => exact absurd h (by omega)
theorem shC_53i {j : Nat} (h : j < 7) : 54 + j < 332 := by omega
theorem shC_53s {j : Nat} (h : j < 7) : shC (54 + j) = .inr (0, 7, sg_g0) := by
  match j, h with
  | 0, _ => rfl
  | 1, _ => rfl
  | 2, _ => rfl
  | 3, _ => rfl
  | 4, _ => rfl
  | 5, _ => rfl
  | 6, _ => rfl
  | j + 7, h => exact absurd h (by omega)
theorem shC_67i {j : Nat} (h : j < 4) : 68 + j < 332 := by omega
theorem shC_67s {j : Nat} (h : j < 4) : shC (68 + j) = .inr (0, 10, sg_g0) := by
  match j, h with
  | 0, _ => rfl
  | 1, _ => rfl
  | 2, _ => rfl
  | 3, _ => rfl
  | j + 4, h => exact absurd h (by omega)
def sg_ushr (x y : Int32) : Int32 := (x.toUInt32 >>> (y.toUInt32 &&& Int32.toUInt32 31)).toInt32
def sg_lushr (x : Int64) (y : Int32) : Int64 := (x.toUInt64 >>> (y.toInt64.toUInt64 &&& Int64.toUInt64 63)).toInt64
theorem sg_nzW {α : Type} {y : Int32} {K : Option α} {st : α} {P : Prop} (h : sg_nz y K = some st) (kk : ¬ y = 0 → K = some st → P) : P := by
  by_cases c : y = 0
  · rw [sg_nz, if_pos c] at h; cases h
  · rw [sg_nz, if_neg c] at h; exact kk c h
theorem sg_nzlW {α : Type} {y : Int64} {K : Option α} {st : α} {P : Prop} (h : sg_nzl y K = some st) (kk : ¬ y = 0 → K = some st → P) : P := by
  by_cases c : y = 0
  · rw [sg_nzl, if_pos c] at h; cases h
  · rw [sg_nzl, if_neg c] at h; exact kk c h
theorem sg_ine {x k : Int32} {z : Int} (hz : k.toInt = z) (h : ¬ x = k) : ¬ x.toInt = z := fun e => h (Int32.toInt_inj.mp (by rw [hz]; exact e))
section SWI
variable {p : Program} {l : Launch} {e : Env} {R : Room} {s : State} {m : MethodId} {args : Array Value} {below : List Frame} {meth : Method} {c : Code} {H : Heap} {locs : List Loc} {cells slots : Nat} {Q : State → Prop} {cc : ByteArray} {pc : Nat} {ls : Array Slot} {rest : List Value}
theorem sg_swIn (hexec : p.tables.exec = Jvm.exec) (hb : c.code = cc) {dflt lo hi : Int} {offs : Array Int} {len : Nat} {x k : Int32} {off : Int} {tgt : Nat} (hdg : decode cc pc = .ok (.tableswitch dflt lo hi offs, len)) (hxk : x = k) (h1 : ¬ k.toInt < lo) (h2 : ¬ hi < k.toInt) (ho : offs[(k.toInt - lo).toNat]? = some off) (ht : (pc : Int) + off = (tgt : Int))
    (kk : W p l e R s m args below meth c H locs cells slots Q (F0 m tgt ls rest)) : W p l e R s m args below meth c H locs cells slots Q (F0 m pc ls (.int x :: rest)) := by
  subst hxk
  exact lv_tableIn hexec hb hdg h1 h2 ho ht kk
theorem sg_lkIn (hexec : p.tables.exec = Jvm.exec) (hb : c.code = cc) {dflt : Int} {ps : Array (Int × Int)} {len : Nat} {x k : Int32} {off : Int} {tgt : Nat} (hdg : decode cc pc = .ok (.lookupswitch dflt ps, len)) (hxk : x = k) (hp : (ps.toList.zip (ps.toList.drop 1)).all (fun (a, next) => a.1 < next.1) = true) (ho : Op.lookupswitch.offset ps.toList dflt k.toInt = off) (ht : (pc : Int) + off = (tgt : Int))
    (kk : W p l e R s m args below meth c H locs cells slots Q (F0 m tgt ls rest)) : W p l e R s m args below meth c H locs cells slots Q (F0 m pc ls (.int x :: rest)) := by
  subst hxk
  exact lv_lookup hexec hb hdg hp ho ht kk
end SWI
