def sg_g0 : Nat → Nat := fun _ => 0
/-- the row of States when the first j are there -/
def sg_gj (i j : Nat) : Nat → Nat := fun q => if q < j then i + 10 + 6 * q + 1 else 0
def shSt (o t : Nat) : sgE := if t = 0 then .inl (8, [o + 1 + 3, o + 2 + 3, o + 3 + 3, o + 4 + 3, o + 5 + 3, 0, 0, 0]) else if t = 4 then .inr (0, 12, sg_g0) else if t = 5 then .inr (0, 7, sg_g0) else .inr (0, 4, sg_g0)
def shC0 : List sgE := [.inl (11, [4, 6, 14, 22, 24, 32, 40, 46, 52, 55, 305, 323, 333, 334, 0, 1]), .inl (9, [5, 0, 0]), .inr (0, 240, sg_g0), .inl (0, [0, 0, 0, 0, 0, 0, 7, 8, 9, 10, 11, 12, 13]), .inr (0, 7, sg_g0), .inr (0, 12, sg_g0), .inr (0, 12, sg_g0), .inr (0, 12, sg_g0), .inr (0, 12, sg_g0), .inr (0, 4, sg_g0), .inr (0, 8, sg_g0), .inl (0, [0, 0, 0, 0, 0, 0, 15, 16, 17, 18, 19, 20, 21]), .inr (0, 7, sg_g0), .inr (0, 12, sg_g0), .inr (0, 12, sg_g0), .inr (0, 12, sg_g0), .inr (0, 12, sg_g0), .inr (0, 4, sg_g0), .inr (0, 8, sg_g0), .inl (3, [4, 23, 0]), .inr (0, 240, sg_g0), .inl (4, [25, 30, 31, 0, 0, 0]), .inr (3, 4, (fun k => 23 + k + 1)), .inr (0, 240, sg_g0), .inr (0, 240, sg_g0), .inr (0, 240, sg_g0), .inr (0, 240, sg_g0), .inr (0, 4, sg_g0), .inr (0, 240, sg_g0), .inl (10, [33, 38, 39, 0, 0]), .inr (3, 4, (fun k => 31 + k + 1)), .inr (0, 12, sg_g0), .inr (0, 12, sg_g0), .inr (0, 12, sg_g0), .inr (0, 12, sg_g0), .inr (0, 4, sg_g0), .inr (0, 12, sg_g0), .inl (8, [41, 42, 43, 44, 45, 0, 0, 0]), .inr (0, 4, sg_g0), .inr (0, 4, sg_g0), .inr (0, 4, sg_g0), .inr (0, 12, sg_g0), .inr (0, 7, sg_g0), .inl (8, [47, 48, 49, 50, 51, 0, 0, 0]), .inr (0, 4, sg_g0), .inr (0, 4, sg_g0), .inr (0, 4, sg_g0), .inr (0, 12, sg_g0), .inr (0, 7, sg_g0), .inl (1, [6, 24, 32, 53, 54]), .inr (0, 6, sg_g0), .inr (0, 12, sg_g0), .inl (6, [56, 0, 0, 57, 58, 64, 0]), .inr (2, 40, sg_gj 52 40), .inr (0, 300, sg_g0), .inl (8, [59, 60, 61, 62, 63, 0, 0, 0]), .inr (0, 4, sg_g0), .inr (0, 4, sg_g0), .inr (0, 4, sg_g0), .inr (0, 12, sg_g0), .inr (0, 7, sg_g0), .inr (0, 300, sg_g0)]
def shC1 : List sgE := [.inl (5, [6, 52, 306, 314, 322, 0]), .inr (3, 7, (fun k => 304 + k + 1)), .inr (0, 7, sg_g0), .inr (0, 7, sg_g0), .inr (0, 7, sg_g0), .inr (0, 7, sg_g0), .inr (0, 7, sg_g0), .inr (0, 7, sg_g0), .inr (0, 7, sg_g0), .inr (3, 7, (fun k => 312 + k + 1)), .inr (0, 7, sg_g0), .inr (0, 7, sg_g0), .inr (0, 7, sg_g0), .inr (0, 7, sg_g0), .inr (0, 7, sg_g0), .inr (0, 7, sg_g0), .inr (0, 7, sg_g0), .inr (0, 7, sg_g0), .inl (7, [6, 32, 52, 46, 324, 325, 326, 327, 328, 0]), .inr (0, 10, sg_g0), .inr (0, 10, sg_g0), .inr (0, 10, sg_g0), .inr (1, 10, sg_g0), .inr (3, 4, (fun k => 326 + k + 1)), .inr (0, 10, sg_g0), .inr (0, 10, sg_g0), .inr (0, 10, sg_g0), .inr (0, 10, sg_g0), .inl (2, [6, 40, 305, 0, 0, 0, 0]), .inr (0, 5, sg_g0)]
def shM0 : List sgE := [.inl (12, [0, 4, 0, 0, 0, 0, 5, 6, 7, 8, 9, 10, 11, 0, 0, 12, 13, 14, 15, 16, 17, 0, 0, 0, 18, 19, 20, 21, 0, 0, 0, 22, 23, 0, 24, 25, 0, 0, 26, 27, 0, 28, 0, 1, 29, 30, 0, 0, 0, 31, 32, 33, 34, 35, 0, 36, 37, 0]), .inr (0, 240, sg_g0), .inr (0, 2600, sg_g0), .inr (0, 2600, sg_g0), .inr (0, 5, sg_g0), .inr (0, 5, sg_g0), .inr (0, 700, sg_g0), .inr (0, 700, sg_g0), .inr (0, 700, sg_g0), .inr (0, 6, sg_g0), .inr (0, 80, sg_g0), .inr (0, 2, sg_g0), .inr (0, 7, sg_g0), .inr (0, 48, sg_g0), .inr (0, 4, sg_g0), .inr (0, 2, sg_g0), .inr (0, 7, sg_g0), .inr (0, 48, sg_g0), .inr (0, 4, sg_g0), .inr (0, 60, sg_g0), .inr (0, 5, sg_g0), .inr (0, 215, sg_g0), .inr (0, 5, sg_g0), .inr (0, 12, sg_g0), .inr (0, 12, sg_g0), .inr (0, 8600, sg_g0), .inr (0, 49, sg_g0), .inr (0, 49, sg_g0), .inr (0, 34, sg_g0), .inr (0, 10, sg_g0), .inr (0, 10, sg_g0), .inr (0, 10, sg_g0), .inr (1, 10, sg_g0), .inr (0, 40, sg_g0), .inr (0, 215, sg_g0)]
def shC (i : Nat) : sgE := if i < 62 then shC0.getD i (.inr (0, 0, sg_g0)) else if i < 302 then shSt (i - (i - 62) % 6) ((i - 62) % 6) else shC1.getD (i - 302) (.inr (0, 0, sg_g0))
def shM (i : Nat) : sgE := shM0.getD i (.inr (0, 0, sg_g0))
theorem shC_0 : shC 0 = .inl (11, [4, 6, 14, 22, 24, 32, 40, 46, 52, 55, 305, 323, 333, 334, 0, 1]) := rfl
theorem shC_1 : shC 1 = .inl (9, [5, 0, 0]) := rfl
theorem shC_2 : shC 2 = .inr (0, 240, sg_g0) := rfl
theorem shC_3 : shC 3 = .inl (0, [0, 0, 0, 0, 0, 0, 7, 8, 9, 10, 11, 12, 13]) := rfl
theorem shC_4 : shC 4 = .inr (0, 7, sg_g0) := rfl
theorem shC_5 : shC 5 = .inr (0, 12, sg_g0) := rfl
theorem shC_6 : shC 6 = .inr (0, 12, sg_g0) := rfl
theorem shC_7 : shC 7 = .inr (0, 12, sg_g0) := rfl
theorem shC_8 : shC 8 = .inr (0, 12, sg_g0) := rfl
theorem shC_9 : shC 9 = .inr (0, 4, sg_g0) := rfl
theorem shC_10 : shC 10 = .inr (0, 8, sg_g0) := rfl
theorem shC_11 : shC 11 = .inl (0, [0, 0, 0, 0, 0, 0, 15, 16, 17, 18, 19, 20, 21]) := rfl
theorem shC_12 : shC 12 = .inr (0, 7, sg_g0) := rfl
theorem shC_13 : shC 13 = .inr (0, 12, sg_g0) := rfl
theorem shC_14 : shC 14 = .inr (0, 12, sg_g0) := rfl
theorem shC_15 : shC 15 = .inr (0, 12, sg_g0) := rfl
theorem shC_16 : shC 16 = .inr (0, 12, sg_g0) := rfl
theorem shC_17 : shC 17 = .inr (0, 4, sg_g0) := rfl
theorem shC_18 : shC 18 = .inr (0, 8, sg_g0) := rfl
theorem shC_19 : shC 19 = .inl (3, [4, 23, 0]) := rfl
theorem shC_20 : shC 20 = .inr (0, 240, sg_g0) := rfl
theorem shC_21 : shC 21 = .inl (4, [25, 30, 31, 0, 0, 0]) := rfl
theorem shC_22 : shC 22 = .inr (3, 4, (fun k => 23 + k + 1)) := rfl
theorem shC_23 : shC 23 = .inr (0, 240, sg_g0) := rfl
theorem shC_24 : shC 24 = .inr (0, 240, sg_g0) := rfl
theorem shC_25 : shC 25 = .inr (0, 240, sg_g0) := rfl
theorem shC_26 : shC 26 = .inr (0, 240, sg_g0) := rfl
theorem shC_27 : shC 27 = .inr (0, 4, sg_g0) := rfl
theorem shC_28 : shC 28 = .inr (0, 240, sg_g0) := rfl
theorem shC_29 : shC 29 = .inl (10, [33, 38, 39, 0, 0]) := rfl
theorem shC_30 : shC 30 = .inr (3, 4, (fun k => 31 + k + 1)) := rfl
theorem shC_31 : shC 31 = .inr (0, 12, sg_g0) := rfl
theorem shC_32 : shC 32 = .inr (0, 12, sg_g0) := rfl
theorem shC_33 : shC 33 = .inr (0, 12, sg_g0) := rfl
theorem shC_34 : shC 34 = .inr (0, 12, sg_g0) := rfl
theorem shC_35 : shC 35 = .inr (0, 4, sg_g0) := rfl
theorem shC_36 : shC 36 = .inr (0, 12, sg_g0) := rfl
theorem shC_37 : shC 37 = .inl (8, [41, 42, 43, 44, 45, 0, 0, 0]) := rfl
theorem shC_38 : shC 38 = .inr (0, 4, sg_g0) := rfl
theorem shC_39 : shC 39 = .inr (0, 4, sg_g0) := rfl
theorem shC_40 : shC 40 = .inr (0, 4, sg_g0) := rfl
theorem shC_41 : shC 41 = .inr (0, 12, sg_g0) := rfl
theorem shC_42 : shC 42 = .inr (0, 7, sg_g0) := rfl
theorem shC_43 : shC 43 = .inl (8, [47, 48, 49, 50, 51, 0, 0, 0]) := rfl
theorem shC_44 : shC 44 = .inr (0, 4, sg_g0) := rfl
theorem shC_45 : shC 45 = .inr (0, 4, sg_g0) := rfl
theorem shC_46 : shC 46 = .inr (0, 4, sg_g0) := rfl
theorem shC_47 : shC 47 = .inr (0, 12, sg_g0) := rfl
theorem shC_48 : shC 48 = .inr (0, 7, sg_g0) := rfl
theorem shC_49 : shC 49 = .inl (1, [6, 24, 32, 53, 54]) := rfl
theorem shC_50 : shC 50 = .inr (0, 6, sg_g0) := rfl
theorem shC_51 : shC 51 = .inr (0, 12, sg_g0) := rfl
theorem shC_52 : shC 52 = .inl (6, [56, 0, 0, 57, 58, 64, 0]) := rfl
theorem shC_53 : shC 53 = .inr (2, 40, sg_gj 52 40) := rfl
theorem shC_54 : shC 54 = .inr (0, 300, sg_g0) := rfl
theorem shC_55 : shC 55 = .inl (8, [59, 60, 61, 62, 63, 0, 0, 0]) := rfl
theorem shC_56 : shC 56 = .inr (0, 4, sg_g0) := rfl
theorem shC_57 : shC 57 = .inr (0, 4, sg_g0) := rfl
theorem shC_58 : shC 58 = .inr (0, 4, sg_g0) := rfl
theorem shC_59 : shC 59 = .inr (0, 12, sg_g0) := rfl
theorem shC_60 : shC 60 = .inr (0, 7, sg_g0) := rfl
theorem shC_61 : shC 61 = .inr (0, 300, sg_g0) := rfl
theorem shC_302 : shC 302 = .inl (5, [6, 52, 306, 314, 322, 0]) := rfl
theorem shC_303 : shC 303 = .inr (3, 7, (fun k => 304 + k + 1)) := rfl
theorem shC_304 : shC 304 = .inr (0, 7, sg_g0) := rfl
theorem shC_305 : shC 305 = .inr (0, 7, sg_g0) := rfl
theorem shC_306 : shC 306 = .inr (0, 7, sg_g0) := rfl
theorem shC_307 : shC 307 = .inr (0, 7, sg_g0) := rfl
theorem shC_308 : shC 308 = .inr (0, 7, sg_g0) := rfl
theorem shC_309 : shC 309 = .inr (0, 7, sg_g0) := rfl
theorem shC_310 : shC 310 = .inr (0, 7, sg_g0) := rfl
theorem shC_311 : shC 311 = .inr (3, 7, (fun k => 312 + k + 1)) := rfl
theorem shC_312 : shC 312 = .inr (0, 7, sg_g0) := rfl
theorem shC_313 : shC 313 = .inr (0, 7, sg_g0) := rfl
theorem shC_314 : shC 314 = .inr (0, 7, sg_g0) := rfl
theorem shC_315 : shC 315 = .inr (0, 7, sg_g0) := rfl
theorem shC_316 : shC 316 = .inr (0, 7, sg_g0) := rfl
theorem shC_317 : shC 317 = .inr (0, 7, sg_g0) := rfl
theorem shC_318 : shC 318 = .inr (0, 7, sg_g0) := rfl
theorem shC_319 : shC 319 = .inr (0, 7, sg_g0) := rfl
theorem shC_320 : shC 320 = .inl (7, [6, 32, 52, 46, 324, 325, 326, 327, 328, 0]) := rfl
theorem shC_321 : shC 321 = .inr (0, 10, sg_g0) := rfl
theorem shC_322 : shC 322 = .inr (0, 10, sg_g0) := rfl
theorem shC_323 : shC 323 = .inr (0, 10, sg_g0) := rfl
theorem shC_324 : shC 324 = .inr (1, 10, sg_g0) := rfl
theorem shC_325 : shC 325 = .inr (3, 4, (fun k => 326 + k + 1)) := rfl
theorem shC_326 : shC 326 = .inr (0, 10, sg_g0) := rfl
theorem shC_327 : shC 327 = .inr (0, 10, sg_g0) := rfl
theorem shC_328 : shC 328 = .inr (0, 10, sg_g0) := rfl
theorem shC_329 : shC 329 = .inr (0, 10, sg_g0) := rfl
theorem shC_330 : shC 330 = .inl (2, [6, 40, 305, 0, 0, 0, 0]) := rfl
theorem shC_331 : shC 331 = .inr (0, 5, sg_g0) := rfl
theorem shM_0 : shM 0 = .inl (12, [0, 4, 0, 0, 0, 0, 5, 6, 7, 8, 9, 10, 11, 0, 0, 12, 13, 14, 15, 16, 17, 0, 0, 0, 18, 19, 20, 21, 0, 0, 0, 22, 23, 0, 24, 25, 0, 0, 26, 27, 0, 28, 0, 1, 29, 30, 0, 0, 0, 31, 32, 33, 34, 35, 0, 36, 37, 0]) := rfl
theorem shM_1 : shM 1 = .inr (0, 240, sg_g0) := rfl
theorem shM_2 : shM 2 = .inr (0, 2600, sg_g0) := rfl
theorem shM_3 : shM 3 = .inr (0, 2600, sg_g0) := rfl
theorem shM_4 : shM 4 = .inr (0, 5, sg_g0) := rfl
theorem shM_5 : shM 5 = .inr (0, 5, sg_g0) := rfl
theorem shM_6 : shM 6 = .inr (0, 700, sg_g0) := rfl
theorem shM_7 : shM 7 = .inr (0, 700, sg_g0) := rfl
theorem shM_8 : shM 8 = .inr (0, 700, sg_g0) := rfl
theorem shM_9 : shM 9 = .inr (0, 6, sg_g0) := rfl
theorem shM_10 : shM 10 = .inr (0, 80, sg_g0) := rfl
theorem shM_11 : shM 11 = .inr (0, 2, sg_g0) := rfl
theorem shM_12 : shM 12 = .inr (0, 7, sg_g0) := rfl
theorem shM_13 : shM 13 = .inr (0, 48, sg_g0) := rfl
theorem shM_14 : shM 14 = .inr (0, 4, sg_g0) := rfl
theorem shM_15 : shM 15 = .inr (0, 2, sg_g0) := rfl
theorem shM_16 : shM 16 = .inr (0, 7, sg_g0) := rfl
theorem shM_17 : shM 17 = .inr (0, 48, sg_g0) := rfl
theorem shM_18 : shM 18 = .inr (0, 4, sg_g0) := rfl
theorem shM_19 : shM 19 = .inr (0, 60, sg_g0) := rfl
theorem shM_20 : shM 20 = .inr (0, 5, sg_g0) := rfl
theorem shM_21 : shM 21 = .inr (0, 215, sg_g0) := rfl
theorem shM_22 : shM 22 = .inr (0, 5, sg_g0) := rfl
theorem shM_23 : shM 23 = .inr (0, 12, sg_g0) := rfl
theorem shM_24 : shM 24 = .inr (0, 12, sg_g0) := rfl
theorem shM_25 : shM 25 = .inr (0, 8600, sg_g0) := rfl
theorem shM_26 : shM 26 = .inr (0, 49, sg_g0) := rfl
theorem shM_27 : shM 27 = .inr (0, 49, sg_g0) := rfl
theorem shM_28 : shM 28 = .inr (0, 34, sg_g0) := rfl
theorem shM_29 : shM 29 = .inr (0, 10, sg_g0) := rfl
theorem shM_30 : shM 30 = .inr (0, 10, sg_g0) := rfl
theorem shM_31 : shM 31 = .inr (0, 10, sg_g0) := rfl
theorem shM_32 : shM 32 = .inr (1, 10, sg_g0) := rfl
theorem shM_33 : shM 33 = .inr (0, 40, sg_g0) := rfl
theorem shM_34 : shM 34 = .inr (0, 215, sg_g0) := rfl
def isSt (o : Nat) : Prop := o = 37 ∨ o = 43 ∨ o = 55 ∨ ∃ j, j < 40 ∧ o = 62 + 6 * j
theorem isSt_37 : isSt 37 := Or.inl rfl
theorem isSt_43 : isSt 43 := Or.inr (Or.inl rfl)
theorem isSt_55 : isSt 55 := Or.inr (Or.inr (Or.inl rfl))
theorem isSt_ah {j : Nat} (h : j < 40) : isSt (62 + 6 * j) := Or.inr (Or.inr (Or.inr ⟨j, h, rfl⟩))
theorem isSt_sh {o : Nat} (h : isSt o) (t : Nat) (ht : t < 6) : shC (o + t) = shSt o t := by
  rcases h with rfl | rfl | rfl | ⟨j, hj, rfl⟩
  · match t, ht with
    | 0, _ => rfl
    | 1, _ => rfl
    | 2, _ => rfl
    | 3, _ => rfl
    | 4, _ => rfl
    | 5, _ => rfl
    | t + 6, h => exact absurd h (by omega)
  · match t, ht with
    | 0, _ => rfl
    | 1, _ => rfl
    | 2, _ => rfl
    | 3, _ => rfl
    | 4, _ => rfl
    | 5, _ => rfl
    | t + 6, h => exact absurd h (by omega)
  · match t, ht with
    | 0, _ => rfl
    | 1, _ => rfl
    | 2, _ => rfl
    | 3, _ => rfl
    | 4, _ => rfl
    | 5, _ => rfl
    | t + 6, h => exact absurd h (by omega)
  · unfold shC
    rw [if_neg (by omega), if_pos (by omega), show (62 + 6 * j + t - 62) % 6 = t by omega, show 62 + 6 * j + t - t = 62 + 6 * j by omega]
theorem isSt_s0 {o : Nat} (h : isSt o) : shC o = .inl (8, [o + 1 + 3, o + 2 + 3, o + 3 + 3, o + 4 + 3, o + 5 + 3, 0, 0, 0]) := isSt_sh h 0 (by decide)
theorem isSt_b {o : Nat} (h : isSt o) : o + 5 < 332 := by rcases h with rfl | rfl | rfl | ⟨j, hj, rfl⟩ <;> omega
theorem isSt_i0 {o : Nat} (h : isSt o) : o < 332 := by have := isSt_b h; omega
theorem isSt_s1 {o : Nat} (h : isSt o) : shC (o + 1) = .inr (0, 4, sg_g0) := isSt_sh h 1 (by decide)
theorem isSt_i1 {o : Nat} (h : isSt o) : o + 1 < 332 := by have := isSt_b h; omega
theorem isSt_s2 {o : Nat} (h : isSt o) : shC (o + 2) = .inr (0, 4, sg_g0) := isSt_sh h 2 (by decide)
theorem isSt_i2 {o : Nat} (h : isSt o) : o + 2 < 332 := by have := isSt_b h; omega
theorem isSt_s3 {o : Nat} (h : isSt o) : shC (o + 3) = .inr (0, 4, sg_g0) := isSt_sh h 3 (by decide)
theorem isSt_i3 {o : Nat} (h : isSt o) : o + 3 < 332 := by have := isSt_b h; omega
theorem isSt_s4 {o : Nat} (h : isSt o) : shC (o + 4) = .inr (0, 12, sg_g0) := isSt_sh h 4 (by decide)
theorem isSt_i4 {o : Nat} (h : isSt o) : o + 4 < 332 := by have := isSt_b h; omega
theorem isSt_s5 {o : Nat} (h : isSt o) : shC (o + 5) = .inr (0, 7, sg_g0) := isSt_sh h 5 (by decide)
theorem isSt_i5 {o : Nat} (h : isSt o) : o + 5 < 332 := by have := isSt_b h; omega
def isCo (o : Nat) : Prop := o = 3 ∨ o = 11
theorem isCo_3 : isCo 3 := Or.inl rfl
theorem isCo_11 : isCo 11 := Or.inr rfl
theorem isCo_s0 {o : Nat} (h : isCo o) : shC o = .inl (0, [0, 0, 0, 0, 0, 0, o + 1 + 3, o + 2 + 3, o + 3 + 3, o + 4 + 3, o + 5 + 3, o + 6 + 3, o + 7 + 3]) := by rcases h with rfl | rfl <;> rfl
theorem isCo_i0 {o : Nat} (h : isCo o) : o < 332 := by rcases h with rfl | rfl <;> decide
theorem isCo_s1 {o : Nat} (h : isCo o) : shC (o + 1) = .inr (0, 7, sg_g0) := by rcases h with rfl | rfl <;> rfl
theorem isCo_i1 {o : Nat} (h : isCo o) : o + 1 < 332 := by rcases h with rfl | rfl <;> decide
theorem isCo_s2 {o : Nat} (h : isCo o) : shC (o + 2) = .inr (0, 12, sg_g0) := by rcases h with rfl | rfl <;> rfl
theorem isCo_i2 {o : Nat} (h : isCo o) : o + 2 < 332 := by rcases h with rfl | rfl <;> decide
theorem isCo_s3 {o : Nat} (h : isCo o) : shC (o + 3) = .inr (0, 12, sg_g0) := by rcases h with rfl | rfl <;> rfl
theorem isCo_i3 {o : Nat} (h : isCo o) : o + 3 < 332 := by rcases h with rfl | rfl <;> decide
theorem isCo_s4 {o : Nat} (h : isCo o) : shC (o + 4) = .inr (0, 12, sg_g0) := by rcases h with rfl | rfl <;> rfl
theorem isCo_i4 {o : Nat} (h : isCo o) : o + 4 < 332 := by rcases h with rfl | rfl <;> decide
theorem isCo_s5 {o : Nat} (h : isCo o) : shC (o + 5) = .inr (0, 12, sg_g0) := by rcases h with rfl | rfl <;> rfl
theorem isCo_i5 {o : Nat} (h : isCo o) : o + 5 < 332 := by rcases h with rfl | rfl <;> decide
theorem isCo_s6 {o : Nat} (h : isCo o) : shC (o + 6) = .inr (0, 4, sg_g0) := by rcases h with rfl | rfl <;> rfl
theorem isCo_i6 {o : Nat} (h : isCo o) : o + 6 < 332 := by rcases h with rfl | rfl <;> decide
theorem isCo_s7 {o : Nat} (h : isCo o) : shC (o + 7) = .inr (0, 8, sg_g0) := by rcases h with rfl | rfl <;> rfl
theorem isCo_i7 {o : Nat} (h : isCo o) : o + 7 < 332 := by rcases h with rfl | rfl <;> decide
theorem shC_22i {j : Nat} (h : j < 4) : 23 + j < 332 := by omega
theorem shC_22s {j : Nat} (h : j < 4) : shC (23 + j) = .inr (0, 240, sg_g0) := by
  match j, h with
  | 0, _ => rfl
  | 1, _ => rfl
  | 2, _ => rfl
  | 3, _ => rfl
  | j + 4, h => exact absurd h (by omega)
theorem shC_30i {j : Nat} (h : j < 4) : 31 + j < 332 := by omega
theorem shC_30s {j : Nat} (h : j < 4) : shC (31 + j) = .inr (0, 12, sg_g0) := by
  match j, h with
  | 0, _ => rfl
  | 1, _ => rfl
  | 2, _ => rfl
  | 3, _ => rfl
  | j + 4, h => exact absurd h (by omega)
theorem shC_303i {j : Nat} (h : j < 7) : 304 + j < 332 := by omega
theorem shC_303s {j : Nat} (h : j < 7) : shC (304 + j) = .inr (0, 7, sg_g0) := by
  match j, h with
  | 0, _ => rfl
  | 1, _ => rfl
  | 2, _ => rfl
  | 3, _ => rfl
  | 4, _ => rfl
  | 5, _ => rfl
  | 6, _ => rfl
  | j + 7, h => exact absurd h (by omega)
theorem shC_311i {j : Nat} (h : j < 7) : 312 + j < 332 := by omega
theorem shC_311s {j : Nat} (h : j < 7) : shC (312 + j) = .inr (0, 7, sg_g0) := by
  match j, h with
  | 0, _ => rfl
  | 1, _ => rfl
  | 2, _ => rfl
  | 3, _ => rfl
  | 4, _ => rfl
  | 5, _ => rfl
  | 6, _ => rfl
  | j + 7, h => exact absurd h (by omega)
theorem shC_325i {j : Nat} (h : j < 4) : 326 + j < 332 := by omega
theorem shC_325s {j : Nat} (h : j < 4) : shC (326 + j) = .inr (0, 10, sg_g0) := by
  match j, h with
  | 0, _ => rfl
  | 1, _ => rfl
  | 2, _ => rfl
  | 3, _ => rfl
  | j + 4, h => exact absurd h (by omega)
def sg_ushr (x y : Int32) : Int32 := (x.toUInt32 >>> (y.toUInt32 &&& Int32.toUInt32 31)).toInt32
def sg_lushr (x : Int64) (y : Int32) : Int64 := (x.toUInt64 >>> (y.toInt64.toUInt64 &&& Int64.toUInt64 63)).toInt64
theorem sg_nzW {α : Type} {y : Int32} {K : Option α} {st : α} {P : Prop} (h : sg_nz y K = some st) (kk : ¬ y = 0 → K = some st → P) : P := by
  by_cases c : y = 0
  · rw [sg_nz, if_pos c] at h; cases h
  · rw [sg_nz, if_neg c] at h; exact kk c h
theorem sg_nzlW {α : Type} {y : Int64} {K : Option α} {st : α} {P : Prop} (h : sg_nzl y K = some st) (kk : ¬ y = 0 → K = some st → P) : P := by
  by_cases c : y = 0
  · rw [sg_nzl, if_pos c] at h; cases h
  · rw [sg_nzl, if_neg c] at h; exact kk c h
theorem sg_ine {x k : Int32} {z : Int} (hz : k.toInt = z) (h : ¬ x = k) : ¬ x.toInt = z := fun e => h (Int32.toInt_inj.mp (by rw [hz]; exact e))
section SWI
variable {p : Program} {l : Launch} {e : Env} {R : Room} {s : State} {m : MethodId} {args : Array Value} {below : List Frame} {meth : Method} {c : Code} {H : Heap} {locs : List Loc} {cells slots : Nat} {Q : State → Prop} {cc : ByteArray} {pc : Nat} {ls : Array Slot} {rest : List Value}
theorem sg_swIn (hexec : p.tables.exec = Jvm.exec) (hb : c.code = cc) {dflt lo hi : Int} {offs : Array Int} {len : Nat} {x k : Int32} {off : Int} {tgt : Nat} (hdg : decode cc pc = .ok (.tableswitch dflt lo hi offs, len)) (hxk : x = k) (h1 : ¬ k.toInt < lo) (h2 : ¬ hi < k.toInt) (ho : offs[(k.toInt - lo).toNat]? = some off) (ht : (pc : Int) + off = (tgt : Int))
    (kk : W p l e R s m args below meth c H locs cells slots Q (F0 m tgt ls rest)) : W p l e R s m args below meth c H locs cells slots Q (F0 m pc ls (.int x :: rest)) := by
  subst hxk
  exact lv_tableIn hexec hb hdg h1 h2 ho ht kk
theorem sg_lkIn (hexec : p.tables.exec = Jvm.exec) (hb : c.code = cc) {dflt : Int} {ps : Array (Int × Int)} {len : Nat} {x k : Int32} {off : Int} {tgt : Nat} (hdg : decode cc pc = .ok (.lookupswitch dflt ps, len)) (hxk : x = k) (hp : (ps.toList.zip (ps.toList.drop 1)).all (fun (a, next) => a.1 < next.1) = true) (ho : Op.lookupswitch.offset ps.toList dflt k.toInt = off) (ht : (pc : Int) + off = (tgt : Int))
    (kk : W p l e R s m args below meth c H locs cells slots Q (F0 m tgt ls rest)) : W p l e R s m args below meth c H locs cells slots Q (F0 m pc ls (.int x :: rest)) := by
  subst hxk
  exact lv_lookup hexec hb hdg hp ho ht kk
end SWI
