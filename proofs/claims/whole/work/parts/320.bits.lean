/-! BITS -/
def bt (x : Int32) (k : Nat) : Bool := x.toBitVec.getLsbD k
theorem nI_bv {a : Nat} : (nI a).toBitVec = BitVec.ofNat 32 a := rfl
theorem bt_nI {c k : Nat} (hk : k < 32) : bt (nI c) k = c.testBit k := by
  unfold bt
  rw [nI_bv, BitVec.getLsbD_ofNat]
  simp [hk]
theorem sh31 {k : Nat} (h : k < 31) : nI k &&& 31 = nI k := by
  have key : ∀ k : Fin 31, nI k.val &&& 31 = nI k.val := by decide
  exact key ⟨k, h⟩
theorem shl_1 {k : Nat} (h : k < 31) : (1 : Int32) <<< (nI k &&& 31) = nI (2 ^ k) := by
  have key : ∀ k : Fin 31, (1 : Int32) <<< (nI k.val &&& 31) = nI (2 ^ k.val) := by decide
  exact key ⟨k, h⟩
theorem nI_xor {a b : Nat} : nI a ^^^ nI b = nI (a ^^^ b) := by
  apply Int32.toBitVec_inj.mp
  rw [Int32.toBitVec_xor, nI_bv, nI_bv, nI_bv]
  apply BitVec.eq_of_toNat_eq
  simp [Nat.xor_mod_two_pow]
theorem nI_and {a b : Nat} : nI a &&& nI b = nI (a &&& b) := by
  apply Int32.toBitVec_inj.mp
  rw [Int32.toBitVec_and, nI_bv, nI_bv, nI_bv]
  apply BitVec.eq_of_toNat_eq
  simp [Nat.and_mod_two_pow]
theorem nI_or {a b : Nat} : nI a ||| nI b = nI (a ||| b) := by
  apply Int32.toBitVec_inj.mp
  rw [Int32.toBitVec_or, nI_bv, nI_bv, nI_bv]
  apply BitVec.eq_of_toNat_eq
  simp [Nat.or_mod_two_pow]
theorem smod_k {k : Nat} (h : k < 31) : ((nI k).toBitVec.smod 32).toNat = k := by
  have key : ∀ k : Fin 31, ((nI k.val).toBitVec.smod 32).toNat = k.val := by decide
  exact key ⟨k, h⟩
theorem shr_bt {x : Int32} {k : Nat} (h : k < 31) : (x >>> (nI k &&& 31)) &&& 1 = if bt x k then 1 else 0 := by
  rw [sh31 h]
  apply Int32.toBitVec_inj.mp
  rw [Int32.toBitVec_and, Int32.toBitVec_shiftRight]
  apply BitVec.eq_of_getLsbD_eq
  intro i hi
  rw [BitVec.getLsbD_and]
  unfold bt
  rw [BitVec.sshiftRight', smod_k h, BitVec.getLsbD_sshiftRight]
  by_cases h0 : i = 0
  · subst h0
    rw [show (Int32.toBitVec 1).getLsbD 0 = true from by decide]
    by_cases hb : x.toBitVec.getLsbD k
    · rw [if_pos hb]
      simp [hb, show k < 32 by omega]
    · rw [if_neg hb]
      simp [show k < 32 by omega] at hb ⊢
      exact hb
  · have e1 : (Int32.toBitVec 1).getLsbD i = false := by
      rw [show Int32.toBitVec 1 = 1#32 from rfl, BitVec.getLsbD_one]
      simp [h0]
    rw [e1, Bool.and_false]
    by_cases hb : x.toBitVec.getLsbD k
    · rw [if_pos hb]; exact e1.symm
    · rw [if_neg hb]; simp
theorem shr_nI {c k : Nat} (h : k < 31) : (nI c >>> (nI k &&& 31)) &&& 1 = if c.testBit k then 1 else 0 := by rw [shr_bt h, bt_nI (by omega)]
theorem xor_lt {c k r : Nat} (h : c < 2 ^ r) (hk : k < r) : c ^^^ 2 ^ k < 2 ^ r := Nat.xor_lt_two_pow h (Nat.pow_lt_pow_right (by decide) hk)
theorem has_nI {N c k : Nat} {τ : sgS} (h : k < 31) : f_X12_has N (nI c) (nI k) τ = some (if c.testBit k then 1 else 0) := by
  unfold f_X12_has
  rw [shr_nI h]
  cases c.testBit k <;> rfl
