/-! the combinators, told so that nobody looks into what they are called with -/
section OPQ
variable {α : Type}
theorem cl_some {v : Int32} {s : sgS} {K : Int32 → sgS → Option α} : sg_cl (some (v, s)) K = K v s := by rw [sg_cl]
theorem cr_some {v : Int32} {K : Int32 → Option α} : sg_cr (some v) K = K v := by rw [sg_cr]
theorem lb_inr {ρ ψ : Type} {y : ψ} {kr : ρ → Option α} {ky : ψ → Option α} : sg_lb (some (.inr y)) kr ky = ky y := by rw [sg_lb]
theorem lb_inl {ρ ψ : Type} {r : ρ} {kr : ρ → Option α} {ky : ψ → Option α} : sg_lb (some (.inl r)) kr ky = kr r := by rw [sg_lb]
theorem pf_eq {σ : sgS} {i k : Nat} {v : Int32} {K : sgS → Option α} : sg_pf σ i k v K = K (sg_up σ i k v) := by rw [sg_pf]
theorem pl_eq {σ : sgS} {i : Nat} {v : Int64} {K : sgS → Option α} : sg_pl σ i v K = K (sg_ul σ i v) := by rw [sg_pl]
theorem nz_4 {K : Option α} : sg_nz 4 K = K := if_neg (by decide)
theorem nz_7 {K : Option α} : sg_nz 7 K = K := if_neg (by decide)
theorem nz_2 {K : Option α} : sg_nz 2 K = K := if_neg (by decide)
theorem nz_40 {K : Option α} : sg_nz 40 K = K := if_neg (by decide)
theorem nz_100 {K : Option α} : sg_nz 100 K = K := if_neg (by decide)
end OPQ
