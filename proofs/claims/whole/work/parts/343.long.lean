/-! THE LONG stays where nothing is drawn -/
def allO {α : Type} (P : α → Prop) (r : Option α) : Prop := ∀ q, r = some q → P q
abbrev kp2 (L : Nat → Int64) (r : Option (Int32 × sgS)) : Prop := allO (fun q => q.2.2 = L) r
section KP2
variable {α : Type} {P : α → Prop} {L : Nat → Int64}
theorem ao_some {q : α} (h : P q) : allO P (some q) := fun _ e => by cases e; exact h
theorem ao_none : allO P none := fun _ e => by cases e
theorem ao_ite {c : Prop} {d : Decidable c} {a b : Option α} (h1 : allO P a) (h2 : allO P b) : allO P (@ite _ c d a b) := by
  by_cases h : c
  · rw [if_pos h]; exact h1
  · rw [if_neg h]; exact h2
theorem ao_ld {σ : sgS} {i N : Nat} {x : Int32} {K : Int32 → Option α} (h : ∀ v, allO P (K v)) : allO P (sg_ld σ i N x K) := ao_ite ao_none (h _)
theorem ao_st {σ : sgS} {i N : Nat} {x v : Int32} {K : sgS → Option α} (h0 : σ.2 = L) (h : ∀ s, s.2 = L → allO P (K s)) : allO P (sg_st σ i N x v K) := ao_ite ao_none (h _ h0)
theorem ao_pf {σ : sgS} {i k : Nat} {v : Int32} {K : sgS → Option α} (h0 : σ.2 = L) (h : ∀ s, s.2 = L → allO P (K s)) : allO P (sg_pf σ i k v K) := h _ h0
theorem ao_cp {σ : sgS} {i N j M : Nat} {a b c : Int32} {K : sgS → Option α} (h0 : σ.2 = L) (h : ∀ s, s.2 = L → allO P (K s)) : allO P (sg_cp σ i N j M a b c K) := ao_ite ao_none (h _ h0)
theorem ao_rf {N : Nat} {x : Int32} {K : Nat → Option α} (h : ∀ v, allO P (K v)) : allO P (sg_rf N x K) := ao_ite ao_none (h _)
theorem ao_nz {y : Int32} {K : Option α} (h : allO P K) : allO P (sg_nz y K) := ao_ite ao_none h
theorem ao_cr {r : Option Int32} {K : Int32 → Option α} (h : ∀ v, allO P (K v)) : allO P (sg_cr r K) := by
  cases r with
  | none => exact ao_none
  | some v => exact h v
theorem ao_cl {r : Option (Int32 × sgS)} {K : Int32 → sgS → Option α} (h0 : kp2 L r) (h : ∀ v s, s.2 = L → allO P (K v s)) : allO P (sg_cl r K) := by
  cases r with
  | none => exact ao_none
  | some q => exact h q.1 q.2 (h0 q rfl)
theorem ao_lp {ρ χ ψ : Type} {A : ρ → Prop} {B : χ → Prop} {C : ψ → Prop} {b : χ → Option (ρ ⊕ (χ ⊕ ψ))} (hb : ∀ x, B x → allO (sg_k3 A B C) (b x)) : ∀ (N : Nat) (x : χ), B x → allO (sg_k2 A C) (sg_lp b N x) := by
  intro N
  induction N with
  | zero => intro x _; exact ao_none
  | succ N ih =>
    intro x hx
    have h1 := hb x hx
    unfold sg_lp
    cases hc : b x with
    | none => exact ao_none
    | some y =>
      rw [hc] at h1
      have h2 := h1 y rfl
      match y, h2 with
      | .inl r, h2 => exact ao_some h2
      | .inr (.inl x'), h2 => exact ih x' h2
      | .inr (.inr z), h2 => exact ao_some h2
theorem ao_lb {ρ ψ : Type} {A : ρ → Prop} {C : ψ → Prop} {v : Option (ρ ⊕ ψ)} {kr : ρ → Option α} {ky : ψ → Option α} (h0 : allO (sg_k2 A C) v) (h1 : ∀ r, A r → allO P (kr r)) (h2 : ∀ y, C y → allO P (ky y)) : allO P (sg_lb v kr ky) := by
  match v, h0 with
  | none, _ => exact ao_none
  | some (.inl r), h0 => exact h1 r (h0 _ rfl)
  | some (.inr y), h0 => exact h2 y (h0 _ rfl)
/-- a loop whose state is first in what it carries; behind it the state alone, or the state and more -/
theorem ao_l1 {χ : Type} {b : sgS × χ → Option ((Int32 × sgS) ⊕ ((sgS × χ) ⊕ sgS))} {N : Nat} {x : sgS × χ} {ky : sgS → Option (Int32 × sgS)} (h0 : x.1.2 = L) (hb : ∀ s c, s.2 = L → allO (sg_k3 (fun q => q.2.2 = L) (fun x => x.1.2 = L) (fun y => y.2 = L)) (b (s, c))) (h2 : ∀ y, y.2 = L → kp2 L (ky y)) : kp2 L (sg_lb (sg_lp b N x) (fun r => some r) ky) :=
  ao_lb (ao_lp (A := fun q : Int32 × sgS => q.2.2 = L) (B := fun x : sgS × χ => x.1.2 = L) (C := fun y : sgS => y.2 = L) (fun x hx => hb x.1 x.2 hx) N x h0) (fun r hr => ao_some hr) h2
theorem ao_l2 {χ ψ : Type} {b : sgS × χ → Option ((Int32 × sgS) ⊕ ((sgS × χ) ⊕ (sgS × ψ)))} {N : Nat} {x : sgS × χ} {ky : sgS × ψ → Option (Int32 × sgS)} (h0 : x.1.2 = L) (hb : ∀ s c, s.2 = L → allO (sg_k3 (fun q => q.2.2 = L) (fun x => x.1.2 = L) (fun y => y.1.2 = L)) (b (s, c))) (h2 : ∀ s c, s.2 = L → kp2 L (ky (s, c))) : kp2 L (sg_lb (sg_lp b N x) (fun r => some r) ky) :=
  ao_lb (ao_lp (A := fun q : Int32 × sgS => q.2.2 = L) (B := fun x : sgS × χ => x.1.2 = L) (C := fun y : sgS × ψ => y.1.2 = L) (fun x hx => hb x.1 x.2 hx) N x h0) (fun r hr => ao_some hr) (fun y hy => h2 y.1 y.2 hy)
end KP2
theorem k2_X8_copyFrom {N : Nat} {o : Nat} {p1 : Nat} {σ : sgS} {L : Nat → Int64} (h : σ.2 = L) : kp2 L (f_X8_copyFrom N o p1 σ) := by
  unfold f_X8_copyFrom
  repeat' (first | assumption | (with_reducible refine ao_ld (fun _ => ?_)) | (with_reducible refine ao_st (L := L) ?_ (fun _ _ => ?_)) | (with_reducible refine ao_pf (L := L) ?_ (fun _ _ => ?_)) | (with_reducible refine ao_cp (L := L) ?_ (fun _ _ => ?_)) | (with_reducible refine ao_rf (fun _ => ?_)) | (with_reducible refine ao_nz ?_) | (with_reducible refine ao_cr (fun _ => ?_)) | (with_reducible refine ao_cl (L := L) ?_ (fun _ _ _ => ?_)) | (with_reducible refine ao_l1 ?_ (fun _ _ _ => ?_) (fun _ _ => ?_)) | (with_reducible refine ao_l2 ?_ (fun _ _ _ => ?_) (fun _ _ _ => ?_)) | (with_reducible refine ao_ite ?_ ?_) | (with_reducible refine ao_some ?_))
theorem k2_X6_remember {N : Nat} {p1 : Nat} {σ : sgS} {L : Nat → Int64} (h : σ.2 = L) : kp2 L (f_X6_remember N p1 σ) := by
  unfold f_X6_remember
  repeat' (first | assumption | (with_reducible exact k2_X8_copyFrom (by assumption)) | (with_reducible refine ao_ld (fun _ => ?_)) | (with_reducible refine ao_st (L := L) ?_ (fun _ _ => ?_)) | (with_reducible refine ao_pf (L := L) ?_ (fun _ _ => ?_)) | (with_reducible refine ao_cp (L := L) ?_ (fun _ _ => ?_)) | (with_reducible refine ao_rf (fun _ => ?_)) | (with_reducible refine ao_nz ?_) | (with_reducible refine ao_cr (fun _ => ?_)) | (with_reducible refine ao_cl (L := L) ?_ (fun _ _ _ => ?_)) | (with_reducible refine ao_l1 ?_ (fun _ _ _ => ?_) (fun _ _ => ?_)) | (with_reducible refine ao_l2 ?_ (fun _ _ _ => ?_) (fun _ _ _ => ?_)) | (with_reducible refine ao_ite ?_ ?_) | (with_reducible refine ao_some ?_))
theorem k2_X4_push {N : Nat} {p1 : Int32} {σ : sgS} {L : Nat → Int64} (h : σ.2 = L) : kp2 L (f_X4_push N p1 σ) := by
  unfold f_X4_push
  repeat' (first | assumption | (with_reducible refine ao_ld (fun _ => ?_)) | (with_reducible refine ao_st (L := L) ?_ (fun _ _ => ?_)) | (with_reducible refine ao_pf (L := L) ?_ (fun _ _ => ?_)) | (with_reducible refine ao_cp (L := L) ?_ (fun _ _ => ?_)) | (with_reducible refine ao_rf (fun _ => ?_)) | (with_reducible refine ao_nz ?_) | (with_reducible refine ao_cr (fun _ => ?_)) | (with_reducible refine ao_cl (L := L) ?_ (fun _ _ _ => ?_)) | (with_reducible refine ao_l1 ?_ (fun _ _ _ => ?_) (fun _ _ => ?_)) | (with_reducible refine ao_l2 ?_ (fun _ _ _ => ?_) (fun _ _ _ => ?_)) | (with_reducible refine ao_ite ?_ ?_) | (with_reducible refine ao_some ?_))
theorem k2_X4_pop {N : Nat} {σ : sgS} {L : Nat → Int64} (h : σ.2 = L) : kp2 L (f_X4_pop N σ) := by
  unfold f_X4_pop
  repeat' (first | assumption | (with_reducible refine ao_ld (fun _ => ?_)) | (with_reducible refine ao_st (L := L) ?_ (fun _ _ => ?_)) | (with_reducible refine ao_pf (L := L) ?_ (fun _ _ => ?_)) | (with_reducible refine ao_cp (L := L) ?_ (fun _ _ => ?_)) | (with_reducible refine ao_rf (fun _ => ?_)) | (with_reducible refine ao_nz ?_) | (with_reducible refine ao_cr (fun _ => ?_)) | (with_reducible refine ao_cl (L := L) ?_ (fun _ _ _ => ?_)) | (with_reducible refine ao_l1 ?_ (fun _ _ _ => ?_) (fun _ _ => ?_)) | (with_reducible refine ao_l2 ?_ (fun _ _ _ => ?_) (fun _ _ _ => ?_)) | (with_reducible refine ao_ite ?_ ?_) | (with_reducible refine ao_some ?_))
theorem k2_X4_worth {N : Nat} {p1 : Nat} {p1n : Nat} {σ : sgS} {L : Nat → Int64} (h : σ.2 = L) : kp2 L (f_X4_worth N p1 p1n σ) := by
  unfold f_X4_worth
  simp only [f_X4_worth_L29]
  repeat' (first | assumption | (with_reducible exact k2_X4_push (by assumption)) | (with_reducible exact k2_X4_pop (by assumption)) | (with_reducible refine ao_ld (fun _ => ?_)) | (with_reducible refine ao_st (L := L) ?_ (fun _ _ => ?_)) | (with_reducible refine ao_pf (L := L) ?_ (fun _ _ => ?_)) | (with_reducible refine ao_cp (L := L) ?_ (fun _ _ => ?_)) | (with_reducible refine ao_rf (fun _ => ?_)) | (with_reducible refine ao_nz ?_) | (with_reducible refine ao_cr (fun _ => ?_)) | (with_reducible refine ao_cl (L := L) ?_ (fun _ _ _ => ?_)) | (with_reducible refine ao_l1 ?_ (fun _ _ _ => ?_) (fun _ _ => ?_)) | (with_reducible refine ao_l2 ?_ (fun _ _ _ => ?_) (fun _ _ _ => ?_)) | (with_reducible refine ao_ite ?_ ?_) | (with_reducible refine ao_some ?_))
theorem k2_X1_tellLetters {N : Nat} {p1 : Int32} {p2 : Nat} {σ : sgS} {L : Nat → Int64} (h : σ.2 = L) : kp2 L (f_X1_tellLetters N p1 p2 σ) := by
  unfold f_X1_tellLetters
  repeat' (first | assumption | (with_reducible refine ao_ld (fun _ => ?_)) | (with_reducible refine ao_st (L := L) ?_ (fun _ _ => ?_)) | (with_reducible refine ao_pf (L := L) ?_ (fun _ _ => ?_)) | (with_reducible refine ao_cp (L := L) ?_ (fun _ _ => ?_)) | (with_reducible refine ao_rf (fun _ => ?_)) | (with_reducible refine ao_nz ?_) | (with_reducible refine ao_cr (fun _ => ?_)) | (with_reducible refine ao_cl (L := L) ?_ (fun _ _ _ => ?_)) | (with_reducible refine ao_l1 ?_ (fun _ _ _ => ?_) (fun _ _ => ?_)) | (with_reducible refine ao_l2 ?_ (fun _ _ _ => ?_) (fun _ _ _ => ?_)) | (with_reducible refine ao_ite ?_ ?_) | (with_reducible refine ao_some ?_))
theorem k2_X1_measure {N : Nat} {p1 : Nat} {σ : sgS} {L : Nat → Int64} (h : σ.2 = L) : kp2 L (f_X1_measure N p1 σ) := by
  unfold f_X1_measure
  simp only [f_X1_measure_L36]
  repeat' (first | assumption | (with_reducible exact k2_X4_worth (by assumption)) | (with_reducible exact k2_X1_tellLetters (by assumption)) | (with_reducible refine ao_ld (fun _ => ?_)) | (with_reducible refine ao_st (L := L) ?_ (fun _ _ => ?_)) | (with_reducible refine ao_pf (L := L) ?_ (fun _ _ => ?_)) | (with_reducible refine ao_cp (L := L) ?_ (fun _ _ => ?_)) | (with_reducible refine ao_rf (fun _ => ?_)) | (with_reducible refine ao_nz ?_) | (with_reducible refine ao_cr (fun _ => ?_)) | (with_reducible refine ao_cl (L := L) ?_ (fun _ _ _ => ?_)) | (with_reducible refine ao_l1 ?_ (fun _ _ _ => ?_) (fun _ _ => ?_)) | (with_reducible refine ao_l2 ?_ (fun _ _ _ => ?_) (fun _ _ _ => ?_)) | (with_reducible refine ao_ite ?_ ?_) | (with_reducible refine ao_some ?_))
theorem k2_X1_callAt {N : Nat} {p1 : Int32} {p2 : Nat} {σ : sgS} {L : Nat → Int64} (h : σ.2 = L) : kp2 L (f_X1_callAt N p1 p2 σ) := by
  unfold f_X1_callAt
  repeat' (first | assumption | (with_reducible refine ao_ld (fun _ => ?_)) | (with_reducible refine ao_st (L := L) ?_ (fun _ _ => ?_)) | (with_reducible refine ao_pf (L := L) ?_ (fun _ _ => ?_)) | (with_reducible refine ao_cp (L := L) ?_ (fun _ _ => ?_)) | (with_reducible refine ao_rf (fun _ => ?_)) | (with_reducible refine ao_nz ?_) | (with_reducible refine ao_cr (fun _ => ?_)) | (with_reducible refine ao_cl (L := L) ?_ (fun _ _ _ => ?_)) | (with_reducible refine ao_l1 ?_ (fun _ _ _ => ?_) (fun _ _ => ?_)) | (with_reducible refine ao_l2 ?_ (fun _ _ _ => ?_) (fun _ _ _ => ?_)) | (with_reducible refine ao_ite ?_ ?_) | (with_reducible refine ao_some ?_))
theorem k2_X8_takeWay {N : Nat} {o : Nat} {p1 : Int32} {σ : sgS} {L : Nat → Int64} (h : σ.2 = L) : kp2 L (f_X8_takeWay N o p1 σ) := by
  unfold f_X8_takeWay
  repeat' (first | assumption | (with_reducible refine ao_ld (fun _ => ?_)) | (with_reducible refine ao_st (L := L) ?_ (fun _ _ => ?_)) | (with_reducible refine ao_pf (L := L) ?_ (fun _ _ => ?_)) | (with_reducible refine ao_cp (L := L) ?_ (fun _ _ => ?_)) | (with_reducible refine ao_rf (fun _ => ?_)) | (with_reducible refine ao_nz ?_) | (with_reducible refine ao_cr (fun _ => ?_)) | (with_reducible refine ao_cl (L := L) ?_ (fun _ _ _ => ?_)) | (with_reducible refine ao_l1 ?_ (fun _ _ _ => ?_) (fun _ _ => ?_)) | (with_reducible refine ao_l2 ?_ (fun _ _ _ => ?_) (fun _ _ _ => ?_)) | (with_reducible refine ao_ite ?_ ?_) | (with_reducible refine ao_some ?_))
theorem k2_X1_passOf {N : Nat} {p1 : Int32} {p2 : Nat} {σ : sgS} {L : Nat → Int64} (h : σ.2 = L) : kp2 L (f_X1_passOf N p1 p2 σ) := by
  unfold f_X1_passOf
  simp only [f_X1_passOf_L34, f_X1_passOf_L34_B160]
  repeat' (first | assumption | (with_reducible exact k2_X1_callAt (by assumption)) | (with_reducible exact k2_X8_takeWay (by assumption)) | (with_reducible refine ao_ld (fun _ => ?_)) | (with_reducible refine ao_st (L := L) ?_ (fun _ _ => ?_)) | (with_reducible refine ao_pf (L := L) ?_ (fun _ _ => ?_)) | (with_reducible refine ao_cp (L := L) ?_ (fun _ _ => ?_)) | (with_reducible refine ao_rf (fun _ => ?_)) | (with_reducible refine ao_nz ?_) | (with_reducible refine ao_cr (fun _ => ?_)) | (with_reducible refine ao_cl (L := L) ?_ (fun _ _ _ => ?_)) | (with_reducible refine ao_l1 ?_ (fun _ _ _ => ?_) (fun _ _ => ?_)) | (with_reducible refine ao_l2 ?_ (fun _ _ _ => ?_) (fun _ _ _ => ?_)) | (with_reducible refine ao_ite ?_ ?_) | (with_reducible refine ao_some ?_))
theorem k2_X1_pass {N : Nat} {p1 : Nat} {σ : sgS} {L : Nat → Int64} (h : σ.2 = L) : kp2 L (f_X1_pass N p1 σ) := by
  unfold f_X1_pass
  simp only [f_X1_pass_L9]
  repeat' (first | assumption | (with_reducible exact k2_X1_measure (by assumption)) | (with_reducible exact k2_X1_passOf (by assumption)) | (with_reducible refine ao_ld (fun _ => ?_)) | (with_reducible refine ao_st (L := L) ?_ (fun _ _ => ?_)) | (with_reducible refine ao_pf (L := L) ?_ (fun _ _ => ?_)) | (with_reducible refine ao_cp (L := L) ?_ (fun _ _ => ?_)) | (with_reducible refine ao_rf (fun _ => ?_)) | (with_reducible refine ao_nz ?_) | (with_reducible refine ao_cr (fun _ => ?_)) | (with_reducible refine ao_cl (L := L) ?_ (fun _ _ _ => ?_)) | (with_reducible refine ao_l1 ?_ (fun _ _ _ => ?_) (fun _ _ => ?_)) | (with_reducible refine ao_l2 ?_ (fun _ _ _ => ?_) (fun _ _ _ => ?_)) | (with_reducible refine ao_ite ?_ ?_) | (with_reducible refine ao_some ?_))
theorem k2_X6_note {N : Nat} {p1 : Int32} {p2 : Int32} {p3 : Int32} {p4 : Int32} {σ : sgS} {L : Nat → Int64} (h : σ.2 = L) : kp2 L (f_X6_note N p1 p2 p3 p4 σ) := by
  unfold f_X6_note
  repeat' (first | assumption | (with_reducible refine ao_ld (fun _ => ?_)) | (with_reducible refine ao_st (L := L) ?_ (fun _ _ => ?_)) | (with_reducible refine ao_pf (L := L) ?_ (fun _ _ => ?_)) | (with_reducible refine ao_cp (L := L) ?_ (fun _ _ => ?_)) | (with_reducible refine ao_rf (fun _ => ?_)) | (with_reducible refine ao_nz ?_) | (with_reducible refine ao_cr (fun _ => ?_)) | (with_reducible refine ao_cl (L := L) ?_ (fun _ _ _ => ?_)) | (with_reducible refine ao_l1 ?_ (fun _ _ _ => ?_) (fun _ _ => ?_)) | (with_reducible refine ao_l2 ?_ (fun _ _ _ => ?_) (fun _ _ _ => ?_)) | (with_reducible refine ao_ite ?_ ?_) | (with_reducible refine ao_some ?_))
theorem k2_X11_passDay {N : Nat} {σ : sgS} {L : Nat → Int64} (h : σ.2 = L) : kp2 L (f_X11_passDay N σ) := by
  unfold f_X11_passDay
  repeat' (first | assumption | (with_reducible exact k2_X1_pass (by assumption)) | (with_reducible exact k2_X6_note (by assumption)) | (with_reducible refine ao_ld (fun _ => ?_)) | (with_reducible refine ao_st (L := L) ?_ (fun _ _ => ?_)) | (with_reducible refine ao_pf (L := L) ?_ (fun _ _ => ?_)) | (with_reducible refine ao_cp (L := L) ?_ (fun _ _ => ?_)) | (with_reducible refine ao_rf (fun _ => ?_)) | (with_reducible refine ao_nz ?_) | (with_reducible refine ao_cr (fun _ => ?_)) | (with_reducible refine ao_cl (L := L) ?_ (fun _ _ _ => ?_)) | (with_reducible refine ao_l1 ?_ (fun _ _ _ => ?_) (fun _ _ => ?_)) | (with_reducible refine ao_l2 ?_ (fun _ _ _ => ?_) (fun _ _ _ => ?_)) | (with_reducible refine ao_ite ?_ ?_) | (with_reducible refine ao_some ?_))
theorem k2_X12_keep {N : Nat} {σ : sgS} {L : Nat → Int64} (h : σ.2 = L) : kp2 L (f_X12_keep N σ) := by
  unfold f_X12_keep
  simp only [f_X12_keep_L13, f_X12_keep_B52, f_X12_keep_L54]
  repeat' (first | assumption | (with_reducible refine ao_ld (fun _ => ?_)) | (with_reducible refine ao_st (L := L) ?_ (fun _ _ => ?_)) | (with_reducible refine ao_pf (L := L) ?_ (fun _ _ => ?_)) | (with_reducible refine ao_cp (L := L) ?_ (fun _ _ => ?_)) | (with_reducible refine ao_rf (fun _ => ?_)) | (with_reducible refine ao_nz ?_) | (with_reducible refine ao_cr (fun _ => ?_)) | (with_reducible refine ao_cl (L := L) ?_ (fun _ _ _ => ?_)) | (with_reducible refine ao_l1 ?_ (fun _ _ _ => ?_) (fun _ _ => ?_)) | (with_reducible refine ao_l2 ?_ (fun _ _ _ => ?_) (fun _ _ _ => ?_)) | (with_reducible refine ao_ite ?_ ?_) | (with_reducible refine ao_some ?_))
theorem k2_X12_workOut {N : Nat} {p1 : Int32} {p2 : Int32} {p3 : Int32} {σ : sgS} {L : Nat → Int64} (h : σ.2 = L) : kp2 L (f_X12_workOut N p1 p2 p3 σ) := by
  unfold f_X12_workOut
  simp only [f_X12_workOut_L12, f_X12_workOut_L12_B45]
  repeat' (first | assumption | (with_reducible refine ao_ld (fun _ => ?_)) | (with_reducible refine ao_st (L := L) ?_ (fun _ _ => ?_)) | (with_reducible refine ao_pf (L := L) ?_ (fun _ _ => ?_)) | (with_reducible refine ao_cp (L := L) ?_ (fun _ _ => ?_)) | (with_reducible refine ao_rf (fun _ => ?_)) | (with_reducible refine ao_nz ?_) | (with_reducible refine ao_cr (fun _ => ?_)) | (with_reducible refine ao_cl (L := L) ?_ (fun _ _ _ => ?_)) | (with_reducible refine ao_l1 ?_ (fun _ _ _ => ?_) (fun _ _ => ?_)) | (with_reducible refine ao_l2 ?_ (fun _ _ _ => ?_) (fun _ _ _ => ?_)) | (with_reducible refine ao_ite ?_ ?_) | (with_reducible refine ao_some ?_))
theorem k2_X12_worthOf {N : Nat} {p1 : Int32} {σ : sgS} {L : Nat → Int64} (h : σ.2 = L) : kp2 L (f_X12_worthOf N p1 σ) := by
  unfold f_X12_worthOf
  simp only [f_X12_worthOf_L6, f_X12_worthOf_L6_B57]
  repeat' (first | assumption | (with_reducible exact k2_X12_workOut (by assumption)) | (with_reducible refine ao_ld (fun _ => ?_)) | (with_reducible refine ao_st (L := L) ?_ (fun _ _ => ?_)) | (with_reducible refine ao_pf (L := L) ?_ (fun _ _ => ?_)) | (with_reducible refine ao_cp (L := L) ?_ (fun _ _ => ?_)) | (with_reducible refine ao_rf (fun _ => ?_)) | (with_reducible refine ao_nz ?_) | (with_reducible refine ao_cr (fun _ => ?_)) | (with_reducible refine ao_cl (L := L) ?_ (fun _ _ _ => ?_)) | (with_reducible refine ao_l1 ?_ (fun _ _ _ => ?_) (fun _ _ => ?_)) | (with_reducible refine ao_l2 ?_ (fun _ _ _ => ?_) (fun _ _ _ => ?_)) | (with_reducible refine ao_ite ?_ ?_) | (with_reducible refine ao_some ?_))
theorem k2_X12_longBy {N : Nat} {p1 : Int32} {σ : sgS} {L : Nat → Int64} (h : σ.2 = L) : kp2 L (f_X12_longBy N p1 σ) := by
  unfold f_X12_longBy
  repeat' (first | assumption | (with_reducible exact k2_X12_worthOf (by assumption)) | (with_reducible refine ao_ld (fun _ => ?_)) | (with_reducible refine ao_st (L := L) ?_ (fun _ _ => ?_)) | (with_reducible refine ao_pf (L := L) ?_ (fun _ _ => ?_)) | (with_reducible refine ao_cp (L := L) ?_ (fun _ _ => ?_)) | (with_reducible refine ao_rf (fun _ => ?_)) | (with_reducible refine ao_nz ?_) | (with_reducible refine ao_cr (fun _ => ?_)) | (with_reducible refine ao_cl (L := L) ?_ (fun _ _ _ => ?_)) | (with_reducible refine ao_l1 ?_ (fun _ _ _ => ?_) (fun _ _ => ?_)) | (with_reducible refine ao_l2 ?_ (fun _ _ _ => ?_) (fun _ _ _ => ?_)) | (with_reducible refine ao_ite ?_ ?_) | (with_reducible refine ao_some ?_))
theorem k2_X12_layLongs {N : Nat} {σ : sgS} {L : Nat → Int64} (h : σ.2 = L) : kp2 L (f_X12_layLongs N σ) := by
  unfold f_X12_layLongs
  simp only [f_X12_layLongs_L2]
  repeat' (first | assumption | (with_reducible exact k2_X12_longBy (by assumption)) | (with_reducible refine ao_ld (fun _ => ?_)) | (with_reducible refine ao_st (L := L) ?_ (fun _ _ => ?_)) | (with_reducible refine ao_pf (L := L) ?_ (fun _ _ => ?_)) | (with_reducible refine ao_cp (L := L) ?_ (fun _ _ => ?_)) | (with_reducible refine ao_rf (fun _ => ?_)) | (with_reducible refine ao_nz ?_) | (with_reducible refine ao_cr (fun _ => ?_)) | (with_reducible refine ao_cl (L := L) ?_ (fun _ _ _ => ?_)) | (with_reducible refine ao_l1 ?_ (fun _ _ _ => ?_) (fun _ _ => ?_)) | (with_reducible refine ao_l2 ?_ (fun _ _ _ => ?_) (fun _ _ _ => ?_)) | (with_reducible refine ao_ite ?_ ?_) | (with_reducible refine ao_some ?_))
theorem k2_X12_callAt {N : Nat} {p1 : Int32} {σ : sgS} {L : Nat → Int64} (h : σ.2 = L) : kp2 L (f_X12_callAt N p1 σ) := by
  unfold f_X12_callAt
  repeat' (first | assumption | (with_reducible refine ao_ld (fun _ => ?_)) | (with_reducible refine ao_st (L := L) ?_ (fun _ _ => ?_)) | (with_reducible refine ao_pf (L := L) ?_ (fun _ _ => ?_)) | (with_reducible refine ao_cp (L := L) ?_ (fun _ _ => ?_)) | (with_reducible refine ao_rf (fun _ => ?_)) | (with_reducible refine ao_nz ?_) | (with_reducible refine ao_cr (fun _ => ?_)) | (with_reducible refine ao_cl (L := L) ?_ (fun _ _ _ => ?_)) | (with_reducible refine ao_l1 ?_ (fun _ _ _ => ?_) (fun _ _ => ?_)) | (with_reducible refine ao_l2 ?_ (fun _ _ _ => ?_) (fun _ _ _ => ?_)) | (with_reducible refine ao_ite ?_ ?_) | (with_reducible refine ao_some ?_))
theorem k2_X12_dropWay {N : Nat} {p1 : Int32} {σ : sgS} {L : Nat → Int64} (h : σ.2 = L) : kp2 L (f_X12_dropWay N p1 σ) := by
  unfold f_X12_dropWay
  repeat' (first | assumption | (with_reducible refine ao_ld (fun _ => ?_)) | (with_reducible refine ao_st (L := L) ?_ (fun _ _ => ?_)) | (with_reducible refine ao_pf (L := L) ?_ (fun _ _ => ?_)) | (with_reducible refine ao_cp (L := L) ?_ (fun _ _ => ?_)) | (with_reducible refine ao_rf (fun _ => ?_)) | (with_reducible refine ao_nz ?_) | (with_reducible refine ao_cr (fun _ => ?_)) | (with_reducible refine ao_cl (L := L) ?_ (fun _ _ _ => ?_)) | (with_reducible refine ao_l1 ?_ (fun _ _ _ => ?_) (fun _ _ => ?_)) | (with_reducible refine ao_l2 ?_ (fun _ _ _ => ?_) (fun _ _ _ => ?_)) | (with_reducible refine ao_ite ?_ ?_) | (with_reducible refine ao_some ?_))
theorem k2_X12_goOn {N : Nat} {p1 : Int32} {σ : sgS} {L : Nat → Int64} (h : σ.2 = L) : kp2 L (f_X12_goOn N p1 σ) := by
  unfold f_X12_goOn
  simp only [f_X12_goOn_B19, f_X12_goOn_L20, f_X12_goOn_L20_B62, f_X12_goOn_L20_B106, f_X12_goOn_L20_B129, f_X12_goOn_L20_B148, f_X12_goOn_L20_B207]
  repeat' (first | assumption | (with_reducible exact k2_X12_callAt (by assumption)) | (with_reducible exact k2_X12_dropWay (by assumption)) | (with_reducible refine ao_ld (fun _ => ?_)) | (with_reducible refine ao_st (L := L) ?_ (fun _ _ => ?_)) | (with_reducible refine ao_pf (L := L) ?_ (fun _ _ => ?_)) | (with_reducible refine ao_cp (L := L) ?_ (fun _ _ => ?_)) | (with_reducible refine ao_rf (fun _ => ?_)) | (with_reducible refine ao_nz ?_) | (with_reducible refine ao_cr (fun _ => ?_)) | (with_reducible refine ao_cl (L := L) ?_ (fun _ _ _ => ?_)) | (with_reducible refine ao_l1 ?_ (fun _ _ _ => ?_) (fun _ _ => ?_)) | (with_reducible refine ao_l2 ?_ (fun _ _ _ => ?_) (fun _ _ _ => ?_)) | (with_reducible refine ao_ite ?_ ?_) | (with_reducible refine ao_some ?_))
theorem k2_X12_live {N : Nat} {σ : sgS} {L : Nat → Int64} (h : σ.2 = L) : kp2 L (f_X12_live N σ) := by
  unfold f_X12_live
  simp only [f_X12_live_L53, f_X12_live_L32, f_X12_live_L11]
  repeat' (first | assumption | (with_reducible exact k2_X12_layLongs (by assumption)) | (with_reducible exact k2_X12_goOn (by assumption)) | (with_reducible refine ao_ld (fun _ => ?_)) | (with_reducible refine ao_st (L := L) ?_ (fun _ _ => ?_)) | (with_reducible refine ao_pf (L := L) ?_ (fun _ _ => ?_)) | (with_reducible refine ao_cp (L := L) ?_ (fun _ _ => ?_)) | (with_reducible refine ao_rf (fun _ => ?_)) | (with_reducible refine ao_nz ?_) | (with_reducible refine ao_cr (fun _ => ?_)) | (with_reducible refine ao_cl (L := L) ?_ (fun _ _ _ => ?_)) | (with_reducible refine ao_l1 ?_ (fun _ _ _ => ?_) (fun _ _ => ?_)) | (with_reducible refine ao_l2 ?_ (fun _ _ _ => ?_) (fun _ _ _ => ?_)) | (with_reducible refine ao_ite ?_ ?_) | (with_reducible refine ao_some ?_))
theorem k2_X12_passDay {N : Nat} {σ : sgS} {L : Nat → Int64} (h : σ.2 = L) : kp2 L (f_X12_passDay N σ) := by
  unfold f_X12_passDay
  simp only [f_X12_passDay_L18, f_X12_passDay_B62]
  repeat' (first | assumption | (with_reducible exact k2_X12_live (by assumption)) | (with_reducible refine ao_ld (fun _ => ?_)) | (with_reducible refine ao_st (L := L) ?_ (fun _ _ => ?_)) | (with_reducible refine ao_pf (L := L) ?_ (fun _ _ => ?_)) | (with_reducible refine ao_cp (L := L) ?_ (fun _ _ => ?_)) | (with_reducible refine ao_rf (fun _ => ?_)) | (with_reducible refine ao_nz ?_) | (with_reducible refine ao_cr (fun _ => ?_)) | (with_reducible refine ao_cl (L := L) ?_ (fun _ _ _ => ?_)) | (with_reducible refine ao_l1 ?_ (fun _ _ _ => ?_) (fun _ _ => ?_)) | (with_reducible refine ao_l2 ?_ (fun _ _ _ => ?_) (fun _ _ _ => ?_)) | (with_reducible refine ao_ite ?_ ?_) | (with_reducible refine ao_some ?_))
