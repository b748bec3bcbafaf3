/-! WHAT THE START GIVES: the classes, the array classes, the tables, the texts, the links of nest mates, what a throw wants -/
theorem lw_nws_in : ∀ w ∈ sg_nws, w ∈ lw_tbl := by decide +kernel
theorem lw_xw_in : ∀ w ∈ sg_xw, w ∈ lw_tbl := by decide +kernel
theorem lw_arr {s : State} {args : Array Value} {ty : FieldType} (hne : ∀ C, ty ≠ .object C) (h : (Cond.arrayClass ty).before args s = true) : ∃ cA : ClassId, ArrOfT s cA ty ∧ va_RA s cA ty := by
  obtain ⟨cA, kA, comp, h1, h2, h3⟩ := Cond.arrayClass_spec h
  refine ⟨cA, fun n z => ⟨fun k h => (by cases h), kA, h2, comp, h3⟩, ?_⟩
  cases ty <;> first | exact h1 | exact absurd rfl (hne _)
theorem lw_tab {s : State} {b j : Nat} (hts : ∀ w ∈ lw_tbl, w.before #[Value.ref b] s = true) (hj : j < 5) (h1 : Cond.laysStatic "RoadWheels$County" (sg_sn j) "[I" ∈ lw_tbl) (h2 : Cond.initialized "RoadWheels$County" ∈ lw_tbl)
    (ha : (Cond.arrayOf (.static "RoadWheels$County" (sg_sn j) "[I") .int).before #[Value.ref b] s = true) (hl : (Cond.eq (.length (.static "RoadWheels$County" (sg_sn j) "[I")) (.int (Int32.ofNat (sg_sv j).length))).before #[Value.ref b] s = true)
    (he : ∀ q, q < (sg_sv j).length → (Cond.eq (.elem (.static "RoadWheels$County" (sg_sn j) "[I") (.int (Int32.ofNat q))) (.int ((sg_sv j).getD q 0))).before #[Value.ref b] s = true) :
    ∃ t : Nat, va_Z "RoadWheels$County" (sg_sn j) "[I" (.ref t) (lw_A s) s s.heap ∧ va_T .int t (sg_sv j).length (fun q => .int ((sg_sv j).getD q 0)) (lw_A s) s s.heap := by
  have hA : ∀ a : Nat, a < s.heap.size → ¬ lw_A s a := fun a h1 h2 => by have h2 : s.heap.size ≤ a := h2; omega
  obtain ⟨t, ht, hT⟩ := va_Tof (f := fun q => .int ((sg_sv j).getD q 0)) (A := lw_A s) (by rcases j with _ | _ | _ | _ | _ | j <;> first | decide | omega) ha (va_eqt hl) (fun q hq => va_eqt (he q hq)) hA
  exact ⟨t, va_Zof (hts _ h1) (hts _ h2) ht hA, hT⟩
theorem lw_eqr {args : Array Value} {s : State} {t u : Term} {a : Nat} (ht : t.eval args s none [] s = some (.ref a)) (h : (Cond.eq t u).before args s = true) : u.eval args s none [] s = some (.ref a) := by
  simp only [Cond.before, Cond.holds, Cond.value, ht] at h
  cases hu : u.eval args s none [] s with
  | none => rw [hu] at h; simp at h
  | some v => rw [hu] at h; cases v <;> simp_all
