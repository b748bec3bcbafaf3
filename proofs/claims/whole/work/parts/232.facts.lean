theorem lw_clsK {s : State} {b : Nat} (hts : ∀ w ∈ wsL_law, w.before #[Value.ref b] s = true) (c : Nat) : ∃ q : ClassId × (Nat → Nat), ∀ z : vw_C, vwCl[c]? = some z → u_Kn s z.1 z.2.1 z.2.2 q.1 q.2 := by
  have key : ∀ (C : String) (T : u_T) (N n : Nat), (∀ w ∈ u_ws C T N, w ∈ wsL_law) → Cond.instantiable C n ∈ wsL_law → vwCl[c]? = some (C, T, N) → ∃ q : ClassId × (Nat → Nat), ∀ z : vw_C, vwCl[c]? = some z → u_Kn s z.1 z.2.1 z.2.2 q.1 q.2 := by
    intro C T N n hin hi e
    obtain ⟨cC, iS, h⟩ := u_known hts hin (hts _ hi)
    exact ⟨(cC, iS), fun z hz => by rw [e] at hz; cases hz; exact h⟩
  match c with
  | 0 => exact key RX0 TX0 13 13 inlX0 qw_19 rfl
  | 1 => exact key RX1 TX1 5 5 inlX1 qw_41 rfl
  | 2 => exact key RX2 TX2 7 7 inlX2 qw_57 rfl
  | 3 => exact key RX3 TX3 3 3 inlX3 qw_24 rfl
  | 4 => exact key RX4 TX4 6 6 inlX4 qw_28 rfl
  | 5 => exact key RX5 TX5 6 6 inlX5 qw_49 rfl
  | 6 => exact key RX6 TX6 7 7 inlX6 qw_45 rfl
  | 7 => exact key RX7 TX7 10 10 inlX7 qw_53 rfl
  | 8 => exact key RX8 TX8 8 8 inlX8 qw_36 rfl
  | 9 => exact key RX9 TX9 3 3 inlX9 qw_15 rfl
  | 10 => exact key RX10 TX10 5 5 inlX10 qw_32 rfl
  | 11 => exact key RX11 TX11 16 16 inlX11 qw_1 rfl
  | 12 => exact key RX12 TX12 58 58 inlX12 qw_4 rfl
  | n + 13 => exact ⟨(0, fun _ => 0), fun z hz => (by
      rw [List.getElem?_eq_none (by show 13 ≤ n + 13; omega)] at hz
      cases hz)⟩
def lw_tm (i : Nat) : Term := if i = 0 then .string "RoadWheels$County" 30 else if i = 1 then .string "RoadWheels$County" 94 else .string "RoadWheels$Days" 11
set_option maxHeartbeats 4000000 in
set_option maxRecDepth 100000 in
theorem lw_facts {s : State} {b : Nat} (htb : ∀ w ∈ lw_tbl, w.before #[Value.ref b] s = true) (hts : ∀ w ∈ wsL_law, w.before #[Value.ref b] s = true) (hg : (Jvm.Cond.and given_1 narrow_1).before #[Value.ref b] s = true) :
    ∃ P : sgP, (∀ j, sgA P j = s.heap.size + j) ∧ va_K (sgD P) vwCl (sg_ty P) s ∧ sg_N s ∧ sg_ST P (lw_A s) s s.heap ∧ sg_AO s ∧ sg_EX (lw_A s) s s.heap := by
  have hA : ∀ a : Nat, a < s.heap.size → ¬ lw_A s a := fun a h1 h2 => by have h2 : s.heap.size ≤ a := h2; omega
  have hf := flat_of_before _ hg
  obtain ⟨fD, hD⟩ := Classical.axiomOfChoice (lw_clsK hts)
  obtain ⟨c0, h0⟩ := lw_arr (fun C => by intro h; cases h) (hts _ qw_60)
  obtain ⟨c1, h1⟩ := lw_arr (fun C => by intro h; cases h) (hts _ qw_154)
  have hAO1 : va_AO "RoadWheels$State" s := va_AO.of (htb _ (by decide +kernel))
  have hAO2 : va_AOA .int s := (htb (Cond.arrayOver (.array .int)) (by decide +kernel) :)
  obtain ⟨c2, h2⟩ : ∃ cA : ClassId, ArrOfT s cA (.object "RoadWheels$State") ∧ va_RA s cA (.object "RoadWheels$State") := by
    obtain ⟨comp, cA, kA, hcomp, hidx, hkA, hkind, hname⟩ := Cond.arrayOver_spec hAO1
    exact ⟨cA, fun n z => ⟨fun k h => (by cases h), kA, hkA, comp, hkind⟩, kA, comp, hkA, hkind, hcomp, hname⟩
  obtain ⟨c3, h3⟩ : ∃ cA : ClassId, ArrOfT s cA (.array .int) ∧ va_RA s cA (.array .int) := by
    obtain ⟨comp, cA, kA, hcomp, hidx, hkA, hkind, hname⟩ := sg_AOA_spec hAO2
    exact ⟨cA, fun n z => ⟨fun k h => (by cases h), kA, hkA, comp, hkind⟩, hname⟩
  obtain ⟨t0, g0⟩ := lw_tab (j := 0) htb (by decide) (by decide +kernel) (by decide +kernel) (hf _ (by decide +kernel)) (hf _ (by decide +kernel)) (fun q hq => by
    have hq : q < 4 := hq
    rcases q with _ | _ | _ | _ | q <;> first | exact hf _ (by decide +kernel) | omega)
  obtain ⟨t1, g1⟩ := lw_tab (j := 1) htb (by decide) (by decide +kernel) (by decide +kernel) (hf _ (by decide +kernel)) (hf _ (by decide +kernel)) (fun q hq => by
    have hq : q < 5 := hq
    rcases q with _ | _ | _ | _ | _ | q <;> first | exact hf _ (by decide +kernel) | omega)
  obtain ⟨t2, g2⟩ := lw_tab (j := 2) htb (by decide) (by decide +kernel) (by decide +kernel) (hf _ (by decide +kernel)) (hf _ (by decide +kernel)) (fun q hq => by
    have hq : q < 8 := hq
    rcases q with _ | _ | _ | _ | _ | _ | _ | _ | q <;> first | exact hf _ (by decide +kernel) | omega)
  obtain ⟨t3, g3⟩ := lw_tab (j := 3) htb (by decide) (by decide +kernel) (by decide +kernel) (hf _ (by decide +kernel)) (hf _ (by decide +kernel)) (fun q hq => by
    have hq : q < 8 := hq
    rcases q with _ | _ | _ | _ | _ | _ | _ | _ | q <;> first | exact hf _ (by decide +kernel) | omega)
  obtain ⟨t4, g4⟩ := lw_tab (j := 4) htb (by decide) (by decide +kernel) (by decide +kernel) (hf _ (by decide +kernel)) (hf _ (by decide +kernel)) (fun q hq => by
    have hq : q < 8 := hq
    rcases q with _ | _ | _ | _ | _ | _ | _ | _ | q <;> first | exact hf _ (by decide +kernel) | omega)
  obtain ⟨adK, adV, hS, hev⟩ := vk_Sof (args := #[Value.ref b]) (s := s) (N := 3) (tm := lw_tm) (len := [8, 4, 6]) (byt := [[104, 107, 99, 97, 98, 108, 100, 115], [115, 112, 114, 119], [108, 100, 110, 99, 114, 121]]) (A := lw_A s)
    (fun i hi => by rcases i with _ | _ | _ | i <;> first | decide | omega)
    (fun i hi => by rcases i with _ | _ | _ | i <;> first | exact hf _ (by decide +kernel) | omega)
    (fun i hi => by rcases i with _ | _ | _ | i <;> first | exact hf _ (by decide +kernel) | omega)
    (fun i hi => by rcases i with _ | _ | _ | i <;> first | exact hf _ (by decide +kernel) | omega)
    (fun i hi => by rcases i with _ | _ | _ | i <;> first | exact hf _ (by decide +kernel) | omega)
    (fun i hi j hj => by
      rcases i with _ | _ | _ | i
      · have hj : j < 8 := hj
        rcases j with _ | _ | _ | _ | _ | _ | _ | _ | j <;> first | exact hf _ (by decide +kernel) | omega
      · have hj : j < 4 := hj
        rcases j with _ | _ | _ | _ | j <;> first | exact hf _ (by decide +kernel) | omega
      · have hj : j < 6 := hj
        rcases j with _ | _ | _ | _ | _ | _ | j <;> first | exact hf _ (by decide +kernel) | omega
      · omega)
    (fun i j hi hj hne => by
      rcases i with _ | _ | _ | i <;> rcases j with _ | _ | _ | j <;> first | exact absurd rfl hne | exact Or.inl (hf _ (by decide +kernel)) | exact Or.inr (hf _ (by decide +kernel)) | omega) hA
  have e0 := hev 0 (by decide)
  have e1 := hev 1 (by decide)
  have e2 := hev 2 (by decide)
  have e3 : (Term.string "RoadWheels$LawReader" 82).eval #[Value.ref b] s none [] s = some (.ref (adK 2)) := by
    have h9 : (Cond.eq (.string "RoadWheels$Days" 11) (.string "RoadWheels$LawReader" 82)).before #[Value.ref b] s = true := hf _ (by decide +kernel)
    have e2' : (Term.string "RoadWheels$Days" 11).eval #[Value.ref b] s none [] s = some (.ref (adK 2)) := e2
    exact lw_eqr e2' h9
  refine ⟨(fun c => (fD c).1, fun c => (fD c).2, fun t => if t = 0 then c0 else if t = 1 then c1 else if t = 2 then c2 else c3, fun j => s.heap.size + j, fun j => if j = 0 then t0 else if j = 1 then t1 else if j = 2 then t2 else if j = 3 then t3 else t4, adK, adV), fun j => rfl, ⟨fun c z hz => hD c z hz, fun k q hk => ?_⟩, fun w hw => ?_, ⟨fun j hj => ?_, hS, ⟨vk_R.of (htb _ (by decide +kernel)) e0, vk_R.of (htb _ (by decide +kernel)) e1, vk_R.of (htb _ (by decide +kernel)) e2, vk_R.of (htb _ (by decide +kernel)) e3⟩, ?_, ?_⟩, ⟨hAO1, hAO2⟩, ?_, ?_, fun w hw => ?_⟩
  · have hk4 : k < 4 := (List.getElem?_eq_some_iff.mp hk).1
    rcases k with _ | _ | _ | _ | k
    · cases hk; exact h0
    · cases hk; exact h1
    · cases hk; exact h2
    · cases hk; exact h3
    · omega
  · have h9 := List.all_eq_true.mp sg_nws_is w hw
    exact va_Nw.of (by cases w <;> first | rfl | (simp [sg_isN] at h9; done)) (htb _ (lw_nws_in w hw))
  · rcases j with _ | _ | _ | _ | _ | j
    · exact g0
    · exact g1
    · exact g2
    · exact g3
    · exact g4
    · omega
  · exact va_Zof (htb _ (by decide +kernel)) (htb _ (by decide +kernel)) (va_eqt (hf _ (by decide +kernel))) hA
  · exact va_Zqof (htb _ (by decide +kernel)) (htb _ (by decide +kernel)) (hf _ (by decide +kernel)) hA
  · exact vx_Zqof (htb _ (by decide +kernel)) (htb _ (by decide +kernel)) (hf _ (by decide +kernel)) hA
  · exact vx_Zqof (htb _ (by decide +kernel)) (htb _ (by decide +kernel)) (hf _ (by decide +kernel)) hA
  · simp only [sg_xw, List.mem_cons, List.not_mem_nil, or_false] at hw
    rcases hw with rfl | rfl | rfl | rfl <;> exact va_Nw.of rfl (htb _ (lw_xw_in _ (by decide +kernel)))
