/-! FAULT -/
theorem reads0 {σ σ1 : sgS} {z : Int32} (h : f_X0_readFrom 10000 11 σ = some (z, σ1)) (hz : z = 0 ∨ z = 1) : f_X11_reads 10000 0 σ = some (z, σ1) := by
  unfold f_X11_reads
  rw [if_pos rfl, h, cl_some]
  rcases hz with rfl | rfl <;> rfl
theorem reads1 {σ σ1 : sgS} {z : Int32} (h : f_X3_readLaw 10000 σ = some (z, σ1)) (hz : z = 0 ∨ z = 1) : f_X11_reads 10000 1 σ = some (z, σ1) := by
  unfold f_X11_reads
  rw [if_neg (by decide), if_pos rfl, h, cl_some]
  rcases hz with rfl | rfl <;> rfl
theorem reads2 {σ σ1 : sgS} {z : Int32} (h : f_X10_readFrom 10000 σ = some (z, σ1)) (hz : z = 0 ∨ z = 1) : f_X11_reads 10000 2 σ = some (z, σ1) := by
  unfold f_X11_reads
  rw [if_neg (by decide), if_neg (by decide), if_pos rfl, h, cl_some]
  rcases hz with rfl | rfl <;> rfl
theorem faultC {σ σ1 : sgS} {a z : Int32} (ha : a = 0 ∨ a = 1 ∨ a = 2) (h : f_X11_reads 10000 a σ = some (z, σ1)) : f_X11_fault 10000 a σ = (if z = 0 then some (σ1.1 1 2, σ1) else some (-1, σ1)) := by
  unfold f_X11_fault
  rw [if_neg (by rcases ha with rfl | rfl | rfl <;> decide), if_pos (by rcases ha with rfl | rfl | rfl <;> decide), h, cl_some]
theorem not012 {a : Int32} (h0 : ¬ a = 0) (h1 : ¬ a = 1) (h2 : ¬ a = 2) : a < 0 ∨ ¬ a ≤ 2 := by
  rcases nJ_cases a with h | ⟨k, hk, rfl⟩
  · exact Or.inl h
  · right
    rw [nJ_leL hk (by decide)]
    have h0 : ¬ k = 0 := fun h => h0 (by rw [h]; rfl)
    rw [nJ_eqL hk (by decide)] at h1 h2
    omega
theorem lwItems_code {l : List (List (Int32 × Int32) × List (Int32 × Int32))} : (lwItems l).length ≤ (lwCode l).length := by
  induction l with
  | nil => exact Nat.le_refl _
  | cons q l ih =>
    show ((q.1 ++ q.2) ++ lwItems l).length ≤ (lwCl q ++ lwCode l).length
    rw [List.length_append, List.length_append (as := lwCl q)]
    have := lwItems_le (x := q.1) (y := q.2)
    have h2 : (lwCl (q.1, q.2)).length = (lwCl q).length := rfl
    omega
theorem MLw_n {W : Lws} {n : Nat} {τ τ' : sgS} (okw : okW W) (hn : W.1 ≤ n) (h : MLw W τ) (f : Fr (pLo n) τ τ') : MLw W τ' := by
  obtain ⟨w1, w2, w3⟩ := h
  refine ⟨by rw [f 0 13 (by unfold pLo pLr pLm; omega)]; exact w1, by rw [f 0 36 (by unfold pLo pLr pLm; omega)]; exact w2, fun i hi => ?_⟩
  obtain ⟨m1, m2, m3⟩ := w3 i hi
  have hok := okw.2.2 i hi
  have hil : (lwItems (W.2.2 i)).length ≤ 240 := Nat.le_trans lwItems_code hok.1
  have hlc := hok.2.1
  exact ⟨by rw [f 5 i (by unfold pLo pLr pLm; omega)]; exact m1, fun k hk => by rw [f 2 _ (by unfold pLo pLr pLm; omega), f 3 _ (by unfold pLo pLr pLm; omega)]; exact m2 k hk, fun c hc => by rw [f 6 _ (by unfold pLo pLr pLm; omega), f 7 _ (by unfold pLo pLr pLm; omega), f 8 _ (by unfold pLo pLr pLm; omega)]; exact m3 c hc⟩
theorem MY_n {Y : Wys} {n : Nat} {τ τ' : sgS} (oky : okY Y) (hn : wN Y ≤ n) (h : MY Y τ) (f : Fr (pWm n) τ τ') : MY Y τ' := by
  obtain ⟨y1, y2⟩ := h
  refine ⟨by rw [f 0 33 (by unfold pWm; omega)]; exact y1, fun y hy => ?_⟩
  have hok := oky.2 y hy
  exact ⟨by rw [f 20 y (by unfold pWm; omega)]; exact (y2 y hy).1, fun i hi => by rw [f 19 _ (by unfold pWm; omega)]; exact (y2 y hy).2 i hi⟩
theorem relM_law {A : Abs} {n : Nat} {τ τ' : sgS} (ok : okA A) (M : RelM A τ) (hn : (aL A).1 ≤ n) (f : Fr (pLo n) τ τ') : RelM A τ' := by
  have gM := RelM_iff.mp M
  have fM : Fr (fun j k => (j = 0 ∧ (k = 3 ∨ k = 4 ∨ k = 5 ∨ k = 14)) ∨ (2 ≤ j ∧ j ≤ 8)) τ τ' := f.mono (fun j k h => by unfold pLo pLr pLm at h; omega)
  exact RelM_iff.mpr ⟨(gMT_fr fM (fun j k hx => by unfold xMT at hx; (try unfold pt); (try unfold pb); (try unfold p21); (try unfold scC); (try unfold scM); omega) rfl gM.1), (gMK_fr fM (fun j k hx => by unfold xMK at hx; (try unfold pt); (try unfold pb); (try unfold p21); (try unfold scC); (try unfold scM); omega) rfl gM.2.1), MLw_n ok.2.2.1 hn gM.2.2.1 f, (gMY_fr fM (fun j k hx => by unfold xMY at hx; (try unfold pt); (try unfold pb); (try unfold p21); (try unfold scC); (try unfold scM); omega) rfl gM.2.2.2.1), (gMN_fr fM (fun j k hx => by unfold xMN at hx; (try unfold pt); (try unfold pb); (try unfold p21); (try unfold scC); (try unfold scM); omega) rfl rfl rfl gM.2.2.2.2.1), (gMP_fr fM (fun j k hx => by unfold xMP at hx; (try unfold pt); (try unfold pb); (try unfold p21); (try unfold scC); (try unfold scM); omega) rfl rfl rfl rfl gM.2.2.2.2.2.1), (gMI_fr fM (fun j k hx => by unfold xMI at hx; (try unfold pt); (try unfold pb); (try unfold p21); (try unfold scC); (try unfold scM); omega) rfl rfl gM.2.2.2.2.2.2.1), (gMV_fr fM (fun j k hx => by unfold xMV at hx; (try unfold pt); (try unfold pb); (try unfold p21); (try unfold scC); (try unfold scM); omega) rfl gM.2.2.2.2.2.2.2.1), (gMF_fr fM (fun j k hx => by unfold xMF at hx; (try unfold pt); (try unfold pb); (try unfold p21); (try unfold scC); (try unfold scM); omega) rfl gM.2.2.2.2.2.2.2.2.1), (gMR_fr fM (fun j k hx => by unfold xMR at hx; (try unfold pt); (try unfold pb); (try unfold p21); (try unfold scC); (try unfold scM); omega) rfl gM.2.2.2.2.2.2.2.2.2)⟩
theorem relM_way {A : Abs} {n : Nat} {τ τ' : sgS} (ok : okA A) (M : RelM A τ) (hn : wN (aY A) ≤ n) (f : Fr (pWm n) τ τ') : RelM A τ' := by
  have gM := RelM_iff.mp M
  have fM : Fr (fun j k => (j = 0 ∧ (k = 3 ∨ k = 4)) ∨ j = 19 ∨ j = 20) τ τ' := f.mono (fun j k h => by unfold pWm at h; omega)
  exact RelM_iff.mpr ⟨(gMT_fr fM (fun j k hx => by unfold xMT at hx; (try unfold pt); (try unfold pb); (try unfold p21); (try unfold scC); (try unfold scM); omega) rfl gM.1), (gMK_fr fM (fun j k hx => by unfold xMK at hx; (try unfold pt); (try unfold pb); (try unfold p21); (try unfold scC); (try unfold scM); omega) rfl gM.2.1), (gML_fr fM (fun j k hx => by unfold xML at hx; (try unfold pt); (try unfold pb); (try unfold p21); (try unfold scC); (try unfold scM); omega) rfl gM.2.2.1), MY_n ok.2.2.2.1 hn gM.2.2.2.1 f, (gMN_fr fM (fun j k hx => by unfold xMN at hx; (try unfold pt); (try unfold pb); (try unfold p21); (try unfold scC); (try unfold scM); omega) rfl rfl rfl gM.2.2.2.2.1), (gMP_fr fM (fun j k hx => by unfold xMP at hx; (try unfold pt); (try unfold pb); (try unfold p21); (try unfold scC); (try unfold scM); omega) rfl rfl rfl rfl gM.2.2.2.2.2.1), (gMI_fr fM (fun j k hx => by unfold xMI at hx; (try unfold pt); (try unfold pb); (try unfold p21); (try unfold scC); (try unfold scM); omega) rfl rfl gM.2.2.2.2.2.2.1), (gMV_fr fM (fun j k hx => by unfold xMV at hx; (try unfold pt); (try unfold pb); (try unfold p21); (try unfold scC); (try unfold scM); omega) rfl gM.2.2.2.2.2.2.2.1), (gMF_fr fM (fun j k hx => by unfold xMF at hx; (try unfold pt); (try unfold pb); (try unfold p21); (try unfold scC); (try unfold scM); omega) rfl gM.2.2.2.2.2.2.2.2.1), (gMR_fr fM (fun j k hx => by unfold xMR at hx; (try unfold pt); (try unfold pb); (try unfold p21); (try unfold scC); (try unfold scM); omega) rfl gM.2.2.2.2.2.2.2.2.2)⟩
theorem relM_cty {A : Abs} {τ τ' : sgS} (M : RelM A τ) (f : Fr pDm τ τ') : RelM A τ' := RelM_fr M (f.mono (fun j k h => by unfold pDm at h; unfold scM; omega))
theorem relC_cty {A : Abs} {σ σ' : sgS} (ok : okA A) (C : RelC A σ) (f : Fr pDc σ σ') : RelC A σ' := RelC_fr ok.2.2.2.2.2.2.1.1 C (f.mono (fun j k h => by unfold pDc at h; unfold scC; omega)) ok.2.2.1.1 ok.2.2.2.1.1
theorem relC_law {A : Abs} {σ σ' : sgS} (ok : okA A) (C : RelC A σ) (f : Fr pLc σ σ') : RelC A σ' := RelC_fr ok.2.2.2.2.2.2.1.1 C (f.mono (fun j k h => by unfold pLc at h; unfold scC; omega)) ok.2.2.1.1 ok.2.2.2.1.1
theorem relC_way {A : Abs} {σ σ' : sgS} (ok : okA A) (C : RelC A σ) (f : Fr pWc σ σ') : RelC A σ' := RelC_fr ok.2.2.2.2.2.2.1.1 C (f.mono (fun j k h => by unfold pWc at h; unfold scC; omega)) ok.2.2.1.1 ok.2.2.2.1.1
theorem ite_z {c : Bool} : (if c = true then (1 : Int32) else 0) = 0 ∨ (if c = true then (1 : Int32) else 0) = 1 := by cases c; exact Or.inl rfl; exact Or.inr rfl
theorem lw_O2_ok : lw_O2 Rel := by
  intro a1
  refine rw_eq (fun A σ τ ok C M => ⟨10000, 10000, ?_⟩)
  have okL4 : (aL A).1 ≤ 4 := ok.2.2.1.1
  have okY4 : wN (aY A) ≤ 4 := ok.2.2.2.1.1
  have gC := RelC_iff.mp C
  have gM := RelM_iff.mp M
  have o : okT (aT A) := ok.1
  have hTC : tqC (aT A) σ := gC.1
  have hTM : tqM (aT A) τ := gM.1
  by_cases h0 : a1 = 0
  · subst h0
    obtain ⟨σ1, z1, q1, q2, q3, q4, q5⟩ := ctC_ok o hTC
    obtain ⟨τ1, y1, r1, r2, r3, r4⟩ := ctM_ok o hTM
    have eC := faultC (Or.inl rfl) (reads0 q1 (by rcases q5 with h | h; exact Or.inr h.2.1; exact Or.inl h.2))
    have eM : f_X12_fault 10000 0 τ = some (y1, τ1) := by
      unfold f_X12_fault
      rw [if_pos rfl, r1, cl_some]
    rcases q5 with ⟨g, hz, _⟩ | ⟨g, hz⟩
    · rw [hz, if_neg nn10] at eC
      refine ⟨_, _, _, A, eC, ?_, ok, relC_cty ok C q4, relM_cty M r3⟩
      rcases r4 with ⟨g2, hy, _⟩ | ⟨g2, hy⟩
      · rw [← hy]; exact eM
      · exact absurd g g2
    · rw [hz, if_pos rfl] at eC
      refine ⟨_, _, _, A, eC, ?_, ok, relC_cty ok C q4, relM_cty M r3⟩
      rcases r4 with ⟨g2, hy, _⟩ | ⟨g2, hy⟩
      · exact absurd g2 g
      · rw [q2, ← hy]; exact eM
  · by_cases h1 : a1 = 1
    · subst h1
      obtain ⟨σ1, z1, q1, q2, q3, q4, q5⟩ := lwC_ok o hTC
      obtain ⟨τ1, y1, r1, r2, r3, r4⟩ := lwM_ok (n := 4) o (by decide) hTM
      have r1 : f_X12_readLaw 10000 4 τ = some (y1, τ1) := r1
      have eC := faultC (Or.inr (Or.inl rfl)) (reads1 q1 (by rcases q5 with h | h; exact Or.inr h.2.1; exact Or.inl h.2))
      have eM : f_X12_fault 10000 1 τ = some (y1, τ1) := by
        unfold f_X12_fault
        rw [if_neg (by decide), if_pos rfl, r1, cl_some]
      rcases q5 with ⟨g, hz, _⟩ | ⟨g, hz⟩
      · rw [hz, if_neg nn10] at eC
        refine ⟨_, _, _, A, eC, ?_, ok, relC_law ok C q4, relM_law ok M okL4 r3⟩
        rcases r4 with ⟨g2, hy, _⟩ | ⟨g2, hy⟩
        · rw [← hy]; exact eM
        · rw [g] at g2; cases g2
      · rw [hz, if_pos rfl] at eC
        refine ⟨_, _, _, A, eC, ?_, ok, relC_law ok C q4, relM_law ok M okL4 r3⟩
        rcases r4 with ⟨g2, hy, _⟩ | ⟨g2, hy⟩
        · rw [g] at g2; cases g2
        · rw [q3, ← hy]; exact eM
    · by_cases h2 : a1 = 2
      · subst h2
        obtain ⟨σ1, q1, q2, q3, q4, q5⟩ := wayC_ok o hTC
        obtain ⟨τ1, r1, r2, r3, r4⟩ := wayM_ok (n := 4) o (by decide) hTM
        have r1 : f_X12_readWay 10000 4 τ = _ := r1
        have eC := faultC (Or.inr (Or.inr rfl)) (reads2 q1 ite_z)
        have eM : f_X12_fault 10000 2 τ = some ((if wyG (aT A) then -1 else nI (wyR (aT A)).1), τ1) := by
          unfold f_X12_fault
          rw [if_neg (by decide), if_neg (by decide), if_pos rfl, r1, cl_some]
        cases g : wyG (aT A) with
        | true =>
          rw [g, if_neg (show ¬ (if true = true then (1 : Int32) else 0) = 0 from nn10)] at eC
          rw [g] at eM
          exact ⟨_, _, _, A, eC, eM, ok, relC_way ok C q5, relM_way ok M okY4 r4⟩
        | false =>
          rw [g, if_pos (show (if false = true then (1 : Int32) else 0) = 0 from rfl), q2] at eC
          rw [g] at eM
          exact ⟨_, _, _, A, eC, eM, ok, relC_way ok C q5, relM_way ok M okY4 r4⟩
      · refine ⟨-2, σ, τ, A, ?_, ?_, ok, C, M⟩
        · show f_X11_fault 10000 a1 σ = _
          unfold f_X11_fault
          rcases not012 h0 h1 h2 with h | h
          · rw [if_pos h]
          · by_cases h3 : a1 < 0
            · rw [if_pos h3]
            · rw [if_neg h3, if_neg h]
        · show f_X12_fault 10000 a1 τ = _
          unfold f_X12_fault
          rw [if_neg h0, if_neg h1, if_neg h2]
