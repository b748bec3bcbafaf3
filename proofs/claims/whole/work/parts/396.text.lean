/-! TEXT: laws and ways -/
def uY (A : Abs) (x : Wys) : Abs := (A.1, A.2.1, A.2.2.1, x, A.2.2.2.2)
theorem cp_0 {α : Type} {σ : sgS} {i N j M n : Nat} {K : sgS → Option α} (h1 : n ≤ N) (h2 : n ≤ M) (hN : N < 2147483648) (hM : M < 2147483648) : sg_cp σ i N j M 0 0 (nI n) K = K (sg_row σ j (va_cpy (σ.1 i) (σ.1 j) 0 0 n)) := cp_ok (sp := 0) (dp := 0) (by omega) (by omega) hN hM
theorem cp_0L {α : Type} {σ : sgS} {i N j M n : Nat} {K : sgS → Option α} (h1 : (OfNat.ofNat n : Nat) ≤ N) (h2 : (OfNat.ofNat n : Nat) ≤ M) (hN : N < 2147483648) (hM : M < 2147483648) : sg_cp σ i N j M 0 0 (no_index (OfNat.ofNat n : Int32)) K = K (sg_row σ j (va_cpy (σ.1 i) (σ.1 j) 0 0 (OfNat.ofNat n : Nat))) := cp_0 h1 h2 hN hM
theorem cpy_in {f g : Nat → Int32} {n k : Nat} (h : k < n) : va_cpy f g 0 0 n k = f k := by rw [cpy_get, if_pos ⟨Nat.zero_le _, by omega⟩, Nat.zero_add, Nat.sub_zero]
theorem MLaw_c {l : List (List (Int32 × Int32) × List (Int32 × Int32))} {n : Nat} {τ τ' : sgS} (h : MLaw l n τ) (e : ∀ j, 2 ≤ j → j ≤ 8 → τ'.1 j = τ.1 j) : MLaw l n τ' := by
  unfold MLaw at h ⊢
  rw [e 5 (by decide) (by decide), e 2 (by decide) (by decide), e 3 (by decide) (by decide), e 6 (by decide) (by decide), e 7 (by decide) (by decide), e 8 (by decide) (by decide)]
  exact h
theorem keepLaw {W len : Nat} {s : sgS} (hr : W < 4) (hlen : len ≤ 240) (h4 : s.1 21 4 = nI W) : f_X4_keep 10000 20 240 (nI len) s = some (nI W, sg_up (sg_up (sg_row s (23 + W) (va_cpy (s.1 20) (s.1 (23 + W)) 0 0 len)) 27 W (nI len)) 21 4 (nI (W + 1))) := by
  unfold f_X4_keep
  rw [h4, if_neg (by rw [nJ_Lle (by omega) (by decide)]; omega), if_neg (by rw [nJ_not_neg (by omega)]; exact id), if_neg (by rw [nJ_Llt (by omega) (by decide)]; omega), if_pos (show nI len ≤ Int32.ofNat 240 from of_eq_true ((nJ_le (k := len) (n := 240) (by omega) (by decide)).trans (eq_true hlen))), rf_ok hr (by decide), cp_0 hlen hlen (by decide) (by decide), sg_row_nt (by omega), h4, st_ok hr (by decide), pf_eq, up_at, up_ne (by decide), sg_row_nt (by omega), h4, nJ_addL, nJ_subL (by omega)]
  rfl
def txC (p1 v1 : Int32) (s2 : sgS) : Option (Int32 × sgS) := if v1 = 0 then some (-1, s2) else (sg_cr (f_X11_hasRoomFor 10000 p1 s2) fun v3 => if v3 = 0 then some (-1, s2) else sg_pf s2 1 1 0 fun s4 => if p1 = 1 then (sg_cl (f_X4_keep 10000 20 240 (s4.1 19 2) s4) fun v9 s10 => some (v9, s10)) else (if p1 = 2 then (sg_cl (f_X10_keep 10000 s4) fun v7 s8 => some (v7, s8)) else (sg_cl (f_X11_beginCounty 10000 s4) fun v5 s6 => some (v5, s6))))
theorem txC_eq {p1 z : Int32} {σ σ1 : sgS} (h : f_X11_reads 10000 p1 σ = some (z, σ1)) : f_X11_text 10000 p1 σ = txC p1 z σ1 := by
  unfold f_X11_text txC
  rw [h, cl_some]
theorem text1 {A : Abs} {σ τ : sgS} (ok : okA A) (C : RelC A σ) (M : RelM A τ) : ∃ r σ' τ' A', f_X11_text 10000 1 σ = some (r, σ') ∧ f_X12_text 10000 1 τ = some (r, τ') ∧ okA A' ∧ RelC A' σ' ∧ RelM A' τ' := by
  have okL4 : (aL A).1 ≤ 4 := ok.2.2.1.1
  have okY4 : wN (aY A) ≤ 4 := ok.2.2.2.1.1
  have gC := RelC_iff.mp C
  have gM := RelM_iff.mp M
  have o : okT (aT A) := ok.1
  have h240 := o.1
  have hTC : tqC (aT A) σ := gC.1
  have hTM : tqM (aT A) τ := gM.1
  have gl : CLw (aL A) σ := gC.2.2.1
  have ml : MLw (aL A) τ := gM.2.2.1
  have hbd := lwRd_ok o
  obtain ⟨σ1, z1, q1, q2, q3, q4, q5⟩ := lwC_ok o hTC
  have C1 := relC_law ok C q4
  have h4 : σ1.1 21 4 = nI (aL A).1 := (RelC_iff.mp C1).2.2.1.1
  have eC := txC_eq (reads1 q1 (by rcases q5 with h | h; exact Or.inr h.2.1; exact Or.inl h.2))
  unfold txC at eC
  have eR : f_X11_hasRoomFor 10000 1 σ1 = (if (4 : Int32) ≤ nI (aL A).1 then some (vp_nar .boolean 0) else some (vp_nar .boolean 1)) := by
    unfold f_X11_hasRoomFor
    rw [if_pos rfl, h4]
  have b69 : ∀ s, f_X12_text_B69 10000 1 s = some (-1, s) := fun s => by
    unfold f_X12_text_B69
    rw [if_neg (by decide)]
  by_cases hr : (aL A).1 < 4
  · have tn : ¬ (4 : Int32) ≤ nI (aL A).1 := by rw [nJ_Lle (by omega) (by decide)]; omega
    obtain ⟨τ1, y1, r1, r2, r3, r4⟩ := lwM_ok (n := (aL A).1) o (by omega) hTM
    have M1 := relM_law ok M (Nat.le_refl _) r3
    have eM : f_X12_text 10000 1 τ = (if y1 = -1 then (sg_pf τ1 0 2 0 fun s7 => sg_pf s7 0 13 ((s7.1 0 13) + 1) fun s8 => some ((s8.1 0 13) - 1, s8)) else some (-1, τ1)) := by
      unfold f_X12_text f_X12_text_B22
      rw [if_neg (by decide), if_pos rfl, ml.1, if_neg tn, r1, cl_some, b69]
    rcases q5 with ⟨g, hz, hL⟩ | ⟨g, hz⟩
    · have okl : okLaw (lwRd (aT A)).2.2 := hbd.2 g
      obtain ⟨hy, hM⟩ : y1 = -1 ∧ MLaw (lwRd (aT A)).2.2 (aL A).1 τ1 := by
        rcases r4 with ⟨g2, hy⟩ | ⟨g2, hy⟩
        · exact hy
        · rw [g] at g2; cases g2
      have hm13 : τ1.1 0 13 = nI (aL A).1 := (RelM_iff.mp M1).2.2.1.1
      rw [hy, if_pos rfl, pf_eq, pf_eq, up_at, up_nk (by decide), hm13, nJ_addL, nJ_subL (by omega)] at eM
      rw [hz, if_neg nn10, eR, if_neg tn, cr_some, if_neg (show ¬ vp_nar .boolean 1 = 0 by decide), pf_eq, if_pos rfl, show (sg_up σ1 1 1 0).1 19 2 = nI (lwCode (lwRd (aT A)).2.2).length by rw [up_ne (by decide)]; exact hL.1, keepLaw hr okl.1 (show (sg_up σ1 1 1 0).1 21 4 = nI (aL A).1 by rw [up_ne (by decide)]; exact h4), cl_some] at eC
      have gC := RelC_iff.mp C1
      have gM := RelM_iff.mp M1
      have gl1 : CLw (aL A) σ1 := gC.2.2.1
      have ml1 : MLw (aL A) τ1 := gM.2.2.1
      have fC : Fr (fun j k => (j = 1 ∧ k = 1) ∨ (23 ≤ j ∧ j ≤ 27) ∨ (j = 21 ∧ k = 4)) σ1 (sg_up (sg_up (sg_row (sg_up σ1 1 1 0) (23 + (aL A).1) (va_cpy ((sg_up σ1 1 1 0).1 20) ((sg_up σ1 1 1 0).1 (23 + (aL A).1)) 0 0 (lwCode (lwRd (aT A)).2.2).length)) 27 (aL A).1 (nI (lwCode (lwRd (aT A)).2.2).length)) 21 4 (nI ((aL A).1 + 1))) := Fr.tr (Fr.tr (Fr.tr (Fr.up (Or.inl ⟨rfl, rfl⟩)) (Fr.row (fun k => Or.inr (Or.inl ⟨by omega, by omega⟩)))) (Fr.up (Or.inr (Or.inl ⟨by decide, by decide⟩)))) (Fr.up (Or.inr (Or.inr ⟨rfl, rfl⟩)))
      have fM : Fr (fun j k => j = 0 ∧ (k = 2 ∨ k = 13)) τ1 (sg_up (sg_up τ1 0 2 0) 0 13 (nI ((aL A).1 + 1))) := Fr.tr (Fr.up ⟨rfl, Or.inl rfl⟩) (Fr.up ⟨rfl, Or.inr rfl⟩)
      refine ⟨_, _, _, uT (uL A ((aL A).1 + 1, (aL A).2.1, fun i => if i = (aL A).1 then (lwRd (aT A)).2.2 else (aL A).2.2 i)) (0, (aT A).2), eC, eM, ⟨⟨Nat.zero_le _, fun k hk => absurd hk (Nat.not_lt_zero _)⟩, ok.2.1, ⟨by show (aL A).1 + 1 ≤ 4; omega, by show (aL A).2.1 ≤ (aL A).1 + 1; have := ok.2.2.1.2.1; omega, fun i hi => ?_⟩, ok.2.2.2⟩, RelC_iff.mpr ⟨⟨by rw [up_ne (by decide), up_ne (by decide), sg_row_nt (by omega), up_at]; rfl, fun k hk => absurd hk (Nat.not_lt_zero _)⟩, (gCK_fr fC (fun j k hx => by unfold xCK at hx; (try unfold pt); (try unfold pb); (try unfold p21); (try unfold scC); (try unfold scM); omega) rfl gC.2.1), ⟨up_at, ?_, fun i hi => ?_⟩, (gCY_fr fC (fun j k hx => by unfold xCY at hx; (try unfold pt); (try unfold pb); (try unfold p21); (try unfold scC); (try unfold scM); omega) rfl okY4 gC.2.2.2.1), (gCN_fr fC (fun j k hx => by unfold xCN at hx; (try unfold pt); (try unfold pb); (try unfold p21); (try unfold scC); (try unfold scM); omega) rfl rfl rfl rfl gC.2.2.2.2.1), (gCP_fr fC (fun j k hx => by unfold xCP at hx; (try unfold pt); (try unfold pb); (try unfold p21); (try unfold scC); (try unfold scM); omega) rfl rfl rfl gC.2.2.2.2.2.1), (gCI_fr fC (fun j k hx => by unfold xCI at hx; (try unfold pt); (try unfold pb); (try unfold p21); (try unfold scC); (try unfold scM); omega) rfl rfl gC.2.2.2.2.2.2.1), (gCV_fr fC (fun j k hx => by unfold xCV at hx; (try unfold pt); (try unfold pb); (try unfold p21); (try unfold scC); (try unfold scM); omega) rfl gC.2.2.2.2.2.2.2.1), (gCF_fr fC (fun j k hx => by unfold xCF at hx; (try unfold pt); (try unfold pb); (try unfold p21); (try unfold scC); (try unfold scM); omega) rfl gC.2.2.2.2.2.2.2.2.1), (gCR_fr fC (fun j k hx => by unfold xCR at hx; (try unfold pt); (try unfold pb); (try unfold p21); (try unfold scC); (try unfold scM); omega) rfl gC.2.2.2.2.2.2.2.2.2)⟩, RelM_iff.mpr ⟨⟨by rw [up_nk (by decide), up_at]; rfl, fun k hk => absurd hk (Nat.not_lt_zero _)⟩, (gMK_fr fM (fun j k hx => by unfold xMK at hx; (try unfold pt); (try unfold pb); (try unfold p21); (try unfold scC); (try unfold scM); omega) rfl gM.2.1), ⟨up_at, ?_, fun i hi => ?_⟩, (gMY_fr fM (fun j k hx => by unfold xMY at hx; (try unfold pt); (try unfold pb); (try unfold p21); (try unfold scC); (try unfold scM); omega) rfl gM.2.2.2.1), (gMN_fr fM (fun j k hx => by unfold xMN at hx; (try unfold pt); (try unfold pb); (try unfold p21); (try unfold scC); (try unfold scM); omega) rfl rfl rfl gM.2.2.2.2.1), (gMP_fr fM (fun j k hx => by unfold xMP at hx; (try unfold pt); (try unfold pb); (try unfold p21); (try unfold scC); (try unfold scM); omega) rfl rfl rfl rfl gM.2.2.2.2.2.1), (gMI_fr fM (fun j k hx => by unfold xMI at hx; (try unfold pt); (try unfold pb); (try unfold p21); (try unfold scC); (try unfold scM); omega) rfl rfl gM.2.2.2.2.2.2.1), (gMV_fr fM (fun j k hx => by unfold xMV at hx; (try unfold pt); (try unfold pb); (try unfold p21); (try unfold scC); (try unfold scM); omega) rfl gM.2.2.2.2.2.2.2.1), (gMF_fr fM (fun j k hx => by unfold xMF at hx; (try unfold pt); (try unfold pb); (try unfold p21); (try unfold scC); (try unfold scM); omega) rfl gM.2.2.2.2.2.2.2.2.1), (gMR_fr fM (fun j k hx => by unfold xMR at hx; (try unfold pt); (try unfold pb); (try unfold p21); (try unfold scC); (try unfold scM); omega) rfl gM.2.2.2.2.2.2.2.2.2)⟩⟩
      · have hi : i < (aL A).1 + 1 := hi
        show okLaw (if i = (aL A).1 then (lwRd (aT A)).2.2 else (aL A).2.2 i)
        by_cases c : i = (aL A).1
        · rw [if_pos c]; exact okl
        · rw [if_neg c]; exact ok.2.2.1.2.2 i (by omega)
      · rw [up_nk (by decide), up_ne (by decide), sg_row_nt (by omega), up_ne (by decide)]
        exact gl1.2.1
      · have hi : i < (aL A).1 + 1 := hi
        show (sg_up (sg_up (sg_row (sg_up σ1 1 1 0) (23 + (aL A).1) (va_cpy ((sg_up σ1 1 1 0).1 20) ((sg_up σ1 1 1 0).1 (23 + (aL A).1)) 0 0 (lwCode (lwRd (aT A)).2.2).length)) 27 (aL A).1 (nI (lwCode (lwRd (aT A)).2.2).length)) 21 4 (nI ((aL A).1 + 1))).1 27 i = nI (lwCode (if i = (aL A).1 then (lwRd (aT A)).2.2 else (aL A).2.2 i)).length ∧ ∀ k, k < (lwCode (if i = (aL A).1 then (lwRd (aT A)).2.2 else (aL A).2.2 i)).length → (sg_up (sg_up (sg_row (sg_up σ1 1 1 0) (23 + (aL A).1) (va_cpy ((sg_up σ1 1 1 0).1 20) ((sg_up σ1 1 1 0).1 (23 + (aL A).1)) 0 0 (lwCode (lwRd (aT A)).2.2).length)) 27 (aL A).1 (nI (lwCode (lwRd (aT A)).2.2).length)) 21 4 (nI ((aL A).1 + 1))).1 (23 + i) k = (lwCode (if i = (aL A).1 then (lwRd (aT A)).2.2 else (aL A).2.2 i)).getD k 0
        by_cases c : i = (aL A).1
        · rw [if_pos c, c]
          refine ⟨by rw [up_ne (by decide), up_at], fun k hk => ?_⟩
          rw [up_ne (by omega), up_ne (by omega), sg_row_at, cpy_in hk, up_ne (by decide)]
          exact hL.2 k hk
        · rw [if_neg c]
          have hi2 : i < (aL A).1 := by omega
          refine ⟨by rw [up_ne (by decide), up_nk c, sg_row_nt (by omega), up_ne (by decide)]; exact (gl1.2.2 i hi2).1, fun k hk => ?_⟩
          rw [up_ne (by omega), up_ne (by omega), sg_row_nt (by omega), up_ne (by omega)]
          exact (gl1.2.2 i hi2).2 k hk
      · rw [up_nk (by decide), up_nk (by decide)]
        exact ml1.2.1
      · have hi : i < (aL A).1 + 1 := hi
        have ec : ∀ j, 2 ≤ j → j ≤ 8 → (sg_up (sg_up τ1 0 2 0) 0 13 (nI ((aL A).1 + 1))).1 j = τ1.1 j := fun j h1 _ => by rw [up_ne (by omega), up_ne (by omega)]
        show MLaw (if i = (aL A).1 then (lwRd (aT A)).2.2 else (aL A).2.2 i) i _
        by_cases c : i = (aL A).1
        · rw [if_pos c, c]; exact MLaw_c hM ec
        · rw [if_neg c]; exact MLaw_c (ml1.2.2 i (by omega)) ec
    · have hy : ¬ y1 = -1 := by
        rcases r4 with ⟨g2, hy⟩ | ⟨g2, hy⟩
        · rw [g] at g2; cases g2
        · have := hbd.1
          rw [hy, nJ_ne_neg (by omega)]; exact id
      rw [if_neg hy] at eM
      rw [hz, if_pos rfl] at eC
      exact ⟨_, _, _, A, eC, eM, ok, C1, M1⟩
  · have tn : (4 : Int32) ≤ nI (aL A).1 := by rw [nJ_Lle (by omega) (by decide)]; omega
    have eM : f_X12_text 10000 1 τ = some (-1, τ) := by
      unfold f_X12_text f_X12_text_B22
      rw [if_neg (by decide), if_pos rfl, ml.1, if_pos tn, b69]
    have eC2 : f_X11_text 10000 1 σ = some (-1, σ1) := by
      rw [eC]
      rcases q5 with ⟨g, hz, hL⟩ | ⟨g, hz⟩
      · rw [hz, if_neg nn10, eR, if_pos tn, cr_some, if_pos (show vp_nar .boolean 0 = 0 from rfl)]
      · rw [hz, if_pos rfl]
    exact ⟨_, _, _, A, eC2, eM, ok, C1, M⟩
theorem wyR_bd {T : Nat × (Nat → Nat)} : (wyR T).1 ≤ T.1 ∧ (wyR T).2.1 ≤ 12 ∧ ∀ i, i < (wyR T).2.1 → (wyR T).2.2 i ≤ 9 := by
  have h1 := wyF_ok (T := T) 13 0 0 (fun _ => 0) rfl (Nat.zero_le _) (fun i hi => absurd hi (Nat.not_lt_zero _))
  have h2 := wyF_dig (T := T) 13 0 0 (fun _ => 0) (fun i hi => absurd hi (Nat.not_lt_zero _))
  rcases h1 with h1 | h1
  · exact ⟨h1.1, h1.2, h2⟩
  · omega
theorem okS_Y {K : Cty} {Y Y' : Wys} {S : Sta} (h : okS K Y S) (h1 : wN Y ≤ wN Y') (h2 : ∀ y, y < wN Y → wL Y' y = wL Y y) : okS K Y' S := by
  refine ⟨fun w hw => ?_, h.2⟩
  obtain ⟨a, b, c, d⟩ := h.1 w hw
  refine ⟨a, by omega, c, fun hn => ?_⟩
  have := d hn
  rw [h2 _ (by omega)]
  exact this
theorem keepWay {W : Nat} {s : sgS} (hr : W < 4) (h4 : s.1 29 4 = nI W) : f_X10_keep 10000 s = some (nI W, sg_up (sg_up (sg_row s (31 + W) (va_cpy (s.1 36) (s.1 (31 + W)) 0 0 12)) 35 W (s.1 29 3)) 29 4 (nI (W + 1))) := by
  unfold f_X10_keep
  rw [h4, if_pos (by rw [nJ_ltL (by omega) (by decide)]; exact hr), rf_ok hr (by decide), cp_0L (by decide) (by decide) (by decide) (by decide), sg_row_nt (by omega), h4, st_ok hr (by decide), pf_eq, up_at, up_ne (by decide), sg_row_nt (by omega), h4, nJ_addL, nJ_subL (by omega)]
  rfl
theorem text2 {A : Abs} {σ τ : sgS} (ok : okA A) (C : RelC A σ) (M : RelM A τ) : ∃ r σ' τ' A', f_X11_text 10000 2 σ = some (r, σ') ∧ f_X12_text 10000 2 τ = some (r, τ') ∧ okA A' ∧ RelC A' σ' ∧ RelM A' τ' := by
  have okL4 : (aL A).1 ≤ 4 := ok.2.2.1.1
  have okY4 : wN (aY A) ≤ 4 := ok.2.2.2.1.1
  have gC := RelC_iff.mp C
  have gM := RelM_iff.mp M
  have o : okT (aT A) := ok.1
  have h240 := o.1
  have hTC : tqC (aT A) σ := gC.1
  have hTM : tqM (aT A) τ := gM.1
  have my : MY (aY A) τ := gM.2.2.2.1
  have hbd := wyR_bd (T := aT A)
  obtain ⟨σ1, q1, q2, q3, q4, q5⟩ := wayC_ok o hTC
  have C1 := relC_way ok C q5
  have h4 : σ1.1 29 4 = nI (wN (aY A)) := (RelC_iff.mp C1).2.2.2.1.1
  have eC := txC_eq (reads2 q1 ite_z)
  unfold txC at eC
  have eR : f_X11_hasRoomFor 10000 2 σ1 = (if (4 : Int32) ≤ nI (wN (aY A)) then some (vp_nar .boolean 0) else some (vp_nar .boolean 1)) := by
    unfold f_X11_hasRoomFor
    rw [if_neg (by decide), if_pos rfl, h4]
  have eM0 : f_X12_text 10000 2 τ = f_X12_text_B69 10000 2 τ := by
    unfold f_X12_text f_X12_text_B22
    rw [if_neg (by decide), if_neg (by decide)]
  by_cases hr : wN (aY A) < 4
  · have tn : ¬ (4 : Int32) ≤ nI (wN (aY A)) := by rw [nJ_Lle (by omega) (by decide)]; omega
    obtain ⟨τ1, r1, r2, r3, r4⟩ := wayM_ok (n := wN (aY A)) o (by omega) hTM
    have M1 := relM_way ok M (Nat.le_refl _) r4
    have eM : f_X12_text 10000 2 τ = (if (if wyG (aT A) = true then (-1 : Int32) else nI (wyR (aT A)).1) = -1 then (sg_pf τ1 0 2 0 fun s3 => sg_pf s3 0 33 ((s3.1 0 33) + 1) fun s4 => some ((s4.1 0 33) - 1, s4)) else some (-1, τ1)) := by
      rw [eM0]
      unfold f_X12_text_B69
      rw [if_pos rfl, my.1, if_neg tn, r1, cl_some]
    cases g : wyG (aT A) with
    | true =>
      have hg : (aT A).1 ≤ (wyR (aT A)).1 ∧ 2 ≤ (wyR (aT A)).2.1 := of_decide_eq_true g
      have hm33 : τ1.1 0 33 = nI (wN (aY A)) := (RelM_iff.mp M1).2.2.2.1.1
      rw [g, if_pos (show (if true = true then (-1 : Int32) else nI (wyR (aT A)).1) = -1 from rfl), pf_eq, pf_eq, up_at, up_nk (by decide), hm33, nJ_addL, nJ_subL (by omega)] at eM
      rw [g, if_neg (show ¬ (if true = true then (1 : Int32) else 0) = 0 from nn10), eR, if_neg tn, cr_some, if_neg (show ¬ vp_nar .boolean 1 = 0 by decide), pf_eq, if_neg (show ¬ (2 : Int32) = 1 by decide), if_pos rfl, keepWay hr (show (sg_up σ1 1 1 0).1 29 4 = nI (wN (aY A)) by rw [up_ne (by decide)]; exact h4), cl_some, show (sg_up σ1 1 1 0).1 29 3 = nI (wyR (aT A)).2.1 by rw [up_ne (by decide)]; exact q3] at eC
      have gC := RelC_iff.mp C1
      have gM := RelM_iff.mp M1
      have gy1 : CY (aY A) σ1 := gC.2.2.2.1
      have my1 : MY (aY A) τ1 := gM.2.2.2.1
      have fC : Fr (fun j k => (j = 1 ∧ k = 1) ∨ (31 ≤ j ∧ j ≤ 35) ∨ (j = 29 ∧ k = 4)) σ1 (sg_up (sg_up (sg_row (sg_up σ1 1 1 0) (31 + wN (aY A)) (va_cpy ((sg_up σ1 1 1 0).1 36) ((sg_up σ1 1 1 0).1 (31 + wN (aY A))) 0 0 12)) 35 (wN (aY A)) (nI (wyR (aT A)).2.1)) 29 4 (nI (wN (aY A) + 1))) := Fr.tr (Fr.tr (Fr.tr (Fr.up (Or.inl ⟨rfl, rfl⟩)) (Fr.row (fun k => Or.inr (Or.inl ⟨by omega, by omega⟩)))) (Fr.up (Or.inr (Or.inl ⟨by decide, by decide⟩)))) (Fr.up (Or.inr (Or.inr ⟨rfl, rfl⟩)))
      have fM : Fr (fun j k => j = 0 ∧ (k = 2 ∨ k = 33)) τ1 (sg_up (sg_up τ1 0 2 0) 0 33 (nI (wN (aY A) + 1))) := Fr.tr (Fr.up ⟨rfl, Or.inl rfl⟩) (Fr.up ⟨rfl, Or.inr rfl⟩)
      have lift : ∀ S, okS (aK A) (aY A) S → okS (aK A) (wN (aY A) + 1, (fun y => if y = wN (aY A) then (wyR (aT A)).2.1 else wL (aY A) y), fun y i => if y = wN (aY A) then (wyR (aT A)).2.2 i else wS (aY A) y i) S := fun S h => okS_Y h (Nat.le_succ _) (fun y hy => if_neg (by omega))
      refine ⟨_, _, _, uT (uY A (wN (aY A) + 1, (fun y => if y = wN (aY A) then (wyR (aT A)).2.1 else wL (aY A) y), fun y i => if y = wN (aY A) then (wyR (aT A)).2.2 i else wS (aY A) y i)) (0, (aT A).2), eC, eM, ⟨⟨Nat.zero_le _, fun k hk => absurd hk (Nat.not_lt_zero _)⟩, ok.2.1, ok.2.2.1, ⟨by show wN (aY A) + 1 ≤ 4; omega, fun y hy => ?_⟩, ok.2.2.2.2.1, fun hp => lift _ (ok.2.2.2.2.2.1 hp), ⟨ok.2.2.2.2.2.2.1.1, fun a ha => lift _ (ok.2.2.2.2.2.2.1.2.1 a ha), ok.2.2.2.2.2.2.1.2.2⟩, ok.2.2.2.2.2.2.2.1, ⟨ok.2.2.2.2.2.2.2.2.1.1, fun hi => ⟨lift _ (ok.2.2.2.2.2.2.2.2.1.2 hi).1, (ok.2.2.2.2.2.2.2.2.1.2 hi).2⟩⟩, ok.2.2.2.2.2.2.2.2.2⟩, RelC_iff.mpr ⟨⟨by rw [up_ne (by decide), up_ne (by decide), sg_row_nt (by omega), up_at]; rfl, fun k hk => absurd hk (Nat.not_lt_zero _)⟩, (gCK_fr fC (fun j k hx => by unfold xCK at hx; (try unfold pt); (try unfold pb); (try unfold p21); (try unfold scC); (try unfold scM); omega) rfl gC.2.1), (gCL_fr fC (fun j k hx => by unfold xCL at hx; (try unfold pt); (try unfold pb); (try unfold p21); (try unfold scC); (try unfold scM); omega) rfl okL4 gC.2.2.1), ⟨up_at, fun y hy => ?_⟩, (gCN_fr fC (fun j k hx => by unfold xCN at hx; (try unfold pt); (try unfold pb); (try unfold p21); (try unfold scC); (try unfold scM); omega) rfl rfl rfl rfl gC.2.2.2.2.1), (gCP_fr fC (fun j k hx => by unfold xCP at hx; (try unfold pt); (try unfold pb); (try unfold p21); (try unfold scC); (try unfold scM); omega) rfl rfl rfl gC.2.2.2.2.2.1), (gCI_fr fC (fun j k hx => by unfold xCI at hx; (try unfold pt); (try unfold pb); (try unfold p21); (try unfold scC); (try unfold scM); omega) rfl rfl gC.2.2.2.2.2.2.1), (gCV_fr fC (fun j k hx => by unfold xCV at hx; (try unfold pt); (try unfold pb); (try unfold p21); (try unfold scC); (try unfold scM); omega) rfl gC.2.2.2.2.2.2.2.1), (gCF_fr fC (fun j k hx => by unfold xCF at hx; (try unfold pt); (try unfold pb); (try unfold p21); (try unfold scC); (try unfold scM); omega) rfl gC.2.2.2.2.2.2.2.2.1), (gCR_fr fC (fun j k hx => by unfold xCR at hx; (try unfold pt); (try unfold pb); (try unfold p21); (try unfold scC); (try unfold scM); omega) rfl gC.2.2.2.2.2.2.2.2.2)⟩, RelM_iff.mpr ⟨⟨by rw [up_nk (by decide), up_at]; rfl, fun k hk => absurd hk (Nat.not_lt_zero _)⟩, (gMK_fr fM (fun j k hx => by unfold xMK at hx; (try unfold pt); (try unfold pb); (try unfold p21); (try unfold scC); (try unfold scM); omega) rfl gM.2.1), (gML_fr fM (fun j k hx => by unfold xML at hx; (try unfold pt); (try unfold pb); (try unfold p21); (try unfold scC); (try unfold scM); omega) rfl gM.2.2.1), ⟨up_at, fun y hy => ?_⟩, (gMN_fr fM (fun j k hx => by unfold xMN at hx; (try unfold pt); (try unfold pb); (try unfold p21); (try unfold scC); (try unfold scM); omega) rfl rfl rfl gM.2.2.2.2.1), (gMP_fr fM (fun j k hx => by unfold xMP at hx; (try unfold pt); (try unfold pb); (try unfold p21); (try unfold scC); (try unfold scM); omega) rfl rfl rfl rfl gM.2.2.2.2.2.1), (gMI_fr fM (fun j k hx => by unfold xMI at hx; (try unfold pt); (try unfold pb); (try unfold p21); (try unfold scC); (try unfold scM); omega) rfl rfl gM.2.2.2.2.2.2.1), (gMV_fr fM (fun j k hx => by unfold xMV at hx; (try unfold pt); (try unfold pb); (try unfold p21); (try unfold scC); (try unfold scM); omega) rfl gM.2.2.2.2.2.2.2.1), (gMF_fr fM (fun j k hx => by unfold xMF at hx; (try unfold pt); (try unfold pb); (try unfold p21); (try unfold scC); (try unfold scM); omega) rfl gM.2.2.2.2.2.2.2.2.1), (gMR_fr fM (fun j k hx => by unfold xMR at hx; (try unfold pt); (try unfold pb); (try unfold p21); (try unfold scC); (try unfold scM); omega) rfl gM.2.2.2.2.2.2.2.2.2)⟩⟩
      · have hy : y < wN (aY A) + 1 := hy
        show 2 ≤ (if y = wN (aY A) then (wyR (aT A)).2.1 else wL (aY A) y) ∧ (if y = wN (aY A) then (wyR (aT A)).2.1 else wL (aY A) y) ≤ 12 ∧ ∀ i, i < (if y = wN (aY A) then (wyR (aT A)).2.1 else wL (aY A) y) → (if y = wN (aY A) then (wyR (aT A)).2.2 i else wS (aY A) y i) ≤ 9
        by_cases c : y = wN (aY A)
        · rw [if_pos c]
          refine ⟨hg.2, hbd.2.1, fun i hi => ?_⟩
          rw [if_pos c]; exact hbd.2.2 i hi
        · rw [if_neg c]
          have hy2 := ok.2.2.2.1.2 y (by omega)
          refine ⟨hy2.1, hy2.2.1, fun i hi => ?_⟩
          rw [if_neg c]; exact hy2.2.2 i hi
      · have hy : y < wN (aY A) + 1 := hy
        show (sg_up (sg_up (sg_row (sg_up σ1 1 1 0) (31 + wN (aY A)) (va_cpy ((sg_up σ1 1 1 0).1 36) ((sg_up σ1 1 1 0).1 (31 + wN (aY A))) 0 0 12)) 35 (wN (aY A)) (nI (wyR (aT A)).2.1)) 29 4 (nI (wN (aY A) + 1))).1 35 y = nI (if y = wN (aY A) then (wyR (aT A)).2.1 else wL (aY A) y) ∧ ∀ i, i < (if y = wN (aY A) then (wyR (aT A)).2.1 else wL (aY A) y) → (sg_up (sg_up (sg_row (sg_up σ1 1 1 0) (31 + wN (aY A)) (va_cpy ((sg_up σ1 1 1 0).1 36) ((sg_up σ1 1 1 0).1 (31 + wN (aY A))) 0 0 12)) 35 (wN (aY A)) (nI (wyR (aT A)).2.1)) 29 4 (nI (wN (aY A) + 1))).1 (31 + y) i = nI (if y = wN (aY A) then (wyR (aT A)).2.2 i else wS (aY A) y i)
        by_cases c : y = wN (aY A)
        · rw [if_pos c, c]
          refine ⟨by rw [up_ne (by decide), up_at], fun i hi => ?_⟩
          rw [up_ne (by omega), up_ne (by omega), sg_row_at, cpy_in (by omega), up_ne (by decide), if_pos rfl]
          exact q4 i hi
        · rw [if_neg c]
          have hy2 : y < wN (aY A) := by omega
          refine ⟨by rw [up_ne (by decide), up_nk c, sg_row_nt (by omega), up_ne (by decide)]; exact (gy1.2 y hy2).1, fun i hi => ?_⟩
          rw [up_ne (by omega), up_ne (by omega), sg_row_nt (by omega), up_ne (by omega), if_neg c]
          exact (gy1.2 y hy2).2 i hi
      · have hy : y < wN (aY A) + 1 := hy
        show (sg_up (sg_up τ1 0 2 0) 0 33 (nI (wN (aY A) + 1))).1 20 y = nI (if y = wN (aY A) then (wyR (aT A)).2.1 else wL (aY A) y) ∧ ∀ i, i < (if y = wN (aY A) then (wyR (aT A)).2.1 else wL (aY A) y) → (sg_up (sg_up τ1 0 2 0) 0 33 (nI (wN (aY A) + 1))).1 19 (12 * y + i) = nI (if y = wN (aY A) then (wyR (aT A)).2.2 i else wS (aY A) y i)
        rw [up_ne (by decide), up_ne (by decide), up_ne (by decide), up_ne (by decide)]
        by_cases c : y = wN (aY A)
        · rw [if_pos c, c]
          refine ⟨r2, fun i hi => ?_⟩
          rw [if_pos rfl]
          exact r3 i hi
        · rw [if_neg c]
          have hy2 : y < wN (aY A) := by omega
          refine ⟨(my1.2 y hy2).1, fun i hi => ?_⟩
          rw [if_neg c]
          exact (my1.2 y hy2).2 i hi
    | false =>
      rw [g, if_neg (show ¬ (if false = true then (-1 : Int32) else nI (wyR (aT A)).1) = -1 by show ¬ nI (wyR (aT A)).1 = -1; rw [nJ_ne_neg (by omega)]; exact id)] at eM
      rw [g, if_pos (show (if false = true then (1 : Int32) else 0) = 0 from rfl)] at eC
      exact ⟨_, _, _, A, eC, eM, ok, C1, M1⟩
  · have tn : (4 : Int32) ≤ nI (wN (aY A)) := by rw [nJ_Lle (by omega) (by decide)]; omega
    have eM : f_X12_text 10000 2 τ = some (-1, τ) := by
      rw [eM0]
      unfold f_X12_text_B69
      rw [if_pos rfl, my.1, if_pos tn]
    have eC2 : f_X11_text 10000 2 σ = some (-1, σ1) := by
      rw [eC]
      by_cases c : (if wyG (aT A) = true then (1 : Int32) else 0) = 0
      · rw [if_pos c]
      · rw [if_neg c, eR, if_pos tn, cr_some, if_pos (show vp_nar .boolean 0 = 0 from rfl)]
    exact ⟨_, _, _, A, eC2, eM, ok, C1, M⟩
