/-! refused -/
def rA (A : Abs) (w : Nat) : Abs := uR A (fun k => if k = w then aR A k + 1 else aR A k)
theorem refuse_ok {N w : Nat} {A : Abs} {σ : sgS} (ok : okA A) (hw : w < 5) (C : RelC A σ) : ∃ σ', f_X11_refuse N (nI w) σ = some (-1, σ') ∧ RelC (rA A w) σ' := by
  have okL4 : (aL A).1 ≤ 4 := ok.2.2.1.1
  have okY4 : wN (aY A) ≤ 4 := ok.2.2.2.1.1
  have gC := RelC_iff.mp C
  have gr : ∀ k, k < 5 → σ.1 331 k = aR A k := gC.2.2.2.2.2.2.2.2.2
  have fC : Fr (pt 331 w) σ (sg_up σ 331 w (aR A w + 1)) := Fr_pt
  refine ⟨sg_up σ 331 w (aR A w + 1), by unfold f_X11_refuse; rw [ld_ok (by omega) (by decide), st_ok (by omega) (by decide), gr w hw], RelC_iff.mpr ⟨(gCT_fr fC (fun j k hx => by unfold xCT at hx; (try unfold pt); (try unfold pb); (try unfold p21); (try unfold scC); (try unfold scM); omega) rfl gC.1), (gCK_fr fC (fun j k hx => by unfold xCK at hx; (try unfold pt); (try unfold pb); (try unfold p21); (try unfold scC); (try unfold scM); omega) rfl gC.2.1), (gCL_fr fC (fun j k hx => by unfold xCL at hx; (try unfold pt); (try unfold pb); (try unfold p21); (try unfold scC); (try unfold scM); omega) rfl okL4 gC.2.2.1), (gCY_fr fC (fun j k hx => by unfold xCY at hx; (try unfold pt); (try unfold pb); (try unfold p21); (try unfold scC); (try unfold scM); omega) rfl okY4 gC.2.2.2.1), (gCN_fr fC (fun j k hx => by unfold xCN at hx; (try unfold pt); (try unfold pb); (try unfold p21); (try unfold scC); (try unfold scM); omega) rfl rfl rfl rfl gC.2.2.2.2.1), (gCP_fr fC (fun j k hx => by unfold xCP at hx; (try unfold pt); (try unfold pb); (try unfold p21); (try unfold scC); (try unfold scM); omega) rfl rfl rfl gC.2.2.2.2.2.1), (gCI_fr fC (fun j k hx => by unfold xCI at hx; (try unfold pt); (try unfold pb); (try unfold p21); (try unfold scC); (try unfold scM); omega) rfl rfl gC.2.2.2.2.2.2.1), (gCV_fr fC (fun j k hx => by unfold xCV at hx; (try unfold pt); (try unfold pb); (try unfold p21); (try unfold scC); (try unfold scM); omega) rfl gC.2.2.2.2.2.2.2.1), (gCF_fr fC (fun j k hx => by unfold xCF at hx; (try unfold pt); (try unfold pb); (try unfold p21); (try unfold scC); (try unfold scM); omega) rfl gC.2.2.2.2.2.2.2.2.1), fun k hk => ?_⟩⟩
  show _ = if k = w then aR A k + 1 else aR A k
  rw [up_get]
  by_cases h : k = w
  · rw [if_pos ⟨rfl, h⟩, if_pos h, h]
  · rw [if_neg (fun c => h c.2), if_neg h]; exact gr k hk
theorem isRefused_ok {N w : Nat} {A : Abs} {τ : sgS} (hw : w < 5) (M : RelM A τ) : ∃ τ', f_X12_isRefused N (nI w) τ = some (1, τ') ∧ RelM (rA A w) τ' := by
  have gM := RelM_iff.mp M
  have gr : ∀ k, k < 5 → τ.1 22 k = aR A k := gM.2.2.2.2.2.2.2.2.2
  have fM : Fr (pt 22 w) τ (sg_up τ 22 w (aR A w + 1)) := Fr_pt
  refine ⟨sg_up τ 22 w (aR A w + 1), by unfold f_X12_isRefused; simp (disch := omega) only [sg_cr, sg_cl, sg_lb, sg_pf, sg_pl, sg_nz, sg_nzl, sg_nar0, sg_nar1, lt_T, lt_F, le_T, le_F, eq_T, eq_F, ltL_T, ltL_F, leL_T, leL_F, eqL_T, eqL_F, Llt_T, Llt_F, Lle_T, Lle_F, Leq_T, Leq_F, n10_F, n01_F, le0_F, lt0_T, le0_T, eq0_F, lt1_F, nJ_not_neg, nJ_ne_neg, nJ_neg_lt, nJ_neg_le, nJ_le_neg, ↓reduceIte, ld_ok, st_ok, rf_ok, ld_okL, st_okL, nJ_add, nJ_addL, nJ_Ladd, nJ_mul, nJ_mulL, nJ_Lmul, gr w hw], RelM_iff.mpr ⟨(gMT_fr fM (fun j k hx => by unfold xMT at hx; (try unfold pt); (try unfold pb); (try unfold p21); (try unfold scC); (try unfold scM); omega) rfl gM.1), (gMK_fr fM (fun j k hx => by unfold xMK at hx; (try unfold pt); (try unfold pb); (try unfold p21); (try unfold scC); (try unfold scM); omega) rfl gM.2.1), (gML_fr fM (fun j k hx => by unfold xML at hx; (try unfold pt); (try unfold pb); (try unfold p21); (try unfold scC); (try unfold scM); omega) rfl gM.2.2.1), (gMY_fr fM (fun j k hx => by unfold xMY at hx; (try unfold pt); (try unfold pb); (try unfold p21); (try unfold scC); (try unfold scM); omega) rfl gM.2.2.2.1), (gMN_fr fM (fun j k hx => by unfold xMN at hx; (try unfold pt); (try unfold pb); (try unfold p21); (try unfold scC); (try unfold scM); omega) rfl rfl rfl gM.2.2.2.2.1), (gMP_fr fM (fun j k hx => by unfold xMP at hx; (try unfold pt); (try unfold pb); (try unfold p21); (try unfold scC); (try unfold scM); omega) rfl rfl rfl rfl gM.2.2.2.2.2.1), (gMI_fr fM (fun j k hx => by unfold xMI at hx; (try unfold pt); (try unfold pb); (try unfold p21); (try unfold scC); (try unfold scM); omega) rfl rfl gM.2.2.2.2.2.2.1), (gMV_fr fM (fun j k hx => by unfold xMV at hx; (try unfold pt); (try unfold pb); (try unfold p21); (try unfold scC); (try unfold scM); omega) rfl gM.2.2.2.2.2.2.2.1), (gMF_fr fM (fun j k hx => by unfold xMF at hx; (try unfold pt); (try unfold pb); (try unfold p21); (try unfold scC); (try unfold scM); omega) rfl gM.2.2.2.2.2.2.2.2.1), fun k hk => ?_⟩⟩
  show _ = if k = w then aR A k + 1 else aR A k
  rw [up_get]
  by_cases h : k = w
  · rw [if_pos ⟨rfl, h⟩, if_pos h, h]
  · rw [if_neg (fun c => h c.2), if_neg h]; exact gr k hk
theorem isRefused_no {N : Nat} {τ : sgS} : f_X12_isRefused N (-1) τ = some (0, τ) := rfl
theorem rA_ok {A : Abs} {w : Nat} (ok : okA A) : okA (rA A w) := ok
/-- what is now is another, on the same day -/
theorem now_C {A : Abs} {S : Sta} {σ σ' : sgS} (ok : okA A) (C : RelC A σ) (f : Fr (pb 37 42) σ σ') (hs : CS (aK A) S 37 σ') (hd : sD S = sD (aS A)) : RelC (uS A (S, aG A)) σ' := by
  have okL4 : (aL A).1 ≤ 4 := ok.2.2.1.1
  have okY4 : wN (aY A) ≤ 4 := ok.2.2.2.1.1
  have gC := RelC_iff.mp C
  have fC := f
  refine RelC_iff.mpr ⟨(gCT_fr fC (fun j k hx => by unfold xCT at hx; (try unfold pt); (try unfold pb); (try unfold p21); (try unfold scC); (try unfold scM); omega) rfl gC.1), (gCK_fr fC (fun j k hx => by unfold xCK at hx; (try unfold pt); (try unfold pb); (try unfold p21); (try unfold scC); (try unfold scM); omega) rfl gC.2.1), (gCL_fr fC (fun j k hx => by unfold xCL at hx; (try unfold pt); (try unfold pb); (try unfold p21); (try unfold scC); (try unfold scM); omega) rfl okL4 gC.2.2.1), (gCY_fr fC (fun j k hx => by unfold xCY at hx; (try unfold pt); (try unfold pb); (try unfold p21); (try unfold scC); (try unfold scM); omega) rfl okY4 gC.2.2.2.1), ⟨fun _ => hs, hs.2.2.2.2.2.2.2, ?_⟩, (gCP_fr fC (fun j k hx => by unfold xCP at hx; (try unfold pt); (try unfold pb); (try unfold p21); (try unfold scC); (try unfold scM); omega) rfl rfl rfl gC.2.2.2.2.2.1), (gCI_fr fC (fun j k hx => by unfold xCI at hx; (try unfold pt); (try unfold pb); (try unfold p21); (try unfold scC); (try unfold scM); omega) rfl rfl gC.2.2.2.2.2.2.1), (gCV_fr fC (fun j k hx => by unfold xCV at hx; (try unfold pt); (try unfold pb); (try unfold p21); (try unfold scC); (try unfold scM); omega) rfl gC.2.2.2.2.2.2.2.1), (gCF_fr fC (fun j k hx => by unfold xCF at hx; (try unfold pt); (try unfold pb); (try unfold p21); (try unfold scC); (try unfold scM); omega) rfl gC.2.2.2.2.2.2.2.2.1), (gCR_fr fC (fun j k hx => by unfold xCR at hx; (try unfold pt); (try unfold pb); (try unfold p21); (try unfold scC); (try unfold scM); omega) rfl gC.2.2.2.2.2.2.2.2.2)⟩
  show CLg (aG A) (aO A) (sD S) (σ'.1 54)
  rw [hd, show σ'.1 54 = σ.1 54 from funext fun k => f 54 k (by unfold pb; omega)]
  exact gC.2.2.2.2.1.2.2
def p21 (j k : Nat) : Prop := j = 21 ∧ k < 34
theorem now_M {A : Abs} {S : Sta} {τ τ' : sgS} (M : RelM A τ) (f : Fr p21 τ τ') (hs : MS (aK A) S (τ'.1 21)) (hd : sD S = sD (aS A)) : RelM (uS A (S, aG A)) τ' := by
  have gM := RelM_iff.mp M
  have fM := f
  refine RelM_iff.mpr ⟨(gMT_fr fM (fun j k hx => by unfold xMT at hx; (try unfold pt); (try unfold pb); (try unfold p21); (try unfold scC); (try unfold scM); omega) rfl gM.1), (gMK_fr fM (fun j k hx => by unfold xMK at hx; (try unfold pt); (try unfold pb); (try unfold p21); (try unfold scC); (try unfold scM); omega) rfl gM.2.1), (gML_fr fM (fun j k hx => by unfold xML at hx; (try unfold pt); (try unfold pb); (try unfold p21); (try unfold scC); (try unfold scM); omega) rfl gM.2.2.1), (gMY_fr fM (fun j k hx => by unfold xMY at hx; (try unfold pt); (try unfold pb); (try unfold p21); (try unfold scC); (try unfold scM); omega) rfl gM.2.2.2.1), ⟨fun _ => hs, hs.2.2.2.2.2.2.2, ?_⟩, (gMP_fr fM (fun j k hx => by unfold xMP at hx; (try unfold pt); (try unfold pb); (try unfold p21); (try unfold scC); (try unfold scM); omega) rfl rfl rfl rfl gM.2.2.2.2.2.1), (gMI_fr fM (fun j k hx => by unfold xMI at hx; (try unfold pt); (try unfold pb); (try unfold p21); (try unfold scC); (try unfold scM); omega) rfl rfl gM.2.2.2.2.2.2.1), (gMV_fr fM (fun j k hx => by unfold xMV at hx; (try unfold pt); (try unfold pb); (try unfold p21); (try unfold scC); (try unfold scM); omega) rfl gM.2.2.2.2.2.2.2.1), (gMF_fr fM (fun j k hx => by unfold xMF at hx; (try unfold pt); (try unfold pb); (try unfold p21); (try unfold scC); (try unfold scM); omega) rfl gM.2.2.2.2.2.2.2.2.1), (gMR_fr fM (fun j k hx => by unfold xMR at hx; (try unfold pt); (try unfold pb); (try unfold p21); (try unfold scC); (try unfold scM); omega) rfl gM.2.2.2.2.2.2.2.2.2)⟩
  show MLg (aG A) (sD S) (τ'.1 21)
  rw [hd]
  obtain ⟨g1, g2⟩ := gM.2.2.2.2.1.2.2
  refine ⟨?_, fun i hi j hj => ?_⟩
  · rw [f 21 34 (by unfold p21; omega)]; exact g1
  · rw [f 21 _ (by unfold p21; omega)]; exact g2 i hi j hj
theorem now_ok {A : Abs} {S : Sta} (ok : okA A) (h0 : cP (aK A) ≠ 0) (hs : okS (aK A) (aY A) S) (hd : sD S = sD (aS A)) : okA (uS A (S, aG A)) := by
  have e : ∀ a, aD (uS A (S, aG A)) a = aD A a := by
    intro a
    show (if a < aN A then sD (aH A a) else sD S) = _
    rw [hd]; rfl
  refine ⟨ok.1, ok.2.1, ok.2.2.1, ok.2.2.2.1, fun h => absurd h h0, fun _ => hs, ⟨ok.2.2.2.2.2.2.1.1, ok.2.2.2.2.2.2.1.2.1, fun a ha => ?_, fun a ha => ?_⟩, by show sD S ≤ 999; rw [hd]; exact ok.2.2.2.2.2.2.2.1, ok.2.2.2.2.2.2.2.2⟩
  · rw [e, e]; exact ok.2.2.2.2.2.2.1.2.2.1 a ha
  · rw [e]; exact ok.2.2.2.2.2.2.1.2.2.2 a ha
def setK (S : Sta) (c : Nat) : Sta := (S.1, S.2.1, c, S.2.2.2)
def setX (S : Sta) (c : Nat) : Sta := (S.1, c, S.2.2)
def setW (S : Sta) (w y b : Nat) : Sta := ((sP S, fun q => if q = w then y else sW S q, fun q => if q = w then b else sB S q, sG S, sC S), S.2)
def setP (S : Sta) (w p : Nat) : Sta := ((fun q => if q = w then p else sP S q, S.1.2), S.2)
theorem CS_K {K : Cty} {S : Sta} {o c : Nat} {σ : sgS} (h : CS K S o σ) : CS K (setK S c) o (sg_up σ o 6 (nI c)) := by
  obtain ⟨h1, h2, h3, h4, h5, h6, h7, h8⟩ := h
  refine ⟨?_, ?_, ?_, ?_, ?_, ?_, up_at, ?_⟩
  · rw [up_ne (by omega)]; exact h1
  · rw [up_ne (by omega)]; exact h2
  · rw [up_ne (by omega)]; exact h3
  · rw [up_ne (by omega)]; exact h4
  · rw [up_ne (by omega)]; exact h5
  · rw [up_nk (by decide)]; exact h6
  · rw [up_nk (by decide)]; exact h8
theorem CS_X {K : Cty} {S : Sta} {o c : Nat} {σ : sgS} (h : CS K S o σ) : CS K (setX S c) o (sg_up σ o 5 (nI c)) := by
  obtain ⟨h1, h2, h3, h4, h5, h6, h7, h8⟩ := h
  refine ⟨?_, ?_, ?_, ?_, ?_, up_at, ?_, ?_⟩
  · rw [up_ne (by omega)]; exact h1
  · rw [up_ne (by omega)]; exact h2
  · rw [up_ne (by omega)]; exact h3
  · rw [up_ne (by omega)]; exact h4
  · rw [up_ne (by omega)]; exact h5
  · rw [up_nk (by decide)]; exact h7
  · rw [up_nk (by decide)]; exact h8
theorem CS_P {K : Cty} {S : Sta} {o w p : Nat} {σ : sgS} (h : CS K S o σ) : CS K (setP S w p) o (sg_up σ (o + 1) w (nI p)) := by
  obtain ⟨h1, h2, h3, h4, h5, h6, h7, h8⟩ := h
  refine ⟨fun q hq => ?_, ?_, ?_, ?_, ?_, ?_, ?_, ?_⟩
  · show _ = nI (if q = w then p else sP S q)
    rw [up_get]
    by_cases c : q = w
    · rw [if_pos ⟨rfl, c⟩, if_pos c]
    · rw [if_neg (fun z => c z.2), if_neg c]; exact h1 q hq
  · rw [up_ne (by omega)]; exact h2
  · rw [up_ne (by omega)]; exact h3
  · rw [up_ne (by omega)]; exact h4
  · rw [up_ne (by omega)]; exact h5
  · rw [up_ne (by omega)]; exact h6
  · rw [up_ne (by omega)]; exact h7
  · rw [up_ne (by omega)]; exact h8
theorem CS_W {K : Cty} {S : Sta} {o w y b : Nat} {σ : sgS} (h : CS K S o σ) : CS K (setW S w y b) o (sg_up (sg_up σ (o + 2) w (wI y)) (o + 3) w (nI b)) := by
  obtain ⟨h1, h2, h3, h4, h5, h6, h7, h8⟩ := h
  refine ⟨?_, fun q hq => ?_, fun q hq => ?_, ?_, ?_, ?_, ?_, ?_⟩
  · rw [up_ne (by omega), up_ne (by omega)]; exact h1
  · show _ = wI (if q = w then y else sW S q)
    rw [up_ne (by omega), up_get]
    by_cases c : q = w
    · rw [if_pos ⟨rfl, c⟩, if_pos c]
    · rw [if_neg (fun z => c z.2), if_neg c]; exact h2 q hq
  · show _ = nI (if q = w then b else sB S q)
    rw [up_get]
    by_cases c : q = w
    · rw [if_pos ⟨rfl, c⟩, if_pos c]
    · rw [if_neg (fun z => c z.2), if_neg c, up_ne (by omega)]; exact h3 q hq
  · rw [up_ne (by omega), up_ne (by omega)]; exact h4
  · rw [up_ne (by omega), up_ne (by omega)]; exact h5
  · rw [up_ne (by omega), up_ne (by omega)]; exact h6
  · rw [up_ne (by omega), up_ne (by omega)]; exact h7
  · rw [up_ne (by omega), up_ne (by omega)]; exact h8
/-- the reference's row, written at one place -/
theorem row21 {τ : sgS} {k : Nat} {v : Int32} : (sg_up τ 21 k v).1 21 = upd (τ.1 21) k v := sg_row_at
theorem upd_get {g : Nat → Int32} {k q : Nat} {v : Int32} : upd g k v q = if q = k then v else g q := rfl
theorem MS_K {K : Cty} {S : Sta} {c : Nat} {g : Nat → Int32} (ok : okK K) (h : MS K S g) : MS K (setK S c) (upd g 32 (nI c)) := by
  obtain ⟨hp, hr, hs4, -⟩ := ok
  obtain ⟨h1, h2, h3, h4, h5, h6, h7, h8⟩ := h
  exact ⟨fun q hq => by rw [upd_get, if_neg (by omega)]; exact h1 q hq, fun q hq => by rw [upd_get, if_neg (by omega)]; exact h2 q hq, fun q hq => by rw [upd_get, if_neg (by omega)]; exact h3 q hq, fun q hq => by rw [upd_get, if_neg (by omega)]; exact h4 q hq, fun q hq => by rw [upd_get, if_neg (by omega)]; exact h5 q hq, by rw [upd_get, if_neg (by omega)]; exact h6, by rw [upd_get, if_pos rfl]; rfl, by rw [upd_get, if_neg (by omega)]; exact h8⟩
theorem MS_X {K : Cty} {S : Sta} {c : Nat} {g : Nat → Int32} (ok : okK K) (h : MS K S g) : MS K (setX S c) (upd g 31 (nI c)) := by
  obtain ⟨hp, hr, hs4, -⟩ := ok
  obtain ⟨h1, h2, h3, h4, h5, h6, h7, h8⟩ := h
  exact ⟨fun q hq => by rw [upd_get, if_neg (by omega)]; exact h1 q hq, fun q hq => by rw [upd_get, if_neg (by omega)]; exact h2 q hq, fun q hq => by rw [upd_get, if_neg (by omega)]; exact h3 q hq, fun q hq => by rw [upd_get, if_neg (by omega)]; exact h4 q hq, fun q hq => by rw [upd_get, if_neg (by omega)]; exact h5 q hq, by rw [upd_get, if_pos rfl]; rfl, by rw [upd_get, if_neg (by omega)]; exact h7, by rw [upd_get, if_neg (by omega)]; exact h8⟩
theorem MS_P {K : Cty} {S : Sta} {w p : Nat} {g : Nat → Int32} (ok : okK K) (hw : w < cS K) (h : MS K S g) : MS K (setP S w p) (upd g w (nI p)) := by
  obtain ⟨hp, hr, hs4, -⟩ := ok
  obtain ⟨h1, h2, h3, h4, h5, h6, h7, h8⟩ := h
  refine ⟨fun q hq => ?_, fun q hq => by rw [upd_get, if_neg (by omega)]; exact h2 q hq, fun q hq => by rw [upd_get, if_neg (by omega)]; exact h3 q hq, fun q hq => by rw [upd_get, if_neg (by omega)]; exact h4 q hq, fun q hq => by rw [upd_get, if_neg (by omega)]; exact h5 q hq, by rw [upd_get, if_neg (by omega)]; exact h6, by rw [upd_get, if_neg (by omega)]; exact h7, by rw [upd_get, if_neg (by omega)]; exact h8⟩
  show _ = nI (if q = w then p else sP S q)
  rw [upd_get]
  by_cases c : q = w
  · rw [if_pos c, if_pos c]
  · rw [if_neg c, if_neg c]; exact h1 q hq
theorem MS_W {K : Cty} {S : Sta} {w y b : Nat} {g : Nat → Int32} (ok : okK K) (hw : w < cS K) (h : MS K S g) : MS K (setW S w y b) (upd (upd g (4 + w) (wI y)) (8 + w) (nI b)) := by
  obtain ⟨hp, hr, hs4, -⟩ := ok
  obtain ⟨h1, h2, h3, h4, h5, h6, h7, h8⟩ := h
  refine ⟨fun q hq => by rw [upd_get, if_neg (by omega), upd_get, if_neg (by omega)]; exact h1 q hq, fun q hq => ?_, fun q hq => ?_, fun q hq => by rw [upd_get, if_neg (by omega), upd_get, if_neg (by omega)]; exact h4 q hq, fun q hq => by rw [upd_get, if_neg (by omega), upd_get, if_neg (by omega)]; exact h5 q hq, by rw [upd_get, if_neg (by omega), upd_get, if_neg (by omega)]; exact h6, by rw [upd_get, if_neg (by omega), upd_get, if_neg (by omega)]; exact h7, by rw [upd_get, if_neg (by omega), upd_get, if_neg (by omega)]; exact h8⟩
  · show _ = wI (if q = w then y else sW S q)
    rw [upd_get, if_neg (by omega), upd_get]
    by_cases c : q = w
    · rw [if_pos (by omega), if_pos c]
    · rw [if_neg (by omega), if_neg c]; exact h2 q hq
  · show _ = nI (if q = w then b else sB S q)
    rw [upd_get]
    by_cases c : q = w
    · rw [if_pos (by omega), if_pos c]
    · rw [if_neg (by omega), if_neg c, upd_get, if_neg (by omega)]; exact h3 q hq
