/-! DRAWS -/
def nxt (x : Int64) : Int64 := x * 6364136223846793005 + 1442695040888963407
def drq (x : Int64) : Nat := (x.toUInt64 >>> (33 : UInt64)).toNat
theorem lushr_33 (x : Int64) : sg_lushr x 33 = Int64.ofNat (drq x) := by
  unfold sg_lushr drq
  have e : ((33 : Int32).toInt64.toUInt64 &&& Int64.toUInt64 63) = (33 : UInt64) := by decide
  rw [e]
  generalize x.toUInt64 >>> (33 : UInt64) = u
  have h : UInt64.ofNat u.toNat = u := UInt64.ofNat_toNat
  rw [← UInt64.toInt64_ofNat', h]
theorem drq_lt (x : Int64) : drq x < 2147483648 := by
  unfold drq
  rw [UInt64.toNat_shiftRight, show (33 : UInt64).toNat % 64 = 33 from by decide, Nat.shiftRight_eq_div_pow]
  have := x.toUInt64.toNat_lt
  omega
theorem toI64 {n : Nat} (hn : n < 2147483648) : (nI n).toInt64 = Int64.ofNat n := Int32.toInt64_ofNat' (by rw [Int32.toInt_maxValue]; omega)
theorem drw_ok {n : Nat} (x : Int64) (hn : n < 2147483648) : ((sg_lushr x 33) - (sg_lushr x 33) / (nI n).toInt64 * (nI n).toInt64).toInt32 = nI (drq x % n) := by
  have hq := drq_lt x
  rw [lushr_33, toI64 hn]
  generalize drq x = q at hq ⊢
  have ed : Int64.ofNat q / Int64.ofNat n = Int64.ofNat (q / n) := by
    have h1 : q / n < 2147483648 := Nat.lt_of_le_of_lt (Nat.div_le_self q n) hq
    rw [← Int64.toInt_inj, Int64.toInt_div, Int64.toInt_ofNat_of_lt (by omega), Int64.toInt_ofNat_of_lt (by omega), Int64.toInt_ofNat_of_lt (by omega)]
    rw [show Int.tdiv (q : Int) (n : Int) = ((q / n : Nat) : Int) from (Int.ofNat_tdiv q n).symm]
    generalize q / n = z at h1 ⊢
    exact Int.bmod_eq_of_le (by omega) (by omega)
  rw [ed, ← Int64.ofNat_mul, ← Int64.ofNat_sub _ _ (Nat.div_mul_le_self q n), Int64.toInt32_ofNat']
  show nI _ = nI _
  congr 1
  have := Nat.div_add_mod q n
  rw [Nat.mul_comm] at this
  omega
theorem toI64_ne {n : Nat} (h0 : 1 ≤ n) (hn : n < 2147483648) : (nI n).toInt64 ≠ 0 := by
  rw [toI64 hn]
  intro h
  have := congrArg Int64.toInt h
  rw [Int64.toInt_ofNat_of_lt (by omega), show (0 : Int64).toInt = 0 from by decide] at this
  omega
theorem ul_at {σ : sgS} {i : Nat} {v : Int64} : (sg_ul σ i v).2 i = v := if_pos rfl
theorem draw_C {N n : Nat} {σ : sgS} (h0 : 1 ≤ n) (hn : n < 2147483648) : f_X11_draw N (nI n) σ = some (nI (drq (nxt (σ.2 0)) % n), sg_ul σ 0 (nxt (σ.2 0))) := by
  unfold f_X11_draw
  simp only [sg_pl, sg_nzl]
  rw [if_neg (by rw [le0_F (by omega) hn]; exact id), if_neg (toI64_ne h0 hn), drw_ok _ hn, ul_at]
  rfl
theorem draw_M {N n : Nat} {σ : sgS} (h0 : 1 ≤ n) (hn : n < 2147483648) : f_X12_draw N (nI n) σ = some (nI (drq (nxt (σ.2 0)) % n), sg_ul σ 0 (nxt (σ.2 0))) := by
  unfold f_X12_draw
  simp only [sg_pl, sg_nzl]
  rw [if_neg (toI64_ne h0 hn), drw_ok _ hn, ul_at]
  rfl
theorem Fr.ul {p : Nat → Nat → Prop} {σ : sgS} {i : Nat} {v : Int64} : Fr p σ (sg_ul σ i v) := fun _ _ _ => rfl
def drF (nx : Int64 → Int64) (dq : Int64 → Nat) (K : Cty) (F : Nat) (S : Sta) (x : Int64) : Sta × Int64 := if F ≤ dq (nx x) % 10 then (S, nx x) else (setX S (sX S ^^^ 2 ^ (dq (nx (nx x)) % cR K)), nx (nx x))
def drT (K : Cty) (Y : Wys) (S : Sta) (w y : Nat) : Sta := if y < wN Y ∧ sW S w = 0 ∧ wS Y y 0 = sP S w then setW S w (y + 1) 1 else S
def drP (nx : Int64 → Int64) (dq : Int64 → Nat) (K : Cty) (Y : Wys) (S : Sta) (x : Int64) : Sta × Int64 := (drT K Y S (dq (nx x) % cS K) (dq (nx (nx x)) % 4), nx (nx x))
theorem drF_ok {nx : Int64 → Int64} {dq : Int64 → Nat} {K : Cty} {Y : Wys} {F : Nat} {S : Sta} {x : Int64} (ok : okS K Y S) (hr : 1 ≤ cR K) : okS K Y (drF nx dq K F S x).1 ∧ sD (drF nx dq K F S x).1 = sD S := by
  unfold drF
  by_cases c : F ≤ dq (nx x) % 10
  · rw [if_pos c]; exact ⟨ok, rfl⟩
  · rw [if_neg c]
    exact ⟨⟨ok.1, ok.2.1, ok.2.2.1, ok.2.2.2.1, xor_lt ok.2.2.2.2.1 (Nat.mod_lt _ (by omega)), ok.2.2.2.2.2⟩, rfl⟩
theorem drT_ok {K : Cty} {Y : Wys} {S : Sta} {w y : Nat} (oky : okY Y) (ok : okS K Y S) (hw : w < cS K) : okS K Y (drT K Y S w y) ∧ sD (drT K Y S w y) = sD S := by
  unfold drT
  by_cases c : y < wN Y ∧ sW S w = 0 ∧ wS Y y 0 = sP S w
  · rw [if_pos c]
    have hl := oky.2 y c.1
    refine ⟨⟨fun v hv => ⟨(ok.1 v hv).1, ?_, ?_, ?_⟩, fun v h1 h2 => ?_, ok.2.2⟩, rfl⟩
    · show (if v = w then y + 1 else sW S v) ≤ wN Y
      by_cases cv : v = w
      · rw [if_pos cv]; omega
      · rw [if_neg cv]; exact (ok.1 v hv).2.1
    · show (if v = w then y + 1 else sW S v) = 0 → (if v = w then 1 else sB S v) = 0
      by_cases cv : v = w
      · rw [if_pos cv]; omega
      · rw [if_neg cv, if_neg cv]; exact (ok.1 v hv).2.2.1
    · show (if v = w then y + 1 else sW S v) ≠ 0 → 1 ≤ (if v = w then 1 else sB S v) ∧ (if v = w then 1 else sB S v) < wL Y ((if v = w then y + 1 else sW S v) - 1)
      by_cases cv : v = w
      · rw [if_pos cv, if_pos cv, Nat.add_sub_cancel]; omega
      · rw [if_neg cv, if_neg cv]; exact (ok.1 v hv).2.2.2
    · show (if v = w then y + 1 else sW S v) = 0
      rw [if_neg (by omega)]; exact ok.2.1 v h1 h2
  · rw [if_neg c]; exact ⟨ok, rfl⟩
theorem drawFlood_C {nx : Int64 → Int64} {dq : Int64 → Nat} {N F : Nat} {K : Cty} {S : Sta} {σ : sgS} (hC : ∀ (N n : Nat) (σ : sgS), 1 ≤ n → n < 2147483648 → f_X11_draw N (nI n) σ = some (nI (dq (nx (σ.2 0)) % n), sg_ul σ 0 (nx (σ.2 0)))) (okk : okK K) (hr : 1 ≤ cR K) (hF : F ≤ 9) (eF : σ.1 0 14 = nI F) (hK : CK K σ) (hS : CS K S 37 σ) : ∃ σ', f_X11_drawFlood N σ = some (0, σ') ∧ CS K (drF nx dq K F S (σ.2 0)).1 37 σ' ∧ σ'.2 0 = (drF nx dq K F S (σ.2 0)).2 ∧ Fr (pb 37 42) σ σ' := by
  have hr12 := okk.2.1
  unfold f_X11_drawFlood drF
  rw [show (10 : Int32) = nI 10 from rfl, hC _ _ _ (by decide) (by decide)]
  simp only [cl_some, pf_eq]
  rw [ul_fst, eF]
  have hm := Nat.mod_lt (dq (nx (σ.2 0))) (show 0 < 10 by decide)
  by_cases c : F ≤ dq (nx (σ.2 0)) % 10
  · rw [if_pos c, if_pos (by rw [nJ_le (by omega) (by omega)]; exact c)]
    exact ⟨_, rfl, hS, ul_at, Fr.ul⟩
  · rw [if_neg c, if_neg (by rw [nJ_le (by omega) (by omega)]; exact c), hK.2.1, hC _ _ _ hr (by omega)]
    simp only [cl_some, cr_some, pf_eq]
    have hm2 := Nat.mod_lt (dq (nx (nx (σ.2 0)))) (show 0 < cR K by omega)
    rw [ul_at, shl_1 (by omega), hS.2.2.2.2.2.1, nI_xor]
    refine ⟨_, rfl, ?_, ?_, Fr.tr (Fr.tr Fr.ul Fr.ul) (Fr.up (by unfold pb; omega))⟩
    · exact CS_X (σ := sg_ul (sg_ul σ 0 (nx (σ.2 0))) 0 (nx (nx (σ.2 0)))) hS
    · rw [up_snd, ul_at]
theorem drawPut_C {nx : Int64 → Int64} {dq : Int64 → Nat} {N : Nat} {K : Cty} {Y : Wys} {S : Sta} {σ : sgS} (hC : ∀ (N n : Nat) (σ : sgS), 1 ≤ n → n < 2147483648 → f_X11_draw N (nI n) σ = some (nI (dq (nx (σ.2 0)) % n), sg_ul σ 0 (nx (σ.2 0)))) (okk : okK K) (oky : okY Y) (hs : 1 ≤ cS K) (hK : CK K σ) (hY : CY Y σ) (hS : CS K S 37 σ) (ok : okS K Y S) : ∃ σ', f_X11_drawPut N σ = some (0, σ') ∧ CS K (drP nx dq K Y S (σ.2 0)).1 37 σ' ∧ σ'.2 0 = (drP nx dq K Y S (σ.2 0)).2 ∧ Fr (pb 37 42) σ σ' := by
  have hs4 := okk.2.2.1
  have hp7 := okk.1
  have hwn := oky.1
  have hmw := Nat.mod_lt (dq (nx (σ.2 0))) (show 0 < cS K by omega)
  have hmy := Nat.mod_lt (dq (nx (nx (σ.2 0)))) (show 0 < 4 by decide)
  unfold f_X11_drawPut drP
  rw [hK.2.2.1, hC _ _ _ hs (by omega)]
  simp only [cl_some]
  rw [show (4 : Int32) = nI 4 from rfl, hC _ _ _ (by decide) (by decide)]
  simp only [cl_some, cr_some, pf_eq]
  rw [ul_at]
  generalize hsig : sg_ul (sg_ul σ 0 (nx (σ.2 0))) 0 (nx (nx (σ.2 0))) = σ2
  have e1 : σ2.1 = σ.1 := by rw [← hsig]; rfl
  have e2 : σ2.2 0 = nx (nx (σ.2 0)) := by rw [← hsig, ul_at]
  have f2 : Fr (pb 37 42) σ σ2 := fun j k _ => by rw [e1]
  have K2 : CK K σ2 := by unfold CK; rw [e1]; exact hK
  have Y2 : CY Y σ2 := by unfold CY; rw [e1]; exact hY
  have S2 : CS K S 37 σ2 := by unfold CS; rw [e1]; exact hS
  generalize dq (nx (σ.2 0)) % cS K = w at hmw ⊢
  generalize dq (nx (nx (σ.2 0))) % 4 = y at hmy ⊢
  have hw := ok.1 w hmw
  rw [hasSet_y K2.2.2.1 hmw (by omega)]
  simp only [cr_some]
  rw [if_neg (by decide), ld_ok (by omega) (by decide), S2.2.1 w (by omega)]
  by_cases c1 : sW S w = 0
  · rw [c1, wI_0, if_pos rfl]
    by_cases c2 : y < wN Y
    · have hl := oky.2 y c2
      have hst := hl.2.2 0 (by omega)
      rw [has_y Y2.1 c2 (by omega)]
      simp only [cl_some, cr_some, pf_eq]
      rw [if_neg (by decide), show f_X10_placeAt N (nI y) 0 σ2 = _ from placeAt_y (i := 0) Y2 oky c2 (by omega)]
      simp only [cl_some, cr_some, pf_eq]
      rw [ld_ok (by omega) (by decide), S2.1 w hmw]
      by_cases c3 : wS Y y 0 = sP S w
      · have eT : drT K Y S w y = setW S w (y + 1) 1 := if_pos ⟨c2, c1, c3⟩
        rw [if_pos (by rw [c3]), eT]
        refine ⟨sg_up (sg_up σ2 (37 + 2) w (wI (y + 1))) (37 + 3) w (nI 1), ?_, CS_W S2, by rw [up_snd, up_snd, e2], f2.tr (Fr.tr (Fr.up (by unfold pb; omega)) (Fr.up (by unfold pb; omega)))⟩
        unfold f_X8_putTo
        rw [st_ok (by omega) (by decide), st_ok (by omega) (by decide), wI_s]
        rfl
      · have eT : drT K Y S w y = S := if_neg (fun h => c3 h.2.2)
        rw [if_neg (by rw [nJ_eq (by omega) (by omega)]; exact c3), eT]
        exact ⟨_, rfl, S2, e2, f2⟩
    · have eT : drT K Y S w y = S := if_neg (fun h => c2 h.1)
      rw [has_n Y2.1 (Or.inr (by rw [nJ_le (by omega) (by omega)]; omega)), eT]
      exact ⟨_, rfl, S2, e2, f2⟩
  · obtain ⟨b, hb⟩ : ∃ b, sW S w = b + 1 := ⟨sW S w - 1, by omega⟩
    have eT : drT K Y S w y = S := if_neg (fun h => c1 h.2.1)
    rw [eT, hb, wI_s, if_neg (by rw [nJ_ne_neg (by omega)]; exact id)]
    exact ⟨_, rfl, S2, e2, f2⟩
theorem drawPut_M {nx : Int64 → Int64} {dq : Int64 → Nat} {N : Nat} {K : Cty} {Y : Wys} {S1 : Sta} {τ τ1 : sgS} (hM : ∀ (N n : Nat) (σ : sgS), 1 ≤ n → n < 2147483648 → f_X12_draw N (nI n) σ = some (nI (dq (nx (σ.2 0)) % n), sg_ul σ 0 (nx (σ.2 0)))) (okk : okK K) (oky : okY Y) (hs : 1 ≤ cS K) (hK : MK K τ) (hY : MY Y τ) (m1 : MS K S1 (τ1.1 21)) (ok1 : okS K Y S1) (f1 : Fr p21 τ τ1) : ∃ τ', f_X12_drawDay_B33 N τ1 = some (0, τ') ∧ MS K (drP nx dq K Y S1 (τ1.2 0)).1 (τ'.1 21) ∧ τ'.2 0 = (drP nx dq K Y S1 (τ1.2 0)).2 ∧ Fr p21 τ τ' := by
  have hs4 := okk.2.2.1
  have hp7 := okk.1
  have hwn := oky.1
  have hM : ∀ (n : Nat) (σ : sgS), 1 ≤ n → n < 2147483648 → f_X12_draw N (nI n) σ = some (nI (dq (nx (σ.2 0)) % n), sg_ul σ 0 (nx (σ.2 0))) := fun n σ => hM N n σ
  have K1 : MK K τ1 := MK_fr hK (fun j h3 h9 => funext fun k => f1 j k (by unfold p21; omega)) (fun k h3 h9 => f1 0 k (by unfold p21; omega))
  have Y1 : MY Y τ1 := MY_fr hY (funext fun k => f1 19 k (by unfold p21; omega)) (funext fun k => f1 20 k (by unfold p21; omega)) (f1 0 33 (by unfold p21; omega))
  have hmw := Nat.mod_lt (dq (nx (τ1.2 0))) (show 0 < cS K by omega)
  have hmy := Nat.mod_lt (dq (nx (nx (τ1.2 0)))) (show 0 < 4 by decide)
  unfold f_X12_drawDay_B33 drP
  generalize f_X12_draw N = dr at hM ⊢
  rw [K1.2.2.1, hM _ _ hs (by omega)]
  simp only [cl_some]
  rw [show (4 : Int32) = nI 4 from rfl, hM _ _ (by decide) (by decide)]
  simp only [cl_some, cr_some, pf_eq]
  rw [ul_at]
  generalize hsig : sg_ul (sg_ul τ1 0 (nx (τ1.2 0))) 0 (nx (nx (τ1.2 0))) = τ2
  have e1 : τ2.1 = τ1.1 := by rw [← hsig]; rfl
  have e2 : τ2.2 0 = nx (nx (τ1.2 0)) := by rw [← hsig, ul_at]
  have f2 : Fr p21 τ τ2 := f1.tr (fun j k _ => by rw [e1])
  have K2 : MK K τ2 := by unfold MK; rw [e1]; exact K1
  have Y2 : MY Y τ2 := by unfold MY; rw [e1]; exact Y1
  have S2 : MS K S1 (τ2.1 21) := by rw [e1]; exact m1
  generalize dq (nx (τ1.2 0)) % cS K = w at hmw ⊢
  generalize dq (nx (nx (τ1.2 0))) % 4 = y at hmy ⊢
  have hw := ok1.1 w hmw
  by_cases c2 : y < wN Y
  · have hl := oky.2 y c2
    have hst := hl.2.2 0 (by omega)
    have e0 := (Y2.2 y c2).2 0 (by omega)
    rw [isWay_y Y2.1 c2 (by omega)]
    simp only [cr_some]
    rw [if_neg (by decide), nJ_Ladd, Nat.zero_add, ld_ok (by omega) (by decide), S2.1 w hmw]
    unfold f_X12_beginsAt
    rw [show (12 : Int32) = nI 12 from rfl, nJ_mul, ld_ok (by omega) (by decide), show 12 * y = 12 * y + 0 from rfl, e0]
    by_cases c3 : wS Y y 0 = sP S1 w
    · rw [if_pos (by rw [c3]), sg_nar1]
      simp only [cl_some, cr_some, pf_eq]
      rw [if_neg (by decide), nJ_add, ld_ok (by omega) (by decide), S2.2.1 w hmw]
      by_cases c1 : sW S1 w = 0
      · have eT : drT K Y S1 w y = setW S1 w (y + 1) 1 := if_pos ⟨c2, c1, c3⟩
        rw [c1, wI_0, if_pos rfl, eT]
        refine ⟨sg_up (sg_up τ2 21 (4 + w) (wI (y + 1))) 21 (8 + w) (nI 1), ?_, ?_, by rw [up_snd, up_snd, e2], f2.tr (Fr.tr (Fr.up (by unfold p21; omega)) (Fr.up (by unfold p21; omega)))⟩
        · unfold f_X12_putNow
          rw [nJ_Ladd, nJ_Ladd, st_ok (by omega) (by decide), st_ok (by omega) (by decide), wI_s]
          rfl
        · rw [row21, row21]; exact MS_W okk hmw S2
      · obtain ⟨b, hb⟩ : ∃ b, sW S1 w = b + 1 := ⟨sW S1 w - 1, by omega⟩
        have eT : drT K Y S1 w y = S1 := if_neg (fun h => c1 h.2.1)
        rw [eT, hb, wI_s, if_neg (by rw [nJ_ne_neg (by omega)]; exact id)]
        exact ⟨_, rfl, S2, e2, f2⟩
    · have eT : drT K Y S1 w y = S1 := if_neg (fun h => c3 h.2.2)
      rw [if_neg (by rw [nJ_eq (by omega) (by omega)]; exact c3), eT, sg_nar0]
      exact ⟨_, rfl, S2, e2, f2⟩
  · have eT : drT K Y S1 w y = S1 := if_neg (fun h => c2 h.1)
    rw [isWay_n Y2.1 (Or.inr (by rw [nJ_le (by omega) (by omega)]; omega)) (by omega), eT]
    exact ⟨_, rfl, S2, e2, f2⟩
theorem drawDay_M {nx : Int64 → Int64} {dq : Int64 → Nat} {N F : Nat} {K : Cty} {Y : Wys} {S : Sta} {τ : sgS} (hM : ∀ (N n : Nat) (σ : sgS), 1 ≤ n → n < 2147483648 → f_X12_draw N (nI n) σ = some (nI (dq (nx (σ.2 0)) % n), sg_ul σ 0 (nx (σ.2 0)))) (okk : okK K) (oky : okY Y) (hr : 1 ≤ cR K) (hs : 1 ≤ cS K) (hF : F ≤ 9) (eF : τ.1 0 37 = nI F) (hK : MK K τ) (hY : MY Y τ) (hS : MS K S (τ.1 21)) (ok : okS K Y S) : ∃ τ', f_X12_drawDay N τ = some (0, τ') ∧ MS K (drP nx dq K Y (drF nx dq K F S (τ.2 0)).1 (drF nx dq K F S (τ.2 0)).2).1 (τ'.1 21) ∧ τ'.2 0 = (drP nx dq K Y (drF nx dq K F S (τ.2 0)).1 (drF nx dq K F S (τ.2 0)).2).2 ∧ Fr p21 τ τ' := by
  have hr12 := okk.2.1
  have hs4 := okk.2.2.1
  have hp7 := okk.1
  have hwn := oky.1
  have hM2 : ∀ (n : Nat) (σ : sgS), 1 ≤ n → n < 2147483648 → f_X12_draw N (nI n) σ = some (nI (dq (nx (σ.2 0)) % n), sg_ul σ 0 (nx (σ.2 0))) := fun n σ => hM N n σ
  have hB : ∀ (S1 : Sta) (τ1 : sgS), MS K S1 (τ1.1 21) → okS K Y S1 → Fr p21 τ τ1 → ∃ τ', f_X12_drawDay_B33 N τ1 = some (0, τ') ∧ MS K (drP nx dq K Y S1 (τ1.2 0)).1 (τ'.1 21) ∧ τ'.2 0 = (drP nx dq K Y S1 (τ1.2 0)).2 ∧ Fr p21 τ τ' := fun S1 τ1 m1 ok1 f1 => drawPut_M hM okk oky hs hK hY m1 ok1 f1
  unfold f_X12_drawDay
  generalize f_X12_drawDay_B33 N = db at hB ⊢
  generalize f_X12_draw N = dr at hM2 ⊢
  rw [show (10 : Int32) = nI 10 from rfl, hM2 _ _ (by decide) (by decide)]
  simp only [cl_some]
  rw [ul_fst, eF]
  have hm := Nat.mod_lt (dq (nx (τ.2 0))) (show 0 < 10 by decide)
  by_cases c : F ≤ dq (nx (τ.2 0)) % 10
  · have eD : drF nx dq K F S (τ.2 0) = (S, nx (τ.2 0)) := if_pos c
    rw [eD, if_pos (by rw [nJ_le (by omega) (by omega)]; exact c)]
    have := hB S (sg_ul τ 0 (nx (τ.2 0))) hS ok Fr.ul
    rw [ul_at] at this
    exact this
  · have eD : drF nx dq K F S (τ.2 0) = (setX S (sX S ^^^ 2 ^ (dq (nx (nx (τ.2 0))) % cR K)), nx (nx (τ.2 0))) := if_neg c
    have hm2 := Nat.mod_lt (dq (nx (nx (τ.2 0)))) (show 0 < cR K by omega)
    rw [eD, if_neg (by rw [nJ_le (by omega) (by omega)]; exact c), ld_okL (by decide) (by decide), ul_fst, hK.2.1, hM2 _ _ hr (by omega)]
    simp only [cl_some, cr_some, pf_eq]
    rw [ul_at, shl_1 (by omega), hS.2.2.2.2.2.1, nI_xor, st_okL (by decide) (by decide)]
    have ok1 := (drF_ok (nx := nx) (dq := dq) (F := F) (x := τ.2 0) ok hr).1
    rw [eD] at ok1
    have := hB (setX S (sX S ^^^ 2 ^ (dq (nx (nx (τ.2 0))) % cR K))) (sg_up (sg_ul (sg_ul τ 0 (nx (τ.2 0))) 0 (nx (nx (τ.2 0)))) 21 31 (nI (sX S ^^^ 2 ^ (dq (nx (nx (τ.2 0))) % cR K)))) (by rw [row21]; exact MS_X okk hS) ok1 (Fr.tr (Fr.tr Fr.ul Fr.ul) (Fr.up (by unfold p21; omega)))
    rw [up_snd, ul_at] at this
    exact this
/-- what is drawn ahead of a day -/
def yrS (nx : Int64 → Int64) (dq : Int64 → Nat) (A : Abs) (x : Int64) : Sta × Int64 := drP nx dq (aK A) (aY A) (drF nx dq (aK A) (aF A) (aS A) x).1 (drF nx dq (aK A) (aF A) (aS A) x).2
def yrA (nx : Int64 → Int64) (dq : Int64 → Nat) (A : Abs) (x : Int64) : Abs × Int64 := (dA (uS (kP A) ((yrS nx dq A x).1, aG A)), (yrS nx dq A x).2)
def itY (nx : Int64 → Int64) (dq : Int64 → Nat) (A : Abs) (x : Int64) : Nat → Abs × Int64
  | 0 => (A, x)
  | n + 1 => yrA nx dq (itY nx dq A x n).1 (itY nx dq A x n).2
theorem yrS_ok {nx : Int64 → Int64} {dq : Int64 → Nat} {A : Abs} {x : Int64} (ok : okA A) (h0 : cP (aK A) ≠ 0) : okS (aK A) (aY A) (yrS nx dq A x).1 ∧ sD (yrS nx dq A x).1 = sD (aS A) := by
  have h1 := ok.2.1.2.2.2.2.1 h0
  obtain ⟨a1, a2⟩ := drF_ok (nx := nx) (dq := dq) (F := aF A) (x := x) (ok.2.2.2.2.2.1 h0) h1.2.1
  obtain ⟨b1, b2⟩ := drT_ok (w := dq (nx (drF nx dq (aK A) (aF A) (aS A) x).2) % cS (aK A)) (y := dq (nx (nx (drF nx dq (aK A) (aF A) (aS A) x).2)) % 4) ok.2.2.2.1 a1 (Nat.mod_lt _ (by omega))
  exact ⟨b1, b2.trans a2⟩
theorem yr_pre {nx : Int64 → Int64} {dq : Int64 → Nat} {A : Abs} {x : Int64} (ok : okA A) (h0 : cP (aK A) ≠ 0) (hd : sD (aS A) < 999) : okA (uS (kP A) ((yrS nx dq A x).1, aG A)) ∧ preD (uS (kP A) ((yrS nx dq A x).1, aG A)) ∧ sD (aS (uS (kP A) ((yrS nx dq A x).1, aG A))) < 999 := by
  obtain ⟨y1, y2⟩ := yrS_ok (nx := nx) (dq := dq) (x := x) ok h0
  refine ⟨now_ok (A := kP A) (kP_ok ok h0) h0 y1 y2, ⟨(kP_pre ok).1, (kP_pre ok).2.trans ?_⟩, ?_⟩
  · exact y2.symm
  · show sD (yrS nx dq A x).1 < 999; omega
theorem itY_ok {nx : Int64 → Int64} {dq : Int64 → Nat} {A : Abs} {x : Int64} (ok : okA A) (h0 : cP (aK A) ≠ 0) : ∀ n, sD (aS A) + n ≤ 999 → okA (itY nx dq A x n).1 ∧ aK (itY nx dq A x n).1 = aK A ∧ sD (aS (itY nx dq A x n).1) = sD (aS A) + n := by
  intro n
  induction n with
  | zero => intro _; exact ⟨ok, rfl, rfl⟩
  | succ n ih =>
    intro hn
    obtain ⟨i1, i2, i3⟩ := ih (by omega)
    have h1 : cP (aK (itY nx dq A x n).1) ≠ 0 := by rw [i2]; exact h0
    obtain ⟨p1, p2, p3⟩ := yr_pre (nx := nx) (dq := dq) (x := (itY nx dq A x n).2) i1 h1 (by omega)
    refine ⟨dA_ok p1 h1 p2 p3, i2, ?_⟩
    show sD (aS (dA (uS (kP (itY nx dq A x n).1) ((yrS nx dq (itY nx dq A x n).1 (itY nx dq A x n).2).1, aG (itY nx dq A x n).1)))) = _
    rw [dA_day p1 h1]
    show sD (yrS nx dq (itY nx dq A x n).1 (itY nx dq A x n).2).1 + 1 = _
    rw [(yrS_ok (nx := nx) (dq := dq) i1 h1).2]; omega
theorem lw_O16_ok : lw_O16 Rel := by
  intro a1 a2 a3
  obtain ⟨nx, dq, hC, hM⟩ : ∃ (nx : Int64 → Int64) (dq : Int64 → Nat), (∀ (N n : Nat) (σ : sgS), 1 ≤ n → n < 2147483648 → f_X11_draw N (nI n) σ = some (nI (dq (nx (σ.2 0)) % n), sg_ul σ 0 (nx (σ.2 0)))) ∧ (∀ (N n : Nat) (σ : sgS), 1 ≤ n → n < 2147483648 → f_X12_draw N (nI n) σ = some (nI (dq (nx (σ.2 0)) % n), sg_ul σ 0 (nx (σ.2 0)))) := ⟨nxt, drq, fun _ _ _ h0 hn => draw_C h0 hn, fun _ _ _ h0 hn => draw_M h0 hn⟩
  generalize (((a2).toInt64 <<< 32) ||| ((a3).toInt64 &&& 4294967295)) = seed
  refine rw_eq (fun A σ τ ok C M => ⟨10000, 10000, ?_⟩)
  have gC := RelC_iff.mp C
  have gM := RelM_iff.mp M
  have hp : cP (aK A) ≤ 7 := ok.2.1.1
  have hd9 : sD (aS A) ≤ 999 := ok.2.2.2.2.2.2.2.1
  have eC : CK (aK A) σ := gC.2.1
  have eM : MK (aK A) τ := gM.2.1
  have no : ∃ r σ' τ' A', (some ((-1 : Int32), σ)) = some (r, σ') ∧ (some ((-1 : Int32), τ)) = some (r, τ') ∧ okA A' ∧ RelC A' σ' ∧ RelM A' τ' := ⟨-1, σ, τ, A, rfl, rfl, ok, C, M⟩
  unfold f_X11_years f_X12_years
  by_cases h0 : cP (aK A) = 0
  · rw [isTold_n (by rw [eC.1, h0]), if_pos (show τ.1 0 28 = 0 from by rw [eM.1, h0]; rfl)]
    exact no
  · rw [isTold_y eC.1 h0 (by omega), if_neg (show ¬ τ.1 0 28 = 0 from by rw [eM.1, eq0_F (by omega) (by omega)]; exact id)]
    simp only [cr_some]
    rw [if_neg (by decide)]
    have e37 : σ.1 37 7 = nI (sD (aS A)) := gC.2.2.2.2.1.2.1
    have e33 : τ.1 21 33 = nI (sD (aS A)) := gM.2.2.2.2.1.2.1
    rw [show (60 : Int32) = nI 60 from rfl]
    unfold f_X12_areDays
    rw [show (60 : Int32) = nI 60 from rfl]
    rcases rng1 a1 60 (by decide) with ⟨k, hk1, hk2, rfl⟩ | h
    · rw [in_1y hk1 hk2 (by decide), e37, ld_okL (by decide) (by decide), e33, nJ_add]
      by_cases hc : sD (aS A) + k ≤ 999
      · simp (disch := omega) only [cr_some, cl_some, lb_inr, lb_inl, pf_eq, pl_eq, nz_4, nz_7, nz_2, nz_40, nz_100, sg_nar0, sg_nar1, lt_T, lt_F, le_T, le_F, eq_T, eq_F, ltL_T, ltL_F, leL_T, leL_F, eqL_T, eqL_F, Llt_T, Llt_F, Lle_T, Lle_F, Leq_T, Leq_F, n10_F, n01_F, le0_F, lt0_T, le0_T, eq0_F, lt1_F, nJ_not_neg, nJ_ne_neg, nJ_neg_lt, nJ_neg_le, nJ_le_neg, ↓reduceIte, ld_ok, st_ok, rf_ok, ld_okL, st_okL, nJ_add, nJ_addL, nJ_Ladd, nJ_mul, nJ_mulL, nJ_Lmul]
        have Cs : RelC A (sg_ul σ 0 seed) := RelC_fr ok.2.2.2.2.2.2.1.1 C Fr.ul ok.2.2.1.1 ok.2.2.2.1.1
        have Ms : RelM A (sg_ul τ 0 seed) := RelM_fr M Fr.ul
        obtain ⟨σ', e1, C1, -⟩ := lp_st (b := fun x : sgS × Int32 => f_X11_years_L46 10000 (nI k) seed x.2 x.1) (n := k) (fun i s => RelC (itY nx dq A seed i).1 s ∧ s.2 0 = (itY nx dq A seed i).2) (by
          rintro i s hi ⟨C2, L2⟩
          obtain ⟨i1, i2, i3⟩ := itY_ok (nx := nx) (dq := dq) (x := seed) ok h0 i (by omega)
          rw [show itY nx dq A seed (i + 1) = yrA nx dq (itY nx dq A seed i).1 (itY nx dq A seed i).2 from rfl]
          generalize itY nx dq A seed i = Ax at *
          have h1 : cP (aK Ax.1) ≠ 0 := by rw [i2]; exact h0
          have hb := i1.2.1.2.2.2.2.1 h1
          obtain ⟨s1, g1, C3⟩ := remember_ok (N := 10000) i1 h1 C2
          have l1 : s1.2 0 = Ax.2 := by rw [← L2]; exact congrFun (k2_X6_remember (N := 10000) (p1 := 37) rfl (0, s1) g1) 0
          have g3 := RelC_iff.mp C3
          obtain ⟨p1, p2, p3⟩ := yr_pre (nx := nx) (dq := dq) (x := Ax.2) i1 h1 (by omega)
          obtain ⟨y1, y2⟩ := yrS_ok (nx := nx) (dq := dq) (x := Ax.2) i1 h1
          have oF := drF_ok (nx := nx) (dq := dq) (F := aF Ax.1) (x := Ax.2) (i1.2.2.2.2.2.1 h1) hb.2.1
          obtain ⟨s2, g2, S2, L3, f2⟩ := drawFlood_C (N := 10000) (F := aF Ax.1) hC i1.2.1 hb.2.1 i1.2.2.2.2.2.2.2.2.2.2 g3.2.2.2.2.2.2.2.2.1 g3.2.1 (g3.2.2.2.2.1.1 h1)
          rw [l1] at S2 L3
          have K2 : CK (aK Ax.1) s2 := CK_fr g3.2.1 (fun j a b => funext fun q => f2 j q (by unfold pb; omega))
          have Y2 : CY (aY Ax.1) s2 := CY_fr g3.2.2.2.1 i1.2.2.2.1.1 (fun j a b => funext fun q => f2 j q (by unfold pb; omega))
          obtain ⟨s3, g4, S3, L4, f3⟩ := drawPut_C (N := 10000) hC i1.2.1 i1.2.2.2.1 hb.2.2.1 K2 Y2 S2 oF.1
          rw [L3] at S3 L4
          have C4 : RelC (uS (kP Ax.1) ((yrS nx dq Ax.1 Ax.2).1, aG Ax.1)) s3 := now_C (A := kP Ax.1) (kP_ok i1 h1) C3 (f2.tr f3) S3 y2
          obtain ⟨s4, g5, C5⟩ := passDay_C (N := 10000) (by decide) p1 h1 p3 C4
          have l5 : s4.2 0 = (yrS nx dq Ax.1 Ax.2).2 := (congrFun (k2_X11_passDay (N := 10000) rfl (0, s4) g5) 0).trans L4
          refine ⟨s4, ?_, C5, l5⟩
          show f_X11_years_L46 10000 (nI k) seed (nI i) s = _
          unfold f_X11_years_L46
          generalize f_X6_remember 10000 37 = q1 at g1 ⊢
          generalize f_X11_drawFlood 10000 = q2 at g2 ⊢
          generalize f_X11_drawPut 10000 = q3 at g4 ⊢
          generalize f_X11_passDay 10000 = q4 at g5 ⊢
          simp (disch := omega) only [cr_some, cl_some, lb_inr, lb_inl, pf_eq, pl_eq, nz_4, nz_7, nz_2, nz_40, nz_100, sg_nar0, sg_nar1, lt_T, lt_F, le_T, le_F, eq_T, eq_F, ltL_T, ltL_F, leL_T, leL_F, eqL_T, eqL_F, Llt_T, Llt_F, Lle_T, Lle_F, Leq_T, Leq_F, n10_F, n01_F, le0_F, lt0_T, le0_T, eq0_F, lt1_F, nJ_not_neg, nJ_ne_neg, nJ_neg_lt, nJ_neg_le, nJ_le_neg, ↓reduceIte, ld_ok, st_ok, rf_ok, ld_okL, st_okL, nJ_add, nJ_addL, nJ_Ladd, nJ_mul, nJ_mulL, nJ_Lmul, g1, g2, g4, g5]) (by
          intro s _
          show f_X11_years_L46 10000 (nI k) seed (nI k) s = _
          unfold f_X11_years_L46
          rw [if_pos (by rw [nJ_le (by omega) (by omega)]; omega)]) 10000 0 (sg_ul σ 0 seed) (by omega) (by omega) ⟨Cs, ul_at⟩
        obtain ⟨τ', e2, M1, -⟩ := lp_st (b := fun x : sgS × Int32 => f_X12_years_L25 10000 (nI k) seed x.2 x.1) (n := k) (fun i s => RelM (itY nx dq A seed i).1 s ∧ s.2 0 = (itY nx dq A seed i).2) (by
          rintro i s hi ⟨M2, L2⟩
          obtain ⟨i1, i2, i3⟩ := itY_ok (nx := nx) (dq := dq) (x := seed) ok h0 i (by omega)
          rw [show itY nx dq A seed (i + 1) = yrA nx dq (itY nx dq A seed i).1 (itY nx dq A seed i).2 from rfl]
          generalize itY nx dq A seed i = Ax at *
          have h1 : cP (aK Ax.1) ≠ 0 := by rw [i2]; exact h0
          have hb := i1.2.1.2.2.2.2.1 h1
          obtain ⟨s1, g1, M3⟩ := keep_ok (N := 10000) (by decide) i1 h1 M2
          have l1 : s1.2 0 = Ax.2 := by rw [← L2]; exact congrFun (k2_X12_keep (N := 10000) rfl (0, s1) g1) 0
          have g3 := RelM_iff.mp M3
          obtain ⟨p1, p2, p3⟩ := yr_pre (nx := nx) (dq := dq) (x := Ax.2) i1 h1 (by omega)
          obtain ⟨y1, y2⟩ := yrS_ok (nx := nx) (dq := dq) (x := Ax.2) i1 h1
          obtain ⟨s2, g2, S2, L3, f2⟩ := drawDay_M (N := 10000) (F := aF Ax.1) hM i1.2.1 i1.2.2.2.1 hb.2.1 hb.2.2.1 i1.2.2.2.2.2.2.2.2.2.2 g3.2.2.2.2.2.2.2.2.1 g3.2.1 g3.2.2.2.1 (g3.2.2.2.2.1.1 h1) (i1.2.2.2.2.2.1 h1)
          rw [l1] at S2 L3
          have M4 : RelM (uS (kP Ax.1) ((yrS nx dq Ax.1 Ax.2).1, aG Ax.1)) s2 := now_M (A := kP Ax.1) M3 f2 S2 y2
          obtain ⟨s4, g5, M5⟩ := passDay_M (N := 10000) (by decide) p1 h1 p3 M4
          have l5 : s4.2 0 = (yrS nx dq Ax.1 Ax.2).2 := (congrFun (k2_X12_passDay (N := 10000) rfl (0, s4) g5) 0).trans L3
          refine ⟨s4, ?_, M5, l5⟩
          show f_X12_years_L25 10000 (nI k) seed (nI i) s = _
          unfold f_X12_years_L25
          generalize f_X12_keep 10000 = q1 at g1 ⊢
          generalize f_X12_drawDay 10000 = q2 at g2 ⊢
          generalize f_X12_passDay 10000 = q4 at g5 ⊢
          simp (disch := omega) only [cr_some, cl_some, lb_inr, lb_inl, pf_eq, pl_eq, nz_4, nz_7, nz_2, nz_40, nz_100, sg_nar0, sg_nar1, lt_T, lt_F, le_T, le_F, eq_T, eq_F, ltL_T, ltL_F, leL_T, leL_F, eqL_T, eqL_F, Llt_T, Llt_F, Lle_T, Lle_F, Leq_T, Leq_F, n10_F, n01_F, le0_F, lt0_T, le0_T, eq0_F, lt1_F, nJ_not_neg, nJ_ne_neg, nJ_neg_lt, nJ_neg_le, nJ_le_neg, ↓reduceIte, ld_ok, st_ok, rf_ok, ld_okL, st_okL, nJ_add, nJ_addL, nJ_Ladd, nJ_mul, nJ_mulL, nJ_Lmul, g1, g2, g5]) (by
          intro s _
          show f_X12_years_L25 10000 (nI k) seed (nI k) s = _
          unfold f_X12_years_L25
          rw [if_pos (by rw [nJ_le (by omega) (by omega)]; omega)]) 10000 0 (sg_ul τ 0 seed) (by omega) (by omega) ⟨Ms, ul_at⟩
        refine ⟨nI (sD (aS (itY nx dq A seed k).1)), σ', τ', (itY nx dq A seed k).1, ?_, ?_, (itY_ok (nx := nx) (dq := dq) ok h0 k hc).1, C1, M1⟩
        · have e1 : sg_lp (fun x : sgS × Int32 => f_X11_years_L46 10000 (nI k) seed x.2 x.1) 10000 ((sg_ul σ 0 seed, 0)) = _ := e1
          rw [e1]
          simp only [lb_inr]
          rw [show σ'.1 37 7 = nI (sD (aS (itY nx dq A seed k).1)) from (RelC_iff.mp C1).2.2.2.2.1.2.1]
        · have e2 : sg_lp (fun x : sgS × Int32 => f_X12_years_L25 10000 (nI k) seed x.2 x.1) 10000 ((sg_ul τ 0 seed, 0)) = _ := e2
          rw [e2]
          simp only [lb_inr]
          rw [show τ'.1 21 33 = nI (sD (aS (itY nx dq A seed k).1)) from (RelM_iff.mp M1).2.2.2.2.1.2.1]
      · simp (disch := omega) only [cr_some, cl_some, lb_inr, lb_inl, pf_eq, pl_eq, nz_4, nz_7, nz_2, nz_40, nz_100, sg_nar0, sg_nar1, lt_T, lt_F, le_T, le_F, eq_T, eq_F, ltL_T, ltL_F, leL_T, leL_F, eqL_T, eqL_F, Llt_T, Llt_F, Lle_T, Lle_F, Leq_T, Leq_F, n10_F, n01_F, le0_F, lt0_T, le0_T, eq0_F, lt1_F, nJ_not_neg, nJ_ne_neg, nJ_neg_lt, nJ_neg_le, nJ_le_neg, ↓reduceIte, ld_ok, st_ok, rf_ok, ld_okL, st_okL, nJ_add, nJ_addL, nJ_Ladd, nJ_mul, nJ_mulL, nJ_Lmul]
        exact no
    · rw [in_1n h]
      simp only [cr_some, ↓reduceIte]
      by_cases h1 : a1 < 1
      · rw [if_pos h1]; exact no
      · rw [if_neg h1, if_pos (h.resolve_left h1)]; exact no
