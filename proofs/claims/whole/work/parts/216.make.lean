/-! CONSTRUCTORS: cells come one behind another, cell j at the address base + j; the shape grows -/
theorem sg_AOA_spec {u : State} {ty : FieldType} (h : va_AOA ty u) : ∃ comp c k, u.vm.findClass (FieldType.array ty).toString = some comp ∧ (u.vm.classes.findIdx? fun (x : Class) => match x.kind with | .array component _ => component == comp | _ => false) = some c ∧ u.vm.classes[c]? = some k ∧ k.kind = .array comp (.array ty) ∧ u.vm.findClass ("[" ++ (FieldType.array ty).toString) = some c := by
  unfold va_AOA Cond.before at h
  simp only [Cond.holds, Cond.value, beq_iff_eq] at h
  cases hc : u.vm.findClass (FieldType.array ty).toString with
  | none => simp [hc] at h
  | some comp =>
    simp only [hc, Option.bind_some, Option.bind_eq_some_iff, Option.map_eq_some_iff] at h
    obtain ⟨c, hi, k, hk, hb⟩ := h
    obtain ⟨hlt, hp, -⟩ := Array.findIdx?_eq_some_iff_getElem.mp hi
    have hkk : u.vm.classes[c] = k := (Array.getElem?_eq_some_iff.mp hk).2
    rw [hkk] at hp
    cases hkind : k.kind with
    | array component ty =>
      rw [hkind] at hb hp
      simp at hb hp
      exact ⟨comp, c, k, rfl, hi, hk, by rw [hkind, hp, hb.1], hb.2⟩
    | _ => rw [hkind] at hb; simp at hb
theorem sg_idx_bare (vm : Vm) (comp : ClassId) : (vm.bare.classes.findIdx? fun (x : Class) => match x.kind with | .array component _ => component == comp | _ => false) = (vm.classes.findIdx? fun (x : Class) => match x.kind with | .array component _ => component == comp | _ => false) := by
  simp only [Vm.bare, Array.findIdx?_map]
  rfl
theorem sg_arrV_congr {cA : ClassId} {N : Nat} {f g : Nat → Value} (h : ∀ j, j < N → f j = g j) : arrV cA N f = arrV cA N g := by
  unfold arrV
  congr 1
  apply Array.ext
  · simp
  · intro i h1 h2
    have hi : i < N := by simpa using h1
    simpa using h i hi
theorem sg_AOA_moved {ty : FieldType} {u U : State} (hvm : u.vm.Alike U.vm) (h : va_AOA ty u) : va_AOA ty U := by
  obtain ⟨comp, c, k, h1, h2, h3, h4, h5⟩ := sg_AOA_spec h
  obtain ⟨k', hk', he⟩ := hvm.2.2 _ _ h3
  have hi : (U.vm.classes.findIdx? fun (x : Class) => match x.kind with | .array component _ => component == comp | _ => false) = some c := by
    rw [← sg_idx_bare]
    first | rw [hvm.bare_eq] | rw [← hvm.bare_eq]
    rw [sg_idx_bare]
    exact h2
  have hkind : k'.kind = .array comp (.array ty) := by rw [he]; exact h4
  have f1 : U.vm.findClass (FieldType.array ty).toString = some comp := by rw [hvm.findClass]; exact h1
  have f2 : U.vm.findClass ("[" ++ (FieldType.array ty).toString) = some c := by rw [hvm.findClass]; exact h5
  unfold va_AOA Cond.before Cond.holds
  simp only [Cond.value]
  rw [f1, Option.bind_some]
  refine (congrArg (fun o : Option Nat => (o.bind (fun c => (U.vm.classes[c]?).map fun (k : Class) => match k.kind with | .array _ ty' => decide (ty' = FieldType.array ty) && decide (U.vm.findClass ("[" ++ (FieldType.array ty).toString) = some c) | _ => false) == some true)) hi).trans ?_
  simp [hk', hkind, f2]
section SZP
variable {p : Program} {l : Launch} {e : Env} {R : Room} {s : State} {m : MethodId} {args : Array Value} {below : List Frame} {meth : Method} {c : Code} {H : Heap} {locs : List Loc} {cells slots : Nat} {Q : State → Prop}
variable {cc : ByteArray} {pc : Nat} {ls : Array Slot} {rest : List Value} {D : va_G} {cl : List vw_C} {A : Nat → Prop} {a : Nat} {tys : List (ClassId × FieldType)} {ws : va_W} {H0 : Heap}
/-! the kit's stores (va_put, va_putF, va_astq), turned: the heap keeps its size -/
theorem sz_put (hexec : p.tables.exec = Jvm.exec) (hb : c.code = cc) {own ref C : String} {T : u_T} {N ci index : Nat} {Ts : List Cond} (hts : ∀ w ∈ Ts, w.before args s = true) (hin : ∀ w ∈ u_ws C T N, w ∈ Ts) (ty0 : Nat → FieldType) (hty : ∀ k, k < N → parseFieldDescriptor (T k).2.2.1 = some (ty0 k)) (hnm : ∀ a, a < N → ∀ b, b < N → a ≠ b → (T a).2.1 ≠ (T b).2.1) (hown : s.vm.findClass own = some m.cls) (hK : va_K D cl tys s) (hP : va_P D cl ws H) (hD : va_D A ws) (hS0 : va_S A H0 H locs) (q0 : Nat) {fs : List Value} (he : ws[q0]? = some (a, .inr (ci, fs))) (hc : cl[ci]? = some (C, T, N)) (k : Nat) (hk : k < N) (hlink : (Cond.fieldLink own index ref (T k).2.1 (T k).2.2.1).before args s = true) (hsame : ∀ x, s.fieldFound? (T k).1 (T k).2.1 (T k).2.2.1 = some x → s.fieldFound? ref (T k).2.1 (T k).2.2.1 = some x) (hfin : (T k).2.2.2 = false) {ty : FieldType} {v : Value} (hd : parseFieldDescriptor (T k).2.2.1 = some ty) (hn : narrow ty v = v) (hfit : fits ty v = true) (hl : k < fs.length)
    (hdg : decode cc pc = .ok (.putfield index, 3)) (kk : ∀ (H1 : Heap) (locs1 : List Loc), H1.size = H.size → va_P D cl (ws.set q0 (a, .inr (ci, fs.set k v))) H1 → va_D A (ws.set q0 (a, .inr (ci, fs.set k v))) → va_S A H0 H1 locs1 → W p l e R s m args below meth c H1 locs1 cells slots Q (F0 m (pc + 3) ls rest)) : W p l e R s m args below meth c H locs cells slots Q (F0 m pc ls (v :: .ref a :: rest)) := by
  have hap := va_apart (own := own) hts hin ty0 hty hnm hK hc
  obtain ⟨r, h1, cell, q1, q2, q3, q4⟩ := hP q0 _ he
  have hr : r = (C, T, N) := Option.some.inj (h1.symm.trans hc)
  subst hr
  obtain ⟨hS, hfc, kC, hkC, hkind⟩ := hK.1 ci _ hc
  obtain ⟨cf, kf, fi, f, hi, hsl⟩ := hS k hk
  have hlay := hts _ (hin _ (u_in_lay hk))
  unfold u_lay at hlay
  rw [if_neg (by rw [hfin]; decide)] at hlay
  have hst := (u_facts hfc hkC (u_lays hts hin hk) hi).1
  have h6 := u_store hfc hkC hkind hlay hi hd hn hfit
  refine W.putK hexec hb (f := f) ⟨hown, hlink, ⟨_, _, _, hsame _ hi⟩, hst⟩ (by rw [q2]; exact h6) q1 q3 (by rw [hsl]; exact k2_hasslot (q4 k hk)) rfl rfl hdg fun H' e1 e2 e3 => ?_
  rw [hsl] at e1 ⊢
  exact kk H' _ e2 (hP.set hD he ⟨_, hc, t_OB.to (V := updV (vp_V fs) k v) ⟨_, e1, q2, q3, t_set q4 hap hk v⟩ (fun j _ => vp_updV_set hl v j)⟩ e3) (hD.set he) (hS0.put e2 e3 (hD.2 q0 _ he))
theorem sz_putF (hexec : p.tables.exec = Jvm.exec) (hb : c.code = cc) {own ref C : String} {T : u_T} {N ci index : Nat} {Ts : List Cond} (hts : ∀ w ∈ Ts, w.before args s = true) (hin : ∀ w ∈ u_ws C T N, w ∈ Ts) (ty0 : Nat → FieldType) (hty : ∀ k, k < N → parseFieldDescriptor (T k).2.2.1 = some (ty0 k)) (hnm : ∀ a, a < N → ∀ b, b < N → a ≠ b → (T a).2.1 ≠ (T b).2.1) (hown : s.vm.findClass own = some m.cls) (hK : va_K D cl tys s) (hP : va_P D cl ws H) (hD : va_D A ws) (hS0 : va_S A H0 H locs) (q0 : Nat) {fs : List Value} (he : ws[q0]? = some (a, .inr (ci, fs))) (hc : cl[ci]? = some (C, T, N)) (k : Nat) (hk : k < N) (hlink : (Cond.fieldLink own index ref (T k).2.1 (T k).2.2.1).before args s = true) (hsame : ∀ x, s.fieldFound? (T k).1 (T k).2.1 (T k).2.2.1 = some x → s.fieldFound? ref (T k).2.1 (T k).2.2.1 = some x) (hfin : (T k).2.2.2 = true) (hin2 : meth.name = "<init>") (hdecl : (T k).1 = own) {ty : FieldType} {v : Value} (hd : parseFieldDescriptor (T k).2.2.1 = some ty) (hn : narrow ty v = v) (hfit : fits ty v = true) (hl : k < fs.length)
    (hdg : decode cc pc = .ok (.putfield index, 3)) (kk : ∀ (H1 : Heap) (locs1 : List Loc), H1.size = H.size → va_P D cl (ws.set q0 (a, .inr (ci, fs.set k v))) H1 → va_D A (ws.set q0 (a, .inr (ci, fs.set k v))) → va_S A H0 H1 locs1 → W p l e R s m args below meth c H1 locs1 cells slots Q (F0 m (pc + 3) ls rest)) : W p l e R s m args below meth c H locs cells slots Q (F0 m pc ls (v :: .ref a :: rest)) := by
  have hap := va_apart (own := own) hts hin ty0 hty hnm hK hc
  obtain ⟨r, h1, cell, q1, q2, q3, q4⟩ := hP q0 _ he
  have hr : r = (C, T, N) := Option.some.inj (h1.symm.trans hc)
  subst hr
  obtain ⟨hS, hfc, kC, hkC, hkind⟩ := hK.1 ci _ hc
  obtain ⟨cf, kf, fi, f, hi, hsl⟩ := hS k hk
  have hlay := hts _ (hin _ (u_in_lay hk))
  unfold u_lay at hlay
  rw [if_pos hfin] at hlay
  have hst := (u_facts hfc hkC (u_lays hts hin hk) hi).1
  have hcf : m.cls = cf := by
    obtain ⟨_, _, c', _, _, _, -, -, hf', -, -, -, hown2, -⟩ := Cond.laysFinal_spec hlay
    have e1 : c' = cf := by have := hi.symm.trans hf'; simp at this; exact this.1.symm
    rw [hdecl] at hown2
    rw [← e1]; exact Option.some.inj (hown.symm.trans hown2)
  have h6 := u_fits hfc hkC hkind (Or.inr hlay) hi hd hn hfit
  refine W.putFinK hexec hb hown hlink (hsame _ hi) hst hcf hin2 (by rw [q2]; exact h6) q1 q3 (by rw [hsl]; exact k2_hasslot (q4 k hk)) rfl rfl hdg fun H' e1 e2 e3 => ?_
  rw [hsl] at e1 ⊢
  exact kk H' _ e2 (hP.set hD he ⟨_, hc, t_OB.to (V := updV (vp_V fs) k v) ⟨_, e1, q2, q3, t_set q4 hap hk v⟩ (fun j _ => vp_updV_set hl v j)⟩ e3) (hD.set he) (hS0.put e2 e3 (hD.2 q0 _ he))
theorem sz_astq (hexec : p.tables.exec = Jvm.exec) (hb : c.code = cc) (hK : va_K D cl tys s) (hP : va_P D cl ws H) (hD : va_D A ws) (hS : va_S A H0 H locs) (q0 t0 qk ci : Nat) {cA : ClassId} {r : vw_C} {n v : Nat} {vs : List Value} {f : Nat → Option Nat} (ha : ws[q0]? = some (a, .inl (cA, n, .inr (.inr (.inr (.inr f)))))) (ht : tys[t0]? = some (cA, .object r.1)) (hv : ws[qk]? = some (v, .inr (ci, vs))) (hc : cl[ci]? = some r) {i : Int32} (hin : vp_in i n) (hdg : decode cc pc = .ok (.aastore, 1))
    (kk : ∀ (H1 : Heap) (locs1 : List Loc), H1.size = H.size → va_P D cl (ws.set q0 (a, .inl (cA, n, .inr (.inr (.inr (.inr (va_up f i.toNatClampNeg (some v)))))))) H1 → va_D A (ws.set q0 (a, .inl (cA, n, .inr (.inr (.inr (.inr (va_up f i.toNatClampNeg (some v)))))))) → va_S A H0 H1 locs1 → W p l e R s m args below meth c H1 locs1 cells slots Q (F0 m (pc + 1) ls rest)) : W p l e R s m args below meth c H locs cells slots Q (F0 m pc ls (.ref v :: .int i :: .ref a :: rest)) := by
  have hlt : i.toNatClampNeg < n := Nat.not_le.mp fun q => hin (Or.inr q)
  have h0 : ¬ i < 0 := fun q => hin (Or.inl q)
  obtain ⟨r', hr', cellV, g1, g2, g3, -⟩ := hP qk _ hv
  have hcls := (hK.1 ci r hc).2
  obtain ⟨kA, comp, k1, k2, k3, -⟩ := (hK.2 t0 _ ht).2
  have hcomp : comp = D.1 ci := Option.some.inj (k3.symm.trans hcls.1)
  subst hcomp
  obtain ⟨kC, hkC, -⟩ := hcls.2
  refine W.aast hexec hb (hP q0 _ ha) (fun q h => by cases h) (fun h => by cases h) k1 k2 rfl hkC ⟨h0, by show _ < (arrV _ _ _).slots.size; rw [arrV_size]; exact hlt⟩ g1 (fun q h => by rw [g3] at h; cases h) (by rw [g2]; exact hkC) (by rw [g2]; exact va_assign hcls) rfl rfl hdg fun H1 e z oq => ?_
  refine kk H1 _ z (hP.set hD ha ?_ oq) (hD.set ha) (hS.put z oq (hD.2 q0 _ ha))
  show H1[a]? = some (vp_cell _ _)
  rw [e]
  rw [vp_cell_q, vp_cell_q, arrV_store]
  congr 2
  funext q
  by_cases hq : q = i.toNatClampNeg
  · subst hq
    simp [updV, va_up, va_rf]
  · simp [updV, va_up, hq]
end SZP
def sg_AO (U : State) : Prop := va_AO "RoadWheels$State" U ∧ va_AOA .int U
def sg_su (sh : Nat → sgE) (i : Nat) (x : sgE) : Nat → sgE := fun q => if q = i then x else sh q
theorem sg_su_at {sh : Nat → sgE} {i : Nat} {x : sgE} : sg_su sh i x i = x := if_pos rfl
theorem sg_su_ne {sh : Nat → sgE} {i j : Nat} {x : sgE} (h : j ≠ i) : sg_su sh i x j = sh j := if_neg h
theorem sg_w_congr {P : sgP} {sh sh' : Nat → sgE} {n : Nat} {σ : sgS} (h : ∀ j, j < n → sh j = sh' j) : sg_w P sh n σ = sg_w P sh' n σ := by
  apply List.ext_getElem?
  intro j
  by_cases hj : j < n
  · rw [sg_at hj, sg_at hj]
    unfold sg_ent
    rw [h j hj]
  · rw [sg_no hj, sg_no hj]
theorem sg_w_push {P : sgP} {sh : Nat → sgE} {n : Nat} {σ : sgS} {x : sgE} : sg_w P (sg_su sh n x) (n + 1) σ = sg_w P sh n σ ++ [(sgA P n, sg_ent P (sg_su sh n x) σ n)] := by
  rw [sg_w_congr (sh := sh) (sh' := sg_su sh n x) (n := n) (fun j hj => (sg_su_ne (Nat.ne_of_lt hj)).symm)]
  unfold sg_w
  rw [List.range_succ, List.map_append]
  rfl
theorem sg_D_of {P : sgP} {sh : Nat → sgE} {n base : Nat} {σ : sgS} {A : Nat → Prop} (hb : ∀ j, sgA P j = base + j) (hA : ∀ j, j < n → A (sgA P j)) : va_D A (sg_w P sh n σ) := by
  refine ⟨fun i j a b hi hj hab => ?_, fun k q hk => ?_⟩
  · by_cases h1 : i < n
    · by_cases h2 : j < n
      · rw [sg_at h1] at hi
        rw [sg_at h2] at hj
        cases hi
        cases hj
        have h9 : sgA P i = sgA P j := hab
        rw [hb, hb] at h9
        omega
      · rw [sg_no h2] at hj; cases hj
    · rw [sg_no h1] at hi; cases hi
  · by_cases h1 : k < n
    · rw [sg_at h1] at hk
      cases hk
      exact hA k h1
    · rw [sg_no h1] at hk; cases hk
theorem sg_fl_setv {ad : Nat → Nat} {f : Nat → Int32} {L : Int64} : ∀ (ks : List Nat) (k0 k t : Nat), k < ks.length → (sg_fl ad f L k0 ks).set k (sg_fv ad f L (k0 + k) t) = sg_fl ad f L k0 (ks.set k t) := by
  intro ks
  induction ks with
  | nil => intro k0 k t h; simp at h
  | cons a ks ih =>
    intro k0 k t h
    cases k with
    | zero => rfl
    | succ k =>
      show (sg_fv ad f L k0 a :: sg_fl ad f L (k0 + 1) ks).set (k + 1) _ = sg_fv ad f L k0 a :: sg_fl ad f L (k0 + 1) (ks.set k t)
      rw [List.set_cons_succ, ← ih (k0 + 1) k t (by simpa using h), show k0 + 1 + k = k0 + (k + 1) by omega]
/-- what is so between two instructions of a constructor: n cells, the heap ends behind them; what comes is 0 -/
def sg_J (P : sgP) (sh : Nat → sgE) (n : Nat) (A : Nat → Prop) (H0 : Heap) (σ : sgS) (H : Heap) (locs : List Loc) : Prop := sg_I P sh n A H0 σ H locs ∧ H.size = sgA P n ∧ (∀ j, n ≤ j → σ.1 j = (fun _ => 0) ∧ σ.2 j = 0)
section MAK
variable {p : Program} {l : Launch} {e : Env} {R : Room} {s : State} {m : MethodId} {args : Array Value} {below : List Frame} {meth : Method} {c : Code} {H : Heap} {locs : List Loc} {cells slots : Nat} {Q : State → Prop}
variable {cc : ByteArray} {pc nL kk0 : Nat} {own : String} {ls : Array Slot} {rest : List Value} {P : sgP} {sh : Nat → sgE} {n base : Nat} {A : Nat → Prop} {σ : sgS}
/-- the words of 'new' of class ci -/
def sg_NW (own : String) (index ci : Nat) : Prop := sg_G ci ∧ ∃ (C : String) (T : u_T) (N : Nat), vwCl[ci]? = some (C, T, N) ∧ (∀ w ∈ u_ws C T N, w ∈ wsL_law) ∧ Cond.classLink own index C ∈ wsL_law ∧ Cond.instantiable C N ∈ wsL_law ∧ Cond.initialized C ∈ wsL_law
theorem sg_newO (X : sg_C P A kk0 p R s m args c cc nL own) (hb9 : ∀ j, sgA P j = base + j) (J : sg_J P sh n A s.heap σ H locs) {index ci N : Nat} {C : String} {T : u_T} (F : sg_NW own index ci) (hc : vwCl[ci]? = some (C, T, N)) {ks : List Nat} (hfs : ∀ j, j < N → defaultValue (sg_tyOf ci j) = vp_V (sg_fl (sgA P) (fun _ => 0) 0 0 ks) j) (hcells : cells + 1 ≤ R.cells) (hslots : slots + N ≤ R.slots) (hdg : decode cc pc = .ok (.new index, 3))
    (kk : ∀ H : Heap, sg_J P (sg_su sh n (.inl (ci, ks))) (n + 1) A s.heap σ H locs → W p l e R s m args below meth c H locs (cells + 1) (slots + N) Q (F0 m (pc + 3) ls (.ref (sgA P n) :: rest))) : W p l e R s m args below meth c H locs cells slots Q (F0 m pc ls rest) := by
  obtain ⟨G1, C', T', N', hc', hin, h1, h2, h3⟩ := F
  have ec : (C, T, N) = (C', T', N') := Option.some.inj (hc.symm.trans hc')
  cases ec
  obtain ⟨hty, hnm⟩ := G1 C T N hc
  obtain ⟨⟨hx, hb, hml, hown, hts⟩, hK, hA, -⟩ := X
  obtain ⟨⟨hP, hD, hS⟩, hz, h0⟩ := J
  have hKn := hK.1 ci _ hc
  refine W.newcK hx hb hown (hts _ h1) (hts _ h2) (hts _ h3) rfl hdg hcells hslots hKn.2.1 hz fun H1 kC hkC e1 z1 o1 => ?_
  have hk : ∀ (k : Nat) (x : Nat × va_E), (sg_w P sh n σ)[k]? = some x → H1[x.1]? = H[x.1]? := fun k x hx => o1 x.1 (by rw [← hz]; exact (hP k x hx).lt)
  have hent : sg_ent P (sg_su sh n (.inl (ci, ks))) σ n = .inr (ci, sg_fl (sgA P) (fun _ => 0) 0 0 ks) := by
    unfold sg_ent
    rw [sg_su_at, (h0 n (Nat.le_refl n)).1, (h0 n (Nat.le_refl n)).2]
  refine kk H1 ⟨⟨?_, ?_, ?_⟩, ?_, fun j hj => h0 j (by omega)⟩
  · rw [sg_w_push, hent]
    refine (hP.kept hk).app (fun k x hx => ?_)
    have hz1 : k < 1 := (List.getElem?_eq_some_iff.mp hx).1
    rw [show k = 0 by omega] at hx
    cases hx
    exact ⟨_, hc, (u_born (sg_tyOf ci) hts hin hKn hkC e1 hty).to hfs⟩
  · rw [sg_w_push]
    exact hD.push hP hz.symm (hA _ (by rw [← hz]; exact hS.1))
  · exact ⟨Nat.le_trans hS.1 (by omega), fun x h1 h2 => (o1 x (by rw [← hz]; exact Nat.lt_of_lt_of_le h1 hS.1)).trans (hS.2.1 x h1 h2), hS.2.2⟩
  · rw [z1, hb9, hb9]; omega
theorem sg_newA (X : sg_C P A kk0 p R s m args c cc nL own) (hb9 : ∀ j, sgA P j = base + j) (J : sg_J P sh n A s.heap σ H locs) {atype : ArrayType} {t : Nat} (ht : (t = 0 ∧ atype = .int) ∨ (t = 1 ∧ atype = .boolean)) (hw : Cond.arrayClass (newarray.typeOf atype) ∈ wsL_law) {x : Int32} {N : Nat} (hn : ¬ x < 0) (hN : x.toNatClampNeg = N) (hby : N ≤ 10000) (hcells : cells + 1 ≤ R.cells) (hslots : slots + N ≤ R.slots) (hdg : decode cc pc = .ok (.newarray atype, 2))
    (kk : ∀ H : Heap, sg_J P (sg_su sh n (.inr (t, N, sg_g0))) (n + 1) A s.heap σ H locs → W p l e R s m args below meth c H locs (cells + 1) (slots + N) Q (F0 m (pc + 2) ls (.ref (sgA P n) :: rest))) : W p l e R s m args below meth c H locs cells slots Q (F0 m pc ls (.int x :: rest)) := by
  obtain ⟨⟨hx, hb, hml, hown, hts⟩, hK, hA, -⟩ := X
  obtain ⟨⟨hP, hD, hS⟩, hz, h0⟩ := J
  have hb4 : N * componentBytes (newarray.typeOf atype) ≤ 536870912 := by
    rcases ht with ⟨-, rfl⟩ | ⟨-, rfl⟩
    · show N * 4 ≤ 536870912; omega
    · show N * 1 ≤ 536870912; omega
  refine va_newaK hx hb (hts _ hw) rfl hdg rfl hn hN hb4 hcells hslots hz fun H1 cA e1 z1 o1 hAr hNm => ?_
  have hcA : cA = sgC P t := by
    rcases ht with ⟨rfl, rfl⟩ | ⟨rfl, rfl⟩
    · exact Option.some.inj (hNm.symm.trans (hK.2 0 (sgC P 0, .int) rfl).2)
    · exact Option.some.inj (hNm.symm.trans (hK.2 1 (sgC P 1, .boolean) rfl).2)
  have hlt : t < 2 := by rcases ht with ⟨rfl, -⟩ | ⟨rfl, -⟩ <;> decide
  have hk : ∀ (k : Nat) (x : Nat × va_E), (sg_w P sh n σ)[k]? = some x → H1[x.1]? = H[x.1]? := fun k x hx => o1 x.1 (by rw [← hz]; exact (hP k x hx).lt)
  have hent : sg_ent P (sg_su sh n (.inr (t, N, sg_g0))) σ n = .inl (sgC P t, N, .inl (fun _ => 0)) := by
    unfold sg_ent
    rw [sg_su_at]
    show sg_ar P (σ.1 n) t N sg_g0 = _
    rw [(h0 n (Nat.le_refl n)).1, sg_ar, if_pos hlt]
  refine kk H1 ⟨⟨?_, ?_, ?_⟩, ?_, fun j hj => h0 j (by omega)⟩
  · rw [sg_w_push, hent]
    refine (hP.kept hk).app (fun k x hx => ?_)
    have hz1 : k < 1 := (List.getElem?_eq_some_iff.mp hx).1
    rw [show k = 0 by omega] at hx
    cases hx
    show H1[sgA P n]? = some (vp_cell (sgC P t) (N, .inl (fun _ => 0)))
    rw [e1, hcA]
    rcases ht with ⟨-, rfl⟩ | ⟨-, rfl⟩ <;> rfl
  · rw [sg_w_push]
    exact hD.push hP hz.symm (hA _ (by rw [← hz]; exact hS.1))
  · exact ⟨Nat.le_trans hS.1 (by omega), fun x h1 h2 => (o1 x (by rw [← hz]; exact Nat.lt_of_lt_of_le h1 hS.1)).trans (hS.2.1 x h1 h2), hS.2.2⟩
  · rw [z1, hb9, hb9]; omega
theorem sg_newQ (X : sg_C P A kk0 p R s m args c cc nL own) (hAO : sg_AO s) (hb9 : ∀ j, sgA P j = base + j) (J : sg_J P sh n A s.heap σ H locs) {index : Nat} (hw : Cond.classLink own index "RoadWheels$State" ∈ wsL_law) {x : Int32} {N : Nat} (hn : ¬ x < 0) (hN : x.toNatClampNeg = N) (hby : N ≤ 10000) (hcells : cells + 1 ≤ R.cells) (hslots : slots + N ≤ R.slots) (hdg : decode cc pc = .ok (.anewarray index, 3))
    (kk : ∀ H : Heap, sg_J P (sg_su sh n (.inr (2, N, sg_g0))) (n + 1) A s.heap σ H locs → W p l e R s m args below meth c H locs (cells + 1) (slots + N) Q (F0 m (pc + 3) ls (.ref (sgA P n) :: rest))) : W p l e R s m args below meth c H locs cells slots Q (F0 m pc ls (.int x :: rest)) := by
  subst hN
  obtain ⟨⟨hx, hb, hml, hown, hts⟩, hK, hA, -⟩ := X
  obtain ⟨⟨hP, hD, hS⟩, hz, h0⟩ := J
  refine W.anew hx hb hown (hts _ hw) (va_AO.use hAO.1) rfl hdg rfl hn (by omega) hcells hslots fun cA kA comp f1 f2 f3 f4 => ?_
  generalize hH1 : H.push ({ cls := cA, slots := Array.replicate x.toNatClampNeg .null, vm := .none } : Cell) = H1
  have z1 : H1.size = H.size + 1 := by rw [← hH1, Array.size_push]
  have e1 : H1[H.size]? = some (arrV cA x.toNatClampNeg (fun _ => .null)) := by rw [← hH1, Array.getElem?_push_size, ← arrV_new]
  have o1 : ∀ q : Nat, q < H.size → H1[q]? = H[q]? := fun q hq => by rw [← hH1, Array.getElem?_push, if_neg (Nat.ne_of_lt hq)]
  have hcA : cA = sgC P 2 := by
    obtain ⟨kA', comp', g1, g2, g3, g4⟩ := (hK.2 2 (sgC P 2, .object "RoadWheels$State") rfl).2
    exact Option.some.inj (f1.symm.trans g4)
  have hk : ∀ (k : Nat) (x : Nat × va_E), (sg_w P sh n σ)[k]? = some x → H1[x.1]? = H[x.1]? := fun k x hx => o1 x.1 ((hP k x hx).lt)
  have hent : sg_ent P (sg_su sh n (.inr (2, x.toNatClampNeg, sg_g0))) σ n = .inl (sgC P 2, x.toNatClampNeg, .inr (.inr (.inr (.inr (fun _ => none))))) := by
    unfold sg_ent
    rw [sg_su_at]
    show sg_ar P (σ.1 n) 2 x.toNatClampNeg sg_g0 = _
    rw [sg_ar, if_neg (by decide)]
    rfl
  rw [hz]
  refine kk H1 ⟨⟨?_, ?_, ?_⟩, ?_, fun j hj => h0 j (by omega)⟩
  · rw [sg_w_push, hent]
    refine (hP.kept hk).app (fun k x hx => ?_)
    have hz1 : k < 1 := (List.getElem?_eq_some_iff.mp hx).1
    rw [show k = 0 by omega] at hx
    cases hx
    show H1[sgA P n]? = some (vp_cell (sgC P 2) (_, .inr (.inr (.inr (.inr (fun _ => none))))))
    rw [← hz, e1, hcA]
    rfl
  · rw [sg_w_push]
    exact hD.push hP hz.symm (hA _ (by rw [← hz]; exact hS.1))
  · exact ⟨Nat.le_trans hS.1 (by omega), fun x h1 h2 => (o1 x (Nat.lt_of_lt_of_le h1 hS.1)).trans (hS.2.1 x h1 h2), hS.2.2⟩
  · rw [z1, hz, hb9, hb9]; omega
def sg_sm (sh : Nat → sgE) (n N K : Nat) : Nat → sgE := fun q => if q = n then .inr (3, N, fun k => n + 1 + k + 1) else if n < q ∧ q ≤ n + N then .inr (0, K, sg_g0) else sh q
theorem sg_newM (X : sg_C P A kk0 p R s m args c cc nL own) (hAO : sg_AO s) (hb9 : ∀ j, sgA P j = base + j) (J : sg_J P sh n A s.heap σ H locs) {index : Nat} (hw : Cond.classLink own index ("[" ++ (FieldType.array .int).toString) ∈ wsL_law) (hw2 : Cond.arrayClass .int ∈ wsL_law) {x y : Int32} {N K : Nat} (hn : ¬ x < 0) (hk : ¬ y < 0) (hN : x.toNatClampNeg = N) (hK' : y.toNatClampNeg = K) (hby : N ≤ 1000) (hby2 : K ≤ 10000) (hcells : cells + (1 + N) ≤ R.cells) (hslots : slots + (N + N * K) ≤ R.slots) (hdg : decode cc pc = .ok (.multianewarray index 2, 4))
    (kk : ∀ H : Heap, sg_J P (sg_sm sh n N K) (n + 1 + N) A s.heap σ H locs → W p l e R s m args below meth c H locs (cells + 1 + N) (slots + N + N * K) Q (F0 m (pc + 4) ls (.ref (sgA P n) :: rest))) : W p l e R s m args below meth c H locs cells slots Q (F0 m pc ls (.int y :: .int x :: rest)) := by
  subst hN
  subst hK'
  obtain ⟨⟨hx, hb, hml, hown, hts⟩, hK, hA, -⟩ := X
  obtain ⟨⟨hP, hD, hS⟩, hz, h0⟩ := J
  intro T hT Xs
  obtain ⟨vm₁, cA, comp, -, fA, fC, hO, -, X', step⟩ := Xs.multianewarray2F hx hown (hts _ hw) (va_AOA.use hAO.2) (hts _ hw2) (g := F0 m pc ls (.int y :: .int x :: rest)) rfl (by rw [hb]; exact hdg) rfl hn hk (by omega) (by show _ * 4 ≤ _; omega) (by omega) rfl rfl hcells hslots
  have ecA : cA = sgC P 3 := Option.some.inj (fA.symm.trans (hK.2 3 (sgC P 3, .array .int) rfl).2)
  have ecI : comp = sgC P 0 := Option.some.inj (fC.symm.trans (hK.2 0 (sgC P 0, .int) rfl).2)
  subst ecA
  subst ecI
  generalize hF : Jvm.Free.Multi.fill (T.setVm vm₁) (sgC P 3) (sgC P 0) x.toNatClampNeg y.toNatClampNeg (defaultValue .int) x.toNatClampNeg = F at X' step
  have hTh : (T.setVm vm₁).heap = H := hT
  obtain ⟨f1, f2, -, -⟩ := Jvm.Free.Multi.fill_facts (T.setVm vm₁) (sgC P 3) (sgC P 0) x.toNatClampNeg y.toNatClampNeg (defaultValue .int) x.toNatClampNeg
  rw [hF, hTh] at f1 f2
  have hold : ∀ z : Nat, z < H.size → F.heap[z]? = H[z]? := fun z hz9 => by
    have := Jvm.Free.Multi.fill_old (T.setVm vm₁) (sgC P 3) (sgC P 0) x.toNatClampNeg y.toNatClampNeg (defaultValue .int) (a := z) (by rw [hTh]; exact hz9) x.toNatClampNeg
    rw [hF, hTh] at this
    exact this
  have hrow : ∀ j : Nat, j < x.toNatClampNeg → F.heap[H.size + 1 + j]? = some (vp_cell (sgC P 0) (y.toNatClampNeg, .inl (fun _ => 0))) := fun j hj => by
    have := Jvm.Free.Multi.fill_inner (T.setVm vm₁) (sgC P 3) (sgC P 0) x.toNatClampNeg y.toNatClampNeg (defaultValue .int) x.toNatClampNeg j hj
    rw [hF, hTh] at this
    rw [this]
    show some ({ cls := sgC P 0, slots := Array.replicate y.toNatClampNeg (.int 0), vm := .none } : Cell) = _
    rw [arrV_new]
    rfl
  have hout : Jvm.Free.Multi.outerC (sgC P 3) x.toNatClampNeg H.size x.toNatClampNeg = vp_cell (sgC P 3) (x.toNatClampNeg, .inr (.inr (.inr (.inr (fun i => if i < x.toNatClampNeg then some (H.size + 1 + i) else none))))) := by
    rw [vp_cell_q]
    exact vr_outer (sgC P 3) x.toNatClampNeg H.size x.toNatClampNeg
  rw [hout] at f2
  have hsize : F.heap.size = sgA P (n + 1 + x.toNatClampNeg) := by rw [f1, hz, hb9, hb9]; omega
  have hJ : sg_J P (sg_sm sh n x.toNatClampNeg y.toNatClampNeg) (n + 1 + x.toNatClampNeg) A s.heap σ F.heap locs := by
    refine ⟨⟨?_, sg_D_of hb9 ?_, ?_⟩, hsize, fun j hj => h0 j (by omega)⟩
    · intro k q hq
      by_cases hkn : k < n + 1 + x.toNatClampNeg
      · rw [sg_at hkn] at hq
        cases hq
        by_cases h1 : k < n
        · have hsame : sg_ent P (sg_sm sh n x.toNatClampNeg y.toNatClampNeg) σ k = sg_ent P sh σ k := by
            unfold sg_ent sg_sm
            rw [if_neg (by omega), if_neg (by omega)]
          rw [hsame]
          exact (hP k _ (sg_at h1)).kept (hold _ (hP k _ (sg_at h1)).lt)
        · by_cases h2 : k = n
          · subst h2
            have hent : sg_ent P (sg_sm sh k x.toNatClampNeg y.toNatClampNeg) σ k = .inl (sgC P 3, x.toNatClampNeg, .inr (.inr (.inr (.inr (fun j => some (sgA P (k + 1 + j))))))) := by
              unfold sg_ent sg_sm
              rw [if_pos rfl]
              show sg_ar P (σ.1 k) 3 x.toNatClampNeg _ = _
              rw [sg_ar, if_neg (by decide)]
              simp
            rw [hent]
            show F.heap[sgA P k]? = some (vp_cell (sgC P 3) (x.toNatClampNeg, .inr (.inr (.inr (.inr (fun j => some (sgA P (k + 1 + j))))))))
            rw [← hz, f2, vp_cell_q, vp_cell_q]
            refine congrArg some (sg_arrV_congr (fun j hj => ?_))
            rw [if_pos hj, hz, hb9, hb9, show base + k + 1 + j = base + (k + 1 + j) by omega]
          · have hent : sg_ent P (sg_sm sh n x.toNatClampNeg y.toNatClampNeg) σ k = .inl (sgC P 0, y.toNatClampNeg, .inl (fun _ => 0)) := by
              unfold sg_ent sg_sm
              rw [if_neg h2, if_pos (by omega)]
              show sg_ar P (σ.1 k) 0 y.toNatClampNeg sg_g0 = _
              rw [(h0 k (by omega)).1, sg_ar, if_pos (by decide)]
            rw [hent]
            have := hrow (k - n - 1) (by omega)
            show F.heap[sgA P k]? = some (vp_cell (sgC P 0) (y.toNatClampNeg, .inl (fun _ => 0)))
            rw [← this, hz, hb9, hb9]
            congr 1
            omega
      · rw [sg_no hkn] at hq
        cases hq
    · intro j hj
      by_cases h1 : j < n
      · exact hD.2 j _ (sg_at h1)
      · refine hA _ ?_
        have := hS.1
        rw [hz, hb9] at this
        rw [hb9]
        omega
    · exact ⟨by have := hS.1; omega, fun z h1 h2 => (hold z (Nat.lt_of_lt_of_le h1 hS.1)).trans (hS.2.1 z h1 h2), hS.2.2⟩
  obtain ⟨t, a1, b1⟩ := kk F.heap hJ F rfl X'
  refine ⟨t, step t ?_, b1⟩
  have e : T.heap.size = sgA P n := by rw [hT]; exact hz
  rw [e]
  exact a1
/-- a reference into a field of the object that is being made -/
theorem sg_putr (X : sg_C P A kk0 p R s m args c cc nL own) (hin9 : meth.name = "<init>") (J : sg_J P sh n A s.heap σ H locs) {index ci k i j : Nat} (F : sg_F own index ci k) (G : sg_G ci) {ty : FieldType} {C : String} {T : u_T} {N : Nat} (hc : vwCl[ci]? = some (C, T, N)) (hfin : (T k).2.2.2 = true) (hdecl : (T k).1 = own) (hd : parseFieldDescriptor (T k).2.2.1 = some ty) (hn : narrow ty (.ref (sgA P j)) = .ref (sgA P j)) (hf : fits ty (.ref (sgA P j)) = true) {ks : List Nat} (hi : i < n) (hsh : sh i = .inl (ci, ks)) (hk : k < ks.length) (hdg : decode cc pc = .ok (.putfield index, 3))
    (kk : ∀ (H : Heap) (locs : List Loc), sg_J P (sg_su sh i (.inl (ci, ks.set k (j + 3)))) n A s.heap σ H locs → W p l e R s m args below meth c H locs cells slots Q (F0 m (pc + 3) ls rest)) : W p l e R s m args below meth c H locs cells slots Q (F0 m pc ls (.ref (sgA P j) :: .ref (sgA P i) :: rest)) := by
  obtain ⟨C', T', N', hc', hin, hN, hl⟩ := F
  have ec : (C, T, N) = (C', T', N') := Option.some.inj (hc.symm.trans hc')
  cases ec
  obtain ⟨hty, hnm⟩ := G C T N hc
  obtain ⟨⟨hx, hb, hml, hown, hts⟩, hK, -⟩ := X
  obtain ⟨⟨hP, hD, hS⟩, hz, h0⟩ := J
  have hset : (sg_w P sh n σ).set i (sgA P i, .inr (ci, (sg_fl (sgA P) (σ.1 i) (σ.2 i) 0 ks).set k (.ref (sgA P j)))) = sg_w P (sg_su sh i (.inl (ci, ks.set k (j + 3)))) n σ := by
    apply List.ext_getElem?
    intro q
    have hl9 : i < (sg_w P sh n σ).length := by unfold sg_w; rw [List.length_map, List.length_range]; exact hi
    by_cases hq : q = i
    · subst hq
      rw [List.getElem?_set_self hl9, sg_at hi]
      unfold sg_ent
      rw [sg_su_at]
      have := sg_fl_setv (ad := sgA P) (f := σ.1 q) (L := σ.2 q) ks 0 k (j + 3) hk
      show _ = some (sgA P q, Sum.inr (ci, sg_fl (sgA P) (σ.1 q) (σ.2 q) 0 (ks.set k (j + 3))))
      rw [← this]
      rfl
    · rw [List.getElem?_set_ne (Ne.symm hq)]
      by_cases hn9 : q < n
      · rw [sg_at hn9, sg_at hn9]
        unfold sg_ent
        rw [sg_su_ne hq]
      · rw [sg_no hn9, sg_no hn9]
  refine sz_putF (D := sgD P) (C := C) (T := T) (N := N) hx hb hts hin (sg_tyOf ci) hty hnm hown hK hP hD hS i (sg_obj hi hsh) hc k hN (hts _ hl) (fun _ h9 => h9) hfin hin9 hdecl hd hn hf (by rw [sg_fl_len]; exact hk) hdg (fun H1 locs1 hz1 h1 h2 h3 => ?_)
  rw [hset] at h1 h2
  exact kk H1 locs1 ⟨⟨h1, h2, h3⟩, hz1.trans hz, h0⟩
/-- a whole number into a field, in a constructor -/
theorem sg_putz (X : sg_C P A kk0 p R s m args c cc nL own) (J : sg_J P sh n A s.heap σ H locs) {index ci k i : Nat} (F : sg_F own index ci k) (G : sg_W ci k .int) {v : Int32} {ks : List Nat} (hi : i < n) (hsh : sh i = .inl (ci, ks)) (hk : ks[k]? = some 0) (hdg : decode cc pc = .ok (.putfield index, 3))
    (kk : ∀ (H : Heap) (locs : List Loc), sg_J P sh n A s.heap (sg_up σ i k v) H locs → W p l e R s m args below meth c H locs cells slots Q (F0 m (pc + 3) ls rest)) : W p l e R s m args below meth c H locs cells slots Q (F0 m pc ls (.int v :: .ref (sgA P i) :: rest)) := by
  obtain ⟨C, T, N, hc, hin, hN, hl⟩ := F
  obtain ⟨⟨hx, hb, hml, hown, hts⟩, hK, -⟩ := X
  obtain ⟨G1, C', T', N', hc', hfin, hd⟩ := G
  have ec : (C, T, N) = (C', T', N') := Option.some.inj (hc.symm.trans hc')
  cases ec
  obtain ⟨hty, hnm⟩ := G1 C T N hc
  obtain ⟨⟨hP, hD, hS⟩, hz, h0⟩ := J
  refine sz_put (D := sgD P) (C := C) (T := T) (N := N) hx hb hts hin (sg_tyOf ci) hty hnm hown hK hP hD hS i (sg_obj hi hsh) hc k hN (hts _ hl) (fun _ h9 => h9) hfin hd (v := .int v) rfl rfl (by rw [sg_fl_len]; exact (List.getElem?_eq_some_iff.mp hk).1) hdg (fun H1 locs1 hz1 h1 h2 h3 => ?_)
  rw [sg_set_obj hi hsh hk] at h1 h2
  refine kk H1 locs1 ⟨⟨h1, h2, h3⟩, hz1.trans hz, fun j hj => ?_⟩
  have e1 : (sg_up σ i k v).1 j = σ.1 j := sg_row_nt (by omega)
  rw [e1]
  exact h0 j hj
/-- a State into the row of States -/
theorem sg_aast (X : sg_C P A kk0 p R s m args c cc nL own) (J : sg_J P sh n A s.heap σ H locs) {i j N : Nat} {g : Nat → Nat} {x : Int32} {ks : List Nat} (hi : i < n) (hj : j < n) (hsh : sh i = .inr (2, N, g)) (hsj : sh j = .inl (8, ks)) (hin : vp_in x N) (hdg : decode cc pc = .ok (.aastore, 1))
    (kk : ∀ (H : Heap) (locs : List Loc), sg_J P (sg_su sh i (.inr (2, N, fun q => if q = x.toNatClampNeg then j + 1 else g q))) n A s.heap σ H locs → W p l e R s m args below meth c H locs cells slots Q (F0 m (pc + 1) ls rest)) : W p l e R s m args below meth c H locs cells slots Q (F0 m pc ls (.ref (sgA P j) :: .int x :: .ref (sgA P i) :: rest)) := by
  obtain ⟨⟨hx, hb, hml, hown, hts⟩, hK, -⟩ := X
  obtain ⟨⟨hP, hD, hS⟩, hz, h0⟩ := J
  refine sz_astq (D := sgD P) (r := (RX8, TX8, 8)) hx hb hK hP hD hS i 2 j 8 (sg_rar hi hsh (by decide)) rfl (sg_obj hj hsj) rfl hin hdg (fun H1 locs1 hz1 h1 h2 h3 => ?_)
  have hset : (sg_w P sh n σ).set i (sgA P i, .inl (sgC P 2, N, .inr (.inr (.inr (.inr (va_up (fun k => if g k = 0 then none else some (sgA P (g k - 1))) x.toNatClampNeg (some (sgA P j)))))))) = sg_w P (sg_su sh i (.inr (2, N, fun q => if q = x.toNatClampNeg then j + 1 else g q))) n σ := by
    apply List.ext_getElem?
    intro q
    have hl9 : i < (sg_w P sh n σ).length := by unfold sg_w; rw [List.length_map, List.length_range]; exact hi
    by_cases hq : q = i
    · subst hq
      rw [List.getElem?_set_self hl9, sg_at hi]
      unfold sg_ent
      rw [sg_su_at]
      show _ = some (sgA P q, sg_ar P (σ.1 q) 2 N (fun z => if z = x.toNatClampNeg then j + 1 else g z))
      rw [sg_ar, if_neg (by decide)]
      have : (va_up (fun k => if g k = 0 then none else some (sgA P (g k - 1))) x.toNatClampNeg (some (sgA P j))) = (fun k => if (if k = x.toNatClampNeg then j + 1 else g k) = 0 then none else some (sgA P ((if k = x.toNatClampNeg then j + 1 else g k) - 1))) := by
        funext z
        unfold va_up
        by_cases hz9 : z = x.toNatClampNeg
        · simp [hz9]
        · simp [hz9]
      rw [this]
    · rw [List.getElem?_set_ne (Ne.symm hq)]
      by_cases hn9 : q < n
      · rw [sg_at hn9, sg_at hn9]
        unfold sg_ent
        rw [sg_su_ne hq]
      · rw [sg_no hn9, sg_no hn9]
  rw [hset] at h1 h2
  exact kk H1 locs1 ⟨⟨h1, h2, h3⟩, hz1.trans hz, h0⟩
theorem sg_J_congr {sh' : Nat → sgE} {H0 : Heap} (J : sg_J P sh n A H0 σ H locs) (h : ∀ j, j < n → sh j = sh' j) : sg_J P sh' n A H0 σ H locs := by
  obtain ⟨⟨hP, hD, hS⟩, hz, h0⟩ := J
  rw [sg_w_congr h] at hP hD
  exact ⟨⟨hP, hD, hS⟩, hz, h0⟩
def sg_rmc (k mc ms : Nat) : Room := { frames := k, cells := mc, slots := ms, locals := 60 * k }
/-- a constructor's contract: from n cells to n', from shape and contents to others; mc cells of ms places come -/
def sg_MI (P : sgP) (l : Launch) (y : MethodName) (cc : ByteArray) (mL k mc ms : Nat) (avs : List Value) (sh : Nat → sgE) (n : Nat) (σ : sgS) (sh' : Nat → sgE) (n' : Nat) (σ' : sgS) : Prop :=
  Met l y (Cond.code y cc mL none :: wsL_law) (sg_rmc k mc ms) (va_Pc avs (fun U => sg_Pre P sh n σ (sgA P n) U ∧ sg_AO U)) (va_Qv (fun _ : Unit => True) (fun _ t => va_P (sgD P) vwCl (sg_w P sh' n' σ') t.heap ∧ t.heap.size = sgA P n') (sg_A P n (sgA P n))) mc ms (sg_A P n (sgA P n))
theorem sg_mkI {y : MethodName} {mL k mc ms : Nat} {avs : List Value} {sh' : Nat → sgE} {n' : Nat} {σ' : sgS} (hb9 : ∀ j, sgA P j = base + j) (hy : plainName y.cls = true) (hi : y.name = "<init>") (hav : (lg_sl avs).length ≤ mL) (h0 : ∀ j, n ≤ j → σ.1 j = (fun _ => 0) ∧ σ.2 j = 0)
    (body : ∀ (p : Program) (e : Env) (R : Room) (s : State) (m : MethodId) (args : Array Value) (below : List Frame) (meth : Method) (c : Code) (Q : State → Prop) (A : Nat → Prop) (ls : Array Slot) (H : Heap) (locs : List Loc), sg_C P A k p R s m args c cc mL y.cls → meth.name = "<init>" → sg_AO s → mc ≤ R.cells → ms ≤ R.slots → sg_J P sh n A s.heap σ H locs → lv_has ls mL (lv_args 0 avs) →
      (∀ (H : Heap) (locs : List Loc) (ls : Array Slot) (pc : Nat), sg_J P sh' n' A s.heap σ' H locs → decode cc pc = .ok (.return_, 1) → W p l e R s m args below meth c H locs mc ms Q (F0 m pc ls [])) → W p l e R s m args below meth c H locs 0 0 Q (F0 m 0 ls [])) :
    sg_MI P l y cc mL k mc ms avs sh n σ sh' n' σ' := by
  refine Met.ofW (cc := cc) (maxL := mL) (ret := none) hy rfl ?_
  intro p e s m args below meth c s₁ B hml hv
  obtain ⟨rfl, ⟨hsz, hP, hD, hK, hN, hST⟩, hAO⟩ := hv
  have hts := atoms_spec (ws := Cond.code y cc mL none :: wsL_law) B.pre
  have hown : s.vm.findClass y.cls = some m.cls := findClass_of_methodNamed B.named
  have hlocks := B.notSynchronized
  have hin : meth.name = "<init>" := ((name_of_methodNamed B.named B.method).1).trans hi
  have hl := lv_entry avs (n := mL) hav
  rw [lg_entry_eq]
  refine body p e (sg_rmc k mc ms) s m _ below meth c _ (sg_A P n (sgA P n)) _ _ _ ⟨⟨B.exec, B.bytes, hml, hown, fun w hw => hts w (List.mem_cons_of_mem _ hw)⟩, hK, fun q h => Or.inr (by rw [← hsz]; exact h), hN, hST, Nat.le_refl _, Nat.le_refl _⟩ hin hAO (Nat.le_refl _) (Nat.le_refl _) ⟨⟨hP, sg_A_of hD, va_S.rf⟩, hsz, h0⟩ hl ?_
  intro H locs ls pc J hdg
  exact W.vret B.exec B.bytes B.returns (fun t ht hW => ⟨⟨(), rfl, trivial, by rw [ht]; exact J.1.1, by rw [ht]; exact J.2.1⟩, J.1.2.2.F ht⟩) J.1.2.2.2.2 hdg hlocks
theorem sg_blindI {σ : sgS} {av : List Value} {sz : Nat} : FrameBlind (va_Pc av (fun U => sg_Pre P sh n σ sz U ∧ sg_AO U)) := fun a U g mk q => by
  obtain ⟨q0, ⟨q1, q2, q3, q4, q5, q6⟩, q7, q8⟩ := q
  exact ⟨q0, ⟨q1, q2, q3, va_K.moved (u := U) (U := U.calling g mk a) (Vm.Alike.refl U.vm) q4, sg_N_calling q5, sg_ST_calling q6⟩, va_AO.moved (u := U) (U := U.calling g mk a) (Vm.Alike.refl U.vm) q7, sg_AOA_moved (u := U) (U := U.calling g mk a) (Vm.Alike.refl U.vm) q8⟩
theorem sg_preUI {av : List Value} (X : sg_C P A kk0 p R s m args c cc nL own) (hAO : sg_AO s) (J : sg_J P sh n A s.heap σ H locs) : ∀ U : State, U.heap = H → s.WarmedH U.vm → va_Pc av (fun U => sg_Pre P sh n σ (sgA P n) U ∧ sg_AO U) av.toArray U := fun U hU hW =>
  ⟨rfl, ⟨by rw [hU]; exact J.2.1, by rw [hU]; exact J.1.1, J.1.2.1.weaken (fun _ _ _ _ => trivial), va_K.moved hW.alike X.2.1, sg_N_warm X.2.2.2.1 hW, by rw [hU, ← J.2.1]; exact sg_ST_go X.2.2.2.2.1 hW J.1.2.2 (sg_A_sub J.1.2.1 J.1.2.2 X.2.2.1)⟩, va_AO.moved hW.alike hAO.1, sg_AOA_moved hW.alike hAO.2⟩
theorem sg_fixc (X : sg_C P A kk0 p R s m args c cc nL own) {lev mL mc ms : Nat} (hlev : lev < kk0) (hm : mL ≤ 41) : (sg_rmc lev mc ms).frames + 1 ≤ R.frames ∧ 8 + (mL + 11) + (sg_rmc lev mc ms).locals ≤ R.locals := by
  have h1 := X.2.2.2.2.2.1
  have h2 := X.2.2.2.2.2.2
  refine ⟨by show lev + 1 ≤ R.frames; omega, by show 8 + (mL + 11) + 60 * lev ≤ R.locals; omega⟩
theorem sg_behI {sh' : Nat → sgE} {n' mc ms : Nat} {σ' : sgS} {av : Array Value} {st0 : List Value} (X : sg_C P A kk0 p R s m args c cc nL own) (hb9 : ∀ j, sgA P j = base + j) (hnn : n ≤ n') (J : sg_J P sh n A s.heap σ H locs) (h0' : ∀ j, n' ≤ j → σ'.1 j = (fun _ => 0) ∧ σ'.2 j = 0)
    (hr : va_Run p l e R s m args below meth c H locs cells slots mc ms (F0 m pc ls st0) rest (va_Qv (fun _ : Unit => True) (fun _ t => va_P (sgD P) vwCl (sg_w P sh' n' σ') t.heap ∧ t.heap.size = sgA P n') (sg_A P n (sgA P n)) av) (sg_A P n (sgA P n)))
    (kk : ∀ (H : Heap) (locs : List Loc), sg_J P sh' n' A s.heap σ' H locs → W p l e R s m args below meth c H locs (cells + mc) (slots + ms) Q (F0 m (pc + 3) ls rest)) : W p l e R s m args below meth c H locs cells slots Q (F0 m pc ls st0) := by
  have hsub : ∀ q, sg_A P n (sgA P n) q → A q := by rw [← J.2.1]; exact sg_A_sub J.1.2.1 J.1.2.2 X.2.2.1
  refine va_callv hr J.1.2.2 (fun q _ h => hsub q h) hsub (fun u t H1 locs1 ht hvm hw hB hz hk hS => ?_)
  obtain ⟨hB1, hB2⟩ := hB
  rw [ht] at hB1 hB2
  refine kk H1 locs1 ⟨⟨hB1, sg_D_of hb9 (fun j hj => ?_), hS⟩, hB2, h0'⟩
  by_cases h1 : j < n
  · exact J.1.2.1.2 j _ (sg_at h1)
  · refine X.2.2.1 _ ?_
    have h2 := J.1.2.2.1
    rw [J.2.1, hb9] at h2
    rw [hb9]
    omega
/-- a constructor is called: by its own link, or by a nest mate's -/
theorem sg_callI (X : sg_C P A kk0 p R s m args c cc nL own) (hAO : sg_AO s) (hb9 : ∀ j, sgA P j = base + j) (J : sg_J P sh n A s.heap σ H locs) {index i : Nat} {y : MethodName} {bytes : ByteArray} {mL np mc ms : Nat} (hy : sg_Y y np) (hyi : y.name = "<init>") (h1 : Cond.methodLink own index y ∈ wsL_law) (h2 : Cond.instanceMethod y ∈ wsL_law) (h3 : Cond.initialized y.cls ∈ wsL_law) (h4 : Cond.code y bytes mL none ∈ wsL_law) (hm : mL ≤ 41) {lev : Nat} (hlev : lev < kk0) {As stk : List Value} {sh' : Nat → sgE} {n' : Nat} {σ' : sgS} (hnn : n ≤ n') (h0' : ∀ j, n' ≤ j → σ'.1 j = (fun _ => 0) ∧ σ'.2 j = 0)
    (hM : sg_MI P l y bytes mL lev mc ms (.ref (sgA P i) :: As) sh n σ sh' n' σ') (hls : ls.size = nL) (hn : As.length = np) (hst : stk = As.reverse ++ .ref (sgA P i) :: rest) (hrest : (rest.map fun v => v.category).sum ≤ 8) (hdg : decode cc pc = .ok (.invokespecial index, 3)) (hf : cells + mc ≤ R.cells ∧ slots + ms ≤ R.slots)
    (kk : ∀ (H : Heap) (locs : List Loc), sg_J P sh' n' A s.heap σ' H locs → W p l e R s m args below meth c H locs (cells + mc) (slots + ms) Q (F0 m (pc + 3) ls rest)) : W p l e R s m args below meth c H locs cells slots Q (F0 m pc ls stk) := by
  have hts := X.1.2.2.2.2
  exact sg_behI X hb9 hnn J h0' (va_runI (As := As) (rest := rest) X.1 hM ⟨callB_of np hts (sg_goodIn h4) rfl rfl rfl (hts _ h3) (hts _ h1) hy (sg_fixc X hlev hm), hyi, hts _ h2⟩ ⟨sg_blindI, sg_preUI X hAO J⟩ rfl hn hls hst (lv_room hrest) hdg hf) kk
theorem sg_callIN (X : sg_C P A kk0 p R s m args c cc nL own) (hAO : sg_AO s) (hb9 : ∀ j, sgA P j = base + j) (J : sg_J P sh n A s.heap σ H locs) {index i : Nat} {y : MethodName} {host : String} {bytes : ByteArray} {mL np mc ms : Nat} (hy : sg_Y y np) (hyi : y.name = "<init>") (h1 : Cond.methodLinkNest own index y host ∈ sg_nws) (h2 : Cond.instanceMethod y ∈ wsL_law) (h3 : Cond.initialized y.cls ∈ wsL_law) (h4 : Cond.code y bytes mL none ∈ wsL_law) (hm : mL ≤ 41) {lev : Nat} (hlev : lev < kk0) {As stk : List Value} {sh' : Nat → sgE} {n' : Nat} {σ' : sgS} (hnn : n ≤ n') (h0' : ∀ j, n' ≤ j → σ'.1 j = (fun _ => 0) ∧ σ'.2 j = 0)
    (hM : sg_MI P l y bytes mL lev mc ms (.ref (sgA P i) :: As) sh n σ sh' n' σ') (hls : ls.size = nL) (hn : As.length = np) (hst : stk = As.reverse ++ .ref (sgA P i) :: rest) (hrest : (rest.map fun v => v.category).sum ≤ 8) (hdg : decode cc pc = .ok (.invokespecial index, 3)) (hf : cells + mc ≤ R.cells ∧ slots + ms ≤ R.slots)
    (kk : ∀ (H : Heap) (locs : List Loc), sg_J P sh' n' A s.heap σ' H locs → W p l e R s m args below meth c H locs (cells + mc) (slots + ms) Q (F0 m (pc + 3) ls rest)) : W p l e R s m args below meth c H locs cells slots Q (F0 m pc ls stk) := by
  have hts := X.1.2.2.2.2
  exact sg_behI X hb9 hnn J h0' (va_runIN (As := As) (rest := rest) X.1 hM ⟨va_cnB np hts (sg_goodIn h4) rfl rfl rfl (X.2.2.2.1 _ h1) (hts _ h3) hy (sg_fixc X hlev hm), hyi, hts _ h2⟩ ⟨sg_blindI, sg_preUI X hAO J⟩ rfl hn hls hst (lv_room hrest) hdg hf) kk
theorem sg_objI (X : sg_C P A kk0 p R s m args c cc nL own) (hls : ls.size = nL) (hk : 0 < kk0) {index a : Nat} (h1 : Cond.methodLink own index objectInit ∈ wsL_law) (h2 : Cond.instanceMethod objectInit ∈ wsL_law) (h3 : Cond.code objectInit ⟨#[0xb1]⟩ 1 none ∈ wsL_law) (hdg : decode cc pc = .ok (.invokespecial index, 3))
    (kk : W p l e R s m args below meth c H locs cells slots Q (F0 m (pc + 3) ls [])) : W p l e R s m args below meth c H locs cells slots Q (F0 m pc ls [.ref a]) := by
  obtain ⟨⟨hx, hb, hml, hown, hts⟩, -, -, -, -, hr1, hr2⟩ := X
  exact W.objInit hx hb hown (hts _ h1) (hts _ h2) (hts _ h3) rfl (hls.trans hml.symm) rfl hdg (Nat.le_trans hk hr1) (by show 2 * 0 + 0 + 12 ≤ _; omega) kk
end MAK
