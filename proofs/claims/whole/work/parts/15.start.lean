/-! THE START: from the Statement's entry to the machine of places. -/
set_option maxRecDepth 100000 in
theorem st_nc : (List.range 4).all (fun x => (List.range 4).all (fun y => decide (x = y) || decide (Cond.not (.castable (ai_xn x) (ai_xn y)) ∈ flatC (Jvm.Cond.and given_1 narrow_1)))) = true := by decide +kernel
set_option maxRecDepth 100000 in
theorem st_zt : ai_zt.all (fun q => decide (Cond.isRef (.static "java/lang/Throwable" q.1 q.2) ∈ flatC (Jvm.Cond.and given_1 narrow_1)) && decide (Cond.laysStatic "java/lang/Throwable" q.1 q.2 ∈ lw_tbl)) = true := by decide +kernel
set_option maxRecDepth 100000 in
theorem st_str : ai_strs.all (fun q => decide (Cond.exactly (.string q.1 q.2.1) "java/lang/String" ∈ flatC (Jvm.Cond.and given_1 narrow_1)) && decide (Cond.stringRef q.1 q.2.1 q.2.2 ∈ lw_tbl)) = true := by decide +kernel
set_option maxRecDepth 100000 in
theorem st_wd : (ai_fw.all (fun w => decide (w ∈ lw_tbl)) && decide (Cond.arrayOver (.object ai_Store) ∈ lw_tbl) && decide (Cond.arrayClass .int ∈ lw_tbl) && decide (Cond.arrayClass .long ∈ lw_tbl) && decide (Cond.arrayClass .boolean ∈ lw_tbl) && decide (Cond.arrayClass .char ∈ lw_tbl)) = true := by decide +kernel
theorem st_ac {s : State} {A : Array Value} {ty : FieldType} (hty : ∀ k, ty = .object k → False) (h : (Cond.arrayClass ty).before A s = true) : ∃ cA : ClassId, ArrOfT s cA ty ∧ va_RA s cA ty := by
  obtain ⟨c, k, comp, h1, h2, h3⟩ := Cond.arrayClass_spec h
  refine ⟨c, fun N z => ⟨(fun k h => by cases h), k, h2, comp, h3⟩, ?_⟩
  cases ty with
  | object C => exact (hty C rfl).elim
  | _ => exact h1
theorem st_ao {s : State} {A : Array Value} {C : String} (h : (Cond.arrayOver (.object C)).before A s = true) : ∃ cA : ClassId, ArrOfT s cA (.object C) ∧ va_RA s cA (.object C) := by
  obtain ⟨comp, c, k, h1, h2, h3, h4, h5⟩ := Cond.arrayOver_spec h
  exact ⟨c, fun N z => ⟨(fun k h => by cases h), k, h3, comp, h4⟩, k, comp, h3, h4, h1, h5⟩
theorem st_tys {s : State} {A : Array Value} (hts : ∀ w ∈ lw_tbl, w.before A s = true) : ∃ cA : Nat → ClassId, ∀ kd, kd < 5 → ArrOfT s (cA kd) (ai_TY kd) ∧ va_RA s (cA kd) (ai_TY kd) := by
  have hw := st_wd
  simp only [Bool.and_eq_true, decide_eq_true_eq] at hw
  obtain ⟨⟨⟨⟨⟨-, w4⟩, w0⟩, w1⟩, w2⟩, w3⟩ := hw
  obtain ⟨c0, h0⟩ := st_ac (fun k e => by cases e) (hts _ w0)
  obtain ⟨c1, h1⟩ := st_ac (fun k e => by cases e) (hts _ w1)
  obtain ⟨c2, h2⟩ := st_ac (fun k e => by cases e) (hts _ w2)
  obtain ⟨c3, h3⟩ := st_ac (fun k e => by cases e) (hts _ w3)
  obtain ⟨c4, h4⟩ := st_ao (hts _ w4)
  refine ⟨fun kd => match kd with | 0 => c0 | 1 => c1 | 2 => c2 | 3 => c3 | _ => c4, fun kd hk => ?_⟩
  match kd, hk with
  | 0, _ => exact h0
  | 1, _ => exact h1
  | 2, _ => exact h2
  | 3, _ => exact h3
  | 4, _ => exact h4
theorem st_cls {s : State} {A : Array Value} (hts : ∀ w ∈ ai_WS, w.before A s = true) : ∃ D : va_G, ∀ (c : Nat) (q : vw_C), vwCl[c]? = some q → u_Kn s q.1 q.2.1 q.2.2 (D.1 c) (D.2 c) := by
  have h : ∀ c : Nat, ∃ d : ClassId × (Nat → Nat), ∀ q : vw_C, vwCl[c]? = some q → u_Kn s q.1 q.2.1 q.2.2 d.1 d.2 := fun c => by
    cases hc : vwCl[c]? with
    | none => exact ⟨(0, fun _ => 0), fun q e => by cases e⟩
    | some q =>
      obtain ⟨C, T, N⟩ := q
      obtain ⟨-, h2, -, -, -, h6, -⟩ := ai_cls hc
      obtain ⟨cC, iS, hk⟩ := u_known hts h2 (hts _ h6)
      exact ⟨(cC, iS), fun q e => by cases e; exact hk⟩
  exact ⟨(fun c => (h c).choose.1, fun c => (h c).choose.2), fun c => (h c).choose_spec⟩
theorem st_env {s : State} {A : Array Value} (hts : ∀ w ∈ lw_tbl, w.before A s = true) (hg : (Jvm.Cond.and given_1 narrow_1).before A s = true) : ai_env s.heap.size s := by
  have hf := flat_of_before _ hg
  have hw := st_wd
  simp only [Bool.and_eq_true, decide_eq_true_eq] at hw
  obtain ⟨⟨⟨⟨⟨w5, w4⟩, -⟩, -⟩, -⟩, -⟩ := hw
  refine ⟨va_AO.of (hts _ w4), fun q hq => ?_, fun w h => ?_, fun x hx y hy hxy => ?_⟩
  · have h := List.all_eq_true.mp st_zt q hq
    simp only [Bool.and_eq_true, decide_eq_true_eq] at h
    obtain ⟨c, k, i, f, a, cell, hc, hi, hst, hsa, hcell, hss, hcls, hlt, hty⟩ := Cond.laysStatic_spec (hts _ h.2)
    obtain ⟨v, hv, hr⟩ := Cond.isRef_spec (hf _ h.1)
    have he : (Term.static "java/lang/Throwable" q.1 q.2).eval A s none [] s = some cell.slots[f.slot] := by
      simp [Term.eval, State.fieldNamed?, hi, hst, hsa, hcell, hss, Array.getElem?_eq_getElem hlt]
    cases he.symm.trans hv
    exact ⟨c, k, i, f, a, cell, _, hc, hi, hst, hsa, hcell, hss, hcls, hlt, hty, Array.getElem?_eq_getElem hlt, hr, (Array.getElem?_eq_some_iff.mp hcell).1⟩
  · exact ai_face (ai_fw_face w h).1 (ai_fw_face w h).2 (State.WarmedH.refl s) (hts w (of_decide_eq_true (List.all_eq_true.mp w5 w h)))
  · have h := List.all_eq_true.mp (List.all_eq_true.mp st_nc x (List.mem_range.mpr hx)) y (List.mem_range.mpr hy)
    simp only [Bool.or_eq_true, decide_eq_true_eq] at h
    exact va_Nc.of (hf _ (h.resolve_left hxy))
theorem st_strs {s : State} {A : Array Value} (hts : ∀ w ∈ lw_tbl, w.before A s = true) (hg : (Jvm.Cond.and given_1 narrow_1).before A s = true) : ai_str s := by
  intro q hq
  have h := List.all_eq_true.mp st_str q hq
  simp only [Bool.and_eq_true, decide_eq_true_eq] at h
  obtain ⟨a, c, cell, k, h1, -⟩ := Cond.exactly_spec (flat_of_before _ hg _ h.1)
  exact ⟨a, vk_R.of (hts _ h.2) h1⟩
def R_law : String := "FixtureTablesLaw"
def lw_P (b : Addr) (xs : List Int32) (args : Array Value) (s : State) : Prop := args = #[.ref b] ∧ s.IntsAt b xs ∧ xs.length ≤ 2560 ∧ (Jvm.Cond.and given_1 narrow_1).before args s = true
def lw_Q (_ : Array Value) (s : State) (o : Outcome) (t : State) : Prop := o = .returned (some (.int 1)) ∧ Framed s o t [] 601024 7293034
def lw_Z (below : List Frame) (a : Array Value) (s : State) : State → Prop := fun t => ∃ o, t.status = .running ∧ Ended t below o ∧ lw_Q a s o t
/-- what holds at the law's entry -/
def lw_At (p : Program) (e : Env) (s : State) (m : MethodId) (meth : Method) (c : Code) (b L : Nat) (xs : Nat → Int32) : Prop :=
  p.tables.exec = Jvm.exec ∧ c.code = code ∧ meth.sig.returnType = ret ∧ c.maxLocals = 8 ∧ s.vm.findClass R_law = some m.cls ∧ (∀ w ∈ lw_tbl, w.before #[Value.ref b] s = true) ∧ va_X b L xs s s.heap ∧ b < s.heap.size ∧ meth.locks = false ∧ (Jvm.Cond.and given_1 narrow_1).before #[Value.ref b] s = true ∧
  meth.name = "law" ∧ c.exceptionTable.isEmpty = true ∧ e.platform.stackTraces = false
theorem st_same {s t : State} {L : List Loc} {k n : Nat} (h : s.sameButNew t L k n) (hL : ∀ q ∈ L, s.heap.size ≤ q.base) : s.sameButNew t [] k n := by
  obtain ⟨h1, h2, h3, h4, h5, h6⟩ := h
  refine ⟨h1, h2, h3, h4, h5, fun a c hc => ?_⟩
  obtain ⟨c', e1, e2, e3, e4⟩ := h6 a c hc
  exact ⟨c', e1, e2, e3, fun i _ => e4 i (fun q => absurd (Array.getElem?_eq_some_iff.mp hc).1 (Nat.not_lt.mpr (hL _ q)))⟩
/-- the law's own start: a script, and nothing made yet -/
def ai_ls0 : ai_L := [some (.inr (.inr 100)), none, none, none, none, none, none, none]
def ai_h0 : ai_H := (0, [], fun _ _ => 0)
def ai_true (o : ai_O) : Prop := ∃ h' : ai_H, o = (.inl (some (.inl 1)), h')
theorem ai_start {p : Program} {e : Env} {s : State} {m : MethodId} {below : List Frame} {meth : Method} {c : Code} (l : Launch) (hl : ai_stOK l) {b L : Nat} {xs : Nat → Int32} (hL : L ≤ 2560) (C0 : lw_At p e s m meth c b L xs)
    (K : ∀ sc : Int × (Int → Int), 0 ≤ sc.1 → sc.1 ≤ 2560 → (∀ j, -2147483648 ≤ sc.2 j ∧ sc.2 j ≤ 2147483647) → ai_wp sc ai_law 0 ai_ls0 [] (0, 0) ai_h0 ai_true) : W p l e room_1 s m #[Value.ref b] below meth c s.heap [] 0 0 (lw_Z below #[Value.ref b] s) (entryFrame m ([Value.ref b] : List Value).toArray 8) := by
  obtain ⟨c1, c2, c3, c4, c5, c6, c7, c8, c9, c10, c11, c12, c13⟩ := C0
  have hWS : ∀ w ∈ ai_WS, w.before #[Value.ref b] s = true := fun w h => c6 w (List.mem_filter.mp h).1
  obtain ⟨cA, hcA⟩ := st_tys c6
  obtain ⟨D, hD⟩ := st_cls hWS
  have hK : va_K D vwCl (ai_tys cA) s := ⟨hD, fun k q hq => by
    obtain ⟨h1, rfl⟩ := ai_tab_some hq
    exact hcA k h1⟩
  have F : ai_F p e s m #[Value.ref b] meth c ai_law := ⟨c1, c2, c4, c3, hWS, c5, c9, c11, by rw [Array.isEmpty_iff.mp c12]; rfl, st_strs c6 c10, c13⟩
  have hsc : ai_scr (Int.ofNat L, fun j => (xs j.toNat).toInt) s.heap.size b s := ⟨L, xs, c7, c8, by omega, rfl, fun j _ => by
    show xs j = Int32.ofInt ((xs (Int.ofNat j).toNat).toInt)
    rw [Int32.ofInt_toInt]
    rfl⟩
  have hwp := K (Int.ofNat L, fun j => (xs j.toNat).toInt) (Int.natCast_nonneg L) (by show Int.ofNat L ≤ 2560; simp only [Int.ofNat_eq_natCast]; omega) (fun j => ⟨Int32.le_toInt _, Int32.toInt_le _⟩)
  have hS := ai_sound hl hwp p e s m #[Value.ref b] below meth c F hK (Nat.le_refl _) (st_env c6 c10) (fun _ => hsc) s.heap [] ((entryFrame m ([Value.ref b] : List Value).toArray 8).locals) ⟨Nat.zero_le _, fun k q hq => by cases hq⟩ va_S.rf ?_ (fun _ => rfl)
  · rw [show ai_pc ai_law 0 = 0 from rfl] at hS
    refine ai_mono ?_ hS
    rintro t ⟨o, ⟨h', rfl⟩, h2, h3, h4, h5, ⟨L', h6, h7⟩, h8⟩
    exact ⟨.returned (some (.int 1)), h2, h8, rfl, ⟨_, rfl⟩, h5, st_same h6 h7⟩
  · exact ai_lv0 (ai_ad s.heap.size b) [.inr (.inr 100)] (show ai_cats [.inr (.inr 100)] ≤ 8 by decide)
