/-! A THROW: the walk is begun anew at the state where it stands (so that what was written before is kept), then 'new E, dup, ldc, E(String), athrow'. -/
theorem ai_rebase {p : Program} {l : Launch} {e : Env} {R R' : Room} {s : State} {m : MethodId} {args : Array Value} {below : List Frame} {meth : Method} {c : Code} {T : State} {locs : List Loc} {cells slots : Nat} (X : Stand p l e R s m args below meth c T locs cells slots) (hf : R'.frames ≤ R.frames) (hlo : R'.locals ≤ R.locals) (hc : cells + R'.cells ≤ R.cells) (hs : slots + R'.slots ≤ R.slots) :
    Stand p l e R' (T.setFrames (.invoking m args :: below)) m args below meth c T [] 0 0 := by
  obtain ⟨g₀, hg⟩ := Option.isSome_iff_exists.mp X.here.top
  obtain ⟨r, hr⟩ := State.topJava?_eq_some.mp hg
  obtain ⟨t, ht, -⟩ := State.frames_cons hr
  have hcur : T.cur < T.threads.size := (Array.getElem?_eq_some_iff.mp ht).1
  have hfr : (T.setFrames (.invoking m args :: below)).frames = .invoking m args :: below := State.frames_setFrames _ hcur
  have hmeth : (T.setFrames (.invoking m args :: below)).vm.method? m = some meth := X.method'
  have hback : (T.setFrames (.invoking m args :: below)).setFrames T.frames = T := by
    rw [State.setFrames_setFrames, State.setFrames_self ht]
  have hcur' : (T.setFrames (.invoking m args :: below)).cur < (T.setFrames (.invoking m args :: below)).threads.size := State.cur_lt_of_frames hfr
  obtain ⟨t', ht', -⟩ := State.frames_cons hfr
  refine ⟨X.admits, X.cas, X.clock, hfr, ?_, ?_, hmeth, X.code, X.here, X.tail, State.WarmedH.refl (T.setFrames (.invoking m args :: below)), (State.stackLimits_setFrames _ _ _).symm, (State.stackBytes_setFrames _ _).symm, ?_⟩
  · have h0 := X.room
    have h1 := X.heapSize
    have h2 := X.used
    have h3 := X.book
    have e1 : s.localsInUse = (T.setFrames (.invoking m args :: below)).localsInUse := by
      rw [State.localsInUse_invoking X.frames X.method X.code, State.localsInUse_invoking hfr hmeth X.code]
    have e2 : (T.setFrames (.invoking m args :: below)).heap.size = T.heap.size := rfl
    have e3 : (T.setFrames (.invoking m args :: below)).slotsUsed = T.slotsUsed := rfl
    have e4 : (T.setFrames (.invoking m args :: below)).slotsTrue = T.slotsTrue := rfl
    have e5 := State.stackLimits_setFrames e.platform T (.invoking m args :: below)
    have e6 := State.stackBytes_setFrames T (.invoking m args :: below)
    have e7 := X.limits
    have e8 := X.bytes
    simp only [State.hasRoom, Bool.and_eq_true, decide_eq_true_eq, X.frames] at h0
    simp only [State.hasRoom, Bool.and_eq_true, decide_eq_true_eq, hfr, ← e1, e2, e3, e4, e5, e6, e7, e8]
    refine ⟨⟨⟨⟨?_, ?_⟩, ?_⟩, ?_⟩, h3⟩ <;> omega
  · have h0 := X.hears
    have ha := X.warmed.alike
    unfold State.hears at h0 ⊢
    split at h0
    · rw [State.code?_eq] at h0 ⊢
      show ((((T.vm.method? _).bind _).bind _).isSome) = true
      rw [ha.method?]
      exact h0
    · rfl
    · rfl
    · show (T.vm.method? m).any _ = true
      rw [ha.method?]
      exact h0
  · have h := (State.sameButNew.refl (T.setFrames (.invoking m args :: below)) ht').setFrames T.frames hcur'
    rw [hback] at h
    exact h
theorem ai_same_frames {A t : State} {fs : List Frame} {L : List Loc} {k n : Nat} (h : (A.setFrames fs).sameButNew t L k n) : A.sameButNew t L k n := ⟨by have h1 := h.1; rwa [State.setFrames_setFrames] at h1, h.2⟩
theorem ai_ZS_words {base : Nat} {U : State} {n d : String} (h : ai_ZS base U U.heap n d) (a : Array Value) : (Cond.laysStatic "java/lang/Throwable" n d).before a U = true ∧ (Cond.isRef (.static "java/lang/Throwable" n d)).before a U = true := by
  obtain ⟨c, k, i, f, ad, cell, v, h1, h2, h3, h4, h5, h6, h7, h8, h9, h10, h11, h12⟩ := h
  constructor
  · simp only [Cond.before, Cond.holds, Cond.value, h1, h2, h4, Option.bind_some, h5, Option.map_some, h3, h6, h7, h9]
    simp [h8]
  · have e : (Term.static "java/lang/Throwable" n d).eval a U none [] U = some v := by
      simp [Term.eval, State.fieldNamed?, h2, h3, h4, h5, h6, h10]
    simp only [Cond.before, Cond.holds, Cond.value, e, Option.map_some]
    cases v <;> first | rfl | cases h11
def ai_zw : List Cond := [.laysStatic "java/lang/Throwable" "UNASSIGNED_STACK" "[Ljava/lang/StackTraceElement;", .isRef (.static "java/lang/Throwable" "UNASSIGNED_STACK" "[Ljava/lang/StackTraceElement;"), .laysStatic "java/lang/Throwable" "SUPPRESSED_SENTINEL" "Ljava/util/List;", .isRef (.static "java/lang/Throwable" "SUPPRESSED_SENTINEL" "Ljava/util/List;")]
def ai_xs : List String := ["java/lang/RuntimeException", "java/lang/Exception"]
noncomputable def ai_ownk (w : Cond) : Bool := (decide (w ∈ lw_tbl) && goodWord w) || decide (w ∈ ai_fw) || decide (w ∈ ai_zw)
def ai_oA (X : String) : List Cond := Bundle.throwableAtoms ++ Bundle.throwableSAtoms ++ Bundle.chainSAtoms X ai_xs
def ai_oB (X : String) : List Cond := (Bundle.ownAtoms "" 0 X ai_xs).drop ((ai_oA X).length + 1)
theorem ai_own_eq (own : String) (ic : Nat) (X : String) : Bundle.ownAtoms own ic X ai_xs = ai_oA X ++ (.methodLink own ic ⟨X, "<init>", "(Ljava/lang/String;)V"⟩ :: ai_oB X) := rfl
set_option maxRecDepth 1000000 in
theorem ai_own_all : (List.range 4).all (fun x => (ai_oA (ai_xn x)).all ai_ownk && (ai_oB (ai_xn x)).all ai_ownk && decide (Cond.initialized (ai_xn x) ∈ lw_tbl) && decide (Cond.instantiable (ai_xn x) 6 ∈ lw_tbl) && Bundle.fit (ai_xn x)) = true := by decide +kernel
theorem ai_own_use {x : Nat} (hx : x < 4) {own : String} {ic : Nat} {s : State} {args : Array Value} {base : Nat} (hts : ∀ w ∈ ai_WS, w.before args s = true) (hE : ai_env base s) (hm : Cond.methodLink own ic ⟨ai_xn x, "<init>", "(Ljava/lang/String;)V"⟩ ∈ ai_WS) : ∀ w ∈ Bundle.ownAtoms own ic (ai_xn x) ai_xs, w.before args s = true := by
  have h0 := List.all_eq_true.mp ai_own_all x (List.mem_range.mpr hx)
  simp only [Bool.and_eq_true] at h0
  have one : ∀ w, ai_ownk w = true → w.before args s = true := by
    intro w hw
    unfold ai_ownk at hw
    simp only [Bool.or_eq_true, Bool.and_eq_true, decide_eq_true_eq] at hw
    rcases hw with (hw | hw) | hw
    · exact hts w (List.mem_filter.mpr ⟨hw.1, hw.2⟩)
    · exact ai_face (ai_fw_face w hw).1 (ai_fw_face w hw).2 (State.WarmedH.refl s) (hE.2.2.1 w hw)
    · have z1 := ai_ZS_words (hE.2.1 ("UNASSIGNED_STACK", "[Ljava/lang/StackTraceElement;") (by simp [ai_zt])) args
      have z2 := ai_ZS_words (hE.2.1 ("SUPPRESSED_SENTINEL", "Ljava/util/List;") (by simp [ai_zt])) args
      simp only [ai_zw, List.mem_cons, List.not_mem_nil, or_false] at hw
      rcases hw with rfl | rfl | rfl | rfl
      · exact z1.1
      · exact z1.2
      · exact z2.1
      · exact z2.2
  intro w hw
  rw [ai_own_eq] at hw
  rcases List.mem_append.mp hw with hw | hw
  · exact one w (List.all_eq_true.mp h0.1.1.1.1 w hw)
  · rcases List.mem_cons.mp hw with rfl | hw
    · exact hts _ hm
    · exact one w (List.all_eq_true.mp h0.1.1.1.2 w hw)
theorem ai_xn_words {x : Nat} (hx : x < 4) : Cond.initialized (ai_xn x) ∈ ai_WS ∧ Cond.instantiable (ai_xn x) 6 ∈ ai_WS ∧ Bundle.fit (ai_xn x) = true := by
  have h0 := List.all_eq_true.mp ai_own_all x (List.mem_range.mpr hx)
  simp only [Bool.and_eq_true, decide_eq_true_eq] at h0
  exact ⟨List.mem_filter.mpr ⟨h0.1.1.2, rfl⟩, List.mem_filter.mpr ⟨h0.1.2, rfl⟩, h0.2⟩

theorem ai_wm_eqW {m' : Nat} (h : ai_hh m' ≠ []) : ai_wm m' = Cond.codeWith (ai_mY m') (ai_mB m') (ai_mL m') (ai_mR m') (ai_hh m') :: ai_WS := by
  unfold ai_wm ai_cw
  split
  · rename_i z
    exact absurd z h
  · rfl
theorem ai_toMetW {sc : Int × (Int → Int)} {l : Launch} {D : va_G} {base b : Nat} {cA : Nat → ClassId} {m' : Nat} {vs : List ai_V} {h : ai_H} {P : ai_O → Prop} (hl : ai_stOK l) (hpl : plainName (ai_mY m').cls = true) (hcd : ai_hh m' ≠ []) (hlaw : m' ≠ ai_law) (hp0 : ai_pc m' 0 = 0) (hcat : ai_cats vs ≤ ai_mL m') (hC : ai_SND sc l D base b cA m' 0 (ai_en (ai_mL m') vs) [] (0, 0) h P) (hret : ∀ o, P o → ∃ v h', o = (.inl v, h')) :
    Met l (ai_mY m') (ai_wm m') (ai_rm m') (va_Pc (vs.map (ai_rn (ai_ad base b))) (ai_PcB D base b cA h)) (ai_Qc D base b cA P) (ai_mc m') (ai_ms m') (fun q => base ≤ q) := by
  refine va_MetW (cc := ai_mB m') (maxL := ai_mL m') (ret := ai_mR m') (hh := ai_hh m') (ws' := ai_WS) hpl (ai_wm_eqW hcd) ?_
  intro p e s mid args below meth c s₁ B hml hv
  obtain ⟨rfl, hWd, hK, hbs, hz, hst, hen⟩ := hv
  have hts := atoms_spec (ws := ai_wm m') B.pre
  have hex : c.exceptionTable.toList.map (fun x => (x.startPc, x.endPc, x.handlerPc, x.catchType)) = ai_hh m' := by
    have hc := hts (Cond.codeWith (ai_mY m') (ai_mB m') (ai_mL m') (ai_mR m') (ai_hh m')) (by rw [ai_wm_eqW hcd]; exact List.mem_cons_self)
    obtain ⟨m9, meth2, c2, hn9, h1, h2, -, -, h3, -⟩ := Cond.codeWith_spec hc
    cases B.named.symm.trans hn9
    cases B.method.symm.trans h1
    have hcode : meth.code = some c := by
      have h := B.here.code
      rw [State.code?_eq, B.method₁] at h
      exact h
    cases hcode.symm.trans h2
    exact h3
  have F : ai_F p e s mid _ meth c m' := ⟨B.exec, B.bytes, hml, B.returns, fun w hw => hts w (List.mem_cons_of_mem _ hw), findClass_of_methodNamed B.named, B.notSynchronized, (name_of_methodNamed B.named B.method).1, hex, hst, ai_stOK_use hl B.admits⟩
  rw [lg_entry_eq]
  have K := hC p e s mid _ below meth c F hK hbs hen (fun q => absurd q hlaw) s.heap [] _ hWd va_S.rf (ai_lv0 (ai_ad base b) vs hcat) (fun q => by have := hz q; show s.heap.size + 0 = _; omega)
  rw [hp0] at K
  refine ai_mono ?_ K
  rintro t ⟨o, h1, h2, h3, h4, h5, ⟨L, h6, h7⟩, h8⟩
  obtain ⟨v, h', rfl⟩ := hret o h1
  exact ⟨.returned (v.map (ai_rn (ai_ad base b))), h2, h8, ⟨v, h', h1, rfl, h3, h4⟩, L, ⟨⟨_, rfl⟩, h5, h6⟩, h7⟩
section AIW
variable {sc : Int × (Int → Int)} {l : Launch} {D : va_G} {base b : Nat} {cA : Nat → ClassId} {p : Program} {e : Env} {s : State} {mid : MethodId} {args : Array Value} {below : List Frame} {meth : Method} {c : Code} {m : Nat} {Q : ai_O → Prop} {i : Nat} {ls : ai_L} {st : List ai_V} {k : Nat × Nat} {h h' : ai_H}
theorem ai_runSW {y : MethodName} {ws : List Cond} {rm R : Room} {Pc : Array Value → State → Prop} {Qc : Array Value → State → Outcome → State → Prop} {mc ms maxL index : Nat} {free : Addr → Prop} {bytes : ByteArray} {ret : Option FieldType} {hh : List (Nat × Nat × Nat × Nat)} {own : String} {As rest : List Value} {g : JFrame} {H : Heap} {locs : List Loc} {cells slots : Nat} (hexec : p.tables.exec = Jvm.exec) (hown : s.vm.findClass own = some mid.cls) (hM : Met l y ws rm Pc Qc mc ms free) (hcw : Cond.codeWith y bytes maxL ret hh ∈ ws) (hws : ∀ w ∈ ws, ∀ (a' : Array Value) (U : State), s.WarmedH U.vm → w.before a' U = true) (hcb : (Cond.codeWith y bytes maxL ret hh).before args s = true) (hst : (Cond.static y).before args s = true) (hini : (Cond.initialized y.cls).before args s = true) (hl : (Cond.methodLink own index y).before args s = true) (hy : y.cls ≠ "java/lang/invoke/MethodHandle" ∧ y.cls ≠ "java/lang/invoke/VarHandle") (hrc : rm.cells = mc) (hrs : rm.slots = ms) (hR : rm.frames + 1 ≤ R.frames ∧ 8 + (maxL + 11) + rm.locals ≤ R.locals) (hp : PreS s H Pc As)
    (hlen : ∀ sig, parseMethodDescriptor y.desc = some sig → As.length = sig.parameters.length) (hg : g.method = mid) (hsize : g.locals.size = c.maxLocals) (hstack : g.stack = As.reverse ++ rest) (hW : 2 * g.monitorRoom + (rest.map fun v => v.category).sum ≤ 8) (hdg : decode c.code g.pc = .ok (.invokestatic index, 3)) (hf : cells + mc ≤ R.cells ∧ slots + ms ≤ R.slots) :
    va_Run p l e R s mid args below meth c H locs cells slots mc ms g rest (Qc As.toArray) free := by
  have hK : Back l R p e below s args y 3 8 (PreOf R mc ms Pc) (PostOf Qc mc ms free) := va_backW hM hp.1 hrc hrs hR.1 hR.2 hws hcw (fun a' U hW => word_at hW (Or.inl rfl) hini)
  intro T hT X
  obtain ⟨m9, methM, cM, hnamed, hmethM, -, -, -, -, -, -, hsig⟩ := Cond.codeWith_spec hcb
  have hstatic : methM.isStatic = true := Cond.static_spec hnamed hmethM hst
  obtain ⟨kP, hkP, -⟩ := className_of_methodNamed hnamed
  have hinitP : kP.init = .initialized := Cond.initialized_spec (findClass_of_methodNamed hnamed) hkP hini
  obtain ⟨vm₁, X₁, hstep₁⟩ := X.invokestatic hexec hown hl hnamed hmethM hstatic hkP hinitP hy (g := g) hg (argsL := As) (rest := rest) (hlen _ hsig) hstack hdg
  obtain ⟨v, ⟨U', l2, c2, s2⟩, X', ⟨g', mk, t, L, e1, e2, hq, h1, hL, h2, h3⟩, hsteps⟩ := hK mid meth c ⟨T.setVm vm₁, locs, cells, slots⟩ { g with stack := rest } (.invokestatic index) m9 As.toArray X₁ hg hsize hdg hW (X₁.named hnamed) ⟨hf.1, hf.2, hp.2 (T.setVm vm₁) hT X₁.warmed⟩
  dsimp only [Pt.U, Pt.locs, Pt.cells, Pt.slots] at X' e1 e2 h1 h2 h3 hsteps
  subst h1; subst h2; subst h3
  exact ⟨v, (T.setVm vm₁).calling g' mk As.toArray, t, U', L, hT, X', hL, e1, e2, hq, fun target h => hstep₁ _ fun acts => by rw [doInvoke_state]; exact hsteps.trans h⟩
theorem sn_callSW (F : ai_F p e s mid args meth c m) (hK : va_K D vwCl (ai_tys cA) s) {m' idx n : Nat} {vs r : List ai_V} {P : ai_O → Prop} (hM : Met l (ai_mY m') (ai_wm m') (ai_rm m') (va_Pc (vs.map (ai_rn (ai_ad base b))) (ai_PcB D base b cA h)) (ai_Qc D base b cA P) (ai_mc m') (ai_ms m') (fun q => base ≤ q)) (hcd : ai_hh m' ≠ []) (hgd : ∀ w ∈ ai_WS, (w.onTables && w.keeps) = true ∨ ∃ ty, w = .arrayClass ty) (hcw : ai_cw m' ∈ ai_WS) (hbs : base ≤ s.heap.size) (hE : ai_env base s) (hC : (ai_mY m').cls = (ai_mY m).cls) (hw1 : Cond.methodLink (ai_mY m).cls idx (ai_mY m') ∈ ai_WS) (hw2 : Cond.static (ai_mY m') ∈ ai_WS) (hw4 : Cond.initialized (ai_mY m).cls ∈ ai_WS) (hy : (ai_mY m').cls ≠ "java/lang/invoke/MethodHandle" ∧ (ai_mY m').cls ≠ "java/lang/invoke/VarHandle" ∧ (parseMethodDescriptor (ai_mY m').desc).map (fun d => d.parameters.length) = some n) (hlen : vs.length = n) (hR : (ai_rm m').frames + 1 ≤ (ai_rm m).frames ∧ 8 + (ai_mL m' + 11) + (ai_rm m').locals ≤ (ai_rm m).locals) (hcs : ai_cats r ≤ 8) (hf : k.1 + ai_mc m' ≤ ai_mc m ∧ k.2 + ai_ms m' ≤ ai_ms m) (hd : decode (ai_mB m) (ai_pc m i) = .ok (.invokestatic idx, 3)) (hn : ai_pc m (i + 1) = ai_pc m i + 3) (K : ∀ v h', P (.inl v, h') → (h.1 < 92 → h'.1 = h.1 + ai_mc m') ∧ (92 ≤ h.1 → 92 ≤ h'.1) ∧ ai_at l D base b cA p e s mid args below meth c m Q (i + 1) (ls) (v.toList ++ r) ((k.1 + ai_mc m', k.2 + ai_ms m')) (h')) : ai_at l D base b cA p e s mid args below meth c m Q (i) (ls) (vs.reverse ++ r) (k) (h) := by
  intro H locs lsM hW hS hL hZ T0 hT0 X0
  have hsz : h.1 < 92 → H.size = base + h.1 := fun q => ai_full hW hS hbs hZ q hT0 X0
  have hGood : GoodIn ai_WS (ai_wm m') := by
    intro w hw
    have hin : w ∈ ai_WS := by
      unfold ai_wm at hw
      rcases List.mem_cons.mp hw with rfl | hw
      · exact hcw
      · exact hw
    exact ⟨hin, hgd w hin⟩
  revert T0
  show W p l e (ai_rm m) s mid args below meth c H locs k.1 k.2 _ _
  have hcm : Cond.codeWith (ai_mY m') (ai_mB m') (ai_mL m') (ai_mR m') (ai_hh m') ∈ ai_wm m' := by rw [ai_wm_eqW hcd]; exact List.mem_cons_self
  have hrun := ai_runSW (l := l) (e := e) (below := below) (meth := meth) (locs := locs) (cells := k.1) (slots := k.2) (R := ai_rm m) (rm := ai_rm m') (c := c) (As := vs.map (ai_rn (ai_ad base b))) (rest := r.map (ai_rn (ai_ad base b))) (g := F0 mid (ai_pc m i) lsM ((vs.reverse ++ r).map (ai_rn (ai_ad base b)))) F.1 F.2.2.2.2.2.1 hM hcm (pay_in F.2.2.2.2.1 hGood) (F.2.2.2.2.1 _ (hGood _ hcm).1) (F.2.2.2.2.1 _ hw2) (by rw [hC]; exact F.2.2.2.2.1 _ hw4) (F.2.2.2.2.1 _ hw1) ⟨hy.1, hy.2.1⟩ rfl rfl hR ⟨ai_blind, (fun U hU hW' => ⟨rfl, by rw [hU]; exact hW, va_K.moved hW'.alike hK, by rw [hU]; exact Nat.le_trans hbs hS.1, fun q => by rw [hU]; exact hsz q, ai_str_warm hW' F.2.2.2.2.2.2.2.2.2.1, ai_env_at hE hS hU hW'⟩)⟩ (fun sig hsg => by
      have h2 := hy.2.2
      rw [hsg] at h2
      rw [List.length_map, hlen]
      exact (Option.some.inj h2).symm) rfl (hL.1.trans F.2.2.1.symm) (by simp [ai_rn]) (lv_room (by rw [ai_cats_eq]; exact hcs)) (by rw [F.2.1]; exact hd) hf
  refine ai_go hrun hS (fun v h' H1 locs1 hp hw1 hS1 => ?_)
  obtain ⟨hz1, hz2, K⟩ := K v h' hp
  have K := K H1 locs1 lsM hw1 hS1 hL (fun q => by
    have hle : h.1 < 92 := by
      by_cases hh : h.1 < 92
      · exact hh
      · exact absurd (hz2 (by omega)) (by omega)
    have := hZ hle
    have := hz1 hle
    show s.heap.size + (k.1 + ai_mc m') = base + h'.1
    omega)
  rw [hn] at K
  cases v <;> exact K
theorem sn_throw0 {Y : ai_J} {n : Nat} {x : ai_X} (F : ai_F p e s mid args meth c m) (hK : va_K D vwCl (ai_tys cA) s) (hbs : base ≤ s.heap.size) (hE : ai_env base s) (hd : decode (ai_mB m) (ai_pc m i) = .ok (.new n, 3)) (hx : ¬ x.2.2.1 = 0) (hok : ai_okI m i (ai_pc m i) x (.new n) = true) (hs : ai_ex sc Y m i ls st k h Q x (.new n)) : ai_at l D base b cA p e s mid args below meth c m Q (i) (ls) (st) (k) (h) := by
  have hok2 : ai_okx m i (ai_pc m i) x n = true := by
    have h0 : (match x.2.2.1 with
      | 0 => ai_nx m i (ai_pc m i + 3) && ai_okn m x n
      | _ => ai_okx m i (ai_pc m i) x n) = true := hok
    split at h0
    · rename_i z; exact absurd z hx
    · exact h0
  have hs : ai_new Y m i ls st k h Q x := hs
  unfold ai_new at hs
  split at hs
  · rename_i z; exact absurd z hx
  split at hs
  case h_2 => exact hs.elim
  have zz0 := hs
  clear hs
  obtain ⟨g1, hQ⟩ := ai_ck_true zz0
  obtain ⟨g1, g3⟩ := iv_and2 g1
  obtain ⟨g1, g2⟩ := iv_and2 g1
  have hz := iv_ble g1
  have hkc := iv_ble g2
  have hks := iv_ble g3
  unfold ai_okx at hok2
  obtain ⟨hok2, o6⟩ := iv_and2 hok2
  obtain ⟨hok2, o5⟩ := iv_and2 hok2
  obtain ⟨hok2, o4⟩ := iv_and2 hok2
  obtain ⟨hok2, o3⟩ := iv_and2 hok2
  obtain ⟨o1, o2⟩ := iv_and2 hok2
  have hhh : ai_hh m = [] := List.isEmpty_iff.mp o1
  have hx4 := iv_blt o4
  split at o6
  case h_2 => cases o6
  split at o6
  case h_2 => cases o6
  rename_i e3 he3 _ _ _ _ kx ic hd3 hd4 hd6 hd9
  obtain ⟨o7, o8⟩ := iv_and2 o6
  obtain ⟨q, hq, hqk⟩ := List.any_eq_true.mp o7
  obtain ⟨q1, q2⟩ := iv_and2 hqk
  have eq1 := of_decide_eq_true q1
  have eq2 : q.2.1 = kx := Nat.eq_of_beq_eq_true q2
  obtain ⟨hxi, hxn, hfit⟩ := ai_xn_words hx4
  intro H locs lsM hW hS hL hZ T hT X
  have X' := ai_rebase (R' := { frames := ai_mf m, cells := 1, slots := 6, locals := ai_mw m }) X (Nat.le_refl _) (Nat.le_refl _) hkc hks
  have hWs : s.WarmedH (T.setFrames (.invoking mid args :: below)).vm := X.warmed
  have hts' : ∀ w ∈ ai_WS, w.before args (T.setFrames (.invoking mid args :: below)) = true := fun w hw => word_at hWs (ai_WS_good w hw) (F.2.2.2.2.1 w hw)
  have hE' : ai_env base (T.setFrames (.invoking mid args :: below)) := ai_env_at hE hS hT hWs
  have hown' : (T.setFrames (.invoking mid args :: below)).vm.findClass (ai_mY m).cls = some mid.cls := by
    show T.vm.findClass _ = _
    rw [X.warmed.alike.findClass]
    exact F.2.2.2.2.2.1
  obtain ⟨msg, hmsg⟩ := F.2.2.2.2.2.2.2.2.2.1 q hq
  have hmsg' : vk_R (ai_mY m).cls kx q.2.2 msg (T.setFrames (.invoking mid args :: below)) := by
    have h9 := vk_R.warm (U := T.setFrames (.invoking mid args :: below)) hWs hmsg
    rw [eq1, eq2] at h9
    exact h9
  have hatoms := ai_own_use (base := base) hx4 (own := (ai_mY m).cls) (ic := ic) hts' hE' (ai_wd_in o8)
  have hexc : ∀ y ∈ c.exceptionTable.toList, covers y (ai_pc m i + 6 + 3) = false := by
    have h9 := F.2.2.2.2.2.2.2.2.1
    rw [hhh] at h9
    have h10 : c.exceptionTable.toList = [] := List.map_eq_nil_iff.mp h9
    rw [h10]
    intro y hy
    cases hy
  refine (show W p l e { frames := ai_mf m, cells := 1, slots := 6, locals := ai_mw m } (T.setFrames (.invoking mid args :: below)) mid args below meth c H [] 0 0 (ai_MQ D base b cA below s m Q) (F0 mid (ai_pc m i) lsM []) from ?_) T hT X'
  refine W.newc F.1 F.2.1 hown' (hts' _ (ai_wd_in o5)) (hts' _ hxn) (hts' _ hxi) rfl hd (Nat.le_refl _) (Nat.le_refl _) fun cC kC f1 f2 f3 f4 => ?_
  refine lv_dup F.1 F.2.1 hd3 rfl ?_
  refine va_ldcS F.1 F.2.1 hown' hmsg' hd4 ?_
  intro T1 hT1 X1
  obtain ⟨U, u1, u2, u3, u4, u5, ce, u6, u7⟩ := X1.ctorThrowS F.1 F.2.2.2.2.2.2.2.2.2.2 hown' hfit (by decide +kernel) hatoms (fun _ hy => by cases hy) f1 f2 (a := H.size) (by rw [hT1]; simp [freshCell]) (by show T.heap.size ≤ H.size; rw [hT]; exact Nat.le_refl _) (msg := .ref msg) rfl (g := F0 mid (ai_pc m i + 3 + 1 + 2) lsM [.ref msg, .ref H.size, .ref H.size]) rfl (hL.1.trans F.2.2.1.symm) rfl rfl (rest := []) rfl (by rw [F.2.1]; exact hd6) (by rw [F.2.1]; exact hd9) hexc (by have := iv_ble o2; show 2 + 3 < ai_mf m; omega) (by have := iv_ble o3; show 2 * 0 + (1 + 0) + (13 * (2 + 1) + 42) ≤ ai_mw m; omega) F.2.2.2.2.2.2.1
  have hheap : ∀ q9 : Nat, q9 < H.size → U.heap[q9]? = H[q9]? := by
    intro q9 hq9
    obtain ⟨c9, hc9⟩ : ∃ c9, T.heap[q9]? = some c9 := ⟨_, Array.getElem?_eq_getElem (by rw [hT]; exact hq9)⟩
    obtain ⟨c8, k1, k2, k3, k4⟩ := u5.2.2.2.2.2 q9 c9 hc9
    have hsl : c8.slots = c9.slots := Array.ext_getElem? (fun z => k4 z (by simp))
    have e9 : c8 = c9 := by rw [k2, hsl]
    show U.heap[q9]? = _
    rw [← hT, hc9, ← e9]
    exact k1
  have hsz : T.heap.size ≤ U.heap.size := u5.2.1
  refine ⟨U, u1, (.inr x.1, h), hQ, u2, ⟨hW.1, hW.2.kept (fun k9 q9 hk9 => hheap q9.1 ((hW.2 k9 q9 hk9).lt))⟩, ⟨Nat.le_trans hS.1 (by rw [← hT]; exact hsz), fun q9 h1 h2 => (hheap q9 (Nat.lt_of_lt_of_le h1 hS.1)).trans (hS.2.1 q9 h1 h2)⟩, State.WarmedH.trans X.warmed u4, ⟨locs ++ [], ?_, fun q9 hq9 => hS.2.2 q9 (by simpa using hq9)⟩, H.size, ce, u3, u6, u7.vm, ?_⟩
  · have h7 : ((T.setVm s.vm).setFrames (.invoking mid args :: below)).sameButNew _ [] (0 + 1) (0 + 6) := u5.setVm s.vm
    have h8 := X.same.trans (ai_same_frames h7)
    exact h8.mono hkc hks
  · have h8 := u7.cls
    have h9 : T.vm.findClass (ai_xn x.1) = some ce.cls := h8
    rw [← X.warmed.alike.findClass]
    exact h9
end AIW
