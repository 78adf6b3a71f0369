/-! A CATCH: a call that throws, in a method with handlers; the handlers' classes may not be resolved yet. -/
theorem ai_go_cold {E : CtlPost} {e : Env} {d : Bool} {acts : List Action} {s : State} {f : JFrame} {a : Addr} {Q : Handler → Pre} {x : ExceptionTableEntry} {t : List ExceptionTableEntry} {c : ClassId} {cell : Cell} {vm' : Vm} (hx : covers x f.pc = true) (h0 : x.catchType ≠ 0)
    (hg : (Jvm.resolveClass f.method.cls x.catchType).Gives e.toSetting s.vm (.ok c) vm') (hsz : vm'.classes.size ≤ s.vm.classes.size) (hcell : s.heap[a]? = some cell) (hobj : ∀ k, cell.vm ≠ .statics k)
    (hk : ∃ k, vm'.classes[cell.cls]? = some k) (hc : ∃ k, vm'.classes[c]? = some k) :
    Sem.wp (findHandler.go f a (x :: t)) Q E e d acts s ↔ if vm'.assignable cell.cls c = true then Q (.found x.handlerPc) d acts (s.setVm vm') else Sem.wp (findHandler.go f a t) Q E e d acts (s.setVm vm') := by
  simp only [covers] at hx
  obtain ⟨ha, ht⟩ := hg.op (op := VmOp.resolveClass f.method.cls x.catchType) rfl
  have hcell' : (s.setVm vm').heap[a]? = some cell := hcell
  cases hfit : vm'.assignable cell.cls c <;>
    simp [findHandler.go, hx, h0, ha, ht, hsz, hcell', hcell, hobj, hk, hc, hfit, VmOp.dirties, VmOp.acts]
/-- the first handler whose class is that of the exception -/
def ai_fst : List ExceptionTableEntry → List Nat → Nat → Option Nat
  | e :: L, y :: cs, x => if y = x then some e.handlerPc else ai_fst L cs x
  | _, _, _ => none
def ai_hk (own : String) (args : Array Value) (s : State) (pc : Nat) : List ExceptionTableEntry → List Nat → Prop
  | e :: L, y :: cs => (covers e pc = true ∧ e.catchType ≠ 0 ∧ y < 4 ∧ (Cond.classLink own e.catchType (ai_xn y)).before args s = true) ∧ ai_hk own args s pc L cs
  | [], [] => True
  | _, _ => False
theorem ai_find {e : Env} {s S0 : State} {args : Array Value} {own : String} {f : JFrame} {a : Addr} {ce : Cell} {x hp base : Nat} (hpl : e.platform.magicAccessors = ({} : Platform).magicAccessors) (hown : s.vm.findClass own = some f.method.cls) (hE : ai_env base s) (hx4 : x < 4) (hcell : S0.heap[a]? = some ce) (hvm : ce.vm = .none) (hcls : s.vm.findClass (ai_xn x) = some ce.cls) (hcx : ∀ y, y < 4 → ∃ z k, s.vm.findClass (ai_xn y) = some z ∧ s.vm.classes[z]? = some k) :
    ∀ (L : List ExceptionTableEntry) (cs : List Nat) (V : Vm), ai_hk own args s f.pc L cs → ai_fst L cs x = some hp → s.WarmedH V → ∃ vm', s.WarmedH vm' ∧ ∀ (Q : Handler → Pre) (E : CtlPost) (d : Bool) (acts : List Action), Sem.wp (findHandler.go f a L) Q E e d acts (S0.setVm V) ↔ Q (.found hp) d acts (S0.setVm vm') := by
  intro L
  induction L with
  | nil => intro cs V _ h2 _; cases cs <;> simp [ai_fst] at h2
  | cons e0 L ih =>
    intro cs V h1 h2 hV
    cases cs with
    | nil => simp [ai_fst] at h2
    | cons y cs =>
      obtain ⟨⟨k1, k2, k3, k4⟩, h1⟩ := h1
      obtain ⟨cy, hfy, hcl⟩ := Cond.classLink_spec hown k4 e.platform hpl
      obtain ⟨hg, hwarm, -⟩ := State.classEntry (e := e) hV hcl
      generalize V.noted f.method.cls e0.catchType (.cls cy) = vm₁ at hg hwarm
      have hal : V.Alike vm₁ := hV.alike.symm.trans hwarm.alike
      have hcls1 : ∀ y, y < 4 → ∀ z : ClassId, s.vm.findClass (ai_xn y) = some z → ∃ k, vm₁.classes[z]? = some k := by
        intro y hy z hn
        obtain ⟨z2, k, hz2, hk⟩ := hcx y hy
        cases hn.symm.trans hz2
        obtain ⟨k', hk', -⟩ := hwarm.alike.2.2 _ _ hk
        exact ⟨k', hk'⟩
      have hgo := fun (Q : Handler → Pre) (E : CtlPost) (d : Bool) (acts : List Action) => ai_go_cold (E := E) (d := d) (acts := acts) (Q := Q) (s := S0.setVm V) (f := f) (a := a) (t := L) k1 k2 hg hal.size_le hcell (fun k => by rw [hvm]; exact fun z => by cases z) (hcls1 x hx4 _ hcls) (hcls1 y k3 _ hfy)
      by_cases hyx : y = x
      · subst hyx
        have hp' : e0.handlerPc = hp := by simpa [ai_fst] using h2
        refine ⟨vm₁, hwarm, fun Q E d acts => ?_⟩
        rw [hgo]
        have has : vm₁.assignable ce.cls cy = true := by
          have e1 : cy = ce.cls := Option.some.inj (hfy.symm.trans hcls)
          have hc : (Cond.castable (ai_xn y) (ai_xn y)).before #[] s = true := hE.2.2.1 _ (by
            rcases (show y = 0 ∨ y = 1 ∨ y = 2 ∨ y = 3 by omega) with rfl | rfl | rfl | rfl <;> simp [ai_fw, ai_xn, ai_gd, ai_nth, ai_xnT])
          obtain ⟨c1, t1, z1, z2, z3⟩ := Cond.castable_spec hc
          cases z1.symm.trans hcls
          cases z2.symm.trans hfy
          rw [hwarm.alike.assignable]
          exact z3
        rw [if_pos has, hp']
        rfl
      · have h3 : ai_fst L cs x = some hp := by simpa [ai_fst, hyx] using h2
        obtain ⟨vm', hw', hQ⟩ := ih cs vm₁ h1 h3 hwarm
        refine ⟨vm', hw', fun Q E d acts => ?_⟩
        rw [hgo]
        have has : ¬ vm₁.assignable ce.cls cy = true := by
          obtain ⟨c1, t1, z1, z2, z3⟩ := hE.2.2.2 x hx4 y k3 (fun z => hyx z.symm)
          cases z1.symm.trans hcls
          cases z2.symm.trans hfy
          rw [hwarm.alike.assignable, z3]
          decide
        rw [if_neg has]
        exact hQ Q E d acts
def ai_QT (D : va_G) (base b : Nat) (cA : Nat → ClassId) (P : ai_O → Prop) (mc ms : Nat) : Array Value → State → Outcome → State → Prop := fun _ st oc t => ∃ (x : Nat) (h' : ai_H) (a : Nat) (ce : Cell), P (.inr x, h') ∧ oc = .threw a ∧ ai_Wd D base b cA h' t.heap ∧ va_F (fun q => base ≤ q) st t ∧ t.heap[a]? = some ce ∧ ce.vm = .none ∧ st.vm.findClass (ai_xn x) = some ce.cls ∧ st.WarmedH t.vm ∧ ∃ L, st.sameButNew ({ t with vm := st.vm } : State) L mc ms ∧ ∀ q ∈ L, base ≤ q.base
theorem ai_toMetT {sc : Int × (Int → Int)} {l : Launch} {D : va_G} {base b : Nat} {cA : Nat → ClassId} {m' : Nat} {vs : List ai_V} {h : ai_H} {P : ai_O → Prop} (hl : ai_stOK l) (hpl : plainName (ai_mY m').cls = true) (hcd : ai_hh m' = []) (hlaw : m' ≠ ai_law) (hp0 : ai_pc m' 0 = 0) (hcat : ai_cats vs ≤ ai_mL m') (hC : ai_SND sc l D base b cA m' 0 (ai_en (ai_mL m') vs) [] (0, 0) h P) (hthr : ∀ o, P o → ∃ v h', o = (.inr v, h')) :
    MetFree l (ai_mY m') (headSpec (ai_wm m') (ai_rm m')) (va_Pc (vs.map (ai_rn (ai_ad base b))) (ai_PcB D base b cA h)) (fun _ _ _ _ _ => True) (ai_QT D base b cA P (ai_mc m') (ai_ms m')) := by
  refine MetFree.of_bodyS (code := ai_mB m') (maxLocals := ai_mL m') (ret := ai_mR m') hpl ?_ ?_
  · intro args s m hh hn
    obtain ⟨meth, c, h1, h2, h3, h4, h5, h6, -, -⟩ := Cond.code_spec hn (atoms_spec (ws := ai_wm m') hh _ (by rw [ai_wm_eq hcd]; exact List.mem_cons_self))
    exact ⟨meth, c, h1, h2, h3, h4, h5, h6⟩
  · intro p e s mid args below meth c s₁ B hml hv _
    obtain ⟨rfl, hWd, hK, hbs, hz, hst, hen⟩ := hv
    have hts := atoms_spec (ws := ai_wm m') B.pre
    have hcode : meth.code = some c := by
      have h := B.here.code
      rw [State.code?_eq, B.method₁] at h
      exact h
    have hex : c.exceptionTable.toList.map (fun x => (x.startPc, x.endPc, x.handlerPc, x.catchType)) = ai_hh m' := by
      have hc := hts (Cond.code (ai_mY m') (ai_mB m') (ai_mL m') (ai_mR m')) (by rw [ai_wm_eq hcd]; exact List.mem_cons_self)
      rw [hcd]
      obtain ⟨meth2, c2, h1, h2, -, -, -, -, h3, -⟩ := Cond.code_spec B.named hc
      cases B.method.symm.trans h1
      cases hcode.symm.trans h2
      rw [Array.isEmpty_iff.mp h3]
      rfl
    have F : ai_F p e s mid _ meth c m' := ⟨B.exec, B.bytes, hml, B.returns, fun w hw => hts w (List.mem_cons_of_mem _ hw), findClass_of_methodNamed B.named, B.notSynchronized, (name_of_methodNamed B.named B.method).1, hex, hst, ai_stOK_use hl B.admits⟩
    have K := hC p e s mid _ below meth c F hK hbs hen (fun q => absurd q hlaw) s.heap [] _ hWd va_S.rf (ai_lv0 (ai_ad base b) vs hcat) (fun q => by have := hz q; show s.heap.size + 0 = _; omega)
    rw [hp0] at K
    have hh0 : s₁.heap = s.heap := by rw [B.state]; rfl
    have K2 : W p l e (ai_rm m') s mid (vs.map (ai_rn (ai_ad base b))).toArray below meth c s.heap [] 0 0 (ai_MQ D base b cA below s m' P) (entryFrame mid (vs.map (ai_rn (ai_ad base b))).toArray (ai_mL m')) := by
      rw [lg_entry_eq]
      exact K
    obtain ⟨t, a1, o, h1, h2, h3, h4, h5, ⟨L, h6, h7⟩, h8⟩ := K2 s₁ hh0 (Stand.of_body B)
    obtain ⟨v, h', rfl⟩ := hthr o h1
    obtain ⟨a, ce, g1, g2, g3, g4⟩ := h8
    exact ⟨t, .threw a, a1, h2, g1, v, h', a, ce, h1, rfl, h3, h4, g2, g3, g4, h5, L, h6, h7⟩
/-- a call that throws: its own frame is there again, with the note above it -/
theorem ai_callT {p : Program} {l : Launch} {e : Env} {R : Room} {s : State} {m : MethodId} {args : Array Value} {below : List Frame} {meth : Method} {c : Code} {U : State} {locs : List Loc} {cells slots : Nat} (X : Stand p l e R s m args below meth c U locs cells slots) {y : MethodName} {S : Spec} {Pc : Array Value → State → Prop} {Qc : Array Value → State → Outcome → State → Prop} {bytes : ByteArray} {maxL mc ms : Nat} {ret : Option FieldType} {a : Array Value} {g : JFrame} {ig : Instr} {len : Nat} {mk : MethodId}
    (hM : MetFree l y S Pc (fun _ _ _ _ _ => True) Qc) (hframes : S.room.frames + 1 ≤ R.frames) (hlocals : 8 + (maxL + 11) + S.room.locals ≤ R.locals) (h1 : S.pre.before a U = true) (h2 : (Cond.code y bytes maxL ret).before a U = true) (h3 : (Cond.initialized y.cls).before a U = true) (h4 : cells + S.room.cells ≤ R.cells) (h5 : slots + S.room.slots ≤ R.slots)
    (hg : g.method = m) (hsize : g.locals.size = c.maxLocals) (hdg : decode c.code g.pc = .ok (ig, len)) (hW : 2 * g.monitorRoom + (g.stack.map fun v => v.category).sum ≤ 8) (hn : U.methodNamed? y = some mk) (hP : Pc a (U.calling g mk a))
    {EL : List Loc → Prop} (hQ : ∀ o t, Qc a (U.calling g mk a) o t → ∃ v L, o = .threw v ∧ (U.calling g mk a).WarmedH t.vm ∧ (U.calling g mk a).sameButNew ({ t with vm := (U.calling g mk a).vm } : State) L mc ms ∧ EL L) :
    ∃ (v : Addr) (t U2 : State) (L : List Loc), Qc a (U.calling g mk a) (.threw v) t ∧ U2.heap = t.heap ∧ U2.vm = t.vm ∧ EL L ∧ Stand p l e R s m args below meth c U2 (locs ++ L) (cells + mc) (slots + ms) ∧ Steps p.tables e below (doInvoke e (U.setTop g) [] mk a).1 ((U2.setTop g).pushFrame (.throwing v)) := by
  subst hg
  obtain ⟨methY, cY, hmY, hcY, -, hlY, -, -, -, -⟩ := Cond.code_spec hn h2
  obtain ⟨kY, hkY, -⟩ := className_of_methodNamed hn
  have hinitY : kY.init = .initialized := Cond.initialized_spec (findClass_of_methodNamed hn) hkY h3
  have happ : S.appliesLoose y e.platform (U.calling g mk a) = true :=
    Spec.appliesLoose_calling (g := g) X.here hdg hn hkY hinitY (X.room_calling (g := g) (R' := S.room) hsize hmY hcY hframes (by rw [hlY]; omega) h4 h5) h1
  obtain ⟨mid, hmid⟩ := X.here.above
  have hfr : (U.setTop g).frames = (.java g :: mid) ++ below := by rw [State.frames_setTop' g X.here.top, hmid]; rfl
  obtain ⟨o, s₂, hsteps, -, hend, hq⟩ := Steps.callFree hM p X.admits X.cas X.clock (acts := []) hfr happ hP trivial
  have hq' : Qc a (U.calling g mk a) o s₂ := hq
  rw [State.frames_setTop' g X.here.top] at hend
  obtain ⟨v, L, rfl, hW₂, hsm, hEL⟩ := hQ o s₂ hq'
  obtain ⟨e2, q2, q3, q4, q5, q6⟩ := hsm
  have hf₂ : s₂.frames = .throwing v :: .java g :: U.frames.tail := hend
  have e3 : s₂ = ({ (U.calling g mk a).setFrames s₂.frames with heap := s₂.heap, slotsUsed := s₂.slotsUsed } : State).setVm s₂.vm := by
    have h9 : s₂ = ({ s₂ with vm := (U.calling g mk a).vm } : State).setVm s₂.vm := rfl
    rw [e2] at h9
    exact h9
  have hW' : U.WarmedH s₂.vm := hW₂
  obtain ⟨g₀, hg0⟩ := Option.isSome_iff_exists.mp X.here.top
  obtain ⟨r, hr⟩ := State.topJava?_eq_some.mp hg0
  obtain ⟨t0, ht0, -⟩ := State.frames_cons hr
  have hs₂ : s₂ = ((({ U with heap := s₂.heap, slotsUsed := s₂.slotsUsed } : State).setVm s₂.vm).setTop g).pushFrame (.throwing v) := by
    have hr' : (({ U with heap := s₂.heap, slotsUsed := s₂.slotsUsed } : State).setVm s₂.vm).frames = .java g₀ :: r := hr
    refine e3.trans ?_
    rw [hf₂, State.calling_eq X.here.top, State.setFrames_setFrames, State.pushFrame, State.frames_setTop _ hr', State.setTop_of_frames _ hr', State.setFrames_setFrames, hr]
    rfl
  have hsame : U.sameButNew ({ U with heap := s₂.heap, slotsUsed := s₂.slotsUsed } : State) L mc ms := by
    refine ⟨?_, q2, q3, q4, q5, q6⟩
    show ({ U with heap := s₂.heap, slotsUsed := s₂.slotsUsed } : State) = { U.setFrames U.frames with heap := s₂.heap, slotsUsed := s₂.slotsUsed }
    rw [State.setFrames_self ht0]
  refine ⟨v, s₂, (({ U with heap := s₂.heap, slotsUsed := s₂.slotsUsed } : State).setVm s₂.vm), L, hq', rfl, rfl, hEL, ⟨X.admits, X.cas, X.clock, X.frames, X.room, X.hears, X.method, X.code, (X.here.setHeapUsed s₂.heap s₂.slotsUsed).setVm hW'.alike, X.tail, State.WarmedH.trans X.warmed hW', X.limits, X.bytes, X.same.trans (hsame.setVm s.vm)⟩, ?_⟩
  rw [← hs₂]
  exact hsteps
/-- into a handler whose class may have been resolved on the way -/
theorem ai_caught {tb : Tables} {e : Env} {s target : State} {g : JFrame} {c : Code} {below : List Frame} {a : Addr} {vm' : Vm} (h : At s g.method c below) {pc : Nat} (hal : s.vm.Alike vm')
    (hfind : ∀ (Q : Handler → Pre) (E : CtlPost) (d : Bool) (acts : List Action), Sem.wp (findHandler g a) Q E e d acts ((s.setTop g).pushFrame (.throwing a)) ↔ Q (.found pc) d acts (((s.setTop g).pushFrame (.throwing a)).setVm vm'))
    (hrest : Steps tb e below ((s.setVm vm').setTop { g with pc := pc, stack := [.ref a] }) target) :
    Steps tb e below ((s.setTop g).pushFrame (.throwing a)) target := by
  obtain ⟨hgo, hw⟩ := h.throwing a
  refine Steps.head hgo hw ?_
  have hst : (stepThrowing e ((s.setTop g).pushFrame (.throwing a)) a (.java g :: s.frames.tail)).Is ((((s.setTop g).pushFrame (.throwing a)).setVm vm').setFrames (.java { g with pc := pc, stack := [.ref a] } :: s.frames.tail)) [] := by
    simp only [stepThrowing, searchFrame, vmDo]
    generalize hr : Sem.go _ e false [] _ = res
    obtain ⟨as, rfl, ha⟩ := Sem.eq_ok_of hr (a := Handler.found pc) (s' := ((s.setTop g).pushFrame (.throwing a)).setVm vm') (acts' := []) (by simp [hfind _ _ _ _])
    exact ⟨rfl, ha⟩
  rw [stepThread_throwing (frames_entered h.top _), hst.1]
  obtain ⟨g₀, hg⟩ := Option.isSome_iff_exists.mp h.top
  obtain ⟨r, hr⟩ := State.topJava?_eq_some.mp hg
  have hr' : (s.setVm vm').frames = .java g₀ :: r := hr
  rw [State.setTop_of_frames _ hr'] at hrest
  have e1 : (((s.setTop g).pushFrame (.throwing a)).setVm vm').setFrames (.java { g with pc := pc, stack := [.ref a] } :: s.frames.tail) = (s.setVm vm').setFrames (.java { g with pc := pc, stack := [.ref a] } :: r) := by
    rw [State.pushFrame, State.setTop_of_frames _ hr, hr]
    show (((s.setVm vm').setFrames _).setFrames _).setFrames _ = _
    rw [State.setFrames_setFrames, State.setFrames_setFrames]
    rfl
  rw [e1]
  exact hrest

/-- the handlers of a method, as the tables have them -/
noncomputable def ai_hw (x : Nat) : Nat := ai_gd 0 [2064, 2145, 3068, 4036] x
noncomputable def ai_okH (m pc : Nat) : List (Nat × Nat × Nat × Nat) → List (Nat × Nat × Nat) → Bool
  | (s, e, hp, ct) :: L, (x, t, sl) :: cs => Nat.ble s pc && Nat.blt pc e && !Nat.beq ct 0 && Nat.blt x 4 && ai_wd (ai_hw x) (.classLink (ai_mY m).cls ct (ai_xn x)) && Nat.ble 1 t && Nat.blt sl (ai_mL m) && (match ai_nth (ai_ops m) (t - 1) with
    | some en => Nat.beq en.1 hp && (match en.2.1 with
      | .astore n => Nat.beq n sl && ai_nx m (t - 1) (hp + 2)
      | .astore_n n => Nat.beq n.val sl && ai_nx m (t - 1) (hp + 1)
      | _ => false)
    | none => false) && ai_okH m pc L cs
  | [], [] => true
  | _, _ => false
noncomputable def ai_okT (m i : Nat) : Bool := match ai_nth (ai_ops m) i with
  | some en => match en.2.1 with
    | .invokevirtual _ => Nat.beq en.2.2.2.1.2.2.1 0 || ai_okH m en.1 (ai_hh m) (ai_gd [] ai_ctT m)
    | _ => true
  | none => true
set_option maxRecDepth 1000000 in
theorem ai_okT_all : (List.range' 191 15).all (fun m => (List.range 40).all (ai_okT m)) = true := by decide +kernel
set_option maxRecDepth 1000000 in
theorem ai_okT_rest : (List.range 207).all (fun m => (decide (191 ≤ m) && decide (m < 206)) || (ai_ops m).all (fun en => match en.2.1 with
    | .invokevirtual _ => Nat.beq en.2.2.2.1.2.2.1 0
    | _ => true)) = true := by decide +kernel
set_option maxRecDepth 1000000 in
theorem ai_okT_len : (List.range' 191 15).all (fun m => Nat.ble (ai_ops m).length 40) = true := by decide +kernel
theorem ai_okT_use {m i n : Nat} {x : ai_X} {pc len : Nat} {mask : List Bool} (hen : ai_nth (ai_ops m) i = some (pc, .invokevirtual n, len, x, mask)) (hx : ¬ x.2.2.1 = 0) : ai_okH m (ai_pc m i) (ai_hh m) (ai_gd [] ai_ctT m) = true := by
  have hpc : ai_pc m i = pc := by unfold ai_pc; rw [hen]
  rw [hpc]
  by_cases hw : 191 ≤ m ∧ m < 206
  · have h1 := List.all_eq_true.mp ai_okT_all m (List.mem_range'_1.mpr ⟨hw.1, by omega⟩)
    have h2 := List.all_eq_true.mp ai_okT_len m (List.mem_range'_1.mpr ⟨hw.1, by omega⟩)
    have h3 := List.all_eq_true.mp h1 i (List.mem_range.mpr (Nat.lt_of_lt_of_le (ai_len_lt hen) (iv_ble h2)))
    unfold ai_okT at h3
    rw [hen] at h3
    have h4 : (Nat.beq x.2.2.1 0 || ai_okH m pc (ai_hh m) (ai_gd [] ai_ctT m)) = true := h3
    rcases (Bool.or_eq_true _ _).mp h4 with h5 | h5
    · exact absurd (Nat.eq_of_beq_eq_true h5) hx
    · exact h5
  · have h1 := List.all_eq_true.mp ai_okT_rest m (List.mem_range.mpr (ai_ops_lt hen))
    have h2 : (decide (191 ≤ m) && decide (m < 206)) = false := by
      by_cases a : 191 ≤ m
      · have b : ¬ m < 206 := fun z => hw ⟨a, z⟩
        simp [b]
      · simp [a]
    rw [h2, Bool.false_or] at h1
    have hmem : (pc, Instr.invokevirtual n, len, x, mask) ∈ ai_ops m := by
      rw [ai_nth_eq] at hen
      exact List.mem_of_getElem? hen
    have h3 := List.all_eq_true.mp h1 _ hmem
    exact absurd (Nat.eq_of_beq_eq_true h3) hx
theorem ai_okH_hk {m pc : Nat} {args : Array Value} {s : State} (hts : ∀ w ∈ ai_WS, w.before args s = true) : ∀ (L : List ExceptionTableEntry) (cs : List (Nat × Nat × Nat)), ai_okH m pc (L.map (fun x => (x.startPc, x.endPc, x.handlerPc, x.catchType))) cs = true → ai_hk (ai_mY m).cls args s pc L (cs.map (fun q => q.1)) := by
  intro L
  induction L with
  | nil =>
    intro cs h2
    cases cs with
    | nil => trivial
    | cons a cs => simp [ai_okH] at h2
  | cons e0 L ih =>
    intro cs h2
    cases cs with
    | nil => simp [ai_okH] at h2
    | cons a cs =>
      obtain ⟨y, t0, sl0⟩ := a
      simp only [List.map_cons] at h2
      unfold ai_okH at h2
      obtain ⟨h2, g9⟩ := iv_and2 h2
      obtain ⟨h2, g8⟩ := iv_and2 h2
      obtain ⟨h2, g7⟩ := iv_and2 h2
      obtain ⟨h2, g6⟩ := iv_and2 h2
      obtain ⟨h2, g5⟩ := iv_and2 h2
      obtain ⟨h2, g4⟩ := iv_and2 h2
      obtain ⟨h2, g3⟩ := iv_and2 h2
      obtain ⟨g1, g2⟩ := iv_and2 h2
      refine ⟨⟨?_, ?_, iv_blt g4, hts _ (ai_wd_in g5)⟩, ih cs g9⟩
      · have a1 := iv_ble g1
        have a2 := iv_blt g2
        simp [covers, a1, a2]
      · intro z
        rw [z] at g3
        cases g3
theorem ai_okH_use {m pc x t sl : Nat} {args : Array Value} {s : State} (hts : ∀ w ∈ ai_WS, w.before args s = true) : ∀ (L : List ExceptionTableEntry) (H : List (Nat × Nat × Nat × Nat)) (cs : List (Nat × Nat × Nat)), L.map (fun x => (x.startPc, x.endPc, x.handlerPc, x.catchType)) = H → ai_okH m pc H cs = true → ai_ctf cs x = some (t, sl) → ai_hk (ai_mY m).cls args s pc L (cs.map (fun q => q.1)) ∧ ∃ hp, ai_fst L (cs.map (fun q => q.1)) x = some hp ∧ x < 4 ∧ 1 ≤ t ∧ sl < ai_mL m ∧ ai_pc m (t - 1) = hp ∧ ((∃ n, decode (ai_mB m) hp = .ok (.astore n, 2) ∧ n = sl ∧ ai_pc m t = hp + 2) ∨ (∃ n : Fin 4, decode (ai_mB m) hp = .ok (.astore_n n, 1) ∧ n.val = sl ∧ ai_pc m t = hp + 1)) := by
  intro L
  induction L with
  | nil =>
    intro H cs h1 h2 h3
    subst h1
    cases cs with
    | nil => simp [ai_ctf] at h3
    | cons a cs => simp [ai_okH] at h2
  | cons e0 L ih =>
    intro H cs h1 h2 h3
    subst h1
    cases cs with
    | nil => simp [ai_okH] at h2
    | cons a cs =>
      obtain ⟨y, t0, sl0⟩ := a
      simp only [List.map_cons] at h2
      unfold ai_okH at h2
      obtain ⟨h2, g9⟩ := iv_and2 h2
      obtain ⟨h2, g8⟩ := iv_and2 h2
      obtain ⟨h2, g7⟩ := iv_and2 h2
      obtain ⟨h2, g6⟩ := iv_and2 h2
      obtain ⟨h2, g5⟩ := iv_and2 h2
      obtain ⟨h2, g4⟩ := iv_and2 h2
      obtain ⟨h2, g3⟩ := iv_and2 h2
      obtain ⟨g1, g2⟩ := iv_and2 h2
      have hk0 : covers e0 pc = true ∧ e0.catchType ≠ 0 ∧ y < 4 ∧ (Cond.classLink (ai_mY m).cls e0.catchType (ai_xn y)).before args s = true := by
        refine ⟨?_, ?_, iv_blt g4, hts _ (ai_wd_in g5)⟩
        · have a1 := iv_ble g1
          have a2 := iv_blt g2
          simp [covers, a1, a2]
        · intro z
          rw [z] at g3
          cases g3
      by_cases hyx : y = x
      · subst hyx
        have h4 : (t0, sl0) = (t, sl) := by
          have : ai_ctf ((y, t0, sl0) :: cs) y = some (t0, sl0) := by simp [ai_ctf]
          exact Option.some.inj (this.symm.trans h3)
        cases h4
        refine ⟨⟨hk0, ?_⟩, e0.handlerPc, by simp [ai_fst], hk0.2.2.1, iv_ble g6, iv_blt g7, ?_⟩
        · exact ai_okH_hk hts L cs g9
        · split at g8
          · rename_i en hen2
            obtain ⟨k1, k2⟩ := iv_and2 g8
            have hp1 : en.1 = e0.handlerPc := Nat.eq_of_beq_eq_true k1
            have hpc : ai_pc m (t - 1) = e0.handlerPc := by unfold ai_pc; rw [hen2]; exact hp1
            refine ⟨hpc, ?_⟩
            obtain ⟨hd, -⟩ := ai_row hen2
            have hln := ai_lk_of hen2
            rw [hpc] at hd
            have et : t - 1 + 1 = t := by have := iv_ble g6; omega
            obtain ⟨pc1, ins1, len1, x1, mk1⟩ := en
            split at k2
            · rename_i n he
              obtain ⟨k3, k4⟩ := iv_and2 k2
              have he' : ins1 = .astore n := he
              subst he'
              have hl1 : len1 = 2 := Nat.eq_of_beq_eq_true hln
              subst hl1
              have h9 := ai_nx_pc k4
              rw [et] at h9
              exact Or.inl ⟨n, hd, Nat.eq_of_beq_eq_true k3, h9⟩
            · rename_i n he
              obtain ⟨k3, k4⟩ := iv_and2 k2
              have he' : ins1 = .astore_n n := he
              subst he'
              have hl1 : len1 = 1 := Nat.eq_of_beq_eq_true hln
              subst hl1
              have h9 := ai_nx_pc k4
              rw [et] at h9
              exact Or.inr ⟨n, hd, Nat.eq_of_beq_eq_true k3, h9⟩
            · cases k2
          · cases g8
      · have h4 : ai_ctf cs x = some (t, sl) := by
          have hb : Nat.beq y x = false := by
            cases hb : Nat.beq y x with
            | true => exact absurd (Nat.eq_of_beq_eq_true hb) hyx
            | false => rfl
          simpa [ai_ctf, hb] using h3
        obtain ⟨i1, hp, i2, i3⟩ := ih _ cs rfl g9 h4
        exact ⟨⟨hk0, i1⟩, hp, by simpa [ai_fst, hyx] using i2, i3⟩

section AIK
variable {sc : Int × (Int → Int)} {l : Launch} {D : va_G} {base b : Nat} {cA : Nat → ClassId} {p : Program} {e : Env} {s : State} {mid : MethodId} {args : Array Value} {below : List Frame} {meth : Method} {c : Code} {m : Nat} {Q : ai_O → Prop} {i : Nat} {ls : ai_L} {st : List ai_V} {k : Nat × Nat} {h h' : ai_H}
theorem sn_catch0 {Y : ai_J} {x : ai_X} {n q : Nat} {ws rr : List ai_V} {C : String} {T : u_T} {N : Nat} (hl : ai_stOK l) (F : ai_F p e s mid args meth c m) (hK : va_K D vwCl (ai_tys cA) s) (hbs : base ≤ s.heap.size) (hE : ai_env base s) (hY : ∀ m i ls st k h Q, Y m i ls st k h Q → ai_SND sc l D base b cA m i ls st k h Q) (KY : ∀ i ls st k h, Y m i ls st k h Q → ai_at l D base b cA p e s mid args below meth c m Q (i) (ls) (st) (k) (h)) (hcl : vwCl[ai_mC x.1]? = some (C, T, N)) (hw1 : Cond.methodLink (ai_mY m).cls n (ai_mY x.1) ∈ ai_WS) (hw2 : Cond.instanceMethod (ai_mY x.1) ∈ ai_WS) (hw3 : Cond.selects C (ai_mY x.1) (ai_mY x.1) ∈ ai_WS) (hi4 : Cond.initialized C ∈ ai_WS) (hy : (ai_mY x.1).cls ≠ "java/lang/invoke/MethodHandle" ∧ (ai_mY x.1).cls ≠ "java/lang/invoke/VarHandle" ∧ (parseMethodDescriptor (ai_mY x.1).desc).map (fun d => d.parameters.length) = some (ai_mN x.1)) (hpl : plainName (ai_mY x.1).cls = true) (hp0 : ai_pc x.1 0 = 0) (hlt : x.1 < 206) (hhh : ai_hh x.1 = []) (hwl : ws.length = ai_mN x.1) (hsh : ai_sh q = some (.inl (ai_mC x.1))) (hq : q < h.1) (hrmk : ai_rmk m x.1 = true) (hc8 : ai_cats rr ≤ 8) (hcv : ai_cats (.inr (.inr q) :: ws) ≤ ai_mL x.1) (hf : k.1 + ai_mc x.1 ≤ ai_mc m ∧ k.2 + ai_ms x.1 ≤ ai_ms m) (hd : decode (ai_mB m) (ai_pc m i) = .ok (.invokevirtual n, 3))
    (hs : ai_thr Y x.1 (ai_en (ai_mL x.1) (.inr (.inr q) :: ws)) h (fun c h' => ai_ck (Nat.ble 92 h'.1) (match ai_ct m c with
      | some (t, sl) => Y m t (ai_put (ai_kill ls sl) sl none) [] (k.1 + ai_mc x.1, k.2 + ai_ms x.1) h' Q
      | none => False))) (hen : ∃ pc len mask, ai_nth (ai_ops m) i = some (pc, .invokevirtual n, len, x, mask)) (hx : ¬ x.2.2.1 = 0) : ai_at l D base b cA p e s mid args below meth c m Q (i) (ls) ((.inr (.inr q) :: ws).reverse ++ rr) (k) (h) := by
  obtain ⟨pc0, len0, mask0, hen⟩ := hen
  have hokH := ai_okT_use hen hx
  obtain ⟨P, hP, hall⟩ := hs
  have hMT := ai_toMetT hl hpl hhh (by intro z; rw [z] at hlt; exact absurd hlt (by decide)) hp0 hcv (hY _ _ _ _ _ _ _ hP) (fun o ho => by obtain ⟨v, h', e, -⟩ := hall o ho; exact ⟨v, h', e⟩)
  obtain ⟨hR1, hR2⟩ := ai_rmk_use hrmk
  intro H locs lsM hW hS hL hZ T9 hT X
  have hsz : h.1 < 92 → H.size = base + h.1 := fun q => ai_full hW hS hbs hZ q hT X
  obtain ⟨cellB, hcB, hoB, hclB⟩ := va_recv hK hW.2 hcl (ai_at_obj hq hsh)
  have hclB' : s.vm.findClass C = some cellB.cls := hclB
  have hcwin : Cond.code (ai_mY x.1) (ai_mB x.1) (ai_mL x.1) (ai_mR x.1) ∈ ai_WS := by
    have h9 := ai_cw_in hlt
    unfold ai_cw at h9
    rw [hhh] at h9
    exact h9
  have hcode := F.2.2.2.2.1 _ hcwin
  have hy2 : (ai_mY x.1).cls ≠ "java/lang/invoke/MethodHandle" ∧ (ai_mY x.1).cls ≠ "java/lang/invoke/VarHandle" := ⟨hy.1, hy.2.1⟩
  obtain ⟨mk, methM, hnamed, hmethM, hstM, habM⟩ := Cond.instanceMethod_spec (F.2.2.2.2.1 _ hw2)
  obtain ⟨methM', cM, hmethM', -, -, -, -, -, -, hsigM⟩ := Cond.code_spec hnamed hcode
  cases hmethM.symm.trans hmethM'
  obtain ⟨c2, r2, m2, q1, q2, q3, q4, kP, hkP, hkPi⟩ := Cond.selects_spec (F.2.2.2.2.1 _ hw3)
  cases hclB'.symm.trans q1
  cases (State.methodFound?_of_named hnamed hy2).symm.trans q2
  cases hnamed.symm.trans q3
  have hselP : selectMethod e.platform s.vm cellB.cls mk = .method mk := by rw [Launch.admits_selectMethod X.admits]; exact q4
  have hlenA : (ws.map (ai_rn (ai_ad base b))).length = methM.sig.parameters.length := by
    have h9 := hy.2.2
    rw [hsigM] at h9
    rw [List.length_map, hwl]
    exact (Option.some.inj h9).symm
  obtain ⟨vm₁, X₁, hstep₁⟩ := X.invokevirtual F.1 F.2.2.2.2.2.1 (F.2.2.2.2.1 _ hw1) hnamed hmethM hstM hkP hkPi hy2 (a := ai_ad base b q) (cell := cellB) (by rw [hT]; exact hcB) (fun z h9 => by rw [h9] at hoB; cases hoB) hselP hmethM habM hkP hkPi (g := F0 mid (ai_pc m i) lsM (((.inr (.inr q) :: ws).reverse ++ rr).map (ai_rn (ai_ad base b)))) rfl (argsL := ws.map (ai_rn (ai_ad base b))) (rest := rr.map (ai_rn (ai_ad base b))) hlenA (by simp [ai_rn]) (by rw [F.2.1]; exact hd)
  have hWU : s.WarmedH (T9.setVm vm₁).vm := X₁.warmed
  have hgoodw : ∀ w ∈ ai_wm x.1, ∀ (a' : Array Value) (U : State), s.WarmedH U.vm → w.before a' U = true := by
    intro w hw a' U hWW
    have hin : w ∈ ai_WS := by
      unfold ai_wm at hw
      rcases List.mem_cons.mp hw with rfl | hw
      · exact ai_cw_in hlt
      · exact hw
    exact word_at hWW (ai_WS_good w hin) (F.2.2.2.2.1 w hin)
  have hwC : Cond.initialized (ai_mY x.1).cls ∈ ai_WS := (ai_meth_use hlt).1
  obtain ⟨v, t, U2, L, hq2, e1, e2, hEL, X₂, hsteps⟩ := ai_callT (EL := fun L => ∀ q ∈ L, base ≤ q.base) (mc := ai_mc x.1) (ms := ai_ms x.1) (bytes := ai_mB x.1) (maxL := ai_mL x.1) (ret := ai_mR x.1) (a := (Value.ref (ai_ad base b q) :: ws.map (ai_rn (ai_ad base b))).toArray) (g := { F0 mid (ai_pc m i) lsM (((.inr (.inr q) :: ws).reverse ++ rr).map (ai_rn (ai_ad base b))) with stack := rr.map (ai_rn (ai_ad base b)) }) (ig := .invokevirtual n) (len := 3) (mk := mk) X₁ hMT hR1 hR2 (atoms_intro fun w hw => hgoodw w hw _ _ hWU) (word_at hWU (ai_WS_good _ hcwin) hcode) (word_at hWU (ai_WS_good _ hwC) (F.2.2.2.2.1 _ hwC)) hf.1 hf.2 rfl (hL.1.trans F.2.2.1.symm) (by rw [F.2.1]; exact hd) (lv_room (by rw [ai_cats_eq]; exact hc8)) (X₁.named hnamed)
    (ai_blind _ _ _ _ ⟨rfl, by show ai_Wd D base b cA h T9.heap; rw [hT]; exact hW, va_K.moved hWU.alike hK, by show base ≤ T9.heap.size; rw [hT]; exact Nat.le_trans hbs hS.1, fun z => by show T9.heap.size = _; rw [hT]; exact hsz z, ai_str_warm hWU F.2.2.2.2.2.2.2.2.2.1, ai_env_at hE hS (by show T9.heap = H; exact hT) hWU⟩)
    (fun o t9 hq9 => by
      obtain ⟨xx, h', a9, ce, hp, hoc, -, -, -, -, -, hwm, L9, hsm9, hL9⟩ := hq9
      exact ⟨a9, L9, hoc, hwm, hsm9, hL9⟩)
  obtain ⟨xx, h', a9, ce, hp, hoc, hWd, hF, hce, hcv2, hfc, -, -⟩ := hq2
  cases hoc
  obtain ⟨v2, h2, ev, hk9⟩ := hall _ hp
  cases ev
  obtain ⟨hz92, hk9⟩ := ai_ck_true hk9
  split at hk9
  case h_2 => exact hk9.elim
  rename_i tt sl hct
  obtain ⟨hp3, hfst, hx4, ht1, hslm, hpcH, hast⟩ := (ai_okH_use (x := xx) F.2.2.2.2.1 c.exceptionTable.toList _ _ F.2.2.2.2.2.2.2.2.1 hokH hct).2
  have hhk := (ai_okH_use (x := xx) F.2.2.2.2.1 c.exceptionTable.toList _ _ F.2.2.2.2.2.2.2.2.1 hokH hct).1
  have hfc' : s.vm.findClass (ai_xn xx) = some ce.cls := by
    have h9 : T9.vm.findClass (ai_xn xx) = some ce.cls ∨ (T9.setVm vm₁).vm.findClass (ai_xn xx) = some ce.cls := Or.inr hfc
    have h8 : (T9.setVm vm₁).vm.findClass (ai_xn xx) = some ce.cls := hfc
    rw [hWU.alike.findClass] at h8
    exact h8
  have hcx : ∀ y, y < 4 → ∃ z k, s.vm.findClass (ai_xn y) = some z ∧ s.vm.classes[z]? = some k := by
    intro y hy4
    obtain ⟨z, kz, z1, z2, -⟩ := Cond.instantiable_spec (F.2.2.2.2.1 _ (ai_xn_words hy4).2.1)
    exact ⟨z, kz, z1, z2⟩
  have hmeth2 : U2.vm.method? mid = some meth := X₂.method'
  obtain ⟨vm', hw', hfind⟩ := ai_find (e := e) (s := s) (S0 := (U2.setTop { F0 mid (ai_pc m i) lsM (((.inr (.inr q) :: ws).reverse ++ rr).map (ai_rn (ai_ad base b))) with stack := rr.map (ai_rn (ai_ad base b)) }).pushFrame (.throwing v)) (f := { F0 mid (ai_pc m i) lsM (((.inr (.inr q) :: ws).reverse ++ rr).map (ai_rn (ai_ad base b))) with stack := rr.map (ai_rn (ai_ad base b)) }) (a := v) (by rw [X.admits.platform]) F.2.2.2.2.2.1 hE hx4 (by rw [Stand.throwing_heap, e1]; exact hce) hcv2 hfc' hcx c.exceptionTable.toList _ U2.vm hhk hfst X₂.warmed
  have X₃ := X₂.noted hw'
  -- the handler's first instruction lays the exception aside
  have hrest : W p l e (ai_rm m) s mid args below meth c U2.heap (locs ++ L) (k.1 + ai_mc x.1) (k.2 + ai_ms x.1) (ai_MQ D base b cA below s m Q) (F0 mid hp3 lsM [.ref v]) := by
    have hS2 : va_S (fun q => base ≤ q) s.heap U2.heap (locs ++ L) := by
      have hT9 : T9.heap = H := hT
      refine ⟨?_, fun q9 g1 g2 => ?_, fun q9 hq9 => ?_⟩
      · rw [e1]
        have h9 : T9.heap.size ≤ t.heap.size := hF.1
        rw [hT9] at h9
        exact Nat.le_trans hS.1 h9
      · rw [e1]
        have h9 : t.heap[q9]? = T9.heap[q9]? := hF.2 q9 (by show q9 < T9.heap.size; rw [hT9]; exact Nat.lt_of_lt_of_le g1 hS.1) g2
        rw [h9, hT9]
        exact hS.2.1 q9 g1 g2
      · rcases List.mem_append.mp hq9 with h9 | h9
        · exact hS.2.2 q9 h9
        · exact hEL q9 h9
    have K := KY tt (ai_put (ai_kill ls sl) sl none) [] (k.1 + ai_mc x.1, k.2 + ai_ms x.1) h' hk9
    have hput : ∀ ls' : Array Slot, lv_has ls' (ai_mL m) ((sl, Value.ref v) :: (ai_as (ai_ad base b) ls).filter (fun q => !(q.1 == sl) && !(q.1 + 1 == sl && q.2.category == 2))) → lv_has ls' (ai_mL m) (ai_as (ai_ad base b) (ai_put (ai_kill ls sl) sl none)) := by
      intro ls' h9
      refine ⟨h9.1, h9.2.1, fun q9 hq9 => h9.2.2 q9 ?_⟩
      obtain ⟨w, g1, g2⟩ := ai_as_out hq9
      rcases ai_lg_put g1 with ⟨-, g4⟩ | ⟨g3, g4⟩
      · cases g4
      · obtain ⟨g5, g6⟩ := ai_lg_kill g4
        refine List.mem_cons.mpr (Or.inr (List.mem_filter.mpr ⟨?_, ?_⟩))
        · have g7 := ai_as_in (ad := ai_ad base b) g5
          rw [← g2] at g7
          exact g7
        · have hc9 : q9.2.category = ai_cat w := by rw [g2, ai_rn_cat]
          simp only [Bool.and_eq_true, Bool.not_eq_true', beq_eq_false_iff_ne, ne_eq, Bool.and_eq_false_iff, hc9]
          refine ⟨g3, ?_⟩
          by_cases g8 : q9.1 + 1 = sl
          · exact Or.inr (g6 g8)
          · exact Or.inl g8
    rcases hast with ⟨n9, hd9, rfl, hpt⟩ | ⟨n9, hd9, rfl, hpt⟩
    · refine lv_astore F.1 F.2.1 hd9 hL hslm rfl (fun ls' hl9 => ?_)
      have K2 := K U2.heap (locs ++ L) ls' (by rw [e1]; exact hWd) hS2 (hput ls' hl9) (fun z => absurd z (by have := iv_ble hz92; omega))
      rw [hpt] at K2
      exact K2
    · refine lv_astore_n F.1 F.2.1 hd9 rfl hL hslm rfl (fun ls' hl9 => ?_)
      have K2 := K U2.heap (locs ++ L) ls' (by rw [e1]; exact hWd) hS2 (hput ls' hl9) (fun z => absurd z (by have := iv_ble hz92; omega))
      rw [hpt] at K2
      exact K2
  obtain ⟨tf, st9, hQ9⟩ := hrest (U2.setVm vm') rfl X₃
  refine ⟨tf, ?_, hQ9⟩
  refine hstep₁ _ fun acts => ?_
  rw [doInvoke_state]
  refine hsteps.trans ?_
  refine ai_caught (c := c) (vm' := vm') (pc := hp3) X₂.here (X₂.warmed.alike.symm.trans hw'.alike) (fun Q9 E9 d9 acts9 => ?_) st9
  have hm9 : ((U2.setTop { F0 mid (ai_pc m i) lsM (((.inr (.inr q) :: ws).reverse ++ rr).map (ai_rn (ai_ad base b))) with stack := rr.map (ai_rn (ai_ad base b)) }).pushFrame (.throwing v)).vm.method? mid = some meth := by
    rw [Stand.throwing_vm]
    exact hmeth2
  rw [W.findHandler_eq hm9 X.code]
  exact hfind Q9 E9 d9 acts9
end AIK
