/-! A CATCH: a call that throws, in a method with handlers; the handlers' classes may not be resolved yet. -/
theorem ai_go_cold {E : CtlPost} {e : Env} {d : Bool} {acts : List Action} {s : State} {f : JFrame} {a : Addr} {Q : Handler → Pre} {x : ExceptionTableEntry} {t : List ExceptionTableEntry} {c : ClassId} {cell : Cell} {vm' : Vm} (hx : covers x f.pc = true) (h0 : x.catchType ≠ 0)
    (hg : (Jvm.resolveClass f.method.cls x.catchType).Gives e.toSetting s.vm (.ok c) vm') (hsz : vm'.classes.size ≤ s.vm.classes.size) (hcell : s.heap[a]? = some cell) (hobj : ∀ k, cell.vm ≠ .statics k)
    (hk : ∃ k, vm'.classes[cell.cls]? = some k) (hc : ∃ k, vm'.classes[c]? = some k) :
    Sem.wp (findHandler.go f a (x :: t)) Q E e d acts s ↔ if vm'.assignable cell.cls c = true then Q (.found x.handlerPc) d acts (s.setVm vm') else Sem.wp (findHandler.go f a t) Q E e d acts (s.setVm vm') := by
  simp only [covers] at hx
  obtain ⟨ha, ht⟩ := hg.op (op := VmOp.resolveClass f.method.cls x.catchType) rfl
  have hcell' : (s.setVm vm').heap[a]? = some cell := hcell
  cases hfit : vm'.assignable cell.cls c <;>
    simp [findHandler.go, hx, h0, ha, ht, hsz, hcell', hcell, hobj, hk, hc, hfit]
/-- the first handler whose class is that of the exception -/
def ai_fst : List ExceptionTableEntry → List Nat → Nat → Option Nat
  | e :: L, y :: cs, x => if y = x then some e.handlerPc else ai_fst L cs x
  | _, _, _ => none
def ai_hk (own : String) (args : Array Value) (s : State) (pc : Nat) : List ExceptionTableEntry → List Nat → Prop
  | e :: L, y :: cs => (covers e pc = true ∧ e.catchType ≠ 0 ∧ y < 4 ∧ (Cond.classLink own e.catchType (ai_xn y)).before args s = true) ∧ ai_hk own args s pc L cs
  | [], [] => True
  | _, _ => False
theorem ai_find {e : Env} {s S0 : State} {args : Array Value} {own : String} {f : JFrame} {a : Addr} {ce : Cell} {x hp base : Nat} (hpl : e.platform.magicAccessors = ({} : Platform).magicAccessors) (hown : s.vm.findClass own = some f.method.cls) (hE : ai_env base s) (hx4 : x < 4) (hcell : S0.heap[a]? = some ce) (hvm : ce.vm = .none) (hcls : s.vm.findClass (ai_xn x) = some ce.cls) :
    ∀ (L : List ExceptionTableEntry) (cs : List Nat) (V : Vm), ai_hk own args s f.pc L cs → ai_fst L cs x = some hp → s.WarmedH V → ∃ vm', s.WarmedH vm' ∧ ∀ (Q : Handler → Pre) (E : CtlPost) (d : Bool) (acts : List Action), Sem.wp (findHandler.go f a L) Q E e d acts (S0.setVm V) ↔ Q (.found hp) d acts (S0.setVm vm') := by
  intro L
  induction L with
  | nil => intro cs V _ h2 _; cases cs <;> simp [ai_fst] at h2
  | cons e0 L ih =>
    intro cs V h1 h2 hV
    cases cs with
    | nil => simp [ai_fst] at h2
    | cons y cs =>
      obtain ⟨⟨k1, k2, k3, k4⟩, h1⟩ := h1
      obtain ⟨cy, hfy, hcl⟩ := Cond.classLink_spec hown k4 e.platform hpl
      obtain ⟨hg, hwarm, -⟩ := State.classEntry (e := e) hV hcl
      generalize V.noted f.method.cls e0.catchType (.cls cy) = vm₁ at hg hwarm
      have hal : V.Alike vm₁ := hV.alike.symm.trans hwarm.alike
      have hcls1 : ∀ z : ClassId, (∃ n, s.vm.findClass n = some z) → ∃ k, vm₁.classes[z]? = some k := by
        rintro z ⟨n, hn⟩
        obtain ⟨k, hk⟩ := Vm.findClass_some hn
        obtain ⟨k', hk', -⟩ := hwarm.alike.2.2 _ _ hk
        exact ⟨k', hk'⟩
      have hgo := fun (Q : Handler → Pre) (E : CtlPost) (d : Bool) (acts : List Action) => ai_go_cold (E := E) (d := d) (acts := acts) (Q := Q) (s := S0.setVm V) (f := f) (a := a) (t := L) k1 k2 hg hal.size_le hcell (fun k => by rw [hvm]; exact fun z => by cases z) (hcls1 _ ⟨_, hcls⟩) (hcls1 _ ⟨_, hfy⟩)
      by_cases hyx : y = x
      · subst hyx
        have hp' : e0.handlerPc = hp := by simpa [ai_fst] using h2
        refine ⟨vm₁, hwarm, fun Q E d acts => ?_⟩
        rw [hgo]
        have has : vm₁.assignable ce.cls cy = true := by
          have e1 : cy = ce.cls := Option.some.inj (hfy.symm.trans hcls)
          have hc : (Cond.castable (ai_xn y) (ai_xn y)).before #[] s = true := hE.2.2.1 _ (by
            rcases (show y = 0 ∨ y = 1 ∨ y = 2 ∨ y = 3 by omega) with rfl | rfl | rfl | rfl <;> simp [ai_fw, ai_xn, ai_gd, ai_nth, ai_xnT])
          obtain ⟨c1, t1, z1, z2, z3⟩ := Cond.castable_spec hc
          cases z1.symm.trans hcls
          cases z2.symm.trans hfy
          rw [hwarm.alike.assignable]
          exact z3
        rw [if_pos has, hp']
        rfl
      · have h3 : ai_fst L cs x = some hp := by simpa [ai_fst, hyx] using h2
        obtain ⟨vm', hw', hQ⟩ := ih cs vm₁ h1 h3 hwarm
        refine ⟨vm', hw', fun Q E d acts => ?_⟩
        rw [hgo]
        have has : ¬ vm₁.assignable ce.cls cy = true := by
          obtain ⟨c1, t1, z1, z2, z3⟩ := hE.2.2.2 x hx4 y k3 (fun z => hyx z.symm)
          cases z1.symm.trans hcls
          cases z2.symm.trans hfy
          rw [hwarm.alike.assignable, z3]
          decide
        rw [if_neg has]
        exact hQ Q E d acts
def ai_QT (D : va_G) (base b : Nat) (cA : Nat → ClassId) (P : ai_O → Prop) (mc ms : Nat) : Array Value → State → Outcome → State → Prop := fun _ st oc t => ∃ (x : Nat) (h' : ai_H) (a : Nat) (ce : Cell), P (.inr x, h') ∧ oc = .threw a ∧ ai_Wd D base b cA h' t.heap ∧ va_F (fun q => base ≤ q) st t ∧ t.heap[a]? = some ce ∧ ce.vm = .none ∧ st.vm.findClass (ai_xn x) = some ce.cls ∧ st.WarmedH t.vm ∧ ∃ L, st.sameButNew ({ t with vm := st.vm } : State) L mc ms ∧ ∀ q ∈ L, base ≤ q.base
theorem ai_toMetT {sc : Int × (Int → Int)} {l : Launch} {D : va_G} {base b : Nat} {cA : Nat → ClassId} {m' : Nat} {vs : List ai_V} {h : ai_H} {P : ai_O → Prop} (hl : ai_stOK l) (hpl : plainName (ai_mY m').cls = true) (hcd : ai_hh m' = []) (hlaw : m' ≠ ai_law) (hp0 : ai_pc m' 0 = 0) (hcat : ai_cats vs ≤ ai_mL m') (hC : ai_SND sc l D base b cA m' 0 (ai_en (ai_mL m') vs) [] (0, 0) h P) (hthr : ∀ o, P o → ∃ v h', o = (.inr v, h')) :
    MetFree l (ai_mY m') (headSpec (ai_wm m') (ai_rm m')) (va_Pc (vs.map (ai_rn (ai_ad base b))) (ai_PcB D base b cA h)) (fun _ _ _ _ _ => True) (ai_QT D base b cA P (ai_mc m') (ai_ms m')) := by
  refine MetFree.of_bodyS (code := ai_mB m') (maxLocals := ai_mL m') (ret := ai_mR m') hpl ?_ ?_
  · intro args s m hh hn
    obtain ⟨meth, c, h1, h2, h3, h4, h5, h6, -, -⟩ := Cond.code_spec hn (atoms_spec (ws := ai_wm m') hh _ (by rw [ai_wm_eq hcd]; exact List.mem_cons_self))
    exact ⟨meth, c, h1, h2, h3, h4, h5, h6⟩
  · intro p e s mid args below meth c s₁ B hml hv _
    obtain ⟨rfl, hWd, hK, hbs, hz, hst, hen⟩ := hv
    have hts := atoms_spec (ws := ai_wm m') B.pre
    have hcode : meth.code = some c := by
      have h := B.here.code
      rw [State.code?_eq, B.method₁] at h
      exact h
    have hex : c.exceptionTable.toList.map (fun x => (x.startPc, x.endPc, x.handlerPc, x.catchType)) = ai_hh m' := by
      have hc := hts (Cond.code (ai_mY m') (ai_mB m') (ai_mL m') (ai_mR m')) (by rw [ai_wm_eq hcd]; exact List.mem_cons_self)
      rw [hcd]
      obtain ⟨meth2, c2, h1, h2, -, -, -, -, h3, -⟩ := Cond.code_spec B.named hc
      cases B.method.symm.trans h1
      cases hcode.symm.trans h2
      rw [Array.isEmpty_iff.mp h3]
      rfl
    have F : ai_F p e s mid _ meth c m' := ⟨B.exec, B.bytes, hml, B.returns, fun w hw => hts w (List.mem_cons_of_mem _ hw), findClass_of_methodNamed B.named, B.notSynchronized, (name_of_methodNamed B.named B.method).1, hex, hst, ai_stOK_use hl B.admits⟩
    have K := hC p e s mid _ below meth c F hK hbs hen (fun q => absurd q hlaw) s.heap [] _ hWd va_S.rf (ai_lv0 (ai_ad base b) vs hcat) (fun q => by have := hz q; show s.heap.size + 0 = _; omega)
    rw [hp0] at K
    have hh0 : s₁.heap = s.heap := by rw [B.state]; rfl
    rw [← lg_entry_eq] at K
    obtain ⟨t, a1, o, h1, h2, h3, h4, h5, ⟨L, h6, h7⟩, h8⟩ := K s₁ hh0 (Stand.of_body B)
    obtain ⟨v, h', rfl⟩ := hthr o h1
    obtain ⟨a, ce, g1, g2, g3, g4⟩ := h8
    exact ⟨t, .threw a, a1, h2, g1, v, h', a, ce, h1, rfl, h3, h4, g2, g3, g4, h5, L, h6, h7⟩
/-- a call that throws: its own frame is there again, with the note above it -/
theorem ai_callT {p : Program} {l : Launch} {e : Env} {R : Room} {s : State} {m : MethodId} {args : Array Value} {below : List Frame} {meth : Method} {c : Code} {U : State} {locs : List Loc} {cells slots : Nat} (X : Stand p l e R s m args below meth c U locs cells slots) {y : MethodName} {S : Spec} {Pc : Array Value → State → Prop} {Qc : Array Value → State → Outcome → State → Prop} {bytes : ByteArray} {maxL mc ms : Nat} {ret : Option FieldType} {a : Array Value} {g : JFrame} {ig : Instr} {len : Nat} {mk : MethodId}
    (hM : MetFree l y S Pc (fun _ _ _ _ _ => True) Qc) (hframes : S.room.frames + 1 ≤ R.frames) (hlocals : 8 + (maxL + 11) + S.room.locals ≤ R.locals) (h1 : S.pre.before a U = true) (h2 : (Cond.code y bytes maxL ret).before a U = true) (h3 : (Cond.initialized y.cls).before a U = true) (h4 : cells + S.room.cells ≤ R.cells) (h5 : slots + S.room.slots ≤ R.slots)
    (hg : g.method = m) (hsize : g.locals.size = c.maxLocals) (hdg : decode c.code g.pc = .ok (ig, len)) (hW : 2 * g.monitorRoom + (g.stack.map fun v => v.category).sum ≤ 8) (hn : U.methodNamed? y = some mk) (hP : Pc a (U.calling g mk a))
    (hQ : ∀ o t, Qc a (U.calling g mk a) o t → ∃ v L, o = .threw v ∧ (U.calling g mk a).WarmedH t.vm ∧ (U.calling g mk a).sameButNew ({ t with vm := (U.calling g mk a).vm } : State) L mc ms) :
    ∃ (v : Addr) (t U2 : State) (L : List Loc), Qc a (U.calling g mk a) (.threw v) t ∧ U2.heap = t.heap ∧ U2.vm = t.vm ∧ (U.calling g mk a).sameButNew ({ t with vm := (U.calling g mk a).vm } : State) L mc ms ∧ Stand p l e R s m args below meth c U2 (locs ++ L) (cells + mc) (slots + ms) ∧ Steps p.tables e below (doInvoke e (U.setTop g) [] mk a).1 ((U2.setTop g).pushFrame (.throwing v)) := by
  subst hg
  obtain ⟨methY, cY, hmY, hcY, -, hlY, -, -, -, -⟩ := Cond.code_spec hn h2
  obtain ⟨kY, hkY, -⟩ := className_of_methodNamed hn
  have hinitY : kY.init = .initialized := Cond.initialized_spec (findClass_of_methodNamed hn) hkY h3
  have happ : S.appliesLoose y e.platform (U.calling g mk a) = true :=
    Spec.appliesLoose_calling (g := g) X.here hdg hn hkY hinitY (X.room_calling (g := g) (R' := S.room) hsize hmY hcY hframes (by rw [hlY]; omega) h4 h5) h1
  obtain ⟨mid, hmid⟩ := X.here.above
  have hfr : (U.setTop g).frames = (.java g :: mid) ++ below := by rw [State.frames_setTop' g X.here.top, hmid]; rfl
  obtain ⟨o, s₂, hsteps, -, hend, hq⟩ := Steps.callFree hM p X.admits X.cas X.clock (acts := []) hfr happ hP trivial
  have hq' : Qc a (U.calling g mk a) o s₂ := hq
  rw [State.frames_setTop' g X.here.top] at hend
  obtain ⟨v, L, rfl, hW₂, hsm⟩ := hQ o s₂ hq'
  obtain ⟨e2, q2, q3, q4, q5, q6⟩ := hsm
  have hf₂ : s₂.frames = .throwing v :: .java g :: U.frames.tail := hend
  have e3 : s₂ = ({ (U.calling g mk a).setFrames s₂.frames with heap := s₂.heap, slotsUsed := s₂.slotsUsed } : State).setVm s₂.vm := by
    have h9 : s₂ = ({ s₂ with vm := (U.calling g mk a).vm } : State).setVm s₂.vm := rfl
    rw [e2] at h9
    exact h9
  have hW' : U.WarmedH s₂.vm := hW₂
  obtain ⟨g₀, hg0⟩ := Option.isSome_iff_exists.mp X.here.top
  obtain ⟨r, hr⟩ := State.topJava?_eq_some.mp hg0
  obtain ⟨t0, ht0, -⟩ := State.frames_cons hr
  have hs₂ : s₂ = ((({ U with heap := s₂.heap, slotsUsed := s₂.slotsUsed } : State).setVm s₂.vm).setTop g).pushFrame (.throwing v) := by
    have hr' : (({ U with heap := s₂.heap, slotsUsed := s₂.slotsUsed } : State).setVm s₂.vm).frames = .java g₀ :: r := hr
    refine e3.trans ?_
    rw [hf₂, State.calling_eq X.here.top, State.setFrames_setFrames, State.pushFrame, State.frames_setTop _ hr', State.setTop_of_frames _ hr', State.setFrames_setFrames, hr]
    rfl
  have hsame : U.sameButNew ({ U with heap := s₂.heap, slotsUsed := s₂.slotsUsed } : State) L mc ms := by
    refine ⟨?_, q2, q3, q4, q5, q6⟩
    show ({ U with heap := s₂.heap, slotsUsed := s₂.slotsUsed } : State) = { U.setFrames U.frames with heap := s₂.heap, slotsUsed := s₂.slotsUsed }
    rw [State.setFrames_self ht0]
  refine ⟨v, s₂, (({ U with heap := s₂.heap, slotsUsed := s₂.slotsUsed } : State).setVm s₂.vm), L, hq', rfl, rfl, ⟨e2, q2, q3, q4, q5, q6⟩, ⟨X.admits, X.cas, X.clock, X.frames, X.room, X.hears, X.method, X.code, (X.here.setHeapUsed s₂.heap s₂.slotsUsed).setVm hW'.alike, X.tail, State.WarmedH.trans X.warmed hW', X.limits, X.bytes, X.same.trans (hsame.setVm s.vm)⟩, ?_⟩
  rw [← hs₂]
  exact hsteps
/-- into a handler whose class may have been resolved on the way -/
theorem ai_caught {tb : Tables} {e : Env} {s target : State} {g : JFrame} {c : Code} {below : List Frame} {a : Addr} {vm' : Vm} (h : At s g.method c below) {pc : Nat} (hal : s.vm.Alike vm')
    (hfind : ∀ (Q : Handler → Pre) (E : CtlPost) (d : Bool) (acts : List Action), Sem.wp (findHandler g a) Q E e d acts ((s.setTop g).pushFrame (.throwing a)) ↔ Q (.found pc) d acts (((s.setTop g).pushFrame (.throwing a)).setVm vm'))
    (hrest : Steps tb e below ((s.setVm vm').setTop { g with pc := pc, stack := [.ref a] }) target) :
    Steps tb e below ((s.setTop g).pushFrame (.throwing a)) target := by
  obtain ⟨hgo, hw⟩ := h.throwing a
  refine Steps.head hgo hw ?_
  have hst : (stepThrowing e ((s.setTop g).pushFrame (.throwing a)) a (.java g :: s.frames.tail)).Is ((((s.setTop g).pushFrame (.throwing a)).setVm vm').setFrames (.java { g with pc := pc, stack := [.ref a] } :: s.frames.tail)) [] := by
    simp only [stepThrowing, searchFrame, vmDo]
    generalize hr : Sem.go _ e false [] _ = res
    obtain ⟨as, rfl, ha⟩ := Sem.eq_ok_of hr (a := Handler.found pc) (s' := ((s.setTop g).pushFrame (.throwing a)).setVm vm') (acts' := []) (by simp [hfind _ _ _ _])
    exact ⟨rfl, ha⟩
  rw [stepThread_throwing (frames_entered h.top _), hst.1]
  obtain ⟨g₀, hg⟩ := Option.isSome_iff_exists.mp h.top
  obtain ⟨r, hr⟩ := State.topJava?_eq_some.mp hg
  have hr' : (s.setVm vm').frames = .java g₀ :: r := hr
  rw [State.setTop_of_frames _ hr'] at hrest
  have e1 : (((s.setTop g).pushFrame (.throwing a)).setVm vm').setFrames (.java { g with pc := pc, stack := [.ref a] } :: s.frames.tail) = (s.setVm vm').setFrames (.java { g with pc := pc, stack := [.ref a] } :: r) := by
    rw [State.pushFrame, State.setTop_of_frames _ hr, hr]
    rfl
  rw [e1]
  exact hrest

section AIK
variable {sc : Int × (Int → Int)} {l : Launch} {D : va_G} {base b : Nat} {cA : Nat → ClassId} {p : Program} {e : Env} {s : State} {mid : MethodId} {args : Array Value} {below : List Frame} {meth : Method} {c : Code} {m : Nat} {Q : ai_O → Prop} {i : Nat} {ls : ai_L} {st : List ai_V} {k : Nat × Nat} {h h' : ai_H}
theorem sn_catch0 {Y : ai_J} {x : ai_X} {n q : Nat} {ws rr : List ai_V} {C : String} {T : u_T} {N : Nat} (hl : ai_stOK l) (F : ai_F p e s mid args meth c m) (hK : va_K D vwCl (ai_tys cA) s) (hbs : base ≤ s.heap.size) (hE : ai_env base s) (hY : ∀ m i ls st k h Q, Y m i ls st k h Q → ai_SND sc l D base b cA m i ls st k h Q) (KY : ∀ i ls st k h, Y m i ls st k h Q → ai_at l D base b cA p e s mid args below meth c m Q (i) (ls) (st) (k) (h)) (hcl : vwCl[ai_mC x.1]? = some (C, T, N)) (hw1 : Cond.methodLink (ai_mY m).cls n (ai_mY x.1) ∈ ai_WS) (hw2 : Cond.instanceMethod (ai_mY x.1) ∈ ai_WS) (hw3 : Cond.selects C (ai_mY x.1) (ai_mY x.1) ∈ ai_WS) (hi4 : Cond.initialized C ∈ ai_WS) (hy : (ai_mY x.1).cls ≠ "java/lang/invoke/MethodHandle" ∧ (ai_mY x.1).cls ≠ "java/lang/invoke/VarHandle" ∧ (parseMethodDescriptor (ai_mY x.1).desc).map (fun d => d.parameters.length) = some (ai_mN x.1)) (hpl : plainName (ai_mY x.1).cls = true) (hp0 : ai_pc x.1 0 = 0) (hlt : x.1 < 206) (hhh : ai_hh x.1 = []) (hwl : ws.length = ai_mN x.1) (hsh : ai_sh q = some (.inl (ai_mC x.1))) (hq : q < h.1) (hrmk : ai_rmk m x.1 = true) (hc8 : ai_cats rr ≤ 8) (hcv : ai_cats (.inr (.inr q) :: ws) ≤ ai_mL x.1) (hf : k.1 + ai_mc x.1 ≤ ai_mc m ∧ k.2 + ai_ms x.1 ≤ ai_ms m) (hd : decode (ai_mB m) (ai_pc m i) = .ok (.invokevirtual n, 3))
    (hs : ai_thr Y x.1 (ai_en (ai_mL x.1) (.inr (.inr q) :: ws)) h (fun c h' => ai_ck (Nat.ble 92 h'.1) (match ai_ct m c with
      | some (t, sl) => Y m t (ai_put ls sl none) [] (k.1 + ai_mc x.1, k.2 + ai_ms x.1) h' Q
      | none => False))) : ai_at l D base b cA p e s mid args below meth c m Q (i) (ls) ((.inr (.inr q) :: ws).reverse ++ rr) (k) (h) := by
  sorry
end AIK
