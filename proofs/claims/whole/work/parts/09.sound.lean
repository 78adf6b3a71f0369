/-! SOUNDNESS: what the machine of places does, the machine does. -/
noncomputable def ai_tys (cA : Nat → ClassId) : List (ClassId × FieldType) := ai_tab 5 (fun kd => (cA kd, ai_TY kd))
def ai_Wd (D : va_G) (base b : Nat) (cA : Nat → ClassId) (h : ai_H) (H : Heap) : Prop := h.1 ≤ 92 ∧ va_P D vwCl (ai_ws (ai_ad base b) cA h) H
def ai_str (s : State) : Prop := ∀ q ∈ ai_strs, ∃ a : Nat, vk_R q.1 q.2.1 q.2.2 a s
/-- two statics of Throwable, that hold a reference or null, below what the law makes -/
def ai_zt : List (String × String) := [("UNASSIGNED_STACK", "[Ljava/lang/StackTraceElement;"), ("SUPPRESSED_SENTINEL", "Ljava/util/List;")]
def ai_ZS (base : Nat) (U : State) (H : Heap) (n d : String) : Prop := ∃ (c : ClassId) (k : Class) (i : Nat) (f : Field) (a : Nat) (cell : Cell) (v : Value), U.vm.findClass "java/lang/Throwable" = some c ∧ U.fieldFound? "java/lang/Throwable" n d = some (c, k, i, f) ∧ f.isStatic = true ∧ k.statics = some a ∧ H[a]? = some cell ∧ cell.vm.isStatics = true ∧ cell.cls = c ∧ f.slot < cell.slots.size ∧ k.staticTypes[f.slot]? = some f.type ∧ cell.slots[f.slot]? = some v ∧ v.isRef = true ∧ a < base
def ai_fw : List Cond := [.declares ⟨"java/lang/RuntimeException", "<init>", "(Ljava/lang/String;)V"⟩, .declares ⟨"java/lang/Exception", "<init>", "(Ljava/lang/String;)V"⟩, .declares ⟨"java/lang/Throwable", "<init>", "(Ljava/lang/String;)V"⟩, .castable "java/lang/IllegalStateException" "java/lang/IllegalStateException", .castable "java/lang/IllegalArgumentException" "java/lang/IllegalArgumentException", .castable "java/lang/UnsupportedOperationException" "java/lang/UnsupportedOperationException", .castable "java/lang/IndexOutOfBoundsException" "java/lang/IndexOutOfBoundsException"]
theorem ai_fw_face : ∀ w ∈ ai_fw, w.onTables = true ∧ w.keepsFace = true := by
  intro w hw
  simp only [ai_fw, List.mem_cons, List.not_mem_nil, or_false] at hw
  rcases hw with rfl | rfl | rfl | rfl | rfl | rfl | rfl <;> exact ⟨rfl, rfl⟩
theorem ai_face {s U : State} {w : Cond} (hon : w.onTables = true) (hf : w.keepsFace = true) (hW : s.WarmedH U.vm) {a a' : Array Value} (h : w.before a s = true) : w.before a' U = true := by
  have h1 : w.before a (s.setVm U.vm) = true := Cond.before_shiftedFace (State.Shifted.of_warmed hW) _ hf h
  rw [Cond.onTables_vm (A' := a') (U' := U) U.vm w hon, State.setVm_self] at h1
  exact h1
def ai_env (base : Nat) (U : State) : Prop := va_AO ai_Store U ∧ (∀ q ∈ ai_zt, ai_ZS base U U.heap q.1 q.2) ∧ (∀ w ∈ ai_fw, w.before #[] U = true) ∧ ∀ x, x < 4 → ∀ y, y < 4 → x ≠ y → va_Nc (ai_xn x) (ai_xn y) U
def ai_stOK (l : Launch) : Prop := l.stackTraces = false
theorem ai_stOK_use {l : Launch} {e : Env} (h : ai_stOK l) (ha : l.admits e) : e.platform.stackTraces = false := by
  rw [ha.platform]
  exact h
theorem ai_env_at {base : Nat} {s U : State} {H : Heap} {locs : List Loc} (hE : ai_env base s) (hS : va_S (fun q => base ≤ q) s.heap H locs) (hU : U.heap = H) (hWW : s.WarmedH U.vm) : ai_env base U := by
  have hW := hWW.alike
  refine ⟨hE.1.moved hW, fun q hq => ?_, fun w hw => ai_face (ai_fw_face w hw).1 (ai_fw_face w hw).2 hWW (hE.2.2.1 w hw), fun x hx y hy hxy => (hE.2.2.2 x hx y hy hxy).moved hW⟩
  obtain ⟨c, k, i, f, a, cell, v, h1, h2, h3, h4, h5, h6, h7, h8, h9, h10, h11, h12⟩ := hE.2.1 q hq
  obtain ⟨k', hi', he⟩ := State.fieldFound?_setVm hW h2
  refine ⟨c, k', i, f, a, cell, v, by rw [hW.findClass]; exact h1, hi', h3, by rw [he]; exact h4, ?_, h6, h7, h8, by rw [he]; exact h9, h10, h11, h12⟩
  rw [hU, hS.2.1 a (Array.getElem?_eq_some_iff.mp h5).1 (Nat.not_le.mpr h12)]
  exact h5
def ai_F (p : Program) (e : Env) (s : State) (mid : MethodId) (args : Array Value) (meth : Method) (c : Code) (m : Nat) : Prop :=
  p.tables.exec = Jvm.exec ∧ c.code = ai_mB m ∧ c.maxLocals = ai_mL m ∧ meth.sig.returnType = ai_mR m ∧ (∀ w ∈ ai_WS, w.before args s = true) ∧ s.vm.findClass (ai_mY m).cls = some mid.cls ∧ meth.locks = false ∧ meth.name = (ai_mY m).name ∧
  c.exceptionTable.toList.map (fun x => (x.startPc, x.endPc, x.handlerPc, x.catchType)) = ai_hh m ∧ ai_str s ∧ e.platform.stackTraces = false
def ai_oc (ad : Nat → Nat) (below : List Frame) (s t : State) (r : Option ai_V ⊕ Nat) : Prop := match r with
  | .inl v => Ended t below (.returned (v.map (ai_rn ad)))
  | .inr x => ∃ (a : Nat) (ce : Cell), Ended t below (.threw a) ∧ t.heap[a]? = some ce ∧ ce.vm = .none ∧ s.vm.findClass (ai_xn x) = some ce.cls
def ai_MQ (D : va_G) (base b : Nat) (cA : Nat → ClassId) (below : List Frame) (s : State) (m : Nat) (Q : ai_O → Prop) (t : State) : Prop :=
  ∃ o : ai_O, Q o ∧ t.status = .running ∧ ai_Wd D base b cA o.2 t.heap ∧ va_F (fun q => base ≤ q) s t ∧ s.WarmedH t.vm ∧ (∃ L, s.sameButNew ({ t with vm := s.vm } : State) L (ai_mc m) (ai_ms m) ∧ ∀ q ∈ L, base ≤ q.base) ∧ ai_oc (ai_ad base b) below s t o.1
def ai_at (l : Launch) (D : va_G) (base b : Nat) (cA : Nat → ClassId) (p : Program) (e : Env) (s : State) (mid : MethodId) (args : Array Value) (below : List Frame) (meth : Method) (c : Code) (m : Nat) (Q : ai_O → Prop) (i : Nat) (ls : ai_L) (st : List ai_V) (k : Nat × Nat) (h : ai_H) : Prop :=
  ∀ (H : Heap) (locs : List Loc) (lsM : Array Slot), ai_Wd D base b cA h H → va_S (fun q => base ≤ q) s.heap H locs → lv_has lsM (ai_mL m) (ai_as (ai_ad base b) ls) → (h.1 < 92 → s.heap.size + k.1 = base + h.1) →
    W p l e (ai_rm m) s mid args below meth c H locs k.1 k.2 (ai_MQ D base b cA below s m Q) (F0 mid (ai_pc m i) lsM (st.map (ai_rn (ai_ad base b))))
def ai_scr (sc : Int × (Int → Int)) (base b : Nat) (s : State) : Prop := ∃ (L : Nat) (xs : Nat → Int32), va_X b L xs s s.heap ∧ b < base ∧ L < 2147483648 ∧ sc.1 = Int.ofNat L ∧ ∀ j : Nat, j < L → xs j = Int32.ofInt (sc.2 (Int.ofNat j))
def ai_SND (sc : Int × (Int → Int)) (l : Launch) (D : va_G) (base b : Nat) (cA : Nat → ClassId) : ai_J := fun m i ls st k h Q =>
  ∀ (p : Program) (e : Env) (s : State) (mid : MethodId) (args : Array Value) (below : List Frame) (meth : Method) (c : Code), ai_F p e s mid args meth c m → va_K D vwCl (ai_tys cA) s → base ≤ s.heap.size → ai_env base s → (m = ai_law → ai_scr sc base b s) → ai_at l D base b cA p e s mid args below meth c m Q (i) (ls) (st) (k) (h)
theorem ai_mono {p : Program} {l : Launch} {e : Env} {R : Room} {s : State} {m : MethodId} {args : Array Value} {below : List Frame} {meth : Method} {c : Code} {H : Heap} {locs : List Loc} {cells slots : Nat} {Q Q' : State → Prop} {g : JFrame} (hQ : ∀ t, Q t → Q' t) (h : W p l e R s m args below meth c H locs cells slots Q g) : W p l e R s m args below meth c H locs cells slots Q' g := by
  intro T hT X
  obtain ⟨t, a, b⟩ := h T hT X
  exact ⟨t, a, hQ t b⟩
section AIS
variable {sc : Int × (Int → Int)} {l : Launch} {D : va_G} {base b : Nat} {cA : Nat → ClassId} {p : Program} {e : Env} {s : State} {mid : MethodId} {args : Array Value} {below : List Frame} {meth : Method} {c : Code} {m : Nat} {Q : ai_O → Prop} {i : Nat} {ls : ai_L} {st : List ai_V} {k : Nat × Nat} {h : ai_H}
theorem sn_iconst (F : ai_F p e s mid args meth c m) {n : Int} (hd : decode (ai_mB m) (ai_pc m i) = .ok (.iconst n, 1)) (hn : ai_pc m (i + 1) = ai_pc m i + 1) (K : ai_at l D base b cA p e s mid args below meth c m Q (i + 1) (ls) (.inl n :: st) (k) (h)) : ai_at l D base b cA p e s mid args below meth c m Q (i) (ls) (st) (k) (h) := by
  intro H locs lsM hW hS hL hZ
  have K := K H locs lsM hW hS hL hZ
  rw [hn] at K
  exact lv_iconst F.1 F.2.1 hd rfl K
theorem sn_bipush (F : ai_F p e s mid args meth c m) {n : Int} (hv : (Int8.ofInt n).toInt32 = Int32.ofInt n) (hd : decode (ai_mB m) (ai_pc m i) = .ok (.bipush n, 2)) (hn : ai_pc m (i + 1) = ai_pc m i + 2) (K : ai_at l D base b cA p e s mid args below meth c m Q (i + 1) (ls) (.inl n :: st) (k) (h)) : ai_at l D base b cA p e s mid args below meth c m Q (i) (ls) (st) (k) (h) := by
  intro H locs lsM hW hS hL hZ
  have K := K H locs lsM hW hS hL hZ
  rw [hn] at K
  exact lv_bipush F.1 F.2.1 hd hv K
theorem sn_sipush (F : ai_F p e s mid args meth c m) {n : Int} (hv : (Int16.ofInt n).toInt32 = Int32.ofInt n) (hd : decode (ai_mB m) (ai_pc m i) = .ok (.sipush n, 3)) (hn : ai_pc m (i + 1) = ai_pc m i + 3) (K : ai_at l D base b cA p e s mid args below meth c m Q (i + 1) (ls) (.inl n :: st) (k) (h)) : ai_at l D base b cA p e s mid args below meth c m Q (i) (ls) (st) (k) (h) := by
  intro H locs lsM hW hS hL hZ
  have K := K H locs lsM hW hS hL hZ
  rw [hn] at K
  exact lv_sipush F.1 F.2.1 hd hv K
theorem sn_lconst (F : ai_F p e s mid args meth c m) {n : Fin 2} (hd : decode (ai_mB m) (ai_pc m i) = .ok (.lconst n, 1)) (hn : ai_pc m (i + 1) = ai_pc m i + 1) (K : ai_at l D base b cA p e s mid args below meth c m Q (i + 1) (ls) (.inr (.inl (Int.ofNat n.val)) :: st) (k) (h)) : ai_at l D base b cA p e s mid args below meth c m Q (i) (ls) (st) (k) (h) := by
  intro H locs lsM hW hS hL hZ
  have K := K H locs lsM hW hS hL hZ
  rw [hn] at K
  exact lv_lconst F.1 F.2.1 hd (by rw [← Int64.ofInt_eq_ofNat]; rfl) K
theorem sn_ldc2 (F : ai_F p e s mid args meth c m) {n : Nat} {v : Int} (hw : Cond.constantLong (ai_mY m).cls n (Int64.ofInt v) ∈ ai_WS) (hd : decode (ai_mB m) (ai_pc m i) = .ok (.ldc2_w n, 3)) (hn : ai_pc m (i + 1) = ai_pc m i + 3) (K : ai_at l D base b cA p e s mid args below meth c m Q (i + 1) (ls) (.inr (.inl v) :: st) (k) (h)) : ai_at l D base b cA p e s mid args below meth c m Q (i) (ls) (st) (k) (h) := by
  intro H locs lsM hW hS hL hZ
  have K := K H locs lsM hW hS hL hZ
  rw [hn] at K
  exact lv_ldc2 F.1 F.2.1 F.2.2.2.2.2.1 (F.2.2.2.2.1 _ hw) hd K
theorem sn_iload (F : ai_F p e s mid args meth c m) {n : Nat} {v : Int} (hv : ai_lg ls n = some (.inl v)) (hd : decode (ai_mB m) (ai_pc m i) = .ok (.iload n, 2)) (hn : ai_pc m (i + 1) = ai_pc m i + 2) (K : ai_at l D base b cA p e s mid args below meth c m Q (i + 1) (ls) (.inl v :: st) (k) (h)) : ai_at l D base b cA p e s mid args below meth c m Q (i) (ls) (st) (k) (h) := by
  intro H locs lsM hW hS hL hZ
  have K := K H locs lsM hW hS hL hZ
  rw [hn] at K
  exact lv_iload F.1 F.2.1 hd (ai_rd hL hv) K
theorem sn_iload_n (F : ai_F p e s mid args meth c m) {n : Fin 4} {v : Int} (hv : ai_lg ls n.val = some (.inl v)) (hd : decode (ai_mB m) (ai_pc m i) = .ok (.iload_n n, 1)) (hn : ai_pc m (i + 1) = ai_pc m i + 1) (K : ai_at l D base b cA p e s mid args below meth c m Q (i + 1) (ls) (.inl v :: st) (k) (h)) : ai_at l D base b cA p e s mid args below meth c m Q (i) (ls) (st) (k) (h) := by
  intro H locs lsM hW hS hL hZ
  have K := K H locs lsM hW hS hL hZ
  rw [hn] at K
  exact lv_iload_n F.1 F.2.1 hd rfl (ai_rd hL hv) K
theorem sn_istore (F : ai_F p e s mid args meth c m) {n : Nat} {v : Int} (hb : n < ai_mL m) (hd : decode (ai_mB m) (ai_pc m i) = .ok (.istore n, 2)) (hn : ai_pc m (i + 1) = ai_pc m i + 2) (K : ai_at l D base b cA p e s mid args below meth c m Q (i + 1) (ai_s1 ls n (.inl v)) (st) (k) (h)) : ai_at l D base b cA p e s mid args below meth c m Q (i) (ls) (.inl v :: st) (k) (h) := by
  intro H locs lsM hW hS hL hZ
  refine lv_istore F.1 F.2.1 hd hL hb rfl (fun ls' hl => ?_)
  have K := K H locs ls' hW hS (ai_lv1 (v := .inl v) hl) hZ
  rw [hn] at K
  exact K
theorem sn_istore_n (F : ai_F p e s mid args meth c m) {n : Fin 4} {v : Int} (hb : n.val < ai_mL m) (hd : decode (ai_mB m) (ai_pc m i) = .ok (.istore_n n, 1)) (hn : ai_pc m (i + 1) = ai_pc m i + 1) (K : ai_at l D base b cA p e s mid args below meth c m Q (i + 1) (ai_s1 ls n.val (.inl v)) (st) (k) (h)) : ai_at l D base b cA p e s mid args below meth c m Q (i) (ls) (.inl v :: st) (k) (h) := by
  intro H locs lsM hW hS hL hZ
  refine lv_istore_n F.1 F.2.1 hd rfl hL hb rfl (fun ls' hl => ?_)
  have K := K H locs ls' hW hS (ai_lv1 (v := .inl v) hl) hZ
  rw [hn] at K
  exact K
theorem sn_lload (F : ai_F p e s mid args meth c m) {n : Nat} {v : Int} (hv : ai_lg ls n = some (.inr (.inl v))) (hd : decode (ai_mB m) (ai_pc m i) = .ok (.lload n, 2)) (hn : ai_pc m (i + 1) = ai_pc m i + 2) (K : ai_at l D base b cA p e s mid args below meth c m Q (i + 1) (ls) (.inr (.inl v) :: st) (k) (h)) : ai_at l D base b cA p e s mid args below meth c m Q (i) (ls) (st) (k) (h) := by
  intro H locs lsM hW hS hL hZ
  have K := K H locs lsM hW hS hL hZ
  rw [hn] at K
  exact lv_lload F.1 F.2.1 hd (ai_rd hL hv) K
theorem sn_lload_n (F : ai_F p e s mid args meth c m) {n : Fin 4} {v : Int} (hv : ai_lg ls n.val = some (.inr (.inl v))) (hd : decode (ai_mB m) (ai_pc m i) = .ok (.lload_n n, 1)) (hn : ai_pc m (i + 1) = ai_pc m i + 1) (K : ai_at l D base b cA p e s mid args below meth c m Q (i + 1) (ls) (.inr (.inl v) :: st) (k) (h)) : ai_at l D base b cA p e s mid args below meth c m Q (i) (ls) (st) (k) (h) := by
  intro H locs lsM hW hS hL hZ
  have K := K H locs lsM hW hS hL hZ
  rw [hn] at K
  exact lv_lload_n F.1 F.2.1 hd rfl (ai_rd hL hv) K
theorem sn_lstore (F : ai_F p e s mid args meth c m) {n : Nat} {v : Int} (hb : n + 1 < ai_mL m) (hd : decode (ai_mB m) (ai_pc m i) = .ok (.lstore n, 2)) (hn : ai_pc m (i + 1) = ai_pc m i + 2) (K : ai_at l D base b cA p e s mid args below meth c m Q (i + 1) (ai_s2 ls n (.inr (.inl v))) (st) (k) (h)) : ai_at l D base b cA p e s mid args below meth c m Q (i) (ls) (.inr (.inl v) :: st) (k) (h) := by
  intro H locs lsM hW hS hL hZ
  refine lv_lstore F.1 F.2.1 hd hL hb rfl (fun ls' hl => ?_)
  have K := K H locs ls' hW hS (ai_lv2 (v := .inr (.inl v)) hl) hZ
  rw [hn] at K
  exact K
theorem sn_lstore_n (F : ai_F p e s mid args meth c m) {n : Fin 4} {v : Int} (hb : n.val + 1 < ai_mL m) (hd : decode (ai_mB m) (ai_pc m i) = .ok (.lstore_n n, 1)) (hn : ai_pc m (i + 1) = ai_pc m i + 1) (K : ai_at l D base b cA p e s mid args below meth c m Q (i + 1) (ai_s2 ls n.val (.inr (.inl v))) (st) (k) (h)) : ai_at l D base b cA p e s mid args below meth c m Q (i) (ls) (.inr (.inl v) :: st) (k) (h) := by
  intro H locs lsM hW hS hL hZ
  refine lv_lstore_n F.1 F.2.1 hd rfl hL hb rfl (fun ls' hl => ?_)
  have K := K H locs ls' hW hS (ai_lv2 (v := .inr (.inl v)) hl) hZ
  rw [hn] at K
  exact K
theorem sn_aload (F : ai_F p e s mid args meth c m) {n : Nat} {v : Nat} (hv : ai_lg ls n = some (.inr (.inr v))) (hd : decode (ai_mB m) (ai_pc m i) = .ok (.aload n, 2)) (hn : ai_pc m (i + 1) = ai_pc m i + 2) (K : ai_at l D base b cA p e s mid args below meth c m Q (i + 1) (ls) (.inr (.inr v) :: st) (k) (h)) : ai_at l D base b cA p e s mid args below meth c m Q (i) (ls) (st) (k) (h) := by
  intro H locs lsM hW hS hL hZ
  have K := K H locs lsM hW hS hL hZ
  rw [hn] at K
  exact lv_aload F.1 F.2.1 hd (ai_rd hL hv) K
theorem sn_aload_n (F : ai_F p e s mid args meth c m) {n : Fin 4} {v : Nat} (hv : ai_lg ls n.val = some (.inr (.inr v))) (hd : decode (ai_mB m) (ai_pc m i) = .ok (.aload_n n, 1)) (hn : ai_pc m (i + 1) = ai_pc m i + 1) (K : ai_at l D base b cA p e s mid args below meth c m Q (i + 1) (ls) (.inr (.inr v) :: st) (k) (h)) : ai_at l D base b cA p e s mid args below meth c m Q (i) (ls) (st) (k) (h) := by
  intro H locs lsM hW hS hL hZ
  have K := K H locs lsM hW hS hL hZ
  rw [hn] at K
  exact lv_aload_n F.1 F.2.1 hd rfl (ai_rd hL hv) K
theorem sn_astore (F : ai_F p e s mid args meth c m) {n : Nat} {v : Nat} (hb : n < ai_mL m) (hd : decode (ai_mB m) (ai_pc m i) = .ok (.astore n, 2)) (hn : ai_pc m (i + 1) = ai_pc m i + 2) (K : ai_at l D base b cA p e s mid args below meth c m Q (i + 1) (ai_s1 ls n (.inr (.inr v))) (st) (k) (h)) : ai_at l D base b cA p e s mid args below meth c m Q (i) (ls) (.inr (.inr v) :: st) (k) (h) := by
  intro H locs lsM hW hS hL hZ
  refine lv_astore F.1 F.2.1 hd hL hb rfl (fun ls' hl => ?_)
  have K := K H locs ls' hW hS (ai_lv1 (v := .inr (.inr v)) hl) hZ
  rw [hn] at K
  exact K
theorem sn_astore_n (F : ai_F p e s mid args meth c m) {n : Fin 4} {v : Nat} (hb : n.val < ai_mL m) (hd : decode (ai_mB m) (ai_pc m i) = .ok (.astore_n n, 1)) (hn : ai_pc m (i + 1) = ai_pc m i + 1) (K : ai_at l D base b cA p e s mid args below meth c m Q (i + 1) (ai_s1 ls n.val (.inr (.inr v))) (st) (k) (h)) : ai_at l D base b cA p e s mid args below meth c m Q (i) (ls) (.inr (.inr v) :: st) (k) (h) := by
  intro H locs lsM hW hS hL hZ
  refine lv_astore_n F.1 F.2.1 hd rfl hL hb rfl (fun ls' hl => ?_)
  have K := K H locs ls' hW hS (ai_lv1 (v := .inr (.inr v)) hl) hZ
  rw [hn] at K
  exact K
theorem sn_iinc (F : ai_F p e s mid args meth c m) {n : Nat} {d v : Int} (hv : ai_lg ls n = some (.inl v)) (hb : n < ai_mL m) (hd : decode (ai_mB m) (ai_pc m i) = .ok (.iinc n d, 3)) (hn : ai_pc m (i + 1) = ai_pc m i + 3) (K : ai_at l D base b cA p e s mid args below meth c m Q (i + 1) (ai_s1 ls n (.inl (v + d))) (st) (k) (h)) : ai_at l D base b cA p e s mid args below meth c m Q (i) (ls) (st) (k) (h) := by
  intro H locs lsM hW hS hL hZ
  obtain ⟨q, hq⟩ := List.getElem?_of_mem (ai_as_in (ad := ai_ad base b) hv)
  refine lv_iinc (k := q) (v := Int32.ofInt (v + d)) F.1 F.2.1 hd hL hq (by rw [Int32.ofInt_add]) hb rfl (fun ls' hl => ?_)
  have K := K H locs ls' hW hS (ai_lv1 (v := .inl (v + d)) hl) hZ
  rw [hn] at K
  exact K
theorem sn_iadd (F : ai_F p e s mid args meth c m) {a0 b0 : Int} (hd : decode (ai_mB m) (ai_pc m i) = .ok (.iadd, 1)) (hn : ai_pc m (i + 1) = ai_pc m i + 1) (K : ai_at l D base b cA p e s mid args below meth c m Q (i + 1) (ls) (.inl (a0 + b0) :: st) (k) (h)) : ai_at l D base b cA p e s mid args below meth c m Q (i) (ls) (.inl b0 :: .inl a0 :: st) (k) (h) := by
  intro H locs lsM hW hS hL hZ
  have K := K H locs lsM hW hS hL hZ
  rw [hn] at K
  have e : Int32.ofInt (a0 + b0) = Int32.ofInt a0 + Int32.ofInt b0 := Int32.ofInt_add a0 b0
  simp only [List.map_cons, ai_rn] at K ⊢
  rw [e] at K
  exact lv_iadd F.1 F.2.1 hd K
theorem sn_isub (F : ai_F p e s mid args meth c m) {a0 b0 : Int} (hd : decode (ai_mB m) (ai_pc m i) = .ok (.isub, 1)) (hn : ai_pc m (i + 1) = ai_pc m i + 1) (K : ai_at l D base b cA p e s mid args below meth c m Q (i + 1) (ls) (.inl (a0 - b0) :: st) (k) (h)) : ai_at l D base b cA p e s mid args below meth c m Q (i) (ls) (.inl b0 :: .inl a0 :: st) (k) (h) := by
  intro H locs lsM hW hS hL hZ
  have K := K H locs lsM hW hS hL hZ
  rw [hn] at K
  have e : Int32.ofInt (a0 - b0) = Int32.ofInt a0 - Int32.ofInt b0 := Int32.ofInt_sub a0 b0
  simp only [List.map_cons, ai_rn] at K ⊢
  rw [e] at K
  exact lv_isub F.1 F.2.1 hd K
theorem sn_imul (F : ai_F p e s mid args meth c m) {a0 b0 : Int} (hd : decode (ai_mB m) (ai_pc m i) = .ok (.imul, 1)) (hn : ai_pc m (i + 1) = ai_pc m i + 1) (K : ai_at l D base b cA p e s mid args below meth c m Q (i + 1) (ls) (.inl (a0 * b0) :: st) (k) (h)) : ai_at l D base b cA p e s mid args below meth c m Q (i) (ls) (.inl b0 :: .inl a0 :: st) (k) (h) := by
  intro H locs lsM hW hS hL hZ
  have K := K H locs lsM hW hS hL hZ
  rw [hn] at K
  have e : Int32.ofInt (a0 * b0) = Int32.ofInt a0 * Int32.ofInt b0 := Int32.ofInt_mul a0 b0
  simp only [List.map_cons, ai_rn] at K ⊢
  rw [e] at K
  exact lv_imul F.1 F.2.1 hd K
theorem sn_ladd (F : ai_F p e s mid args meth c m) {a0 b0 : Int} (hd : decode (ai_mB m) (ai_pc m i) = .ok (.ladd, 1)) (hn : ai_pc m (i + 1) = ai_pc m i + 1) (K : ai_at l D base b cA p e s mid args below meth c m Q (i + 1) (ls) (.inr (.inl (a0 + b0)) :: st) (k) (h)) : ai_at l D base b cA p e s mid args below meth c m Q (i) (ls) (.inr (.inl b0) :: .inr (.inl a0) :: st) (k) (h) := by
  intro H locs lsM hW hS hL hZ
  have K := K H locs lsM hW hS hL hZ
  rw [hn] at K
  have e : Int64.ofInt (a0 + b0) = Int64.ofInt a0 + Int64.ofInt b0 := Int64.ofInt_add a0 b0
  simp only [List.map_cons, ai_rn] at K ⊢
  rw [e] at K
  exact lv_ladd F.1 F.2.1 hd K
theorem sn_lsub (F : ai_F p e s mid args meth c m) {a0 b0 : Int} (hd : decode (ai_mB m) (ai_pc m i) = .ok (.lsub, 1)) (hn : ai_pc m (i + 1) = ai_pc m i + 1) (K : ai_at l D base b cA p e s mid args below meth c m Q (i + 1) (ls) (.inr (.inl (a0 - b0)) :: st) (k) (h)) : ai_at l D base b cA p e s mid args below meth c m Q (i) (ls) (.inr (.inl b0) :: .inr (.inl a0) :: st) (k) (h) := by
  intro H locs lsM hW hS hL hZ
  have K := K H locs lsM hW hS hL hZ
  rw [hn] at K
  have e : Int64.ofInt (a0 - b0) = Int64.ofInt a0 - Int64.ofInt b0 := Int64.ofInt_sub a0 b0
  simp only [List.map_cons, ai_rn] at K ⊢
  rw [e] at K
  exact lv_lsub F.1 F.2.1 hd K
theorem sn_lmul (F : ai_F p e s mid args meth c m) {a0 b0 : Int} (hd : decode (ai_mB m) (ai_pc m i) = .ok (.lmul, 1)) (hn : ai_pc m (i + 1) = ai_pc m i + 1) (K : ai_at l D base b cA p e s mid args below meth c m Q (i + 1) (ls) (.inr (.inl (a0 * b0)) :: st) (k) (h)) : ai_at l D base b cA p e s mid args below meth c m Q (i) (ls) (.inr (.inl b0) :: .inr (.inl a0) :: st) (k) (h) := by
  intro H locs lsM hW hS hL hZ
  have K := K H locs lsM hW hS hL hZ
  rw [hn] at K
  have e : Int64.ofInt (a0 * b0) = Int64.ofInt a0 * Int64.ofInt b0 := Int64.ofInt_mul a0 b0
  simp only [List.map_cons, ai_rn] at K ⊢
  rw [e] at K
  exact lv_lmul F.1 F.2.1 hd K
theorem sn_iand (F : ai_F p e s mid args meth c m) {a0 b0 : Int} (hd : decode (ai_mB m) (ai_pc m i) = .ok (.iand, 1)) (hn : ai_pc m (i + 1) = ai_pc m i + 1) (K : ai_at l D base b cA p e s mid args below meth c m Q (i + 1) (ls) (.inl (ai_and a0 b0) :: st) (k) (h)) : ai_at l D base b cA p e s mid args below meth c m Q (i) (ls) (.inl b0 :: .inl a0 :: st) (k) (h) := by
  intro H locs lsM hW hS hL hZ
  have K := K H locs lsM hW hS hL hZ
  rw [hn] at K
  have e : Int32.ofInt (ai_and a0 b0) = Int32.ofInt a0 &&& Int32.ofInt b0 := Int32.ofInt_toInt _
  simp only [List.map_cons, ai_rn] at K ⊢
  rw [e] at K
  exact lv_iand F.1 F.2.1 hd K
theorem sn_ior (F : ai_F p e s mid args meth c m) {a0 b0 : Int} (hd : decode (ai_mB m) (ai_pc m i) = .ok (.ior, 1)) (hn : ai_pc m (i + 1) = ai_pc m i + 1) (K : ai_at l D base b cA p e s mid args below meth c m Q (i + 1) (ls) (.inl (ai_or a0 b0) :: st) (k) (h)) : ai_at l D base b cA p e s mid args below meth c m Q (i) (ls) (.inl b0 :: .inl a0 :: st) (k) (h) := by
  intro H locs lsM hW hS hL hZ
  have K := K H locs lsM hW hS hL hZ
  rw [hn] at K
  have e : Int32.ofInt (ai_or a0 b0) = Int32.ofInt a0 ||| Int32.ofInt b0 := Int32.ofInt_toInt _
  simp only [List.map_cons, ai_rn] at K ⊢
  rw [e] at K
  exact lv_ior F.1 F.2.1 hd K
theorem sn_ixor (F : ai_F p e s mid args meth c m) {a0 b0 : Int} (hd : decode (ai_mB m) (ai_pc m i) = .ok (.ixor, 1)) (hn : ai_pc m (i + 1) = ai_pc m i + 1) (K : ai_at l D base b cA p e s mid args below meth c m Q (i + 1) (ls) (.inl (ai_xor a0 b0) :: st) (k) (h)) : ai_at l D base b cA p e s mid args below meth c m Q (i) (ls) (.inl b0 :: .inl a0 :: st) (k) (h) := by
  intro H locs lsM hW hS hL hZ
  have K := K H locs lsM hW hS hL hZ
  rw [hn] at K
  have e : Int32.ofInt (ai_xor a0 b0) = Int32.ofInt a0 ^^^ Int32.ofInt b0 := Int32.ofInt_toInt _
  simp only [List.map_cons, ai_rn] at K ⊢
  rw [e] at K
  exact lv_ixor F.1 F.2.1 hd K
theorem sn_ishl (F : ai_F p e s mid args meth c m) {a0 b0 : Int} (hd : decode (ai_mB m) (ai_pc m i) = .ok (.ishl, 1)) (hn : ai_pc m (i + 1) = ai_pc m i + 1) (K : ai_at l D base b cA p e s mid args below meth c m Q (i + 1) (ls) (.inl (ai_shl a0 b0) :: st) (k) (h)) : ai_at l D base b cA p e s mid args below meth c m Q (i) (ls) (.inl b0 :: .inl a0 :: st) (k) (h) := by
  intro H locs lsM hW hS hL hZ
  have K := K H locs lsM hW hS hL hZ
  rw [hn] at K
  have e : Int32.ofInt (ai_shl a0 b0) = Int32.ofInt a0 <<< (Int32.ofInt b0 &&& 31) := Int32.ofInt_toInt _
  simp only [List.map_cons, ai_rn] at K ⊢
  rw [e] at K
  exact lv_ishl F.1 F.2.1 hd K
theorem sn_ishr (F : ai_F p e s mid args meth c m) {a0 b0 : Int} (hd : decode (ai_mB m) (ai_pc m i) = .ok (.ishr, 1)) (hn : ai_pc m (i + 1) = ai_pc m i + 1) (K : ai_at l D base b cA p e s mid args below meth c m Q (i + 1) (ls) (.inl (ai_shr a0 b0) :: st) (k) (h)) : ai_at l D base b cA p e s mid args below meth c m Q (i) (ls) (.inl b0 :: .inl a0 :: st) (k) (h) := by
  intro H locs lsM hW hS hL hZ
  have K := K H locs lsM hW hS hL hZ
  rw [hn] at K
  have e : Int32.ofInt (ai_shr a0 b0) = Int32.ofInt a0 >>> (Int32.ofInt b0 &&& 31) := Int32.ofInt_toInt _
  simp only [List.map_cons, ai_rn] at K ⊢
  rw [e] at K
  exact lv_ishr F.1 F.2.1 hd K
theorem sn_idiv (F : ai_F p e s mid args meth c m) {a0 b0 : Int} (hz : ai_r b0 ∧ ¬ b0 = 0) (hd : decode (ai_mB m) (ai_pc m i) = .ok (.idiv, 1)) (hn : ai_pc m (i + 1) = ai_pc m i + 1) (K : ai_at l D base b cA p e s mid args below meth c m Q (i + 1) (ls) (.inl (ai_div a0 b0) :: st) (k) (h)) : ai_at l D base b cA p e s mid args below meth c m Q (i) (ls) (.inl b0 :: .inl a0 :: st) (k) (h) := by
  intro H locs lsM hW hS hL hZ
  have K := K H locs lsM hW hS hL hZ
  rw [hn] at K
  have e : Int32.ofInt (ai_div a0 b0) = Int32.ofInt a0 / Int32.ofInt b0 := Int32.ofInt_toInt _
  simp only [List.map_cons, ai_rn] at K ⊢
  rw [e] at K
  exact lv_idiv F.1 F.2.1 hd (fun q => hz.2 ((ai_eq hz.1 ai_r0).mp q)) K
theorem sn_irem (F : ai_F p e s mid args meth c m) {a0 b0 : Int} (hz : ai_r b0 ∧ ¬ b0 = 0) (hd : decode (ai_mB m) (ai_pc m i) = .ok (.irem, 1)) (hn : ai_pc m (i + 1) = ai_pc m i + 1) (K : ai_at l D base b cA p e s mid args below meth c m Q (i + 1) (ls) (.inl (ai_rem a0 b0) :: st) (k) (h)) : ai_at l D base b cA p e s mid args below meth c m Q (i) (ls) (.inl b0 :: .inl a0 :: st) (k) (h) := by
  intro H locs lsM hW hS hL hZ
  have K := K H locs lsM hW hS hL hZ
  rw [hn] at K
  have e : Int32.ofInt (ai_rem a0 b0) = Int32.ofInt a0 - Int32.ofInt a0 / Int32.ofInt b0 * Int32.ofInt b0 := Int32.ofInt_toInt _
  simp only [List.map_cons, ai_rn] at K ⊢
  rw [e] at K
  exact lv_irem F.1 F.2.1 hd (fun q => hz.2 ((ai_eq hz.1 ai_r0).mp q)) K
theorem sn_land (F : ai_F p e s mid args meth c m) {a0 b0 : Int} (hd : decode (ai_mB m) (ai_pc m i) = .ok (.land, 1)) (hn : ai_pc m (i + 1) = ai_pc m i + 1) (K : ai_at l D base b cA p e s mid args below meth c m Q (i + 1) (ls) (.inr (.inl (ai_land a0 b0)) :: st) (k) (h)) : ai_at l D base b cA p e s mid args below meth c m Q (i) (ls) (.inr (.inl b0) :: .inr (.inl a0) :: st) (k) (h) := by
  intro H locs lsM hW hS hL hZ
  have K := K H locs lsM hW hS hL hZ
  rw [hn] at K
  have e : Int64.ofInt (ai_land a0 b0) = Int64.ofInt a0 &&& Int64.ofInt b0 := Int64.ofInt_toInt _
  simp only [List.map_cons, ai_rn] at K ⊢
  rw [e] at K
  exact lv_land F.1 F.2.1 hd K
theorem sn_lor (F : ai_F p e s mid args meth c m) {a0 b0 : Int} (hd : decode (ai_mB m) (ai_pc m i) = .ok (.lor, 1)) (hn : ai_pc m (i + 1) = ai_pc m i + 1) (K : ai_at l D base b cA p e s mid args below meth c m Q (i + 1) (ls) (.inr (.inl (ai_lor a0 b0)) :: st) (k) (h)) : ai_at l D base b cA p e s mid args below meth c m Q (i) (ls) (.inr (.inl b0) :: .inr (.inl a0) :: st) (k) (h) := by
  intro H locs lsM hW hS hL hZ
  have K := K H locs lsM hW hS hL hZ
  rw [hn] at K
  have e : Int64.ofInt (ai_lor a0 b0) = Int64.ofInt a0 ||| Int64.ofInt b0 := Int64.ofInt_toInt _
  simp only [List.map_cons, ai_rn] at K ⊢
  rw [e] at K
  exact lv_lor F.1 F.2.1 hd K
theorem ai_r80 : ai_r8 0 := ⟨by decide, by decide⟩
theorem sn_ldiv (F : ai_F p e s mid args meth c m) {a0 b0 : Int} (hz : ai_r8 b0 ∧ ¬ b0 = 0) (hd : decode (ai_mB m) (ai_pc m i) = .ok (.ldiv, 1)) (hn : ai_pc m (i + 1) = ai_pc m i + 1) (K : ai_at l D base b cA p e s mid args below meth c m Q (i + 1) (ls) (.inr (.inl (ai_ldiv a0 b0)) :: st) (k) (h)) : ai_at l D base b cA p e s mid args below meth c m Q (i) (ls) (.inr (.inl b0) :: .inr (.inl a0) :: st) (k) (h) := by
  intro H locs lsM hW hS hL hZ
  have K := K H locs lsM hW hS hL hZ
  rw [hn] at K
  have e : Int64.ofInt (ai_ldiv a0 b0) = Int64.ofInt a0 / Int64.ofInt b0 := Int64.ofInt_toInt _
  simp only [List.map_cons, ai_rn] at K ⊢
  rw [e] at K
  exact lv_ldiv F.1 F.2.1 hd (fun q => hz.2 ((ai_eq8 hz.1 ai_r80).mp q)) K
theorem sn_lrem (F : ai_F p e s mid args meth c m) {a0 b0 : Int} (hz : ai_r8 b0 ∧ ¬ b0 = 0) (hd : decode (ai_mB m) (ai_pc m i) = .ok (.lrem, 1)) (hn : ai_pc m (i + 1) = ai_pc m i + 1) (K : ai_at l D base b cA p e s mid args below meth c m Q (i + 1) (ls) (.inr (.inl (ai_lrem a0 b0)) :: st) (k) (h)) : ai_at l D base b cA p e s mid args below meth c m Q (i) (ls) (.inr (.inl b0) :: .inr (.inl a0) :: st) (k) (h) := by
  intro H locs lsM hW hS hL hZ
  have K := K H locs lsM hW hS hL hZ
  rw [hn] at K
  have e : Int64.ofInt (ai_lrem a0 b0) = Int64.ofInt a0 - Int64.ofInt a0 / Int64.ofInt b0 * Int64.ofInt b0 := Int64.ofInt_toInt _
  simp only [List.map_cons, ai_rn] at K ⊢
  rw [e] at K
  exact lv_lrem F.1 F.2.1 hd (fun q => hz.2 ((ai_eq8 hz.1 ai_r80).mp q)) K
theorem sn_lshl (F : ai_F p e s mid args meth c m) {a0 b0 : Int} (hd : decode (ai_mB m) (ai_pc m i) = .ok (.lshl, 1)) (hn : ai_pc m (i + 1) = ai_pc m i + 1) (K : ai_at l D base b cA p e s mid args below meth c m Q (i + 1) (ls) (.inr (.inl (ai_lshl a0 b0)) :: st) (k) (h)) : ai_at l D base b cA p e s mid args below meth c m Q (i) (ls) (.inl b0 :: .inr (.inl a0) :: st) (k) (h) := by
  intro H locs lsM hW hS hL hZ
  have K := K H locs lsM hW hS hL hZ
  rw [hn] at K
  have e : Int64.ofInt (ai_lshl a0 b0) = Int64.ofInt a0 <<< ((Int32.ofInt b0).toInt64 &&& 63) := Int64.ofInt_toInt _
  simp only [List.map_cons, ai_rn] at K ⊢
  rw [e] at K
  exact lv_lshl F.1 F.2.1 hd rfl K
theorem sn_lshr (F : ai_F p e s mid args meth c m) {a0 b0 : Int} (hd : decode (ai_mB m) (ai_pc m i) = .ok (.lshr, 1)) (hn : ai_pc m (i + 1) = ai_pc m i + 1) (K : ai_at l D base b cA p e s mid args below meth c m Q (i + 1) (ls) (.inr (.inl (ai_lshr a0 b0)) :: st) (k) (h)) : ai_at l D base b cA p e s mid args below meth c m Q (i) (ls) (.inl b0 :: .inr (.inl a0) :: st) (k) (h) := by
  intro H locs lsM hW hS hL hZ
  have K := K H locs lsM hW hS hL hZ
  rw [hn] at K
  have e : Int64.ofInt (ai_lshr a0 b0) = Int64.ofInt a0 >>> ((Int32.ofInt b0).toInt64 &&& 63) := Int64.ofInt_toInt _
  simp only [List.map_cons, ai_rn] at K ⊢
  rw [e] at K
  exact lv_lshr F.1 F.2.1 hd rfl K
theorem sn_lneg (F : ai_F p e s mid args meth c m) {a0 : Int} (hd : decode (ai_mB m) (ai_pc m i) = .ok (.lneg, 1)) (hn : ai_pc m (i + 1) = ai_pc m i + 1) (K : ai_at l D base b cA p e s mid args below meth c m Q (i + 1) (ls) (.inr (.inl (-a0)) :: st) (k) (h)) : ai_at l D base b cA p e s mid args below meth c m Q (i) (ls) (.inr (.inl a0) :: st) (k) (h) := by
  intro H locs lsM hW hS hL hZ
  have K := K H locs lsM hW hS hL hZ
  rw [hn] at K
  have e : Int64.ofInt (-a0) = -Int64.ofInt a0 := Int64.ofInt_neg a0
  simp only [List.map_cons, ai_rn] at K ⊢
  rw [e] at K
  exact lv_lneg F.1 F.2.1 hd K
theorem sn_i2c (F : ai_F p e s mid args meth c m) {a0 : Int} (hd : decode (ai_mB m) (ai_pc m i) = .ok (.i2c, 1)) (hn : ai_pc m (i + 1) = ai_pc m i + 1) (K : ai_at l D base b cA p e s mid args below meth c m Q (i + 1) (ls) (.inl (ai_i2c a0) :: st) (k) (h)) : ai_at l D base b cA p e s mid args below meth c m Q (i) (ls) (.inl a0 :: st) (k) (h) := by
  intro H locs lsM hW hS hL hZ
  have K := K H locs lsM hW hS hL hZ
  rw [hn] at K
  have e : Int32.ofInt (ai_i2c a0) = ((Int32.ofInt a0).toUInt32 % 65536).toInt32 := Int32.ofInt_toInt _
  simp only [List.map_cons, ai_rn] at K ⊢
  rw [e] at K
  exact lv_i2c F.1 F.2.1 hd rfl K
theorem sn_i2l (F : ai_F p e s mid args meth c m) {a0 : Int} (hr : ai_r a0) (hd : decode (ai_mB m) (ai_pc m i) = .ok (.i2l, 1)) (hn : ai_pc m (i + 1) = ai_pc m i + 1) (K : ai_at l D base b cA p e s mid args below meth c m Q (i + 1) (ls) (.inr (.inl a0) :: st) (k) (h)) : ai_at l D base b cA p e s mid args below meth c m Q (i) (ls) (.inl a0 :: st) (k) (h) := by
  intro H locs lsM hW hS hL hZ
  have K := K H locs lsM hW hS hL hZ
  rw [hn] at K
  exact lv_i2l F.1 F.2.1 hd (ai_i2l_eq hr) K
theorem sn_l2i (F : ai_F p e s mid args meth c m) {a0 : Int} (hd : decode (ai_mB m) (ai_pc m i) = .ok (.l2i, 1)) (hn : ai_pc m (i + 1) = ai_pc m i + 1) (K : ai_at l D base b cA p e s mid args below meth c m Q (i + 1) (ls) (.inl a0 :: st) (k) (h)) : ai_at l D base b cA p e s mid args below meth c m Q (i) (ls) (.inr (.inl a0) :: st) (k) (h) := by
  intro H locs lsM hW hS hL hZ
  have K := K H locs lsM hW hS hL hZ
  rw [hn] at K
  exact lv_l2i F.1 F.2.1 hd (ai_l2i_eq a0) K
theorem sn_lcmp (F : ai_F p e s mid args meth c m) {a0 b0 : Int} (ha : ai_r8 a0) (hb : ai_r8 b0) (hd : decode (ai_mB m) (ai_pc m i) = .ok (.lcmp, 1)) (hn : ai_pc m (i + 1) = ai_pc m i + 1) (K : ai_at l D base b cA p e s mid args below meth c m Q (i + 1) (ls) (.inl (ai_cmp a0 b0) :: st) (k) (h)) : ai_at l D base b cA p e s mid args below meth c m Q (i) (ls) (.inr (.inl b0) :: .inr (.inl a0) :: st) (k) (h) := by
  intro H locs lsM hW hS hL hZ
  have K := K H locs lsM hW hS hL hZ
  rw [hn] at K
  simp only [List.map_cons, ai_rn] at K ⊢
  rw [← ai_cmp_eq ha hb] at K
  exact W.lcmp F.1 F.2.1 hd K
theorem sn_icmp_eq (F : ai_F p e s mid args meth c m) {a0 b0 : Int} {off : Int} {t : Nat} (ha : ai_r a0) (hb : ai_r b0) (hd : decode (ai_mB m) (ai_pc m i) = .ok (.if_icmp .eq off, 3)) (hn : ai_pc m (i + 1) = ai_pc m i + 3) (ht : (ai_pc m i : Int) + off = (ai_pc m t : Int)) (K1 : a0 = b0 → ai_at l D base b cA p e s mid args below meth c m Q (t) (ls) (st) (k) (h)) (K2 : ¬ (a0 = b0) → ai_at l D base b cA p e s mid args below meth c m Q (i + 1) (ls) (st) (k) (h)) : ai_at l D base b cA p e s mid args below meth c m Q (i) (ls) (.inl b0 :: .inl a0 :: st) (k) (h) := by
  intro H locs lsM hW hS hL hZ
  refine lv_icmp_eq F.1 F.2.1 hd ht (fun q => K1 ?_ H locs lsM hW hS hL hZ) (fun q => ?_)
  · exact (ai_eq ha hb).mp q
  · have K := K2 (fun z => q ((ai_eq ha hb).mpr z)) H locs lsM hW hS hL hZ
    rw [hn] at K
    exact K
theorem sn_if_eq (F : ai_F p e s mid args meth c m) {a0 b0 : Int} {off : Int} {t : Nat} (ha : ai_r a0) (hd : decode (ai_mB m) (ai_pc m i) = .ok (.ifCond .eq off, 3)) (hn : ai_pc m (i + 1) = ai_pc m i + 3) (ht : (ai_pc m i : Int) + off = (ai_pc m t : Int)) (K1 : a0 = 0 → ai_at l D base b cA p e s mid args below meth c m Q (t) (ls) (st) (k) (h)) (K2 : ¬ (a0 = 0) → ai_at l D base b cA p e s mid args below meth c m Q (i + 1) (ls) (st) (k) (h)) : ai_at l D base b cA p e s mid args below meth c m Q (i) (ls) (.inl a0 :: st) (k) (h) := by
  intro H locs lsM hW hS hL hZ
  refine lv_if_eq F.1 F.2.1 hd ht (fun q => K1 ?_ H locs lsM hW hS hL hZ) (fun q => ?_)
  · exact (ai_eq ha ai_r0).mp q
  · have K := K2 (fun z => q ((ai_eq ha ai_r0).mpr z)) H locs lsM hW hS hL hZ
    rw [hn] at K
    exact K
theorem sn_icmp_ne (F : ai_F p e s mid args meth c m) {a0 b0 : Int} {off : Int} {t : Nat} (ha : ai_r a0) (hb : ai_r b0) (hd : decode (ai_mB m) (ai_pc m i) = .ok (.if_icmp .ne off, 3)) (hn : ai_pc m (i + 1) = ai_pc m i + 3) (ht : (ai_pc m i : Int) + off = (ai_pc m t : Int)) (K1 : ¬ a0 = b0 → ai_at l D base b cA p e s mid args below meth c m Q (t) (ls) (st) (k) (h)) (K2 : ¬ (¬ a0 = b0) → ai_at l D base b cA p e s mid args below meth c m Q (i + 1) (ls) (st) (k) (h)) : ai_at l D base b cA p e s mid args below meth c m Q (i) (ls) (.inl b0 :: .inl a0 :: st) (k) (h) := by
  intro H locs lsM hW hS hL hZ
  refine lv_icmp_ne F.1 F.2.1 hd ht (fun q => K1 ?_ H locs lsM hW hS hL hZ) (fun q => ?_)
  · exact fun z => q ((ai_eq ha hb).mpr z)
  · have K := K2 (fun z => z ((ai_eq ha hb).mp q)) H locs lsM hW hS hL hZ
    rw [hn] at K
    exact K
theorem sn_if_ne (F : ai_F p e s mid args meth c m) {a0 b0 : Int} {off : Int} {t : Nat} (ha : ai_r a0) (hd : decode (ai_mB m) (ai_pc m i) = .ok (.ifCond .ne off, 3)) (hn : ai_pc m (i + 1) = ai_pc m i + 3) (ht : (ai_pc m i : Int) + off = (ai_pc m t : Int)) (K1 : ¬ a0 = 0 → ai_at l D base b cA p e s mid args below meth c m Q (t) (ls) (st) (k) (h)) (K2 : ¬ (¬ a0 = 0) → ai_at l D base b cA p e s mid args below meth c m Q (i + 1) (ls) (st) (k) (h)) : ai_at l D base b cA p e s mid args below meth c m Q (i) (ls) (.inl a0 :: st) (k) (h) := by
  intro H locs lsM hW hS hL hZ
  refine lv_if_ne F.1 F.2.1 hd ht (fun q => K1 ?_ H locs lsM hW hS hL hZ) (fun q => ?_)
  · exact fun z => q ((ai_eq ha ai_r0).mpr z)
  · have K := K2 (fun z => z ((ai_eq ha ai_r0).mp q)) H locs lsM hW hS hL hZ
    rw [hn] at K
    exact K
theorem sn_icmp_lt (F : ai_F p e s mid args meth c m) {a0 b0 : Int} {off : Int} {t : Nat} (ha : ai_r a0) (hb : ai_r b0) (hd : decode (ai_mB m) (ai_pc m i) = .ok (.if_icmp .lt off, 3)) (hn : ai_pc m (i + 1) = ai_pc m i + 3) (ht : (ai_pc m i : Int) + off = (ai_pc m t : Int)) (K1 : a0 < b0 → ai_at l D base b cA p e s mid args below meth c m Q (t) (ls) (st) (k) (h)) (K2 : ¬ (a0 < b0) → ai_at l D base b cA p e s mid args below meth c m Q (i + 1) (ls) (st) (k) (h)) : ai_at l D base b cA p e s mid args below meth c m Q (i) (ls) (.inl b0 :: .inl a0 :: st) (k) (h) := by
  intro H locs lsM hW hS hL hZ
  refine lv_icmp_lt F.1 F.2.1 hd ht (fun q => K1 ?_ H locs lsM hW hS hL hZ) (fun q => ?_)
  · exact (ai_lt ha hb).mp q
  · have K := K2 (fun z => q ((ai_lt ha hb).mpr z)) H locs lsM hW hS hL hZ
    rw [hn] at K
    exact K
theorem sn_if_lt (F : ai_F p e s mid args meth c m) {a0 b0 : Int} {off : Int} {t : Nat} (ha : ai_r a0) (hd : decode (ai_mB m) (ai_pc m i) = .ok (.ifCond .lt off, 3)) (hn : ai_pc m (i + 1) = ai_pc m i + 3) (ht : (ai_pc m i : Int) + off = (ai_pc m t : Int)) (K1 : a0 < 0 → ai_at l D base b cA p e s mid args below meth c m Q (t) (ls) (st) (k) (h)) (K2 : ¬ (a0 < 0) → ai_at l D base b cA p e s mid args below meth c m Q (i + 1) (ls) (st) (k) (h)) : ai_at l D base b cA p e s mid args below meth c m Q (i) (ls) (.inl a0 :: st) (k) (h) := by
  intro H locs lsM hW hS hL hZ
  refine lv_if_lt F.1 F.2.1 hd ht (fun q => K1 ?_ H locs lsM hW hS hL hZ) (fun q => ?_)
  · exact (ai_lt ha ai_r0).mp q
  · have K := K2 (fun z => q ((ai_lt ha ai_r0).mpr z)) H locs lsM hW hS hL hZ
    rw [hn] at K
    exact K
theorem sn_icmp_ge (F : ai_F p e s mid args meth c m) {a0 b0 : Int} {off : Int} {t : Nat} (ha : ai_r a0) (hb : ai_r b0) (hd : decode (ai_mB m) (ai_pc m i) = .ok (.if_icmp .ge off, 3)) (hn : ai_pc m (i + 1) = ai_pc m i + 3) (ht : (ai_pc m i : Int) + off = (ai_pc m t : Int)) (K1 : b0 ≤ a0 → ai_at l D base b cA p e s mid args below meth c m Q (t) (ls) (st) (k) (h)) (K2 : ¬ (b0 ≤ a0) → ai_at l D base b cA p e s mid args below meth c m Q (i + 1) (ls) (st) (k) (h)) : ai_at l D base b cA p e s mid args below meth c m Q (i) (ls) (.inl b0 :: .inl a0 :: st) (k) (h) := by
  intro H locs lsM hW hS hL hZ
  refine lv_icmp_ge F.1 F.2.1 hd ht (fun q => K1 ?_ H locs lsM hW hS hL hZ) (fun q => ?_)
  · exact (ai_le hb ha).mp q
  · have K := K2 (fun z => q ((ai_le hb ha).mpr z)) H locs lsM hW hS hL hZ
    rw [hn] at K
    exact K
theorem sn_if_ge (F : ai_F p e s mid args meth c m) {a0 b0 : Int} {off : Int} {t : Nat} (ha : ai_r a0) (hd : decode (ai_mB m) (ai_pc m i) = .ok (.ifCond .ge off, 3)) (hn : ai_pc m (i + 1) = ai_pc m i + 3) (ht : (ai_pc m i : Int) + off = (ai_pc m t : Int)) (K1 : 0 ≤ a0 → ai_at l D base b cA p e s mid args below meth c m Q (t) (ls) (st) (k) (h)) (K2 : ¬ (0 ≤ a0) → ai_at l D base b cA p e s mid args below meth c m Q (i + 1) (ls) (st) (k) (h)) : ai_at l D base b cA p e s mid args below meth c m Q (i) (ls) (.inl a0 :: st) (k) (h) := by
  intro H locs lsM hW hS hL hZ
  refine lv_if_ge F.1 F.2.1 hd ht (fun q => K1 ?_ H locs lsM hW hS hL hZ) (fun q => ?_)
  · exact (ai_le ai_r0 ha).mp q
  · have K := K2 (fun z => q ((ai_le ai_r0 ha).mpr z)) H locs lsM hW hS hL hZ
    rw [hn] at K
    exact K
theorem sn_icmp_gt (F : ai_F p e s mid args meth c m) {a0 b0 : Int} {off : Int} {t : Nat} (ha : ai_r a0) (hb : ai_r b0) (hd : decode (ai_mB m) (ai_pc m i) = .ok (.if_icmp .gt off, 3)) (hn : ai_pc m (i + 1) = ai_pc m i + 3) (ht : (ai_pc m i : Int) + off = (ai_pc m t : Int)) (K1 : b0 < a0 → ai_at l D base b cA p e s mid args below meth c m Q (t) (ls) (st) (k) (h)) (K2 : ¬ (b0 < a0) → ai_at l D base b cA p e s mid args below meth c m Q (i + 1) (ls) (st) (k) (h)) : ai_at l D base b cA p e s mid args below meth c m Q (i) (ls) (.inl b0 :: .inl a0 :: st) (k) (h) := by
  intro H locs lsM hW hS hL hZ
  refine lv_icmp_gt F.1 F.2.1 hd ht (fun q => K1 ?_ H locs lsM hW hS hL hZ) (fun q => ?_)
  · exact (ai_lt hb ha).mp q
  · have K := K2 (fun z => q ((ai_lt hb ha).mpr z)) H locs lsM hW hS hL hZ
    rw [hn] at K
    exact K
theorem sn_if_gt (F : ai_F p e s mid args meth c m) {a0 b0 : Int} {off : Int} {t : Nat} (ha : ai_r a0) (hd : decode (ai_mB m) (ai_pc m i) = .ok (.ifCond .gt off, 3)) (hn : ai_pc m (i + 1) = ai_pc m i + 3) (ht : (ai_pc m i : Int) + off = (ai_pc m t : Int)) (K1 : 0 < a0 → ai_at l D base b cA p e s mid args below meth c m Q (t) (ls) (st) (k) (h)) (K2 : ¬ (0 < a0) → ai_at l D base b cA p e s mid args below meth c m Q (i + 1) (ls) (st) (k) (h)) : ai_at l D base b cA p e s mid args below meth c m Q (i) (ls) (.inl a0 :: st) (k) (h) := by
  intro H locs lsM hW hS hL hZ
  refine lv_if_gt F.1 F.2.1 hd ht (fun q => K1 ?_ H locs lsM hW hS hL hZ) (fun q => ?_)
  · exact (ai_lt ai_r0 ha).mp q
  · have K := K2 (fun z => q ((ai_lt ai_r0 ha).mpr z)) H locs lsM hW hS hL hZ
    rw [hn] at K
    exact K
theorem sn_icmp_le (F : ai_F p e s mid args meth c m) {a0 b0 : Int} {off : Int} {t : Nat} (ha : ai_r a0) (hb : ai_r b0) (hd : decode (ai_mB m) (ai_pc m i) = .ok (.if_icmp .le off, 3)) (hn : ai_pc m (i + 1) = ai_pc m i + 3) (ht : (ai_pc m i : Int) + off = (ai_pc m t : Int)) (K1 : a0 ≤ b0 → ai_at l D base b cA p e s mid args below meth c m Q (t) (ls) (st) (k) (h)) (K2 : ¬ (a0 ≤ b0) → ai_at l D base b cA p e s mid args below meth c m Q (i + 1) (ls) (st) (k) (h)) : ai_at l D base b cA p e s mid args below meth c m Q (i) (ls) (.inl b0 :: .inl a0 :: st) (k) (h) := by
  intro H locs lsM hW hS hL hZ
  refine lv_icmp_le F.1 F.2.1 hd ht (fun q => K1 ?_ H locs lsM hW hS hL hZ) (fun q => ?_)
  · exact (ai_le ha hb).mp q
  · have K := K2 (fun z => q ((ai_le ha hb).mpr z)) H locs lsM hW hS hL hZ
    rw [hn] at K
    exact K
theorem sn_if_le (F : ai_F p e s mid args meth c m) {a0 b0 : Int} {off : Int} {t : Nat} (ha : ai_r a0) (hd : decode (ai_mB m) (ai_pc m i) = .ok (.ifCond .le off, 3)) (hn : ai_pc m (i + 1) = ai_pc m i + 3) (ht : (ai_pc m i : Int) + off = (ai_pc m t : Int)) (K1 : a0 ≤ 0 → ai_at l D base b cA p e s mid args below meth c m Q (t) (ls) (st) (k) (h)) (K2 : ¬ (a0 ≤ 0) → ai_at l D base b cA p e s mid args below meth c m Q (i + 1) (ls) (st) (k) (h)) : ai_at l D base b cA p e s mid args below meth c m Q (i) (ls) (.inl a0 :: st) (k) (h) := by
  intro H locs lsM hW hS hL hZ
  refine lv_if_le F.1 F.2.1 hd ht (fun q => K1 ?_ H locs lsM hW hS hL hZ) (fun q => ?_)
  · exact (ai_le ha ai_r0).mp q
  · have K := K2 (fun z => q ((ai_le ha ai_r0).mpr z)) H locs lsM hW hS hL hZ
    rw [hn] at K
    exact K
theorem sn_goto (F : ai_F p e s mid args meth c m) {off : Int} {t : Nat} (hd : decode (ai_mB m) (ai_pc m i) = .ok (.goto off, 3)) (ht : (ai_pc m i : Int) + off = (ai_pc m t : Int)) (K : ai_at l D base b cA p e s mid args below meth c m Q (t) (ls) (st) (k) (h)) : ai_at l D base b cA p e s mid args below meth c m Q (i) (ls) (st) (k) (h) := by
  intro H locs lsM hW hS hL hZ
  exact lv_goto F.1 F.2.1 hd ht (K H locs lsM hW hS hL hZ)
theorem sn_dup_i (F : ai_F p e s mid args meth c m) {a0 : Int} (hd : decode (ai_mB m) (ai_pc m i) = .ok (.dup, 1)) (hn : ai_pc m (i + 1) = ai_pc m i + 1) (K : ai_at l D base b cA p e s mid args below meth c m Q (i + 1) (ls) (.inl a0 :: .inl a0 :: st) (k) (h)) : ai_at l D base b cA p e s mid args below meth c m Q (i) (ls) (.inl a0 :: st) (k) (h) := by
  intro H locs lsM hW hS hL hZ
  have K := K H locs lsM hW hS hL hZ
  rw [hn] at K
  exact lv_dup F.1 F.2.1 hd rfl K
theorem sn_dup_a (F : ai_F p e s mid args meth c m) {a0 : Nat} (hd : decode (ai_mB m) (ai_pc m i) = .ok (.dup, 1)) (hn : ai_pc m (i + 1) = ai_pc m i + 1) (K : ai_at l D base b cA p e s mid args below meth c m Q (i + 1) (ls) (.inr (.inr a0) :: .inr (.inr a0) :: st) (k) (h)) : ai_at l D base b cA p e s mid args below meth c m Q (i) (ls) (.inr (.inr a0) :: st) (k) (h) := by
  intro H locs lsM hW hS hL hZ
  have K := K H locs lsM hW hS hL hZ
  rw [hn] at K
  exact lv_dup F.1 F.2.1 hd rfl K
theorem sn_dup2 (F : ai_F p e s mid args meth c m) {a0 : Int} {b0 : Nat} (hd : decode (ai_mB m) (ai_pc m i) = .ok (.dup2, 1)) (hn : ai_pc m (i + 1) = ai_pc m i + 1) (K : ai_at l D base b cA p e s mid args below meth c m Q (i + 1) (ls) (.inl a0 :: .inr (.inr b0) :: .inl a0 :: .inr (.inr b0) :: st) (k) (h)) : ai_at l D base b cA p e s mid args below meth c m Q (i) (ls) (.inl a0 :: .inr (.inr b0) :: st) (k) (h) := by
  intro H locs lsM hW hS hL hZ
  have K := K H locs lsM hW hS hL hZ
  rw [hn] at K
  exact lv_dup2_11 F.1 F.2.1 hd rfl rfl K
theorem sn_pop (F : ai_F p e s mid args meth c m) {a0 : Int} (hd : decode (ai_mB m) (ai_pc m i) = .ok (.pop, 1)) (hn : ai_pc m (i + 1) = ai_pc m i + 1) (K : ai_at l D base b cA p e s mid args below meth c m Q (i + 1) (ls) (st) (k) (h)) : ai_at l D base b cA p e s mid args below meth c m Q (i) (ls) (.inl a0 :: st) (k) (h) := by
  intro H locs lsM hW hS hL hZ
  have K := K H locs lsM hW hS hL hZ
  rw [hn] at K
  exact lv_pop F.1 F.2.1 hd rfl K
end AIS
