/-! THE CHECK: each row of the tables is what the bytes say, and its words are among the Statement's. -/
theorem ai_nth_eq {α : Type} : ∀ (l : List α) (n : Nat), ai_nth l n = l[n]?
  | [], _ => by simp [ai_nth]
  | _ :: _, 0 => by simp [ai_nth]
  | _ :: l, n + 1 => by simp [ai_nth, ai_nth_eq l n]
def ai_lv (x : ai_X) : Int := match x.2.2.1 with
  | 0 => Int.ofNat x.2.1
  | _ => -Int.ofNat x.2.1
def ai_TY (kd : Nat) : FieldType := match kd with
  | 0 => .int
  | 1 => .long
  | 2 => .boolean
  | 3 => .char
  | _ => .object ai_Store
def ai_cp (ty : FieldType) (kd : Nat) : Bool := match ty, kd with
  | .int, 0 => true
  | .long, 1 => true
  | .boolean, 3 => true
  | .object _, 2 => true
  | .object _, 4 => true
  | .array _, 2 => true
  | _, _ => false
noncomputable def ai_cw (m : Nat) : Cond := match ai_hh m with
  | [] => .code (ai_mY m) (ai_mB m) (ai_mL m) (ai_mR m)
  | hh => .codeWith (ai_mY m) (ai_mB m) (ai_mL m) (ai_mR m) hh
noncomputable def ai_wl (c : Nat) : List Cond := match c with
  | 0 => k2_sels lw_privs
  | 1 => tables_1_1
  | 2 => tables_1_2
  | 3 => tables_1_3
  | 4 => tables_1_4
  | 5 => tables_1_5
  | _ => tables_1_6
theorem ai_wl_in {c : Nat} {w : Cond} (h : w ∈ ai_wl c) : w ∈ lw_tbl := by
  unfold ai_wl at h
  unfold lw_tbl tables_1
  simp only [List.mem_append]
  split at h
  · exact Or.inl h
  · exact Or.inr (Or.inl h)
  · exact Or.inr (Or.inr (Or.inl h))
  · exact Or.inr (Or.inr (Or.inr (Or.inl h)))
  · exact Or.inr (Or.inr (Or.inr (Or.inr (Or.inl h))))
  · exact Or.inr (Or.inr (Or.inr (Or.inr (Or.inr (Or.inl h)))))
  · exact Or.inr (Or.inr (Or.inr (Or.inr (Or.inr (Or.inr h)))))
noncomputable def ai_wd (j : Nat) (w : Cond) : Bool := decide (ai_nth (ai_wl (j / 1000)) (j % 1000) = some w) && goodWord w
theorem ai_wd_in {j : Nat} {w : Cond} (h : ai_wd j w = true) : w ∈ ai_WS := by
  unfold ai_wd at h
  simp only [Bool.and_eq_true, decide_eq_true_eq, ai_nth_eq] at h
  exact List.mem_filter.mpr ⟨ai_wl_in (List.mem_of_getElem? h.1), h.2⟩
theorem ai_WS_good : ∀ w ∈ ai_WS, (w.onTables && w.keeps) = true ∨ ∃ ty, w = .arrayClass ty := fun w h => good_of_word (List.mem_filter.mp h).2
noncomputable def ai_nx (m i pc : Nat) : Bool := match ai_nth (ai_ops m) (i + 1) with
  | some e => Nat.beq e.1 pc
  | none => false
noncomputable def ai_tg (m t : Nat) (z : Int) : Bool := match ai_nth (ai_ops m) t with
  | some e => decide (Int.ofNat e.1 = z)
  | none => false
theorem ai_nx_pc {m i pc : Nat} (h : ai_nx m i pc = true) : ai_pc m (i + 1) = pc := by
  unfold ai_nx at h
  unfold ai_pc
  split at h
  · rename_i e he
    rw [he]
    exact Nat.eq_of_beq_eq_true h
  · cases h
theorem ai_tg_pc {m t : Nat} {z : Int} (h : ai_tg m t z = true) : z = (ai_pc m t : Int) := by
  unfold ai_tg at h
  unfold ai_pc
  split at h
  · rename_i e he
    rw [he]
    exact (of_decide_eq_true h).symm
  · cases h
/-- a class: its words, its fields -/
noncomputable def ai_okC (ci : Nat) : Bool := match vwCl[ci]? with
  | some (C, T, N) => Nat.beq (ai_nf ci) N && (List.range N).all (fun k => ai_wd (ai_gd 0 (ai_cx ci).2.2 k) (u_lay C T k)) && decide (∀ j, j < N → parseFieldDescriptor (T j).2.2.1 = some (ai_ft ci j)) && decide (∀ x, x < N → ∀ y, y < N → x ≠ y → (T x).2.1 ≠ (T y).2.1) && decide (∀ j, j < N → ai_cp (ai_ft ci j) (ai_kd ci j) = true) && ai_wd (ai_cx ci).1 (.instantiable C N) && ai_wd (ai_cx ci).2.1 (.initialized C) && decide (∀ j, j < N → (T j).1 = C)
  | none => true
set_option maxRecDepth 100000 in
theorem ai_okC_all : (List.range 11).all ai_okC = true := by decide +kernel
theorem ai_vw_lt {ci : Nat} {x : vw_C} (h : vwCl[ci]? = some x) : ci < 11 := (List.getElem?_eq_some_iff.mp h).1
theorem ai_cls {ci : Nat} {C : String} {T : u_T} {N : Nat} (h : vwCl[ci]? = some (C, T, N)) : ai_nf ci = N ∧ (∀ w ∈ u_ws C T N, w ∈ ai_WS) ∧ (∀ j, j < N → parseFieldDescriptor (T j).2.2.1 = some (ai_ft ci j)) ∧ (∀ x, x < N → ∀ y, y < N → x ≠ y → (T x).2.1 ≠ (T y).2.1) ∧ (∀ j, j < N → ai_cp (ai_ft ci j) (ai_kd ci j) = true) ∧ Cond.instantiable C N ∈ ai_WS ∧ Cond.initialized C ∈ ai_WS ∧ ∀ j, j < N → (T j).1 = C := by
  have h0 := List.all_eq_true.mp ai_okC_all ci (List.mem_range.mpr (ai_vw_lt h))
  unfold ai_okC at h0
  rw [h] at h0
  simp only [Bool.and_eq_true, decide_eq_true_eq] at h0
  obtain ⟨⟨⟨⟨⟨⟨⟨h1, h2⟩, h3⟩, h4⟩, h5⟩, h6⟩, h7⟩, h8⟩ := h0
  refine ⟨Nat.eq_of_beq_eq_true h1, fun w hw => ?_, h3, h4, h5, ai_wd_in h6, ai_wd_in h7, h8⟩
  obtain ⟨k, hk, rfl⟩ := List.mem_map.mp hw
  exact ai_wd_in (List.all_eq_true.mp h2 k hk)
noncomputable def ai_okf (m : Nat) (x : ai_X) (n : Nat) (put : Bool) : Bool := match vwCl[x.1]? with
  | some (C, T, N) => Nat.blt x.2.1 N && ai_wd x.2.2.2.2 (.fieldLink (ai_mY m).cls n C (T x.2.1).2.1 (T x.2.1).2.2.1) && Nat.beq (ai_kd x.1 x.2.1) x.2.2.1 && (!put || !(T x.2.1).2.2.2 || (decide ((ai_mY m).name = "<init>") && decide (C = (ai_mY m).cls)))
  | none => false
noncomputable def ai_rmk (m m' : Nat) : Bool := Nat.ble (ai_mf m' + 1) (ai_mf m) && Nat.ble (8 + (ai_mL m' + 11) + ai_mw m') (ai_mw m)
/-- a method: its words, its name -/
noncomputable def ai_okY (m : Nat) : Bool := ai_wd (ai_ww m).2.2.2 (.initialized (ai_mY m).cls) && decide ((ai_mY m).cls ≠ "java/lang/invoke/MethodHandle") && decide ((ai_mY m).cls ≠ "java/lang/invoke/VarHandle") && decide ((parseMethodDescriptor (ai_mY m).desc).map (fun d => d.parameters.length) = some (ai_mN m)) && plainName (ai_mY m).cls && Nat.beq (ai_pc m 0) 0 && (match ai_mK m with
  | 0 => ai_wd (ai_ww m).2.1 (.instanceMethod (ai_mY m)) && ai_wd (ai_ww m).2.2.1 (.selects (ai_mY m).cls (ai_mY m) (ai_mY m)) && decide ((vwCl[ai_mC m]?).map (fun q => q.1) = some (ai_mY m).cls)
  | 1 => ai_wd (ai_ww m).2.1 (.instanceMethod (ai_mY m)) && decide ((ai_mY m).name = "<init>") && decide (ai_mR m = none)
  | _ => ai_wd (ai_ww m).2.1 (.static (ai_mY m)))
noncomputable def ai_okv (m : Nat) (x : ai_X) (n kd : Nat) : Bool := ai_wd x.2.2.2.2 (.methodLink (ai_mY m).cls n (ai_mY x.1)) && Nat.beq (ai_mK x.1) kd && Nat.blt x.1 206 && Nat.beq x.2.1 (ai_mN x.1 + (if kd = 2 then 0 else 1)) && ai_rmk m x.1 && (match kd with
  | 2 => decide ((ai_mY x.1).cls = (ai_mY m).cls) && Nat.beq x.2.2.1 0
  | 1 => Nat.beq x.2.2.1 0 && (ai_hh x.1).isEmpty
  | _ => (ai_hh x.1).isEmpty)
noncomputable def ai_okl (m : Nat) (x : ai_X) (n : Nat) : Bool := Nat.ble 1 (ai_mf m) && match x.1 with
  | 1001 => ai_wd x.2.2.2.2 (.methodLink (ai_mY m).cls n arraycopyName) && ai_wd (ai_lw 1).1 (.native arraycopyName) && ai_wd (ai_lw 1).2.1 (.static arraycopyName) && ai_wd (ai_lw 1).2.2 (.initialized "java/lang/System") && Nat.ble (8 + (nativeFrameWords "java/lang/System" "arraycopy" 5 + 11)) (ai_mw m)
  | 1002 => ai_wd x.2.2.2.2 (.methodLink (ai_mY m).cls n Lib.MathLoose.abs_long.x) && ai_wd (ai_lw 2).1 (.static Lib.MathLoose.abs_long.x) && ai_wd (ai_lw 2).2.1 (.initialized "java/lang/Math") && ai_wd (ai_lw 2).2.2 (.code Lib.MathLoose.abs_long.x Lib.MathLoose.abs_long.code 2 (some .long)) && Nat.ble 21 (ai_mw m)
  | 1003 => ai_wd x.2.2.2.2 (.methodLink (ai_mY m).cls n Lib.Math.min.name) && ai_wd (ai_lw 3).1 (.static Lib.Math.min.name) && ai_wd (ai_lw 3).2.1 (.initialized "java/lang/Math") && ai_wd (ai_lw 3).2.2 (.code Lib.Math.min.name Lib.Math.min.code 2 (some .int)) && Nat.ble 21 (ai_mw m)
  | _ => false
noncomputable def ai_oko (m : Nat) (x : ai_X) (n : Nat) : Bool := Nat.beq x.1 1000 && Nat.ble 1 (ai_mf m) && ai_wd x.2.2.2.2 (.methodLink (ai_mY m).cls n Lib.objectInit) && ai_wd (ai_lw 0).1 (.instanceMethod Lib.objectInit) && ai_wd (ai_lw 0).2.1 (.code Lib.objectInit ⟨#[0xb1]⟩ 1 none) && Nat.ble 20 (ai_mw m)
noncomputable def ai_okn (m : Nat) (x : ai_X) (n : Nat) : Bool := match vwCl[x.1]? with
  | some (C, _, N) => Nat.beq x.2.1 N && ai_wd x.2.2.2.2 (.classLink (ai_mY m).cls n C)
  | none => false
/-- 'new E, dup, ldc, E(String), athrow' -/
noncomputable def ai_okx (m i pc : Nat) (x : ai_X) (n : Nat) : Bool := (ai_hh m).isEmpty && Nat.ble 6 (ai_mf m) && Nat.ble 82 (ai_mw m) && Nat.blt x.1 4 && ai_wd x.2.2.2.2 (.classLink (ai_mY m).cls n (ai_xn x.1)) && (match ai_nth (ai_ops m) (i + 3) with
  | some e3 => match decode (ai_mB m) (pc + 3), decode (ai_mB m) (pc + 4), decode (ai_mB m) (pc + 6), decode (ai_mB m) (pc + 9) with
    | .ok (.dup, 1), .ok (.ldc kx, 2), .ok (.invokespecial ic, 3), .ok (.athrow, 1) => ai_strs.any (fun q => decide (q.1 = (ai_mY m).cls) && Nat.beq q.2.1 kx) && ai_wd e3.2.2.2.1.2.2.2.2 (.methodLink (ai_mY m).cls ic ⟨ai_xn x.1, "<init>", "(Ljava/lang/String;)V"⟩)
    | _, _, _, _ => false
  | none => false)
noncomputable def ai_okI (m i pc : Nat) (x : ai_X) (ins : Instr) : Bool := match ins with
  | .iconst _ | .lconst _ | .iload_n _ | .lload_n _ | .aload_n _ | .iadd | .isub | .imul | .iand | .ior | .ixor | .ishl | .ishr | .idiv | .irem | .ladd | .lsub | .lmul | .land | .lor | .ldiv | .lrem | .lshl | .lshr | .lneg | .i2c | .i2l | .l2i | .lcmp | .dup | .dup2 | .pop | .iaload | .baload | .caload | .laload | .aaload | .iastore | .bastore | .castore | .lastore | .aastore | .arraylength => ai_nx m i (pc + 1)
  | .iload _ | .lload _ | .aload _ => ai_nx m i (pc + 2)
  | .bipush n => ai_nx m i (pc + 2) && decide ((Int8.ofInt n).toInt32 = Int32.ofInt n)
  | .sipush n => ai_nx m i (pc + 3) && decide ((Int16.ofInt n).toInt32 = Int32.ofInt n)
  | .ldc2_w n => ai_nx m i (pc + 3) && ai_wd x.2.2.2.2 (.constantLong (ai_mY m).cls n (Int64.ofInt (ai_lv x)))
  | .istore n | .astore n => ai_nx m i (pc + 2) && Nat.blt n (ai_mL m)
  | .istore_n n | .astore_n n => ai_nx m i (pc + 1) && Nat.blt n.val (ai_mL m)
  | .lstore n => ai_nx m i (pc + 2) && Nat.blt (n + 1) (ai_mL m)
  | .lstore_n n => ai_nx m i (pc + 1) && Nat.blt (n.val + 1) (ai_mL m)
  | .iinc n _ => ai_nx m i (pc + 3) && Nat.blt n (ai_mL m)
  | .ifCond _ off | .if_icmp _ off => ai_nx m i (pc + 3) && ai_tg m x.1 (Int.ofNat pc + off)
  | .goto off => ai_tg m x.1 (Int.ofNat pc + off)
  | .tableswitch d lo hi offs => decide (lo = 0) && decide (hi = 18) && Nat.beq ai_swt.length 19 && ai_tg m x.1 (Int.ofNat pc + d) && (List.range 19).all (fun j => match offs[j]?, ai_nth ai_swt j with
    | some o, some t => ai_tg m t (Int.ofNat pc + o)
    | _, _ => false)
  | .getfield n => ai_nx m i (pc + 3) && ai_okf m x n false
  | .putfield n => ai_nx m i (pc + 3) && ai_okf m x n true
  | .new n => match x.2.2.1 with
    | 0 => ai_nx m i (pc + 3) && ai_okn m x n
    | _ => ai_okx m i pc x n
  | .newarray t => ai_nx m i (pc + 2) && decide (newarray.typeOf t = ai_TY x.1) && Nat.blt x.1 4 && ai_wd (ai_aw x.1) (.arrayClass (ai_TY x.1))
  | .anewarray n => ai_nx m i (pc + 3) && ai_wd x.2.2.2.2 (.classLink (ai_mY m).cls n ai_Store)
  | .invokevirtual n => ai_nx m i (pc + 3) && ai_okv m x n 0
  | .invokestatic n => ai_nx m i (pc + 3) && (match x.2.2.2.1 with
    | 0 => ai_okv m x n 2
    | _ => ai_okl m x n)
  | .invokespecial n => ai_nx m i (pc + 3) && (match x.2.2.2.1 with
    | 0 => ai_okv m x n 1
    | 1 => ai_oko m x n
    | _ => true)
  | .return_ => decide (ai_mR m = none)
  | .ireturn => match x.1 with
    | 0 => decide (ai_mR m = some .int)
    | 3 => decide (ai_mR m = some .boolean)
    | _ => decide (ai_mR m = some .char)
  | .lreturn => decide (ai_mR m = some .long)
  | _ => true
noncomputable def ai_ok (m i : Nat) (e : ai_E) : Bool := decide (decode (ai_mB m) e.1 = .ok (e.2.1, e.2.2.1)) && ai_okI m i e.1 e.2.2.2.1 e.2.1
noncomputable def ai_okS (m a n : Nat) : Bool := (List.range' a n).all (fun i => match ai_nth (ai_ops m) i with
  | some e => ai_ok m i e
  | none => true)
theorem ai_okS_at {m a n i : Nat} {e : ai_E} (h : ai_okS m a n = true) (h1 : a ≤ i) (h2 : i < a + n) (he : ai_nth (ai_ops m) i = some e) : ai_ok m i e = true := by
  have h0 := List.all_eq_true.mp h i (List.mem_range'_1.mpr ⟨h1, h2⟩)
  rw [he] at h0
  exact h0
