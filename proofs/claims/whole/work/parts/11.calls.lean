/-! SOUNDNESS of what makes cells, of returns and of calls. -/
theorem ai_fv_new {ad : Nat → Nat} {h : ai_H} {ty : FieldType} {p kd j : Nat} (hc : ai_cp ty kd = true) (hu : kd = 2 ∨ kd = 4 → (p, j) ∈ h.2.1) (h0 : h.2.2 p (Int.ofNat j) = 0) : defaultValue ty = ai_fv ad h p kd j := by
  unfold ai_cp at hc
  split at hc
  · simp only [ai_fv, h0]; rfl
  · simp only [ai_fv, h0]; rfl
  · simp only [ai_fv, h0]; rfl
  · simp only [ai_fv, if_pos (hu (Or.inl rfl))]; rfl
  · simp only [ai_fv, if_pos (hu (Or.inr rfl))]; rfl
  · simp only [ai_fv, if_pos (hu (Or.inl rfl))]; rfl
  · cases hc
theorem ai_us_mem {z ci x j : Nat} : (x, j) ∈ ai_us z ci ↔ x = z ∧ j < ai_nf ci ∧ (ai_kd ci j = 2 ∨ ai_kd ci j = 4) := by
  unfold ai_us
  simp only [List.mem_map, List.mem_filter, List.mem_range, Bool.or_eq_true, beq_iff_eq, Prod.mk.injEq]
  constructor
  · rintro ⟨y, ⟨h1, h2⟩, rfl, rfl⟩
    exact ⟨rfl, h1, h2⟩
  · rintro ⟨rfl, h1, h2⟩
    exact ⟨j, ⟨h1, h2⟩, rfl, rfl⟩
theorem ai_sz {D : va_G} {base b : Nat} {cA : Nat → ClassId} {h : ai_H} {H H0 : Heap} {locs : List Loc} (hW : ai_Wd D base b cA h H) (hS : va_S (fun q => base ≤ q) H0 H locs) (hb : base ≤ H0.size) : base + h.1 ≤ H.size := by
  by_cases hz : h.1 = 0
  · have := hS.1
    omega
  · have h1 := hW.2 (h.1 - 1) _ (ai_tab_get (by omega))
    have h2 := va_at.lt h1
    have h3 := hW.1
    simp only [ai_ad] at h2
    rw [if_pos (by omega)] at h2
    omega
theorem ai_ad_lt {base b k : Nat} (h : k < 100) : ai_ad base b k = base + k := by
  unfold ai_ad
  rw [if_pos h]
/-- a new place, behind the others -/
theorem ai_grow {D : va_G} {base b : Nat} {cA : Nat → ClassId} {h : ai_H} {H H1 : Heap} {u : List (Nat × Nat)} (hW : ai_Wd D base b cA h H) (hz : h.1 < 92) (hsz : H.size = base + h.1) (hu : ∀ x j, x ≠ h.1 → ((x, j) ∈ h.2.1 ++ u ↔ (x, j) ∈ h.2.1)) (o1 : ∀ q, q < H.size → H1[q]? = H[q]?)
    (hnew : va_at D vwCl (H.size, ai_cell (ai_ad base b) cA (h.1 + 1, h.2.1 ++ u, ai_zero h.2.2 h.1) h.1) H1) : ai_Wd D base b cA (h.1 + 1, h.2.1 ++ u, ai_zero h.2.2 h.1) H1 := by
  refine ⟨by show h.1 + 1 ≤ 92; omega, fun x q hx => ?_⟩
  obtain ⟨h1, rfl⟩ := ai_tab_some hx
  by_cases hxz : x = h.1
  · subst hxz
    rw [ai_ad_lt (by omega), ← hsz]
    exact hnew
  · have hlt : x < h.1 := by
      have h1' : x < h.1 + 1 := h1
      omega
    have h2 := hW.2 x _ (ai_tab_get hlt)
    have e : ai_cell (ai_ad base b) cA (h.1 + 1, h.2.1 ++ u, ai_zero h.2.2 h.1) x = ai_cell (ai_ad base b) cA h x := ai_cell_eq (fun j => by simp [ai_zero, hxz]) (fun j => hu x j hxz)
    rw [e]
    refine h2.kept (o1 _ ?_)
    show ai_ad base b x < H.size
    rw [ai_ad_lt (by omega)]
    omega
section AIN
variable {sc : Int × (Int → Int)} {l : Launch} {D : va_G} {base b : Nat} {cA : Nat → ClassId} {p : Program} {e : Env} {s : State} {mid : MethodId} {args : Array Value} {below : List Frame} {meth : Method} {c : Code} {m : Nat} {Q : ai_O → Prop} {i : Nat} {ls : ai_L} {st : List ai_V} {k : Nat × Nat} {h h' : ai_H}
theorem ai_full {T : State} {H : Heap} {locs : List Loc} {R : Room} (hW : ai_Wd D base b cA h H) (hS : va_S (fun q => base ≤ q) s.heap H locs) (hbs : base ≤ s.heap.size) (hZ : h.1 < 92 → s.heap.size + k.1 = base + h.1) (hz : h.1 < 92) (hT : T.heap = H) (X : Stand p l e R s mid args below meth c T locs k.1 k.2) : H.size = base + h.1 := by
  have h1 := X.heapSize
  rw [hT] at h1
  have h2 := ai_sz hW hS hbs
  have h3 := hZ hz
  omega
theorem ai_newobj {ad : Nat → Nat} {cX : Nat → ClassId} {ws : List Cond} {h : ai_H} {ci o : Nat} {C : String} {T : u_T} {N : Nat} {kC : Class} {H1 : Heap} (hts : ∀ w ∈ ws, w.before args s = true) (hcl : vwCl[ci]? = some (C, T, N)) (hnf : ai_nf ci = N) (hlay : ∀ w ∈ u_ws C T N, w ∈ ws) (hty : ∀ j, j < N → parseFieldDescriptor (T j).2.2.1 = some (ai_ft ci j)) (hcp : ∀ j, j < N → ai_cp (ai_ft ci j) (ai_kd ci j) = true) (hKn : u_Kn s C T N (D.1 ci) (D.2 ci)) (hkC : s.vm.classes[D.1 ci]? = some kC) (e1 : H1[o]? = some (blank (D.1 ci) kC)) (hsh : ai_sh h.1 = some (.inl ci)) : va_at D vwCl (o, ai_cell ad cX (h.1 + 1, h.2.1 ++ ai_us h.1 ci, ai_zero h.2.2 h.1) h.1) H1 := by
  have e : ai_cell ad cX (h.1 + 1, h.2.1 ++ ai_us h.1 ci, ai_zero h.2.2 h.1) h.1 = .inr (ci, ai_tab (ai_nf ci) (fun j => ai_fv ad (h.1 + 1, h.2.1 ++ ai_us h.1 ci, ai_zero h.2.2 h.1) h.1 (ai_kd ci j) j)) := by
    unfold ai_cell
    rw [hsh]
  rw [e]
  have hb := (u_born (ai_ft ci) hts hlay hKn hkC e1 hty).to (V' := vp_V (ai_tab (ai_nf ci) (fun j => ai_fv ad (h.1 + 1, h.2.1 ++ ai_us h.1 ci, ai_zero h.2.2 h.1) h.1 (ai_kd ci j) j))) (fun j hj => by
    unfold vp_V
    rw [List.getD_eq_getElem?_getD, ai_tab_get (by rw [hnf]; exact hj)]
    exact ai_fv_new (hcp j hj) (fun q => List.mem_append.mpr (Or.inr (ai_us_mem.mpr ⟨rfl, by rw [hnf]; exact hj, q⟩))) (by simp [ai_zero]))
  exact ⟨(C, T, N), hcl, hb⟩
theorem sn_new (F : ai_F p e s mid args meth c m) (hK : va_K D vwCl (ai_tys cA) s) {ci idx : Nat} {C : String} {T : u_T} {N : Nat} (hcl : vwCl[ci]? = some (C, T, N)) (hnf : ai_nf ci = N) (hlay : ∀ w ∈ u_ws C T N, w ∈ ai_WS) (hty : ∀ j, j < N → parseFieldDescriptor (T j).2.2.1 = some (ai_ft ci j)) (hcp : ∀ j, j < N → ai_cp (ai_ft ci j) (ai_kd ci j) = true) (hw1 : Cond.classLink (ai_mY m).cls idx C ∈ ai_WS) (hw2 : Cond.instantiable C N ∈ ai_WS) (hw3 : Cond.initialized C ∈ ai_WS) (hbs : base ≤ s.heap.size) (hsh : ai_sh h.1 = some (.inl ci)) (hz : h.1 < 92) (hkc : k.1 + 1 ≤ ai_mc m) (hks : k.2 + N ≤ ai_ms m) (hd : decode (ai_mB m) (ai_pc m i) = .ok (.new idx, 3)) (hn : ai_pc m (i + 1) = ai_pc m i + 3) (K : ai_at l D base b cA p e s mid args below meth c m Q (i + 1) (ls) (.inr (.inr h.1) :: st) ((k.1 + 1, k.2 + N)) ((h.1 + 1, h.2.1 ++ ai_us h.1 ci, ai_zero h.2.2 h.1))) : ai_at l D base b cA p e s mid args below meth c m Q (i) (ls) (st) (k) (h) := by
  intro H locs lsM hW hS hL hZ T0 hT X
  have hsz := ai_full hW hS hbs hZ hz hT X
  have hrn : ai_rn (ai_ad base b) (.inr (.inr h.1)) = .ref H.size := by
    show Value.ref (ai_ad base b h.1) = .ref H.size
    rw [ai_ad_lt (by omega), hsz]
  have hKn := hK.1 ci _ hcl
  revert T0
  show W p l e (ai_rm m) s mid args below meth c H locs k.1 k.2 _ _
  refine W.newcK F.1 F.2.1 F.2.2.2.2.2.1 (F.2.2.2.2.1 _ hw1) (F.2.2.2.2.1 _ hw2) (F.2.2.2.2.1 _ hw3) rfl hd hkc hks hKn.2.1 rfl fun H1 kC hkC e1 z1 o1 => ?_
  have hW1 : ai_Wd D base b cA (h.1 + 1, h.2.1 ++ ai_us h.1 ci, ai_zero h.2.2 h.1) H1 := by
    refine ai_grow hW hz hsz (fun x j hx => ?_) o1 ?_
    · rw [List.mem_append]
      exact ⟨fun q => q.elim id (fun q => absurd (ai_us_mem.mp q).1 hx), Or.inl⟩
    · exact ai_newobj F.2.2.2.2.1 hcl hnf hlay hty hcp hKn hkC e1 hsh
  have K := K H1 locs lsM hW1 ⟨Nat.le_trans hS.1 (by omega), fun x h1 h2 => (o1 x (Nat.lt_of_lt_of_le h1 hS.1)).trans (hS.2.1 x h1 h2), hS.2.2⟩ hL (fun _ => by
    have := hZ hz
    show s.heap.size + (k.1 + 1) = base + (h.1 + 1)
    omega)
  rw [hn, List.map_cons, hrn] at K
  exact K
theorem ai_ac_new {ad : Nat → Nat} {h : ai_H} {p kd n : Nat} (cX : ClassId) (hk : kd < 5) (h0 : ∀ j : Int, h.2.2 p j = 0) (hu : kd = 4 → ∀ j, j < n → (p, j) ∈ h.2.1) : vp_cell cX (n, ai_ac ad h p kd) = arrV cX n (fun _ => defaultValue (ai_TY kd)) := by
  have hh : kd = 0 ∨ kd = 1 ∨ kd = 2 ∨ kd = 3 ∨ kd = 4 := by omega
  rcases hh with rfl | rfl | rfl | rfl | rfl
  · simp only [ai_ac, h0]; rw [vp_cell_i]; rfl
  · simp only [ai_ac, h0]; rw [vp_cell_l]; rfl
  · simp only [ai_ac, h0]; rw [vp_cell_i]; rfl
  · simp only [ai_ac, h0]; rw [vp_cell_i]; rfl
  · simp only [ai_ac]
    rw [vp_cell_q]
    unfold arrV
    congr 1
    congr 1
    funext j
    show va_rf (if (p, j.val) ∈ h.2.1 then none else some (ad (ai_rf p j.val))) = _
    rw [if_pos (hu rfl j.val j.isLt)]
    rfl
theorem sn_nar (F : ai_F p e s mid args meth c m) (hK : va_K D vwCl (ai_tys cA) s) {kd n0 : Nat} {atype : ArrayType} (hty : newarray.typeOf atype = ai_TY kd) (hkd : kd < 4) (hw : Cond.arrayClass (ai_TY kd) ∈ ai_WS) (hbs : base ≤ s.heap.size) (hsh : ai_sh h.1 = some (.inr (kd, n0))) (hz : h.1 < 92) (hN : n0 ≤ 1000000) (hkc : k.1 + 1 ≤ ai_mc m) (hks : k.2 + n0 ≤ ai_ms m) (hd : decode (ai_mB m) (ai_pc m i) = .ok (.newarray atype, 2)) (hn : ai_pc m (i + 1) = ai_pc m i + 2) (K : ai_at l D base b cA p e s mid args below meth c m Q (i + 1) (ls) (.inr (.inr h.1) :: st) ((k.1 + 1, k.2 + n0)) ((h.1 + 1, h.2.1 ++ (if kd = 4 then (List.range n0).map (fun j => (h.1, j)) else []), ai_zero h.2.2 h.1))) : ai_at l D base b cA p e s mid args below meth c m Q (i) (ls) (.inl (Int.ofNat n0) :: st) (k) (h) := by
  intro H locs lsM hW hS hL hZ T0 hT X
  have hsz := ai_full hW hS hbs hZ hz hT X
  have hrn : ai_rn (ai_ad base b) (.inr (.inr h.1)) = .ref H.size := by
    show Value.ref (ai_ad base b h.1) = .ref H.size
    rw [ai_ad_lt (by omega), hsz]
  have hcb : componentBytes (newarray.typeOf atype) ≤ 8 := by cases atype <;> decide
  have hRA := (hK.2 kd _ (ai_tys_at (by omega))).2
  have hi := ai_ix (j := Int.ofNat n0) (n := n0 + 1) (Int.natCast_nonneg n0) (by show (n0 : Int) < ((n0 + 1 : Nat) : Int); omega) (by omega)
  revert T0
  show W p l e (ai_rm m) s mid args below meth c H locs k.1 k.2 _ _
  refine va_newaK F.1 F.2.1 (by rw [hty]; exact F.2.2.2.2.1 _ hw) rfl hd (n := Int32.ofInt (Int.ofNat n0)) (N := n0) (rest := st.map (ai_rn (ai_ad base b))) rfl (fun q => hi.1 (Or.inl q)) hi.2.1 (Nat.le_trans (Nat.mul_le_mul (Nat.le_refl n0) hcb) (by omega)) hkc hks rfl fun H1 cX e1 z1 o1 hAr hNm => ?_
  have hcX : cX = cA kd := by
    rw [hty] at hNm
    have hh : kd = 0 ∨ kd = 1 ∨ kd = 2 ∨ kd = 3 := by omega
    rcases hh with rfl | rfl | rfl | rfl <;> exact Option.some.inj (hNm.symm.trans hRA)
  subst hcX
  have hW1 : ai_Wd D base b cA (h.1 + 1, h.2.1 ++ (if kd = 4 then (List.range n0).map (fun j => (h.1, j)) else []), ai_zero h.2.2 h.1) H1 := by
    refine ai_grow hW hz hsz (fun x j hx => ?_) o1 ?_
    · rw [if_neg (by omega), List.append_nil]
    · unfold ai_cell
      rw [hsh]
      show H1[H.size]? = some (vp_cell _ _)
      rw [e1, ai_ac_new (cA kd) (by omega) (fun j => by simp [ai_zero]) (fun q => by omega), hty]
  have K := K H1 locs lsM hW1 ⟨Nat.le_trans hS.1 (by omega), fun x h1 h2 => (o1 x (Nat.lt_of_lt_of_le h1 hS.1)).trans (hS.2.1 x h1 h2), hS.2.2⟩ hL (fun _ => by
    have := hZ hz
    show s.heap.size + (k.1 + 1) = base + (h.1 + 1)
    omega)
  rw [hn, List.map_cons, hrn] at K
  exact K
theorem sn_anar (F : ai_F p e s mid args meth c m) (hK : va_K D vwCl (ai_tys cA) s) {n0 idx : Nat} (hw : Cond.classLink (ai_mY m).cls idx ai_Store ∈ ai_WS) (hov : va_AO ai_Store s) (hbs : base ≤ s.heap.size) (hsh : ai_sh h.1 = some (.inr (4, n0))) (hz : h.1 < 92) (hN : n0 ≤ 1000000) (hkc : k.1 + 1 ≤ ai_mc m) (hks : k.2 + n0 ≤ ai_ms m) (hd : decode (ai_mB m) (ai_pc m i) = .ok (.anewarray idx, 3)) (hn : ai_pc m (i + 1) = ai_pc m i + 3) (K : ai_at l D base b cA p e s mid args below meth c m Q (i + 1) (ls) (.inr (.inr h.1) :: st) ((k.1 + 1, k.2 + n0)) ((h.1 + 1, h.2.1 ++ (if 4 = 4 then (List.range n0).map (fun j => (h.1, j)) else []), ai_zero h.2.2 h.1))) : ai_at l D base b cA p e s mid args below meth c m Q (i) (ls) (.inl (Int.ofNat n0) :: st) (k) (h) := by
  intro H locs lsM hW hS hL hZ T0 hT X
  have hsz := ai_full hW hS hbs hZ hz hT X
  have hrn : ai_rn (ai_ad base b) (.inr (.inr h.1)) = .ref H.size := by
    show Value.ref (ai_ad base b h.1) = .ref H.size
    rw [ai_ad_lt (by omega), hsz]
  obtain ⟨kA0, comp0, -, -, -, hfc⟩ := (hK.2 4 _ (ai_tys_at (by omega))).2
  have hi := ai_ix (j := Int.ofNat n0) (n := n0 + 1) (Int.natCast_nonneg n0) (by show (n0 : Int) < ((n0 + 1 : Nat) : Int); omega) (by omega)
  have e0 : (Int32.ofInt (Int.ofNat n0)).toNatClampNeg = n0 := hi.2.1
  revert T0
  show W p l e (ai_rm m) s mid args below meth c H locs k.1 k.2 _ _
  refine W.anew F.1 F.2.1 F.2.2.2.2.2.1 (F.2.2.2.2.1 _ hw) (va_AO.use hov) rfl hd (n := Int32.ofInt (Int.ofNat n0)) (rest := st.map (ai_rn (ai_ad base b))) rfl (fun q => hi.1 (Or.inl q)) (by rw [e0]; omega) hkc (by rw [e0]; exact hks) fun cX kA comp f1 f2 f3 f4 => ?_
  have hcX : cX = cA 4 := Option.some.inj (f1.symm.trans hfc)
  subst hcX
  rw [e0]
  generalize hH1 : H.push ({ cls := cA 4, slots := Array.replicate n0 .null, vm := .none } : Cell) = H1
  have z1 : H1.size = H.size + 1 := by rw [← hH1, Array.size_push]
  have e1 : H1[H.size]? = some (arrV (cA 4) n0 (fun _ => .null)) := by rw [← hH1, Array.getElem?_push_size, ← arrV_new]
  have o1 : ∀ q : Nat, q < H.size → H1[q]? = H[q]? := fun q hq => by rw [← hH1, Array.getElem?_push, if_neg (Nat.ne_of_lt hq)]
  have hW1 : ai_Wd D base b cA (h.1 + 1, h.2.1 ++ (if 4 = 4 then (List.range n0).map (fun j => (h.1, j)) else []), ai_zero h.2.2 h.1) H1 := by
    refine ai_grow hW hz hsz (fun x j hx => ?_) o1 ?_
    · rw [if_pos rfl, List.mem_append]
      refine ⟨fun q => q.elim id (fun q => ?_), Or.inl⟩
      obtain ⟨y, -, hy⟩ := List.mem_map.mp q
      exact absurd (Prod.mk.inj hy).1.symm hx
    · unfold ai_cell
      rw [hsh]
      show H1[H.size]? = some (vp_cell _ _)
      rw [e1, ai_ac_new (cA 4) (by omega) (fun j => by simp [ai_zero]) (fun _ j hj => by
        rw [if_pos rfl]
        exact List.mem_append.mpr (Or.inr (List.mem_map.mpr ⟨j, List.mem_range.mpr hj, rfl⟩)))]
      rfl
  have K := K H1 locs lsM hW1 ⟨Nat.le_trans hS.1 (by omega), fun x h1 h2 => (o1 x (Nat.lt_of_lt_of_le h1 hS.1)).trans (hS.2.1 x h1 h2), hS.2.2⟩ hL (fun _ => by
    have := hZ hz
    show s.heap.size + (k.1 + 1) = base + (h.1 + 1)
    omega)
  rw [hn, List.map_cons, hrn] at K
  exact K
theorem sn_oinit (F : ai_F p e s mid args meth c m) {idx q : Nat} (hw1 : Cond.methodLink (ai_mY m).cls idx Lib.objectInit ∈ ai_WS) (hw2 : Cond.instanceMethod Lib.objectInit ∈ ai_WS) (hw3 : Cond.code Lib.objectInit ⟨#[0xb1]⟩ 1 none ∈ ai_WS) (hf : 1 ≤ (ai_rm m).frames) (hlo : ai_cats st + 12 ≤ (ai_rm m).locals) (hd : decode (ai_mB m) (ai_pc m i) = .ok (.invokespecial idx, 3)) (hn : ai_pc m (i + 1) = ai_pc m i + 3) (K : ai_at l D base b cA p e s mid args below meth c m Q (i + 1) (ls) (st) (k) (h)) : ai_at l D base b cA p e s mid args below meth c m Q (i) (ls) (.inr (.inr q) :: st) (k) (h) := by
  intro H locs lsM hW hS hL hZ
  have K := K H locs lsM hW hS hL hZ
  rw [hn] at K
  refine W.objInit F.1 F.2.1 F.2.2.2.2.2.1 (F.2.2.2.2.1 _ hw1) (F.2.2.2.2.1 _ hw2) (F.2.2.2.2.1 _ hw3) rfl (hL.1.trans F.2.2.1.symm) rfl hd hf ?_ K
  have := ai_cats_eq (ai_ad base b) st
  show 2 * 0 + ((st.map (ai_rn (ai_ad base b))).map fun v => v.category).sum + 12 ≤ _
  omega
/-- the end of a method, as the kit has it, is the end as this machine has it -/
theorem ai_end {H : Heap} {locs : List Loc} {v : Option ai_V} (hW : ai_Wd D base b cA h H) (hS : va_S (fun q => base ≤ q) s.heap H locs) (hQ : Q (.inl v, h)) :
    ∀ t : State, MQ below (fun _ _ o t => o = .returned (v.map (ai_rn (ai_ad base b))) ∧ t.heap = H ∧ s.WarmedH t.vm) args s (ai_mc m) (ai_ms m) (fun q => base ≤ q) t → ai_MQ D base b cA below s m Q t := by
  rintro t ⟨o, h1, h2, ⟨rfl, h3, h4⟩, L, ⟨-, -, h5⟩, h6⟩
  exact ⟨(.inl v, h), hQ, h1, by show ai_Wd D base b cA h t.heap; rw [h3]; exact hW, hS.F h3, h4, ⟨L, h5, h6⟩, h2⟩
theorem sn_vret (F : ai_F p e s mid args meth c m) (hr : ai_mR m = none) (hkc : k.1 ≤ ai_mc m) (hks : k.2 ≤ ai_ms m) (hQ : Q (.inl none, h)) (hd : decode (ai_mB m) (ai_pc m i) = .ok (.return_, 1)) : ai_at l D base b cA p e s mid args below meth c m Q (i) (ls) ([]) (k) (h) := by
  intro H locs lsM hW hS hL hZ
  refine W.widen hkc hks (ai_mono (ai_end (args := args) (below := below) (m := m) (v := none) hW hS hQ) ?_)
  exact W.vret F.1 F.2.1 (F.2.2.2.1.trans hr) (fun t ht hw => ⟨rfl, ht, hw⟩) hS.2.2 hd F.2.2.2.2.2.2.1
theorem sn_iret (F : ai_F p e s mid args meth c m) {v : Int} (hr : ai_mR m = some .int) (hkc : k.1 ≤ ai_mc m) (hks : k.2 ≤ ai_ms m) (hQ : Q (.inl (some (.inl v)), h)) (hd : decode (ai_mB m) (ai_pc m i) = .ok (.ireturn, 1)) : ai_at l D base b cA p e s mid args below meth c m Q (i) (ls) ([.inl v]) (k) (h) := by
  intro H locs lsM hW hS hL hZ
  refine W.widen hkc hks (ai_mono (ai_end (args := args) (below := below) (m := m) (v := some (.inl v)) hW hS hQ) ?_)
  exact W.iret F.1 F.2.1 (F.2.2.2.1.trans hr) (fun t ht hw => ⟨rfl, ht, hw⟩) hS.2.2 hd F.2.2.2.2.2.2.1
theorem sn_zret (F : ai_F p e s mid args meth c m) {v : Int} {ty : FieldType} (hr : ai_mR m = some ty) (hnr : narrow ty (.int (Int32.ofInt v)) = .int (Int32.ofInt v)) (hkc : k.1 ≤ ai_mc m) (hks : k.2 ≤ ai_ms m) (hQ : Q (.inl (some (.inl v)), h)) (hd : decode (ai_mB m) (ai_pc m i) = .ok (.ireturn, 1)) : ai_at l D base b cA p e s mid args below meth c m Q (i) (ls) ([.inl v]) (k) (h) := by
  intro H locs lsM hW hS hL hZ
  refine W.widen hkc hks (ai_mono (ai_end (args := args) (below := below) (m := m) (v := some (.inl v)) hW hS hQ) ?_)
  exact W.zret F.1 F.2.1 (F.2.2.2.1.trans hr) hnr (fun t ht hw => ⟨rfl, ht, hw⟩) hS.2.2 hd F.2.2.2.2.2.2.1
theorem sn_lret (F : ai_F p e s mid args meth c m) {v : Int} (hr : ai_mR m = some .long) (hkc : k.1 ≤ ai_mc m) (hks : k.2 ≤ ai_ms m) (hQ : Q (.inl (some (.inr (.inl v))), h)) (hd : decode (ai_mB m) (ai_pc m i) = .ok (.lreturn, 1)) : ai_at l D base b cA p e s mid args below meth c m Q (i) (ls) ([.inr (.inl v)]) (k) (h) := by
  intro H locs lsM hW hS hL hZ
  refine W.widen hkc hks (ai_mono (ai_end (args := args) (below := below) (m := m) (v := some (.inr (.inl v))) hW hS hQ) ?_)
  exact W.lret F.1 F.2.1 (F.2.2.2.1.trans hr) (fun t ht hw => ⟨rfl, ht, hw⟩) hS.2.2 hd F.2.2.2.2.2.2.1
/-! calls -/
def ai_PcB (D : va_G) (base b : Nat) (cA : Nat → ClassId) (h : ai_H) (U : State) : Prop := ai_Wd D base b cA h U.heap ∧ va_K D vwCl (ai_tys cA) U ∧ base ≤ U.heap.size ∧ (h.1 < 92 → U.heap.size = base + h.1) ∧ ai_str U ∧ ai_env base U
def ai_Qc (D : va_G) (base b : Nat) (cA : Nat → ClassId) (P : ai_O → Prop) : Array Value → State → Outcome → State → Prop := fun _ st oc t => ∃ (v : Option ai_V) (h' : ai_H), P (.inl v, h') ∧ oc = .returned (v.map (ai_rn (ai_ad base b))) ∧ ai_Wd D base b cA h' t.heap ∧ va_F (fun q => base ≤ q) st t
theorem ai_blind {D : va_G} {base b : Nat} {cA : Nat → ClassId} {h : ai_H} {vs : List Value} : FrameBlind (va_Pc vs (ai_PcB D base b cA h)) := by
  intro a U g mk q
  obtain ⟨q0, q1, q2, q3, q4, q5, q6⟩ := q
  exact ⟨q0, q1, va_K.moved (u := U) (U := U.calling g mk a) (Vm.Alike.refl U.vm) q2, q3, q4, fun x hx => by
    obtain ⟨y, hy⟩ := q5 x hx
    exact ⟨y, vk_R.same (u := U) rfl hy⟩, ai_env_at (locs := []) q6 va_S.rf rfl (State.WarmedH.refl U)⟩
theorem ai_str_warm {s U : State} (hW : s.WarmedH U.vm) (h : ai_str s) : ai_str U := fun q hq => by
  obtain ⟨y, hy⟩ := h q hq
  exact ⟨y, vk_R.warm hW hy⟩
noncomputable def ai_wm (m : Nat) : List Cond := ai_cw m :: ai_WS
theorem ai_toMet {sc : Int × (Int → Int)} {l : Launch} {D : va_G} {base b : Nat} {cA : Nat → ClassId} {m' : Nat} {vs : List ai_V} {h : ai_H} {P : ai_O → Prop} (hl : ai_stOK l) (hpl : plainName (ai_mY m').cls = true) (hcd : ai_hh m' = []) (hlaw : m' ≠ ai_law) (hp0 : ai_pc m' 0 = 0) (hcat : ai_cats vs ≤ ai_mL m') (hC : ai_SND sc l D base b cA m' 0 (ai_en (ai_mL m') vs) [] (0, 0) h P) (hret : ∀ o, P o → ∃ v h', o = (.inl v, h')) :
    Met l (ai_mY m') (ai_wm m') (ai_rm m') (va_Pc (vs.map (ai_rn (ai_ad base b))) (ai_PcB D base b cA h)) (ai_Qc D base b cA P) (ai_mc m') (ai_ms m') (fun q => base ≤ q) := by
  refine Met.ofW (cc := ai_mB m') (maxL := ai_mL m') (ret := ai_mR m') (ws' := ai_WS) hpl (by unfold ai_wm ai_cw; rw [hcd]) ?_
  intro p e s mid args below meth c s₁ B hml hv
  obtain ⟨rfl, hWd, hK, hbs, hz, hst, hen⟩ := hv
  have hts := atoms_spec (ws := ai_wm m') B.pre
  have hex : c.exceptionTable.toList.map (fun x => (x.startPc, x.endPc, x.handlerPc, x.catchType)) = ai_hh m' := by
    have hc := hts (ai_cw m') List.mem_cons_self
    unfold ai_cw at hc
    rw [hcd] at hc ⊢
    obtain ⟨meth2, c2, h1, h2, -, -, -, -, h3, -⟩ := Cond.code_spec B.named hc
    cases B.method.symm.trans h1
    have hcode : meth.code = some c := by
      have h := B.here.code
      rw [State.code?_eq, B.method₁] at h
      exact h
    cases hcode.symm.trans h2
    rw [Array.isEmpty_iff.mp h3]
    rfl
  have F : ai_F p e s mid _ meth c m' := ⟨B.exec, B.bytes, hml, B.returns, fun w hw => hts w (List.mem_cons_of_mem _ hw), findClass_of_methodNamed B.named, B.notSynchronized, (name_of_methodNamed B.named B.method).1, hex, hst, ai_stOK_use hl B.admits⟩
  rw [lg_entry_eq]
  have K := hC p e s mid _ below meth c F hK hbs hen (fun q => absurd q hlaw) s.heap [] _ hWd va_S.rf (ai_lv0 (ai_ad base b) vs hcat) (fun q => by have := hz q; show s.heap.size + 0 = _; omega)
  rw [hp0] at K
  refine ai_mono ?_ K
  rintro t ⟨o, h1, h2, h3, h4, h5, ⟨L, h6, h7⟩, h8⟩
  obtain ⟨v, h', rfl⟩ := hret o h1
  exact ⟨.returned (v.map (ai_rn (ai_ad base b))), h2, h8, ⟨v, h', h1, rfl, h3, h4⟩, L, ⟨⟨_, rfl⟩, h5, h6⟩, h7⟩

/-- behind a call that came back -/
theorem ai_go {P : ai_O → Prop} {H : Heap} {locs : List Loc} {R : Room} {cells slots mc ms pc : Nat} {lsM : Array Slot} {st0 rest : List Value} {a : Array Value} {Qw : State → Prop} (hr : va_Run p l e R s mid args below meth c H locs cells slots mc ms (F0 mid pc lsM st0) rest (ai_Qc D base b cA P a) (fun q => base ≤ q)) (hS : va_S (fun q => base ≤ q) s.heap H locs)
    (kk : ∀ (v : Option ai_V) (h' : ai_H) (H1 : Heap) (locs1 : List Loc), P (.inl v, h') → ai_Wd D base b cA h' H1 → va_S (fun q => base ≤ q) s.heap H1 locs1 → W p l e R s mid args below meth c H1 locs1 (cells + mc) (slots + ms) Qw (F0 mid (pc + 3) lsM ((v.map (ai_rn (ai_ad base b))).toList ++ rest))) : W p l e R s mid args below meth c H locs cells slots Qw (F0 mid pc lsM st0) := by
  intro T hT X
  obtain ⟨v, st₀, t, T', L, h0, X', hL, e1, e2, ⟨v1, h', hp, hv, hw, hz, hk⟩, st⟩ := hr T hT X
  cases hv
  rw [h0] at hz hk
  obtain ⟨t2, a1, b1⟩ := kk v1 h' T'.heap (locs ++ L) hp (by rw [e1]; exact hw) ⟨Nat.le_trans hS.1 (by rw [e1]; exact hz), fun q h1 h2 => by rw [e1, hk q (Nat.lt_of_lt_of_le h1 hS.1) h2]; exact hS.2.1 q h1 h2, fun q hq => by
      rcases List.mem_append.mp hq with h | h
      · exact hS.2.2 q h
      · exact hL q h⟩ T' rfl X'
  exact ⟨t2, st t2 a1, b1⟩
theorem ai_wm_eq {m' : Nat} (h : ai_hh m' = []) : ai_wm m' = Cond.code (ai_mY m') (ai_mB m') (ai_mL m') (ai_mR m') :: ai_WS := by
  unfold ai_wm ai_cw
  rw [h]
theorem sn_callV (F : ai_F p e s mid args meth c m) (hK : va_K D vwCl (ai_tys cA) s) {m' idx n : Nat} {vs r : List ai_V} {P : ai_O → Prop} (hM : Met l (ai_mY m') (ai_wm m') (ai_rm m') (va_Pc (vs.map (ai_rn (ai_ad base b))) (ai_PcB D base b cA h)) (ai_Qc D base b cA P) (ai_mc m') (ai_ms m') (fun q => base ≤ q)) (hcd : ai_hh m' = []) (hgd : ∀ w ∈ ai_WS, (w.onTables && w.keeps) = true ∨ ∃ ty, w = .arrayClass ty) (hcw : ai_cw m' ∈ ai_WS) (hbs : base ≤ s.heap.size) (hE : ai_env base s) {C : String} {ci : Nat} {T : u_T} {N q : Nat} (hcl : vwCl[ci]? = some (C, T, N)) (hC : (ai_mY m').cls = C) (hw1 : Cond.methodLink (ai_mY m).cls idx (ai_mY m') ∈ ai_WS) (hw2 : Cond.instanceMethod (ai_mY m') ∈ ai_WS) (hw3 : Cond.selects C (ai_mY m') (ai_mY m') ∈ ai_WS) (hw4 : Cond.initialized C ∈ ai_WS) (hy : (ai_mY m').cls ≠ "java/lang/invoke/MethodHandle" ∧ (ai_mY m').cls ≠ "java/lang/invoke/VarHandle" ∧ (parseMethodDescriptor (ai_mY m').desc).map (fun d => d.parameters.length) = some n) {ws : List ai_V} (hvs : vs = .inr (.inr q) :: ws) (hlen : ws.length = n) (hsh : ai_sh q = some (.inl ci)) (hq : q < h.1) (hR : (ai_rm m').frames + 1 ≤ (ai_rm m).frames ∧ 8 + (ai_mL m' + 11) + (ai_rm m').locals ≤ (ai_rm m).locals) (hcs : ai_cats r ≤ 8) (hf : k.1 + ai_mc m' ≤ ai_mc m ∧ k.2 + ai_ms m' ≤ ai_ms m) (hd : decode (ai_mB m) (ai_pc m i) = .ok (.invokevirtual idx, 3)) (hn : ai_pc m (i + 1) = ai_pc m i + 3) (K : ∀ v h', P (.inl v, h') → (h.1 < 92 → h'.1 = h.1 + ai_mc m') ∧ (92 ≤ h.1 → 92 ≤ h'.1) ∧ ai_at l D base b cA p e s mid args below meth c m Q (i + 1) (ls) (v.toList ++ r) ((k.1 + ai_mc m', k.2 + ai_ms m')) (h')) : ai_at l D base b cA p e s mid args below meth c m Q (i) (ls) (vs.reverse ++ r) (k) (h) := by
  intro H locs lsM hW hS hL hZ T0 hT0 X0
  have hsz : h.1 < 92 → H.size = base + h.1 := fun q => ai_full hW hS hbs hZ q hT0 X0
  have hGood : GoodIn ai_WS (wsV (ai_mY m).cls idx C (ai_mY m') (ai_wm m')) := by
    intro w hw
    have hin : w ∈ ai_WS := by
      unfold wsV ai_wm at hw
      simp only [List.mem_append, List.mem_cons, List.not_mem_nil, or_false] at hw
      rcases hw with (rfl | rfl | rfl | rfl) | (rfl | hw)
      · exact hw1
      · exact hw2
      · exact hw3
      · exact hw4
      · exact hcw
      · exact hw
    exact ⟨hin, hgd w hin⟩
  revert T0
  show W p l e (ai_rm m) s mid args below meth c H locs k.1 k.2 _ _
  subst hvs
  have hrun := va_runV (As := ws.map (ai_rn (ai_ad base b))) (rest := r.map (ai_rn (ai_ad base b))) (C := C) (b := ai_ad base b q) ⟨F.1, F.2.1, F.2.2.1, F.2.2.2.2.2.1, F.2.2.2.2.1⟩ hM (cwV n F.2.2.2.2.1 hGood (ai_wm_eq hcd) rfl rfl ⟨hC, hy⟩ hR) ⟨ai_blind, va_recv hK hW.2 hcl (ai_at_obj hq hsh), (fun U hU hW' => ⟨rfl, by rw [hU]; exact hW, va_K.moved hW'.alike hK, by rw [hU]; exact Nat.le_trans hbs hS.1, fun q => by rw [hU]; exact hsz q, ai_str_warm hW' F.2.2.2.2.2.2.2.2.2.1, ai_env_at hE hS hU hW'⟩)⟩ rfl (by rw [List.length_map]; exact hlen) hL.1 (by simp [ai_rn]) (lv_room (by rw [ai_cats_eq]; exact hcs)) hd hf (g := F0 mid (ai_pc m i) lsM (((.inr (.inr q) :: ws).reverse ++ r).map (ai_rn (ai_ad base b)))) (l := l) (e := e) (below := below) (meth := meth) (locs := locs) (cells := k.1) (slots := k.2)
  refine ai_go hrun hS (fun v h' H1 locs1 hp hw1 hS1 => ?_)
  obtain ⟨hz1, hz2, K⟩ := K v h' hp
  have K := K H1 locs1 lsM hw1 hS1 hL (fun q => by
    have hle : h.1 < 92 := by
      by_cases hh : h.1 < 92
      · exact hh
      · exact absurd (hz2 (by omega)) (by omega)
    have := hZ hle
    have := hz1 hle
    show s.heap.size + (k.1 + ai_mc m') = base + h'.1
    omega)
  rw [hn] at K
  cases v <;> exact K
theorem sn_callI (F : ai_F p e s mid args meth c m) (hK : va_K D vwCl (ai_tys cA) s) {m' idx n : Nat} {vs r : List ai_V} {P : ai_O → Prop} (hM : Met l (ai_mY m') (ai_wm m') (ai_rm m') (va_Pc (vs.map (ai_rn (ai_ad base b))) (ai_PcB D base b cA h)) (ai_Qc D base b cA P) (ai_mc m') (ai_ms m') (fun q => base ≤ q)) (hcd : ai_hh m' = []) (hgd : ∀ w ∈ ai_WS, (w.onTables && w.keeps) = true ∨ ∃ ty, w = .arrayClass ty) (hcw : ai_cw m' ∈ ai_WS) (hbs : base ≤ s.heap.size) (hE : ai_env base s) {q : Nat} (hw1 : Cond.methodLink (ai_mY m).cls idx (ai_mY m') ∈ ai_WS) (hw2 : Cond.instanceMethod (ai_mY m') ∈ ai_WS) (hw4 : Cond.initialized (ai_mY m').cls ∈ ai_WS) (hini : (ai_mY m').name = "<init>") (hrn : ai_mR m' = none) (hy : (ai_mY m').cls ≠ "java/lang/invoke/MethodHandle" ∧ (ai_mY m').cls ≠ "java/lang/invoke/VarHandle" ∧ (parseMethodDescriptor (ai_mY m').desc).map (fun d => d.parameters.length) = some n) {ws : List ai_V} (hvs : vs = .inr (.inr q) :: ws) (hlen : ws.length = n) (hR : (ai_rm m').frames + 1 ≤ (ai_rm m).frames ∧ 8 + (ai_mL m' + 11) + (ai_rm m').locals ≤ (ai_rm m).locals) (hcs : ai_cats r ≤ 8) (hf : k.1 + ai_mc m' ≤ ai_mc m ∧ k.2 + ai_ms m' ≤ ai_ms m) (hd : decode (ai_mB m) (ai_pc m i) = .ok (.invokespecial idx, 3)) (hn : ai_pc m (i + 1) = ai_pc m i + 3) (K : ∀ v h', P (.inl v, h') → (h.1 < 92 → h'.1 = h.1 + ai_mc m') ∧ (92 ≤ h.1 → 92 ≤ h'.1) ∧ ai_at l D base b cA p e s mid args below meth c m Q (i + 1) (ls) (v.toList ++ r) ((k.1 + ai_mc m', k.2 + ai_ms m')) (h')) : ai_at l D base b cA p e s mid args below meth c m Q (i) (ls) (vs.reverse ++ r) (k) (h) := by
  intro H locs lsM hW hS hL hZ T0 hT0 X0
  have hsz : h.1 < 92 → H.size = base + h.1 := fun q => ai_full hW hS hbs hZ q hT0 X0
  have hGood : GoodIn ai_WS (ai_wm m') := by
    intro w hw
    have hin : w ∈ ai_WS := by
      unfold ai_wm at hw
      rcases List.mem_cons.mp hw with rfl | hw
      · exact hcw
      · exact hw
    exact ⟨hin, hgd w hin⟩
  revert T0
  show W p l e (ai_rm m) s mid args below meth c H locs k.1 k.2 _ _
  subst hvs
  have hrun := va_runI (As := ws.map (ai_rn (ai_ad base b))) (rest := r.map (ai_rn (ai_ad base b))) (b := ai_ad base b q) ⟨F.1, F.2.1, F.2.2.1, F.2.2.2.2.2.1, F.2.2.2.2.1⟩ hM (cwI n F.2.2.2.2.1 hGood (by rw [ai_wm_eq hcd, hrn]) rfl rfl (F.2.2.2.2.1 _ hw4) (F.2.2.2.2.1 _ hw1) (F.2.2.2.2.1 _ hw2) hini hy hR) ⟨ai_blind, (fun U hU hW' => ⟨rfl, by rw [hU]; exact hW, va_K.moved hW'.alike hK, by rw [hU]; exact Nat.le_trans hbs hS.1, fun q => by rw [hU]; exact hsz q, ai_str_warm hW' F.2.2.2.2.2.2.2.2.2.1, ai_env_at hE hS hU hW'⟩)⟩ rfl (by rw [List.length_map]; exact hlen) hL.1 (by simp [ai_rn]) (lv_room (by rw [ai_cats_eq]; exact hcs)) hd hf (g := F0 mid (ai_pc m i) lsM (((.inr (.inr q) :: ws).reverse ++ r).map (ai_rn (ai_ad base b)))) (l := l) (e := e) (below := below) (meth := meth) (locs := locs) (cells := k.1) (slots := k.2)
  refine ai_go hrun hS (fun v h' H1 locs1 hp hw1 hS1 => ?_)
  obtain ⟨hz1, hz2, K⟩ := K v h' hp
  have K := K H1 locs1 lsM hw1 hS1 hL (fun q => by
    have hle : h.1 < 92 := by
      by_cases hh : h.1 < 92
      · exact hh
      · exact absurd (hz2 (by omega)) (by omega)
    have := hZ hle
    have := hz1 hle
    show s.heap.size + (k.1 + ai_mc m') = base + h'.1
    omega)
  rw [hn] at K
  cases v <;> exact K
theorem sn_callS (F : ai_F p e s mid args meth c m) (hK : va_K D vwCl (ai_tys cA) s) {m' idx n : Nat} {vs r : List ai_V} {P : ai_O → Prop} (hM : Met l (ai_mY m') (ai_wm m') (ai_rm m') (va_Pc (vs.map (ai_rn (ai_ad base b))) (ai_PcB D base b cA h)) (ai_Qc D base b cA P) (ai_mc m') (ai_ms m') (fun q => base ≤ q)) (hcd : ai_hh m' = []) (hgd : ∀ w ∈ ai_WS, (w.onTables && w.keeps) = true ∨ ∃ ty, w = .arrayClass ty) (hcw : ai_cw m' ∈ ai_WS) (hbs : base ≤ s.heap.size) (hE : ai_env base s) (hC : (ai_mY m').cls = (ai_mY m).cls) (hw1 : Cond.methodLink (ai_mY m).cls idx (ai_mY m') ∈ ai_WS) (hw2 : Cond.static (ai_mY m') ∈ ai_WS) (hw4 : Cond.initialized (ai_mY m).cls ∈ ai_WS) (hy : (ai_mY m').cls ≠ "java/lang/invoke/MethodHandle" ∧ (ai_mY m').cls ≠ "java/lang/invoke/VarHandle" ∧ (parseMethodDescriptor (ai_mY m').desc).map (fun d => d.parameters.length) = some n) (hlen : vs.length = n) (hR : (ai_rm m').frames + 1 ≤ (ai_rm m).frames ∧ 8 + (ai_mL m' + 11) + (ai_rm m').locals ≤ (ai_rm m).locals) (hcs : ai_cats r ≤ 8) (hf : k.1 + ai_mc m' ≤ ai_mc m ∧ k.2 + ai_ms m' ≤ ai_ms m) (hd : decode (ai_mB m) (ai_pc m i) = .ok (.invokestatic idx, 3)) (hn : ai_pc m (i + 1) = ai_pc m i + 3) (K : ∀ v h', P (.inl v, h') → (h.1 < 92 → h'.1 = h.1 + ai_mc m') ∧ (92 ≤ h.1 → 92 ≤ h'.1) ∧ ai_at l D base b cA p e s mid args below meth c m Q (i + 1) (ls) (v.toList ++ r) ((k.1 + ai_mc m', k.2 + ai_ms m')) (h')) : ai_at l D base b cA p e s mid args below meth c m Q (i) (ls) (vs.reverse ++ r) (k) (h) := by
  intro H locs lsM hW hS hL hZ T0 hT0 X0
  have hsz : h.1 < 92 → H.size = base + h.1 := fun q => ai_full hW hS hbs hZ q hT0 X0
  have hGood : GoodIn ai_WS (wsS (ai_mY m).cls idx (ai_mY m') (ai_wm m')) := by
    intro w hw
    have hin : w ∈ ai_WS := by
      unfold wsS ai_wm at hw
      simp only [List.mem_append, List.mem_cons, List.not_mem_nil, or_false] at hw
      rcases hw with (rfl | rfl | rfl) | (rfl | hw)
      · exact hw1
      · exact hw2
      · exact hw4
      · exact hcw
      · exact hw
    exact ⟨hin, hgd w hin⟩
  revert T0
  show W p l e (ai_rm m) s mid args below meth c H locs k.1 k.2 _ _
  skip
  have hrun := va_runS (As := vs.map (ai_rn (ai_ad base b))) (rest := r.map (ai_rn (ai_ad base b))) ⟨F.1, F.2.1, F.2.2.1, F.2.2.2.2.2.1, F.2.2.2.2.1⟩ hM (cwS n F.2.2.2.2.1 hGood (ai_wm_eq hcd) rfl rfl ⟨hC, hy⟩ hR) ⟨ai_blind, (fun U hU hW' => ⟨rfl, by rw [hU]; exact hW, va_K.moved hW'.alike hK, by rw [hU]; exact Nat.le_trans hbs hS.1, fun q => by rw [hU]; exact hsz q, ai_str_warm hW' F.2.2.2.2.2.2.2.2.2.1, ai_env_at hE hS hU hW'⟩)⟩ rfl (by rw [List.length_map]; exact hlen) hL.1 (by simp [ai_rn]) (lv_room (by rw [ai_cats_eq]; exact hcs)) hd hf (g := F0 mid (ai_pc m i) lsM (((vs).reverse ++ r).map (ai_rn (ai_ad base b)))) (l := l) (e := e) (below := below) (meth := meth) (locs := locs) (cells := k.1) (slots := k.2)
  refine ai_go hrun hS (fun v h' H1 locs1 hp hw1 hS1 => ?_)
  obtain ⟨hz1, hz2, K⟩ := K v h' hp
  have K := K H1 locs1 lsM hw1 hS1 hL (fun q => by
    have hle : h.1 < 92 := by
      by_cases hh : h.1 < 92
      · exact hh
      · exact absurd (hz2 (by omega)) (by omega)
    have := hZ hle
    have := hz1 hle
    show s.heap.size + (k.1 + ai_mc m') = base + h'.1
    omega)
  rw [hn] at K
  cases v <;> exact K
end AIN
