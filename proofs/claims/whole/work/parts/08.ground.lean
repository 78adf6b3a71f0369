/-! THE GROUND: how places, whole numbers and lists of locals lie in the machine. -/
theorem ai_ck_true {b : Bool} {P : Prop} (h : ai_ck b P) : b = true ∧ P := by
  cases b with
  | true => exact ⟨rfl, h⟩
  | false => exact h.elim
theorem ai_ck_of {b : Bool} {P : Prop} (hb : b = true) (h : P) : ai_ck b P := by
  subst hb
  exact h
def ai_rn (ad : Nat → Nat) (v : ai_V) : Value := match v with
  | .inl x => .int (Int32.ofInt x)
  | .inr (.inl x) => .long (Int64.ofInt x)
  | .inr (.inr k) => .ref (ad k)
theorem ai_rn_cat (ad : Nat → Nat) (v : ai_V) : (ai_rn ad v).category = ai_cat v := by
  rcases v with x | x | x <;> rfl
theorem ai_cats_eq (ad : Nat → Nat) : ∀ st : List ai_V, ((st.map (ai_rn ad)).map fun v => v.category).sum = ai_cats st
  | [] => rfl
  | v :: l => by
    simp only [List.map_cons, List.sum_cons, ai_cats, ai_rn_cat]
    rw [ai_cats_eq ad l]
theorem ai_lg_some {ls : ai_L} {j : Nat} {v : ai_V} : ai_lg ls j = some v ↔ ls[j]? = some (some v) := by
  unfold ai_lg
  rw [ai_nth_eq]
  cases h : ls[j]? with
  | none => simp
  | some o => cases o <;> simp
theorem ai_put_get : ∀ (ls : ai_L) (i j : Nat) (o : Option ai_V), (ai_put ls i o)[j]? = if j = i then (ls[j]?).map (fun _ => o) else ls[j]?
  | [], i, j, o => by simp [ai_put]
  | a :: l, 0, j, o => by
    cases j <;> simp [ai_put]
  | a :: l, i + 1, j, o => by
    cases j with
    | zero => simp [ai_put]
    | succ j =>
      have := ai_put_get l i j o
      simp only [ai_put, List.getElem?_cons_succ, this, Nat.add_right_cancel_iff]
theorem ai_lg_put {ls : ai_L} {i j : Nat} {o : Option ai_V} {w : ai_V} (h : ai_lg (ai_put ls i o) j = some w) : (j = i ∧ o = some w) ∨ (j ≠ i ∧ ai_lg ls j = some w) := by
  rw [ai_lg_some, ai_put_get] at h
  by_cases hj : j = i
  · rw [if_pos hj] at h
    left
    refine ⟨hj, ?_⟩
    cases hl : ls[j]? with
    | none => rw [hl] at h; cases h
    | some a => rw [hl] at h; simpa using h
  · rw [if_neg hj] at h
    exact Or.inr ⟨hj, ai_lg_some.mpr h⟩
theorem ai_lg_kill {ls : ai_L} {i j : Nat} {w : ai_V} (h : ai_lg (ai_kill ls i) j = some w) : ai_lg ls j = some w ∧ (j + 1 = i → ai_cat w ≠ 2) := by
  unfold ai_kill at h
  cases i with
  | zero => exact ⟨h, fun q => by omega⟩
  | succ n =>
    simp only at h
    split at h
    · rcases ai_lg_put h with ⟨-, h2⟩ | ⟨h1, h2⟩
      · cases h2
      · exact ⟨h2, fun q => by omega⟩
    · rename_i hn
      refine ⟨h, fun q => ?_⟩
      have hjn : j = n := by omega
      subst hjn
      intro hc
      rcases w with x | x | x
      · cases hc
      · exact hn x h
      · cases hc
theorem ai_lg_s1 {ls : ai_L} {i j : Nat} {v w : ai_V} (h : ai_lg (ai_s1 ls i v) j = some w) : (j = i ∧ w = v) ∨ (j ≠ i ∧ ai_lg ls j = some w ∧ (j + 1 = i → ai_cat w ≠ 2)) := by
  rcases ai_lg_put h with ⟨h1, h2⟩ | ⟨h1, h2⟩
  · exact Or.inl ⟨h1, (Option.some.inj h2).symm⟩
  · exact Or.inr ⟨h1, ai_lg_kill h2⟩
theorem ai_lg_s2 {ls : ai_L} {i j : Nat} {v w : ai_V} (h : ai_lg (ai_s2 ls i v) j = some w) : (j = i ∧ w = v) ∨ (j ≠ i ∧ j ≠ i + 1 ∧ ai_lg ls j = some w ∧ (j + 1 = i → ai_cat w ≠ 2)) := by
  rcases ai_lg_put h with ⟨h1, h2⟩ | ⟨h1, h2⟩
  · exact Or.inl ⟨h1, (Option.some.inj h2).symm⟩
  · rcases ai_lg_put h2 with ⟨-, h4⟩ | ⟨h3, h4⟩
    · cases h4
    · exact Or.inr ⟨h1, h3, ai_lg_kill h4⟩
theorem ai_lg_msk : ∀ (b : List Bool) (ls : ai_L) {j : Nat} {w : ai_V}, ai_lg (ai_msk b ls) j = some w → ai_lg ls j = some w
  | [], ls, j, w, h => h
  | _ :: _, [], j, w, h => h
  | true :: b, a :: l, j, w, h => by
    rw [ai_lg_some] at h ⊢
    cases j with
    | zero => simpa [ai_msk] using h
    | succ j =>
      have := ai_lg_msk b l (j := j) (w := w) (ai_lg_some.mpr (by simpa [ai_msk] using h))
      simpa using ai_lg_some.mp this
  | false :: b, a :: l, j, w, h => by
    rw [ai_lg_some] at h ⊢
    cases j with
    | zero => simp [ai_msk] at h
    | succ j =>
      have := ai_lg_msk b l (j := j) (w := w) (ai_lg_some.mpr (by simpa [ai_msk] using h))
      simpa using ai_lg_some.mp this
/-- the locals, as the kit lists them -/
def ai_as (ad : Nat → Nat) (ls : ai_L) : List (Nat × Value) := (List.range ls.length).filterMap (fun j => (ai_lg ls j).map (fun v => (j, ai_rn ad v)))
theorem ai_as_in {ad : Nat → Nat} {ls : ai_L} {j : Nat} {v : ai_V} (h : ai_lg ls j = some v) : (j, ai_rn ad v) ∈ ai_as ad ls := by
  have hl : j < ls.length := (List.getElem?_eq_some_iff.mp (ai_lg_some.mp h)).1
  exact List.mem_filterMap.mpr ⟨j, List.mem_range.mpr hl, by rw [h]; rfl⟩
theorem ai_as_out {ad : Nat → Nat} {ls : ai_L} {q : Nat × Value} (h : q ∈ ai_as ad ls) : ∃ v, ai_lg ls q.1 = some v ∧ q.2 = ai_rn ad v := by
  obtain ⟨j, -, hj⟩ := List.mem_filterMap.mp h
  cases hv : ai_lg ls j with
  | none => rw [hv] at hj; cases hj
  | some v =>
    rw [hv] at hj
    cases hj
    exact ⟨v, hv, rfl⟩
theorem ai_rd {lsM : Array Slot} {n : Nat} {ad : Nat → Nat} {ls : ai_L} {j : Nat} {v : ai_V} (h : lv_has lsM n (ai_as ad ls)) (hv : ai_lg ls j = some v) : lsM[j]? = some (.val (ai_rn ad v)) := h.2.2 _ (ai_as_in hv)
theorem ai_lvk {lsM : Array Slot} {n : Nat} {ad : Nat → Nat} {ls ls' : ai_L} (h : lv_has lsM n (ai_as ad ls)) (hk : ∀ j v, ai_lg ls' j = some v → ai_lg ls j = some v) : lv_has lsM n (ai_as ad ls') := by
  refine ⟨h.1, h.2.1, fun q hq => ?_⟩
  obtain ⟨v, h1, h2⟩ := ai_as_out hq
  have := ai_as_in (ad := ad) (hk _ _ h1)
  rw [← h2] at this
  exact h.2.2 q this
theorem ai_lv1 {lsM : Array Slot} {n i : Nat} {ad : Nat → Nat} {ls : ai_L} {v : ai_V} (h : lv_has lsM n ((i, ai_rn ad v) :: (ai_as ad ls).filter (fun q => !(q.1 == i) && !(q.1 + 1 == i && q.2.category == 2)))) : lv_has lsM n (ai_as ad (ai_s1 ls i v)) := by
  refine ⟨h.1, h.2.1, fun q hq => h.2.2 q ?_⟩
  obtain ⟨w, h1, h2⟩ := ai_as_out hq
  rcases ai_lg_s1 h1 with ⟨e1, e2⟩ | ⟨e1, e2, e3⟩
  · refine List.mem_cons.mpr (Or.inl ?_)
    subst e2
    exact Prod.ext e1 h2
  · refine List.mem_cons.mpr (Or.inr (List.mem_filter.mpr ⟨?_, ?_⟩))
    · have := ai_as_in (ad := ad) e2
      rw [← h2] at this
      exact this
    · have hc : q.2.category = ai_cat w := by rw [h2, ai_rn_cat]
      simp only [Bool.and_eq_true, Bool.not_eq_true', beq_eq_false_iff_ne, ne_eq, Bool.and_eq_false_iff, hc]
      refine ⟨e1, ?_⟩
      by_cases hq1 : q.1 + 1 = i
      · exact Or.inr (e3 hq1)
      · exact Or.inl hq1
theorem ai_lv2 {lsM : Array Slot} {n i : Nat} {ad : Nat → Nat} {ls : ai_L} {v : ai_V} (h : lv_has lsM n ((i, ai_rn ad v) :: (ai_as ad ls).filter (fun q => !(q.1 == i) && (!(q.1 == i + 1) && !(q.1 + 1 == i && q.2.category == 2))))) : lv_has lsM n (ai_as ad (ai_s2 ls i v)) := by
  refine ⟨h.1, h.2.1, fun q hq => h.2.2 q ?_⟩
  obtain ⟨w, h1, h2⟩ := ai_as_out hq
  rcases ai_lg_s2 h1 with ⟨e1, e2⟩ | ⟨e1, e0, e2, e3⟩
  · refine List.mem_cons.mpr (Or.inl ?_)
    subst e2
    exact Prod.ext e1 h2
  · refine List.mem_cons.mpr (Or.inr (List.mem_filter.mpr ⟨?_, ?_⟩))
    · have := ai_as_in (ad := ad) e2
      rw [← h2] at this
      exact this
    · have hc : q.2.category = ai_cat w := by rw [h2, ai_rn_cat]
      simp only [Bool.and_eq_true, Bool.not_eq_true', beq_eq_false_iff_ne, ne_eq, Bool.and_eq_false_iff, hc]
      refine ⟨e1, e0, ?_⟩
      by_cases hq1 : q.1 + 1 = i
      · exact Or.inr (e3 hq1)
      · exact Or.inl hq1
theorem ai_pd_get : ∀ (n : Nat) (l : ai_L) (j : Nat) {w : ai_V}, (ai_pd n l)[j]? = some (some w) → l[j]? = some (some w)
  | 0, l, j, w, h => by simp [ai_pd] at h
  | n + 1, [], j, w, h => by
    cases j with
    | zero => simp [ai_pd] at h
    | succ j =>
      have := ai_pd_get n [] j (w := w) (by simpa [ai_pd] using h)
      simp at this
  | n + 1, a :: l, j, w, h => by
    cases j with
    | zero => simpa [ai_pd] using h
    | succ j =>
      have := ai_pd_get n l j (w := w) (by simpa [ai_pd] using h)
      simpa using this
theorem ai_fl_args (ad : Nat → Nat) : ∀ (vs : List ai_V) (i j : Nat) {w : ai_V}, (ai_fl vs)[j]? = some (some w) → (i + j, ai_rn ad w) ∈ lv_args i (vs.map (ai_rn ad))
  | [], i, j, w, h => by simp [ai_fl] at h
  | .inl x :: r, i, j, w, h => by
    cases j with
    | zero =>
      have e : w = .inl x := by simpa [ai_fl] using h.symm
      subst e
      exact List.mem_cons_self
    | succ j =>
      have := ai_fl_args ad r (i + 1) j (w := w) (by simpa [ai_fl] using h)
      have e : i + (j + 1) = i + 1 + j := by omega
      rw [e]
      exact List.mem_cons_of_mem _ (by simpa [ai_rn, Value.category] using this)
  | .inr (.inr x) :: r, i, j, w, h => by
    cases j with
    | zero =>
      have e : w = .inr (.inr x) := by simpa [ai_fl] using h.symm
      subst e
      exact List.mem_cons_self
    | succ j =>
      have := ai_fl_args ad r (i + 1) j (w := w) (by simpa [ai_fl] using h)
      have e : i + (j + 1) = i + 1 + j := by omega
      rw [e]
      exact List.mem_cons_of_mem _ (by simpa [ai_rn, Value.category] using this)
  | .inr (.inl x) :: r, i, j, w, h => by
    cases j with
    | zero =>
      have e : w = .inr (.inl x) := by simpa [ai_fl] using h.symm
      subst e
      exact List.mem_cons_self
    | succ j =>
      cases j with
      | zero => simp [ai_fl] at h
      | succ j =>
        have := ai_fl_args ad r (i + 2) j (w := w) (by simpa [ai_fl] using h)
        have e : i + (j + 1 + 1) = i + 2 + j := by omega
        rw [e]
        exact List.mem_cons_of_mem _ (by simpa [ai_rn, Value.category] using this)
theorem ai_sl_len (ad : Nat → Nat) : ∀ vs : List ai_V, (lg_sl (vs.map (ai_rn ad))).length = ai_cats vs
  | [] => rfl
  | .inl x :: r => by
    have := ai_sl_len ad r
    simp [lg_sl, ai_rn, Value.category, ai_cats, ai_cat] at this ⊢
    omega
  | .inr (.inr x) :: r => by
    have := ai_sl_len ad r
    simp [lg_sl, ai_rn, Value.category, ai_cats, ai_cat] at this ⊢
    omega
  | .inr (.inl x) :: r => by
    have := ai_sl_len ad r
    simp [lg_sl, ai_rn, Value.category, ai_cats, ai_cat] at this ⊢
    omega
/-- the locals with which a method begins -/
theorem ai_lv0 (ad : Nat → Nat) (vs : List ai_V) {n : Nat} (h : ai_cats vs ≤ n) : lv_has ((lg_sl (vs.map (ai_rn ad)) ++ List.replicate (n - (lg_sl (vs.map (ai_rn ad))).length) Slot.unset).toArray) n (ai_as ad (ai_en n vs)) := by
  have h0 := lv_entry (vs.map (ai_rn ad)) (n := n) (by rw [ai_sl_len]; exact h)
  refine ⟨h0.1, h0.2.1, fun q hq => h0.2.2 q ?_⟩
  obtain ⟨v, h1, h2⟩ := ai_as_out hq
  have h3 := ai_fl_args ad vs 0 q.1 (ai_pd_get n (ai_fl vs) q.1 (ai_lg_some.mp h1))
  rw [Nat.zero_add, ← h2] at h3
  exact h3
theorem ai_tk_eq (ad : Nat → Nat) : ∀ (n : Nat) (acc st args r : List ai_V), ai_tk n acc st = some (args, r) → acc.reverse ++ st = args.reverse ++ r ∧ args.length = n + acc.length
  | 0, acc, st, args, r, h => by
    simp only [ai_tk, Option.some.injEq, Prod.mk.injEq] at h
    obtain ⟨rfl, rfl⟩ := h
    exact ⟨rfl, by omega⟩
  | n + 1, acc, [], args, r, h => by simp [ai_tk] at h
  | n + 1, acc, v :: st, args, r, h => by
    obtain ⟨h1, h2⟩ := ai_tk_eq ad n (v :: acc) st args r (by simpa [ai_tk] using h)
    refine ⟨?_, by simp at h2; omega⟩
    rw [← h1]
    simp
/-- numbers -/
theorem ai_32 {x : Int} (h : ai_r x) : (Int32.ofInt x).toInt = x := Int32.toInt_ofInt_of_le (by have := h.1; omega) (by have := h.2; omega)
theorem ai_64 {x : Int} (h : ai_r8 x) : (Int64.ofInt x).toInt = x := Int64.toInt_ofInt_of_le (by have := h.1; omega) (by have := h.2; omega)
theorem ai_lt {a b : Int} (ha : ai_r a) (hb : ai_r b) : Int32.ofInt a < Int32.ofInt b ↔ a < b := by rw [Int32.lt_iff_toInt_lt, ai_32 ha, ai_32 hb]
theorem ai_le {a b : Int} (ha : ai_r a) (hb : ai_r b) : Int32.ofInt a ≤ Int32.ofInt b ↔ a ≤ b := by rw [Int32.le_iff_toInt_le, ai_32 ha, ai_32 hb]
theorem ai_eq {a b : Int} (ha : ai_r a) (hb : ai_r b) : Int32.ofInt a = Int32.ofInt b ↔ a = b := by rw [← Int32.toInt_inj, ai_32 ha, ai_32 hb]
theorem ai_lt8 {a b : Int} (ha : ai_r8 a) (hb : ai_r8 b) : Int64.ofInt a < Int64.ofInt b ↔ a < b := by rw [Int64.lt_iff_toInt_lt, ai_64 ha, ai_64 hb]
theorem ai_eq8 {a b : Int} (ha : ai_r8 a) (hb : ai_r8 b) : Int64.ofInt a = Int64.ofInt b ↔ a = b := by rw [← Int64.toInt_inj, ai_64 ha, ai_64 hb]
theorem ai_r0 : ai_r 0 := ⟨by decide, by decide⟩
theorem ai_00 : Int32.ofInt 0 = 0 := rfl
theorem ai_ix {j : Int} {n : Nat} (h0 : 0 ≤ j) (h1 : j < Int.ofNat n) (hn : n < 2147483648) : vp_in (Int32.ofInt j) n ∧ (Int32.ofInt j).toNatClampNeg = j.toNat ∧ j.toNat < n := by
  have h1' : j < (n : Int) := h1
  have hr : ai_r j := ⟨by omega, by omega⟩
  have e : (Int32.ofInt j).toNatClampNeg = j.toNat := Int32.toNatClampNeg_ofInt_of_le (by omega) (by omega)
  have hl : j.toNat < n := by omega
  refine ⟨?_, e, hl⟩
  rw [vp_in_iff, ai_32 hr]
  exact ⟨h0, h1'⟩
theorem ai_i2l_eq {x : Int} (h : ai_r x) : (Int32.ofInt x).toInt64 = Int64.ofInt x := by
  rw [← Int64.ofInt_int32ToInt, ai_32 h]
theorem ai_l2i_eq (x : Int) : (Int64.ofInt x).toInt32 = Int32.ofInt x := Int64.toInt32_ofInt
theorem ai_cmp_eq {a b : Int} (ha : ai_r8 a) (hb : ai_r8 b) : lg_cmp (Int64.ofInt a) (Int64.ofInt b) = Int32.ofInt (ai_cmp a b) := by
  unfold lg_cmp ai_cmp
  have h1 := ai_lt8 ha hb
  have h2 := ai_lt8 hb ha
  have h3 := ai_eq8 ha hb
  by_cases hl : a < b
  · have hn : ¬ b < a := by omega
    have he : ¬ a = b := by omega
    rw [if_neg (fun q => hn (h2.mp q)), if_neg (fun q => he (h3.mp q)), if_pos hl]
    rfl
  · by_cases he : a = b
    · rw [if_neg (fun q => by have := h2.mp q; omega), if_pos (h3.mpr he), if_neg hl, if_pos he]
      rfl
    · have hg : b < a := by omega
      rw [if_pos (h2.mpr hg), if_neg hl, if_neg he]
      rfl
/-- worlds -/
def ai_tab {α : Type} (n : Nat) (f : Nat → α) : List α := (List.range n).map f
theorem ai_tab_get {α : Type} {n : Nat} {f : Nat → α} {k : Nat} (h : k < n) : (ai_tab n f)[k]? = some (f k) := by simp [ai_tab, h]
theorem ai_tab_len {α : Type} {n : Nat} {f : Nat → α} : (ai_tab n f).length = n := by simp [ai_tab]
theorem ai_tab_some {α : Type} {n : Nat} {f : Nat → α} {k : Nat} {x : α} (h : (ai_tab n f)[k]? = some x) : k < n ∧ x = f k := by
  have hk : k < n := by
    have := (List.getElem?_eq_some_iff.mp h).1
    rwa [ai_tab_len] at this
  rw [ai_tab_get hk] at h
  exact ⟨hk, (Option.some.inj h).symm⟩
theorem ai_tab_set {α : Type} {n : Nat} {f : Nat → α} {k : Nat} (v : α) : (ai_tab n f).set k v = ai_tab n (fun j => if j = k then v else f j) := by
  apply List.ext_getElem?
  intro j
  by_cases hj : j < n
  · rw [ai_tab_get hj]
    by_cases hk : j = k
    · subst hk
      rw [List.getElem?_set_self (by rw [ai_tab_len]; exact hj), if_pos rfl]
    · rw [List.getElem?_set_ne (fun q => hk q.symm), ai_tab_get hj, if_neg hk]
  · have h1 : ((ai_tab n f).set k v)[j]? = none := by simp [ai_tab]; omega
    have h2 : (ai_tab n (fun j => if j = k then v else f j))[j]? = none := by simp [ai_tab]; omega
    rw [h1, h2]
theorem ai_tab_succ {α : Type} (n : Nat) (f : Nat → α) : ai_tab (n + 1) f = ai_tab n f ++ [f n] := by simp [ai_tab, List.range_succ]
theorem ai_tab_congr {α : Type} {n : Nat} {f g : Nat → α} (h : ∀ k, k < n → f k = g k) : ai_tab n f = ai_tab n g := by
  unfold ai_tab
  apply List.map_congr_left
  intro k hk
  exact h k (List.mem_range.mp hk)
theorem ai_nn_true : ∀ (u : List (Nat × Nat)) (p : Nat × Nat), ai_nn true u p = true ↔ p ∉ u
  | [], p => by simp [ai_nn]
  | q :: u, p => by
    unfold ai_nn
    by_cases h : q = p
    · subst h; simp
    · have h' : ¬ p = q := fun e => h e.symm
      simp [h, h', ai_nn_true u p]
noncomputable def ai_fv (ad : Nat → Nat) (h : ai_H) (p kd j : Nat) : Value := match kd with
  | 1 => .long (Int64.ofInt (h.2.2 p (Int.ofNat j)))
  | 2 => if (p, j) ∈ h.2.1 then .null else .ref (ad (ai_rf p j))
  | 4 => if (p, j) ∈ h.2.1 then .null else .ref (ad (h.2.2 p (Int.ofNat j)).toNat)
  | _ => .int (Int32.ofInt (h.2.2 p (Int.ofNat j)))
noncomputable def ai_ac (ad : Nat → Nat) (h : ai_H) (p kd : Nat) : (Nat → Int32) ⊕ (Nat → Int64) ⊕ (Nat → UInt32) ⊕ (Nat → UInt64) ⊕ (Nat → Option Nat) := match kd with
  | 1 => .inr (.inl (fun j => Int64.ofInt (h.2.2 p (Int.ofNat j))))
  | 4 => .inr (.inr (.inr (.inr (fun j => if (p, j) ∈ h.2.1 then none else some (ad (ai_rf p j))))))
  | _ => .inl (fun j => Int32.ofInt (h.2.2 p (Int.ofNat j)))
noncomputable def ai_cell (ad : Nat → Nat) (cA : Nat → ClassId) (h : ai_H) (p : Nat) : va_E := match ai_sh p with
  | some (.inl c) => .inr (c, ai_tab (ai_nf c) (fun j => ai_fv ad h p (ai_kd c j) j))
  | some (.inr (kd, n)) => .inl (cA kd, n, ai_ac ad h p kd)
  | none => .inr (0, [])
noncomputable def ai_ws (ad : Nat → Nat) (cA : Nat → ClassId) (h : ai_H) : va_W := ai_tab h.1 (fun p => (ad p, ai_cell ad cA h p))
def ai_ad (base b : Nat) (k : Nat) : Nat := if k < 100 then base + k else b
theorem ai_D {base b : Nat} {cA : Nat → ClassId} {h : ai_H} (hz : h.1 ≤ 92) : va_D (fun q => base ≤ q) (ai_ws (ai_ad base b) cA h) := by
  refine ⟨fun i j p q hi hj e => ?_, fun k q hk => ?_⟩
  · obtain ⟨h1, rfl⟩ := ai_tab_some hi
    obtain ⟨h2, rfl⟩ := ai_tab_some hj
    simp only [ai_ad] at e
    rw [if_pos (by omega), if_pos (by omega)] at e
    omega
  · obtain ⟨h1, rfl⟩ := ai_tab_some hk
    simp only [ai_ad]
    rw [if_pos (by omega)]
    omega
/-- a store into one place -/
theorem ai_ws_set {ad : Nat → Nat} {cA : Nat → ClassId} {h h' : ai_H} {p : Nat} {e : va_E} (hz : h'.1 = h.1) (he : ai_cell ad cA h' p = e) (ho : ∀ q, q ≠ p → ai_cell ad cA h' q = ai_cell ad cA h q) : (ai_ws ad cA h).set p (ad p, e) = ai_ws ad cA h' := by
  unfold ai_ws
  rw [ai_tab_set, hz]
  apply ai_tab_congr
  intro k hk
  by_cases hkp : k = p
  · subst hkp
    rw [if_pos rfl, he]
  · rw [if_neg hkp, ho k hkp]
theorem ai_fv_ne {ad : Nat → Nat} {h : ai_H} {p q : Nat} {i v : Int} {kd j : Nat} (hq : q ≠ p) : ai_fv ad (h.1, h.2.1, ai_set h.2.2 p i v) q kd j = ai_fv ad h q kd j := by
  unfold ai_fv
  simp only [ai_set, if_neg hq]
theorem ai_ac_ne {ad : Nat → Nat} {h : ai_H} {p q : Nat} {i v : Int} {kd : Nat} (hq : q ≠ p) : ai_ac ad (h.1, h.2.1, ai_set h.2.2 p i v) q kd = ai_ac ad h q kd := by
  unfold ai_ac
  simp only [ai_set, if_neg hq]
theorem ai_cell_ne {ad : Nat → Nat} {cA : Nat → ClassId} {h : ai_H} {p q : Nat} {i v : Int} (hq : q ≠ p) : ai_cell ad cA (h.1, h.2.1, ai_set h.2.2 p i v) q = ai_cell ad cA h q := by
  unfold ai_cell
  split
  · congr 2
    apply ai_tab_congr
    intro j _
    exact ai_fv_ne hq
  · rw [ai_ac_ne hq]
  · rfl
