/-! INVERSION: what one instruction's row says. -/
section AIV
variable {sc : Int × (Int → Int)} {Y : ai_J} {m i : Nat} {ls : ai_L} {st : List ai_V} {k : Nat × Nat} {h : ai_H} {Q : ai_O → Prop}
theorem iv_li {n : Nat} (hs : ai_li Y m i ls st k h Q n) : ∃ v : Int, ai_lg ls n = some (.inl v) ∧ Y m (i + 1) ls (.inl v :: st) k h Q := by
  unfold ai_li at hs
  split at hs
  · rename_i v hv
    exact ⟨v, hv, hs⟩
  · exact hs.elim
theorem iv_ll {n : Nat} (hs : ai_ll Y m i ls st k h Q n) : ∃ v : Int, ai_lg ls n = some (.inr (.inl v)) ∧ Y m (i + 1) ls (.inr (.inl v) :: st) k h Q := by
  unfold ai_ll at hs
  split at hs
  · rename_i v hv
    exact ⟨v, hv, hs⟩
  · exact hs.elim
theorem iv_la {n : Nat} (hs : ai_la Y m i ls st k h Q n) : ∃ v : Nat, ai_lg ls n = some (.inr (.inr v)) ∧ Y m (i + 1) ls (.inr (.inr v) :: st) k h Q := by
  unfold ai_la at hs
  split at hs
  · rename_i v hv
    exact ⟨v, hv, hs⟩
  · exact hs.elim
theorem iv_si {n : Nat} (hs : ai_si Y m i ls st k h Q n) : ∃ (v : Int) (r : List ai_V), st = .inl v :: r ∧ Y m (i + 1) (ai_s1 ls n (.inl v)) r k h Q := by
  unfold ai_si at hs
  split at hs
  · exact ⟨_, _, rfl, hs⟩
  · exact hs.elim
theorem iv_sl {n : Nat} (hs : ai_sl Y m i ls st k h Q n) : ∃ (v : Int) (r : List ai_V), st = .inr (.inl v) :: r ∧ Y m (i + 1) (ai_s2 ls n (.inr (.inl v))) r k h Q := by
  unfold ai_sl at hs
  split at hs
  · exact ⟨_, _, rfl, hs⟩
  · exact hs.elim
theorem iv_sa {n : Nat} (hs : ai_sa Y m i ls st k h Q n) : ∃ (v : Nat) (r : List ai_V), st = .inr (.inr v) :: r ∧ Y m (i + 1) (ai_s1 ls n (.inr (.inr v))) r k h Q := by
  unfold ai_sa at hs
  split at hs
  · exact ⟨_, _, rfl, hs⟩
  · exact hs.elim
theorem iv_inc {n : Nat} {d : Int} (hs : ai_inc Y m i ls st k h Q n d) : ∃ v : Int, ai_lg ls n = some (.inl v) ∧ Y m (i + 1) (ai_s1 ls n (.inl (v + d))) st k h Q := by
  unfold ai_inc at hs
  split at hs
  · rename_i v hv
    exact ⟨v, hv, hs⟩
  · exact hs.elim
theorem iv_i2 {f : Int → Int → Int} (hs : ai_i2 Y m i ls st k h Q f) : ∃ (b0 a0 : Int) (r : List ai_V), st = .inl b0 :: .inl a0 :: r ∧ Y m (i + 1) ls (.inl (f a0 b0) :: r) k h Q := by
  unfold ai_i2 at hs
  split at hs
  · exact ⟨_, _, _, rfl, hs⟩
  · exact hs.elim
theorem iv_i2z {f : Int → Int → Int} (hs : ai_i2z Y m i ls st k h Q f) : ∃ (b0 a0 : Int) (r : List ai_V), st = .inl b0 :: .inl a0 :: r ∧ (ai_r b0 ∧ ¬ b0 = 0) ∧ Y m (i + 1) ls (.inl (f a0 b0) :: r) k h Q := by
  unfold ai_i2z at hs
  split at hs
  · exact ⟨_, _, _, rfl, hs⟩
  · exact hs.elim
theorem iv_l2 {f : Int → Int → Int} (hs : ai_l2 Y m i ls st k h Q f) : ∃ (b0 a0 : Int) (r : List ai_V), st = .inr (.inl b0) :: .inr (.inl a0) :: r ∧ Y m (i + 1) ls (.inr (.inl (f a0 b0)) :: r) k h Q := by
  unfold ai_l2 at hs
  split at hs
  · exact ⟨_, _, _, rfl, hs⟩
  · exact hs.elim
theorem iv_l2z {f : Int → Int → Int} (hs : ai_l2z Y m i ls st k h Q f) : ∃ (b0 a0 : Int) (r : List ai_V), st = .inr (.inl b0) :: .inr (.inl a0) :: r ∧ (ai_r8 b0 ∧ ¬ b0 = 0) ∧ Y m (i + 1) ls (.inr (.inl (f a0 b0)) :: r) k h Q := by
  unfold ai_l2z at hs
  split at hs
  · exact ⟨_, _, _, rfl, hs⟩
  · exact hs.elim
theorem iv_lsh {f : Int → Int → Int} (hs : ai_lsh Y m i ls st k h Q f) : ∃ (b0 a0 : Int) (r : List ai_V), st = .inl b0 :: .inr (.inl a0) :: r ∧ Y m (i + 1) ls (.inr (.inl (f a0 b0)) :: r) k h Q := by
  unfold ai_lsh at hs
  split at hs
  · exact ⟨_, _, _, rfl, hs⟩
  · exact hs.elim
theorem iv_i1 {f : Int → Int} (hs : ai_i1 Y m i ls st k h Q f) : ∃ (a0 : Int) (r : List ai_V), st = .inl a0 :: r ∧ Y m (i + 1) ls (.inl (f a0) :: r) k h Q := by
  unfold ai_i1 at hs
  split at hs
  · exact ⟨_, _, rfl, hs⟩
  · exact hs.elim
theorem iv_l1 {f : Int → Int} (hs : ai_l1 Y m i ls st k h Q f) : ∃ (a0 : Int) (r : List ai_V), st = .inr (.inl a0) :: r ∧ Y m (i + 1) ls (.inr (.inl (f a0)) :: r) k h Q := by
  unfold ai_l1 at hs
  split at hs
  · exact ⟨_, _, rfl, hs⟩
  · exact hs.elim
theorem iv_i2l (hs : ai_i2l Y m i ls st k h Q) : ∃ (a0 : Int) (r : List ai_V), st = .inl a0 :: r ∧ ai_r a0 ∧ Y m (i + 1) ls (.inr (.inl a0) :: r) k h Q := by
  unfold ai_i2l at hs
  split at hs
  · exact ⟨_, _, rfl, hs⟩
  · exact hs.elim
theorem iv_l2i (hs : ai_l2i Y m i ls st k h Q) : ∃ (a0 : Int) (r : List ai_V), st = .inr (.inl a0) :: r ∧ Y m (i + 1) ls (.inl a0 :: r) k h Q := by
  unfold ai_l2i at hs
  split at hs
  · exact ⟨_, _, rfl, hs⟩
  · exact hs.elim
theorem iv_lcmp (hs : ai_lcmp Y m i ls st k h Q) : ∃ (b0 a0 : Int) (r : List ai_V), st = .inr (.inl b0) :: .inr (.inl a0) :: r ∧ (ai_r8 a0 ∧ ai_r8 b0) ∧ Y m (i + 1) ls (.inl (ai_cmp a0 b0) :: r) k h Q := by
  unfold ai_lcmp at hs
  split at hs
  · exact ⟨_, _, _, rfl, hs⟩
  · exact hs.elim
theorem iv_if0 {cd : ClassFile.Cond} {t : Nat} (hs : ai_if0 Y m i ls st k h Q cd t) : ∃ (a0 : Int) (r : List ai_V), st = .inl a0 :: r ∧ ai_r a0 ∧ (ai_cd cd a0 0 → Y m t ls r k h Q) ∧ (¬ ai_cd cd a0 0 → Y m (i + 1) ls r k h Q) := by
  unfold ai_if0 at hs
  split at hs
  · exact ⟨_, _, rfl, hs⟩
  · exact hs.elim
theorem iv_if2 {cd : ClassFile.Cond} {t : Nat} (hs : ai_if2 Y m i ls st k h Q cd t) : ∃ (b0 a0 : Int) (r : List ai_V), st = .inl b0 :: .inl a0 :: r ∧ (ai_r a0 ∧ ai_r b0) ∧ (ai_cd cd a0 b0 → Y m t ls r k h Q) ∧ (¬ ai_cd cd a0 b0 → Y m (i + 1) ls r k h Q) := by
  unfold ai_if2 at hs
  split at hs
  · exact ⟨_, _, _, rfl, hs⟩
  · exact hs.elim
theorem iv_sw {ts : List Nat} {t : Nat} (hs : ai_sw Y m ls st k h Q ts t) : ∃ (a0 : Int) (r : List ai_V), st = .inl a0 :: r ∧ ai_r a0 ∧ (∀ (j s : Nat), ai_nth ts j = some s → a0 = Int.ofNat j → Y m s ls r k h Q) ∧ ((a0 < 0 ∨ Int.ofNat ts.length ≤ a0) → Y m t ls r k h Q) := by
  unfold ai_sw at hs
  split at hs
  · exact ⟨_, _, rfl, hs⟩
  · exact hs.elim
theorem iv_dup (hs : ai_dup Y m i ls st k h Q) : (∃ (a0 : Int) (r : List ai_V), st = .inl a0 :: r ∧ Y m (i + 1) ls (.inl a0 :: .inl a0 :: r) k h Q) ∨ (∃ (a0 : Nat) (r : List ai_V), st = .inr (.inr a0) :: r ∧ Y m (i + 1) ls (.inr (.inr a0) :: .inr (.inr a0) :: r) k h Q) := by
  unfold ai_dup at hs
  split at hs
  · exact Or.inl ⟨_, _, rfl, hs⟩
  · exact Or.inr ⟨_, _, rfl, hs⟩
  · exact hs.elim
theorem iv_dup2 (hs : ai_dup2 Y m i ls st k h Q) : ∃ (a0 : Int) (b0 : Nat) (r : List ai_V), st = .inl a0 :: .inr (.inr b0) :: r ∧ Y m (i + 1) ls (.inl a0 :: .inr (.inr b0) :: .inl a0 :: .inr (.inr b0) :: r) k h Q := by
  unfold ai_dup2 at hs
  split at hs
  · exact ⟨_, _, _, rfl, hs⟩
  · exact hs.elim
theorem iv_pop (hs : ai_pop Y m i ls st k h Q) : ∃ (a0 : Int) (r : List ai_V), st = .inl a0 :: r ∧ Y m (i + 1) ls r k h Q := by
  unfold ai_pop at hs
  split at hs
  · exact ⟨_, _, rfl, hs⟩
  · exact hs.elim
theorem iv_and2 {a b : Bool} (h : (a && b) = true) : a = true ∧ b = true := by rwa [Bool.and_eq_true] at h
theorem iv_get {ad : Nat → Nat} {x : ai_X} (hx : x.2.2.1 ≤ 4) (hs : ai_get Y m i ls st k h Q x) : ∃ (q : Nat) (r : List ai_V) (v : ai_V), st = .inr (.inr q) :: r ∧ ai_sh q = some (.inl x.1) ∧ q < h.1 ∧ ai_fv ad h q x.2.2.1 x.2.1 = ai_rn ad v ∧ Y m (i + 1) ls (v :: r) k h Q := by
  unfold ai_get at hs
  split at hs
  · rename_i q r
    split at hs
    · rename_i c hc
      have zz0 := hs
      clear hs
      obtain ⟨h1, hs⟩ := ai_ck_true zz0
      obtain ⟨h1, h2⟩ := iv_and2 h1
      have e1 : c = x.1 := Nat.eq_of_beq_eq_true h1
      subst e1
      have hq : q < h.1 := by simpa [Nat.blt_eq] using h2
      split at hs
      · rename_i e
        exact ⟨q, r, _, rfl, hc, hq, by rw [e]; rfl, hs⟩
      · rename_i e
        exact ⟨q, r, _, rfl, hc, hq, by rw [e]; rfl, hs⟩
      · rename_i e
        have zz0 := hs
        clear hs
        obtain ⟨h3, hs⟩ := ai_ck_true zz0
        refine ⟨q, r, _, rfl, hc, hq, ?_, hs⟩
        rw [e]
        show (if (q, x.2.1) ∈ h.2.1 then Value.null else .ref (ad (ai_rf q x.2.1))) = _
        rw [if_neg ((ai_nn_true _ _).mp h3)]
        rfl
      · rename_i e
        exact ⟨q, r, _, rfl, hc, hq, by rw [e]; rfl, hs⟩
      · rename_i e0 e1 e2 e3
        have zz0 := hs
        clear hs
        obtain ⟨h3, hs⟩ := ai_ck_true zz0
        refine ⟨q, r, _, rfl, hc, hq, ?_, hs⟩
        have e4 : x.2.2.1 = 4 := by
          have n0 : x.2.2.1 ≠ 0 := fun z => e0 z
          have n1 : x.2.2.1 ≠ 1 := fun z => e1 z
          have n2 : x.2.2.1 ≠ 2 := fun z => e2 z
          have n3 : x.2.2.1 ≠ 3 := fun z => e3 z
          omega
        rw [e4]
        show (if (q, x.2.1) ∈ h.2.1 then Value.null else .ref (ad (h.2.2 q (Int.ofNat x.2.1)).toNat)) = _
        rw [if_neg ((ai_nn_true _ _).mp h3)]
        rfl
    · exact hs.elim
  · exact hs.elim
theorem ai_mem_fil {u : List (Nat × Nat)} {p q : Nat × Nat} : q ∈ u.filter (fun z => !decide (z = p)) ↔ q ∈ u ∧ q ≠ p := by
  simp [List.mem_filter]
theorem iv_pf {ad : Nat → Nat} {cA : Nat → ClassId} {x : ai_X} {ty : FieldType} (hcp : ai_cp ty x.2.2.1 = true) (hs : ai_pf Y m i ls st k h Q x) : ∃ (v : ai_V) (q : Nat) (r : List ai_V) (h' : ai_H), st = v :: .inr (.inr q) :: r ∧ ai_sh q = some (.inl x.1) ∧ q < h.1 ∧ narrow ty (ai_rn ad v) = ai_rn ad v ∧ fits ty (ai_rn ad v) = true ∧ h'.1 = h.1 ∧ ai_fv ad h' q x.2.2.1 x.2.1 = ai_rn ad v ∧ (∀ kd j, j ≠ x.2.1 → ai_fv ad h' q kd j = ai_fv ad h q kd j) ∧ (∀ r, r ≠ q → ai_cell ad cA h' r = ai_cell ad cA h r) ∧ Y m (i + 1) ls r k h' Q := by
  unfold ai_pf at hs
  split at hs
  · rename_i v q r
    split at hs
    · rename_i c hc
      have zz0 := hs
      clear hs
      obtain ⟨h1, hs⟩ := ai_ck_true zz0
      obtain ⟨h1, h2⟩ := iv_and2 h1
      have e1 : c = x.1 := Nat.eq_of_beq_eq_true h1
      subst e1
      have hq : q < h.1 := by simpa [Nat.blt_eq] using h2
      have setf : ∀ (w : Int) (kd j : Nat), j ≠ x.2.1 → ai_fv ad (h.1, h.2.1, ai_set h.2.2 q (Int.ofNat x.2.1) w) q kd j = ai_fv ad h q kd j := fun w kd j hj => ai_fv_eq (ai_set_nj (fun z => hj (Int.ofNat.inj z))) Iff.rfl
      have seto : ∀ (w : Int) (r : Nat), r ≠ q → ai_cell ad cA (h.1, h.2.1, ai_set h.2.2 q (Int.ofNat x.2.1) w) r = ai_cell ad cA h r := fun w r hr => ai_cell_eq (fun j => ai_set_ne hr) (fun j => Iff.rfl)
      have filf : ∀ (σ : ai_S) (kd j : Nat), σ q (Int.ofNat j) = h.2.2 q (Int.ofNat j) → j ≠ x.2.1 → ai_fv ad (h.1, h.2.1.filter (fun z => !decide (z = (q, x.2.1))), σ) q kd j = ai_fv ad h q kd j := fun σ kd j hσ hj => ai_fv_eq hσ (ai_mem_fil.trans ⟨fun z => z.1, fun z => ⟨z, fun y => hj (Prod.mk.inj y).2⟩⟩)
      have filo : ∀ (σ : ai_S) (r : Nat), (∀ j, σ r j = h.2.2 r j) → r ≠ q → ai_cell ad cA (h.1, h.2.1.filter (fun z => !decide (z = (q, x.2.1))), σ) r = ai_cell ad cA h r := fun σ r hσ hr => ai_cell_eq hσ (fun j => ai_mem_fil.trans ⟨fun z => z.1, fun z => ⟨z, fun y => hr (Prod.mk.inj y).1⟩⟩)
      split at hs
      · rename_i w e
        rw [e] at hcp ⊢
        have hty : ty = .int := by cases ty <;> first | rfl | cases hcp
        subst hty
        exact ⟨_, q, r, (h.1, h.2.1, ai_set h.2.2 q (Int.ofNat x.2.1) w), rfl, hc, hq, rfl, rfl, rfl, by show Value.int (Int32.ofInt (ai_set _ _ _ _ _ _)) = _; rw [ai_set_eq]; rfl, setf w, seto w, hs⟩
      · rename_i w e
        rw [e] at hcp ⊢
        have hty : ty = .long := by cases ty <;> first | rfl | cases hcp
        subst hty
        exact ⟨_, q, r, (h.1, h.2.1, ai_set h.2.2 q (Int.ofNat x.2.1) w), rfl, hc, hq, rfl, rfl, rfl, by show Value.long (Int64.ofInt (ai_set _ _ _ _ _ _)) = _; rw [ai_set_eq]; rfl, setf w, seto w, hs⟩
      · rename_i w e
        rw [e] at hcp ⊢
        have zz0 := hs
        clear hs
        obtain ⟨h3, hs⟩ := ai_ck_true zz0
        have e3 : w = ai_rf q x.2.1 := Nat.eq_of_beq_eq_true h3
        have hty : narrow ty (.ref (ad w)) = .ref (ad w) ∧ fits ty (.ref (ad w)) = true := by cases ty <;> first | exact ⟨rfl, rfl⟩ | cases hcp
        refine ⟨_, q, r, (h.1, h.2.1.filter (fun z => !decide (z = (q, x.2.1))), h.2.2), rfl, hc, hq, hty.1, hty.2, rfl, ?_, fun kd j hj => filf _ kd j rfl hj, fun r hr => filo _ r (fun _ => rfl) hr, hs⟩
        show (if (q, x.2.1) ∈ h.2.1.filter (fun z => !decide (z = (q, x.2.1))) then Value.null else .ref (ad (ai_rf q x.2.1))) = _
        rw [if_neg (fun z => (ai_mem_fil.mp z).2 rfl), e3]
        rfl
      · rename_i w e
        rw [e] at hcp ⊢
        have hty : ty = .boolean := by cases ty <;> first | rfl | cases hcp
        subst hty
        have hb : w = 0 ∨ w = 1 := by have := hs.1; omega
        have hnf : narrow .boolean (.int (Int32.ofInt w)) = .int (Int32.ofInt w) ∧ fits .boolean (.int (Int32.ofInt w)) = true := by rcases hb with rfl | rfl <;> exact ⟨rfl, rfl⟩
        exact ⟨_, q, r, (h.1, h.2.1, ai_set h.2.2 q (Int.ofNat x.2.1) w), rfl, hc, hq, hnf.1, hnf.2, rfl, by show Value.int (Int32.ofInt (ai_set _ _ _ _ _ _)) = _; rw [ai_set_eq]; rfl, setf w, seto w, hs.2⟩
      · rename_i w e
        rw [e] at hcp ⊢
        have hty : narrow ty (.ref (ad w)) = .ref (ad w) ∧ fits ty (.ref (ad w)) = true := by cases ty <;> first | exact ⟨rfl, rfl⟩ | cases hcp
        refine ⟨_, q, r, (h.1, h.2.1.filter (fun z => !decide (z = (q, x.2.1))), ai_set h.2.2 q (Int.ofNat x.2.1) (Int.ofNat w)), rfl, hc, hq, hty.1, hty.2, rfl, ?_, fun kd j hj => filf _ kd j (ai_set_nj (fun z => hj (Int.ofNat.inj z))) hj, fun r hr => filo _ r (fun _ => ai_set_ne hr) hr, hs⟩
        show (if (q, x.2.1) ∈ h.2.1.filter (fun z => !decide (z = (q, x.2.1))) then Value.null else .ref (ad (ai_set _ _ _ _ _ _).toNat)) = _
        rw [if_neg (fun z => (ai_mem_fil.mp z).2 rfl), ai_set_eq]
        rfl
      · exact hs.elim
    · exact hs.elim
  · exact hs.elim
theorem ai_sh_small {q kd n : Nat} (h : ai_sh q = some (.inr (kd, n))) : n ≤ 1000000 ∧ kd < 5 := by
  have h0 : ai_shT.all (fun x => match x with
    | .inl _ => true
    | .inr y => decide (y.2 ≤ 1000000) && decide (y.1 < 5)) = true := by decide +kernel
  unfold ai_sh at h
  rw [ai_nth_eq] at h
  have h1 := List.all_eq_true.mp h0 _ (List.mem_of_getElem? h)
  simp only [Bool.and_eq_true, decide_eq_true_eq] at h1
  exact h1
theorem iv_blt {a b : Nat} (h : Nat.blt a b = true) : a < b := by simpa [Nat.blt_eq] using h
theorem iv_ble {a b : Nat} (h : Nat.ble a b = true) : a ≤ b := Nat.le_of_ble_eq_true h
theorem iv_ald {kd : Nat} (hs : ai_ald sc Y m i ls st k h Q kd) : ∃ (j : Int) (q : Nat) (r : List ai_V), st = .inl j :: .inr (.inr q) :: r ∧ ((∃ n, ai_sh q = some (.inr (kd, n)) ∧ q < h.1 ∧ (0 ≤ j ∧ j < Int.ofNat n) ∧ Y m (i + 1) ls (.inl (h.2.2 q j) :: r) k h Q) ∨ (q = 100 ∧ kd = 0 ∧ m = ai_law ∧ (0 ≤ j ∧ j < sc.1) ∧ Y m (i + 1) ls (.inl (sc.2 j) :: r) k h Q)) := by
  unfold ai_ald at hs
  split at hs
  · rename_i j q r
    refine ⟨j, q, r, rfl, ?_⟩
    split at hs
    · rename_i kk n hc
      have zz0 := hs
      clear hs
      obtain ⟨h1, hs⟩ := ai_ck_true zz0
      obtain ⟨h1, h2⟩ := iv_and2 h1
      have e1 : kk = kd := Nat.eq_of_beq_eq_true h1
      subst e1
      exact Or.inl ⟨n, hc, iv_blt h2, hs.1, hs.2⟩
    · have zz0 := hs
      clear hs
      obtain ⟨h1, hs⟩ := ai_ck_true zz0
      obtain ⟨h1, h3⟩ := iv_and2 h1
      obtain ⟨h1, h2⟩ := iv_and2 h1
      exact Or.inr ⟨Nat.eq_of_beq_eq_true h1, Nat.eq_of_beq_eq_true h2, Nat.eq_of_beq_eq_true h3, hs.1, hs.2⟩
    · exact hs.elim
  · exact hs.elim
theorem iv_lald (hs : ai_lald Y m i ls st k h Q) : ∃ (j : Int) (q n : Nat) (r : List ai_V), st = .inl j :: .inr (.inr q) :: r ∧ ai_sh q = some (.inr (1, n)) ∧ q < h.1 ∧ (0 ≤ j ∧ j < Int.ofNat n) ∧ Y m (i + 1) ls (.inr (.inl (h.2.2 q j)) :: r) k h Q := by
  unfold ai_lald at hs
  split at hs
  · rename_i j q r
    split at hs
    · rename_i kk n hc
      have zz0 := hs
      clear hs
      obtain ⟨h1, hs⟩ := ai_ck_true zz0
      obtain ⟨h1, h2⟩ := iv_and2 h1
      have e1 : kk = 1 := Nat.eq_of_beq_eq_true h1
      subst e1
      exact ⟨j, q, n, r, rfl, hc, iv_blt h2, hs.1, hs.2⟩
    · exact hs.elim
  · exact hs.elim
theorem iv_aald (hs : ai_aald Y m i ls st k h Q) : ∃ (j : Int) (q n : Nat) (r : List ai_V), st = .inl j :: .inr (.inr q) :: r ∧ ai_sh q = some (.inr (4, n)) ∧ q < h.1 ∧ h.2.1 = [] ∧ (0 ≤ j ∧ j < Int.ofNat n) ∧ Y m (i + 1) ls (.inr (.inr (ai_rf q j.toNat)) :: r) k h Q := by
  unfold ai_aald at hs
  split at hs
  · rename_i j q r
    split at hs
    · rename_i kk n hc
      have zz0 := hs
      clear hs
      obtain ⟨h1, hs⟩ := ai_ck_true zz0
      obtain ⟨h1, h3⟩ := iv_and2 h1
      obtain ⟨h1, h2⟩ := iv_and2 h1
      have e1 : kk = 4 := Nat.eq_of_beq_eq_true h1
      subst e1
      exact ⟨j, q, n, r, rfl, hc, iv_blt h2, List.isEmpty_iff.mp h3, hs.1, hs.2⟩
    · exact hs.elim
  · exact hs.elim
theorem iv_ast {kd : Nat} {lo hi : Int} (hs : ai_ast Y m i ls st k h Q kd lo hi) : ∃ (v j : Int) (q n : Nat) (r : List ai_V), st = .inl v :: .inl j :: .inr (.inr q) :: r ∧ ai_sh q = some (.inr (kd, n)) ∧ q < h.1 ∧ (0 ≤ j ∧ j < Int.ofNat n) ∧ (kd ≠ 0 → lo ≤ v ∧ v ≤ hi) ∧ Y m (i + 1) ls r k (h.1, h.2.1, ai_set h.2.2 q j v) Q := by
  unfold ai_ast at hs
  split at hs
  · rename_i v j q r
    split at hs
    · rename_i kk n hc
      have zz0 := hs
      clear hs
      obtain ⟨h1, hs⟩ := ai_ck_true zz0
      obtain ⟨h1, h2⟩ := iv_and2 h1
      have e1 : kk = kd := Nat.eq_of_beq_eq_true h1
      subst e1
      split at hs
      · exact ⟨v, j, q, n, r, rfl, hc, iv_blt h2, hs.1, fun z => absurd rfl z, hs.2⟩
      · exact ⟨v, j, q, n, r, rfl, hc, iv_blt h2, hs.1, fun _ => hs.2.1, hs.2.2⟩
    · exact hs.elim
  · exact hs.elim
theorem iv_last (hs : ai_last Y m i ls st k h Q) : ∃ (v j : Int) (q n : Nat) (r : List ai_V), st = .inr (.inl v) :: .inl j :: .inr (.inr q) :: r ∧ ai_sh q = some (.inr (1, n)) ∧ q < h.1 ∧ (0 ≤ j ∧ j < Int.ofNat n) ∧ Y m (i + 1) ls r k (h.1, h.2.1, ai_set h.2.2 q j v) Q := by
  unfold ai_last at hs
  split at hs
  · rename_i v j q r
    split at hs
    · rename_i kk n hc
      have zz0 := hs
      clear hs
      obtain ⟨h1, hs⟩ := ai_ck_true zz0
      obtain ⟨h1, h2⟩ := iv_and2 h1
      have e1 : kk = 1 := Nat.eq_of_beq_eq_true h1
      subst e1
      exact ⟨v, j, q, n, r, rfl, hc, iv_blt h2, hs.1, hs.2⟩
    · exact hs.elim
  · exact hs.elim
theorem iv_aast (hs : ai_aast Y m i ls st k h Q) : ∃ (v q n : Nat) (j : Int) (r : List ai_V), st = .inr (.inr v) :: .inl j :: .inr (.inr q) :: r ∧ ai_sh q = some (.inr (4, n)) ∧ q < h.1 ∧ v < h.1 ∧ v = ai_rf q j.toNat ∧ (0 ≤ j ∧ j < Int.ofNat n) ∧ Y m (i + 1) ls r k (h.1, h.2.1.filter (fun z => !decide (z = (q, j.toNat))), h.2.2) Q := by
  unfold ai_aast at hs
  split at hs
  · rename_i v j q r
    split at hs
    · rename_i kk n hc
      have zz0 := hs
      clear hs
      obtain ⟨h1, hs⟩ := ai_ck_true zz0
      obtain ⟨h1, h4⟩ := iv_and2 h1
      obtain ⟨h1, h3⟩ := iv_and2 h1
      obtain ⟨h1, h2⟩ := iv_and2 h1
      have e1 : kk = 4 := Nat.eq_of_beq_eq_true h1
      subst e1
      exact ⟨v, q, n, j, r, rfl, hc, iv_blt h2, iv_blt h3, Nat.eq_of_beq_eq_true h4, hs.1, hs.2⟩
    · exact hs.elim
  · exact hs.elim
theorem iv_len (hs : ai_len sc Y m i ls st k h Q) : ∃ (q : Nat) (r : List ai_V), st = .inr (.inr q) :: r ∧ ((∃ kd n, ai_sh q = some (.inr (kd, n)) ∧ q < h.1 ∧ Y m (i + 1) ls (.inl (Int.ofNat n) :: r) k h Q) ∨ (q = 100 ∧ m = ai_law ∧ Y m (i + 1) ls (.inl sc.1 :: r) k h Q)) := by
  unfold ai_len at hs
  split at hs
  · rename_i q r
    refine ⟨q, r, rfl, ?_⟩
    split at hs
    · rename_i kk n hc
      have zz0 := hs
      clear hs
      obtain ⟨h1, hs⟩ := ai_ck_true zz0
      exact Or.inl ⟨_, _, hc, iv_blt h1, hs⟩
    · have zz0 := hs
      clear hs
      obtain ⟨h1, hs⟩ := ai_ck_true zz0
      obtain ⟨h1, h2⟩ := iv_and2 h1
      exact Or.inr ⟨Nat.eq_of_beq_eq_true h1, Nat.eq_of_beq_eq_true h2, hs⟩
    · exact hs.elim
  · exact hs.elim
theorem iv_nar {kd : Nat} (hs : ai_nar Y m i ls st k h Q kd) : ∃ (n0 : Nat) (r : List ai_V), st = .inl (Int.ofNat n0) :: r ∧ ai_sh h.1 = some (.inr (kd, n0)) ∧ h.1 < 92 ∧ k.1 + 1 ≤ ai_mc m ∧ k.2 + n0 ≤ ai_ms m ∧ Y m (i + 1) ls (.inr (.inr h.1) :: r) (k.1 + 1, k.2 + n0) (h.1 + 1, h.2.1 ++ (if kd = 4 then (List.range n0).map (fun j => (h.1, j)) else []), ai_zero h.2.2 h.1) Q := by
  unfold ai_nar at hs
  split at hs
  · rename_i n r
    split at hs
    · rename_i kk n0 hc
      have zz0 := hs
      clear hs
      obtain ⟨h1, hs⟩ := ai_ck_true zz0
      obtain ⟨h1, h4⟩ := iv_and2 h1
      obtain ⟨h1, h3⟩ := iv_and2 h1
      obtain ⟨h1, h2⟩ := iv_and2 h1
      have e1 : kk = kd := Nat.eq_of_beq_eq_true h1
      subst e1
      obtain ⟨rfl, hs⟩ := hs
      exact ⟨n0, r, rfl, hc, iv_blt h2, iv_ble h3, iv_ble h4, hs⟩
    · exact hs.elim
  · exact hs.elim
theorem iv_call {x : ai_X} (hs : ai_call Y m i ls st k h Q x) : ∃ (vs r : List ai_V), st = vs.reverse ++ r ∧ vs.length = x.2.1 ∧ ai_tk x.2.1 [] st = some (vs, r) ∧ ai_cats r ≤ 8 ∧ ai_cats vs ≤ ai_mL x.1 ∧ k.1 + ai_mc x.1 ≤ ai_mc m ∧ k.2 + ai_ms x.1 ≤ ai_ms m ∧
    (match x.2.2.1 with
    | 0 => ai_ret Y x.1 (ai_en (ai_mL x.1) vs) h (fun v h' => ai_ck (ai_zz h.1 h'.1 (ai_mc x.1)) (Y m (i + 1) ls (v.toList ++ r) (k.1 + ai_mc x.1, k.2 + ai_ms x.1) h' Q))
    | _ => ai_ret Y x.1 (ai_en (ai_mL x.1) vs) h (fun v h' => ai_ck (ai_zz h.1 h'.1 (ai_mc x.1)) (Y m (i + 1) ls (v.toList ++ r) (k.1 + ai_mc x.1, k.2 + ai_ms x.1) h' Q)) ∨
        ai_thr Y x.1 (ai_en (ai_mL x.1) vs) h (fun c h' => ai_ck (Nat.ble 92 h'.1) (match ai_ct m c with
          | some (t, sl) => Y m t (ai_put (ai_kill ls sl) sl none) [] (k.1 + ai_mc x.1, k.2 + ai_ms x.1) h' Q
          | none => False))) := by
  unfold ai_call at hs
  split at hs
  · rename_i vs r htk
    have zz0 := hs
    clear hs
    obtain ⟨h1, hs⟩ := ai_ck_true zz0
    have zz0 := hs
    clear hs
    obtain ⟨h2, hs⟩ := ai_ck_true zz0
    obtain ⟨h1, h3⟩ := iv_and2 h1
    obtain ⟨h2, h4⟩ := iv_and2 h2
    obtain ⟨g1, g2⟩ := ai_tk_eq (fun n => n) _ _ _ _ _ htk
    exact ⟨vs, r, by simpa using g1, by simpa using g2, htk, iv_ble h1, iv_ble h3, iv_ble h2, iv_ble h4, hs⟩
  · exact hs.elim
theorem ai_zz_use {z z' n : Nat} (h : ai_zz z z' n = true) : (z < 92 → z' = z + n) ∧ (92 ≤ z → 92 ≤ z') := by
  unfold ai_zz at h
  split at h
  · rename_i h1
    have := iv_ble h1
    have := iv_ble h
    exact ⟨fun q => by omega, fun _ => by omega⟩
  · rename_i h1
    have h2 : ¬ 92 ≤ z := fun q => by rw [Nat.ble_eq_true_of_le q] at h1; cases h1
    exact ⟨fun _ => Nat.eq_of_beq_eq_true h, fun q => absurd q h2⟩
theorem iv_ocall0 {x : ai_X} (e : x.1 = 1000) (hs : ai_ocall Y m i ls st k h Q x) : ∃ (q : Nat) (r : List ai_V), st = .inr (.inr q) :: r ∧ ai_cats r ≤ 8 ∧ Y m (i + 1) ls r k h Q := by
  unfold ai_ocall at hs
  rw [e] at hs
  split at hs
  · have zz0 := hs
    clear hs
    obtain ⟨h1, hs⟩ := ai_ck_true zz0
    exact ⟨_, _, rfl, iv_ble h1, hs⟩
  all_goals first | exact hs.elim | (rename_i z; cases z) | (exfalso; simp_all; done)
theorem iv_ocall1 {x : ai_X} (e : x.1 = 1001) (hs : ai_ocall Y m i ls st k h Q x) : ∃ (n dp sp : Int) (qq qp kd np nq : Nat) (r : List ai_V), st = .inl n :: .inl dp :: .inr (.inr qq) :: .inl sp :: .inr (.inr qp) :: r ∧ kd ≤ 1 ∧ ai_sh qp = some (.inr (kd, np)) ∧ ai_sh qq = some (.inr (kd, nq)) ∧ qp < h.1 ∧ qq < h.1 ∧ ai_cats r ≤ 8 ∧ (0 ≤ sp ∧ 0 ≤ dp ∧ 0 ≤ n ∧ sp + n ≤ Int.ofNat np ∧ dp + n ≤ Int.ofNat nq) ∧ Y m (i + 1) ls r k (h.1, h.2.1, ai_cpy h.2.2 qp qq sp dp n) Q := by
  unfold ai_ocall at hs
  rw [e] at hs
  split at hs
  · rename_i z; cases z
  · rename_i n dp qq sp qp r _
    split at hs
    · rename_i kp np kq nq hp hq
      have zz0 := hs
      clear hs
      obtain ⟨h1, hs⟩ := ai_ck_true zz0
      obtain ⟨h1, h5⟩ := iv_and2 h1
      obtain ⟨h1, h4⟩ := iv_and2 h1
      obtain ⟨h1, h3⟩ := iv_and2 h1
      obtain ⟨h1, h2⟩ := iv_and2 h1
      have e1 : kp = kq := Nat.eq_of_beq_eq_true h1
      subst e1
      exact ⟨n, dp, sp, qq, qp, kp, np, nq, r, rfl, iv_ble h2, hp, hq, iv_blt h3, iv_blt h4, iv_ble h5, hs.1, hs.2⟩
    · exact hs.elim
  all_goals first | exact hs.elim | (rename_i z; cases z) | (exfalso; simp_all; done)
theorem iv_ocall2 {x : ai_X} (e : x.1 = 1002) (hs : ai_ocall Y m i ls st k h Q x) : ∃ (a0 : Int) (r : List ai_V), st = .inr (.inl a0) :: r ∧ ai_cats r ≤ 8 ∧ ai_r8 a0 ∧ k.1 ≤ ai_mc m ∧ k.2 ≤ ai_ms m ∧ Y m (i + 1) ls (.inr (.inl (if 0 < a0 then a0 else -a0)) :: r) k h Q := by
  unfold ai_ocall at hs
  rw [e] at hs
  split at hs
  · rename_i z; cases z
  · rename_i z; cases z
  · have zz0 := hs
    clear hs
    obtain ⟨h1, hs⟩ := ai_ck_true zz0
    obtain ⟨h1, h3⟩ := iv_and2 h1
    obtain ⟨h1, h2⟩ := iv_and2 h1
    exact ⟨_, _, rfl, iv_ble h1, hs.1, iv_ble h2, iv_ble h3, hs.2⟩
  all_goals first | exact hs.elim | (rename_i z; cases z) | (exfalso; simp_all; done)
theorem iv_ocall3 {x : ai_X} (e : x.1 = 1003) (hs : ai_ocall Y m i ls st k h Q x) : ∃ (b0 a0 : Int) (r : List ai_V), st = .inl b0 :: .inl a0 :: r ∧ ai_cats r ≤ 8 ∧ (ai_r a0 ∧ ai_r b0) ∧ k.1 ≤ ai_mc m ∧ k.2 ≤ ai_ms m ∧ Y m (i + 1) ls (.inl (if b0 < a0 then b0 else a0) :: r) k h Q := by
  unfold ai_ocall at hs
  rw [e] at hs
  split at hs
  · rename_i z; cases z
  · rename_i z; cases z
  · rename_i z; cases z
  · have zz0 := hs
    clear hs
    obtain ⟨h1, hs⟩ := ai_ck_true zz0
    obtain ⟨h1, h3⟩ := iv_and2 h1
    obtain ⟨h1, h2⟩ := iv_and2 h1
    exact ⟨_, _, _, rfl, iv_ble h1, hs.1, iv_ble h2, iv_ble h3, hs.2⟩
  all_goals first | exact hs.elim | (rename_i z; cases z) | (exfalso; simp_all; done)
theorem ai_stores {q n v : Nat} {j : Int} (hsh : ai_sh q = some (.inr (4, n))) (hj : j.toNat < n) (hv : v = ai_rf q j.toNat) : ∃ (ci : Nat) (T : u_T) (N : Nat), vwCl[ci]? = some (ai_Store, T, N) ∧ ai_sh v = some (.inl ci) := by
  have h0 : (List.range 92).all (fun q => match ai_sh q with
    | some (.inr (4, n)) => (List.range n).all (fun j => decide (ai_sh (ai_rf q j) = some (.inl 8)))
    | _ => true) = true := by decide +kernel
  have hq : q < 92 := by
    unfold ai_sh at hsh
    rw [ai_nth_eq] at hsh
    exact (List.getElem?_eq_some_iff.mp hsh).1
  have h1 := List.all_eq_true.mp h0 q (List.mem_range.mpr hq)
  rw [hsh] at h1
  have h2 := of_decide_eq_true (List.all_eq_true.mp h1 j.toNat (List.mem_range.mpr hj))
  rw [hv]
  exact ⟨8, ai_T8, 3, rfl, h2⟩
end AIV
