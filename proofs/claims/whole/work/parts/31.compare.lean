/-! COMPARE: the differences. -/
def DN (A B ty u v dl : Int) : Prop := ((¬ A = 0) ∧ B = 0) ∨ (A = 0 ∧ (¬ B = 0)) ∨ (A = 0 ∧ B = 0 ∧ ((¬ ty = 1 ∧ ¬ u = v) ∨ (ty = 1 ∧ (dl < u - v ∨ dl < v - u))))
theorem dc_iff {A B ty u v dl : Int} (hd : 0 ≤ dl) : (((¬ (A = (0 : Int))) ∧ (¬ ((bi (¬ (A = (0 : Int)))) = (bi (¬ (B = (0 : Int))))))) ∨ ((¬ (¬ (A = (0 : Int)))) ∧ (((¬ (B = (0 : Int))) ∧ (¬ ((bi (¬ (A = (0 : Int)))) = (bi (¬ (B = (0 : Int))))))) ∨ ((¬ (¬ (B = (0 : Int)))) ∧ (((¬ ty = (1 : Int)) ∧ (¬ ((ai_cmp (if 0 < (u - v) then u - v else -(u - v)) 0) ≤ (0 : Int)))) ∨ ((¬ (¬ ty = (1 : Int))) ∧ (¬ ((ai_cmp (if 0 < (u - v) then u - v else -(u - v)) dl) ≤ (0 : Int))))))))) ↔ DN A B ty u v dl := by
  unfold DN
  simp only [cmp_le]
  have a0 : A = 0 → bi (¬ (A = (0 : Int))) = 0 := fun h => bi_eq0.mpr (fun q => q h)
  have a1 : ¬ A = 0 → bi (¬ (A = (0 : Int))) = 1 := fun h => bi_eq1.mpr h
  have b0 : B = 0 → bi (¬ (B = (0 : Int))) = 0 := fun h => bi_eq0.mpr (fun q => q h)
  have b1 : ¬ B = 0 → bi (¬ (B = (0 : Int))) = 1 := fun h => bi_eq1.mpr h
  generalize bi (¬ (A = (0 : Int))) = x at a0 a1 ⊢
  generalize bi (¬ (B = (0 : Int))) = y at b0 b1 ⊢
  by_cases hA : A = 0
  · have := a0 hA
    by_cases hB : B = 0
    · have := b0 hB
      split <;> omega
    · have := b1 hB
      split <;> omega
  · have := a1 hA
    by_cases hB : B = 0
    · have := b0 hB
      split <;> omega
    · have := b1 hB
      split <;> omega
theorem dr_iff {a b ty u v dl : Int} (hd : 0 ≤ dl) (ha : a = 0 ∨ a = 1) (hb : b = 0 ∨ b = 1) : (((¬ a = (0 : Int)) ∧ (¬ (a = b))) ∨ ((¬ (¬ a = (0 : Int))) ∧ (((b = (0 : Int)) ∧ ((((ai_cmp u v) ≤ (0 : Int)) ∧ (((¬ ty = (1 : Int)) ∧ (¬ ((ai_cmp (v - u) 0) ≤ (0 : Int)))) ∨ ((¬ (¬ ty = (1 : Int))) ∧ (¬ ((ai_cmp (v - u) dl) ≤ (0 : Int)))))) ∨ ((¬ ((ai_cmp u v) ≤ (0 : Int))) ∧ (((¬ ty = (1 : Int)) ∧ (¬ ((ai_cmp (u - v) 0) ≤ (0 : Int)))) ∨ ((¬ (¬ ty = (1 : Int))) ∧ (¬ ((ai_cmp (u - v) dl) ≤ (0 : Int)))))))) ∨ ((¬ (b = (0 : Int))) ∧ (¬ (a = b)))))) ↔ DN a b ty u v dl := by
  unfold DN
  simp only [cmp_le]
  omega
def add3 (P : Int → Int) (n s r c : Int) : Int → Int := if 20 ≤ n then P else fun j => if j = n * 3 + 2 then c else if j = n * 3 + 1 then r else if j = n * 3 then s else P j
def dl3 : List (Int × Int × Int) → Int → (Int → Int) → (Int → Int)
  | [], _, P => P
  | e :: M, n, P => dl3 M (n + 1) (add3 P n e.1 e.2.1 e.2.2)
theorem dl3_app : ∀ (L M : List (Int × Int × Int)) (n : Int) (P : Int → Int), dl3 (L ++ M) n P = dl3 M (n + (L.length : Int)) (dl3 L n P) := by
  intro L
  induction L with
  | nil =>
    intro M n P
    show dl3 M n P = dl3 M (n + ((0 : Nat) : Int)) P
    rw [show n + ((0 : Nat) : Int) = n by omega]
  | cons e L ih =>
    intro M n P
    show dl3 (L ++ M) (n + 1) _ = _
    rw [ih]
    show dl3 M (n + 1 + (L.length : Int)) (dl3 L (n + 1) _) = dl3 M (n + ((L.length + 1 : Nat) : Int)) (dl3 L (n + 1) _)
    rw [show n + 1 + (L.length : Int) = n + ((L.length + 1 : Nat) : Int) by omega]
def ok3 (L : List (Int × Int × Int)) : Prop := ∀ e, e ∈ L → ai_r e.1 ∧ ai_r e.2.1 ∧ ai_r e.2.2
theorem dl3_rng : ∀ {L : List (Int × Int × Int)} {P : Int → Int} {n : Int}, ok3 L → (∀ j, ai_r (P j)) → ∀ j, ai_r (dl3 L n P j) := by
  intro L
  induction L with
  | nil => exact fun _ h => h
  | cons e L ih =>
    intro P n hL hP
    refine ih (fun x hx => hL x (List.mem_cons_of_mem _ hx)) (fun j => ?_)
    have h1 := hL e (List.mem_cons_self ..)
    unfold add3
    split
    · exact hP j
    · show ai_r (if j = n * 3 + 2 then e.2.2 else if j = n * 3 + 1 then e.2.1 else if j = n * 3 then e.1 else P j)
      repeat' split
      · exact h1.2.2
      · exact h1.2.1
      · exact h1.1
      · exact hP j
theorem ok3_app {L M : List (Int × Int × Int)} (h : ok3 L) (g : ok3 M) : ok3 (L ++ M) := fun c hc => by
  rcases List.mem_append.mp hc with q | q
  · exact h c q
  · exact g c q
theorem ok3_nil : ok3 [] := fun x hx => absurd hx (List.not_mem_nil)
theorem ok3_one {e : Int × Int × Int} (h : ai_r e.1 ∧ ai_r e.2.1 ∧ ai_r e.2.2) : ok3 [e] := fun x hx => by
  rw [List.mem_singleton.mp hx]
  exact h
def catT (f : Int → List (Int × Int × Int)) : Nat → Int → List (Int × Int × Int)
  | 0, _ => []
  | n + 1, c => f c ++ catT f n (c + 1)
theorem catT_ok {f : Int → List (Int × Int × Int)} : ∀ (n : Nat) (c : Int), (∀ k, c ≤ k → k < c + (n : Int) → ok3 (f k)) → ok3 (catT f n c) := by
  intro n
  induction n with
  | zero => exact fun _ _ => ok3_nil
  | succ n ih => exact fun c h => ok3_app (h c (by omega) (by omega)) (ih (c + 1) (fun k k1 k2 => h k (by omega) (by omega)))
theorem catT_len {f : Int → List (Int × Int × Int)} {B : Nat} (h : ∀ c, (f c).length ≤ B) : ∀ n c, (catT f n c).length ≤ n * B := by
  intro n
  induction n with
  | zero => exact fun _ => Nat.zero_le _
  | succ n ih =>
    intro c
    have h1 := h c
    have h2 := ih (c + 1)
    have e : (n + 1) * B = n * B + B := Nat.succ_mul n B
    show (f c ++ catT f n (c + 1)).length ≤ (n + 1) * B
    rw [List.length_append, e]
    omega
def colT (s : Int) (cl : Int → Int) (D : Int → Int → Bool) (r k : Int) : List (Int × Int × Int) := if D r (cl (5 * s + k)) = true then [(s, r, cl (5 * s + k))] else []
def rwT (s : Int) (cl : Int → Int) (D : Int → Int → Bool) (w : Nat) (r : Int) : List (Int × Int × Int) := catT (fun k => colT s cl D r k) w 0
def secT (s h cnt : Int) (cl : Int → Int) (D : Int → Int → Bool) (w m : Nat) : List (Int × Int × Int) := (if h = cnt then [] else [(s, -1, -1)]) ++ catT (fun r => rwT s cl D w r) m 0
theorem colT_len (s : Int) (cl : Int → Int) (D : Int → Int → Bool) (r k : Int) : (colT s cl D r k).length ≤ 1 := by
  unfold colT
  split
  · exact Nat.le_refl _
  · exact Nat.zero_le _
theorem secT_len {s h cnt : Int} {cl : Int → Int} {D : Int → Int → Bool} {w m : Nat} (hw : w ≤ 5) (hm : m ≤ 12) : (secT s h cnt cl D w m).length ≤ 61 := by
  have h2 : ∀ r, (rwT s cl D w r).length ≤ 5 := fun r => by
    have := catT_len (f := fun k => colT s cl D r k) (B := 1) (fun k => colT_len _ _ _ _ _) w 0
    unfold rwT
    omega
  have h3 := catT_len (f := fun r => rwT s cl D w r) (B := 5) h2 m 0
  unfold secT
  rw [List.length_append]
  split
  · show 0 + _ ≤ 61
    omega
  · show 1 + _ ≤ 61
    omega
theorem secT_ok {s h cnt : Int} {cl : Int → Int} {D : Int → Int → Bool} {w m : Nat} (hs : 0 ≤ s ∧ s < 6) (hm : m ≤ 12) (hc : ∀ k, 0 ≤ k → k < (w : Int) → 0 ≤ cl (5 * s + k) ∧ cl (5 * s + k) < 5) : ok3 (secT s h cnt cl D w m) := by
  unfold secT
  refine ok3_app ?_ (catT_ok _ _ (fun r r1 r2 => catT_ok _ _ (fun k k1 k2 => ?_)))
  · split
    · exact ok3_nil
    · exact ok3_one ⟨(show ai_r s from ⟨by omega, by omega⟩), (show ai_r (-1) from ⟨by decide, by decide⟩), (show ai_r (-1) from ⟨by decide, by decide⟩)⟩
  · have := hc k k1 (by omega)
    unfold colT
    split
    · exact ok3_one ⟨(show ai_r s from ⟨by omega, by omega⟩), (show ai_r r from ⟨by omega, by omega⟩), (show ai_r (cl (5 * s + k)) from ⟨by omega, by omega⟩)⟩
    · exact ok3_nil
def X3 (σ : ai_S) (n : Int) (P A : Int → Int) : ai_S := up (up (ai_set σ 36 0 n) 37 P) 38 A
def Y3 (σ : ai_S) (n : Int) (P A : Int → Int) : ai_S := up (up (ai_set σ 59 41 n) 88 P) 89 A
theorem cf_add3 {sc : Int × (Int → Int)} {σ : ai_S} {n s r c : Int} {P A : Int → Int} (hn : 0 ≤ n ∧ n ≤ 1000) : fn sc 29 [some (.inr (.inr 36)), some (.inl s), some (.inl r), some (.inl c)] (X3 σ n P A) none (X3 σ (n + 1) (add3 P n s r c) A) := by
  intro Q hQ
  unfold add3 at hQ
  by_cases h : 20 ≤ n
  · rw [if_pos h] at hQ
    refine rb_29_0 ⟨⟨(show ai_r n from ⟨by omega, by omega⟩), ⟨by decide, by decide⟩⟩, fun _ => ?_, fun q => absurd h q⟩
    show Q (.inl none, (92, [], ai_set (up (up (ai_set σ 36 0 n) 37 P) 38 A) 36 0 (n + 1)))
    rw [up_c (p := 38) (q := 36) (by decide), up_c (p := 37) (q := 36) (by decide), set_set]
    exact hQ
  · rw [if_neg h] at hQ
    refine rb_29_0 ⟨⟨(show ai_r n from ⟨by omega, by omega⟩), ⟨by decide, by decide⟩⟩, fun q => absurd q h, fun _ => ⟨(show 0 ≤ n * 3 ∧ n * 3 < 60 from ⟨by omega, by omega⟩), (show 0 ≤ n * 3 + 1 ∧ n * 3 + 1 < 60 from ⟨by omega, by omega⟩), (show 0 ≤ n * 3 + 2 ∧ n * 3 + 2 < 60 from ⟨by omega, by omega⟩), ?_⟩⟩
    show Q (.inl none, (92, [], ai_set (ai_set (ai_set (ai_set (up (up (ai_set σ 36 0 n) 37 P) 38 A) 37 (n * 3) s) 37 (n * 3 + 1) r) 37 (n * 3 + 2) c) 36 0 (n + 1)))
    rw [up_c (p := 38) (q := 37) (by decide), up_s, up_c (p := 38) (q := 37) (by decide), up_s, up_c (p := 38) (q := 37) (by decide), up_s, up_c (p := 38) (q := 36) (by decide), up_c (p := 37) (q := 36) (by decide), set_set]
    exact hQ
theorem rf_add3 {sc : Int × (Int → Int)} {σ : ai_S} {n s r c : Int} {P A : Int → Int} (hn : 0 ≤ n ∧ n ≤ 1000) : fn sc 180 [some (.inr (.inr 59)), some (.inl s), some (.inl r), some (.inl c)] (Y3 σ n P A) none (Y3 σ (n + 1) (add3 P n s r c) A) := by
  intro Q hQ
  unfold add3 at hQ
  by_cases h : 20 ≤ n
  · rw [if_pos h] at hQ
    refine rb_180_0 ⟨⟨(show ai_r n from ⟨by omega, by omega⟩), ⟨by decide, by decide⟩⟩, fun _ => ?_, fun q => absurd h q⟩
    show Q (.inl none, (92, [], ai_set (up (up (ai_set σ 59 41 n) 88 P) 89 A) 59 41 (n + 1)))
    rw [up_c (p := 89) (q := 59) (by decide), up_c (p := 88) (q := 59) (by decide), set_set]
    exact hQ
  · rw [if_neg h] at hQ
    refine rb_180_0 ⟨⟨(show ai_r n from ⟨by omega, by omega⟩), ⟨by decide, by decide⟩⟩, fun q => absurd q h, fun _ => ⟨(show 0 ≤ 3 * n ∧ 3 * n < 60 from ⟨by omega, by omega⟩), (show 0 ≤ 3 * n + 1 ∧ 3 * n + 1 < 60 from ⟨by omega, by omega⟩), (show 0 ≤ 3 * n + 2 ∧ 3 * n + 2 < 60 from ⟨by omega, by omega⟩), ?_⟩⟩
    show Q (.inl none, (92, [], ai_set (ai_set (ai_set (ai_set (up (up (ai_set σ 59 41 n) 88 P) 89 A) 88 (3 * n) s) 88 (3 * n + 1) r) 88 (3 * n + 2) c) 59 41 (n + 1)))
    rw [show 3 * n = n * 3 by omega, up_c (p := 89) (q := 88) (by decide), up_s, up_c (p := 89) (q := 88) (by decide), up_s, up_c (p := 89) (q := 88) (by decide), up_s, up_c (p := 89) (q := 59) (by decide), up_c (p := 88) (q := 59) (by decide), set_set]
    exact hQ
def cD (sc : Int × (Int → Int)) (σ : ai_S) (A : Int → Int) (m i : Nat) (ls : ai_L) (L : List (Int × Int × Int)) : Prop := ∀ (Q : ai_O → Prop) P n, 0 ≤ n → n + (L.length : Int) ≤ 1000 → Q (.inl none, (92, [], X3 σ (n + (L.length : Int)) (dl3 L n P) A)) → ai_wp sc m i ls [] (0, 0) (92, [], X3 σ n P A) Q
def rD (sc : Int × (Int → Int)) (σ : ai_S) (A : Int → Int) (m i : Nat) (ls : ai_L) (L : List (Int × Int × Int)) : Prop := ∀ (Q : ai_O → Prop) P n, 0 ≤ n → n + (L.length : Int) ≤ 1000 → Q (.inl none, (92, [], Y3 σ (n + (L.length : Int)) (dl3 L n P) A)) → ai_wp sc m i ls [] (0, 0) (92, [], Y3 σ n P A) Q
theorem cD_add {sc : Int × (Int → Int)} {σ : ai_S} {A : Int → Int} {m i i' : Nat} {ls ls' : ai_L} {M : List (Int × Int × Int)} {s r c : Int} (g : cD sc σ A m i' ls' M)
    (row : ∀ (P : Int → Int) (n : Int) (Q : ai_O → Prop), ai_ret (ai_wp sc) 29 [some (.inr (.inr 36)), some (.inl s), some (.inl r), some (.inl c)] (92, [], X3 σ n P A) (fun v h' => ai_ck (ai_zz 92 h'.1 0) (ai_wp sc m i' ls' (v.toList ++ []) (0, 0) h' Q)) → ai_wp sc m i ls [] (0, 0) (92, [], X3 σ n P A) Q) : cD sc σ A m i ls ([(s, r, c)] ++ M) := by
  intro Q P n h0 h1 hQ
  have h2 : n + ((M.length + 1 : Nat) : Int) ≤ 1000 := h1
  refine row _ _ _ (fn_ret (cf_add3 ⟨h0, by omega⟩) ?_)
  refine g Q _ _ (by omega) (by omega) ?_
  rw [show n + 1 + (M.length : Int) = n + (([(s, r, c)] ++ M).length : Int) from by
    show n + 1 + (M.length : Int) = n + ((M.length + 1 : Nat) : Int)
    omega]
  exact hQ
theorem rD_add {sc : Int × (Int → Int)} {σ : ai_S} {A : Int → Int} {m i i' : Nat} {ls ls' : ai_L} {M : List (Int × Int × Int)} {s r c : Int} (g : rD sc σ A m i' ls' M)
    (row : ∀ (P : Int → Int) (n : Int) (Q : ai_O → Prop), ai_ret (ai_wp sc) 180 [some (.inr (.inr 59)), some (.inl s), some (.inl r), some (.inl c)] (92, [], Y3 σ n P A) (fun v h' => ai_ck (ai_zz 92 h'.1 0) (ai_wp sc m i' ls' (v.toList ++ []) (0, 0) h' Q)) → ai_wp sc m i ls [] (0, 0) (92, [], Y3 σ n P A) Q) : rD sc σ A m i ls ([(s, r, c)] ++ M) := by
  intro Q P n h0 h1 hQ
  have h2 : n + ((M.length + 1 : Nat) : Int) ≤ 1000 := h1
  refine row _ _ _ (fn_ret (rf_add3 ⟨h0, by omega⟩) ?_)
  refine g Q _ _ (by omega) (by omega) ?_
  rw [show n + 1 + (M.length : Int) = n + (([(s, r, c)] ++ M).length : Int) from by
    show n + 1 + (M.length : Int) = n + ((M.length + 1 : Nat) : Int)
    omega]
  exact hQ
theorem cD_nil {sc : Int × (Int → Int)} {σ : ai_S} {A : Int → Int} {m i i' : Nat} {ls ls' : ai_L} {M : List (Int × Int × Int)} (g : cD sc σ A m i' ls' M) (row : ∀ (P : Int → Int) (n : Int) (Q : ai_O → Prop), ai_wp sc m i' ls' [] (0, 0) (92, [], X3 σ n P A) Q → ai_wp sc m i ls [] (0, 0) (92, [], X3 σ n P A) Q) : cD sc σ A m i ls M := fun Q P n h0 h1 hQ => row _ _ _ (g Q P n h0 h1 hQ)
theorem rD_nil {sc : Int × (Int → Int)} {σ : ai_S} {A : Int → Int} {m i i' : Nat} {ls ls' : ai_L} {M : List (Int × Int × Int)} (g : rD sc σ A m i' ls' M) (row : ∀ (P : Int → Int) (n : Int) (Q : ai_O → Prop), ai_wp sc m i' ls' [] (0, 0) (92, [], Y3 σ n P A) Q → ai_wp sc m i ls [] (0, 0) (92, [], Y3 σ n P A) Q) : rD sc σ A m i ls M := fun Q P n h0 h1 hQ => row _ _ _ (g Q P n h0 h1 hQ)
