/-! BEGIN AND ROLLBACK. -/
def up (σ : ai_S) (p : Nat) (f : Int → Int) : ai_S := fun q => if q = p then f else σ q
theorem up_s {σ : ai_S} {p : Nat} {f : Int → Int} {i v : Int} : ai_set (up σ p f) p i v = up σ p (fun j => if j = i then v else f j) := by
  funext r j
  by_cases h : r = p
  · subst h
    simp [ai_set, up]
  · simp [ai_set, up, h]
theorem up_c {σ : ai_S} {p q : Nat} {f : Int → Int} {i v : Int} (hp : q ≠ p) : ai_set (up σ p f) q i v = up (ai_set σ q i v) p f := by
  funext r j
  by_cases h : r = p
  · subst h
    simp [ai_set, up, Ne.symm hp]
  · simp [ai_set, up, h]
theorem up_id {σ : ai_S} {p : Nat} : up σ p (σ p) = σ := by
  funext r
  by_cases h : r = p
  · subst h
    simp [up]
  · simp [up, h]
theorem up_e {σ : ai_S} {p : Nat} {f : Int → Int} (h : f = σ p) : up σ p f = σ := by
  subst h
  exact up_id
/-- f with n values of g laid at a -/
def cpf (f g : Int → Int) (a n : Int) : Int → Int := fun j => if a ≤ j ∧ j < a + n then g (j - a) else f j
theorem cpf_0 {f g : Int → Int} {a : Int} : cpf f g a 0 = f := by
  funext j
  unfold cpf
  exact if_neg (by omega)
theorem cpf_s {f g : Int → Int} {a n : Int} (hn : 0 ≤ n) : (fun j => if j = a + n then g n else cpf f g a n j) = cpf f g a (n + 1) := by
  funext j
  unfold cpf
  by_cases h : j = a + n
  · rw [if_pos h, if_pos (by omega), show j - a = n by omega]
  · rw [if_neg h]
    by_cases h2 : a ≤ j ∧ j < a + n
    · rw [if_pos h2, if_pos (by omega)]
    · rw [if_neg h2, if_neg (by omega)]
/-- f with n values of g from a on laid at 0 -/
def cpg (f g : Int → Int) (a n : Int) : Int → Int := fun j => if 0 ≤ j ∧ j < n then g (a + j) else f j
theorem cpg_0 {f g : Int → Int} {a : Int} : cpg f g a 0 = f := by
  funext j
  unfold cpg
  exact if_neg (by omega)
theorem cpg_s {f g : Int → Int} {a n : Int} (hn : 0 ≤ n) : (fun j => if j = n then g (a + n) else cpg f g a n j) = cpg f g a (n + 1) := by
  funext j
  unfold cpg
  by_cases h : j = n
  · rw [if_pos h, if_pos (by omega), h]
  · rw [if_neg h]
    by_cases h2 : 0 ≤ j ∧ j < n
    · rw [if_pos h2, if_pos (by omega)]
    · rw [if_neg h2, if_neg (by omega)]
theorem rf_keep_2 {sc : Int × (Int → Int)} {σ : ai_S} {Q : ai_O → Prop} {s : Int} (hs : 0 ≤ s ∧ s < 4) (hQ : Q (.inl none, (92, [], ai_set (up (up (up σ 67 (cpf (σ 67) (σ 65) (300 * s) 300)) 68 (cpf (σ 68) (σ 66) (300 * s) 300)) 69 (cpf (σ 69) (σ 64) (5 * s) 5)) 70 s (σ 59 14)))) :
    ∀ (n : Nat) (v : Int), 0 ≤ v ∧ v ≤ 5 → (5 - v).toNat = n → ai_wp sc 153 33 [some (.inr (.inr 59)), some (.inl s), some (.inl v)] [] (0, 0) (92, [], (up (up (up σ 67 (cpf (σ 67) (σ 65) (300 * s) 300)) 68 (cpf (σ 68) (σ 66) (300 * s) 300)) 69 (cpf (σ 69) (σ 64) (5 * s) v))) Q := by
  intro n
  induction n with
  | zero =>
    intro v hv hn
    have e : v = 5 := by omega
    subst e
    exact rb_153_33 ⟨⟨⟨by decide, by decide⟩, ⟨by decide, by decide⟩⟩, fun _ => ⟨hs, hQ⟩, fun h => absurd (by decide) h⟩
  | succ n ih =>
    intro v hv hn
    refine rb_153_33 ⟨⟨⟨by omega, by omega⟩, ⟨by decide, by decide⟩⟩, fun h => absurd h (by omega), fun _ => ⟨⟨by omega, by omega⟩, ⟨by omega, by omega⟩, ?_⟩⟩
    have h := ih (v + 1) (by omega) (by omega)
    rw [← cpf_s hv.1] at h
    rw [up_s]
    exact h
theorem rf_keep {sc : Int × (Int → Int)} {σ : ai_S} {s : Int} (hs : 0 ≤ s ∧ s < 4) (hb : ∀ j, 0 ≤ j → j < 300 → 0 ≤ σ 66 j ∧ σ 66 j ≤ 1) : fn sc 153 [some (.inr (.inr 59)), some (.inl s), none] σ none (ai_set (up (up (up σ 67 (cpf (σ 67) (σ 65) (300 * s) 300)) 68 (cpf (σ 68) (σ 66) (300 * s) 300)) 69 (cpf (σ 69) (σ 64) (5 * s) 5)) 70 s (σ 59 14)) := by
  intro Q hQ
  have h2 := rf_keep_2 (sc := sc) hs hQ 5 0 (by omega) (by omega)
  rw [cpf_0, up_e (show σ 69 = (up (up σ 67 (cpf (σ 67) (σ 65) (300 * s) 300)) 68 (cpf (σ 68) (σ 66) (300 * s) 300)) 69 from rfl)] at h2
  have h1 : ∀ (n : Nat) (v : Int), 0 ≤ v ∧ v ≤ 300 → (300 - v).toNat = n → ai_wp sc 153 2 [some (.inr (.inr 59)), some (.inl s), some (.inl v)] [] (0, 0) (92, [], (up (up σ 67 (cpf (σ 67) (σ 65) (300 * s) v)) 68 (cpf (σ 68) (σ 66) (300 * s) v))) Q := by
    intro n
    induction n with
    | zero =>
      intro v hv hn
      have e : v = 300 := by omega
      subst e
      exact rb_153_2 ⟨⟨⟨by decide, by decide⟩, ⟨by decide, by decide⟩⟩, fun _ => h2, fun h => absurd (by decide) h⟩
    | succ n ih =>
      intro v hv hn
      refine rb_153_2 ⟨⟨⟨by omega, by omega⟩, ⟨by decide, by decide⟩⟩, fun h => absurd h (by omega), fun _ => ⟨⟨by omega, by omega⟩, ⟨by omega, by omega⟩, ⟨by omega, by omega⟩, ⟨by omega, by omega⟩, hb v (by omega) (by omega), ?_⟩⟩
      have h := ih (v + 1) (by omega) (by omega)
      rw [← cpf_s hv.1, ← cpf_s hv.1] at h
      rw [up_c (p := 68) (q := 67) (by decide), up_s, up_s]
      exact h
  have h0 := h1 300 0 (by omega) (by omega)
  rw [cpf_0, cpf_0, up_e (p := 67) (σ := σ) rfl, up_e (p := 68) (σ := σ) rfl] at h0
  exact rb_153_0 h0
theorem rf_undo_2 {sc : Int × (Int → Int)} {σ : ai_S} {Q : ai_O → Prop} {s : Int} (hs : 0 ≤ s ∧ s < 4) (hT : 0 ≤ σ 59 1 ∧ σ 59 1 ≤ 5) (hQ : Q (.inl none, (92, [], ai_set (up (up (up σ 65 (cpg (σ 65) (σ 67) (300 * s) 300)) 66 (cpg (σ 66) (σ 68) (300 * s) 300)) 64 (cpg (σ 64) (σ 69) (5 * s) (σ 59 1))) 59 14 (σ 70 s)))) :
    ∀ (n : Nat) (v : Int), 0 ≤ v ∧ v ≤ σ 59 1 → (σ 59 1 - v).toNat = n → ai_wp sc 154 33 [some (.inr (.inr 59)), some (.inl s), some (.inl v)] [] (0, 0) (92, [], (up (up (up σ 65 (cpg (σ 65) (σ 67) (300 * s) 300)) 66 (cpg (σ 66) (σ 68) (300 * s) 300)) 64 (cpg (σ 64) (σ 69) (5 * s) v))) Q := by
  intro n
  induction n with
  | zero =>
    intro v hv hn
    have e : v = σ 59 1 := by omega
    subst e
    exact rb_154_33 ⟨⟨⟨by omega, by omega⟩, (show ai_r (σ 59 1) from ⟨by omega, by omega⟩)⟩, fun _ => ⟨hs, hQ⟩, fun h => absurd (Int.le_refl (σ 59 1)) h⟩
  | succ n ih =>
    intro v hv hn
    refine rb_154_33 ⟨⟨⟨by omega, by omega⟩, (show ai_r (σ 59 1) from ⟨by omega, by omega⟩)⟩, fun h => absurd (show σ 59 1 ≤ v from h) (by omega), fun _ => ⟨⟨by omega, by omega⟩, ⟨by omega, by omega⟩, ?_⟩⟩
    have h := ih (v + 1) (by omega) (by omega)
    rw [← cpg_s hv.1] at h
    rw [up_s]
    exact h
theorem rf_undo {sc : Int × (Int → Int)} {σ : ai_S} {s : Int} (hs : 0 ≤ s ∧ s < 4) (hT : 0 ≤ σ 59 1 ∧ σ 59 1 ≤ 5) (hb : ∀ j, 0 ≤ j → j < 300 → 0 ≤ σ 68 (300 * s + j) ∧ σ 68 (300 * s + j) ≤ 1) : fn sc 154 [some (.inr (.inr 59)), some (.inl s), none] σ none (ai_set (up (up (up σ 65 (cpg (σ 65) (σ 67) (300 * s) 300)) 66 (cpg (σ 66) (σ 68) (300 * s) 300)) 64 (cpg (σ 64) (σ 69) (5 * s) (σ 59 1))) 59 14 (σ 70 s)) := by
  intro Q hQ
  have h2 := rf_undo_2 (sc := sc) hs hT hQ _ 0 (by omega) rfl
  rw [cpg_0, up_e (show σ 64 = (up (up σ 65 (cpg (σ 65) (σ 67) (300 * s) 300)) 66 (cpg (σ 66) (σ 68) (300 * s) 300)) 64 from rfl)] at h2
  have h1 : ∀ (n : Nat) (v : Int), 0 ≤ v ∧ v ≤ 300 → (300 - v).toNat = n → ai_wp sc 154 2 [some (.inr (.inr 59)), some (.inl s), some (.inl v)] [] (0, 0) (92, [], (up (up σ 65 (cpg (σ 65) (σ 67) (300 * s) v)) 66 (cpg (σ 66) (σ 68) (300 * s) v))) Q := by
    intro n
    induction n with
    | zero =>
      intro v hv hn
      have e : v = 300 := by omega
      subst e
      exact rb_154_2 ⟨⟨⟨by decide, by decide⟩, ⟨by decide, by decide⟩⟩, fun _ => h2, fun h => absurd (by decide) h⟩
    | succ n ih =>
      intro v hv hn
      refine rb_154_2 ⟨⟨⟨by omega, by omega⟩, ⟨by decide, by decide⟩⟩, fun h => absurd h (by omega), fun _ => ⟨⟨by omega, by omega⟩, ⟨by omega, by omega⟩, ⟨by omega, by omega⟩, ⟨by omega, by omega⟩, hb v (by omega) (by omega), ?_⟩⟩
      have h := ih (v + 1) (by omega) (by omega)
      rw [← cpg_s hv.1, ← cpg_s hv.1] at h
      rw [up_c (p := 66) (q := 65) (by decide), up_s, up_s]
      exact h
  have h0 := h1 300 0 (by omega) (by omega)
  rw [cpg_0, cpg_0, up_e (p := 65) (σ := σ) rfl, up_e (p := 66) (σ := σ) rfl] at h0
  exact rb_154_0 h0
theorem rf_begin0 {sc : Int × (Int → Int)} {σ : ai_S} {s : Int} (h0 : σ 59 13 = s) (hs : s = 0) (hb : ∀ j, 0 ≤ j → j < 300 → 0 ≤ σ 66 j ∧ σ 66 j ≤ 1) : fn sc 155 [some (.inr (.inr 59))] σ (some (.inl (s + 1))) (ai_set (ai_set (up (up (up (ai_set (ai_set σ 59 0 0) 59 14 0) 67 (cpf (σ 67) (σ 65) (300 * s) 300)) 68 (cpf (σ 68) (σ 66) (300 * s) 300)) 69 (cpf (σ 69) (σ 64) (5 * s) 5)) 70 s 0) 59 13 (s + 1)) := by
  subst h0
  intro Q hQ
  exact rb_155_0 ⟨⟨⟨by omega, by omega⟩, ⟨by decide, by decide⟩⟩, fun _ => ⟨⟨by decide, by decide⟩, fun _ => ⟨⟨by omega, by omega⟩, fun h => absurd hs h, fun _ => fn_ret (rf_keep (σ := ai_set (ai_set σ 59 0 0) 59 14 0) ⟨by omega, by omega⟩ hb) (rb_155_24 hQ)⟩, fun h => absurd (by decide) h⟩, fun h => absurd (show ¬ σ 59 13 = 3 by omega) h⟩
theorem rf_begin1 {sc : Int × (Int → Int)} {σ : ai_S} {s : Int} (h0 : σ 59 13 = s) (hs : 0 < s ∧ s < 3) (hb : ∀ j, 0 ≤ j → j < 300 → 0 ≤ σ 66 j ∧ σ 66 j ≤ 1) : fn sc 155 [some (.inr (.inr 59))] σ (some (.inl (s + 1))) (ai_set (ai_set (up (up (up (ai_set σ 59 0 0) 67 (cpf (σ 67) (σ 65) (300 * s) 300)) 68 (cpf (σ 68) (σ 66) (300 * s) 300)) 69 (cpf (σ 69) (σ 64) (5 * s) 5)) 70 s (σ 59 14)) 59 13 (s + 1)) := by
  subst h0
  intro Q hQ
  exact rb_155_0 ⟨⟨⟨by omega, by omega⟩, ⟨by decide, by decide⟩⟩, fun _ => ⟨⟨by decide, by decide⟩, fun _ => ⟨⟨by omega, by omega⟩, fun _ => fn_ret (rf_keep (σ := ai_set σ 59 0 0) ⟨by omega, by omega⟩ hb) (rb_155_24 hQ), fun h => absurd (show ¬ σ 59 13 = 0 by omega) h⟩, fun h => absurd (by decide) h⟩, fun h => absurd (show ¬ σ 59 13 = 3 by omega) h⟩
theorem rf_begin_x {sc : Int × (Int → Int)} {σ : ai_S} (h0 : σ 59 13 = 3) : fn sc 155 [some (.inr (.inr 59))] σ (some (.inl 0)) (ai_set σ 59 0 1) := by
  intro Q hQ
  exact rb_155_0 ⟨⟨⟨by omega, by omega⟩, ⟨by decide, by decide⟩⟩, fun h => absurd h0 h, fun _ => ⟨⟨by decide, by decide⟩, fun h => absurd h (by decide), fun _ => hQ⟩⟩
theorem rf_roll {sc : Int × (Int → Int)} {σ : ai_S} {s : Int} (h0 : σ 59 13 - 1 = s) (hs : 0 ≤ s ∧ s < 3) (hT : 0 ≤ σ 59 1 ∧ σ 59 1 ≤ 5) (hb : ∀ j, 0 ≤ j → j < 300 → 0 ≤ σ 68 (300 * s + j) ∧ σ 68 (300 * s + j) ≤ 1) : fn sc 157 [some (.inr (.inr 59))] σ (some (.inl s)) (ai_set (up (up (up (ai_set (ai_set σ 59 0 0) 59 13 s) 65 (cpg (σ 65) (σ 67) (300 * s) 300)) 66 (cpg (σ 66) (σ 68) (300 * s) 300)) 64 (cpg (σ 64) (σ 69) (5 * s) (σ 59 1))) 59 14 (σ 70 s)) := by
  subst h0
  intro Q hQ
  exact rb_157_0 ⟨⟨by omega, by omega⟩, fun _ => ⟨⟨by decide, by decide⟩, fun _ => fn_ret (rf_undo (σ := ai_set (ai_set σ 59 0 0) 59 13 (σ 59 13 - 1)) ⟨by omega, by omega⟩ hT hb) (rb_157_23 hQ), fun h => absurd (by decide) h⟩, fun h => absurd (show ¬ σ 59 13 = 0 by omega) h⟩
theorem rf_roll_x {sc : Int × (Int → Int)} {σ : ai_S} (h0 : σ 59 13 = 0) : fn sc 157 [some (.inr (.inr 59))] σ (some (.inl 0)) (ai_set σ 59 0 1) := by
  intro Q hQ
  exact rb_157_0 ⟨⟨by omega, by omega⟩, fun h => absurd h0 h, fun _ => ⟨⟨by decide, by decide⟩, fun h => absurd h (by decide), fun _ => hQ⟩⟩
theorem cl_begin0 {sc : Int × (Int → Int)} {σ : ai_S} {s : Int} (hs : σ 12 0 = s) (h0 : s = 0) : fn sc 13 [some (.inr (.inr 0))] σ (some (.inl (s + 1))) (ai_set (ai_set (ai_cpy (ai_cpy (ai_cpy (ai_set σ 12 1 0) 9 15 0 0 5) 10 16 0 0 300) 11 17 0 0 60) 26 s 0) 12 0 (s + 1)) := by
  subst hs
  intro Q hQ
  have e : ai_rf 13 (σ 12 0).toNat = 14 := by
    rw [h0]
    rfl
  have hr : 0 ≤ σ 12 0 ∧ σ 12 0 < 3 := by omega
  refine rb_13_0 ⟨⟨⟨by omega, by omega⟩, ⟨by decide, by decide⟩⟩, fun _ => ai_ret_q (rb_69_0 ⟨⟨by omega, by omega⟩, fun h => absurd h0 h, fun _ => ⟨⟨by omega, by omega⟩, ?_⟩⟩), fun h => absurd (show ¬ σ 12 0 = 3 by omega) h⟩
  rw [e]
  exact rb_69_11_14 (ai_ret_q (rb_115_0_14_8 ⟨by decide, by decide, by decide, ai_k_in (rb_69_13_14 ⟨hr, ai_k_in (rb_13_18 hQ)⟩)⟩))
theorem cl_roll0 {sc : Int × (Int → Int)} {σ : ai_S} {s : Int} (hs : σ 12 0 - 1 = s) (h0 : s = 0) : fn sc 15 [some (.inr (.inr 0))] σ (some (.inl s)) (ai_set (ai_cpy (ai_cpy (ai_cpy (ai_set σ 12 0 s) 15 9 0 0 5) 16 10 0 0 300) 17 11 0 0 60) 12 1 (σ 26 s)) := by
  subst hs
  intro Q hQ
  have e : ai_rf 13 ((σ 12 0) - 1).toNat = 14 := by
    rw [h0]
    rfl
  have hr : 0 ≤ (σ 12 0) - 1 ∧ (σ 12 0) - 1 < 3 := by omega
  refine rb_15_0 ⟨⟨by omega, by omega⟩, fun _ => ai_ret_q (rb_71_0 ⟨hr, ?_⟩), fun h => absurd (show ¬ σ 12 0 = 0 by omega) h⟩
  rw [e]
  exact rb_71_12_14 (ai_ret_q (rb_115_0_8_14 ⟨by decide, by decide, by decide, ai_k_in (rb_71_13_14 ⟨hr, ai_k_in (rb_15_17 hQ)⟩)⟩))
theorem cl_begin1 {sc : Int × (Int → Int)} {σ : ai_S} {s : Int} (hs : σ 12 0 = s) (h0 : s = 1) : fn sc 13 [some (.inr (.inr 0))] σ (some (.inl (s + 1))) (ai_set (ai_set (ai_cpy (ai_cpy (ai_cpy σ 9 19 0 0 5) 10 20 0 0 300) 11 21 0 0 60) 26 s (σ 12 1)) 12 0 (s + 1)) := by
  subst hs
  intro Q hQ
  have e : ai_rf 13 (σ 12 0).toNat = 18 := by
    rw [h0]
    rfl
  have hr : 0 ≤ σ 12 0 ∧ σ 12 0 < 3 := by omega
  refine rb_13_0 ⟨⟨⟨by omega, by omega⟩, ⟨by decide, by decide⟩⟩, fun _ => ai_ret_q (rb_69_0 ⟨⟨by omega, by omega⟩, fun _ => ⟨⟨by omega, by omega⟩, ?_⟩, fun h => absurd (show ¬ σ 12 0 = 0 by omega) h⟩), fun h => absurd (show ¬ σ 12 0 = 3 by omega) h⟩
  rw [e]
  exact rb_69_11_18 (ai_ret_q (rb_115_0_18_8 ⟨by decide, by decide, by decide, ai_k_in (rb_69_13_18 ⟨hr, ai_k_in (rb_13_18 hQ)⟩)⟩))
theorem cl_roll1 {sc : Int × (Int → Int)} {σ : ai_S} {s : Int} (hs : σ 12 0 - 1 = s) (h0 : s = 1) : fn sc 15 [some (.inr (.inr 0))] σ (some (.inl s)) (ai_set (ai_cpy (ai_cpy (ai_cpy (ai_set σ 12 0 s) 19 9 0 0 5) 20 10 0 0 300) 21 11 0 0 60) 12 1 (σ 26 s)) := by
  subst hs
  intro Q hQ
  have e : ai_rf 13 ((σ 12 0) - 1).toNat = 18 := by
    rw [h0]
    rfl
  have hr : 0 ≤ (σ 12 0) - 1 ∧ (σ 12 0) - 1 < 3 := by omega
  refine rb_15_0 ⟨⟨by omega, by omega⟩, fun _ => ai_ret_q (rb_71_0 ⟨hr, ?_⟩), fun h => absurd (show ¬ σ 12 0 = 0 by omega) h⟩
  rw [e]
  exact rb_71_12_18 (ai_ret_q (rb_115_0_8_18 ⟨by decide, by decide, by decide, ai_k_in (rb_71_13_18 ⟨hr, ai_k_in (rb_15_17 hQ)⟩)⟩))
theorem cl_begin2 {sc : Int × (Int → Int)} {σ : ai_S} {s : Int} (hs : σ 12 0 = s) (h0 : s = 2) : fn sc 13 [some (.inr (.inr 0))] σ (some (.inl (s + 1))) (ai_set (ai_set (ai_cpy (ai_cpy (ai_cpy σ 9 23 0 0 5) 10 24 0 0 300) 11 25 0 0 60) 26 s (σ 12 1)) 12 0 (s + 1)) := by
  subst hs
  intro Q hQ
  have e : ai_rf 13 (σ 12 0).toNat = 22 := by
    rw [h0]
    rfl
  have hr : 0 ≤ σ 12 0 ∧ σ 12 0 < 3 := by omega
  refine rb_13_0 ⟨⟨⟨by omega, by omega⟩, ⟨by decide, by decide⟩⟩, fun _ => ai_ret_q (rb_69_0 ⟨⟨by omega, by omega⟩, fun _ => ⟨⟨by omega, by omega⟩, ?_⟩, fun h => absurd (show ¬ σ 12 0 = 0 by omega) h⟩), fun h => absurd (show ¬ σ 12 0 = 3 by omega) h⟩
  rw [e]
  exact rb_69_11_22 (ai_ret_q (rb_115_0_22_8 ⟨by decide, by decide, by decide, ai_k_in (rb_69_13_22 ⟨hr, ai_k_in (rb_13_18 hQ)⟩)⟩))
theorem cl_roll2 {sc : Int × (Int → Int)} {σ : ai_S} {s : Int} (hs : σ 12 0 - 1 = s) (h0 : s = 2) : fn sc 15 [some (.inr (.inr 0))] σ (some (.inl s)) (ai_set (ai_cpy (ai_cpy (ai_cpy (ai_set σ 12 0 s) 23 9 0 0 5) 24 10 0 0 300) 25 11 0 0 60) 12 1 (σ 26 s)) := by
  subst hs
  intro Q hQ
  have e : ai_rf 13 ((σ 12 0) - 1).toNat = 22 := by
    rw [h0]
    rfl
  have hr : 0 ≤ (σ 12 0) - 1 ∧ (σ 12 0) - 1 < 3 := by omega
  refine rb_15_0 ⟨⟨by omega, by omega⟩, fun _ => ai_ret_q (rb_71_0 ⟨hr, ?_⟩), fun h => absurd (show ¬ σ 12 0 = 0 by omega) h⟩
  rw [e]
  exact rb_71_12_22 (ai_ret_q (rb_115_0_8_22 ⟨by decide, by decide, by decide, ai_k_in (rb_71_13_22 ⟨hr, ai_k_in (rb_15_17 hQ)⟩)⟩))
theorem cl_begin_x {sc : Int × (Int → Int)} {σ : ai_S} (h0 : σ 12 0 = 3) : th sc 13 [some (.inr (.inr 0))] σ 0 σ := by
  intro Q hQ
  exact rb_13_0 ⟨⟨⟨by omega, by omega⟩, ⟨by decide, by decide⟩⟩, fun h => absurd h0 h, fun _ => hQ⟩
theorem cl_roll_x {sc : Int × (Int → Int)} {σ : ai_S} (h0 : σ 12 0 = 0) : th sc 15 [some (.inr (.inr 0))] σ 0 σ := by
  intro Q hQ
  exact rb_15_0 ⟨⟨by omega, by omega⟩, fun h => absurd h0 h, fun _ => hQ⟩
theorem GS_ext {T : Int} {w ty pa cn ce nu cn' ce' nu' : Int → Int} (h : GS T w ty pa cn ce nu) (hw : ∀ x, 0 ≤ w x ∧ w x ≤ 5) (hp : ∀ j, -1 ≤ pa j ∧ pa j < 5) (hT : 0 ≤ T ∧ T ≤ 5) (k1 : ∀ t, 0 ≤ t → t < 5 → cn' t = cn t) (k2 : ∀ j, 0 ≤ j → j < 300 → ce' j = ce j) (k3 : ∀ q, 0 ≤ q → q < 60 → nu' q = nu q) (b1 : ∀ t, 0 ≤ cn' t ∧ cn' t ≤ 12) (b2 : ∀ q, 0 ≤ nu' q ∧ nu' q < 32) (b3 : ∀ j, rg (ce' j)) : GS T w ty pa cn' ce' nu' := by
  obtain ⟨h1, h2, h3, h4, h5, h6, h7, h8⟩ := h
  refine ⟨b1, fun t q1 q2 => ?_, b2, b3, fun t r q q1 q2 q3 q4 q5 => ?_, fun t r c q1 q2 q3 q4 q5 q6 q7 => ?_, fun t r c q1 q2 q3 q4 q5 q6 q7 q8 => ?_, fun t r c q1 q2 q3 q4 q5 q6 => ?_⟩
  · by_cases ht : 0 ≤ t
    · rw [k1 t ht q2]
      exact h2 t q1 q2
    · exact absurd q1 (by omega)
  · rw [k1 t q1 q2] at q5
    have := h1 t
    rw [k2 _ (by omega) (by omega), k2 _ (by omega) (by omega)]
    exact h5 t r q q1 q2 q3 q4 q5
  · rw [k1 t q1 q2] at q4
    have := h1 t
    rw [k3 _ (by omega) (by omega)] at q7
    rw [k2 _ (by omega) (by omega)]
    exact h6 t r c q1 q2 q3 q4 q5 q6 q7
  · rw [k1 t q1 (by omega)] at q4
    have := h1 t
    have := hw t
    have hpp := hp (5 * t + c)
    have hcp := h1 (pa (5 * t + c))
    rw [k3 _ (by omega) (by omega)] at q8
    obtain ⟨q, e1, e2, e3⟩ := h7 t r c q1 q2 q3 q4 q5 q6 q7 q8
    refine ⟨q, e1, ?_, ?_⟩
    · rw [k1 _ (by omega) (by omega)]
      exact e2
    · rw [k2 _ (by omega) (by omega), k2 _ (by omega) (by omega)]
      exact e3
  · rw [k1 t q1 (by omega)] at q4
    have := h1 t
    have := hw t
    rw [k2 _ (by omega) (by omega)]
    exact h8 t r c q1 q2 q3 q4 q5 q6
theorem rsn_keep {i k x y : Int} {T : Int} {w ty pa cn ce nu om ov on sg ol mn vl no : Int → Int} (hi : 0 ≤ i ∧ i < k) (hk : k < 3) (h : EqN i cn ce nu om ov on ∧ GS T w ty pa cn ce nu ∧ ol i = sg i ∧ 0 ≤ sg i ∧ sg i ≤ 200) : EqN i cn ce nu (cpf om mn (5 * k) 5) (cpf ov vl (300 * k) 300) (cpf on no (300 * k) 300) ∧ GS T w ty pa cn ce nu ∧ (if i = k then x else ol i) = (if i = k then y else sg i) ∧ 0 ≤ (if i = k then y else sg i) ∧ (if i = k then y else sg i) ≤ 200 := by
  obtain ⟨⟨g1, g2, g3⟩, g4, g5⟩ := h
  have e : ¬ i = k := by omega
  simp only [if_neg e]
  refine ⟨⟨fun t q1 q2 => ?_, fun j q1 q2 => ?_, fun q c q1 q2 q3 q4 => ?_⟩, g4, g5⟩
  · unfold cpf
    rw [if_neg (by omega)]
    exact g1 t q1 q2
  · unfold cpf
    rw [if_neg (by omega)]
    exact g2 j q1 q2
  · unfold cpf
    rw [if_neg (by omega)]
    exact g3 q c q1 q2 q3 q4
theorem EqN_new {k : Int} {cn ce nu mn vl no om ov on dn de du : Int → Int} (h : EqS cn ce nu mn vl no) : EqN k (fun j => if 0 ≤ j ∧ j < 0 + 5 then cn (0 + (j - 0)) else dn j) (fun j => if 0 ≤ j ∧ j < 0 + 300 then ce (0 + (j - 0)) else de j) (fun j => if 0 ≤ j ∧ j < 0 + 60 then nu (0 + (j - 0)) else du j) (cpf om mn (5 * k) 5) (cpf ov vl (300 * k) 300) (cpf on no (300 * k) 300) := by
  obtain ⟨h1, h2, h3⟩ := h
  refine ⟨fun t q1 q2 => ?_, fun j q1 q2 => ?_, fun q c q1 q2 q3 q4 => ?_⟩
  · show (if 5 * k ≤ 5 * k + t ∧ 5 * k + t < 5 * k + 5 then mn (5 * k + t - 5 * k) else om (5 * k + t)) = (if 0 ≤ t ∧ t < 0 + 5 then cn (0 + (t - 0)) else dn t)
    rw [if_pos (by omega), if_pos (by omega), h1, show 5 * k + t - 5 * k = 0 + (t - 0) by omega]
  · show (if 300 * k ≤ 300 * k + j ∧ 300 * k + j < 300 * k + 300 then vl (300 * k + j - 300 * k) else ov (300 * k + j)) = (if 0 ≤ j ∧ j < 0 + 300 then ce (0 + (j - 0)) else de j)
    rw [if_pos (by omega), if_pos (by omega), h2, show 300 * k + j - 300 * k = 0 + (j - 0) by omega]
  · show (if 300 * k ≤ 300 * k + (5 * q + c) ∧ 300 * k + (5 * q + c) < 300 * k + 300 then no (300 * k + (5 * q + c) - 300 * k) else on (300 * k + (5 * q + c))) = bi (tb (if 0 ≤ q ∧ q < 0 + 60 then nu (0 + (q - 0)) else du q) c = true)
    rw [if_pos (by omega), if_pos (by omega), show 300 * k + (5 * q + c) - 300 * k = 5 * q + c by omega, show 0 + (q - 0) = q by omega]
    exact h3 q c q1 q2 q3 q4
theorem GS_copy {T : Int} {w ty pa cn ce nu dn de du : Int → Int} (h : GS T w ty pa cn ce nu) (hw : ∀ x, 0 ≤ w x ∧ w x ≤ 5) (hp : ∀ j, -1 ≤ pa j ∧ pa j < 5) (hT : 0 ≤ T ∧ T ≤ 5) (b1 : ∀ t, 0 ≤ dn t ∧ dn t ≤ 12) (b2 : ∀ q, 0 ≤ du q ∧ du q < 32) (b3 : ∀ j, rg (de j)) : GS T w ty pa (fun j => if 0 ≤ j ∧ j < 0 + 5 then cn (0 + (j - 0)) else dn j) (fun j => if 0 ≤ j ∧ j < 0 + 300 then ce (0 + (j - 0)) else de j) (fun j => if 0 ≤ j ∧ j < 0 + 60 then nu (0 + (j - 0)) else du j) := by
  refine GS_ext h hw hp hT (fun t q1 q2 => ?_) (fun j q1 q2 => ?_) (fun q q1 q2 => ?_) (fun t => ?_) (fun q => ?_) (fun j => ?_)
  · show (if 0 ≤ t ∧ t < 0 + 5 then cn (0 + (t - 0)) else dn t) = cn t
    rw [if_pos (by omega), show 0 + (t - 0) = t by omega]
  · show (if 0 ≤ j ∧ j < 0 + 300 then ce (0 + (j - 0)) else de j) = ce j
    rw [if_pos (by omega), show 0 + (j - 0) = j by omega]
  · show (if 0 ≤ q ∧ q < 0 + 60 then nu (0 + (q - 0)) else du q) = nu q
    rw [if_pos (by omega), show 0 + (q - 0) = q by omega]
  · show 0 ≤ (if 0 ≤ t ∧ t < 0 + 5 then cn (0 + (t - 0)) else dn t) ∧ (if 0 ≤ t ∧ t < 0 + 5 then cn (0 + (t - 0)) else dn t) ≤ 12
    split
    · exact h.1 _
    · exact b1 t
  · show 0 ≤ (if 0 ≤ q ∧ q < 0 + 60 then nu (0 + (q - 0)) else du q) ∧ (if 0 ≤ q ∧ q < 0 + 60 then nu (0 + (q - 0)) else du q) < 32
    split
    · exact h.2.2.1 _
    · exact b2 q
  · show rg (if 0 ≤ j ∧ j < 0 + 300 then ce (0 + (j - 0)) else de j)
    split
    · exact h.2.2.2.1 _
    · exact b3 j
theorem EqS_back {T i : Int} {cn ce nu mn vl no om ov on dn de du : Int → Int} (hT : 0 ≤ T ∧ T ≤ 5) (h : EqS cn ce nu mn vl no) (hn : EqN i dn de du om ov on) (z1 : ∀ t, T ≤ t → t < 5 → cn t = 0) (z2 : ∀ t, T ≤ t → t < 5 → dn t = 0) : EqS (fun j => if 0 ≤ j ∧ j < 0 + 5 then dn (0 + (j - 0)) else cn j) (fun j => if 0 ≤ j ∧ j < 0 + 300 then de (0 + (j - 0)) else ce j) (fun j => if 0 ≤ j ∧ j < 0 + 60 then du (0 + (j - 0)) else nu j) (cpg mn om (5 * i) T) (cpg vl ov (300 * i) 300) (cpg no on (300 * i) 300) := by
  obtain ⟨h1, h2, h3⟩ := h
  obtain ⟨g1, g2, g3⟩ := hn
  refine ⟨?_, ?_, fun q c q1 q2 q3 q4 => ?_⟩
  · funext j
    show (if 0 ≤ j ∧ j < T then om (5 * i + j) else mn j) = (if 0 ≤ j ∧ j < 0 + 5 then dn (0 + (j - 0)) else cn j)
    by_cases a1 : 0 ≤ j ∧ j < T
    · rw [if_pos a1, if_pos (by omega), show 0 + (j - 0) = j by omega]
      exact g1 j (by omega) (by omega)
    · rw [if_neg a1, h1]
      by_cases a2 : 0 ≤ j ∧ j < 0 + 5
      · rw [if_pos a2, show 0 + (j - 0) = j by omega, z1 j (by omega) (by omega), z2 j (by omega) (by omega)]
      · rw [if_neg a2]
  · funext j
    show (if 0 ≤ j ∧ j < 300 then ov (300 * i + j) else vl j) = (if 0 ≤ j ∧ j < 0 + 300 then de (0 + (j - 0)) else ce j)
    by_cases a1 : 0 ≤ j ∧ j < 300
    · rw [if_pos a1, if_pos (by omega), show 0 + (j - 0) = j by omega]
      exact g2 j (by omega) (by omega)
    · rw [if_neg a1, if_neg (by omega), h2]
  · show (if 0 ≤ 5 * q + c ∧ 5 * q + c < 300 then on (300 * i + (5 * q + c)) else no (5 * q + c)) = bi (tb (if 0 ≤ q ∧ q < 0 + 60 then du (0 + (q - 0)) else nu q) c = true)
    rw [if_pos (by omega), if_pos (by omega), show 0 + (q - 0) = q by omega]
    exact g3 q c q1 q2 q3 q4
theorem RBn_copy {cn ce nu dn de du : Int → Int} (h : RBn cn ce nu) (g : RBn dn de du) : RBn (fun j => if 0 ≤ j ∧ j < 0 + 5 then cn (0 + (j - 0)) else dn j) (fun j => if 0 ≤ j ∧ j < 0 + 300 then ce (0 + (j - 0)) else de j) (fun j => if 0 ≤ j ∧ j < 0 + 60 then nu (0 + (j - 0)) else du j) := by
  refine ⟨fun t => ?_, fun q => ?_, fun j => ?_⟩
  · show 0 ≤ (if 0 ≤ t ∧ t < 0 + 5 then cn (0 + (t - 0)) else dn t) ∧ (if 0 ≤ t ∧ t < 0 + 5 then cn (0 + (t - 0)) else dn t) ≤ 12
    split
    · exact h.1 _
    · exact g.1 t
  · show 0 ≤ (if 0 ≤ q ∧ q < 0 + 60 then nu (0 + (q - 0)) else du q) ∧ (if 0 ≤ q ∧ q < 0 + 60 then nu (0 + (q - 0)) else du q) < 32
    split
    · exact h.2.1 _
    · exact g.2.1 q
  · show rg (if 0 ≤ j ∧ j < 0 + 300 then ce (0 + (j - 0)) else de j)
    split
    · exact h.2.2 _
    · exact g.2.2 j
theorem rel_begin0 {σ : ai_S} (hR : Rel σ) (h0 : σ 12 0 = 0) : Rel (ai_set (ai_set (up (up (up (ai_set (ai_set (ai_set (ai_set (ai_set (ai_cpy (ai_cpy (ai_cpy (ai_set σ 12 1 0) 9 15 0 0 5) 10 16 0 0 300) 11 17 0 0 60) 26 0 0) 12 0 (0 + 1)) 91 0 (0 + 1)) 59 0 0) 59 14 0) 67 (cpf (σ 67) (σ 65) (300 * 0) 300)) 68 (cpf (σ 68) (σ 66) (300 * 0) 300)) 69 (cpf (σ 69) (σ 64) (5 * 0) 5)) 70 0 0) 59 13 (0 + 1)) := by
  obtain ⟨⟨s1, s2, s3, s4, s5, s6, s7, s8, s9, s10, s11, s12⟩, ⟨t1, t4⟩, ⟨l1, l2, l3⟩, n0, n1, n2, hX, hF, hD, hC, hW⟩ := hR
  exact ⟨⟨s1, s2, s3, s4, s5, s6, s7, s8, s9, s10, s11, s12⟩, ⟨t1, t4⟩, ⟨rfl, ⟨(show (0 : Int) ≤ 0 + 1 by decide), (show (0 + 1 : Int) ≤ 3 by decide)⟩, fun _ => ⟨rfl, (show (0 : Int) ≤ 0 by decide), (show (0 : Int) ≤ 200 by decide)⟩⟩, ⟨RBn_copy ⟨t4.1, t4.2.2.1, t4.2.2.2.1⟩ n0.1, fun _ => ⟨EqN_new t1, GS_copy t4 s8 s11 s2 n0.1.1 n0.1.2.1 n0.1.2.2, ⟨rfl, (show (0 : Int) ≤ 0 by decide), (show (0 : Int) ≤ 200 by decide)⟩⟩⟩, ⟨n1.1, fun q => absurd (show (1 : Int) < 0 + 1 from q) (by decide)⟩, ⟨n2.1, fun q => absurd (show (2 : Int) < 0 + 1 from q) (by decide)⟩, hX, hF, hD, hC, hW⟩
theorem rel_roll0 {σ : ai_S} (hR : Rel σ) (h0 : σ 12 0 - 1 = 0) : Rel (ai_set (up (up (up (ai_set (ai_set (ai_set (ai_set (ai_cpy (ai_cpy (ai_cpy (ai_set σ 12 0 0) 15 9 0 0 5) 16 10 0 0 300) 17 11 0 0 60) 12 1 (σ 26 0)) 91 0 0) 59 0 0) 59 13 0) 65 (cpg (σ 65) (σ 67) (300 * 0) 300)) 66 (cpg (σ 66) (σ 68) (300 * 0) 300)) 64 (cpg (σ 64) (σ 69) (5 * 0) (σ 59 1))) 59 14 (σ 70 0)) := by
  obtain ⟨⟨s1, s2, s3, s4, s5, s6, s7, s8, s9, s10, s11, s12⟩, ⟨t1, t4⟩, ⟨l1, l2, l3⟩, n0, n1, n2, hX, hF, hD, hC, hW⟩ := hR
  obtain ⟨g1, g2, g3⟩ := n0.2 (by omega)
  have he : EqS _ _ _ (cpg (σ 64) (σ 69) (5 * 0) (σ 59 1)) (cpg (σ 65) (σ 67) (300 * 0) 300) (cpg (σ 66) (σ 68) (300 * 0) 300) := EqS_back (by omega) t1 g1 (fun t q1 q2 => t4.2.1 t (by omega) q2) (fun t q1 q2 => g2.2.1 t (by omega) q2)
  exact ⟨⟨s1, s2, s3, s4, s5, s6, s7, s8, s9, s10, s11, s12⟩, ⟨he, GS_copy g2 s8 s11 s2 t4.1 t4.2.2.1 t4.2.2.2.1⟩, ⟨rfl, ⟨(show (0 : Int) ≤ 0 by decide), (show (0 : Int) ≤ 3 by decide)⟩, fun _ => g3⟩, ⟨n0.1, fun q => absurd (show (0 : Int) < 0 from q) (by decide)⟩, ⟨n1.1, fun q => absurd (show (1 : Int) < 0 from q) (by decide)⟩, ⟨n2.1, fun q => absurd (show (2 : Int) < 0 from q) (by decide)⟩, hX, hF, hD, hC, hW⟩
theorem rel_begin1 {σ : ai_S} (hR : Rel σ) (h0 : σ 12 0 = 1) : Rel (ai_set (ai_set (up (up (up (ai_set (ai_set (ai_set (ai_set (ai_cpy (ai_cpy (ai_cpy σ 9 19 0 0 5) 10 20 0 0 300) 11 21 0 0 60) 26 1 (σ 12 1)) 12 0 (1 + 1)) 91 0 (1 + 1)) 59 0 0) 67 (cpf (σ 67) (σ 65) (300 * 1) 300)) 68 (cpf (σ 68) (σ 66) (300 * 1) 300)) 69 (cpf (σ 69) (σ 64) (5 * 1) 5)) 70 1 (σ 59 14)) 59 13 (1 + 1)) := by
  obtain ⟨⟨s1, s2, s3, s4, s5, s6, s7, s8, s9, s10, s11, s12⟩, ⟨t1, t4⟩, ⟨l1, l2, l3⟩, n0, n1, n2, hX, hF, hD, hC, hW⟩ := hR
  exact ⟨⟨s1, s2, s3, s4, s5, s6, s7, s8, s9, s10, s11, s12⟩, ⟨t1, t4⟩, ⟨rfl, ⟨(show (0 : Int) ≤ 1 + 1 by decide), (show (1 + 1 : Int) ≤ 3 by decide)⟩, fun _ => l3 (by omega)⟩, ⟨n0.1, fun _ => rsn_keep (x := σ 59 14) (y := σ 12 1) (by decide) (by decide) (n0.2 (by omega))⟩, ⟨RBn_copy ⟨t4.1, t4.2.2.1, t4.2.2.2.1⟩ n1.1, fun _ => ⟨EqN_new t1, GS_copy t4 s8 s11 s2 n1.1.1 n1.1.2.1 n1.1.2.2, l3 (by omega)⟩⟩, ⟨n2.1, fun q => absurd (show (2 : Int) < 1 + 1 from q) (by decide)⟩, hX, hF, hD, hC, hW⟩
theorem rel_roll1 {σ : ai_S} (hR : Rel σ) (h0 : σ 12 0 - 1 = 1) : Rel (ai_set (up (up (up (ai_set (ai_set (ai_set (ai_set (ai_cpy (ai_cpy (ai_cpy (ai_set σ 12 0 1) 19 9 0 0 5) 20 10 0 0 300) 21 11 0 0 60) 12 1 (σ 26 1)) 91 0 1) 59 0 0) 59 13 1) 65 (cpg (σ 65) (σ 67) (300 * 1) 300)) 66 (cpg (σ 66) (σ 68) (300 * 1) 300)) 64 (cpg (σ 64) (σ 69) (5 * 1) (σ 59 1))) 59 14 (σ 70 1)) := by
  obtain ⟨⟨s1, s2, s3, s4, s5, s6, s7, s8, s9, s10, s11, s12⟩, ⟨t1, t4⟩, ⟨l1, l2, l3⟩, n0, n1, n2, hX, hF, hD, hC, hW⟩ := hR
  obtain ⟨g1, g2, g3⟩ := n1.2 (by omega)
  have he : EqS _ _ _ (cpg (σ 64) (σ 69) (5 * 1) (σ 59 1)) (cpg (σ 65) (σ 67) (300 * 1) 300) (cpg (σ 66) (σ 68) (300 * 1) 300) := EqS_back (by omega) t1 g1 (fun t q1 q2 => t4.2.1 t (by omega) q2) (fun t q1 q2 => g2.2.1 t (by omega) q2)
  exact ⟨⟨s1, s2, s3, s4, s5, s6, s7, s8, s9, s10, s11, s12⟩, ⟨he, GS_copy g2 s8 s11 s2 t4.1 t4.2.2.1 t4.2.2.2.1⟩, ⟨rfl, ⟨(show (0 : Int) ≤ 1 by decide), (show (1 : Int) ≤ 3 by decide)⟩, fun _ => g3⟩, ⟨n0.1, fun _ => n0.2 (by omega)⟩, ⟨n1.1, fun q => absurd (show (1 : Int) < 1 from q) (by decide)⟩, ⟨n2.1, fun q => absurd (show (2 : Int) < 1 from q) (by decide)⟩, hX, hF, hD, hC, hW⟩
theorem rel_begin2 {σ : ai_S} (hR : Rel σ) (h0 : σ 12 0 = 2) : Rel (ai_set (ai_set (up (up (up (ai_set (ai_set (ai_set (ai_set (ai_cpy (ai_cpy (ai_cpy σ 9 23 0 0 5) 10 24 0 0 300) 11 25 0 0 60) 26 2 (σ 12 1)) 12 0 (2 + 1)) 91 0 (2 + 1)) 59 0 0) 67 (cpf (σ 67) (σ 65) (300 * 2) 300)) 68 (cpf (σ 68) (σ 66) (300 * 2) 300)) 69 (cpf (σ 69) (σ 64) (5 * 2) 5)) 70 2 (σ 59 14)) 59 13 (2 + 1)) := by
  obtain ⟨⟨s1, s2, s3, s4, s5, s6, s7, s8, s9, s10, s11, s12⟩, ⟨t1, t4⟩, ⟨l1, l2, l3⟩, n0, n1, n2, hX, hF, hD, hC, hW⟩ := hR
  exact ⟨⟨s1, s2, s3, s4, s5, s6, s7, s8, s9, s10, s11, s12⟩, ⟨t1, t4⟩, ⟨rfl, ⟨(show (0 : Int) ≤ 2 + 1 by decide), (show (2 + 1 : Int) ≤ 3 by decide)⟩, fun _ => l3 (by omega)⟩, ⟨n0.1, fun _ => rsn_keep (x := σ 59 14) (y := σ 12 1) (by decide) (by decide) (n0.2 (by omega))⟩, ⟨n1.1, fun _ => rsn_keep (x := σ 59 14) (y := σ 12 1) (by decide) (by decide) (n1.2 (by omega))⟩, ⟨RBn_copy ⟨t4.1, t4.2.2.1, t4.2.2.2.1⟩ n2.1, fun _ => ⟨EqN_new t1, GS_copy t4 s8 s11 s2 n2.1.1 n2.1.2.1 n2.1.2.2, l3 (by omega)⟩⟩, hX, hF, hD, hC, hW⟩
theorem rel_roll2 {σ : ai_S} (hR : Rel σ) (h0 : σ 12 0 - 1 = 2) : Rel (ai_set (up (up (up (ai_set (ai_set (ai_set (ai_set (ai_cpy (ai_cpy (ai_cpy (ai_set σ 12 0 2) 23 9 0 0 5) 24 10 0 0 300) 25 11 0 0 60) 12 1 (σ 26 2)) 91 0 2) 59 0 0) 59 13 2) 65 (cpg (σ 65) (σ 67) (300 * 2) 300)) 66 (cpg (σ 66) (σ 68) (300 * 2) 300)) 64 (cpg (σ 64) (σ 69) (5 * 2) (σ 59 1))) 59 14 (σ 70 2)) := by
  obtain ⟨⟨s1, s2, s3, s4, s5, s6, s7, s8, s9, s10, s11, s12⟩, ⟨t1, t4⟩, ⟨l1, l2, l3⟩, n0, n1, n2, hX, hF, hD, hC, hW⟩ := hR
  obtain ⟨g1, g2, g3⟩ := n2.2 (by omega)
  have he : EqS _ _ _ (cpg (σ 64) (σ 69) (5 * 2) (σ 59 1)) (cpg (σ 65) (σ 67) (300 * 2) 300) (cpg (σ 66) (σ 68) (300 * 2) 300) := EqS_back (by omega) t1 g1 (fun t q1 q2 => t4.2.1 t (by omega) q2) (fun t q1 q2 => g2.2.1 t (by omega) q2)
  exact ⟨⟨s1, s2, s3, s4, s5, s6, s7, s8, s9, s10, s11, s12⟩, ⟨he, GS_copy g2 s8 s11 s2 t4.1 t4.2.2.1 t4.2.2.2.1⟩, ⟨rfl, ⟨(show (0 : Int) ≤ 2 by decide), (show (2 : Int) ≤ 3 by decide)⟩, fun _ => g3⟩, ⟨n0.1, fun _ => n0.2 (by omega)⟩, ⟨n1.1, fun _ => n1.2 (by omega)⟩, ⟨n2.1, fun q => absurd (show (2 : Int) < 2 from q) (by decide)⟩, hX, hF, hD, hC, hW⟩
theorem tn_begin {sc : Int × (Int → Int)} {σ : ai_S} (hR : Rel σ) : ∃ k x σ1 σ2, fn sc 199 [some (.inr (.inr 0)), some (.inr (.inr 91)), none] σ (some (.inl k)) σ1 ∧ fn sc 155 [some (.inr (.inr 59))] σ1 (some (.inl x)) σ2 ∧ σ2 59 0 = k ∧ (0 ≤ k ∧ k ≤ 3) ∧ ai_r x ∧ (k = 0 → σ2 91 0 = x) ∧ Rel σ2 := by
  obtain ⟨⟨s1, s2, s3, s4, s5, s6, s7, s8, s9, s10, s11, s12⟩, ⟨t1, t4⟩, ⟨l1, l2, l3⟩, n0, n1, n2, hX⟩ := id hR
  have hb : ∀ j, 0 ≤ j → j < 300 → 0 ≤ σ 66 j ∧ σ 66 j ≤ 1 := by
    intro j q1 q2
    have e := t1.2.2 (j / 5) (j % 5) (by omega) (by omega) (by omega) (by omega)
    rw [show 5 * (j / 5) + j % 5 = j by omega] at e
    rw [e]
    exact bi_01 _
  have hc : σ 12 0 = 0 ∨ σ 12 0 = 1 ∨ σ 12 0 = 2 ∨ σ 12 0 = 3 := by omega
  rcases hc with h | h | h | h
  · exact ⟨0, _, _, _, wv_199 (cl_begin0 h rfl) ⟨by decide, by decide⟩, rf_begin0 (σ := ai_set (ai_set (ai_set (ai_cpy (ai_cpy (ai_cpy (ai_set σ 12 1 0) 9 15 0 0 5) 10 16 0 0 300) 11 17 0 0 60) 26 0 0) 12 0 (0 + 1)) 91 0 (0 + 1)) (s := 0) (l1.trans h) rfl hb, rfl, ⟨by decide, by decide⟩, ⟨by decide, by decide⟩, fun _ => rfl, rel_begin0 hR h⟩
  · exact ⟨0, _, _, _, wv_199 (cl_begin1 h rfl) ⟨by decide, by decide⟩, rf_begin1 (σ := ai_set (ai_set (ai_set (ai_cpy (ai_cpy (ai_cpy σ 9 19 0 0 5) 10 20 0 0 300) 11 21 0 0 60) 26 1 (σ 12 1)) 12 0 (1 + 1)) 91 0 (1 + 1)) (s := 1) (l1.trans h) ⟨by decide, by decide⟩ hb, rfl, ⟨by decide, by decide⟩, ⟨by decide, by decide⟩, fun _ => rfl, rel_begin1 hR h⟩
  · exact ⟨0, _, _, _, wv_199 (cl_begin2 h rfl) ⟨by decide, by decide⟩, rf_begin1 (σ := ai_set (ai_set (ai_set (ai_cpy (ai_cpy (ai_cpy σ 9 23 0 0 5) 10 24 0 0 300) 11 25 0 0 60) 26 2 (σ 12 1)) 12 0 (2 + 1)) 91 0 (2 + 1)) (s := 2) (l1.trans h) ⟨by decide, by decide⟩ hb, rfl, ⟨by decide, by decide⟩, ⟨by decide, by decide⟩, fun _ => rfl, rel_begin2 hR h⟩
  · exact ⟨1, _, _, _, wx_199_0 (cl_begin_x h), rf_begin_x (l1.trans h), rfl, ⟨by decide, by decide⟩, ⟨by decide, by decide⟩, fun h => absurd h (by decide), rel_code hR⟩
theorem st_begin {sc : Int × (Int → Int)} {σ : ai_S} {Q : ai_O → Prop} {a b : Nat} {v4 : Int} (hab : a + 1 ≤ 601024 ∧ b + 6 ≤ 7293034) (hv : 0 ≤ v4 ∧ v4 ≤ sc.1 - 5) (hs : ∀ j, -2147483648 ≤ sc.2 j ∧ sc.2 j ≤ 2147483647) (hR : Rel σ) (K : Nxt sc Q v4 a b) : ai_wp sc 206 413 (lwL v4 none none none) [] (a, b) (92, [], σ) Q := by
  obtain ⟨k, x, σ1, σ2, hw, hm, hk, hkr, hx, ho, hR2⟩ := tn_begin (sc := sc) hR
  exact ar_begin hab hv hs hw hm hk hkr hx ho (K _ _ _ (Nat.le_refl _) (Nat.le_refl _) hR2)
theorem on_01 {i : Int} {cn ce nu om ov on : Int → Int} (h : EqN i cn ce nu om ov on) : ∀ j, 0 ≤ j → j < 300 → 0 ≤ on (300 * i + j) ∧ on (300 * i + j) ≤ 1 := by
  intro j q1 q2
  have e := h.2.2 (j / 5) (j % 5) (by omega) (by omega) (by omega) (by omega)
  rw [show 5 * (j / 5) + j % 5 = j by omega] at e
  rw [e]
  exact bi_01 _
theorem tn_roll {sc : Int × (Int → Int)} {σ : ai_S} (hR : Rel σ) : ∃ k x σ1 σ2, fn sc 201 [some (.inr (.inr 0)), some (.inr (.inr 91)), none] σ (some (.inl k)) σ1 ∧ fn sc 157 [some (.inr (.inr 59))] σ1 (some (.inl x)) σ2 ∧ σ2 59 0 = k ∧ (0 ≤ k ∧ k ≤ 3) ∧ ai_r x ∧ (k = 0 → σ2 91 0 = x) ∧ Rel σ2 := by
  obtain ⟨⟨s1, s2, s3, s4, s5, s6, s7, s8, s9, s10, s11, s12⟩, ⟨t1, t4⟩, ⟨l1, l2, l3⟩, n0, n1, n2, hX⟩ := id hR
  have hT : 0 ≤ σ 59 1 ∧ σ 59 1 ≤ 5 := by omega
  have hc : σ 12 0 = 0 ∨ σ 12 0 - 1 = 0 ∨ σ 12 0 - 1 = 1 ∨ σ 12 0 - 1 = 2 := by omega
  rcases hc with h | h | h | h
  · exact ⟨1, _, _, _, wx_201_0 (cl_roll_x h), rf_roll_x (l1.trans h), rfl, ⟨by decide, by decide⟩, ⟨by decide, by decide⟩, fun h => absurd h (by decide), rel_code hR⟩
  · exact ⟨0, _, _, _, wv_201 (cl_roll0 h rfl) ⟨by decide, by decide⟩, rf_roll (σ := ai_set (ai_set (ai_cpy (ai_cpy (ai_cpy (ai_set σ 12 0 0) 15 9 0 0 5) 16 10 0 0 300) 17 11 0 0 60) 12 1 (σ 26 0)) 91 0 0) (s := 0) ((show σ 59 13 - 1 = σ 12 0 - 1 by omega).trans h) ⟨by decide, by decide⟩ hT (on_01 (n0.2 (by omega)).1), rfl, ⟨by decide, by decide⟩, ⟨by decide, by decide⟩, fun _ => rfl, rel_roll0 hR h⟩
  · exact ⟨0, _, _, _, wv_201 (cl_roll1 h rfl) ⟨by decide, by decide⟩, rf_roll (σ := ai_set (ai_set (ai_cpy (ai_cpy (ai_cpy (ai_set σ 12 0 1) 19 9 0 0 5) 20 10 0 0 300) 21 11 0 0 60) 12 1 (σ 26 1)) 91 0 1) (s := 1) ((show σ 59 13 - 1 = σ 12 0 - 1 by omega).trans h) ⟨by decide, by decide⟩ hT (on_01 (n1.2 (by omega)).1), rfl, ⟨by decide, by decide⟩, ⟨by decide, by decide⟩, fun _ => rfl, rel_roll1 hR h⟩
  · exact ⟨0, _, _, _, wv_201 (cl_roll2 h rfl) ⟨by decide, by decide⟩, rf_roll (σ := ai_set (ai_set (ai_cpy (ai_cpy (ai_cpy (ai_set σ 12 0 2) 23 9 0 0 5) 24 10 0 0 300) 25 11 0 0 60) 12 1 (σ 26 2)) 91 0 2) (s := 2) ((show σ 59 13 - 1 = σ 12 0 - 1 by omega).trans h) ⟨by decide, by decide⟩ hT (on_01 (n2.2 (by omega)).1), rfl, ⟨by decide, by decide⟩, ⟨by decide, by decide⟩, fun _ => rfl, rel_roll2 hR h⟩
theorem st_rollback {sc : Int × (Int → Int)} {σ : ai_S} {Q : ai_O → Prop} {a b : Nat} {v4 : Int} (hab : a + 1 ≤ 601024 ∧ b + 6 ≤ 7293034) (hv : 0 ≤ v4 ∧ v4 ≤ sc.1 - 5) (hs : ∀ j, -2147483648 ≤ sc.2 j ∧ sc.2 j ≤ 2147483647) (hR : Rel σ) (K : Nxt sc Q v4 a b) : ai_wp sc 206 463 (lwL v4 none none none) [] (a, b) (92, [], σ) Q := by
  obtain ⟨k, x, σ1, σ2, hw, hm, hk, hkr, hx, ho, hR2⟩ := tn_roll (sc := sc) hR
  exact ar_rollback hab hv hs hw hm hk hkr hx ho (K _ _ _ (Nat.le_refl _) (Nat.le_refl _) hR2)
