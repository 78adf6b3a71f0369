/-! CONTRACTS: find, of the class and of the reference. -/
/-- r is the row of table t with that key, or -1 -/
def isRow (n : Int) (key : Int → Int) (x r : Int) : Prop := (r = -1 ∧ ∀ q, 0 ≤ q → q < n → ¬ key q = x) ∨ (0 ≤ r ∧ r < n ∧ key r = x)
theorem cf_find_at {sc : Int × (Int → Int)} {σ : ai_S} {Q : ai_O → Prop} {t x : Int} (ht : 0 ≤ t ∧ t < 5) (hc : 0 ≤ σ 9 t ∧ σ 9 t ≤ 12) (hr : ∀ j, ai_r8 (σ 10 j)) (hk : ai_r8 x) (hQ : ∀ r, isRow (σ 9 t) (fun q => σ 10 (60 * t + 5 * q)) x r → Q (.inl (some (.inl r)), (92, [], σ))) :
    ∀ (n : Nat) (v : Int), 0 ≤ v ∧ v ≤ σ 9 t → (σ 9 t - v).toNat = n → (∀ q, 0 ≤ q → q < v → ¬ σ 10 (60 * t + 5 * q) = x) → ai_wp sc 108 2 [some (.inr (.inr 8)), some (.inl t), some (.inr (.inl x)), none, some (.inl v)] [] (0, 0) (92, [], σ) Q := by
  intro n
  induction n with
  | zero =>
    intro v hv hn hq
    refine rb_108_2 ⟨ht, ⟨⟨by omega, by omega⟩, by omega, by omega⟩, fun _ => hQ _ (Or.inl ⟨rfl, fun q h1 h2 => hq q h1 (by omega)⟩), fun h => absurd h (by omega)⟩
  | succ n ih =>
    intro v hv hn hq
    have e : ((t * 12) + v) * 5 + 0 = 60 * t + 5 * v := by omega
    refine rb_108_2 ⟨ht, ⟨⟨by omega, by omega⟩, by omega, by omega⟩, fun h => absurd h (by omega), fun _ => ⟨⟨by omega, by omega⟩, ⟨hr _, hk⟩, cmp_r _ _, fun h => ?_, fun h => ?_⟩⟩
    · refine ih (v + 1) (by omega) (by omega) (fun q h1 h2 => ?_)
      by_cases hqv : q = v
      · subst hqv
        rw [e] at h
        exact fun h3 => h (cmp_eq.mpr h3)
      · exact hq q h1 (by omega)
    · rw [e] at h
      exact hQ _ (Or.inr ⟨hv.1, by omega, cmp_eq.mp (Decidable.not_not.mp h)⟩)
theorem cf_find {sc : Int × (Int → Int)} {σ : ai_S} {Q : ai_O → Prop} {t x : Int} (ht : 0 ≤ t ∧ t < 5) (hc : 0 ≤ σ 9 t ∧ σ 9 t ≤ 12) (hr : ∀ j, ai_r8 (σ 10 j)) (hk : ai_r8 x) (hQ : ∀ r, isRow (σ 9 t) (fun q => σ 10 (60 * t + 5 * q)) x r → Q (.inl (some (.inl r)), (92, [], σ))) :
    ai_wp sc 108 0 [some (.inr (.inr 8)), some (.inl t), some (.inr (.inl x)), none, none] [] (0, 0) (92, [], σ) Q :=
  rb_108_0 (cf_find_at ht hc hr hk hQ _ 0 (by omega) rfl (fun q h1 h2 => by omega))
theorem rf_find_at {sc : Int × (Int → Int)} {σ : ai_S} {Q : ai_O → Prop} {t x : Int} (ht : 0 ≤ t ∧ t < 5) (hc : 0 ≤ σ 64 t ∧ σ 64 t ≤ 12) (hr : ∀ j, ai_r8 (σ 65 j)) (hk : ai_r8 x) (hQ : ∀ r, isRow (σ 64 t) (fun q => σ 65 (60 * t + 5 * q)) x r → Q (.inl (some (.inl r)), (92, [], σ))) :
    ∀ (n : Nat) (v r : Int), 0 ≤ v ∧ v ≤ σ 64 t → (σ 64 t - v).toNat = n → isRow v (fun q => σ 65 (60 * t + 5 * q)) x r → ai_wp sc 159 4 [some (.inr (.inr 59)), some (.inl t), some (.inr (.inl x)), none, some (.inl r), some (.inl v)] [] (0, 0) (92, [], σ) Q := by
  intro n
  induction n with
  | zero =>
    intro v r hv hn hq
    have e : v = σ 64 t := by omega
    subst e
    exact rb_159_4 ⟨ht, ⟨⟨by omega, by omega⟩, by omega, by omega⟩, fun _ => hQ _ hq, fun h => absurd h (by omega)⟩
  | succ n ih =>
    intro v r hv hn hq
    refine rb_159_4 ⟨ht, ⟨⟨by omega, by omega⟩, by omega, by omega⟩, fun h => absurd h (by omega), fun _ => ⟨⟨by omega, by omega⟩, ⟨hr _, hk⟩, cmp_r _ _, fun h => ?_, fun h => ?_⟩⟩
    · refine ih (v + 1) r (by omega) (by omega) ?_
      rcases hq with ⟨h1, h2⟩ | ⟨h1, h2, h3⟩
      · refine Or.inl ⟨h1, fun q h3 h4 => ?_⟩
        by_cases hqv : q = v
        · subst hqv
          exact fun h3 => h (cmp_eq.mpr h3)
        · exact h2 q h3 (by omega)
      · exact Or.inr ⟨h1, by omega, h3⟩
    · exact ih (v + 1) v (by omega) (by omega) (Or.inr ⟨hv.1, by omega, cmp_eq.mp (Decidable.not_not.mp h)⟩)
theorem rf_find {sc : Int × (Int → Int)} {σ : ai_S} {Q : ai_O → Prop} {t x : Int} (ht : 0 ≤ t ∧ t < 5) (hc : 0 ≤ σ 64 t ∧ σ 64 t ≤ 12) (hr : ∀ j, ai_r8 (σ 65 j)) (hk : ai_r8 x) (hQ : ∀ r, isRow (σ 64 t) (fun q => σ 65 (60 * t + 5 * q)) x r → Q (.inl (some (.inl r)), (92, [], σ))) :
    ai_wp sc 159 0 [some (.inr (.inr 59)), some (.inl t), some (.inr (.inl x)), none, none, none] [] (0, 0) (92, [], σ) Q :=
  rb_159_0 (rf_find_at ht hc hr hk hQ _ 0 (-1) (by omega) rfl (Or.inl ⟨rfl, fun q h1 h2 => by omega⟩))
