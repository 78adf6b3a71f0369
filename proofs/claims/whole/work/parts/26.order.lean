/-! ORDER: the tables' sequence. -/
def Fr (w pa : Int → Int) (pl t : Int) : Prop := tb pl t = false ∧ ∀ c, 0 ≤ c → c < w t → pa (5 * t + c) = -1 ∨ pa (5 * t + c) = t ∨ tb pl (pa (5 * t + c)) = true
def isLst (T : Int) (w pa : Int → Int) (pl x : Int) : Prop := (x = -1 ∧ ∀ t, 0 ≤ t → t < T → ¬ Fr w pa pl t) ∨ (0 ≤ x ∧ x < T ∧ Fr w pa pl x ∧ ∀ t, 0 ≤ t → t < x → ¬ Fr w pa pl t)
theorem isLst_unique {T : Int} {w pa : Int → Int} {pl x y : Int} (h : isLst T w pa pl x) (g : isLst T w pa pl y) : x = y := by
  rcases h with ⟨h1, h2⟩ | ⟨h1, h2, h3, h4⟩
  · rcases g with ⟨g1, g2⟩ | ⟨g1, g2, g3, g4⟩
    · omega
    · exact absurd g3 (h2 y g1 g2)
  · rcases g with ⟨g1, g2⟩ | ⟨g1, g2, g3, g4⟩
    · exact absurd h3 (g2 x h1 h2)
    · have a1 : ¬ x < y := fun q => g4 x h1 q h3
      have a2 : ¬ y < x := fun q => h4 y g1 q g3
      omega
theorem isLst_total {T : Int} {w pa : Int → Int} {pl : Int} (hT : 0 ≤ T) : ∃ x, isLst T w pa pl x := by
  have h : ∀ n : Nat, (∀ t, 0 ≤ t → t < (n : Int) → ¬ Fr w pa pl t) ∨ ∃ x, 0 ≤ x ∧ x < (n : Int) ∧ Fr w pa pl x ∧ ∀ t, 0 ≤ t → t < x → ¬ Fr w pa pl t := by
    intro n
    induction n with
    | zero => exact Or.inl (fun t h1 h2 => absurd h2 (by omega))
    | succ n ih =>
      rcases ih with ih | ⟨x, x1, x2, x3, x4⟩
      · rcases Classical.em (Fr w pa pl (n : Int)) with hf | hf
        · exact Or.inr ⟨n, by omega, by omega, hf, ih⟩
        · refine Or.inl (fun t h1 h2 => ?_)
          by_cases e : t = (n : Int)
          · rw [e]
            exact hf
          · exact ih t h1 (by omega)
      · exact Or.inr ⟨x, x1, by omega, x3, x4⟩
  have e : ((T.toNat : Nat) : Int) = T := Int.toNat_of_nonneg hT
  rcases h T.toNat with h1 | ⟨x, x1, x2, x3, x4⟩
  · exact ⟨-1, Or.inl ⟨rfl, fun t q1 q2 => h1 t q1 (by omega)⟩⟩
  · exact ⟨x, Or.inr ⟨x1, by omega, x3, x4⟩⟩
def Arr (T : Int) (w pa : Int → Int) : Nat → Int → Int → (Int → Int) → Int → (Int → Int) → Prop
  | 0, _, _, f, b, g => b = 1 ∧ g = f
  | n + 1, k, pl, f, b, g => (isLst T w pa pl (-1) ∧ b = 0 ∧ g = f) ∨ ∃ x, isLst T w pa pl x ∧ 0 ≤ x ∧ Arr T w pa n (k + 1) (ai_or pl (ai_shl 1 x)) (fun j => if j = k then x else f j) b g
theorem Arr_unique {T : Int} {w pa : Int → Int} : ∀ {n : Nat} {k pl b b' : Int} {f g g' : Int → Int}, Arr T w pa n k pl f b g → Arr T w pa n k pl f b' g' → b = b' ∧ g = g' := by
  intro n
  induction n with
  | zero =>
    intro k pl b b' f g g' h h'
    exact ⟨h.1.trans h'.1.symm, h.2.trans h'.2.symm⟩
  | succ n ih =>
    intro k pl b b' f g g' h h'
    rcases h with ⟨h1, h2, h3⟩ | ⟨x, x1, x2, x3⟩
    · rcases h' with ⟨g1, g2, g3⟩ | ⟨y, y1, y2, y3⟩
      · exact ⟨h2.trans g2.symm, h3.trans g3.symm⟩
      · have := isLst_unique h1 y1
        omega
    · rcases h' with ⟨g1, g2, g3⟩ | ⟨y, y1, y2, y3⟩
      · have := isLst_unique g1 x1
        omega
      · have e := isLst_unique x1 y1
        subst e
        exact ih x3 y3
theorem Arr_total {T : Int} {w pa : Int → Int} (hT : 0 ≤ T) : ∀ (n : Nat) (k pl : Int) (f : Int → Int), ∃ b g, Arr T w pa n k pl f b g := by
  intro n
  induction n with
  | zero => exact fun k pl f => ⟨1, f, rfl, rfl⟩
  | succ n ih =>
    intro k pl f
    obtain ⟨x, hx⟩ := isLst_total (T := T) (w := w) (pa := pa) (pl := pl) hT
    by_cases h0 : 0 ≤ x
    · obtain ⟨b, g, h⟩ := ih (k + 1) (ai_or pl (ai_shl 1 x)) (fun j => if j = k then x else f j)
      exact ⟨b, g, Or.inr ⟨x, hx, h0, h⟩⟩
    · have e : x = -1 := by
        rcases hx with ⟨h1, _⟩ | ⟨h1, _⟩
        · exact h1
        · exact absurd h1 h0
      subst e
      exact ⟨0, f, Or.inl ⟨hx, rfl, rfl⟩⟩
theorem isLst_lt {T : Int} {w pa : Int → Int} {pl x : Int} (h : isLst T w pa pl x) (h0 : 0 ≤ x) : x < T := by
  rcases h with ⟨h1, _⟩ | ⟨_, h2, _⟩
  · omega
  · exact h2
theorem isLst_ge {T : Int} {w pa : Int → Int} {pl x : Int} (h : isLst T w pa pl x) : -1 ≤ x := by
  rcases h with ⟨h1, _⟩ | ⟨h1, _⟩ <;> omega
/-- what the sequence holds -/
theorem Arr_rng {T : Int} {w pa : Int → Int} (hT : T ≤ 5) : ∀ {n : Nat} {k pl b : Int} {f g : Int → Int}, Arr T w pa n k pl f b g → (b = 0 ∨ b = 1) ∧ ((∀ j, 0 ≤ f j ∧ f j < 5) → ∀ j, 0 ≤ g j ∧ g j < 5) ∧ (∀ j, j < k → g j = f j) ∧ (b = 1 → ∀ j, k ≤ j → j < k + (n : Int) → 0 ≤ g j ∧ g j < T) := by
  intro n
  induction n with
  | zero =>
    intro k pl b f g h
    obtain ⟨h1, h2⟩ := h
    subst h2
    exact ⟨Or.inr h1, fun h => h, fun _ _ => rfl, fun _ j q1 q2 => absurd q2 (by omega)⟩
  | succ n ih =>
    intro k pl b f g h
    rcases h with ⟨h1, h2, h3⟩ | ⟨x, x1, x2, x3⟩
    · subst h3
      exact ⟨Or.inl h2, fun h => h, fun _ _ => rfl, fun q => absurd (h2.symm.trans q) (by decide)⟩
    · have hx := isLst_lt x1 x2
      obtain ⟨i1, i2, i3, i4⟩ := ih x3
      refine ⟨i1, fun hf => i2 (fun j => ?_), fun j hj => ?_, fun hb j q1 q2 => ?_⟩
      · show 0 ≤ (if j = k then x else f j) ∧ (if j = k then x else f j) < 5
        have := hf j
        split <;> omega
      · rw [i3 j (by omega)]
        exact if_neg (by omega)
      · by_cases e : j = k
        · rw [i3 j (by omega)]
          show 0 ≤ (if j = k then x else f j) ∧ (if j = k then x else f j) < T
          rw [if_pos e]
          exact ⟨x2, hx⟩
        · exact i4 hb j (by omega) (by omega)
theorem cf_pai {sc : Int × (Int → Int)} {σ : ai_S} {Q : ai_O → Prop} {t pl : Int} (ht : 0 ≤ t ∧ t < 5) (hw : 0 ≤ σ 4 t ∧ σ 4 t ≤ 5) (hp : ∀ j, -1 ≤ σ 6 j ∧ σ 6 j < 5) (hpl : 0 ≤ pl ∧ pl < 32)
    (hQ : ∀ r, (r = 0 ∨ r = 1) → (r = 1 ↔ ∀ c, 0 ≤ c → c < σ 4 t → σ 6 (5 * t + c) = -1 ∨ tb pl (σ 6 (5 * t + c)) = true) → Q (.inl (some (.inl r)), (92, [], σ))) : ai_wp sc 103 0 [some (.inr (.inr 2)), some (.inl t), some (.inl pl), none, none] [] (0, 0) (92, [], σ) Q := by
  have h : ∀ (n : Nat) (v : Int) (x : Option ai_V), 0 ≤ v ∧ v ≤ σ 4 t → (σ 4 t - v).toNat = n → (∀ c, 0 ≤ c → c < v → σ 6 (5 * t + c) = -1 ∨ tb pl (σ 6 (5 * t + c)) = true) → ai_wp sc 103 2 [some (.inr (.inr 2)), some (.inl t), some (.inl pl), some (.inl v), x] [] (0, 0) (92, [], σ) Q := by
    intro n
    induction n with
    | zero =>
      intro v x hv hn hq
      exact rh_103_2 ⟨ht, ⟨⟨by omega, by omega⟩, ⟨by omega, by omega⟩⟩, fun _ => ⟨⟨by decide, by decide⟩, hQ 1 (Or.inr rfl) ⟨fun _ c q1 q2 => hq c q1 (by omega), fun _ => rfl⟩⟩, fun h => absurd h (by omega)⟩
    | succ n ih =>
      intro v x hv hn hq
      have e : (t * 5) + v = 5 * t + v := by omega
      have hpv := hp (5 * t + v)
      refine rh_103_2 ⟨ht, ⟨⟨by omega, by omega⟩, ⟨by omega, by omega⟩⟩, fun h => absurd h (by omega), fun _ => ai_ret_q (pc_96 ⟨by omega, by omega⟩ (ai_k_in ?_))⟩
      rw [e]
      refine rb_103_12 ⟨⟨⟨by omega, by omega⟩, ⟨by decide, by decide⟩⟩, fun h => ?_, fun h => ⟨bit_r hpl ⟨by omega, by omega⟩, fun h2 => ?_, fun h2 => ⟨⟨by decide, by decide⟩, ?_⟩⟩⟩
      · refine ih (v + 1) _ (by omega) (by omega) (fun c q1 q2 => ?_)
        by_cases ec : c = v
        · rw [ec]
          exact Or.inl h
        · exact hq c q1 (by omega)
      · refine ih (v + 1) _ (by omega) (by omega) (fun c q1 q2 => ?_)
        by_cases ec : c = v
        · rw [ec]
          exact Or.inr ((bit_ne hpl ⟨by omega, by omega⟩).mp h2)
        · exact hq c q1 (by omega)
      · refine hQ 0 (Or.inl rfl) ⟨fun q => absurd q (by decide), fun q => ?_⟩
        rcases q v hv.1 (by omega) with q1 | q1
        · exact absurd q1 h
        · exact absurd ((bit_ne hpl ⟨by omega, by omega⟩).mpr q1) h2
  exact rb_103_0 (h _ 0 none ⟨by omega, hw.1⟩ rfl (fun c q1 q2 => absurd q2 (by omega)))
theorem cf_least {sc : Int × (Int → Int)} {σ : ai_S} {Q : ai_O → Prop} {pl : Int} (hT : 0 ≤ σ 2 0 ∧ σ 2 0 ≤ 5) (hw : ∀ t, 0 ≤ σ 4 t ∧ σ 4 t ≤ 5) (hp : ∀ j, -1 ≤ σ 6 j ∧ σ 6 j < 5) (hpl : 0 ≤ pl ∧ pl < 32)
    (hQ : ∀ x, isLst (σ 2 0) (σ 4) (σ 6) pl x → Q (.inl (some (.inl x)), (92, [], σ))) : ai_wp sc 102 0 [some (.inr (.inr 2)), some (.inl pl), none] [] (0, 0) (92, [], σ) Q := by
  have h : ∀ (n : Nat) (v : Int), 0 ≤ v ∧ v ≤ σ 2 0 → (σ 2 0 - v).toNat = n → (∀ t, 0 ≤ t → t < v → ¬ Fr (σ 4) (σ 6) pl t) → ai_wp sc 102 2 [some (.inr (.inr 2)), some (.inl pl), some (.inl v)] [] (0, 0) (92, [], σ) Q := by
    intro n
    induction n with
    | zero =>
      intro v hv hn hq
      exact rb_102_2 ⟨⟨⟨by omega, by omega⟩, ⟨by omega, by omega⟩⟩, fun _ => hQ (-1) (Or.inl ⟨rfl, fun t q1 q2 => hq t q1 (by omega)⟩), fun h => absurd h (by omega)⟩
    | succ n ih =>
      intro v hv hn hq
      have hv5 : 0 ≤ v ∧ v < 5 := by omega
      obtain ⟨f1, f2, f3, f4⟩ := bit_facts hpl hv5
      have nxt : ¬ Fr (σ 4) (σ 6) pl v → ai_wp sc 102 2 [some (.inr (.inr 2)), some (.inl pl), some (.inl (v + 1))] [] (0, 0) (92, [], σ) Q := by
        intro hf
        refine ih (v + 1) (by omega) (by omega) (fun t q1 q2 => ?_)
        by_cases et : t = v
        · rw [et]
          exact hf
        · exact hq t q1 (by omega)
      refine rb_102_2 ⟨⟨⟨by omega, by omega⟩, ⟨by omega, by omega⟩⟩, fun h => absurd h (by omega), fun _ => ⟨bit_r hpl hv5, fun h => nxt (fun hf => ?_), fun h => ai_ret_q (cf_pai hv5 (hw v) hp f2 (fun r hr hi => ai_k_in (rb_102_20 ⟨?_, fun h2 => nxt (fun hf => ?_), fun h2 => hQ v (Or.inr ⟨hv.1, by omega, ?_, hq⟩)⟩)))⟩⟩
      · have := (bit_ne hpl hv5).mp h
        rw [hf.1] at this
        exact Bool.noConfusion this
      · exact ⟨by omega, by omega⟩
      · have h1 : r = 1 := hi.mpr (fun c q1 q2 => by
          have hpc := hp (5 * v + c)
          rcases hf.2 c q1 q2 with a | a | a
          · exact Or.inl a
          · refine Or.inr ?_
            rw [(f4 (σ 6 (5 * v + c)) (by omega)).1, a]
            simp
          · by_cases en : σ 6 (5 * v + c) = -1
            · exact Or.inl en
            · refine Or.inr ?_
              rw [(f4 _ (by omega)).1, a]
              rfl)
        omega
      · have h1 : r = 1 := by omega
        refine ⟨(bit_eq hpl hv5).mp (Decidable.not_not.mp h), fun c q1 q2 => ?_⟩
        have hpc := hp (5 * v + c)
        rcases hi.mp h1 c q1 q2 with a | a
        · exact Or.inl a
        · by_cases en : σ 6 (5 * v + c) = -1
          · exact Or.inl en
          · rw [(f4 _ (by omega)).1] at a
            by_cases ev : σ 6 (5 * v + c) = v
            · exact Or.inr (Or.inl ev)
            · rw [decide_eq_false ev, Bool.or_false] at a
              exact Or.inr (Or.inr a)
  exact rb_102_0 (h _ 0 ⟨by omega, hT.1⟩ rfl (fun t q1 q2 => absurd q2 (by omega)))
theorem cf_arr_at {sc : Int × (Int → Int)} {σ : ai_S} {Q : ai_O → Prop} (hT : 0 ≤ σ 2 0 ∧ σ 2 0 ≤ 5) (hw : ∀ t, 0 ≤ σ 4 t ∧ σ 4 t ≤ 5) (hp : ∀ j, -1 ≤ σ 6 j ∧ σ 6 j < 5) :
    ∀ (n : Nat) (v pl : Int) (F : Int → Int) (x : Option ai_V), 0 ≤ v ∧ v ≤ σ 2 0 → (σ 2 0 - v).toNat = n → (0 ≤ pl ∧ pl < 32) → (∀ b g, Arr (σ 2 0) (σ 4) (σ 6) n v pl F b g → Q (.inl (some (.inl b)), (92, [], up σ 3 g))) → ai_wp sc 101 4 [some (.inr (.inr 2)), some (.inl pl), some (.inl v), x] [] (0, 0) (92, [], up σ 3 F) Q := by
  intro n
  induction n with
  | zero =>
    intro v pl F x hv hn hpl hQ
    exact rh_101_4 ⟨⟨⟨by omega, by omega⟩, (show ai_r (σ 2 0) from ⟨by omega, by omega⟩)⟩, fun _ => ⟨⟨by decide, by decide⟩, hQ 1 F ⟨rfl, rfl⟩⟩, fun h => absurd (show σ 2 0 ≤ v by omega) h⟩
  | succ n ih =>
    intro v pl F x hv hn hpl hQ
    refine rh_101_4 ⟨⟨⟨by omega, by omega⟩, (show ai_r (σ 2 0) from ⟨by omega, by omega⟩)⟩, fun h => absurd (show σ 2 0 ≤ v from h) (by omega), fun _ => ai_ret_q (cf_least (σ := up σ 3 F) hT hw hp hpl (fun y hy => ai_k_in ?_))⟩
    have hy' : isLst (σ 2 0) (σ 4) (σ 6) pl y := hy
    have hyg := isLst_ge hy'
    by_cases h0 : 0 ≤ y
    · have hyl := isLst_lt hy' h0
      refine rb_101_11 ⟨⟨⟨by omega, by omega⟩, ⟨by decide, by decide⟩⟩, fun h => ⟨⟨by omega, by omega⟩, ?_⟩, fun h => absurd (show ¬ y = -1 by omega) h⟩
      rw [up_s]
      exact ih (v + 1) _ _ _ (by omega) (by omega) (bit_facts hpl (c := y) ⟨by omega, by omega⟩).2.1 (fun b g hA => hQ b g (Or.inr ⟨y, hy', h0, hA⟩))
    · have e : y = -1 := by omega
      subst e
      exact rb_101_11 ⟨⟨⟨by decide, by decide⟩, ⟨by decide, by decide⟩⟩, fun h => absurd rfl h, fun _ => ⟨⟨by decide, by decide⟩, hQ 0 F (Or.inl ⟨hy', rfl, rfl⟩)⟩⟩
/-- the class's arrange -/
theorem cf_arrange {sc : Int × (Int → Int)} {σ : ai_S} {b : Int} {g : Int → Int} (hT : 0 ≤ σ 2 0 ∧ σ 2 0 ≤ 5) (hw : ∀ t, 0 ≤ σ 4 t ∧ σ 4 t ≤ 5) (hp : ∀ j, -1 ≤ σ 6 j ∧ σ 6 j < 5) (hA : Arr (σ 2 0) (σ 4) (σ 6) (σ 2 0).toNat 0 0 (σ 3) b g) : fn sc 101 [some (.inr (.inr 2)), none, none, none] σ (some (.inl b)) (up σ 3 g) := by
  intro Q hQ
  have h := cf_arr_at (sc := sc) (Q := Q) hT hw hp (σ 2 0).toNat 0 0 (σ 3) none ⟨by omega, hT.1⟩ (by omega) ⟨by omega, by omega⟩ (fun b' g' hA' => by
    obtain ⟨e1, e2⟩ := Arr_unique hA hA'
    subst e1
    subst e2
    exact hQ)
  rw [up_id] at h
  exact rb_101_0 h
theorem rf_free {sc : Int × (Int → Int)} {σ : ai_S} {Q : ai_O → Prop} {t pl : Int} (ht : 0 ≤ t ∧ t < 5) (hw : 0 ≤ σ 60 t ∧ σ 60 t ≤ 5) (hp : ∀ j, -1 ≤ σ 63 j ∧ σ 63 j < 5) (hpl : 0 ≤ pl ∧ pl < 32)
    (hQ : ∀ r, (r = 0 ∨ r = 1) → (r = 1 ↔ Fr (σ 60) (σ 63) pl t) → Q (.inl (some (.inl r)), (92, [], σ))) : ai_wp sc 150 0 [some (.inr (.inr 59)), some (.inl t), some (.inl pl), none, none, none] [] (0, 0) (92, [], σ) Q := by
  have h : ∀ (n : Nat) (v f : Int) (x : Option ai_V), 0 ≤ v ∧ v ≤ σ 60 t → (σ 60 t - v).toNat = n → (f = 0 ∨ f = 1) → (f = 1 ↔ tb pl t = false ∧ ∀ c, 0 ≤ c → c < v → σ 63 (5 * t + c) = -1 ∨ σ 63 (5 * t + c) = t ∨ tb pl (σ 63 (5 * t + c)) = true) → ai_wp sc 150 12 [some (.inr (.inr 59)), some (.inl t), some (.inl pl), some (.inl f), some (.inl v), x] [] (0, 0) (92, [], σ) Q := by
    intro n
    induction n with
    | zero =>
      intro v f x hv hn hf hi
      have ev : v = σ 60 t := by omega
      subst ev
      exact rh_150_12 ⟨ht, ⟨⟨by omega, by omega⟩, ⟨by omega, by omega⟩⟩, fun _ => ⟨⟨by omega, by omega⟩, hQ f hf hi⟩, fun h => absurd h (by omega)⟩
    | succ n ih =>
      intro v f x hv hn hf hi
      have hpv := hp (5 * t + v)
      have nx1 : (σ 63 (5 * t + v) = -1 ∨ σ 63 (5 * t + v) = t ∨ tb pl (σ 63 (5 * t + v)) = true) → f = 1 → ∀ y, ai_wp sc 150 12 [some (.inr (.inr 59)), some (.inl t), some (.inl pl), some (.inl 1), some (.inl (v + 1)), y] [] (0, 0) (92, [], σ) Q := by
        intro hg hf1 y
        refine ih (v + 1) 1 y (by omega) (by omega) (Or.inr rfl) ⟨fun _ => ⟨(hi.mp hf1).1, fun c q1 q2 => ?_⟩, fun _ => rfl⟩
        by_cases ec : c = v
        · rw [ec]
          exact hg
        · exact (hi.mp hf1).2 c q1 (by omega)
      have nx0 : (¬ (σ 63 (5 * t + v) = -1 ∨ σ 63 (5 * t + v) = t ∨ tb pl (σ 63 (5 * t + v)) = true) ∨ f = 0) → ∀ y, ai_wp sc 150 12 [some (.inr (.inr 59)), some (.inl t), some (.inl pl), some (.inl 0), some (.inl (v + 1)), y] [] (0, 0) (92, [], σ) Q := by
        intro hg y
        refine ih (v + 1) 0 y (by omega) (by omega) (Or.inl rfl) ⟨fun q => absurd q (by decide), fun q => ?_⟩
        rcases hg with hg | hg
        · exact absurd (q.2 v hv.1 (by omega)) hg
        · have : f = 1 := hi.mpr ⟨q.1, fun c q1 q2 => q.2 c q1 (by omega)⟩
          omega
      refine rh_150_12 ⟨ht, ⟨⟨by omega, by omega⟩, ⟨by omega, by omega⟩⟩, fun h => absurd h (by omega), fun _ => ⟨⟨by omega, by omega⟩, ⟨by omega, by omega⟩, fun h0 => nx0 (Or.inr h0) _, fun h0 => ⟨⟨⟨by omega, by omega⟩, ⟨by decide, by decide⟩⟩, fun h1 => nx1 (Or.inl h1) (by omega) _, fun h1 => ⟨⟨⟨by omega, by omega⟩, ⟨by omega, by omega⟩⟩, fun h2 => nx1 (Or.inr (Or.inl h2)) (by omega) _, fun h2 => ⟨⟨bit_r hpl ⟨by omega, by omega⟩, ⟨by decide, by decide⟩⟩, fun h3 => nx0 (Or.inl (fun q => ?_)) _, fun h3 => nx1 (Or.inr (Or.inr ?_)) (by omega) _⟩⟩⟩⟩⟩
      · rcases q with q | q | q
        · exact h1 q
        · exact h2 q
        · unfold tb at q
          exact h3 (of_decide_eq_true q)
      · unfold tb
        exact decide_eq_true (Decidable.not_not.mp h3)
  refine rb_150_0 ⟨bit_r hpl ht, fun h0 => h _ 0 0 none ⟨by omega, hw.1⟩ rfl (Or.inl rfl) ⟨fun q => absurd q (by decide), fun q => ?_⟩, fun h0 => h _ 0 1 none ⟨by omega, hw.1⟩ rfl (Or.inr rfl) ⟨fun _ => ⟨(bit_eq hpl ht).mp (Decidable.not_not.mp h0), fun c q1 q2 => absurd q2 (by omega)⟩, fun _ => rfl⟩⟩
  have := (bit_ne hpl ht).mp h0
  rw [q.1] at this
  exact Bool.noConfusion this
theorem rf_least {sc : Int × (Int → Int)} {σ : ai_S} {Q : ai_O → Prop} {pl k : Int} (hT : 0 ≤ σ 59 1 ∧ σ 59 1 ≤ 5) (hw : ∀ t, 0 ≤ σ 60 t ∧ σ 60 t ≤ 5) (hp : ∀ j, -1 ≤ σ 63 j ∧ σ 63 j < 5) (hpl : 0 ≤ pl ∧ pl < 32)
    (hQ : ∀ x, isLst (σ 59 1) (σ 60) (σ 63) pl x → ai_wp sc 151 15 [some (.inr (.inr 59)), some (.inl pl), some (.inl k), some (.inl x), some (.inl (-1))] [] (0, 0) (92, [], σ) Q) :
    ∀ (n : Nat) (v x : Int), -1 ≤ v ∧ v < σ 59 1 → (v + 1).toNat = n → ((x = -1 ∧ ∀ t, v < t → t < σ 59 1 → ¬ Fr (σ 60) (σ 63) pl t) ∨ (v < x ∧ x < σ 59 1 ∧ Fr (σ 60) (σ 63) pl x ∧ ∀ t, v < t → t < x → ¬ Fr (σ 60) (σ 63) pl t)) → ai_wp sc 151 15 [some (.inr (.inr 59)), some (.inl pl), some (.inl k), some (.inl x), some (.inl v)] [] (0, 0) (92, [], σ) Q := by
  intro n
  induction n with
  | zero =>
    intro v x hv hn hx
    have ev : v = -1 := by omega
    subst ev
    refine hQ x ?_
    rcases hx with ⟨h1, h2⟩ | ⟨h1, h2, h3, h4⟩
    · exact Or.inl ⟨h1, fun t q1 q2 => h2 t (by omega) q2⟩
    · exact Or.inr ⟨by omega, h2, h3, fun t q1 q2 => h4 t (by omega) q2⟩
  | succ n ih =>
    intro v x hv hn hx
    have hv0 : 0 ≤ v := by omega
    have e1 : v + (-1) = v - 1 := by omega
    refine rb_151_15 ⟨⟨by omega, by omega⟩, fun h => absurd h (by omega), fun _ => ai_ret_q (rf_free ⟨hv0, by omega⟩ (hw v) hp hpl (fun r hr hi => ai_k_in (rb_151_21 ⟨⟨by omega, by omega⟩, fun h0 => ih (v + (-1)) x (by omega) (by omega) ?_, fun h0 => ih (v + (-1)) v (by omega) (by omega) (Or.inr ⟨by omega, by omega, hi.mp (by omega), fun t q1 q2 => absurd q1 (by omega)⟩)⟩)))⟩
    have hnf : ¬ Fr (σ 60) (σ 63) pl v := fun q => by
      have := hi.mpr q
      omega
    rcases hx with ⟨h1, h2⟩ | ⟨h1, h2, h3, h4⟩
    · refine Or.inl ⟨h1, fun t q1 q2 => ?_⟩
      by_cases et : t = v
      · rw [et]
        exact hnf
      · exact h2 t (by omega) q2
    · refine Or.inr ⟨by omega, h2, h3, fun t q1 q2 => ?_⟩
      by_cases et : t = v
      · rw [et]
        exact hnf
      · exact h4 t (by omega) q2
theorem rf_ord_at {sc : Int × (Int → Int)} {σ : ai_S} {Q : ai_O → Prop} (hT : 0 ≤ σ 59 1 ∧ σ 59 1 ≤ 5) (hw : ∀ t, 0 ≤ σ 60 t ∧ σ 60 t ≤ 5) (hp : ∀ j, -1 ≤ σ 63 j ∧ σ 63 j < 5) :
    ∀ (n : Nat) (v pl : Int) (F : Int → Int) (x y : Option ai_V), 0 ≤ v ∧ v ≤ σ 59 1 → (σ 59 1 - v).toNat = n → (0 ≤ pl ∧ pl < 32) → (∀ b g, Arr (σ 59 1) (σ 60) (σ 63) n v pl F b g → Q (.inl (some (.inl b)), (92, [], up σ 84 g))) → ai_wp sc 151 4 [some (.inr (.inr 59)), some (.inl pl), some (.inl v), x, y] [] (0, 0) (92, [], up σ 84 F) Q := by
  intro n
  induction n with
  | zero =>
    intro v pl F x y hv hn hpl hQ
    exact rh_151_4 ⟨⟨⟨by omega, by omega⟩, (show ai_r (σ 59 1) from ⟨by omega, by omega⟩)⟩, fun _ => ⟨⟨by decide, by decide⟩, hQ 1 F ⟨rfl, rfl⟩⟩, fun h => absurd (show σ 59 1 ≤ v by omega) h⟩
  | succ n ih =>
    intro v pl F x y hv hn hpl hQ
    refine rh_151_4 ⟨⟨⟨by omega, by omega⟩, (show ai_r (σ 59 1) from ⟨by omega, by omega⟩)⟩, fun h => absurd (show σ 59 1 ≤ v from h) (by omega), fun _ => rf_least (σ := up σ 84 F) hT hw hp hpl (fun z hz => ?_) (σ 59 1).toNat (σ 59 1 - 1) (-1) ⟨by omega, (show σ 59 1 - 1 < σ 59 1 by omega)⟩ (by omega) (Or.inl ⟨rfl, fun t q1 q2 => absurd (show t < σ 59 1 from q2) (by omega)⟩)⟩
    have hz' : isLst (σ 59 1) (σ 60) (σ 63) pl z := hz
    have hzg := isLst_ge hz'
    by_cases h0 : 0 ≤ z
    · have hzl := isLst_lt hz' h0
      refine rb_151_15 ⟨⟨by decide, by decide⟩, fun _ => ⟨⟨⟨by omega, by omega⟩, ⟨by decide, by decide⟩⟩, fun h => ⟨⟨by omega, by omega⟩, ?_⟩, fun h => absurd (show ¬ z = -1 by omega) h⟩, fun h => absurd (by decide) h⟩
      rw [up_s]
      exact ih (v + 1) _ _ _ _ (by omega) (by omega) (bit_facts hpl (c := z) ⟨by omega, by omega⟩).2.1 (fun b g hA => hQ b g (Or.inr ⟨z, hz', h0, hA⟩))
    · have e : z = -1 := by omega
      subst e
      exact rb_151_15 ⟨⟨by decide, by decide⟩, fun _ => ⟨⟨⟨by decide, by decide⟩, ⟨by decide, by decide⟩⟩, fun h => absurd rfl h, fun _ => ⟨⟨by decide, by decide⟩, hQ 0 F (Or.inl ⟨hz', rfl, rfl⟩)⟩⟩, fun h => absurd (by decide) h⟩
/-- the reference's ordered -/
theorem rf_ordered {sc : Int × (Int → Int)} {σ : ai_S} {b : Int} {g : Int → Int} (hT : 0 ≤ σ 59 1 ∧ σ 59 1 ≤ 5) (hw : ∀ t, 0 ≤ σ 60 t ∧ σ 60 t ≤ 5) (hp : ∀ j, -1 ≤ σ 63 j ∧ σ 63 j < 5) (hA : Arr (σ 59 1) (σ 60) (σ 63) (σ 59 1).toNat 0 0 (σ 84) b g) : fn sc 151 [some (.inr (.inr 59)), none, none, none, none] σ (some (.inl b)) (up σ 84 g) := by
  intro Q hQ
  have h := rf_ord_at (sc := sc) (Q := Q) hT hw hp (σ 59 1).toNat 0 0 (σ 84) none none ⟨by omega, hT.1⟩ (by omega) ⟨by omega, by omega⟩ (fun b' g' hA' => by
    obtain ⟨e1, e2⟩ := Arr_unique hA hA'
    subst e1
    subst e2
    exact hQ)
  rw [up_id] at h
  exact rb_151_0 h
theorem cl_order_1 {sc : Int × (Int → Int)} {σ : ai_S} {k : Int} (hk : -2147483648 ≤ k ∧ k ≤ 2147483647) (hT : 0 ≤ σ 2 0 ∧ σ 2 0 ≤ 5) (hg : ¬ (0 ≤ k ∧ k < σ 2 0)) : th sc 7 [some (.inr (.inr 0)), some (.inl k)] σ 1 σ := by
  intro Q hQ
  exact rb_7_0 (ai_ret_q (pc_93 ⟨hk, fun _ => ⟨hk, ⟨by omega, by omega⟩⟩⟩ (ai_k_in (rb_7_5 ⟨bi_r _, fun h => absurd (bi_yes h) (by omega), fun _ => hQ⟩))))
theorem cl_order_2 {sc : Int × (Int → Int)} {σ : ai_S} {k : Int} {g : Int → Int} (hk : -2147483648 ≤ k ∧ k ≤ 2147483647) (hT : 0 ≤ σ 2 0 ∧ σ 2 0 ≤ 5) (hw : ∀ t, 0 ≤ σ 4 t ∧ σ 4 t ≤ 5) (hp : ∀ j, -1 ≤ σ 6 j ∧ σ 6 j < 5) (hA : Arr (σ 2 0) (σ 4) (σ 6) (σ 2 0).toNat 0 0 (σ 3) 0 g) (hg : 0 ≤ k ∧ k < σ 2 0) : th sc 7 [some (.inr (.inr 0)), some (.inl k)] σ 2 (up σ 3 g) := by
  intro Q hQ
  exact rb_7_0 (ai_ret_q (pc_93 ⟨hk, fun _ => ⟨hk, ⟨by omega, by omega⟩⟩⟩ (ai_k_in (rb_7_5 ⟨bi_r _, fun _ => fn_ret (cf_arrange hT hw hp hA) (rb_7_15 ⟨⟨by decide, by decide⟩, fun h => absurd rfl h, fun _ => hQ⟩), fun h => absurd (show _ ∧ _ from ⟨by omega, by omega⟩) (bi_no2 h)⟩))))
theorem cl_order {sc : Int × (Int → Int)} {σ : ai_S} {k : Int} {g : Int → Int} (hk : -2147483648 ≤ k ∧ k ≤ 2147483647) (hT : 0 ≤ σ 2 0 ∧ σ 2 0 ≤ 5) (hw : ∀ t, 0 ≤ σ 4 t ∧ σ 4 t ≤ 5) (hp : ∀ j, -1 ≤ σ 6 j ∧ σ 6 j < 5) (hA : Arr (σ 2 0) (σ 4) (σ 6) (σ 2 0).toNat 0 0 (σ 3) 1 g) (hg : 0 ≤ k ∧ k < σ 2 0) : fn sc 7 [some (.inr (.inr 0)), some (.inl k)] σ (some (.inl (g k))) (up σ 3 g) := by
  intro Q hQ
  exact rb_7_0 (ai_ret_q (pc_93 ⟨hk, fun _ => ⟨hk, ⟨by omega, by omega⟩⟩⟩ (ai_k_in (rb_7_5 ⟨bi_r _, fun _ => fn_ret (cf_arrange hT hw hp hA) (rb_7_15 ⟨⟨by decide, by decide⟩, fun _ => ⟨⟨by omega, by omega⟩, hQ⟩, fun h => absurd (show ¬ (1 : Int) = 0 by decide) h⟩), fun h => absurd (show _ ∧ _ from ⟨by omega, by omega⟩) (bi_no2 h)⟩))))
theorem rf_order_1 {sc : Int × (Int → Int)} {σ : ai_S} {k : Int} (hk : -2147483648 ≤ k ∧ k ≤ 2147483647) (hT : 0 ≤ σ 59 1 ∧ σ 59 1 ≤ 5) (hg : ¬ (0 ≤ k ∧ k < σ 59 1)) : fn sc 152 [some (.inr (.inr 59)), some (.inl k)] σ (some (.inl 0)) (ai_set σ 59 0 1) := by
  intro Q hQ
  exact rb_152_0 ⟨hk, fun _ => ⟨⟨by decide, by decide⟩, fun h => absurd h (by decide), fun _ => hQ⟩, fun h => ⟨⟨hk, ⟨by omega, by omega⟩⟩, fun h2 => absurd (show 0 ≤ k ∧ k < σ 59 1 by omega) hg, fun _ => ⟨⟨by decide, by decide⟩, fun h => absurd h (by decide), fun _ => hQ⟩⟩⟩
theorem rf_order_2 {sc : Int × (Int → Int)} {σ : ai_S} {k : Int} {g : Int → Int} (hk : -2147483648 ≤ k ∧ k ≤ 2147483647) (hT : 0 ≤ σ 59 1 ∧ σ 59 1 ≤ 5) (hw : ∀ t, 0 ≤ σ 60 t ∧ σ 60 t ≤ 5) (hp : ∀ j, -1 ≤ σ 63 j ∧ σ 63 j < 5) (hA : Arr (σ 59 1) (σ 60) (σ 63) (σ 59 1).toNat 0 0 (σ 84) 0 g) (hg : 0 ≤ k ∧ k < σ 59 1) : fn sc 152 [some (.inr (.inr 59)), some (.inl k)] σ (some (.inl 0)) (ai_set (up σ 84 g) 59 0 2) := by
  intro Q hQ
  exact rb_152_0 ⟨hk, fun h => absurd h (by omega), fun h => ⟨⟨hk, ⟨by omega, by omega⟩⟩, fun _ => fn_ret (rf_ordered hT hw hp hA) (rb_152_11 ⟨⟨by decide, by decide⟩, fun _ => ⟨⟨by decide, by decide⟩, fun h => absurd h (by decide), fun _ => hQ⟩, fun h => absurd rfl h⟩), fun h2 => absurd h2 (by omega)⟩⟩
theorem rf_order {sc : Int × (Int → Int)} {σ : ai_S} {k : Int} {g : Int → Int} (hk : -2147483648 ≤ k ∧ k ≤ 2147483647) (hT : 0 ≤ σ 59 1 ∧ σ 59 1 ≤ 5) (hw : ∀ t, 0 ≤ σ 60 t ∧ σ 60 t ≤ 5) (hp : ∀ j, -1 ≤ σ 63 j ∧ σ 63 j < 5) (hA : Arr (σ 59 1) (σ 60) (σ 63) (σ 59 1).toNat 0 0 (σ 84) 1 g) (hg : 0 ≤ k ∧ k < σ 59 1) : fn sc 152 [some (.inr (.inr 59)), some (.inl k)] σ (some (.inl (g k))) (ai_set (up σ 84 g) 59 0 0) := by
  intro Q hQ
  exact rb_152_0 ⟨hk, fun h => absurd h (by omega), fun h => ⟨⟨hk, ⟨by omega, by omega⟩⟩, fun _ => fn_ret (rf_ordered hT hw hp hA) (rb_152_11 ⟨⟨by decide, by decide⟩, fun h => absurd h (by decide), fun _ => ⟨⟨by decide, by decide⟩, fun _ => ⟨⟨by omega, by omega⟩, hQ⟩, fun h => absurd (by decide) h⟩⟩), fun h2 => absurd h2 (by omega)⟩⟩
theorem rel_seq {σ : ai_S} {g : Int → Int} (hR : Rel σ) (hg : ∀ j, 0 ≤ g j ∧ g j < 5) : Rel (up (up σ 3 g) 84 g) := by
  obtain ⟨⟨s1, s2, s3, s4, s5, s6, s7, s8, s9, s10, s11, s12⟩, hT, hL, n0, n1, n2, hX, hF, hD, hC, hW⟩ := hR
  exact ⟨⟨s1, s2, s3, s4, s5, s6, rfl, s8, s9, s10, s11, hg⟩, hT, hL, n0, n1, n2, hX, hF, hD, hC, hW⟩
theorem tn_order {sc : Int × (Int → Int)} {σ : ai_S} (hR : Rel σ) {k : Int} (hk : -2147483648 ≤ k ∧ k ≤ 2147483647) : ∃ c x σ1 σ2, fn sc 194 [some (.inr (.inr 0)), some (.inl k), some (.inr (.inr 91)), none] σ (some (.inl c)) σ1 ∧ fn sc 152 [some (.inr (.inr 59)), some (.inl k)] σ1 (some (.inl x)) σ2 ∧ σ2 59 0 = c ∧ (0 ≤ c ∧ c ≤ 3) ∧ ai_r x ∧ (c = 0 → σ2 91 0 = x) ∧ Rel σ2 := by
  obtain ⟨⟨s1, s2, s3, s4, s5, s6, s7, s8, s9, s10, s11, s12⟩, hL⟩ := id hR
  have z1 : 0 ≤ σ 59 1 ∧ σ 59 1 ≤ 5 := by
    rw [s1]
    exact s2
  have z2 : ∀ x, 0 ≤ σ 60 x ∧ σ 60 x ≤ 5 := by
    rw [s3]
    exact s8
  have z3 : ∀ j, -1 ≤ σ 63 j ∧ σ 63 j < 5 := by
    rw [s6]
    exact s11
  obtain ⟨b, g, hA⟩ := Arr_total (w := σ 4) (pa := σ 6) s2.1 (σ 2 0).toNat 0 0 (σ 3)
  obtain ⟨r1, r2, r3, r4⟩ := Arr_rng s2.2 hA
  have hgr := r2 s12
  have hA2 : Arr (σ 59 1) (σ 60) (σ 63) (σ 59 1).toNat 0 0 (σ 84) b g := by
    rw [s1, s3, s6, s7]
    exact hA
  by_cases hg : 0 ≤ k ∧ k < σ 2 0
  · have hg' : 0 ≤ k ∧ k < σ 59 1 := by omega
    rcases r1 with e | e
    · subst e
      exact ⟨2, _, _, _, wx_194_2 (cl_order_2 hk s2 s8 s11 hA hg), rf_order_2 (σ := up σ 3 g) hk z1 z2 z3 hA2 hg', rfl, ⟨by decide, by decide⟩, ⟨by decide, by decide⟩, fun h => absurd h (by decide), rel_code (rel_seq hR hgr)⟩
    · subst e
      have hgk := hgr k
      exact ⟨0, _, _, _, wv_194 (cl_order hk s2 s8 s11 hA hg) ⟨by omega, by omega⟩, rf_order (σ := ai_set (up σ 3 g) 91 0 (g k)) hk z1 z2 z3 hA2 hg', rfl, ⟨by decide, by decide⟩, ⟨by omega, by omega⟩, fun _ => rfl, (show Rel (ai_set (ai_set (up (up σ 3 g) 84 g) 91 0 (g k)) 59 0 0) from rel_code (rel_out (rel_seq hR hgr)))⟩
  · have hg' : ¬ (0 ≤ k ∧ k < σ 59 1) := by omega
    exact ⟨1, _, _, _, wx_194_1 (cl_order_1 hk s2 hg), rf_order_1 hk z1 hg', rfl, ⟨by decide, by decide⟩, ⟨by decide, by decide⟩, fun h => absurd h (by decide), rel_code hR⟩
theorem st_order {sc : Int × (Int → Int)} {σ : ai_S} {Q : ai_O → Prop} {a b : Nat} {v4 : Int} (hab : a + 1 ≤ 601024 ∧ b + 6 ≤ 7293034) (hv : 0 ≤ v4 ∧ v4 ≤ sc.1 - 5) (hs : ∀ j, -2147483648 ≤ sc.2 j ∧ sc.2 j ≤ 2147483647) (hR : Rel σ) (K : Nxt sc Q v4 a b) : ai_wp sc 206 179 (lwL v4 none none none) [] (a, b) (92, [], σ) Q := by
  obtain ⟨k, x, σ1, σ2, hw, hm, hk, hkr, hx, ho, hR2⟩ := tn_order (sc := sc) hR (hs (v4 + 1))
  exact ar_order hab hv hs hw hm hk hkr hx ho (K _ _ _ (Nat.le_refl _) (Nat.le_refl _) hR2)
