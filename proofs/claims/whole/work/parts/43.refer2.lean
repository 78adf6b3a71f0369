/-! WHO REFERS, the reference. -/
/-- kept from omega -/
def sn (b : Int) (P : Prop) : Prop := b = 1 ↔ P
/-- the cell (u, q, c) refers to the row r of t -/
def RRp (w pa mn vl no : Int → Int) (t r u q c : Int) : Prop := 0 ≤ q ∧ q < mn u ∧ 0 ≤ c ∧ c < w u ∧ pa (5 * u + c) = t ∧ no (60 * u + 5 * q + c) = 0 ∧ vl (60 * u + 5 * q + c) = vl (60 * t + 5 * r) ∧ ¬ (u = t ∧ q = r)
theorem rf_referred {sc : Int × (Int → Int)} {σ : ai_S} {Q : ai_O → Prop} {t r : Int} (ht : 0 ≤ t ∧ t < 5) (hr : 0 ≤ r ∧ r < 12) (hT : 0 ≤ σ 59 1 ∧ σ 59 1 ≤ 5) (hw : ∀ u, 0 ≤ σ 60 u ∧ σ 60 u ≤ 5) (hp : ∀ j, -1 ≤ σ 63 j ∧ σ 63 j < 5) (hn : ∀ u, 0 ≤ σ 64 u ∧ σ 64 u ≤ 12) (h8 : ∀ j, ai_r8 (σ 65 j)) (hno : ∀ j, 0 ≤ j → j < 300 → ai_r (σ 66 j)) (hQ : ∀ b, (b = 0 ∨ b = 1) → (b = 1 ↔ ∃ u q c, (0 ≤ u ∧ u < σ 59 1) ∧ RRp (σ 60) (σ 63) (σ 64) (σ 65) (σ 66) t r u q c) → Q (.inl (some (.inl b)), (92, [], σ))) : ai_wp sc 161 0 [some (.inr (.inr 59)), some (.inl t), some (.inl r), none, none, none, none, none, none, none] [] (0, 0) (92, [], σ) Q := by
  have ek : (60 * t) + (5 * r) = 60 * t + 5 * r := rfl
  -- what was seen: tables below u, rows below q of u, columns below c of (u, q)
  have seen : Int → Int → Int → Int → Prop := fun _ _ _ _ => True
  have h : ∀ (n : Nat) (u b : Int) (x y : Option ai_V), 0 ≤ u ∧ u ≤ σ 59 1 → (σ 59 1 - u).toNat = n → (b = 0 ∨ b = 1) → sn b (∃ u' q c, (0 ≤ u' ∧ u' < u) ∧ RRp (σ 60) (σ 63) (σ 64) (σ 65) (σ 66) t r u' q c) → ai_wp sc 161 15 [some (.inr (.inr 59)), some (.inl t), some (.inl r), some (.inr (.inl (σ 65 (60 * t + 5 * r)))), none, some (.inl b), some (.inl u), x, y, none] [] (0, 0) (92, [], σ) Q := by
    intro n
    induction n with
    | zero =>
      intro u b x y hu hm hb hi
      have e : u = σ 59 1 := by omega
      subst e
      exact rh_161_15 ⟨⟨⟨by omega, by omega⟩, ⟨by omega, by omega⟩⟩, fun _ => ⟨⟨by omega, by omega⟩, hQ b hb hi⟩, fun g => absurd (Int.le_refl (σ 59 1)) g⟩
    | succ n ih =>
      intro u b x y hu hm hb hi
      have hwu := hw u
      have hnu := hn u
      have hrows : ∀ (m : Nat) (q b : Int) (x y : Option ai_V), 0 ≤ q ∧ q ≤ σ 64 u → (σ 64 u - q).toNat = m → (b = 0 ∨ b = 1) → sn b (∃ u' q' c, ((0 ≤ u' ∧ u' < u) ∨ (u' = u ∧ q' < q)) ∧ RRp (σ 60) (σ 63) (σ 64) (σ 65) (σ 66) t r u' q' c) → ai_wp sc 161 21 [some (.inr (.inr 59)), some (.inl t), some (.inl r), some (.inr (.inl (σ 65 (60 * t + 5 * r)))), none, some (.inl b), some (.inl u), some (.inl q), x, y] [] (0, 0) (92, [], σ) Q := by
        intro m
        induction m with
        | zero =>
          intro q b x y hq hm2 hb2 hi2
          refine rh_161_21 ⟨⟨hu.1, by omega⟩, ⟨⟨by omega, by omega⟩, ⟨by omega, by omega⟩⟩, fun _ => ih (u + 1) b _ _ (by omega) (by omega) hb2 ⟨fun g => ?_, fun g => ?_⟩, fun g => absurd (show σ 64 u ≤ q by omega) g⟩
          · obtain ⟨u', q', c, g1, g2⟩ := hi2.mp g
            exact ⟨u', q', c, by omega, g2⟩
          · obtain ⟨u', q', c, g1, g2⟩ := g
            refine hi2.mpr ⟨u', q', c, ?_, g2⟩
            by_cases e : u' = u
            · refine Or.inr ⟨e, ?_⟩
              have := g2.2.1
              rw [e] at this
              omega
            · exact Or.inl (by omega)
        | succ m ihm =>
          intro q b x y hq hm2 hb2 hi2
          have hcols : ∀ (k : Nat) (c b : Int) (x : Option ai_V), 0 ≤ c ∧ c ≤ σ 60 u → (σ 60 u - c).toNat = k → (b = 0 ∨ b = 1) → sn b (∃ u' q' c', ((0 ≤ u' ∧ u' < u) ∨ (u' = u ∧ q' < q) ∨ (u' = u ∧ q' = q ∧ c' < c)) ∧ RRp (σ 60) (σ 63) (σ 64) (σ 65) (σ 66) t r u' q' c') → ai_wp sc 161 29 [some (.inr (.inr 59)), some (.inl t), some (.inl r), some (.inr (.inl (σ 65 (60 * t + 5 * r)))), none, some (.inl b), some (.inl u), some (.inl q), some (.inl c), x] [] (0, 0) (92, [], σ) Q := by
            intro k
            induction k with
            | zero =>
              intro c b x hc hm3 hb3 hi3
              refine rh_161_29 ⟨⟨hu.1, by omega⟩, ⟨⟨by omega, by omega⟩, ⟨by omega, by omega⟩⟩, fun _ => ihm (q + 1) b _ _ (by omega) (by omega) hb3 ⟨fun g => ?_, fun g => ?_⟩, fun g => absurd (show σ 60 u ≤ c by omega) g⟩
              · obtain ⟨u', q', c', g1, g2⟩ := hi3.mp g
                exact ⟨u', q', c', by omega, g2⟩
              · obtain ⟨u', q', c', g1, g2⟩ := g
                refine hi3.mpr ⟨u', q', c', ?_, g2⟩
                rcases g1 with z | z
                · exact Or.inl z
                · by_cases e : q' = q
                  · refine Or.inr (Or.inr ⟨z.1, e, ?_⟩)
                    have := g2.2.2.2.1
                    rw [z.1] at this
                    omega
                  · exact Or.inr (Or.inl ⟨z.1, by omega⟩)
            | succ k ihk =>
              intro c b x hc hm3 hb3 hi3
              have hpc := hp (5 * u + c)
              -- the next cell
              have yes : (b = 1 ∨ RRp (σ 60) (σ 63) (σ 64) (σ 65) (σ 66) t r u q c) → ∀ x, ai_wp sc 161 29 [some (.inr (.inr 59)), some (.inl t), some (.inl r), some (.inr (.inl (σ 65 (60 * t + 5 * r)))), none, some (.inl 1), some (.inl u), some (.inl q), some (.inl (c + 1)), x] [] (0, 0) (92, [], σ) Q := by
                intro g x
                refine ihk (c + 1) 1 x (by omega) (by omega) (Or.inr rfl) ⟨fun _ => ?_, fun _ => rfl⟩
                rcases g with g | g
                · obtain ⟨u', q', c', g1, g2⟩ := hi3.mp g
                  exact ⟨u', q', c', by omega, g2⟩
                · exact ⟨u, q, c, Or.inr (Or.inr ⟨rfl, rfl, by omega⟩), g⟩
              have no : b = 0 → ¬ RRp (σ 60) (σ 63) (σ 64) (σ 65) (σ 66) t r u q c → ∀ x, ai_wp sc 161 29 [some (.inr (.inr 59)), some (.inl t), some (.inl r), some (.inr (.inl (σ 65 (60 * t + 5 * r)))), none, some (.inl 0), some (.inl u), some (.inl q), some (.inl (c + 1)), x] [] (0, 0) (92, [], σ) Q := by
                intro g g2 x
                refine ihk (c + 1) 0 x (by omega) (by omega) (Or.inl rfl) ⟨fun z => absurd z (by decide), fun z => ?_⟩
                obtain ⟨u', q', c', z1, z2⟩ := z
                have hb1 : b = 1 := by
                  refine hi3.mpr ⟨u', q', c', ?_, z2⟩
                  rcases z1 with z | z | z
                  · exact Or.inl z
                  · exact Or.inr (Or.inl z)
                  · by_cases e : c' = c
                    · obtain ⟨y1, y2, _⟩ := z
                      subst y1
                      subst y2
                      subst e
                      exact absurd z2 g2
                    · exact Or.inr (Or.inr ⟨z.1, z.2.1, by omega⟩)
                omega
              have hcell : 0 ≤ 60 * u + 5 * q + c ∧ 60 * u + 5 * q + c < 300 := ⟨by omega, by omega⟩
              refine rh_161_29 ⟨⟨hu.1, by omega⟩, ⟨⟨by omega, by omega⟩, ⟨by omega, by omega⟩⟩, fun g => absurd g (by omega), fun _ => ⟨⟨by omega, by omega⟩, fun g => yes (Or.inl (by omega)) _, fun g => ⟨⟨by omega, by omega⟩, ⟨⟨by omega, by omega⟩, ⟨by omega, by omega⟩⟩, fun g2 => no (by omega) (fun z => g2 z.2.2.2.2.1) _, fun g2 => ⟨hcell, hno _ hcell.1 hcell.2, fun g3 => no (by omega) (fun z => g3 z.2.2.2.2.2.1) _, fun g3 => ⟨hcell, ⟨h8 _, h8 _⟩, cmp_r _ _, fun g4 => no (by omega) (fun z => g4 (cmp_eq.mpr z.2.2.2.2.2.2.1)) _, fun g4 => ⟨⟨⟨by omega, by omega⟩, ⟨by omega, by omega⟩⟩, fun g5 => yes (Or.inr ⟨hq.1, by omega, hc.1, by omega, Decidable.not_not.mp g2, Decidable.not_not.mp g3, cmp_eq.mp (Decidable.not_not.mp g4), fun z => g5 z.1⟩) _, fun g5 => ⟨⟨⟨by omega, by omega⟩, ⟨by omega, by omega⟩⟩, fun g6 => no (by omega) (fun z => z.2.2.2.2.2.2.2 ⟨Decidable.not_not.mp g5, g6⟩) _, fun g6 => yes (Or.inr ⟨hq.1, by omega, hc.1, by omega, Decidable.not_not.mp g2, Decidable.not_not.mp g3, cmp_eq.mp (Decidable.not_not.mp g4), fun z => g6 z.2⟩) _⟩⟩⟩⟩⟩⟩⟩
          exact rh_161_21 ⟨⟨hu.1, by omega⟩, ⟨⟨by omega, by omega⟩, ⟨by omega, by omega⟩⟩, fun g => absurd g (by omega), fun _ => hcols _ 0 b _ ⟨by omega, hwu.1⟩ rfl hb2 ⟨fun g => by
            obtain ⟨u', q', c', g1, g2⟩ := hi2.mp g
            exact ⟨u', q', c', by omega, g2⟩, fun g => by
            obtain ⟨u', q', c', g1, g2⟩ := g
            refine hi2.mpr ⟨u', q', c', ?_, g2⟩
            rcases g1 with z | z | z
            · exact Or.inl z
            · exact Or.inr z
            · have := g2.2.2.1
              omega⟩⟩
      exact rh_161_15 ⟨⟨⟨by omega, by omega⟩, ⟨by omega, by omega⟩⟩, fun g => absurd g (by omega), fun _ => hrows _ 0 b _ _ ⟨by omega, hnu.1⟩ rfl hb ⟨fun g => by
        obtain ⟨u', q', c', g1, g2⟩ := hi.mp g
        exact ⟨u', q', c', Or.inl g1, g2⟩, fun g => by
        obtain ⟨u', q', c', g1, g2⟩ := g
        refine hi.mpr ⟨u', q', c', ?_, g2⟩
        rcases g1 with z | z
        · exact z
        · have := g2.1
          omega⟩⟩
  exact rb_161_0 ⟨⟨by omega, by omega⟩, h _ 0 0 none none ⟨by omega, hT.1⟩ rfl (Or.inl rfl) ⟨fun g => absurd g (by decide), fun g => by
    obtain ⟨u', q', c', g1, g2⟩ := g
    omega⟩⟩
theorem div_nn {a b : Int} (ha : 0 ≤ a ∧ a ≤ 2147483647) (hb : 0 < b ∧ b ≤ 2147483647) : ai_div a b = a / b := by
  unfold ai_div
  have hb4 : ai_r b := ⟨by omega, hb.2⟩
  have hne : Int32.ofInt b ≠ -1 := fun h => by
    have h1 : (Int32.ofInt b).toInt = (-1 : Int32).toInt := congrArg _ h
    rw [ai_32 hb4] at h1
    have h2 : (-1 : Int32).toInt = -1 := rfl
    omega
  rw [Int32.toInt_div_of_ne_right _ _ hne, ai_32 ⟨by omega, ha.2⟩, ai_32 hb4, Int.tdiv_eq_ediv_of_nonneg ha.1]
theorem rem60 {a : Int} (ha : 0 ≤ a ∧ a ≤ 2147483647) : ai_rem a 60 = a % 60 := by
  have hd := div_nn (b := 60) ha (by decide)
  unfold ai_div at hd
  unfold ai_rem
  rw [Int32.toInt_sub, Int32.toInt_mul, hd, ai_32 ⟨by omega, ha.2⟩, ai_32 (x := 60) ⟨by decide, by decide⟩]
  rw [Int.bmod_eq_of_le_mul_two (x := a / 60 * 60) (by omega) (by omega), Int.bmod_eq_of_le_mul_two (by omega) (by omega)]
  omega
theorem rem5 {a : Int} (ha : 0 ≤ a ∧ a ≤ 2147483647) : ai_rem a 5 = a % 5 := by
  have hd := div_nn (b := 5) ha (by decide)
  unfold ai_div at hd
  unfold ai_rem
  rw [Int32.toInt_sub, Int32.toInt_mul, hd, ai_32 ⟨by omega, ha.2⟩, ai_32 (x := 5) ⟨by decide, by decide⟩]
  rw [Int.bmod_eq_of_le_mul_two (x := a / 5 * 5) (by omega) (by omega), Int.bmod_eq_of_le_mul_two (by omega) (by omega)]
  omega
/-- the cell k belongs to another table and refers to t -/
def HCp (T : Int) (w pa mn no : Int → Int) (t k : Int) : Prop := ¬ k / 60 = t ∧ k / 60 < T ∧ k % 60 / 5 < mn (k / 60) ∧ k % 5 < w (k / 60) ∧ pa (5 * (k / 60) + k % 5) = t ∧ no k = 0
theorem rf_hasChild {sc : Int × (Int → Int)} {σ : ai_S} {Q : ai_O → Prop} {t : Int} (ht : 0 ≤ t ∧ t < 5) (hT : 0 ≤ σ 59 1 ∧ σ 59 1 ≤ 5) (hw : ∀ u, 0 ≤ σ 60 u ∧ σ 60 u ≤ 5) (hp : ∀ j, -1 ≤ σ 63 j ∧ σ 63 j < 5) (hn : ∀ u, 0 ≤ σ 64 u ∧ σ 64 u ≤ 12) (hno : ∀ j, 0 ≤ j → j < 300 → ai_r (σ 66 j)) (hQ : ∀ b, (b = 0 ∨ b = 1) → (b = 1 ↔ ∃ k, (0 ≤ k ∧ k < 300) ∧ HCp (σ 59 1) (σ 60) (σ 63) (σ 64) (σ 66) t k) → Q (.inl (some (.inl b)), (92, [], σ))) : ai_wp sc 170 0 [some (.inr (.inr 59)), some (.inl t), none, none, none, none] [] (0, 0) (92, [], σ) Q := by
  have h : ∀ (n : Nat) (k b : Int) (x y : Option ai_V), 0 ≤ k ∧ k ≤ 300 → (300 - k).toNat = n → (b = 0 ∨ b = 1) → sn b (∃ k', (0 ≤ k' ∧ k' < k) ∧ HCp (σ 59 1) (σ 60) (σ 63) (σ 64) (σ 66) t k') → ai_wp sc 170 4 [some (.inr (.inr 59)), some (.inl t), some (.inl b), some (.inl k), x, y] [] (0, 0) (92, [], σ) Q := by
    intro n
    induction n with
    | zero =>
      intro k b x y hk hm hb hi
      have e : k = 300 := by omega
      subst e
      exact rh_170_4 ⟨⟨⟨by decide, by decide⟩, ⟨by decide, by decide⟩⟩, fun _ => ⟨⟨by omega, by omega⟩, hQ b hb hi⟩, fun g => absurd (by decide) g⟩
    | succ n ih =>
      intro k b x y hk hm hb hi
      have e60 : ai_div k 60 = k / 60 := div_nn ⟨hk.1, by omega⟩ (by decide)
      have er60 : ai_rem k 60 = k % 60 := rem60 ⟨hk.1, by omega⟩
      have er5 : ai_rem k 5 = k % 5 := rem5 ⟨hk.1, by omega⟩
      have ed5 : ai_div (k % 60) 5 = k % 60 / 5 := div_nn ⟨by omega, by omega⟩ (by decide)
      have hwu := hw (k / 60)
      have hnu := hn (k / 60)
      have hpc := hp (5 * (k / 60) + k % 5)
      have yes : (b = 1 ∨ HCp (σ 59 1) (σ 60) (σ 63) (σ 64) (σ 66) t k) → ∀ x y, ai_wp sc 170 4 [some (.inr (.inr 59)), some (.inl t), some (.inl 1), some (.inl (k + 1)), x, y] [] (0, 0) (92, [], σ) Q := by
        intro g x y
        refine ih (k + 1) 1 x y (by omega) (by omega) (Or.inr rfl) ⟨fun _ => ?_, fun _ => rfl⟩
        rcases g with g | g
        · obtain ⟨k', g1, g2⟩ := hi.mp g
          exact ⟨k', by omega, g2⟩
        · exact ⟨k, by omega, g⟩
      have no : b = 0 → ¬ HCp (σ 59 1) (σ 60) (σ 63) (σ 64) (σ 66) t k → ∀ x y, ai_wp sc 170 4 [some (.inr (.inr 59)), some (.inl t), some (.inl 0), some (.inl (k + 1)), x, y] [] (0, 0) (92, [], σ) Q := by
        intro g g2 x y
        refine ih (k + 1) 0 x y (by omega) (by omega) (Or.inl rfl) ⟨fun z => absurd z (by decide), fun z => ?_⟩
        obtain ⟨k', z1, z2⟩ := z
        by_cases e : k' = k
        · rw [e] at z2
          exact absurd z2 g2
        · have := hi.mpr ⟨k', by omega, z2⟩
          omega
      refine rh_170_4 ⟨⟨⟨by omega, by omega⟩, ⟨by decide, by decide⟩⟩, fun g => absurd g (by omega), fun _ => ?_⟩
      rw [e60, er60, er5, ed5]
      exact ⟨⟨⟨by decide, by decide⟩, by decide⟩, ⟨⟨by decide, by decide⟩, by decide⟩, ⟨by omega, by omega⟩, fun g => yes (Or.inl (by omega)) _ _, fun g => ⟨⟨⟨by omega, by omega⟩, ⟨by omega, by omega⟩⟩, fun g2 => no (by omega) (fun z => z.1 g2) _ _, fun g2 => ⟨⟨⟨by omega, by omega⟩, ⟨by omega, by omega⟩⟩, fun g3 => no (by omega) (fun z => by have := z.2.1; omega) _ _, fun g3 => ⟨⟨⟨by decide, by decide⟩, by decide⟩, ⟨⟨by decide, by decide⟩, by decide⟩, ⟨by omega, by omega⟩, ⟨⟨by omega, by omega⟩, ⟨by omega, by omega⟩⟩, fun g4 => no (by omega) (fun z => by have := z.2.2.1; omega) _ _, fun g4 => ⟨⟨by omega, by omega⟩, ⟨⟨by omega, by omega⟩, ⟨by omega, by omega⟩⟩, fun g5 => no (by omega) (fun z => by have := z.2.2.2.1; omega) _ _, fun g5 => ⟨⟨by omega, by omega⟩, ⟨⟨by omega, by omega⟩, ⟨by omega, by omega⟩⟩, fun g6 => no (by omega) (fun z => g6 z.2.2.2.2.1) _ _, fun g6 => ⟨⟨by omega, by omega⟩, hno _ (by omega) (by omega), fun g7 => no (by omega) (fun z => g7 z.2.2.2.2.2) _ _, fun g7 => yes (Or.inr ⟨g2, by omega, by omega, by omega, Decidable.not_not.mp g6, Decidable.not_not.mp g7⟩) _ _⟩⟩⟩⟩⟩⟩⟩
  exact rb_170_0 (h _ 0 0 none none ⟨by decide, by decide⟩ rfl (Or.inl rfl) ⟨fun g => absurd g (by decide), fun g => by
    obtain ⟨k', g1, g2⟩ := g
    omega⟩)
