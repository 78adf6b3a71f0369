/-! APPLY: the checks of a row, and what a check that does not hold leaves. -/
def isFst (n : Int) (P : Int → Prop) (m : Int) : Prop := (m = -1 ∧ ∀ c, 0 ≤ c → c < n → ¬ P c) ∨ ((0 ≤ m ∧ m < n) ∧ P m ∧ ∀ c, 0 ≤ c → c < m → ¬ P c)
theorem isFst_total (n : Int) (P : Int → Prop) : ∃ m, isFst n P m := by
  have h : ∀ k : Nat, (∀ c, 0 ≤ c → c < (k : Int) → ¬ P c) ∨ ∃ m, (0 ≤ m ∧ m < (k : Int)) ∧ P m ∧ ∀ c, 0 ≤ c → c < m → ¬ P c := by
    intro k
    induction k with
    | zero => exact Or.inl (fun c h1 h2 => absurd h2 (by omega))
    | succ k ih =>
      rcases ih with ih | ⟨m, m1, m2, m3⟩
      · rcases Classical.em (P (k : Int)) with hp | hp
        · exact Or.inr ⟨k, ⟨by omega, by omega⟩, hp, ih⟩
        · refine Or.inl (fun c h1 h2 => ?_)
          by_cases e : c = (k : Int)
          · rw [e]
            exact hp
          · exact ih c h1 (by omega)
      · exact Or.inr ⟨m, ⟨m1.1, by omega⟩, m2, m3⟩
  by_cases hn : 0 ≤ n
  · rcases h n.toNat with h1 | ⟨m, m1, m2, m3⟩
    · exact ⟨-1, Or.inl ⟨rfl, fun c c1 c2 => h1 c c1 (by omega)⟩⟩
    · exact ⟨m, Or.inr ⟨⟨m1.1, by omega⟩, m2, m3⟩⟩
  · exact ⟨-1, Or.inl ⟨rfl, fun c c1 c2 => absurd c2 (by omega)⟩⟩
theorem isFst_none {n m : Int} {P : Int → Prop} (h : isFst n P m) (g : ∀ c, 0 ≤ c → c < n → ¬ P c) : m = -1 := by
  rcases h with ⟨h1, _⟩ | ⟨h1, h2, _⟩
  · exact h1
  · exact absurd h2 (g m h1.1 h1.2)
theorem isFst_at {n m k : Int} {P : Int → Prop} (h : isFst n P m) (hk : 0 ≤ k ∧ k < n) (hp : P k) (g : ∀ c, 0 ≤ c → c < k → ¬ P c) : m = k := by
  rcases h with ⟨h1, h2⟩ | ⟨h1, h2, h3⟩
  · exact absurd hp (h2 k hk.1 hk.2)
  · have a1 : ¬ m < k := fun q => g m h1.1 q h2
    have a2 : ¬ k < m := fun q => h3 k hk.1 q hp
    omega
theorem isFst_congr {n m : Int} {P R : Int → Prop} (h : isFst n P m) (g : ∀ c, 0 ≤ c → c < n → (P c ↔ R c)) : isFst n R m := by
  rcases h with ⟨h1, h2⟩ | ⟨h1, h2, h3⟩
  · exact Or.inl ⟨h1, fun c c1 c2 q => h2 c c1 c2 ((g c c1 c2).mpr q)⟩
  · exact Or.inr ⟨h1, (g m h1.1 h1.2).mp h2, fun c c1 c2 q => h3 c c1 c2 ((g c c1 (by omega)).mpr q)⟩
theorem isFst_rng {n m : Int} {P : Int → Prop} (h : isFst n P m) (hn : n ≤ 5) : -1 ≤ m ∧ m < 5 := by
  rcases h with ⟨h1, _⟩ | ⟨h1, _⟩ <;> omega
/-- required, and nothing there -/
def Mis (rq : Int → Int) (t x c : Int) : Prop := ¬ rq (5 * t + c) = 0 ∧ tb x c = true
theorem cf_missing {sc : Int × (Int → Int)} {σ : ai_S} {t m : Int} (ht : 0 ≤ t ∧ t < 5) (hw : 0 ≤ σ 4 t ∧ σ 4 t ≤ 5) (hrq : ∀ j, 0 ≤ σ 7 j ∧ σ 7 j ≤ 1) (hx : 0 ≤ σ 32 1 ∧ σ 32 1 < 32) (hm : isFst (σ 4 t) (Mis (σ 7) t (σ 32 1)) m) : fn sc 44 [some (.inr (.inr 1)), some (.inl t), none] σ (some (.inl m)) σ := by
  intro Q hQ
  have loop : ∀ (n : Nat) (c : Int), 0 ≤ c → c + (n : Int) = σ 4 t → (∀ j, 0 ≤ j → j < c → ¬ Mis (σ 7) t (σ 32 1) j) → ai_wp sc 44 2 [some (.inr (.inr 1)), some (.inl t), some (.inl c)] [] (0, 0) (92, [], σ) Q := by
    intro n
    induction n with
    | zero =>
      intro c hc hn hb
      have e : m = -1 := isFst_none hm (fun j j1 j2 => hb j j1 (by omega))
      rw [e] at hQ
      exact rb_44_2 (ai_ret_q (pc_94 ht (ai_k_in (rb_44_7 ⟨⟨⟨by omega, by omega⟩, ⟨by omega, by omega⟩⟩, fun _ => hQ, fun g => absurd (show σ 4 t ≤ c by omega) g⟩))))
    | succ n ih =>
      intro c hc hn hb
      have e5 : t * 5 + c = 5 * t + c := by omega
      have hc5 : 0 ≤ c ∧ c < 5 := ⟨hc, by omega⟩
      have hq := hrq (t * 5 + c)
      have next : ¬ Mis (σ 7) t (σ 32 1) c → ai_wp sc 44 2 [some (.inr (.inr 1)), some (.inl t), some (.inl (c + 1))] [] (0, 0) (92, [], σ) Q := fun hno => ih (c + 1) (by omega) (by omega) (fun j j1 j2 => by
        by_cases e : j = c
        · rw [e]
          exact hno
        · exact hb j j1 (by omega))
      refine rb_44_2 (ai_ret_q (pc_94 ht (ai_k_in (rb_44_7 ⟨⟨⟨by omega, by omega⟩, ⟨by omega, by omega⟩⟩, fun g => absurd (show σ 4 t ≤ c from g) (by omega), fun _ => ai_ret_q (pc_97 ⟨⟨by omega, by omega⟩, hq⟩ (ai_k_in (rb_44_13 ⟨⟨by omega, by omega⟩, fun g => next (fun q => q.1 (e5 ▸ g)), fun g => ai_ret_q (pc_90 (ai_k_in (rb_44_18 ⟨bi_r _, fun z => next (fun q => bi_no z ((bit_ne hx hc5).mpr q.2)), fun z => ?_⟩)))⟩)))⟩))))
      have e : m = c := isFst_at hm ⟨hc, by omega⟩ ⟨fun q => g (e5 ▸ q), (bit_ne hx hc5).mp (bi_yes z)⟩ hb
      rw [← e]
      exact hQ
  exact rb_44_0 (loop (σ 4 t).toNat 0 (by omega) (by omega) (fun j j1 j2 => absurd j2 (by omega)))
/-- a reference to no row -/
def Orp (pa cn ce : Int → Int) (t x : Int) (f : Int → Int) (c : Int) : Prop := ¬ pa (5 * t + c) = -1 ∧ tb x c = false ∧ ¬ (pa (5 * t + c) = t ∧ f c = f 0) ∧ ¬ kin cn ce (pa (5 * t + c)) (f c)
theorem isRow_kin {cn ce : Int → Int} {p x r : Int} (h : isRow (cn p) (fun q => ce (60 * p + 5 * q)) x r) : (r = -1 ↔ ¬ kin cn ce p x) ∧ -1 ≤ r ∧ r < cn p ∨ (r = -1 ∧ ¬ kin cn ce p x) := by
  rcases h with ⟨h1, h2⟩ | ⟨h1, h2, h3⟩
  · exact Or.inr ⟨h1, fun ⟨q, q1, q2, q3⟩ => h2 q q1 q2 q3⟩
  · exact Or.inl ⟨⟨fun e => absurd h1 (by omega), fun g => absurd ⟨r, h1, h2, h3⟩ g⟩, by omega, h2⟩
theorem isRow_iff {cn ce : Int → Int} {p x r : Int} (h : isRow (cn p) (fun q => ce (60 * p + 5 * q)) x r) : r = -1 ↔ ¬ kin cn ce p x := by
  rcases isRow_kin h with h | h
  · exact h.1
  · exact ⟨fun _ => h.2, fun _ => h.1⟩
theorem isRow_rng {n x r : Int} {key : Int → Int} (h : isRow n key x r) (hn : n ≤ 12) : ai_r r ∧ (r = -1 ∨ (0 ≤ r ∧ r < 12)) := by
  rcases h with ⟨h1, _⟩ | ⟨h1, h2, _⟩
  · exact ⟨⟨by omega, by omega⟩, Or.inl h1⟩
  · exact ⟨⟨by omega, by omega⟩, Or.inr ⟨h1, by omega⟩⟩
theorem cf_orphan {sc : Int × (Int → Int)} {σ : ai_S} {t m : Int} (ht : 0 ≤ t ∧ t < 5) (hw : 0 ≤ σ 4 t ∧ σ 4 t ≤ 5) (hp : ∀ j, -1 ≤ σ 6 j ∧ σ 6 j < 5) (hx : 0 ≤ σ 32 1 ∧ σ 32 1 < 32) (hn9 : ∀ u, 0 ≤ σ 9 u ∧ σ 9 u ≤ 12) (h8 : ∀ j, ai_r8 (σ 10 j)) (hf8 : ∀ c, 0 ≤ c → c < 5 → ai_r8 (σ 33 c)) (hm : isFst (σ 4 t) (Orp (σ 6) (σ 9) (σ 10) t (σ 32 1) (σ 33)) m) : fn sc 45 [some (.inr (.inr 1)), some (.inl t), none, none, none, none, none] σ (some (.inl m)) σ := by
  intro Q hQ
  have loop : ∀ (n : Nat) (c : Int) (x3 x4 x5 x6 : Option ai_V), 0 ≤ c → c + (n : Int) = σ 4 t → (∀ j, 0 ≤ j → j < c → ¬ Orp (σ 6) (σ 9) (σ 10) t (σ 32 1) (σ 33) j) → ai_wp sc 45 2 [some (.inr (.inr 1)), some (.inl t), some (.inl c), x3, x4, x5, x6] [] (0, 0) (92, [], σ) Q := by
    intro n
    induction n with
    | zero =>
      intro c x3 x4 x5 x6 hc hn hb
      have e : m = -1 := isFst_none hm (fun j j1 j2 => hb j j1 (by omega))
      rw [e] at hQ
      exact rh_45_2 (ai_ret_q (pc_94 ht (ai_k_in (rb_45_7 ⟨⟨⟨by omega, by omega⟩, ⟨by omega, by omega⟩⟩, fun _ => hQ, fun g => absurd (show σ 4 t ≤ c by omega) g⟩))))
    | succ n ih =>
      intro c x3 x4 x5 x6 hc hn hb
      have e5 : t * 5 + c = 5 * t + c := by omega
      have hc5 : 0 ≤ c ∧ c < 5 := ⟨hc, by omega⟩
      have hpp := hp (5 * t + c)
      have next : ¬ Orp (σ 6) (σ 9) (σ 10) t (σ 32 1) (σ 33) c → ∀ y3 y4 y5 y6, ai_wp sc 45 2 [some (.inr (.inr 1)), some (.inl t), some (.inl (c + 1)), y3, y4, y5, y6] [] (0, 0) (92, [], σ) Q := fun hno y3 y4 y5 y6 => ih (c + 1) y3 y4 y5 y6 (by omega) (by omega) (fun j j1 j2 => by
        by_cases e : j = c
        · rw [e]
          exact hno
        · exact hb j j1 (by omega))
      have rm : ai_r (-1) := ⟨by decide, by decide⟩
      have z5 : (0 : Int) ≤ 0 ∧ (0 : Int) < 5 := ⟨by decide, by decide⟩
      have rp : ai_r (σ 6 (5 * t + c)) := ⟨by omega, by omega⟩
      have rt : ai_r t := ⟨by omega, by omega⟩
      have tail : ∀ v6 : Int, (v6 = 0 ∨ v6 = 1) → (v6 = 1 → σ 6 (5 * t + c) = t ∧ σ 33 c = σ 33 0) → (v6 = 0 → ¬ (σ 6 (5 * t + c) = t ∧ σ 33 c = σ 33 0)) → ¬ σ 6 (5 * t + c) = -1 → ai_wp sc 45 42 [some (.inr (.inr 1)), some (.inl t), some (.inl c), some (.inl (σ 6 (5 * t + c))), some (.inr (.inl (σ 33 c))), none, some (.inl v6)] [.inl (bi (¬ ai_and (ai_shr (σ 32 1) c) 1 = 0))] (0, 0) (92, [], σ) Q := by
        intro v6 h01 hy hno hne
        refine rb_45_42 ⟨bi_r _, fun g => next (fun q => ?_) _ _ _ _, fun g => ⟨⟨by omega, by omega⟩, fun h6 => next (fun q => q.2.2.1 (hy (by omega))) _ _ _ _, fun h6 => ai_ret_q (cf_find ⟨by omega, by omega⟩ (hn9 _) h8 (hf8 c hc5.1 hc5.2) (fun r hrow => ai_k_in (rb_45_50 ⟨⟨(isRow_rng hrow (hn9 _).2).1, rm⟩, fun z => next (fun q => z ((isRow_iff hrow).mpr q.2.2.2)) _ _ _ _, fun z => ?_⟩)))⟩⟩
        · have b1 := (bit_ne hx hc5).mp (bi_yes g)
          have b2 := q.2.1
          rw [b1] at b2
          exact absurd b2 (by decide)
        · have b1 : ¬ ¬ ai_and (ai_shr (σ 32 1) c) 1 = 0 := bi_no2 g
          have b2 : tb (σ 32 1) c = false := (bit_eq hx hc5).mp (Decidable.not_not.mp b1)
          have e : m = c := isFst_at hm ⟨hc, by omega⟩ ⟨hne, b2, hno (by omega), (isRow_iff hrow).mp (Decidable.not_not.mp z)⟩ hb
          rw [← e]
          exact hQ
      refine rh_45_2 (ai_ret_q (pc_94 ht (ai_k_in (rb_45_7 ⟨⟨⟨by omega, by omega⟩, ⟨by omega, by omega⟩⟩, fun g => absurd (show σ 4 t ≤ c from g) (by omega), fun _ => ai_ret_q (pc_96 ⟨by omega, by omega⟩ (ai_k_in ?_))⟩))))
      rw [e5]
      refine rb_45_13 ⟨hc5, ⟨rp, rt⟩, fun h1 => ⟨⟨rp, rm⟩, fun h2 => next (fun q => q.1 h2) _ _ _ _, fun h2 => ai_ret_q (pc_90 (ai_k_in (tail 0 (Or.inl rfl) (fun q => absurd q (by decide)) (fun _ q => h1 q.1) h2)))⟩, fun h1 => ⟨z5, ⟨hf8 c hc5.1 hc5.2, hf8 0 (by decide) (by decide)⟩, cmp_r _ _, fun h3 => ⟨⟨rp, rm⟩, fun h2 => next (fun q => q.1 h2) _ _ _ _, fun h2 => ai_ret_q (pc_90 (ai_k_in (tail 0 (Or.inl rfl) (fun q => absurd q (by decide)) (fun _ q => h3 (cmp_eq.mpr q.2)) h2)))⟩, fun h3 => ⟨⟨rp, rm⟩, fun h2 => next (fun q => q.1 h2) _ _ _ _, fun h2 => ai_ret_q (pc_90 (ai_k_in (tail 1 (Or.inr rfl) (fun _ => ⟨Decidable.not_not.mp h1, cmp_eq.mp (Decidable.not_not.mp h3)⟩) (fun q => absurd q (by decide)) h2)))⟩⟩⟩
  exact rb_45_0 (loop (σ 4 t).toNat 0 _ _ _ _ (by omega) (by omega) (fun j j1 j2 => absurd j2 (by omega)))
/-- what a check leaves -/
def wy (y : Int → Int) (a b c d : Int) : Int → Int := fun j => if j = 3 then d else if j = 2 then c else if j = 1 then b else if j = 0 then a else y j
theorem wy_up {σ : ai_S} {p : Nat} {a b c d : Int} : ai_set (ai_set (ai_set (ai_set σ p 0 a) p 1 b) p 2 c) p 3 d = up σ p (wy (σ p) a b c d) := by
  have e : σ = up σ p (σ p) := up_id.symm
  have h : ai_set (ai_set (ai_set (ai_set (up σ p (σ p)) p 0 a) p 1 b) p 2 c) p 3 d = up σ p (wy (σ p) a b c d) := by
    rw [up_s, up_s, up_s, up_s]
    rfl
  rw [← e] at h
  exact h
theorem wy_r {y : Int → Int} {a b c d : Int} (hy : ∀ j, ai_r (y j)) (ha : ai_r a) (hb : ai_r b) (hc : ai_r c) (hd : ai_r d) : ∀ j, ai_r (wy y a b c d j) := by
  intro j
  unfold wy
  repeat' split
  all_goals first | exact ha | exact hb | exact hc | exact hd | exact hy j
theorem cf_setf {sc : Int × (Int → Int)} {σ : ai_S} {a b c d : Int} : fn sc 48 [some (.inr (.inr 1)), some (.inl a), some (.inl b), some (.inl c), some (.inl d)] σ none (up σ 27 (wy (σ 27) a b c d)) := by
  intro Q hQ
  rw [← wy_up] at hQ
  exact rb_48_0 ⟨⟨by decide, by decide⟩, ⟨by decide, by decide⟩, ⟨by decide, by decide⟩, ⟨by decide, by decide⟩, hQ⟩
theorem cf_fail {sc : Int × (Int → Int)} {σ : ai_S} {a b c d : Int} : fn sc 47 [some (.inr (.inr 1)), some (.inl a), some (.inl b), some (.inl c), some (.inl d)] σ (some (.inl 0)) (up σ 27 (wy (σ 27) a b c d)) := fun _ hQ => rb_47_0 (fn_ret cf_setf (rb_47_6 ⟨⟨by decide, by decide⟩, hQ⟩))
theorem rf_because {sc : Int × (Int → Int)} {σ : ai_S} {a b c d : Int} : fn sc 158 [some (.inr (.inr 59)), some (.inl a), some (.inl b), some (.inl c), some (.inl d)] σ (some (.inl 0)) (up σ 85 (wy (σ 85) a b c d)) := by
  intro Q hQ
  rw [← wy_up] at hQ
  exact rb_158_0 ⟨⟨by decide, by decide⟩, ⟨by decide, by decide⟩, ⟨by decide, by decide⟩, ⟨by decide, by decide⟩, ⟨by decide, by decide⟩, hQ⟩
theorem rf_check_2 {sc : Int × (Int → Int)} {σ : ai_S} {Q : ai_O → Prop} {t r m x : Int} (ht : 0 ≤ t ∧ t < 5) (hw : 0 ≤ σ 60 t ∧ σ 60 t ≤ 5) (hp : ∀ j, -1 ≤ σ 63 j ∧ σ 63 j < 5) (hx : 0 ≤ x ∧ x < 32) (hb : ∀ c, 0 ≤ c → c < 5 → σ 87 c = bi (tb x c = true)) (hn9 : ∀ u, 0 ≤ σ 64 u ∧ σ 64 u ≤ 12) (h8 : ∀ j, ai_r8 (σ 65 j)) (hf8 : ∀ c, 0 ≤ c → c < 5 → ai_r8 (σ 86 c)) (hm : isFst (σ 60 t) (Orp (σ 63) (σ 64) (σ 65) t x (σ 86)) m) (hQ1 : ¬ m = -1 → Q (.inl (some (.inl 0)), (92, [], up σ 85 (wy (σ 85) 3 t r m)))) (hQ2 : m = -1 → Q (.inl (some (.inl 1)), (92, [], σ))) : ∀ (n : Nat) (c : Int) (x4 : Option ai_V), 0 ≤ c → c + (n : Int) = σ 60 t → (∀ j, 0 ≤ j → j < c → ¬ Orp (σ 63) (σ 64) (σ 65) t x (σ 86) j) → ai_wp sc 165 33 [some (.inr (.inr 59)), some (.inl t), some (.inl r), some (.inl c), x4] [] (0, 0) (92, [], σ) Q := by
  intro n
  induction n with
  | zero =>
    intro c x4 hc hn hbl
    have e : m = -1 := isFst_none hm (fun j j1 j2 => hbl j j1 (by omega))
    exact rh_165_33 ⟨ht, ⟨⟨by omega, by omega⟩, ⟨by omega, by omega⟩⟩, fun _ => ⟨⟨by decide, by decide⟩, hQ2 e⟩, fun g => absurd (show σ 60 t ≤ c by omega) g⟩
  | succ n ih =>
    intro c x4 hc hn hbl
    have hc5 : 0 ≤ c ∧ c < 5 := ⟨hc, by omega⟩
    have hpp := hp (5 * t + c)
    have hb1 := hb c hc5.1 hc5.2
    have next : ¬ Orp (σ 63) (σ 64) (σ 65) t x (σ 86) c → ∀ y4, ai_wp sc 165 33 [some (.inr (.inr 59)), some (.inl t), some (.inl r), some (.inl (c + 1)), y4] [] (0, 0) (92, [], σ) Q := fun hno y4 => ih (c + 1) y4 (by omega) (by omega) (fun j j1 j2 => by
      by_cases e : j = c
      · rw [e]
        exact hno
      · exact hbl j j1 (by omega))
    have rm : ai_r (-1) := ⟨by decide, by decide⟩
    have z5 : (0 : Int) ≤ 0 ∧ (0 : Int) < 5 := ⟨by decide, by decide⟩
    have rp : ai_r (σ 63 (5 * t + c)) := ⟨by omega, by omega⟩
    have rt : ai_r t := ⟨by omega, by omega⟩
    have r87 : ai_r (σ 87 c) := by
      rw [hb1]
      exact bi_r _
    have fnd : ¬ σ 63 (5 * t + c) = -1 → tb x c = false → ¬ (σ 63 (5 * t + c) = t ∧ σ 86 c = σ 86 0) → ai_ret (ai_wp sc) 159 [some (.inr (.inr 59)), some (.inl (σ 63 (5 * t + c))), some (.inr (.inl (σ 86 c))), none, none, none] (92, [], σ) (fun v h' => ai_ck (ai_zz 92 h'.1 0) (ai_wp sc 165 77 [some (.inr (.inr 59)), some (.inl t), some (.inl r), some (.inl c), some (.inl (σ 63 (5 * t + c)))] (v.toList ++ []) (0, 0) h' Q)) := by
      intro g1 g2 g3
      refine ai_ret_q (rf_find ⟨by omega, by omega⟩ (hn9 _) h8 (hf8 c hc5.1 hc5.2) (fun q hrow => ai_k_in (rb_165_77 ⟨⟨(isRow_rng hrow (hn9 _).2).1, rm⟩, fun z => next (fun k => z ((isRow_iff hrow).mpr k.2.2.2)) _, fun z => fn_ret rf_because (rb_165_85 ⟨⟨by decide, by decide⟩, ?_⟩)⟩)))
      have e : m = c := isFst_at hm ⟨hc, by omega⟩ ⟨g1, g2, g3, (isRow_iff hrow).mp (Decidable.not_not.mp z)⟩ hbl
      rw [← e]
      exact hQ1 (by omega)
    have nul : ¬ σ 87 c = 0 → ¬ Orp (σ 63) (σ 64) (σ 65) t x (σ 86) c := by
      intro g q
      rw [hb1, q.2.1] at g
      exact g (bi_eq0.mpr (by decide))
    have nn : ¬ ¬ σ 87 c = 0 → tb x c = false := by
      intro g
      have g2 : bi (tb x c = true) = 0 := hb1 ▸ Decidable.not_not.mp g
      simpa using bi_no g2
    exact rh_165_33 ⟨ht, ⟨⟨by omega, by omega⟩, ⟨by omega, by omega⟩⟩, fun g => absurd (show σ 60 t ≤ c from g) (by omega), fun _ => ⟨⟨by omega, by omega⟩, ⟨rp, rm⟩, fun g => next (fun q => q.1 g) _, fun g1 => ⟨hc5, r87, fun g => next (nul g) _, fun g2 => ⟨⟨rp, rt⟩, fun g3 => ⟨hc5, fnd g1 (nn g2) (fun q => g3 q.1)⟩, fun g3 => ⟨hc5, z5, ⟨hf8 c hc5.1 hc5.2, hf8 0 (by decide) (by decide)⟩, cmp_r _ _, fun g4 => ⟨hc5, fnd g1 (nn g2) (fun q => g4 (cmp_eq.mpr q.2))⟩, fun g4 => next (fun q => q.2.2.1 ⟨Decidable.not_not.mp g3, cmp_eq.mp (Decidable.not_not.mp g4)⟩) _⟩⟩⟩⟩⟩
theorem rf_check_1 {sc : Int × (Int → Int)} {σ : ai_S} {Q : ai_O → Prop} {t r m x : Int} (ht : 0 ≤ t ∧ t < 5) (hw : 0 ≤ σ 60 t ∧ σ 60 t ≤ 5) (hrq : ∀ j, 0 ≤ σ 62 j ∧ σ 62 j ≤ 1) (hb : ∀ c, 0 ≤ c → c < 5 → σ 87 c = bi (tb x c = true)) (hm : isFst (σ 60 t) (Mis (σ 62) t x) m) (hQ1 : ¬ m = -1 → Q (.inl (some (.inl 0)), (92, [], up σ 85 (wy (σ 85) 1 t r m)))) (hQ2 : m = -1 → ai_wp sc 165 33 [some (.inr (.inr 59)), some (.inl t), some (.inl r), some (.inl 0), none] [] (0, 0) (92, [], σ) Q) : ∀ (n : Nat) (c : Int), 0 ≤ c → c + (n : Int) = σ 60 t → (∀ j, 0 ≤ j → j < c → ¬ Mis (σ 62) t x j) → ai_wp sc 165 2 [some (.inr (.inr 59)), some (.inl t), some (.inl r), some (.inl c), none] [] (0, 0) (92, [], σ) Q := by
  intro n
  induction n with
  | zero =>
    intro c hc hn hbl
    have e : m = -1 := isFst_none hm (fun j j1 j2 => hbl j j1 (by omega))
    exact rb_165_2 ⟨ht, ⟨⟨by omega, by omega⟩, ⟨by omega, by omega⟩⟩, fun _ => hQ2 e, fun g => absurd (show σ 60 t ≤ c by omega) g⟩
  | succ n ih =>
    intro c hc hn hbl
    have hc5 : 0 ≤ c ∧ c < 5 := ⟨hc, by omega⟩
    have hq := hrq (5 * t + c)
    have hb1 := hb c hc5.1 hc5.2
    have next : ¬ Mis (σ 62) t x c → ai_wp sc 165 2 [some (.inr (.inr 59)), some (.inl t), some (.inl r), some (.inl (c + 1)), none] [] (0, 0) (92, [], σ) Q := fun hno => ih (c + 1) (by omega) (by omega) (fun j j1 j2 => by
      by_cases e : j = c
      · rw [e]
        exact hno
      · exact hbl j j1 (by omega))
    have r87 : ai_r (σ 87 c) := by
      rw [hb1]
      exact bi_r _
    refine rb_165_2 ⟨ht, ⟨⟨by omega, by omega⟩, ⟨by omega, by omega⟩⟩, fun g => absurd (show σ 60 t ≤ c from g) (by omega), fun _ => ⟨⟨by omega, by omega⟩, ⟨by omega, by omega⟩, fun g => next (fun q => q.1 g), fun g1 => ⟨hc5, r87, fun g => next (fun q => ?_), fun g2 => fn_ret rf_because (rb_165_28 ⟨⟨by decide, by decide⟩, ?_⟩)⟩⟩⟩
    · have g2 : bi (tb x c = true) = 0 := hb1 ▸ g
      exact bi_no g2 q.2
    · have g3 : ¬ bi (tb x c = true) = 0 := hb1 ▸ g2
      have e : m = c := isFst_at hm ⟨hc, by omega⟩ ⟨g1, bi_yes g3⟩ hbl
      rw [← e]
      exact hQ1 (by omega)
theorem rf_check {sc : Int × (Int → Int)} {σ : ai_S} {Q : ai_O → Prop} {t r m n x : Int} (ht : 0 ≤ t ∧ t < 5) (hw : 0 ≤ σ 60 t ∧ σ 60 t ≤ 5) (hrq : ∀ j, 0 ≤ σ 62 j ∧ σ 62 j ≤ 1) (hp : ∀ j, -1 ≤ σ 63 j ∧ σ 63 j < 5) (hx : 0 ≤ x ∧ x < 32) (hb : ∀ c, 0 ≤ c → c < 5 → σ 87 c = bi (tb x c = true)) (hn9 : ∀ u, 0 ≤ σ 64 u ∧ σ 64 u ≤ 12) (h8 : ∀ j, ai_r8 (σ 65 j)) (hf8 : ∀ c, 0 ≤ c → c < 5 → ai_r8 (σ 86 c)) (hm : isFst (σ 60 t) (Mis (σ 62) t x) m) (hn : isFst (σ 60 t) (Orp (σ 63) (σ 64) (σ 65) t x (σ 86)) n) (hQ1 : ¬ m = -1 → Q (.inl (some (.inl 0)), (92, [], up σ 85 (wy (σ 85) 1 t r m)))) (hQ3 : m = -1 → ¬ n = -1 → Q (.inl (some (.inl 0)), (92, [], up σ 85 (wy (σ 85) 3 t r n)))) (hQ2 : m = -1 → n = -1 → Q (.inl (some (.inl 1)), (92, [], σ))) : ai_wp sc 165 0 [some (.inr (.inr 59)), some (.inl t), some (.inl r), none, none] [] (0, 0) (92, [], σ) Q :=
  rb_165_0 (rf_check_1 ht hw hrq hb hm hQ1 (fun e => rf_check_2 ht hw hp hx hb hn9 h8 hf8 hn (hQ3 e) (hQ2 e) (σ 60 t).toNat 0 none (by omega) (by omega) (fun j j1 j2 => absurd j2 (by omega))) (σ 60 t).toNat 0 (by omega) (by omega) (fun j j1 j2 => absurd j2 (by omega)))
theorem cf_note {sc : Int × (Int → Int)} {σ : ai_S} {n : Int} (ho : 0 ≤ σ 12 0 ∧ σ 12 0 ≤ 3) : fn sc 46 [some (.inr (.inr 1)), some (.inl n)] σ none (if σ 12 0 ≤ 0 then ai_set σ 1 4 (σ 1 4 + n) else ai_set (ai_set σ 1 4 (σ 1 4 + n)) 12 1 (σ 12 1 + n)) := by
  intro Q hQ
  refine rb_46_0 (ai_ret_q (rb_68_0 ⟨(show ai_r (σ 12 0) from ⟨by omega, by omega⟩), fun g => ai_k_in (rb_46_10 ?_), fun g => ai_k_in (rb_46_10 ?_)⟩))
  · rw [if_pos (show σ 12 0 ≤ 0 from g)] at hQ
    exact hQ
  · rw [if_neg (show ¬ σ 12 0 ≤ 0 from g)] at hQ
    exact hQ
theorem rf_log_1 {sc : Int × (Int → Int)} {σ : ai_S} {n : Int} (ho : 0 ≤ σ 59 13 ∧ σ 59 13 ≤ 3) (hl : 0 < σ 59 13 → ai_r (σ 59 14 + n) ∧ σ 59 14 + n ≤ 200) : fn sc 160 [some (.inr (.inr 59)), some (.inl n)] σ (some (.inl 1)) (ai_set (ai_set σ 59 14 (σ 59 14 + n)) 59 37 (σ 59 37 + n)) := by
  intro Q hQ
  refine rb_160_0 ⟨⟨by omega, by omega⟩, fun _ => ⟨⟨by decide, by decide⟩, hQ⟩, fun g => ⟨⟨(hl (by omega)).1, ⟨by decide, by decide⟩⟩, fun _ => ⟨⟨by decide, by decide⟩, hQ⟩, fun g2 => absurd (hl (by omega)).2 g2⟩⟩
theorem rf_log_0 {sc : Int × (Int → Int)} {σ : ai_S} {n : Int} (ho : 0 < σ 59 13 ∧ σ 59 13 ≤ 3) (hl : ai_r (σ 59 14 + n) ∧ 200 < σ 59 14 + n) : fn sc 160 [some (.inr (.inr 59)), some (.inl n)] σ (some (.inl 0)) σ := by
  intro Q hQ
  exact rb_160_0 ⟨⟨by omega, by omega⟩, fun g => absurd g (by omega), fun g => ⟨⟨hl.1, ⟨by decide, by decide⟩⟩, fun g2 => absurd g2 (by omega), fun _ => ⟨⟨by decide, by decide⟩, hQ⟩⟩⟩
