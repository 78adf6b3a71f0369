/-! READ: quoted texts, class and reference. -/
def qt (n : Int) (tx : Int → Int) : Nat → Int → Int → Int → Int × Int × Int × Int
  | 0, _, p, v => if p < n ∧ tx p = 39 then (if p + 1 < n ∧ tx (p + 1) = 39 then (1, 0, p + 1, v) else (1, 1, p + 1, v)) else (0, 0, p, v)
  | k + 1, i, p, v => if p < n ∧ 32 ≤ tx p ∧ tx p ≤ 126 then (if tx p = 39 then (if p + 1 < n ∧ tx (p + 1) = 39 then qt n tx k (i + 1) (p + 2) (ai_lor v (ai_lshl (tx p) (7 * (7 - i)))) else (1, 1, p + 1, v)) else qt n tx k (i + 1) (p + 1) (ai_lor v (ai_lshl (tx p) (7 * (7 - i))))) else (0, 0, p, v)
/-- the two answers are one, but for a quote behind eight characters -/
def okQ (n : Int) (tx : Int → Int) (a b p' : Int) : Prop := (a = 0 ∨ a = 1) ∧ (b = a ∨ (a = 1 ∧ b = 0 ∧ p' < n ∧ tx p' = 39))
theorem qt_ok {n : Int} {tx : Int → Int} : ∀ (k : Nat) (i p v : Int), 0 ≤ i → i + (k : Int) = 8 → p ≤ n → okT i v → okQ n tx (qt n tx k i p v).1 (qt n tx k i p v).2.1 (qt n tx k i p v).2.2.1 ∧ (p ≤ (qt n tx k i p v).2.2.1 ∧ (qt n tx k i p v).2.2.1 ≤ n) ∧ wfT (qt n tx k i p v).2.2.2 := by
  intro k
  induction k with
  | zero =>
    intro i p v hi hk hp h
    unfold qt
    split
    · rename_i g
      split
      · rename_i g2
        exact ⟨⟨Or.inr rfl, Or.inr ⟨rfl, rfl, g2.1, g2.2⟩⟩, ⟨by show p ≤ p + 1; omega, by show p + 1 ≤ n; omega⟩, okT_wf h⟩
      · exact ⟨⟨Or.inr rfl, Or.inl rfl⟩, ⟨by show p ≤ p + 1; omega, by show p + 1 ≤ n; omega⟩, okT_wf h⟩
    · exact ⟨⟨Or.inl rfl, Or.inl rfl⟩, ⟨Int.le_refl p, hp⟩, okT_wf h⟩
  | succ k ih =>
    intro i p v hi hk hp h
    unfold qt
    split
    · rename_i g
      split
      · split
        · rename_i g3
          obtain ⟨a1, a2, a3⟩ := ih (i + 1) (p + 2) (ai_lor v (ai_lshl (tx p) (7 * (7 - i)))) (by omega) (by omega) (by omega) (okT_add h ⟨hi, by omega⟩ ⟨by omega, by omega⟩)
          exact ⟨a1, ⟨by omega, a2.2⟩, a3⟩
        · exact ⟨⟨Or.inr rfl, Or.inl rfl⟩, ⟨by show p ≤ p + 1; omega, by show p + 1 ≤ n; omega⟩, okT_wf h⟩
      · obtain ⟨a1, a2, a3⟩ := ih (i + 1) (p + 1) (ai_lor v (ai_lshl (tx p) (7 * (7 - i)))) (by omega) (by omega) (by omega) (okT_add h ⟨hi, by omega⟩ ⟨by omega, by omega⟩)
        exact ⟨a1, ⟨by omega, a2.2⟩, a3⟩
    · exact ⟨⟨Or.inl rfl, Or.inl rfl⟩, ⟨Int.le_refl p, hp⟩, okT_wf h⟩
theorem cf_quoted {sc : Int × (Int → Int)} {σ : ai_S} {n : Int} {tx : Int → Int} {p y : Int} (hT : TX n tx) (hσ : cT σ n tx) (hp : 0 ≤ p ∧ p ≤ n) : fn sc 83 [some (.inr (.inr 34)), none, none] (RD σ p 0 y) (some (.inl (qt n tx 8 0 p 0).1)) (RD σ (qt n tx 8 0 p 0).2.2.1 (qt n tx 8 0 p 0).2.2.2 y) := by
  intro Q hQ
  have hn := hT.1
  have h : ∀ (m : Nat) (i q w : Int) (x : Option ai_V), 0 ≤ i → i + (m : Int) = 8 → (0 ≤ q ∧ q ≤ n) → Q (.inl (some (.inl (qt n tx m i q w).1)), (92, [], RD σ (qt n tx m i q w).2.2.1 (qt n tx m i q w).2.2.2 y)) → ai_wp sc 83 2 [some (.inr (.inr 34)), some (.inl i), x] [] (0, 0) (92, [], RD σ q w y) Q := by
    intro m
    induction m with
    | zero =>
      intro i q w x hi hm hq hh
      have hac := cf_accept (sc := sc) (x := w) (y := y) (c := 39) hT hσ hq (by decide)
      refine rh_83_2 ⟨⟨⟨by omega, by omega⟩, ⟨by decide, by decide⟩⟩, fun _ => fn_ret hac (rh_83_51 ?_), fun g => absurd (show 8 ≤ i by omega) g⟩
      unfold qt at hh
      unfold ac
      by_cases g : q < n ∧ tx q = 39
      · rw [if_pos g] at hh ⊢
        refine ⟨⟨by decide, by decide⟩, ?_⟩
        by_cases g2 : q + 1 < n ∧ tx (q + 1) = 39
        · rw [if_pos g2] at hh
          exact hh
        · rw [if_neg g2] at hh
          exact hh
      · rw [if_neg g] at hh ⊢
        rw [Int.add_zero]
        exact ⟨⟨by decide, by decide⟩, hh⟩
    | succ m ih =>
      intro i q w x hi hm hq hh
      have ht := hT.2 q
      have ht1 := hT.2 (q + 1)
      have hch := cf_char (sc := sc) (p := q) (x := w) (y := y) (q := q) hT hσ ⟨hq.1, by omega⟩
      have hch1 := cf_char (sc := sc) (p := q) (x := w) (y := y) (q := q + 1) hT hσ ⟨by omega, by omega⟩
      have hac := cf_accept (sc := sc) (x := w) (y := y) (c := 39) hT hσ hq (by decide)
      have hr : ai_r (if n ≤ q then -1 else tx q) := by
        split
        · exact ⟨by decide, by decide⟩
        · exact ⟨by omega, by omega⟩
      have hr1 : ai_r (if n ≤ q + 1 then -1 else tx (q + 1)) := by
        split
        · exact ⟨by decide, by decide⟩
        · exact ⟨by omega, by omega⟩
      unfold qt at hh
      have stop : ¬ (q < n ∧ 32 ≤ tx q ∧ tx q ≤ 126) → Q (.inl (some (.inl 0)), (92, [], RD σ q w y)) := by
        intro g
        rw [if_neg g] at hh
        exact hh
      refine rh_83_2 ⟨⟨⟨by omega, by omega⟩, ⟨by decide, by decide⟩⟩, fun g => absurd g (by omega), fun _ => fn_ret hch (rb_83_9 ⟨⟨hr, ⟨by decide, by decide⟩⟩, fun g => ⟨⟨by decide, by decide⟩, stop (fun z => ?_)⟩, fun g => ⟨⟨hr, ⟨by decide, by decide⟩⟩, fun g2 => ⟨⟨hr, ⟨by decide, by decide⟩⟩, fun g3 => ?_, fun g3 => ?_⟩, fun g2 => ⟨⟨by decide, by decide⟩, stop (fun z => ?_)⟩⟩⟩)⟩
      · rw [if_neg (by omega)] at g
        omega
      · have gn : ¬ n ≤ q := fun e => by
          rw [if_pos e] at g
          omega
        rw [if_neg gn] at g g2 g3 ⊢
        rw [if_pos ⟨by omega, by omega, g2⟩, if_neg g3] at hh
        refine fn_ret (cf_addch ⟨by omega, by omega⟩) (rb_83_40 ?_)
        show ai_wp sc 83 2 _ [] (0, 0) (92, [], ai_set (RD σ q _ y) 34 1 (q + 1)) Q
        rw [rd1]
        exact ih (i + 1) (q + 1) _ _ (by omega) (by omega) (by omega) hh
      · have gn : ¬ n ≤ q := fun e => by
          rw [if_pos e] at g
          omega
        rw [if_neg gn] at g g2 g3 ⊢
        have g4 := Decidable.not_not.mp g3
        rw [if_pos ⟨by omega, by omega, g2⟩, if_pos g4] at hh
        refine fn_ret hch1 (rb_83_27 ⟨⟨hr1, ⟨by decide, by decide⟩⟩, fun g5 => ?_, fun g5 => ?_⟩)
        · have gn1 : ¬ n ≤ q + 1 := fun e => by
            rw [if_pos e] at g5
            omega
          rw [if_neg gn1] at g5
          rw [if_pos ⟨by omega, g5⟩] at hh
          show ai_ret (ai_wp sc) 85 _ (92, [], ai_set (RD σ q w y) 34 1 (q + 1)) _
          rw [rd1]
          refine fn_ret (cf_addch ⟨by omega, by omega⟩) (rb_83_40 ?_)
          show ai_wp sc 83 2 _ [] (0, 0) (92, [], ai_set (RD σ (q + 1) _ y) 34 1 (q + 1 + 1)) Q
          rw [rd1, show q + 1 + 1 = q + 2 by omega]
          exact ih (i + 1) (q + 2) _ _ (by omega) (by omega) (by omega) hh
        · have gq : ¬ (q + 1 < n ∧ tx (q + 1) = 39) := fun z => by
            rw [if_neg (by omega)] at g5
            exact g5 z.2
          rw [if_neg gq] at hh
          refine fn_ret hac (rh_83_51 ?_)
          unfold ac
          rw [if_pos ⟨by omega, g4⟩]
          exact ⟨⟨by decide, by decide⟩, hh⟩
      · rw [if_neg (by omega)] at g2
        omega
  exact rb_83_0 (h 8 0 p 0 none (Int.le_refl 0) (by decide) hp hQ)
theorem rf_quoted {sc : Int × (Int → Int)} {σ : ai_S} {n : Int} {tx : Int → Int} {p k : Int} {F G : Int → Int} (hT : TX n tx) (hσ : rT σ n tx) (hp : 0 ≤ p ∧ p < n) (hk : 0 ≤ k ∧ k < 120) : ∃ F' G', fn sc 143 [some (.inr (.inr 59)), some (.inl k), none, none, none, none, none, none] (RP σ p F G) (some (.inl (qt n tx 8 0 (p + 1) 0).2.1)) (RP σ (qt n tx 8 0 (p + 1) 0).2.2.1 F' G') ∧ ((qt n tx 8 0 (p + 1) 0).2.1 = 1 → F' = (fun j => if j = k then (qt n tx 8 0 (p + 1) 0).2.2.2 else F j) ∧ G' = (fun j => if j = k then 0 else G j)) ∧ gb G G' := by
  have hn := hT.1
  have hn15 : ai_r n := ⟨by omega, by omega⟩
  -- the end of a text
  have close : ∀ (Q : ai_O → Prop) (i q w : Int) (x y : Option ai_V), Q (.inl (some (.inl 1)), (92, [], RP σ q (fun j => if j = k then w else F j) (fun j => if j = k then 0 else G j))) → ai_wp sc 143 12 [some (.inr (.inr 59)), some (.inl k), some (.inr (.inl w)), none, some (.inl i), some (.inl 0), x, y] [] (0, 0) (92, [], RP σ q F G) Q := fun Q i q w x y hh => rh_143_12 ⟨⟨by decide, by decide⟩, fun _ => fn_ret (rf_put hk (by decide)) (rb_143_109 ⟨⟨by decide, by decide⟩, hh⟩), fun g => absurd rfl g⟩
  have h : ∀ (Q : ai_O → Prop) (m : Nat) (i q w : Int) (x y : Option ai_V), 0 ≤ i → i + (m : Int) = 8 → (0 ≤ q ∧ q ≤ n) → ((qt n tx m i q w).2.1 = 1 → Q (.inl (some (.inl 1)), (92, [], RP σ (qt n tx m i q w).2.2.1 (fun j => if j = k then (qt n tx m i q w).2.2.2 else F j) (fun j => if j = k then 0 else G j)))) → (¬ (qt n tx m i q w).2.1 = 1 → Q (.inl (some (.inl 0)), (92, [], RP σ (qt n tx m i q w).2.2.1 F G))) → ai_wp sc 143 12 [some (.inr (.inr 59)), some (.inl k), some (.inr (.inl w)), none, some (.inl i), some (.inl 1), x, y] [] (0, 0) (92, [], RP σ q F G) Q := by
    intro Q m
    induction m with
    | zero =>
      intro i q w x y hi hm hq h1 h0
      have ht := hT.2 q
      have ht1 := hT.2 (q + 1)
      have e8 : i = 8 := by omega
      subst e8
      have hpk := rf_peek (sc := sc) (F := F) (G := G) hT hσ hq
      have hr : ai_r (if n ≤ q then 0 else tx q) := by
        split
        · exact ⟨by decide, by decide⟩
        · exact ⟨by omega, by omega⟩
      obtain ⟨e1, e2⟩ := hσ
      unfold qt at h1 h0
      refine rh_143_12 ⟨⟨by decide, by decide⟩, fun g => absurd g (by decide), fun _ => fn_ret hpk ?_⟩
      by_cases gn : n ≤ q
      · have eq : q = n := by omega
        rw [if_neg (by omega)] at h0
        exact rb_143_16 ⟨⟨(show ai_r q from ⟨by omega, by omega⟩), (show ai_r (σ 59 15) from e1 ▸ hn15)⟩, fun _ => ⟨⟨by decide, by decide⟩, h0 (show ¬ (0 : Int) = 1 by decide)⟩, fun g => absurd (show q = σ 59 15 from eq.trans e1.symm) g⟩
      · rw [if_neg gn] at hr ⊢
        have g15 : ¬ q = σ 59 15 := fun e => gn (by omega)
        have fail0 : ¬ tx q = 39 → Q (.inl (some (.inl 0)), (92, [], RP σ q F G)) := by
          intro g
          rw [if_neg (fun z => g z.2)] at h0
          exact h0 (show ¬ (0 : Int) = 1 by decide)
        have sets : ∀ d : Int, ai_set (RP σ q F G) 59 17 (q + d) = RP σ (q + d) F G := fun d => rpq1
        refine rb_143_16 ⟨⟨(show ai_r q from ⟨by omega, by omega⟩), (show ai_r (σ 59 15) from e1 ▸ hn15)⟩, fun g => absurd (show q = σ 59 15 from g) g15, fun _ => ⟨⟨hr, ⟨by decide, by decide⟩⟩, fun g => ⟨⟨by decide, by decide⟩, fail0 (by omega)⟩, fun g => ⟨⟨hr, ⟨by decide, by decide⟩⟩, fun g2 => ?_, fun g2 => ⟨⟨by decide, by decide⟩, fail0 (by omega)⟩⟩⟩⟩
        have no8 : ¬ tx q = 39 → ∀ z, ai_wp sc 143 61 [some (.inr (.inr 59)), some (.inl k), some (.inr (.inl w)), none, some (.inl 8), some (.inl 1), some (.inl (tx q)), some (.inl 0)] [.inl 1] (0, 0) (92, [], RP σ q F G) Q ∨ z := by
          intro g z
          refine Or.inl (rb_143_61 ⟨⟨by decide, by decide⟩, fun g => absurd g (by decide), fun _ => ⟨⟨⟨by decide, by decide⟩, ⟨by decide, by decide⟩⟩, fun g => absurd rfl g, fun _ => ⟨⟨by decide, by decide⟩, fun _ => ⟨⟨by decide, by decide⟩, ?_⟩, fun g => absurd rfl g⟩⟩⟩)
          show Q (.inl (some (.inl 0)), (92, [], ai_set (RP σ q F G) 59 17 (q + 0)))
          rw [sets, Int.add_zero]
          exact fail0 g
        refine rb_143_30 ⟨⟨hr, ⟨by decide, by decide⟩⟩, fun g3 => rb_143_52 ⟨⟨hr, ⟨by decide, by decide⟩⟩, fun _ => (no8 g3 False).elim (fun z => z) False.elim, fun g => absurd g3 g⟩, fun g3 => ?_⟩
        have g4 := Decidable.not_not.mp g3
        -- a quote: once or twice
        have once : ¬ (q + 1 < n ∧ tx (q + 1) = 39) → ai_wp sc 143 52 [some (.inr (.inr 59)), some (.inl k), some (.inr (.inl w)), none, some (.inl 8), some (.inl 1), some (.inl (tx q)), none] [.inl 0] (0, 0) (92, [], RP σ q F G) Q := by
          intro gq
          rw [if_pos ⟨by omega, g4⟩, if_neg gq] at h1
          refine rb_143_52 ⟨⟨hr, ⟨by decide, by decide⟩⟩, fun g => absurd g4 g, fun _ => ⟨⟨by decide, by decide⟩, fun _ => rb_143_61 ⟨⟨by decide, by decide⟩, fun _ => rb_143_79 ⟨⟨by decide, by decide⟩, fun _ => rb_143_93 ⟨⟨by decide, by decide⟩, fun _ => ?_, fun g => absurd rfl g⟩, fun g => absurd rfl g⟩, fun g => absurd rfl g⟩, fun g => absurd rfl g⟩⟩
          show ai_wp sc 143 12 _ [] (0, 0) (92, [], ai_set (RP σ q F G) 59 17 (q + 1)) Q
          rw [sets]
          exact close Q _ _ _ _ _ (h1 rfl)
        refine ⟨⟨(show ai_r (q + 1) from ⟨by omega, by omega⟩), (show ai_r (σ 59 15) from e1 ▸ hn15)⟩, fun g => once (fun z => ?_), fun g => ?_⟩
        · have g5 : σ 59 15 ≤ q + 1 := g
          omega
        · have g5 : ¬ σ 59 15 ≤ q + 1 := g
          refine ⟨(show 0 ≤ q + 1 ∧ q + 1 < 120 from ⟨by omega, by omega⟩), ⟨(show ai_r (σ 71 (q + 1)) from by rw [e2]; exact ⟨by omega, by omega⟩), ⟨by decide, by decide⟩⟩, fun g6 => once (fun z => ?_), fun g6 => ?_⟩
          · have g7 : ¬ σ 71 (q + 1) = 39 := g6
            rw [e2] at g7
            exact g7 z.2
          · have g7 : σ 71 (q + 1) = 39 := Decidable.not_not.mp g6
            rw [e2] at g7
            rw [if_pos ⟨by omega, g4⟩, if_pos ⟨by omega, g7⟩] at h0
            refine rb_143_52 ⟨⟨hr, ⟨by decide, by decide⟩⟩, fun g => absurd g4 g, fun _ => ⟨⟨by decide, by decide⟩, fun g => absurd g (by decide), fun _ => rb_143_61 ⟨⟨by decide, by decide⟩, fun g => absurd g (by decide), fun _ => ⟨⟨⟨by decide, by decide⟩, ⟨by decide, by decide⟩⟩, fun g => absurd rfl g, fun _ => ⟨⟨by decide, by decide⟩, fun g => absurd g (by decide), fun _ => ⟨⟨by decide, by decide⟩, ?_⟩⟩⟩⟩⟩⟩
            show Q (.inl (some (.inl 0)), (92, [], ai_set (RP σ q F G) 59 17 (q + 1)))
            rw [sets]
            exact h0 (show ¬ (0 : Int) = 1 by decide)
    | succ m ih =>
      intro i q w x y hi hm hq h1 h0
      have ht := hT.2 q
      have ht1 := hT.2 (q + 1)
      have hpk := rf_peek (sc := sc) (F := F) (G := G) hT hσ hq
      have hr : ai_r (if n ≤ q then 0 else tx q) := by
        split
        · exact ⟨by decide, by decide⟩
        · exact ⟨by omega, by omega⟩
      have hσ2 := hσ
      obtain ⟨e1, e2⟩ := hσ
      unfold qt at h1 h0
      have es : 49 - (7 * i) = 7 * (7 - i) := by omega
      refine rh_143_12 ⟨⟨by decide, by decide⟩, fun g => absurd g (by decide), fun _ => fn_ret hpk ?_⟩
      have stop : ¬ (q < n ∧ 32 ≤ tx q ∧ tx q ≤ 126) → Q (.inl (some (.inl 0)), (92, [], RP σ q F G)) := by
        intro g
        rw [if_neg g] at h0
        exact h0 (show ¬ (0 : Int) = 1 by decide)
      by_cases gn : n ≤ q
      · have eq : q = n := by omega
        exact rb_143_16 ⟨⟨(show ai_r q from ⟨by omega, by omega⟩), (show ai_r (σ 59 15) from e1 ▸ hn15)⟩, fun _ => ⟨⟨by decide, by decide⟩, stop (by omega)⟩, fun g => absurd (show q = σ 59 15 from eq.trans e1.symm) g⟩
      · rw [if_neg gn] at hr ⊢
        have g15 : ¬ q = σ 59 15 := fun e => gn (by omega)
        have sets : ∀ d : Int, ai_set (RP σ q F G) 59 17 (q + d) = RP σ (q + d) F G := fun d => rpq1
        have n8 : ¬ i = 8 := by omega
        refine rb_143_16 ⟨⟨(show ai_r q from ⟨by omega, by omega⟩), (show ai_r (σ 59 15) from e1 ▸ hn15)⟩, fun g => absurd (show q = σ 59 15 from g) g15, fun _ => ⟨⟨hr, ⟨by decide, by decide⟩⟩, fun g => ⟨⟨by decide, by decide⟩, stop (by omega)⟩, fun g => ⟨⟨hr, ⟨by decide, by decide⟩⟩, fun g2 => ?_, fun g2 => ⟨⟨by decide, by decide⟩, stop (by omega)⟩⟩⟩⟩
        rw [if_pos ⟨by omega, by omega, g2⟩] at h1 h0
        refine rb_143_30 ⟨⟨hr, ⟨by decide, by decide⟩⟩, fun g3 => ?_, fun g3 => ?_⟩
        · rw [if_neg g3] at h1 h0
          refine rb_143_52 ⟨⟨hr, ⟨by decide, by decide⟩⟩, fun _ => rb_143_61 ⟨⟨by decide, by decide⟩, fun g => absurd g (by decide), fun _ => ⟨⟨⟨by omega, by omega⟩, ⟨by decide, by decide⟩⟩, fun _ => rb_143_79 ⟨⟨by decide, by decide⟩, fun g => absurd g (by decide), fun _ => ⟨hr, rb_143_93 ⟨⟨by decide, by decide⟩, fun _ => ?_, fun g => absurd rfl g⟩⟩⟩, fun g => absurd n8 g⟩⟩, fun g => absurd g3 g⟩
          show ai_wp sc 143 12 _ [] (0, 0) (92, [], ai_set (RP σ q F G) 59 17 (q + 1)) Q
          rw [sets, es]
          exact ih (i + 1) (q + 1) _ _ _ (by omega) (by omega) (by omega) h1 h0
        · have g4 := Decidable.not_not.mp g3
          rw [if_pos g4] at h1 h0
          have once : ¬ (q + 1 < n ∧ tx (q + 1) = 39) → ai_wp sc 143 52 [some (.inr (.inr 59)), some (.inl k), some (.inr (.inl w)), none, some (.inl i), some (.inl 1), some (.inl (tx q)), none] [.inl 0] (0, 0) (92, [], RP σ q F G) Q := by
            intro gq
            rw [if_neg gq] at h1
            refine rb_143_52 ⟨⟨hr, ⟨by decide, by decide⟩⟩, fun g => absurd g4 g, fun _ => ⟨⟨by decide, by decide⟩, fun _ => rb_143_61 ⟨⟨by decide, by decide⟩, fun _ => rb_143_79 ⟨⟨by decide, by decide⟩, fun _ => rb_143_93 ⟨⟨by decide, by decide⟩, fun _ => ?_, fun g => absurd rfl g⟩, fun g => absurd rfl g⟩, fun g => absurd rfl g⟩, fun g => absurd rfl g⟩⟩
            show ai_wp sc 143 12 _ [] (0, 0) (92, [], ai_set (RP σ q F G) 59 17 (q + 1)) Q
            rw [sets]
            exact close Q _ _ _ _ _ (h1 rfl)
          refine ⟨⟨(show ai_r (q + 1) from ⟨by omega, by omega⟩), (show ai_r (σ 59 15) from e1 ▸ hn15)⟩, fun g => once (fun z => ?_), fun g => ?_⟩
          · have g5 : σ 59 15 ≤ q + 1 := g
            omega
          · have g5 : ¬ σ 59 15 ≤ q + 1 := g
            refine ⟨(show 0 ≤ q + 1 ∧ q + 1 < 120 from ⟨by omega, by omega⟩), ⟨(show ai_r (σ 71 (q + 1)) from by rw [e2]; exact ⟨by omega, by omega⟩), ⟨by decide, by decide⟩⟩, fun g6 => once (fun z => ?_), fun g6 => ?_⟩
            · have g7 : ¬ σ 71 (q + 1) = 39 := g6
              rw [e2] at g7
              exact g7 z.2
            · have g7 : σ 71 (q + 1) = 39 := Decidable.not_not.mp g6
              rw [e2] at g7
              rw [if_pos ⟨by omega, g7⟩] at h1 h0
              refine rb_143_52 ⟨⟨hr, ⟨by decide, by decide⟩⟩, fun g => absurd g4 g, fun _ => ⟨⟨by decide, by decide⟩, fun g => absurd g (by decide), fun _ => rb_143_61 ⟨⟨by decide, by decide⟩, fun g => absurd g (by decide), fun _ => ⟨⟨⟨by omega, by omega⟩, ⟨by decide, by decide⟩⟩, fun _ => rb_143_79 ⟨⟨by decide, by decide⟩, fun g => absurd g (by decide), fun _ => ⟨hr, rb_143_93 ⟨⟨by decide, by decide⟩, fun g => absurd g (by decide), fun _ => ?_⟩⟩⟩, fun g => absurd n8 g⟩⟩⟩⟩
              show ai_wp sc 143 12 _ [] (0, 0) (92, [], ai_set (RP σ q F G) 59 17 (q + 2)) Q
              rw [sets, es]
              exact ih (i + 1) (q + 2) _ _ _ (by omega) (by omega) (by omega) h1 h0
  have start : ∀ Q : ai_O → Prop, ((qt n tx 8 0 (p + 1) 0).2.1 = 1 → Q (.inl (some (.inl 1)), (92, [], RP σ (qt n tx 8 0 (p + 1) 0).2.2.1 (fun j => if j = k then (qt n tx 8 0 (p + 1) 0).2.2.2 else F j) (fun j => if j = k then 0 else G j)))) → (¬ (qt n tx 8 0 (p + 1) 0).2.1 = 1 → Q (.inl (some (.inl 0)), (92, [], RP σ (qt n tx 8 0 (p + 1) 0).2.2.1 F G))) → ai_wp sc 143 0 [some (.inr (.inr 59)), some (.inl k), none, none, none, none, none, none] [] (0, 0) (92, [], RP σ p F G) Q := by
    intro Q h1 h0
    refine rb_143_0 ?_
    show ai_wp sc 143 12 _ [] (0, 0) (92, [], ai_set (RP σ p F G) 59 17 (p + 1)) Q
    rw [rpq1]
    exact h Q 8 0 (p + 1) 0 none none (Int.le_refl 0) (by decide) ⟨by omega, by omega⟩ h1 h0
  obtain ⟨⟨q1, q2⟩, q3, q4⟩ := qt_ok (n := n) (tx := tx) 8 0 (p + 1) 0 (Int.le_refl 0) (by decide) (by omega) okT_0
  by_cases e : (qt n tx 8 0 (p + 1) 0).2.1 = 1
  · refine ⟨_, _, fun Q hQ => start Q (fun _ => ?_) (fun g => absurd e g), fun _ => ⟨rfl, rfl⟩, gb0⟩
    rw [e] at hQ
    exact hQ
  · have e0 : (qt n tx 8 0 (p + 1) 0).2.1 = 0 := by omega
    refine ⟨F, G, fun Q hQ => start Q (fun g => absurd g e) (fun _ => ?_), fun g => absurd g e, gb_id⟩
    rw [e0] at hQ
    exact hQ
