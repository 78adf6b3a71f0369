/-! THE TURN OF COLUMN. -/
theorem cl_col {sc : Int × (Int → Int)} {σ : ai_S} {t y q p : Int} (ht : -2147483648 ≤ t ∧ t ≤ 2147483647) (hy : -2147483648 ≤ y ∧ y ≤ 2147483647) (hp : -2147483648 ≤ p ∧ p ≤ 2147483647) (hq : 0 ≤ q ∧ q ≤ 1) (hT : 0 ≤ σ 2 0 ∧ σ 2 0 ≤ 5) (h4 : ∀ x, 0 ≤ σ 4 x ∧ σ 4 x ≤ 5) (h5 : ∀ x, 0 ≤ σ 5 x ∧ σ 5 x ≤ 3) (h9 : 0 ≤ σ 9 t ∧ σ 9 t ≤ 12) (ho : 0 ≤ σ 12 0 ∧ σ 12 0 ≤ 3) (hg : 0 ≤ t ∧ t < σ 2 0 ∧ 0 ≤ y ∧ y ≤ 3 ∧ (p = -1 ∨ (0 ≤ p ∧ p < σ 2 0 ∧ ((σ 4 p = 0 ∧ p = t) ∨ (¬ σ 4 p = 0 ∧ σ 5 ((p * 5) + 0) = y))))) (hg2 : ¬ σ 4 t = 5 ∧ σ 9 t ≤ 0 ∧ σ 12 0 ≤ 0) : fn sc 2 [some (.inr (.inr 0)), some (.inl t), some (.inl y), some (.inl q), some (.inl p), none] σ (some (.inl (σ 4 t))) (ai_set (ai_set (ai_set (ai_set (ai_set (ai_set σ 0 6 0) 36 0 0) 5 ((t * 5) + (σ 4 t)) y) 6 ((t * 5) + (σ 4 t)) p) 7 ((t * 5) + (σ 4 t)) q) 4 t ((σ 4 t) + 1)) := by
  intro Q hQ
  have h4t := h4 t
  have h4p := h4 p
  have h5p := h5 ((p * 5) + 0)
  have hi : 0 ≤ (t * 5) + (σ 4 t) ∧ (t * 5) + (σ 4 t) < 25 := by omega
  have hk : ai_ret (ai_wp sc) 21 [some (.inr (.inr 36))] (92, [], ai_set σ 0 6 0) (fun v h' => ai_ck (ai_zz 92 h'.1 0) (ai_wp sc 2 59 [some (.inr (.inr 0)), some (.inl t), some (.inl y), some (.inl q), some (.inl p), some (.inr (.inr 2))] (v.toList ++ []) (0, 0) h' Q)) := ai_ret_q (rb_21_0 (ai_k_in (rb_2_59 (ai_ret_q (rb_100_0 (σ := ai_set (ai_set σ 0 6 0) 36 0 0) ⟨⟨by omega, by omega⟩, hi, hi, hi, hq, ⟨by omega, by omega⟩, ai_k_in (rb_2_65 hQ)⟩)))))
  refine rb_2_0 ?_
  repeat' (first | exact hk | omega | exact bi_r _ | exact bi_01 _ | exact cmp_r _ _ | exact r32 _ | apply And.intro | refine ai_ret_q (pc_93 ?_ (ai_k_in ?_)) | refine ai_ret_q (pc_94 ?_ (ai_k_in ?_)) | refine ai_ret_q (pc_98 ?_ (ai_k_in ?_)) | refine ai_ret_q (pc_105 ?_ (ai_k_in ?_)) | refine rb_2_7 ?_ | refine rb_2_26 ?_ | refine rb_2_35 ?_ | refine rb_2_42 ?_ | (with_reducible intro h; first | replace h := bi_yes h | replace h := bi_no2 h | replace h := bi_no h | replace h := cmp_eq.mp h | replace h := mt cmp_eq.mpr h | replace h := cmp_lt.mp h | replace h := mt cmp_lt.mpr h | replace h := cmp_le.mp h | replace h := mt cmp_le.mpr h | skip))
theorem cl_col_1 {sc : Int × (Int → Int)} {σ : ai_S} {t y q p : Int} (ht : -2147483648 ≤ t ∧ t ≤ 2147483647) (hy : -2147483648 ≤ y ∧ y ≤ 2147483647) (hp : -2147483648 ≤ p ∧ p ≤ 2147483647) (hq : 0 ≤ q ∧ q ≤ 1) (hT : 0 ≤ σ 2 0 ∧ σ 2 0 ≤ 5) (h4 : ∀ x, 0 ≤ σ 4 x ∧ σ 4 x ≤ 5) (h5 : ∀ x, 0 ≤ σ 5 x ∧ σ 5 x ≤ 3) (h9 : 0 ≤ σ 9 t ∧ σ 9 t ≤ 12) (ho : 0 ≤ σ 12 0 ∧ σ 12 0 ≤ 3) (hg : ¬ (0 ≤ t ∧ t < σ 2 0 ∧ 0 ≤ y ∧ y ≤ 3 ∧ (p = -1 ∨ (0 ≤ p ∧ p < σ 2 0 ∧ ((σ 4 p = 0 ∧ p = t) ∨ (¬ σ 4 p = 0 ∧ σ 5 ((p * 5) + 0) = y)))))) : th sc 2 [some (.inr (.inr 0)), some (.inl t), some (.inl y), some (.inl q), some (.inl p), none] σ 1 σ := by
  intro Q hQ
  have h4t := h4 t
  have h4p := h4 p
  have h5p := h5 ((p * 5) + 0)
  refine rb_2_0 ?_
  repeat' (first | exact hQ | omega | exact bi_r _ | exact bi_01 _ | exact cmp_r _ _ | exact r32 _ | apply And.intro | refine ai_ret_q (pc_93 ?_ (ai_k_in ?_)) | refine ai_ret_q (pc_98 ?_ (ai_k_in ?_)) | refine rb_2_7 ?_ | refine rb_2_26 ?_ | (with_reducible intro h; first | replace h := bi_yes h | replace h := bi_no2 h | replace h := bi_no h | replace h := cmp_eq.mp h | replace h := mt cmp_eq.mpr h | replace h := cmp_lt.mp h | replace h := mt cmp_lt.mpr h | replace h := cmp_le.mp h | replace h := mt cmp_le.mpr h | skip))
theorem cl_col_0 {sc : Int × (Int → Int)} {σ : ai_S} {t y q p : Int} (ht : -2147483648 ≤ t ∧ t ≤ 2147483647) (hy : -2147483648 ≤ y ∧ y ≤ 2147483647) (hp : -2147483648 ≤ p ∧ p ≤ 2147483647) (hq : 0 ≤ q ∧ q ≤ 1) (hT : 0 ≤ σ 2 0 ∧ σ 2 0 ≤ 5) (h4 : ∀ x, 0 ≤ σ 4 x ∧ σ 4 x ≤ 5) (h5 : ∀ x, 0 ≤ σ 5 x ∧ σ 5 x ≤ 3) (h9 : 0 ≤ σ 9 t ∧ σ 9 t ≤ 12) (ho : 0 ≤ σ 12 0 ∧ σ 12 0 ≤ 3) (hg : 0 ≤ t ∧ t < σ 2 0 ∧ 0 ≤ y ∧ y ≤ 3 ∧ (p = -1 ∨ (0 ≤ p ∧ p < σ 2 0 ∧ ((σ 4 p = 0 ∧ p = t) ∨ (¬ σ 4 p = 0 ∧ σ 5 ((p * 5) + 0) = y))))) (hg2 : ¬ (¬ σ 4 t = 5 ∧ σ 9 t ≤ 0 ∧ σ 12 0 ≤ 0)) : th sc 2 [some (.inr (.inr 0)), some (.inl t), some (.inl y), some (.inl q), some (.inl p), none] σ 0 σ := by
  intro Q hQ
  have h4t := h4 t
  have h4p := h4 p
  have h5p := h5 ((p * 5) + 0)
  refine rb_2_0 ?_
  repeat' (first | exact hQ | omega | exact bi_r _ | exact bi_01 _ | exact cmp_r _ _ | exact r32 _ | apply And.intro | refine ai_ret_q (pc_93 ?_ (ai_k_in ?_)) | refine ai_ret_q (pc_94 ?_ (ai_k_in ?_)) | refine ai_ret_q (pc_98 ?_ (ai_k_in ?_)) | refine ai_ret_q (pc_105 ?_ (ai_k_in ?_)) | refine rb_2_7 ?_ | refine rb_2_26 ?_ | refine rb_2_35 ?_ | refine rb_2_42 ?_ | (with_reducible intro h; first | replace h := bi_yes h | replace h := bi_no2 h | replace h := bi_no h | replace h := cmp_eq.mp h | replace h := mt cmp_eq.mpr h | replace h := cmp_lt.mp h | replace h := mt cmp_lt.mpr h | replace h := cmp_le.mp h | replace h := mt cmp_le.mpr h | skip))
theorem rf_col {sc : Int × (Int → Int)} {σ : ai_S} {t y q p : Int} (ht : -2147483648 ≤ t ∧ t ≤ 2147483647) (hy : -2147483648 ≤ y ∧ y ≤ 2147483647) (hp : -2147483648 ≤ p ∧ p ≤ 2147483647) (hq : 0 ≤ q ∧ q ≤ 1) (hT : 0 ≤ σ 59 1 ∧ σ 59 1 ≤ 5) (h4 : ∀ x, 0 ≤ σ 60 x ∧ σ 60 x ≤ 5) (h5 : ∀ x, 0 ≤ σ 61 x ∧ σ 61 x ≤ 3) (h9 : 0 ≤ σ 64 t ∧ σ 64 t ≤ 12) (ho : 0 ≤ σ 59 13 ∧ σ 59 13 ≤ 3) (hg : 0 ≤ t ∧ t < σ 59 1 ∧ 0 ≤ y ∧ y ≤ 3 ∧ (p = -1 ∨ (0 ≤ p ∧ p < σ 59 1 ∧ ((σ 60 p = 0 ∧ p = t) ∨ (¬ σ 60 p = 0 ∧ σ 61 (5 * p) = y))))) (hg2 : ¬ σ 60 t = 5 ∧ σ 64 t ≤ 0 ∧ σ 59 13 ≤ 0) : fn sc 132 [some (.inr (.inr 59)), some (.inl t), some (.inl y), some (.inl q), some (.inl p), none] σ (some (.inl ((ai_set (ai_set (ai_set (ai_set (ai_set σ 59 0 0) 61 ((5 * t) + (σ 60 t)) y) 62 ((5 * t) + (σ 60 t)) q) 63 ((5 * t) + (σ 60 t)) p) 60 t ((σ 60 t) + 1)) 60 t - 1))) (ai_set (ai_set (ai_set (ai_set (ai_set (ai_set (ai_set σ 59 0 0) 61 ((5 * t) + (σ 60 t)) y) 62 ((5 * t) + (σ 60 t)) q) 63 ((5 * t) + (σ 60 t)) p) 60 t ((σ 60 t) + 1)) 59 19 0) 59 42 0) := by
  intro Q hQ
  have h4t := h4 t
  have h4p := h4 p
  have h5p := h5 (5 * p)
  refine rb_132_0 ?_
  repeat' (first | exact hQ | omega | exact bi_r _ | exact bi_01 _ | exact cmp_r _ _ | exact r32 _ | apply And.intro | refine ai_ret_q (pc_129 ?_ (ai_k_in ?_)) | refine ai_ret_q (pc_131 ?_ (ai_k_in ?_)) | refine rb_132_4 ?_ | refine rb_132_15 ?_ | refine rb_132_35 ?_ | (with_reducible intro h; first | replace h := bi_yes h | replace h := bi_no2 h | replace h := bi_no h | replace h := cmp_eq.mp h | replace h := mt cmp_eq.mpr h | replace h := cmp_lt.mp h | replace h := mt cmp_lt.mpr h | replace h := cmp_le.mp h | replace h := mt cmp_le.mpr h | skip))
theorem rf_col_1 {sc : Int × (Int → Int)} {σ : ai_S} {t y q p : Int} (ht : -2147483648 ≤ t ∧ t ≤ 2147483647) (hy : -2147483648 ≤ y ∧ y ≤ 2147483647) (hp : -2147483648 ≤ p ∧ p ≤ 2147483647) (hq : 0 ≤ q ∧ q ≤ 1) (hT : 0 ≤ σ 59 1 ∧ σ 59 1 ≤ 5) (h4 : ∀ x, 0 ≤ σ 60 x ∧ σ 60 x ≤ 5) (h5 : ∀ x, 0 ≤ σ 61 x ∧ σ 61 x ≤ 3) (h9 : 0 ≤ σ 64 t ∧ σ 64 t ≤ 12) (ho : 0 ≤ σ 59 13 ∧ σ 59 13 ≤ 3) (hg : ¬ (0 ≤ t ∧ t < σ 59 1 ∧ 0 ≤ y ∧ y ≤ 3 ∧ (p = -1 ∨ (0 ≤ p ∧ p < σ 59 1 ∧ ((σ 60 p = 0 ∧ p = t) ∨ (¬ σ 60 p = 0 ∧ σ 61 (5 * p) = y)))))) : fn sc 132 [some (.inr (.inr 59)), some (.inl t), some (.inl y), some (.inl q), some (.inl p), none] σ (some (.inl 0)) (ai_set σ 59 0 1) := by
  intro Q hQ
  have h4t := h4 t
  have h4p := h4 p
  have h5p := h5 (5 * p)
  refine rb_132_0 ?_
  repeat' (first | exact hQ | omega | exact bi_r _ | exact bi_01 _ | exact cmp_r _ _ | exact r32 _ | apply And.intro | refine ai_ret_q (pc_129 ?_ (ai_k_in ?_)) | refine ai_ret_q (pc_131 ?_ (ai_k_in ?_)) | refine rb_132_4 ?_ | refine rb_132_15 ?_ | refine rb_132_35 ?_ | (with_reducible intro h; first | replace h := bi_yes h | replace h := bi_no2 h | replace h := bi_no h | replace h := cmp_eq.mp h | replace h := mt cmp_eq.mpr h | replace h := cmp_lt.mp h | replace h := mt cmp_lt.mpr h | replace h := cmp_le.mp h | replace h := mt cmp_le.mpr h | skip))
theorem rf_col_2 {sc : Int × (Int → Int)} {σ : ai_S} {t y q p : Int} (ht : -2147483648 ≤ t ∧ t ≤ 2147483647) (hy : -2147483648 ≤ y ∧ y ≤ 2147483647) (hp : -2147483648 ≤ p ∧ p ≤ 2147483647) (hq : 0 ≤ q ∧ q ≤ 1) (hT : 0 ≤ σ 59 1 ∧ σ 59 1 ≤ 5) (h4 : ∀ x, 0 ≤ σ 60 x ∧ σ 60 x ≤ 5) (h5 : ∀ x, 0 ≤ σ 61 x ∧ σ 61 x ≤ 3) (h9 : 0 ≤ σ 64 t ∧ σ 64 t ≤ 12) (ho : 0 ≤ σ 59 13 ∧ σ 59 13 ≤ 3) (hg : 0 ≤ t ∧ t < σ 59 1 ∧ 0 ≤ y ∧ y ≤ 3 ∧ (p = -1 ∨ (0 ≤ p ∧ p < σ 59 1 ∧ ((σ 60 p = 0 ∧ p = t) ∨ (¬ σ 60 p = 0 ∧ σ 61 (5 * p) = y))))) (hg2 : ¬ (¬ σ 60 t = 5 ∧ σ 64 t ≤ 0 ∧ σ 59 13 ≤ 0)) : fn sc 132 [some (.inr (.inr 59)), some (.inl t), some (.inl y), some (.inl q), some (.inl p), none] σ (some (.inl 0)) (ai_set σ 59 0 2) := by
  intro Q hQ
  have h4t := h4 t
  have h4p := h4 p
  have h5p := h5 (5 * p)
  refine rb_132_0 ?_
  repeat' (first | exact hQ | omega | exact bi_r _ | exact bi_01 _ | exact cmp_r _ _ | exact r32 _ | apply And.intro | refine ai_ret_q (pc_129 ?_ (ai_k_in ?_)) | refine ai_ret_q (pc_131 ?_ (ai_k_in ?_)) | refine rb_132_4 ?_ | refine rb_132_15 ?_ | refine rb_132_35 ?_ | (with_reducible intro h; first | replace h := bi_yes h | replace h := bi_no2 h | replace h := bi_no h | replace h := cmp_eq.mp h | replace h := mt cmp_eq.mpr h | replace h := cmp_lt.mp h | replace h := mt cmp_lt.mpr h | replace h := cmp_le.mp h | replace h := mt cmp_le.mpr h | skip))
theorem GS_column {T : Int} {w ty pa cn ce nu : Int → Int} {t y p : Int} (h : GS T w ty pa cn ce nu) (hw : ∀ x, 0 ≤ w x ∧ w x ≤ 5) (hT : T ≤ 5) (ht : 0 ≤ t ∧ t < T) (h0 : cn t = 0) (h5 : w t < 5) : GS T (fun j => if j = t then w t + 1 else w j) (fun j => if j = t * 5 + w t then y else ty j) (fun j => if j = t * 5 + w t then p else pa j) cn ce nu := by
  obtain ⟨h1, h2, h3, h4, h5', h6, h7, h8⟩ := h
  have hwt := hw t
  refine ⟨h1, h2, h3, h4, h5', h6, fun u r c q1 q2 q3 q4 q5 q6 => ?_, fun u r c q1 q2 q3 q4 q5 q6 => ?_⟩
  · by_cases e : u = t
    · rw [e, h0] at q4
      omega
    · simp only [if_neg e] at q6
      have hwu := hw u
      have e2 : ¬ 5 * u + c = t * 5 + w t := by omega
      simp only [if_neg e2]
      exact h7 u r c q1 q2 q3 q4 q5 q6
  · by_cases e : u = t
    · rw [e, h0] at q4
      omega
    · simp only [if_neg e] at q6
      have hwu := hw u
      have e2 : ¬ 5 * u + c = t * 5 + w t := by omega
      simp only [if_neg e2]
      exact h8 u r c q1 q2 q3 q4 q5 q6
theorem rel_column {σ : ai_S} {t y q p : Int} (hR : Rel σ) (hq : 0 ≤ q ∧ q ≤ 1) (hg : 0 ≤ t ∧ t < σ 2 0 ∧ 0 ≤ y ∧ y ≤ 3 ∧ (p = -1 ∨ (0 ≤ p ∧ p < σ 2 0 ∧ ((σ 4 p = 0 ∧ p = t) ∨ (¬ σ 4 p = 0 ∧ σ 5 ((p * 5) + 0) = y))))) (hg2 : ¬ σ 4 t = 5 ∧ σ 9 t ≤ 0 ∧ σ 12 0 ≤ 0) : Rel (ai_set (ai_set (ai_set (ai_set (ai_set (ai_set (ai_set (ai_set (ai_set (ai_set (ai_set (ai_set (ai_set (ai_set σ 0 6 0) 36 0 0) 5 ((t * 5) + (σ 4 t)) y) 6 ((t * 5) + (σ 4 t)) p) 7 ((t * 5) + (σ 4 t)) q) 4 t ((σ 4 t) + 1)) 91 0 (σ 4 t)) 59 0 0) 61 ((5 * t) + (σ 60 t)) y) 62 ((5 * t) + (σ 60 t)) q) 63 ((5 * t) + (σ 60 t)) p) 60 t ((σ 60 t) + 1)) 59 19 0) 59 42 0) := by
  obtain ⟨⟨s1, s2, s3, s4, s5, s6, s7, s8, s9, s10, s11, s12⟩, ⟨⟨t1, t2, t3⟩, t4⟩, ⟨l1, l2, l3⟩, n0, n1, n2, hX, hF, ⟨d1, d2, d3, d4⟩, ⟨c1, c2, c3⟩, hW⟩ := hR
  have h9 := t4.1 t
  have h4t := s8 t
  have ie : (5 * t) + (σ 60 t) = (t * 5) + (σ 4 t) := by
    rw [s3]
    omega
  refine ⟨⟨s1, s2, ?_, ?_, ?_, ?_, s7, ?_, ?_, ?_, ?_, s12⟩, ⟨⟨t1, t2, t3⟩, GS_column t4 s8 s2.2 ⟨hg.1, hg.2.1⟩ (show σ 9 t = 0 by omega) (show σ 4 t < 5 by omega)⟩, ⟨l1, l2, fun h => absurd (show 0 < σ 12 0 from h) (by omega)⟩, ⟨n0.1, fun h => absurd (show 0 < σ 12 0 from h) (by omega)⟩, ⟨n1.1, fun h => absurd (show 1 < σ 12 0 from h) (by omega)⟩, ⟨n2.1, fun h => absurd (show 2 < σ 12 0 from h) (by omega)⟩, hX, hF, ⟨d1, rfl, Or.inl rfl, fun h => absurd (show (0 : Int) = 1 from h) (by decide)⟩, ⟨⟨(show (0 : Int) ≤ 0 by decide), (show (0 : Int) ≤ 1000 by decide)⟩, Or.inl ⟨rfl, rfl⟩, c3⟩, hW⟩
  · funext j
    show (if j = t then (σ 60 t) + 1 else σ 60 j) = (if j = t then (σ 4 t) + 1 else σ 4 j)
    rw [s3]
  · funext j
    show (if j = (5 * t) + (σ 60 t) then y else σ 61 j) = (if j = (t * 5) + (σ 4 t) then y else σ 5 j)
    rw [ie, s4]
  · funext j
    show (if j = (5 * t) + (σ 60 t) then q else σ 62 j) = (if j = (t * 5) + (σ 4 t) then q else σ 7 j)
    rw [ie, s5]
  · funext j
    show (if j = (5 * t) + (σ 60 t) then p else σ 63 j) = (if j = (t * 5) + (σ 4 t) then p else σ 6 j)
    rw [ie, s6]
  · intro x
    show 0 ≤ (if x = t then (σ 4 t) + 1 else σ 4 x) ∧ (if x = t then (σ 4 t) + 1 else σ 4 x) ≤ 5
    have := s8 x
    split <;> omega
  · intro x
    show 0 ≤ (if x = (t * 5) + (σ 4 t) then y else σ 5 x) ∧ (if x = (t * 5) + (σ 4 t) then y else σ 5 x) ≤ 3
    have := s9 x
    split <;> omega
  · intro x
    show 0 ≤ (if x = (t * 5) + (σ 4 t) then q else σ 7 x) ∧ (if x = (t * 5) + (σ 4 t) then q else σ 7 x) ≤ 1
    have := s10 x
    split <;> omega
  · intro x
    show -1 ≤ (if x = (t * 5) + (σ 4 t) then p else σ 6 x) ∧ (if x = (t * 5) + (σ 4 t) then p else σ 6 x) < 5
    have := s11 x
    split <;> omega
theorem tn_column {sc : Int × (Int → Int)} {σ : ai_S} (hR : Rel σ) {t y q p : Int} (ht : -2147483648 ≤ t ∧ t ≤ 2147483647) (hy : -2147483648 ≤ y ∧ y ≤ 2147483647) (hp : -2147483648 ≤ p ∧ p ≤ 2147483647) (hq : 0 ≤ q ∧ q ≤ 1) : ∃ k x σ1 σ2, fn sc 192 [some (.inr (.inr 0)), some (.inl t), some (.inl y), some (.inl q), some (.inl p), some (.inr (.inr 91)), none] σ (some (.inl k)) σ1 ∧ fn sc 132 [some (.inr (.inr 59)), some (.inl t), some (.inl y), some (.inl q), some (.inl p), none] σ1 (some (.inl x)) σ2 ∧ σ2 59 0 = k ∧ (0 ≤ k ∧ k ≤ 3) ∧ ai_r x ∧ (k = 0 → σ2 91 0 = x) ∧ Rel σ2 := by
  obtain ⟨⟨s1, s2, s3, s4, s5, s6, s7, s8, s9, s10, s11, s12⟩, ⟨⟨t1, t2, t3⟩, t4⟩, ⟨l1, l2, l3⟩, n0⟩ := id hR
  have h9 := t4.1 t
  have h4t := s8 t
  have z1 : 0 ≤ σ 59 1 ∧ σ 59 1 ≤ 5 := by
    rw [s1]
    exact s2
  have z2 : ∀ x, 0 ≤ σ 60 x ∧ σ 60 x ≤ 5 := by
    rw [s3]
    exact s8
  have z3 : ∀ x, 0 ≤ σ 61 x ∧ σ 61 x ≤ 3 := by
    rw [s4]
    exact s9
  have z4 : 0 ≤ σ 64 t ∧ σ 64 t ≤ 12 := by
    rw [t1]
    exact h9
  have z5 : 0 ≤ σ 59 13 ∧ σ 59 13 ≤ 3 := by
    rw [l1]
    exact l2
  have e5 : p * 5 + 0 = 5 * p := by omega
  have i1 : (0 ≤ t ∧ t < σ 2 0 ∧ 0 ≤ y ∧ y ≤ 3 ∧ (p = -1 ∨ (0 ≤ p ∧ p < σ 2 0 ∧ ((σ 4 p = 0 ∧ p = t) ∨ (¬ σ 4 p = 0 ∧ σ 5 ((p * 5) + 0) = y))))) ↔ (0 ≤ t ∧ t < σ 59 1 ∧ 0 ≤ y ∧ y ≤ 3 ∧ (p = -1 ∨ (0 ≤ p ∧ p < σ 59 1 ∧ ((σ 60 p = 0 ∧ p = t) ∨ (¬ σ 60 p = 0 ∧ σ 61 (5 * p) = y))))) := by
    rw [e5, s1, s3, s4]
  have i2 : (¬ σ 4 t = 5 ∧ σ 9 t ≤ 0 ∧ σ 12 0 ≤ 0) ↔ (¬ σ 60 t = 5 ∧ σ 64 t ≤ 0 ∧ σ 59 13 ≤ 0) := by
    rw [t1, s3, l1]
  by_cases hg : 0 ≤ t ∧ t < σ 2 0 ∧ 0 ≤ y ∧ y ≤ 3 ∧ (p = -1 ∨ (0 ≤ p ∧ p < σ 2 0 ∧ ((σ 4 p = 0 ∧ p = t) ∨ (¬ σ 4 p = 0 ∧ σ 5 ((p * 5) + 0) = y))))
  · by_cases hg2 : ¬ σ 4 t = 5 ∧ σ 9 t ≤ 0 ∧ σ 12 0 ≤ 0
    · refine ⟨0, _, _, _, wv_192 (cl_col ht hy hp hq s2 s8 s9 h9 l2 hg hg2) ⟨by omega, by omega⟩, rf_col (σ := (ai_set (ai_set (ai_set (ai_set (ai_set (ai_set (ai_set σ 0 6 0) 36 0 0) 5 ((t * 5) + (σ 4 t)) y) 6 ((t * 5) + (σ 4 t)) p) 7 ((t * 5) + (σ 4 t)) q) 4 t ((σ 4 t) + 1)) 91 0 (σ 4 t))) ht hy hp hq z1 z2 z3 z4 z5 (i1.mp hg) (i2.mp hg2), rfl, ⟨by decide, by decide⟩, ?_, fun _ => ?_, rel_column hR hq hg hg2⟩
      · show ai_r ((if t = t then (σ 60 t) + 1 else σ 60 t) - 1)
        rw [if_pos rfl, s3]
        exact ⟨by omega, by omega⟩
      · show σ 4 t = (if t = t then (σ 60 t) + 1 else σ 60 t) - 1
        rw [if_pos rfl, s3]
        omega
    · exact ⟨2, _, _, _, wx_192_0 (cl_col_0 ht hy hp hq s2 s8 s9 h9 l2 hg hg2), rf_col_2 ht hy hp hq z1 z2 z3 z4 z5 (i1.mp hg) (fun h => hg2 (i2.mpr h)), rfl, ⟨by decide, by decide⟩, ⟨by decide, by decide⟩, fun h => absurd h (by decide), rel_code hR⟩
  · exact ⟨1, _, _, _, wx_192_1 (cl_col_1 ht hy hp hq s2 s8 s9 h9 l2 hg), rf_col_1 ht hy hp hq z1 z2 z3 z4 z5 (fun h => hg (i1.mpr h)), rfl, ⟨by decide, by decide⟩, ⟨by decide, by decide⟩, fun h => absurd h (by decide), rel_code hR⟩
theorem st_column {sc : Int × (Int → Int)} {σ : ai_S} {Q : ai_O → Prop} {a b : Nat} {v4 : Int} (hab : a + 1 ≤ 601024 ∧ b + 6 ≤ 7293034) (hv : 0 ≤ v4 ∧ v4 ≤ sc.1 - 5) (hs : ∀ j, -2147483648 ≤ sc.2 j ∧ sc.2 j ≤ 2147483647) (hR : Rel σ) (K : Nxt sc Q v4 a b) : ai_wp sc 206 50 (lwL v4 none none none) [] (a, b) (92, [], σ) Q := by
  have h3 : 0 ≤ (if sc.2 (v4 + 3) = 0 then (0 : Int) else 1) ∧ (if sc.2 (v4 + 3) = 0 then (0 : Int) else 1) ≤ 1 := by split <;> omega
  obtain ⟨k, x, σ1, σ2, hw, hm, hk, hkr, hx, ho, hR2⟩ := tn_column (sc := sc) hR (hs (v4 + 1)) (hs (v4 + 2)) (hs (v4 + 4)) h3
  exact ar_column hab hv hs hw hm hk hkr hx ho (K _ _ _ (Nat.le_refl _) (Nat.le_refl _) hR2)
