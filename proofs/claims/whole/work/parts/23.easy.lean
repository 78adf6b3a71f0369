/-! EASY TURNS, with the relation. -/
def Nxt (sc : Int × (Int → Int)) (Q : ai_O → Prop) (v4 : Int) (a b : Nat) : Prop := ∀ a' b' σ', a' ≤ a + 1 → b' ≤ b + 6 → Rel σ' → ∀ x5 x6 x7, ai_wp sc 206 13 (lwL (v4 + 5) x5 x6 x7) [] (a', b') (92, [], σ') Q
theorem rel_code {σ : ai_S} {v : Int} (h : Rel σ) : Rel (ai_set σ 59 0 v) := h
theorem rel_out {σ : ai_S} {v : Int} (h : Rel σ) : Rel (ai_set σ 91 0 v) := h
theorem bi_congr {p q : Prop} [Decidable p] [Decidable q] (h : p ↔ q) : bi p = bi q := by
  unfold bi
  by_cases hp : p
  · rw [if_pos hp, if_pos (h.mp hp)]
  · rw [if_neg hp, if_neg (fun x => hp (h.mpr x))]
theorem GS_table {T : Int} {w ty pa cn ce nu : Int → Int} (h : GS T w ty pa cn ce nu) (hT : T < 5) : GS (T + 1) (fun j => if j = T then 0 else w j) ty pa cn ce nu := by
  obtain ⟨h1, h2, h3, h4, h5, h6, h7, h8⟩ := h
  refine ⟨h1, fun t q1 q2 => h2 t (by omega) q2, h3, h4, h5, h6, fun t r c q1 q2 q3 q4 q5 q6 => ?_, fun t r c q1 q2 q3 q4 q5 q6 => ?_⟩
  · by_cases e : t = T
    · rw [h2 t (by omega) (by omega)] at q4
      omega
    · simp only [if_neg e] at q6
      exact h7 t r c q1 (by omega) q3 q4 q5 q6
  · by_cases e : t = T
    · rw [h2 t (by omega) (by omega)] at q4
      omega
    · simp only [if_neg e] at q6
      exact h8 t r c q1 (by omega) q3 q4 q5 q6
theorem RSn_table {i o T : Int} {w ty pa cn ce nu om ov on sg ol : Int → Int} (h : RSn i o T w ty pa cn ce nu om ov on sg ol) (hT : T < 5) : RSn i o (T + 1) (fun j => if j = T then 0 else w j) ty pa cn ce nu om ov on sg ol := ⟨h.1, fun q => ⟨(h.2 q).1, GS_table (h.2 q).2.1 hT, (h.2 q).2.2⟩⟩
theorem DS_table {T : Int} {w ty : Int → Int} {S N : Int} {ta wd cl nm fr rs ce nu : Int → Int} {S' N' : Int} {st sw sf sl xc xn : Int → Int} (h : DS T w ty S N ta wd cl nm fr rs ce nu S' N' st sw sf sl xc xn) : DS (T + 1) (fun j => if j = T then 0 else w j) ty S N ta wd cl nm fr rs ce nu S' N' st sw sf sl xc xn := by
  obtain ⟨h1, h2, h3, h4⟩ := h
  refine ⟨h1, h2, h3, fun s q1 q2 => ?_⟩
  obtain ⟨g1, g2, g3, g4, g5, g6, g7, g8⟩ := h4 s q1 q2
  have e : (if ta s = T then (0 : Int) else w (ta s)) = w (ta s) := if_neg (by omega)
  refine ⟨⟨g1.1, g1.2.1, by omega⟩, ⟨g2.1, g2.2.1, ?_⟩, g3, g4, fun k k1 k2 => ?_, g6, g7, fun r r1 r2 => ?_⟩
  · show wd s ≤ (if ta s = T then (0 : Int) else w (ta s))
    rw [e]
    exact g2.2.2
  · show _ ∧ _ ∧ _ < (if ta s = T then (0 : Int) else w (ta s))
    rw [e]
    exact g5 k k1 k2
  · obtain ⟨f1, f2, f3, f4, f5, f6⟩ := g8 r r1 r2
    refine ⟨f1, f2, f3, f4, f5, fun c c1 c2 => f6 c c1 ?_⟩
    have c3 : c < (if ta s = T then (0 : Int) else w (ta s)) := c2
    rw [e] at c3
    exact c3
theorem rel_table {σ : ai_S} (hR : Rel σ) (hT : σ 2 0 < 5) : Rel (ai_set (ai_set (ai_set (ai_set (ai_set (ai_set (ai_set σ 4 (σ 2 0) 0) 2 0 (σ 2 0 + 1)) 91 0 (σ 2 0 + 1 - 1)) 59 0 0) 60 (σ 59 1) 0) 64 (σ 59 1) 0) 59 1 (σ 59 1 + 1)) := by
  obtain ⟨⟨s1, s2, s3, s4, s5, s6, s7, s8, s9⟩, ⟨⟨t1, t2, t3⟩, t4⟩, hL, n0, n1, n2, hX, hF, ⟨d1, d2, d3, d4⟩, hC, hW⟩ := hR
  have z := t4.2.1
  refine ⟨⟨?_, ⟨?_, ?_⟩, ?_, s4, s5, s6, s7, ?_, s9⟩, ⟨⟨?_, t2, t3⟩, GS_table t4 hT⟩, hL, RSn_table n0 hT, RSn_table n1 hT, RSn_table n2 hT, hX, hF, ⟨d1, d2, d3, fun q => ⟨fun e => DS_table ((d4 q).1 e), fun e => DS_table ((d4 q).2 e)⟩⟩, hC, hW⟩
  · show σ 59 1 + 1 = σ 2 0 + 1
    omega
  · show 0 ≤ σ 2 0 + 1
    omega
  · show σ 2 0 + 1 ≤ 5
    omega
  · funext j
    show (if j = σ 59 1 then (0 : Int) else σ 60 j) = (if j = σ 2 0 then (0 : Int) else σ 4 j)
    rw [s1, s3]
  · intro t
    show 0 ≤ (if t = σ 2 0 then (0 : Int) else σ 4 t) ∧ (if t = σ 2 0 then (0 : Int) else σ 4 t) ≤ 5
    have := s8 t
    split <;> omega
  · funext j
    show (if j = σ 59 1 then (0 : Int) else σ 64 j) = σ 9 j
    rw [s1, t1]
    split
    · rename_i e
      rw [e]
      exact (z _ (Int.le_refl _) hT).symm
    · rfl
theorem st_table {sc : Int × (Int → Int)} {σ : ai_S} {Q : ai_O → Prop} {a b : Nat} {v4 : Int} (hab : a + 1 ≤ 601024 ∧ b + 6 ≤ 7293034) (hv : 0 ≤ v4 ∧ v4 ≤ sc.1 - 5) (hs : ∀ j, -2147483648 ≤ sc.2 j ∧ sc.2 j ≤ 2147483647) (hR : Rel σ) (K : Nxt sc Q v4 a b) : ai_wp sc 206 25 (lwL v4 none none none) [] (a, b) (92, [], σ) Q := by
  have hS := hR.1
  refine arm_table hab hS.1 hS.2.1 (fun h => K _ _ _ (Nat.le_refl _) (Nat.le_refl _) (rel_table hR h)) (fun _ => K _ _ _ (Nat.le_refl _) (Nat.le_refl _) (rel_code hR))
theorem rel_wipe {σ : ai_S} (hR : Rel σ) : Rel (ai_set (ai_set (ai_set σ 34 0 0) 59 0 0) 59 15 0) := by
  obtain ⟨hS, hT, hL, n0, n1, n2, ⟨x1, x2, x3, x4⟩, hF, hD, hC, hW⟩ := hR
  exact ⟨hS, hT, hL, n0, n1, n2, ⟨rfl, ⟨(show (0 : Int) ≤ 0 by decide), (show (0 : Int) ≤ 120 by decide)⟩, x3, x4⟩, hF, hD, hC, hW⟩
theorem st_wipe {sc : Int × (Int → Int)} {σ : ai_S} {Q : ai_O → Prop} {a b : Nat} {v4 : Int} (hab : a + 1 ≤ 601024 ∧ b + 6 ≤ 7293034) (hv : 0 ≤ v4 ∧ v4 ≤ sc.1 - 5) (hs : ∀ j, -2147483648 ≤ sc.2 j ∧ sc.2 j ≤ 2147483647) (hR : Rel σ) (K : Nxt sc Q v4 a b) : ai_wp sc 206 142 (lwL v4 none none none) [] (a, b) (92, [], σ) Q := by
  exact arm_wipe ⟨by omega, by omega⟩ (K _ _ _ (by omega) (by omega) (rel_wipe hR))
theorem st_fault {sc : Int × (Int → Int)} {σ : ai_S} {Q : ai_O → Prop} {a b : Nat} {v4 : Int} (hab : a + 1 ≤ 601024 ∧ b + 6 ≤ 7293034) (hv : 0 ≤ v4 ∧ v4 ≤ sc.1 - 5) (hs : ∀ j, -2147483648 ≤ sc.2 j ∧ sc.2 j ≤ 2147483647) (hR : Rel σ) (K : Nxt sc Q v4 a b) : ai_wp sc 206 172 (lwL v4 none none none) [] (a, b) (92, [], σ) Q := by
  obtain ⟨hS, hT, hL, n0, n1, n2, hX, ⟨f1, f2, f3⟩, hD⟩ := id hR
  exact arm_fault ⟨by omega, by omega⟩ f1.symm f2 (K _ _ _ (by omega) (by omega) (rel_code hR))
theorem st_failure {sc : Int × (Int → Int)} {σ : ai_S} {Q : ai_O → Prop} {a b : Nat} {v4 : Int} (hab : a + 1 ≤ 601024 ∧ b + 6 ≤ 7293034) (hv : 0 ≤ v4 ∧ v4 ≤ sc.1 - 5) (hs : ∀ j, -2147483648 ≤ sc.2 j ∧ sc.2 j ≤ 2147483647) (hR : Rel σ) (K : Nxt sc Q v4 a b) : ai_wp sc 206 249 (lwL v4 none none none) [] (a, b) (92, [], σ) Q := by
  obtain ⟨hS, hT, hL, n0, n1, n2, hX, ⟨f1, f2, f3, f4, f5⟩, hD⟩ := id hR
  exact arm_failure ⟨by omega, by omega⟩ hv hs (fun j _ _ => ⟨congrFun f3 j, f4 j⟩) (K _ _ _ (by omega) (by omega) (rel_code hR))
theorem rel_commit {σ : ai_S} (hR : Rel σ) (ho : 0 < σ 12 0) : Rel (ai_set (ai_set (ai_set (ai_set σ 12 0 (σ 12 0 - 1)) 91 0 (σ 12 0 - 1)) 59 0 0) 59 13 (σ 59 13 - 1)) := by
  obtain ⟨hS, hT, ⟨l1, l2, l3⟩, n0, n1, n2, hX, hF, hD, hC, hW⟩ := hR
  refine ⟨hS, hT, ⟨?_, ⟨?_, ?_⟩, fun _ => l3 ho⟩, ⟨n0.1, fun q => n0.2 ?_⟩, ⟨n1.1, fun q => n1.2 ?_⟩, ⟨n2.1, fun q => n2.2 ?_⟩, hX, hF, hD, hC, hW⟩
  · show σ 59 13 - 1 = σ 12 0 - 1
    omega
  · show 0 ≤ σ 12 0 - 1
    omega
  · show σ 12 0 - 1 ≤ 3
    omega
  · have q2 : 0 < σ 12 0 - 1 := q
    omega
  · have q2 : 1 < σ 12 0 - 1 := q
    omega
  · have q2 : 2 < σ 12 0 - 1 := q
    omega
theorem st_commit {sc : Int × (Int → Int)} {σ : ai_S} {Q : ai_O → Prop} {a b : Nat} {v4 : Int} (hab : a + 1 ≤ 601024 ∧ b + 6 ≤ 7293034) (hv : 0 ≤ v4 ∧ v4 ≤ sc.1 - 5) (hs : ∀ j, -2147483648 ≤ sc.2 j ∧ sc.2 j ≤ 2147483647) (hR : Rel σ) (K : Nxt sc Q v4 a b) : ai_wp sc 206 438 (lwL v4 none none none) [] (a, b) (92, [], σ) Q := by
  obtain ⟨hS, hT, ⟨l1, l2, l3⟩, n0⟩ := id hR
  exact arm_commit hab l1 l2 (fun h => K _ _ _ (Nat.le_refl _) (Nat.le_refl _) (rel_commit hR h)) (fun _ => K _ _ _ (Nat.le_refl _) (Nat.le_refl _) (rel_code hR))
theorem st_rows {sc : Int × (Int → Int)} {σ : ai_S} {Q : ai_O → Prop} {a b : Nat} {v4 : Int} (hab : a + 1 ≤ 601024 ∧ b + 6 ≤ 7293034) (hv : 0 ≤ v4 ∧ v4 ≤ sc.1 - 5) (hs : ∀ j, -2147483648 ≤ sc.2 j ∧ sc.2 j ≤ 2147483647) (hR : Rel σ) (K : Nxt sc Q v4 a b) : ai_wp sc 206 266 (lwL v4 none none none) [] (a, b) (92, [], σ) Q := by
  obtain ⟨hS, ⟨⟨t1, t2⟩, t4⟩, hL⟩ := id hR
  exact arm_rows hab hv hs hS.1 hS.2.1 (fun t _ _ => ⟨congrFun t1 t, t4.1 t⟩) (K _ _ _ (Nat.le_refl _) (Nat.le_refl _) (rel_code (rel_out hR))) (K _ _ _ (Nat.le_refl _) (Nat.le_refl _) (rel_code hR))
theorem rel_type {σ : ai_S} (hR : Rel σ) {c : Int} (hc : 0 ≤ c ∧ c ≤ 65535) (hn : σ 34 0 < 120) : Rel (ai_set (ai_set (ai_set (ai_set (ai_set σ 35 (σ 34 0) c) 34 0 (σ 34 0 + 1)) 59 0 0) 71 (σ 59 15) c) 59 15 (σ 59 15 + 1)) := by
  obtain ⟨hS, hT, hL, n0, n1, n2, ⟨x1, x2, x3, x4⟩, hF, hD, hC, hW⟩ := hR
  refine ⟨hS, hT, hL, n0, n1, n2, ⟨?_, ⟨?_, ?_⟩, ?_, ?_⟩, hF, hD, hC, hW⟩
  · show σ 59 15 + 1 = σ 34 0 + 1
    omega
  · show 0 ≤ σ 34 0 + 1
    omega
  · show σ 34 0 + 1 ≤ 120
    omega
  · funext j
    show (if j = σ 59 15 then c else σ 71 j) = (if j = σ 34 0 then c else σ 35 j)
    rw [x1, x3]
  · intro j
    show 0 ≤ (if j = σ 34 0 then c else σ 35 j) ∧ (if j = σ 34 0 then c else σ 35 j) ≤ 65535
    have := x4 j
    split <;> omega
theorem st_type {sc : Int × (Int → Int)} {σ : ai_S} {Q : ai_O → Prop} {a b : Nat} {v4 : Int} (hab : a + 1 ≤ 601024 ∧ b + 6 ≤ 7293034) (hv : 0 ≤ v4 ∧ v4 ≤ sc.1 - 5) (hs : ∀ j, -2147483648 ≤ sc.2 j ∧ sc.2 j ≤ 2147483647) (hR : Rel σ) (K : Nxt sc Q v4 a b) : ai_wp sc 206 123 (lwL v4 none none none) [] (a, b) (92, [], σ) Q := by
  obtain ⟨hS, hT, hL, n0, n1, n2, ⟨x1, x2, x3, x4⟩, hF⟩ := id hR
  exact arm_type ⟨by omega, by omega⟩ hv (i2c_rng _) x1 x2 (fun h => K _ _ _ (by omega) (by omega) (rel_type hR (i2c_rng _) h)) (fun _ => K _ _ _ (by omega) (by omega) (rel_code hR))
theorem cl_value {sc : Int × (Int → Int)} {σ : ai_S} {t r c : Int} (ht : -2147483648 ≤ t ∧ t ≤ 2147483647) (hr : -2147483648 ≤ r ∧ r ≤ 2147483647) (hc : -2147483648 ≤ c ∧ c ≤ 2147483647) (hT : 0 ≤ σ 2 0 ∧ σ 2 0 ≤ 5) (h9 : 0 ≤ σ 9 t ∧ σ 9 t ≤ 12) (h4 : 0 ≤ σ 4 t ∧ σ 4 t ≤ 5) (hg : 0 ≤ t ∧ t < σ 2 0 ∧ 0 ≤ r ∧ r < σ 9 t ∧ 0 ≤ c ∧ c < σ 4 t) : fn sc 11 [some (.inr (.inr 0)), some (.inl t), some (.inl r), some (.inl c)] σ (some (.inr (.inl (σ 10 (((t * 12) + r) * 5 + c))))) σ := by
  intro Q hQ
  refine rb_11_0 ?_
  repeat' (first | exact hQ | omega | exact bi_r _ | exact bi_01 _ | exact cmp_r _ _ | exact r32 _ | apply And.intro | refine ai_ret_q (pc_31 ?_ (ai_k_in ?_)) | refine ai_ret_q (pc_106 ?_ (ai_k_in ?_)) | refine rb_11_6 ?_ | refine rb_11_19 ?_ | (with_reducible intro h; first | replace h := bi_yes h | replace h := bi_no2 h | replace h := bi_no h | replace h := cmp_eq.mp h | replace h := mt cmp_eq.mpr h | replace h := cmp_lt.mp h | replace h := mt cmp_lt.mpr h | replace h := cmp_le.mp h | replace h := mt cmp_le.mpr h | skip))
theorem cl_value_x {sc : Int × (Int → Int)} {σ : ai_S} {t r c : Int} (ht : -2147483648 ≤ t ∧ t ≤ 2147483647) (hr : -2147483648 ≤ r ∧ r ≤ 2147483647) (hc : -2147483648 ≤ c ∧ c ≤ 2147483647) (hT : 0 ≤ σ 2 0 ∧ σ 2 0 ≤ 5) (h9 : 0 ≤ σ 9 t ∧ σ 9 t ≤ 12) (h4 : 0 ≤ σ 4 t ∧ σ 4 t ≤ 5) (hg : ¬ (0 ≤ t ∧ t < σ 2 0 ∧ 0 ≤ r ∧ r < σ 9 t ∧ 0 ≤ c ∧ c < σ 4 t)) : th sc 11 [some (.inr (.inr 0)), some (.inl t), some (.inl r), some (.inl c)] σ 3 σ := by
  intro Q hQ
  refine rb_11_0 ?_
  repeat' (first | exact hQ | omega | exact bi_r _ | exact bi_01 _ | exact cmp_r _ _ | exact r32 _ | apply And.intro | refine ai_ret_q (pc_31 ?_ (ai_k_in ?_)) | refine rb_11_6 ?_ | (with_reducible intro h; first | replace h := bi_yes h | replace h := bi_no2 h | replace h := bi_no h | replace h := cmp_eq.mp h | replace h := mt cmp_eq.mpr h | replace h := cmp_lt.mp h | replace h := mt cmp_lt.mpr h | replace h := cmp_le.mp h | replace h := mt cmp_le.mpr h | skip))
theorem cl_isNull {sc : Int × (Int → Int)} {σ : ai_S} {t r c : Int} (ht : -2147483648 ≤ t ∧ t ≤ 2147483647) (hr : -2147483648 ≤ r ∧ r ≤ 2147483647) (hc : -2147483648 ≤ c ∧ c ≤ 2147483647) (hT : 0 ≤ σ 2 0 ∧ σ 2 0 ≤ 5) (h9 : 0 ≤ σ 9 t ∧ σ 9 t ≤ 12) (h4 : 0 ≤ σ 4 t ∧ σ 4 t ≤ 5) (hg : 0 ≤ t ∧ t < σ 2 0 ∧ 0 ≤ r ∧ r < σ 9 t ∧ 0 ≤ c ∧ c < σ 4 t) : fn sc 12 [some (.inr (.inr 0)), some (.inl t), some (.inl r), some (.inl c)] σ (some (.inl (bi (¬ ((ai_and (ai_shr (σ 11 ((t * 12) + r)) c) 1) = (0 : Int)))))) σ := by
  intro Q hQ
  refine rb_12_0 ?_
  repeat' (first | exact hQ | omega | exact bi_r _ | exact bi_01 _ | exact cmp_r _ _ | exact r32 _ | apply And.intro | refine ai_ret_q (pc_31 ?_ (ai_k_in ?_)) | refine ai_ret_q (pc_107 ?_ (ai_k_in ?_)) | refine rb_12_6 ?_ | refine rb_12_19 ?_ | (with_reducible intro h; first | replace h := bi_yes h | replace h := bi_no2 h | replace h := bi_no h | replace h := cmp_eq.mp h | replace h := mt cmp_eq.mpr h | replace h := cmp_lt.mp h | replace h := mt cmp_lt.mpr h | replace h := cmp_le.mp h | replace h := mt cmp_le.mpr h | skip))
theorem cl_isNull_x {sc : Int × (Int → Int)} {σ : ai_S} {t r c : Int} (ht : -2147483648 ≤ t ∧ t ≤ 2147483647) (hr : -2147483648 ≤ r ∧ r ≤ 2147483647) (hc : -2147483648 ≤ c ∧ c ≤ 2147483647) (hT : 0 ≤ σ 2 0 ∧ σ 2 0 ≤ 5) (h9 : 0 ≤ σ 9 t ∧ σ 9 t ≤ 12) (h4 : 0 ≤ σ 4 t ∧ σ 4 t ≤ 5) (hg : ¬ (0 ≤ t ∧ t < σ 2 0 ∧ 0 ≤ r ∧ r < σ 9 t ∧ 0 ≤ c ∧ c < σ 4 t)) : th sc 12 [some (.inr (.inr 0)), some (.inl t), some (.inl r), some (.inl c)] σ 3 σ := by
  intro Q hQ
  refine rb_12_0 ?_
  repeat' (first | exact hQ | omega | exact bi_r _ | exact bi_01 _ | exact cmp_r _ _ | exact r32 _ | apply And.intro | refine ai_ret_q (pc_31 ?_ (ai_k_in ?_)) | refine rb_12_6 ?_ | (with_reducible intro h; first | replace h := bi_yes h | replace h := bi_no2 h | replace h := bi_no h | replace h := cmp_eq.mp h | replace h := mt cmp_eq.mpr h | replace h := cmp_lt.mp h | replace h := mt cmp_lt.mpr h | replace h := cmp_le.mp h | replace h := mt cmp_le.mpr h | skip))
theorem rf_place {sc : Int × (Int → Int)} {σ : ai_S} {t r c : Int} (ht : -2147483648 ≤ t ∧ t ≤ 2147483647) (hr : -2147483648 ≤ r ∧ r ≤ 2147483647) (hc : -2147483648 ≤ c ∧ c ≤ 2147483647) (hT : 0 ≤ σ 59 1 ∧ σ 59 1 ≤ 5) (h9 : 0 ≤ σ 64 t ∧ σ 64 t ≤ 12) (h4 : 0 ≤ σ 60 t ∧ σ 60 t ≤ 5) (hg : 0 ≤ t ∧ t < σ 59 1 ∧ 0 ≤ r ∧ r < σ 64 t ∧ 0 ≤ c ∧ c < σ 60 t) : fn sc 175 [some (.inr (.inr 59)), some (.inl t), some (.inl r), some (.inl c)] σ (some (.inl (((60 * t) + (5 * r)) + c))) (ai_set σ 59 0 0) := by
  intro Q hQ
  refine rb_175_0 ?_
  repeat' (first | exact hQ | omega | exact bi_r _ | exact bi_01 _ | exact cmp_r _ _ | exact r32 _ | apply And.intro | refine ai_ret_q (pc_129 ?_ (ai_k_in ?_)) | refine rb_175_4 ?_ | (with_reducible intro h; first | replace h := bi_yes h | replace h := bi_no2 h | replace h := bi_no h | replace h := cmp_eq.mp h | replace h := mt cmp_eq.mpr h | replace h := cmp_lt.mp h | replace h := mt cmp_lt.mpr h | replace h := cmp_le.mp h | replace h := mt cmp_le.mpr h | skip))
theorem rf_place_x {sc : Int × (Int → Int)} {σ : ai_S} {t r c : Int} (ht : -2147483648 ≤ t ∧ t ≤ 2147483647) (hr : -2147483648 ≤ r ∧ r ≤ 2147483647) (hc : -2147483648 ≤ c ∧ c ≤ 2147483647) (hT : 0 ≤ σ 59 1 ∧ σ 59 1 ≤ 5) (h9 : 0 ≤ σ 64 t ∧ σ 64 t ≤ 12) (h4 : 0 ≤ σ 60 t ∧ σ 60 t ≤ 5) (hg : ¬ (0 ≤ t ∧ t < σ 59 1 ∧ 0 ≤ r ∧ r < σ 64 t ∧ 0 ≤ c ∧ c < σ 60 t)) : fn sc 175 [some (.inr (.inr 59)), some (.inl t), some (.inl r), some (.inl c)] σ (some (.inl 0)) (ai_set σ 59 0 1) := by
  intro Q hQ
  refine rb_175_0 ?_
  repeat' (first | exact hQ | omega | exact bi_r _ | exact bi_01 _ | exact cmp_r _ _ | exact r32 _ | apply And.intro | refine ai_ret_q (pc_129 ?_ (ai_k_in ?_)) | refine rb_175_4 ?_ | (with_reducible intro h; first | replace h := bi_yes h | replace h := bi_no2 h | replace h := bi_no h | replace h := cmp_eq.mp h | replace h := mt cmp_eq.mpr h | replace h := cmp_lt.mp h | replace h := mt cmp_lt.mpr h | replace h := cmp_le.mp h | replace h := mt cmp_le.mpr h | skip))
theorem rf_value_x {sc : Int × (Int → Int)} {σ : ai_S} {t r c : Int} (ht : -2147483648 ≤ t ∧ t ≤ 2147483647) (hr : -2147483648 ≤ r ∧ r ≤ 2147483647) (hc : -2147483648 ≤ c ∧ c ≤ 2147483647) (hT : 0 ≤ σ 59 1 ∧ σ 59 1 ≤ 5) (h9 : 0 ≤ σ 64 t ∧ σ 64 t ≤ 12) (h4 : 0 ≤ σ 60 t ∧ σ 60 t ≤ 5) (hg : ¬ (0 ≤ t ∧ t < σ 59 1 ∧ 0 ≤ r ∧ r < σ 64 t ∧ 0 ≤ c ∧ c < σ 60 t)) : fn sc 176 [some (.inr (.inr 59)), some (.inl t), some (.inl r), some (.inl c), none] σ (some (.inr (.inl 0))) (ai_set σ 59 0 1) := by
  intro Q hQ
  refine rb_176_0 (fn_ret (rf_place_x ht hr hc hT h9 h4 hg) (rb_176_5 ⟨(show ai_r 1 from ⟨by decide, by decide⟩), fun _ => hQ, fun h => absurd (show (0 : Int) < 1 by decide) h⟩))
theorem rf_value_0 {sc : Int × (Int → Int)} {σ : ai_S} {t r c : Int} (ht : -2147483648 ≤ t ∧ t ≤ 2147483647) (hr : -2147483648 ≤ r ∧ r ≤ 2147483647) (hc : -2147483648 ≤ c ∧ c ≤ 2147483647) (hT : 0 ≤ σ 59 1 ∧ σ 59 1 ≤ 5) (h9 : 0 ≤ σ 64 t ∧ σ 64 t ≤ 12) (h4 : 0 ≤ σ 60 t ∧ σ 60 t ≤ 5) (hg : 0 ≤ t ∧ t < σ 59 1 ∧ 0 ≤ r ∧ r < σ 64 t ∧ 0 ≤ c ∧ c < σ 60 t) (h66 : ai_r (σ 66 (((60 * t) + (5 * r)) + c))) (hz : σ 66 (((60 * t) + (5 * r)) + c) = 0) : fn sc 176 [some (.inr (.inr 59)), some (.inl t), some (.inl r), some (.inl c), none] σ (some (.inr (.inl (σ 65 (((60 * t) + (5 * r)) + c))))) (ai_set σ 59 0 0) := by
  intro Q hQ
  exact rb_176_0 (fn_ret (rf_place ht hr hc hT h9 h4 hg) (rb_176_5 ⟨(show ai_r 0 from ⟨by decide, by decide⟩), fun h => absurd h (show ¬ (0 : Int) < 0 by decide), fun _ => ⟨⟨by omega, by omega⟩, h66, fun _ => ⟨⟨by omega, by omega⟩, hQ⟩, fun h => absurd hz h⟩⟩))
theorem rf_value_1 {sc : Int × (Int → Int)} {σ : ai_S} {t r c : Int} (ht : -2147483648 ≤ t ∧ t ≤ 2147483647) (hr : -2147483648 ≤ r ∧ r ≤ 2147483647) (hc : -2147483648 ≤ c ∧ c ≤ 2147483647) (hT : 0 ≤ σ 59 1 ∧ σ 59 1 ≤ 5) (h9 : 0 ≤ σ 64 t ∧ σ 64 t ≤ 12) (h4 : 0 ≤ σ 60 t ∧ σ 60 t ≤ 5) (hg : 0 ≤ t ∧ t < σ 59 1 ∧ 0 ≤ r ∧ r < σ 64 t ∧ 0 ≤ c ∧ c < σ 60 t) (h66 : ai_r (σ 66 (((60 * t) + (5 * r)) + c))) (hz : ¬ σ 66 (((60 * t) + (5 * r)) + c) = 0) : fn sc 176 [some (.inr (.inr 59)), some (.inl t), some (.inl r), some (.inl c), none] σ (some (.inr (.inl 0))) (ai_set σ 59 0 0) := by
  intro Q hQ
  exact rb_176_0 (fn_ret (rf_place ht hr hc hT h9 h4 hg) (rb_176_5 ⟨(show ai_r 0 from ⟨by decide, by decide⟩), fun h => absurd h (show ¬ (0 : Int) < 0 by decide), fun _ => ⟨⟨by omega, by omega⟩, h66, fun h => absurd h hz, fun _ => hQ⟩⟩))
theorem rf_isNull_x {sc : Int × (Int → Int)} {σ : ai_S} {t r c : Int} (ht : -2147483648 ≤ t ∧ t ≤ 2147483647) (hr : -2147483648 ≤ r ∧ r ≤ 2147483647) (hc : -2147483648 ≤ c ∧ c ≤ 2147483647) (hT : 0 ≤ σ 59 1 ∧ σ 59 1 ≤ 5) (h9 : 0 ≤ σ 64 t ∧ σ 64 t ≤ 12) (h4 : 0 ≤ σ 60 t ∧ σ 60 t ≤ 5) (hg : ¬ (0 ≤ t ∧ t < σ 59 1 ∧ 0 ≤ r ∧ r < σ 64 t ∧ 0 ≤ c ∧ c < σ 60 t)) : fn sc 177 [some (.inr (.inr 59)), some (.inl t), some (.inl r), some (.inl c), none] σ (some (.inl 0)) (ai_set σ 59 0 1) := by
  intro Q hQ
  refine rb_177_0 (fn_ret (rf_place_x ht hr hc hT h9 h4 hg) (rb_177_5 ⟨(show ai_r 1 from ⟨by decide, by decide⟩), fun _ => ⟨⟨by decide, by decide⟩, hQ⟩, fun h => absurd (show ¬ (1 : Int) = 0 by decide) h⟩))
theorem rf_isNull_0 {sc : Int × (Int → Int)} {σ : ai_S} {t r c : Int} (ht : -2147483648 ≤ t ∧ t ≤ 2147483647) (hr : -2147483648 ≤ r ∧ r ≤ 2147483647) (hc : -2147483648 ≤ c ∧ c ≤ 2147483647) (hT : 0 ≤ σ 59 1 ∧ σ 59 1 ≤ 5) (h9 : 0 ≤ σ 64 t ∧ σ 64 t ≤ 12) (h4 : 0 ≤ σ 60 t ∧ σ 60 t ≤ 5) (hg : 0 ≤ t ∧ t < σ 59 1 ∧ 0 ≤ r ∧ r < σ 64 t ∧ 0 ≤ c ∧ c < σ 60 t) (h66 : ai_r (σ 66 (((60 * t) + (5 * r)) + c))) (hz : σ 66 (((60 * t) + (5 * r)) + c) = 0) : fn sc 177 [some (.inr (.inr 59)), some (.inl t), some (.inl r), some (.inl c), none] σ (some (.inl 0)) (ai_set σ 59 0 0) := by
  intro Q hQ
  exact rb_177_0 (fn_ret (rf_place ht hr hc hT h9 h4 hg) (rb_177_5 ⟨(show ai_r 0 from ⟨by decide, by decide⟩), fun h => absurd rfl h, fun _ => ⟨⟨by omega, by omega⟩, h66, fun _ => ⟨⟨by decide, by decide⟩, hQ⟩, fun h => absurd hz h⟩⟩))
theorem rf_isNull_1 {sc : Int × (Int → Int)} {σ : ai_S} {t r c : Int} (ht : -2147483648 ≤ t ∧ t ≤ 2147483647) (hr : -2147483648 ≤ r ∧ r ≤ 2147483647) (hc : -2147483648 ≤ c ∧ c ≤ 2147483647) (hT : 0 ≤ σ 59 1 ∧ σ 59 1 ≤ 5) (h9 : 0 ≤ σ 64 t ∧ σ 64 t ≤ 12) (h4 : 0 ≤ σ 60 t ∧ σ 60 t ≤ 5) (hg : 0 ≤ t ∧ t < σ 59 1 ∧ 0 ≤ r ∧ r < σ 64 t ∧ 0 ≤ c ∧ c < σ 60 t) (h66 : ai_r (σ 66 (((60 * t) + (5 * r)) + c))) (hz : ¬ σ 66 (((60 * t) + (5 * r)) + c) = 0) : fn sc 177 [some (.inr (.inr 59)), some (.inl t), some (.inl r), some (.inl c), none] σ (some (.inl 1)) (ai_set σ 59 0 0) := by
  intro Q hQ
  exact rb_177_0 (fn_ret (rf_place ht hr hc hT h9 h4 hg) (rb_177_5 ⟨(show ai_r 0 from ⟨by decide, by decide⟩), fun h => absurd rfl h, fun _ => ⟨⟨by omega, by omega⟩, h66, fun h => absurd h hz, fun _ => ⟨⟨by decide, by decide⟩, hQ⟩⟩⟩))
theorem tn_value {sc : Int × (Int → Int)} {σ : ai_S} (hR : Rel σ) {t r c : Int} (ht : -2147483648 ≤ t ∧ t ≤ 2147483647) (hr : -2147483648 ≤ r ∧ r ≤ 2147483647) (hc : -2147483648 ≤ c ∧ c ≤ 2147483647) : ∃ k x σ1 σ2, fn sc 197 [some (.inr (.inr 0)), some (.inl t), some (.inl r), some (.inl c), some (.inr (.inr 91)), none] σ (some (.inl k)) σ1 ∧ fn sc 176 [some (.inr (.inr 59)), some (.inl t), some (.inl r), some (.inl c), none] σ1 (some (.inr (.inl x))) σ2 ∧ σ2 59 0 = k ∧ (0 ≤ k ∧ k ≤ 3) ∧ ai_r8 x ∧ (k = 0 → σ2 91 0 = x) ∧ Rel σ2 := by
  obtain ⟨⟨s1, s2, s3, s4, s5, s6, s7, s8, s9⟩, ⟨⟨t1, t2, t3⟩, ⟨u1, u2, u3, u4, u5, u6, u7⟩⟩, hL⟩ := id hR
  have h9 := u1 t
  have h4 := s8 t
  have h9' : 0 ≤ σ 64 t ∧ σ 64 t ≤ 12 := by
    rw [t1]
    exact h9
  have h4' : 0 ≤ σ 60 t ∧ σ 60 t ≤ 5 := by
    rw [s3]
    exact h4
  have s2' : 0 ≤ σ 59 1 ∧ σ 59 1 ≤ 5 := by
    rw [s1]
    exact s2
  by_cases hg : 0 ≤ t ∧ t < σ 2 0 ∧ 0 ≤ r ∧ r < σ 9 t ∧ 0 ≤ c ∧ c < σ 4 t
  · have hg' : 0 ≤ t ∧ t < σ 59 1 ∧ 0 ≤ r ∧ r < σ 64 t ∧ 0 ≤ c ∧ c < σ 60 t := by
      rw [s1, t1, s3]
      exact hg
    have e1 : ((60 * t) + (5 * r)) + c = 5 * (12 * t + r) + c := by omega
    have e2 : ((t * 12) + r) * 5 + c = 60 * t + 5 * r + c := by omega
    have e3 : (t * 12) + r = 12 * t + r := by omega
    have e4 := t3 (12 * t + r) c (by omega) (by omega) (by omega) (by omega)
    rw [← e1] at e4
    have e5 : ai_r (σ 66 (((60 * t) + (5 * r)) + c)) := by
      rw [e4]
      exact bi_r _
    have e6 := u4 (60 * t + 5 * r + c)
    by_cases hz : σ 66 (((60 * t) + (5 * r)) + c) = 0
    · refine ⟨0, _, _, _, wv_197 (cl_value ht hr hc s2 h9 h4 hg), rf_value_0 (σ := ai_set σ 91 0 (σ 10 (((t * 12) + r) * 5 + c))) ht hr hc s2' h9' h4' hg' e5 hz, rfl, ⟨by decide, by decide⟩, ?_, fun _ => ?_, rel_code (rel_out hR)⟩
      · show ai_r8 (σ 65 (((60 * t) + (5 * r)) + c))
        rw [t2]
        unfold rg at e6
        exact ⟨by omega, by omega⟩
      · show σ 10 (((t * 12) + r) * 5 + c) = σ 65 (((60 * t) + (5 * r)) + c)
        rw [t2, e2]
    · refine ⟨0, _, _, _, wv_197 (cl_value ht hr hc s2 h9 h4 hg), rf_value_1 (σ := ai_set σ 91 0 (σ 10 (((t * 12) + r) * 5 + c))) ht hr hc s2' h9' h4' hg' e5 hz, rfl, ⟨by decide, by decide⟩, ⟨by decide, by decide⟩, fun _ => ?_, rel_code (rel_out hR)⟩
      show σ 10 (((t * 12) + r) * 5 + c) = 0
      rw [e4] at hz
      rw [e2]
      exact u6 t r c (by omega) (by omega) (by omega) (by omega) (by omega) (by omega) (bi_yes hz)
  · refine ⟨1, _, _, _, wx_197_3 (cl_value_x ht hr hc s2 h9 h4 hg), rf_value_x ht hr hc s2' h9' h4' (by rw [s1, t1, s3]; exact hg), rfl, ⟨by decide, by decide⟩, ⟨by decide, by decide⟩, fun h => absurd h (by decide), rel_code hR⟩
theorem st_value {sc : Int × (Int → Int)} {σ : ai_S} {Q : ai_O → Prop} {a b : Nat} {v4 : Int} (hab : a + 1 ≤ 601024 ∧ b + 6 ≤ 7293034) (hv : 0 ≤ v4 ∧ v4 ≤ sc.1 - 5) (hs : ∀ j, -2147483648 ≤ sc.2 j ∧ sc.2 j ≤ 2147483647) (hR : Rel σ) (K : Nxt sc Q v4 a b) : ai_wp sc 206 301 (lwL v4 none none none) [] (a, b) (92, [], σ) Q := by
  obtain ⟨k, x, σ1, σ2, hw, hm, hk, hkr, hx, ho, hR2⟩ := tn_value (sc := sc) hR (hs (v4 + 1)) (hs (v4 + 2)) (hs (v4 + 3))
  exact ar_value hab hv hs hw hm hk hkr hx ho (K _ _ _ (Nat.le_refl _) (Nat.le_refl _) hR2)
theorem tn_isNull {sc : Int × (Int → Int)} {σ : ai_S} (hR : Rel σ) {t r c : Int} (ht : -2147483648 ≤ t ∧ t ≤ 2147483647) (hr : -2147483648 ≤ r ∧ r ≤ 2147483647) (hc : -2147483648 ≤ c ∧ c ≤ 2147483647) : ∃ k x σ1 σ2, fn sc 198 [some (.inr (.inr 0)), some (.inl t), some (.inl r), some (.inl c), some (.inr (.inr 91)), none] σ (some (.inl k)) σ1 ∧ fn sc 177 [some (.inr (.inr 59)), some (.inl t), some (.inl r), some (.inl c), none] σ1 (some (.inl x)) σ2 ∧ σ2 59 0 = k ∧ (0 ≤ k ∧ k ≤ 3) ∧ (x = 0 ∨ x = 1) ∧ (k = 0 → σ2 91 0 = x) ∧ Rel σ2 := by
  obtain ⟨⟨s1, s2, s3, s4, s5, s6, s7, s8, s9⟩, ⟨⟨t1, t2, t3⟩, ⟨u1, u2, u3, u4, u5, u6, u7⟩⟩, hL⟩ := id hR
  have h9 := u1 t
  have h4 := s8 t
  have h9' : 0 ≤ σ 64 t ∧ σ 64 t ≤ 12 := by
    rw [t1]
    exact h9
  have h4' : 0 ≤ σ 60 t ∧ σ 60 t ≤ 5 := by
    rw [s3]
    exact h4
  have s2' : 0 ≤ σ 59 1 ∧ σ 59 1 ≤ 5 := by
    rw [s1]
    exact s2
  by_cases hg : 0 ≤ t ∧ t < σ 2 0 ∧ 0 ≤ r ∧ r < σ 9 t ∧ 0 ≤ c ∧ c < σ 4 t
  · have hg' : 0 ≤ t ∧ t < σ 59 1 ∧ 0 ≤ r ∧ r < σ 64 t ∧ 0 ≤ c ∧ c < σ 60 t := by
      rw [s1, t1, s3]
      exact hg
    have e1 : ((60 * t) + (5 * r)) + c = 5 * (12 * t + r) + c := by omega
    have e2 : ((t * 12) + r) * 5 + c = 60 * t + 5 * r + c := by omega
    have e3 : (t * 12) + r = 12 * t + r := by omega
    have e4 := t3 (12 * t + r) c (by omega) (by omega) (by omega) (by omega)
    rw [← e1] at e4
    have e5 : ai_r (σ 66 (((60 * t) + (5 * r)) + c)) := by
      rw [e4]
      exact bi_r _
    have hb := bit_ne (u3 (12 * t + r)) (c := c) ⟨by omega, by omega⟩
    have hcl := cl_isNull (sc := sc) ht hr hc s2 h9 h4 hg
    rw [e3, bi_congr hb, ← e4] at hcl
    by_cases hz : σ 66 (((60 * t) + (5 * r)) + c) = 0
    · rw [hz] at hcl
      exact ⟨0, _, _, _, wv_198 hcl (Or.inl rfl), rf_isNull_0 (σ := ai_set σ 91 0 0) ht hr hc s2' h9' h4' hg' e5 hz, rfl, ⟨by decide, by decide⟩, Or.inl rfl, fun _ => rfl, rel_code (rel_out hR)⟩
    · have hz1 : σ 66 (((60 * t) + (5 * r)) + c) = 1 := by
        rw [e4] at hz ⊢
        exact bi_eq1.mpr (bi_yes hz)
      rw [hz1] at hcl
      exact ⟨0, _, _, _, wv_198 hcl (Or.inr rfl), rf_isNull_1 (σ := ai_set σ 91 0 1) ht hr hc s2' h9' h4' hg' e5 hz, rfl, ⟨by decide, by decide⟩, Or.inr rfl, fun _ => rfl, rel_code (rel_out hR)⟩
  · exact ⟨1, _, _, _, wx_198_3 (cl_isNull_x ht hr hc s2 h9 h4 hg), rf_isNull_x ht hr hc s2' h9' h4' (by rw [s1, t1, s3]; exact hg), rfl, ⟨by decide, by decide⟩, Or.inl rfl, fun h => absurd h (by decide), rel_code hR⟩
theorem st_isNull {sc : Int × (Int → Int)} {σ : ai_S} {Q : ai_O → Prop} {a b : Nat} {v4 : Int} (hab : a + 1 ≤ 601024 ∧ b + 6 ≤ 7293034) (hv : 0 ≤ v4 ∧ v4 ≤ sc.1 - 5) (hs : ∀ j, -2147483648 ≤ sc.2 j ∧ sc.2 j ≤ 2147483647) (hR : Rel σ) (K : Nxt sc Q v4 a b) : ai_wp sc 206 355 (lwL v4 none none none) [] (a, b) (92, [], σ) Q := by
  obtain ⟨k, x, σ1, σ2, hw, hm, hk, hkr, hx, ho, hR2⟩ := tn_isNull (sc := sc) hR (hs (v4 + 1)) (hs (v4 + 2)) (hs (v4 + 3))
  exact ar_isNull hab hv hs hw hm hk hkr hx ho (K _ _ _ (Nat.le_refl _) (Nat.le_refl _) hR2)
theorem cl_diff {sc : Int × (Int → Int)} {σ : ai_S} {i q : Int} (hi : -2147483648 ≤ i ∧ i ≤ 2147483647) (hq : -2147483648 ≤ q ∧ q ≤ 2147483647) (hF : 0 ≤ σ 36 0 ∧ σ 36 0 ≤ 1000) (hg : 0 ≤ i ∧ i < σ 36 0 ∧ i < 20) (hg2 : 0 ≤ q ∧ q < 3) : fn sc 17 [some (.inr (.inr 0)), some (.inl i), some (.inl q)] σ (some (.inl (σ 37 ((i * 3) + q)))) σ := by
  intro Q hQ
  refine rb_17_0 ?_
  repeat' (first | exact hQ | omega | exact bi_r _ | exact bi_01 _ | exact cmp_r _ _ | exact r32 _ | apply And.intro | refine ai_ret_q (pc_22 ?_ (ai_k_in ?_)) | refine ai_ret_q (pc_23 ?_ (ai_k_in ?_)) | refine rb_17_6 ?_ | refine rb_17_27 ?_ | (with_reducible intro h; first | replace h := bi_yes h | replace h := bi_no2 h | replace h := bi_no h | replace h := cmp_eq.mp h | replace h := mt cmp_eq.mpr h | replace h := cmp_lt.mp h | replace h := mt cmp_lt.mpr h | replace h := cmp_le.mp h | replace h := mt cmp_le.mpr h | skip))
theorem cl_diff_3 {sc : Int × (Int → Int)} {σ : ai_S} {i q : Int} (hi : -2147483648 ≤ i ∧ i ≤ 2147483647) (hq : -2147483648 ≤ q ∧ q ≤ 2147483647) (hF : 0 ≤ σ 36 0 ∧ σ 36 0 ≤ 1000) (hg : ¬ (0 ≤ i ∧ i < σ 36 0 ∧ i < 20)) : th sc 17 [some (.inr (.inr 0)), some (.inl i), some (.inl q)] σ 3 σ := by
  intro Q hQ
  refine rb_17_0 ?_
  repeat' (first | exact hQ | omega | exact bi_r _ | exact bi_01 _ | exact cmp_r _ _ | exact r32 _ | apply And.intro | refine ai_ret_q (pc_22 ?_ (ai_k_in ?_)) | refine rb_17_6 ?_ | (with_reducible intro h; first | replace h := bi_yes h | replace h := bi_no2 h | replace h := bi_no h | replace h := cmp_eq.mp h | replace h := mt cmp_eq.mpr h | replace h := cmp_lt.mp h | replace h := mt cmp_lt.mpr h | replace h := cmp_le.mp h | replace h := mt cmp_le.mpr h | skip))
theorem cl_diff_1 {sc : Int × (Int → Int)} {σ : ai_S} {i q : Int} (hi : -2147483648 ≤ i ∧ i ≤ 2147483647) (hq : -2147483648 ≤ q ∧ q ≤ 2147483647) (hF : 0 ≤ σ 36 0 ∧ σ 36 0 ≤ 1000) (hg : 0 ≤ i ∧ i < σ 36 0 ∧ i < 20) (hg2 : ¬ (0 ≤ q ∧ q < 3)) : th sc 17 [some (.inr (.inr 0)), some (.inl i), some (.inl q)] σ 1 σ := by
  intro Q hQ
  refine rb_17_0 ?_
  repeat' (first | exact hQ | omega | exact bi_r _ | exact bi_01 _ | exact cmp_r _ _ | exact r32 _ | apply And.intro | refine ai_ret_q (pc_22 ?_ (ai_k_in ?_)) | refine rb_17_6 ?_ | (with_reducible intro h; first | replace h := bi_yes h | replace h := bi_no2 h | replace h := bi_no h | replace h := cmp_eq.mp h | replace h := mt cmp_eq.mpr h | replace h := cmp_lt.mp h | replace h := mt cmp_lt.mpr h | replace h := cmp_le.mp h | replace h := mt cmp_le.mpr h | skip))
theorem rf_diff {sc : Int × (Int → Int)} {σ : ai_S} {i q : Int} (hi : -2147483648 ≤ i ∧ i ≤ 2147483647) (hq : -2147483648 ≤ q ∧ q ≤ 2147483647) (hb : σ 59 42 = 0 ∨ σ 59 42 = 1) (hF : σ 59 42 = 1 → 0 ≤ σ 59 41 ∧ σ 59 41 ≤ 1000) (hg : σ 59 42 = 1 ∧ 0 ≤ i ∧ i < σ 59 41 ∧ i < 20) (hg2 : 0 ≤ q ∧ q < 3) : fn sc 184 [some (.inr (.inr 59)), some (.inl i), some (.inl q)] σ (some (.inl (σ 88 ((3 * i) + q)))) (ai_set σ 59 0 0) := by
  intro Q hQ
  refine rb_184_0 ?_
  repeat' (first | exact hQ | omega | exact bi_r _ | exact bi_01 _ | exact cmp_r _ _ | exact r32 _ | apply And.intro | (with_reducible intro h; first | replace h := bi_yes h | replace h := bi_no2 h | replace h := bi_no h | replace h := cmp_eq.mp h | replace h := mt cmp_eq.mpr h | replace h := cmp_lt.mp h | replace h := mt cmp_lt.mpr h | replace h := cmp_le.mp h | replace h := mt cmp_le.mpr h | skip))
theorem rf_diff_1 {sc : Int × (Int → Int)} {σ : ai_S} {i q : Int} (hi : -2147483648 ≤ i ∧ i ≤ 2147483647) (hq : -2147483648 ≤ q ∧ q ≤ 2147483647) (hb : σ 59 42 = 0 ∨ σ 59 42 = 1) (hF : σ 59 42 = 1 → 0 ≤ σ 59 41 ∧ σ 59 41 ≤ 1000) (hg : ¬ (σ 59 42 = 1 ∧ 0 ≤ i ∧ i < σ 59 41 ∧ i < 20)) : fn sc 184 [some (.inr (.inr 59)), some (.inl i), some (.inl q)] σ (some (.inl 0)) (ai_set σ 59 0 1) := by
  intro Q hQ
  refine rb_184_0 ?_
  repeat' (first | exact hQ | omega | exact bi_r _ | exact bi_01 _ | exact cmp_r _ _ | exact r32 _ | apply And.intro | (with_reducible intro h; first | replace h := bi_yes h | replace h := bi_no2 h | replace h := bi_no h | replace h := cmp_eq.mp h | replace h := mt cmp_eq.mpr h | replace h := cmp_lt.mp h | replace h := mt cmp_lt.mpr h | replace h := cmp_le.mp h | replace h := mt cmp_le.mpr h | skip))
theorem rf_diff_2 {sc : Int × (Int → Int)} {σ : ai_S} {i q : Int} (hi : -2147483648 ≤ i ∧ i ≤ 2147483647) (hq : -2147483648 ≤ q ∧ q ≤ 2147483647) (hb : σ 59 42 = 0 ∨ σ 59 42 = 1) (hF : σ 59 42 = 1 → 0 ≤ σ 59 41 ∧ σ 59 41 ≤ 1000) (hg : σ 59 42 = 1 ∧ 0 ≤ i ∧ i < σ 59 41 ∧ i < 20) (hg2 : ¬ (0 ≤ q ∧ q < 3)) : fn sc 184 [some (.inr (.inr 59)), some (.inl i), some (.inl q)] σ (some (.inl 0)) (ai_set σ 59 0 2) := by
  intro Q hQ
  refine rb_184_0 ?_
  repeat' (first | exact hQ | omega | exact bi_r _ | exact bi_01 _ | exact cmp_r _ _ | exact r32 _ | apply And.intro | (with_reducible intro h; first | replace h := bi_yes h | replace h := bi_no2 h | replace h := bi_no h | replace h := cmp_eq.mp h | replace h := mt cmp_eq.mpr h | replace h := cmp_lt.mp h | replace h := mt cmp_lt.mpr h | replace h := cmp_le.mp h | replace h := mt cmp_le.mpr h | skip))
theorem tn_diff {sc : Int × (Int → Int)} {σ : ai_S} (hR : Rel σ) {i q : Int} (hi : -2147483648 ≤ i ∧ i ≤ 2147483647) (hq : -2147483648 ≤ q ∧ q ≤ 2147483647) : ∃ k x σ1 σ2, fn sc 203 [some (.inr (.inr 0)), some (.inl i), some (.inl q), some (.inr (.inr 91)), none] σ (some (.inl k)) σ1 ∧ fn sc 184 [some (.inr (.inr 59)), some (.inl i), some (.inl q)] σ1 (some (.inl x)) σ2 ∧ σ2 59 0 = k ∧ (0 ≤ k ∧ k ≤ 3) ∧ ai_r x ∧ (k = 0 → σ2 91 0 = x) ∧ Rel σ2 := by
  obtain ⟨hS, hT, hL, n0, n1, n2, hX, hF, hD, ⟨c1, c2, c3, c4, c5⟩, hW⟩ := id hR
  have hb : σ 59 42 = 0 ∨ σ 59 42 = 1 := by omega
  have hf : σ 59 42 = 1 → 0 ≤ σ 59 41 ∧ σ 59 41 ≤ 1000 := by omega
  by_cases hg : 0 ≤ i ∧ i < σ 36 0 ∧ i < 20
  · have hg' : σ 59 42 = 1 ∧ 0 ≤ i ∧ i < σ 59 41 ∧ i < 20 := by omega
    by_cases hg2 : 0 ≤ q ∧ q < 3
    · refine ⟨0, _, _, _, wv_203 (cl_diff hi hq c1 hg hg2) (c4 _), rf_diff (σ := ai_set σ 91 0 (σ 37 ((i * 3) + q))) hi hq hb hf hg' hg2, rfl, ⟨by decide, by decide⟩, ?_, fun _ => ?_, rel_code (rel_out hR)⟩
      · show ai_r (σ 88 ((3 * i) + q))
        rw [c3]
        exact c4 _
      · show σ 37 ((i * 3) + q) = σ 88 ((3 * i) + q)
        rw [c3, show (i * 3) + q = (3 * i) + q by omega]
    · exact ⟨2, _, _, _, wx_203_1 (cl_diff_1 hi hq c1 hg hg2), rf_diff_2 hi hq hb hf hg' hg2, rfl, ⟨by decide, by decide⟩, ⟨by decide, by decide⟩, fun h => absurd h (by decide), rel_code hR⟩
  · have hg' : ¬ (σ 59 42 = 1 ∧ 0 ≤ i ∧ i < σ 59 41 ∧ i < 20) := by omega
    exact ⟨1, _, _, _, wx_203_3 (cl_diff_3 hi hq c1 hg), rf_diff_1 hi hq hb hf hg', rfl, ⟨by decide, by decide⟩, ⟨by decide, by decide⟩, fun h => absurd h (by decide), rel_code hR⟩
theorem st_difference {sc : Int × (Int → Int)} {σ : ai_S} {Q : ai_O → Prop} {a b : Nat} {v4 : Int} (hab : a + 1 ≤ 601024 ∧ b + 6 ≤ 7293034) (hv : 0 ≤ v4 ∧ v4 ≤ sc.1 - 5) (hs : ∀ j, -2147483648 ≤ sc.2 j ∧ sc.2 j ≤ 2147483647) (hR : Rel σ) (K : Nxt sc Q v4 a b) : ai_wp sc 206 557 (lwL v4 none none none) [] (a, b) (92, [], σ) Q := by
  obtain ⟨k, x, σ1, σ2, hw, hm, hk, hkr, hx, ho, hR2⟩ := tn_diff (sc := sc) hR (hs (v4 + 1)) (hs (v4 + 2))
  exact ar_difference hab hv hs hw hm hk hkr hx ho (K _ _ _ (Nat.le_refl _) (Nat.le_refl _) hR2)
theorem i2c_id {x : Int} (h : 0 ≤ x ∧ x ≤ 65535) : ai_i2c x = x := by
  obtain ⟨n, rfl⟩ := Int.eq_ofNat_of_zero_le h.1
  unfold ai_i2c
  have e0 : ((Int32.ofInt (n : Int)).toUInt32).toNat = n := by
    show (BitVec.ofInt 32 (n : Int)).toNat = n
    rw [BitVec.toNat_ofInt]
    omega
  generalize (Int32.ofInt (n : Int)).toUInt32 = u at e0
  have e1 : (u % 65536).toNat = n := by
    rw [UInt32.toNat_mod, e0]
    show n % 65536 = n
    omega
  have e : (u % 65536).toInt32.toInt = Int.ofNat (u % 65536).toNat := by
    show BitVec.toInt (u % 65536).toBitVec = _
    rw [BitVec.toInt_eq_toNat_of_lt]
    · rfl
    · show 2 * (u % 65536).toNat < 2 ^ 32
      omega
  rw [e, e1]
  rfl
theorem cl_written {sc : Int × (Int → Int)} {σ : ai_S} {i : Int} (hi : -2147483648 ≤ i ∧ i ≤ 2147483647) (hn : 0 ≤ σ 39 0 ∧ σ 39 0 ≤ 1149) (hc : 0 ≤ σ 40 i ∧ σ 40 i ≤ 65535) (hg : 0 ≤ i ∧ i < σ 39 0) : fn sc 19 [some (.inr (.inr 0)), some (.inl i)] σ (some (.inl (σ 40 i))) σ := by
  intro Q hQ
  refine rb_19_0 ?_
  repeat' (first | exact hQ | omega | exact bi_r _ | exact bi_01 _ | exact cmp_r _ _ | exact r32 _ | apply And.intro | (with_reducible intro h; first | replace h := bi_yes h | replace h := bi_no2 h | replace h := bi_no h | replace h := cmp_eq.mp h | replace h := mt cmp_eq.mpr h | replace h := cmp_lt.mp h | replace h := mt cmp_lt.mpr h | replace h := cmp_le.mp h | replace h := mt cmp_le.mpr h | skip))
theorem cl_written_x {sc : Int × (Int → Int)} {σ : ai_S} {i : Int} (hi : -2147483648 ≤ i ∧ i ≤ 2147483647) (hn : 0 ≤ σ 39 0 ∧ σ 39 0 ≤ 1149) (hg : ¬ (0 ≤ i ∧ i < σ 39 0)) : th sc 19 [some (.inr (.inr 0)), some (.inl i)] σ 3 σ := by
  intro Q hQ
  refine rb_19_0 ?_
  repeat' (first | exact hQ | omega | exact bi_r _ | exact bi_01 _ | exact cmp_r _ _ | exact r32 _ | apply And.intro | (with_reducible intro h; first | replace h := bi_yes h | replace h := bi_no2 h | replace h := bi_no h | replace h := cmp_eq.mp h | replace h := mt cmp_eq.mpr h | replace h := cmp_lt.mp h | replace h := mt cmp_lt.mpr h | replace h := cmp_le.mp h | replace h := mt cmp_le.mpr h | skip))
theorem rf_written {sc : Int × (Int → Int)} {σ : ai_S} {i : Int} (hi : -2147483648 ≤ i ∧ i ≤ 2147483647) (hn : 0 ≤ σ 59 45 ∧ σ 59 45 ≤ 1149) (hg : 0 ≤ i ∧ i < σ 59 45) : fn sc 190 [some (.inr (.inr 59)), some (.inl i)] σ (some (.inl (ai_i2c (σ 90 i)))) (ai_set σ 59 0 0) := by
  intro Q hQ
  refine rb_190_0 ?_
  repeat' (first | exact hQ | omega | exact bi_r _ | exact bi_01 _ | exact cmp_r _ _ | exact r32 _ | exact i2c_rng _ | apply And.intro | (with_reducible intro h; first | replace h := bi_yes h | replace h := bi_no2 h | replace h := bi_no h | replace h := cmp_eq.mp h | replace h := mt cmp_eq.mpr h | replace h := cmp_lt.mp h | replace h := mt cmp_lt.mpr h | replace h := cmp_le.mp h | replace h := mt cmp_le.mpr h | skip))
theorem rf_written_x {sc : Int × (Int → Int)} {σ : ai_S} {i : Int} (hi : -2147483648 ≤ i ∧ i ≤ 2147483647) (hn : 0 ≤ σ 59 45 ∧ σ 59 45 ≤ 1149) (hg : ¬ (0 ≤ i ∧ i < σ 59 45)) : fn sc 190 [some (.inr (.inr 59)), some (.inl i)] σ (some (.inl (ai_i2c 0))) (ai_set σ 59 0 1) := by
  intro Q hQ
  refine rb_190_0 ?_
  repeat' (first | exact hQ | omega | exact bi_r _ | exact bi_01 _ | exact cmp_r _ _ | exact r32 _ | exact i2c_rng _ | apply And.intro | (with_reducible intro h; first | replace h := bi_yes h | replace h := bi_no2 h | replace h := bi_no h | replace h := cmp_eq.mp h | replace h := mt cmp_eq.mpr h | replace h := cmp_lt.mp h | replace h := mt cmp_lt.mpr h | replace h := cmp_le.mp h | replace h := mt cmp_le.mpr h | skip))
theorem tn_written {sc : Int × (Int → Int)} {σ : ai_S} (hR : Rel σ) {i : Int} (hi : -2147483648 ≤ i ∧ i ≤ 2147483647) : ∃ k x σ1 σ2, fn sc 205 [some (.inr (.inr 0)), some (.inl i), some (.inr (.inr 91)), none] σ (some (.inl k)) σ1 ∧ fn sc 190 [some (.inr (.inr 59)), some (.inl i)] σ1 (some (.inl x)) σ2 ∧ σ2 59 0 = k ∧ (0 ≤ k ∧ k ≤ 3) ∧ ai_r x ∧ (k = 0 → σ2 91 0 = x) ∧ Rel σ2 := by
  obtain ⟨hS, hT, hL, n0, n1, n2, hX, hF, hD, hC, ⟨w1, w2, w3, w4⟩⟩ := id hR
  have hn : 0 ≤ σ 59 45 ∧ σ 59 45 ≤ 1149 := by omega
  have h4 := w4 i
  have hir := i2c_rng (σ 90 i)
  by_cases hg : 0 ≤ i ∧ i < σ 39 0
  · have hg' : 0 ≤ i ∧ i < σ 59 45 := by omega
    refine ⟨0, _, _, _, wv_205 (cl_written hi w2 h4 hg) ⟨by omega, by omega⟩, rf_written (σ := ai_set σ 91 0 (σ 40 i)) hi hn hg', rfl, ⟨by decide, by decide⟩, (show ai_r (ai_i2c (σ 90 i)) from ⟨by omega, by omega⟩), fun _ => ?_, rel_code (rel_out hR)⟩
    show σ 40 i = ai_i2c (σ 90 i)
    rw [w3, i2c_id h4]
  · have hg' : ¬ (0 ≤ i ∧ i < σ 59 45) := by omega
    exact ⟨1, _, _, _, wx_205_3 (cl_written_x hi w2 hg), rf_written_x hi hn hg', rfl, ⟨by decide, by decide⟩, ⟨by have := i2c_rng 0; omega, by have := i2c_rng 0; omega⟩, fun h => absurd h (by decide), rel_code hR⟩
theorem st_written {sc : Int × (Int → Int)} {σ : ai_S} {Q : ai_O → Prop} {a b : Nat} {v4 : Int} (hab : a + 1 ≤ 601024 ∧ b + 6 ≤ 7293034) (hv : 0 ≤ v4 ∧ v4 ≤ sc.1 - 5) (hs : ∀ j, -2147483648 ≤ sc.2 j ∧ sc.2 j ≤ 2147483647) (hR : Rel σ) (K : Nxt sc Q v4 a b) : ai_wp sc 206 637 (lwL v4 none none none) [] (a, b) (92, [], σ) Q := by
  obtain ⟨k, x, σ1, σ2, hw, hm, hk, hkr, hx, ho, hR2⟩ := tn_written (sc := sc) hR (hs (v4 + 1))
  exact ar_written hab hv hs hw hm hk hkr hx ho (K _ _ _ (Nat.le_refl _) (Nat.le_refl _) hR2)
