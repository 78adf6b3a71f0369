/-! READ: the whole call. -/
def cpz (f g : Int → Int) (n : Int) : Int → Int := fun j => if 0 ≤ j ∧ j < n then g j else f j
theorem cpz_0 {f g : Int → Int} : cpz f g 0 = f := by
  funext j
  exact if_neg (by omega)
theorem cpz_s {f g : Int → Int} {n : Int} (hn : 0 ≤ n) : (fun j => if j = n then g n else cpz f g n j) = cpz f g (n + 1) := by
  funext j
  show (if j = n then g n else if 0 ≤ j ∧ j < n then g j else f j) = if 0 ≤ j ∧ j < n + 1 then g j else f j
  by_cases e : j = n
  · rw [if_pos e, if_pos (by omega), e]
  · rw [if_neg e]
    by_cases z : 0 ≤ j ∧ j < n
    · rw [if_pos z, if_pos (by omega)]
    · rw [if_neg z, if_neg (by omega)]
theorem cpz_at {f g : Int → Int} {n j : Int} (h : 0 ≤ j ∧ j < n) : cpz f g n j = g j := if_pos h
theorem DS_ref {T : Int} {w ty : Int → Int} {S N : Int} {ta wd cl nm fr rs ce nu st sw sf sl xc xn a1 a2 a3 a4 a5 a6 : Int → Int} (hw : ∀ t, 0 ≤ w t ∧ w t ≤ 5) (h : DS T w ty S N ta wd cl nm fr rs ce nu S N st sw sf sl xc xn) : DS T w ty S N ta wd cl nm fr rs ce nu S N (cpz a1 st 6) (cpz a2 sw 6) (cpz a3 sf 7) (cpz a4 sl 30) (cpz a5 xc 120) (cpz a6 xn 120) := by
  obtain ⟨⟨_, _, b3, b4, b5, b6⟩, b7, b8, b9⟩ := h
  refine ⟨⟨rfl, rfl, b3, b4, ?_, ?_⟩, b7, fun r r1 r2 => ?_, fun s s1 s2 => ?_⟩
  · rw [cpz_at ⟨by omega, by omega⟩]
    exact b5
  · rw [cpz_at ⟨by omega, by omega⟩]
    exact b6
  · obtain ⟨x1, x2, x3⟩ := b8 r r1 r2
    rw [cpz_at ⟨by omega, by omega⟩, cpz_at ⟨by omega, by omega⟩]
    exact ⟨x1, x2, x3⟩
  · obtain ⟨g1, g2, g3, g4, g5, g6, g7, g8⟩ := b9 s s1 s2
    have hwt := hw (ta s)
    have e1 : cpz a1 st 6 s = st s := cpz_at ⟨by omega, by omega⟩
    have e2 : cpz a2 sw 6 s = sw s := cpz_at ⟨by omega, by omega⟩
    have e3 : cpz a3 sf 7 s = sf s := cpz_at ⟨by omega, by omega⟩
    have e4 : cpz a3 sf 7 (s + 1) = sf (s + 1) := cpz_at ⟨by omega, by omega⟩
    rw [e1, e2, e3, e4]
    refine ⟨g1, g2, g3, g4, fun k k1 k2 => ?_, g6, g7, fun r r1 r2 => ?_⟩
    · rw [cpz_at ⟨by omega, by omega⟩]
      exact g5 k k1 k2
    · obtain ⟨f1, f2, f3, f4, f5, f6⟩ := g8 r r1 r2
      refine ⟨f1, f2, fun k k1 k2 => ?_, f4, f5, f6⟩
      rw [cpz_at ⟨by omega, by omega⟩, cpz_at ⟨by omega, by omega⟩]
      exact f3 k k1 k2
def WC (ρ : ai_S) : ai_S := up (up (up (up (up (up ρ 72 (cpz (ρ 72) (ρ 78) 6)) 73 (cpz (ρ 73) (ρ 79) 6)) 74 (cpz (ρ 74) (ρ 80) 7)) 75 (cpz (ρ 75) (ρ 81) 30)) 76 (cpz (ρ 76) (ρ 82) 120)) 77 (cpz (ρ 77) (ρ 83) 120)
theorem WC_ne {ρ : ai_S} {q : Nat} (h : ¬ (72 ≤ q ∧ q ≤ 77)) : WC ρ q = ρ q := (up_ne (by omega)).trans ((up_ne (by omega)).trans ((up_ne (by omega)).trans ((up_ne (by omega)).trans ((up_ne (by omega)).trans (up_ne (by omega))))))
theorem rf_copy {sc : Int × (Int → Int)} {ρ : ai_S} {Q : ai_O → Prop} (hb : ∀ j, 0 ≤ ρ 83 j ∧ ρ 83 j ≤ 1) (hQ : Q (.inl (some (.inl (ρ 59 21))), (92, [], WC ρ))) : ai_wp sc 148 61 [some (.inr (.inr 59)), some (.inl 0)] [] (0, 0) (92, [], ρ) Q := by
  obtain ⟨ρ2, h2⟩ : ∃ ρ2, ρ2 = up (up ρ 72 (cpz (ρ 72) (ρ 78) 6)) 73 (cpz (ρ 73) (ρ 79) 6) := ⟨_, rfl⟩
  obtain ⟨ρ3, h3⟩ : ∃ ρ3, ρ3 = up ρ2 74 (cpz (ρ2 74) (ρ2 80) 7) := ⟨_, rfl⟩
  obtain ⟨ρ4, h4⟩ : ∃ ρ4, ρ4 = up ρ3 75 (cpz (ρ3 75) (ρ3 81) 30) := ⟨_, rfl⟩
  have hW : up (up ρ4 76 (cpz (ρ4 76) (ρ4 82) 120)) 77 (cpz (ρ4 77) (ρ4 83) 120) = WC ρ := by
    rw [h4, h3, h2]
    rfl
  have l4 : ∀ (m : Nat) (v : Int), 0 ≤ v → v + (m : Int) = 120 → ai_wp sc 148 114 [some (.inr (.inr 59)), some (.inl v)] [] (0, 0) (92, [], up (up ρ4 76 (cpz (ρ4 76) (ρ4 82) v)) 77 (cpz (ρ4 77) (ρ4 83) v)) Q := by
    have b4 : ∀ j, 0 ≤ ρ4 83 j ∧ ρ4 83 j ≤ 1 := by
      rw [h4, h3, h2]
      exact hb
    have e21 : ρ4 59 21 = ρ 59 21 := by
      rw [h4, h3, h2]
      rfl
    intro m
    induction m with
    | zero =>
      intro v v0 vm
      have e : v = 120 := by omega
      subst e
      refine rb_148_114 ⟨⟨⟨by decide, by decide⟩, ⟨by decide, by decide⟩⟩, fun _ => ?_, fun z => absurd (Int.le_refl 120) z⟩
      show Q (.inl (some (.inl (ρ4 59 21))), (92, [], up (up ρ4 76 (cpz (ρ4 76) (ρ4 82) 120)) 77 (cpz (ρ4 77) (ρ4 83) 120)))
      rw [hW, e21]
      exact hQ
    | succ m ih =>
      intro v v0 vm
      have hv : 0 ≤ v ∧ v < 120 := ⟨v0, by omega⟩
      refine rb_148_114 ⟨⟨⟨by omega, by omega⟩, ⟨by decide, by decide⟩⟩, fun z => absurd z (by omega), fun _ => ⟨hv, hv, hv, hv, b4 v, ?_⟩⟩
      show ai_wp sc 148 114 _ [] (0, 0) (92, [], ai_set (ai_set (up (up ρ4 76 (cpz (ρ4 76) (ρ4 82) v)) 77 (cpz (ρ4 77) (ρ4 83) v)) 76 v (ρ4 82 v)) 77 v (ρ4 83 v)) Q
      rw [up_c (p := 77) (q := 76) (by decide), up_s, up_s, cpz_s v0, cpz_s v0]
      exact ih (v + 1) (by omega) (by omega)
  have l3 : ∀ (m : Nat) (v : Int), 0 ≤ v → v + (m : Int) = 30 → ai_wp sc 148 99 [some (.inr (.inr 59)), some (.inl v)] [] (0, 0) (92, [], up ρ3 75 (cpz (ρ3 75) (ρ3 81) v)) Q := by
    intro m
    induction m with
    | zero =>
      intro v v0 vm
      have e : v = 30 := by omega
      subst e
      refine rb_148_99 ⟨⟨⟨by decide, by decide⟩, ⟨by decide, by decide⟩⟩, fun _ => ?_, fun z => absurd (Int.le_refl 30) z⟩
      rw [← h4]
      have e := l4 120 0 (Int.le_refl 0) (by decide)
      have i1 : up ρ4 76 (ρ4 76) = ρ4 := up_id
      rw [cpz_0, cpz_0, i1, up_id] at e
      exact e
    | succ m ih =>
      intro v v0 vm
      have hv : 0 ≤ v ∧ v < 30 := ⟨v0, by omega⟩
      refine rb_148_99 ⟨⟨⟨by omega, by omega⟩, ⟨by decide, by decide⟩⟩, fun z => absurd z (by omega), fun _ => ⟨hv, hv, ?_⟩⟩
      show ai_wp sc 148 99 _ [] (0, 0) (92, [], ai_set (up ρ3 75 (cpz (ρ3 75) (ρ3 81) v)) 75 v (ρ3 81 v)) Q
      rw [up_s, cpz_s v0]
      exact ih (v + 1) (by omega) (by omega)
  have l2 : ∀ (m : Nat) (v : Int), 0 ≤ v → v + (m : Int) = 7 → ai_wp sc 148 84 [some (.inr (.inr 59)), some (.inl v)] [] (0, 0) (92, [], up ρ2 74 (cpz (ρ2 74) (ρ2 80) v)) Q := by
    intro m
    induction m with
    | zero =>
      intro v v0 vm
      have e : v = 7 := by omega
      subst e
      refine rb_148_84 ⟨⟨⟨by decide, by decide⟩, ⟨by decide, by decide⟩⟩, fun _ => ?_, fun z => absurd (show (6 : Int) < 7 by decide) z⟩
      rw [← h3]
      have e := l3 30 0 (Int.le_refl 0) (by decide)
      rw [cpz_0, up_id] at e
      exact e
    | succ m ih =>
      intro v v0 vm
      have hv : 0 ≤ v ∧ v < 7 := ⟨v0, by omega⟩
      refine rb_148_84 ⟨⟨⟨by omega, by omega⟩, ⟨by decide, by decide⟩⟩, fun z => absurd z (by omega), fun _ => ⟨hv, hv, ?_⟩⟩
      show ai_wp sc 148 84 _ [] (0, 0) (92, [], ai_set (up ρ2 74 (cpz (ρ2 74) (ρ2 80) v)) 74 v (ρ2 80 v)) Q
      rw [up_s, cpz_s v0]
      exact ih (v + 1) (by omega) (by omega)
  have l1 : ∀ (m : Nat) (v : Int), 0 ≤ v → v + (m : Int) = 6 → ai_wp sc 148 61 [some (.inr (.inr 59)), some (.inl v)] [] (0, 0) (92, [], up (up ρ 72 (cpz (ρ 72) (ρ 78) v)) 73 (cpz (ρ 73) (ρ 79) v)) Q := by
    intro m
    induction m with
    | zero =>
      intro v v0 vm
      have e : v = 6 := by omega
      subst e
      refine rb_148_61 ⟨⟨⟨by decide, by decide⟩, ⟨by decide, by decide⟩⟩, fun _ => ?_, fun z => absurd (Int.le_refl 6) z⟩
      rw [← h2]
      have e := l2 7 0 (Int.le_refl 0) (by decide)
      rw [cpz_0, up_id] at e
      exact e
    | succ m ih =>
      intro v v0 vm
      have hv : 0 ≤ v ∧ v < 6 := ⟨v0, by omega⟩
      refine rb_148_61 ⟨⟨⟨by omega, by omega⟩, ⟨by decide, by decide⟩⟩, fun z => absurd z (by omega), fun _ => ⟨hv, hv, hv, hv, ?_⟩⟩
      show ai_wp sc 148 61 _ [] (0, 0) (92, [], ai_set (ai_set (up (up ρ 72 (cpz (ρ 72) (ρ 78) v)) 73 (cpz (ρ 73) (ρ 79) v)) 72 v (ρ 78 v)) 73 v (ρ 79 v)) Q
      rw [up_c (p := 73) (q := 72) (by decide), up_s, up_s, cpz_s v0, cpz_s v0]
      exact ih (v + 1) (by omega) (by omega)
  have e := l1 6 0 (Int.le_refl 0) (by decide)
  have i1 : up ρ 72 (ρ 72) = ρ := up_id
  rw [cpz_0, cpz_0, i1, up_id] at e
  exact e
theorem rel_rd0_41 {σ σ2 : ai_S} (hR : Rel σ) (h4 : σ 0 4 = 50) (F1 : ∀ q : Nat, ¬ (q = 0 ∨ q = 34 ∨ (41 ≤ q ∧ q ≤ 41 + 8) ∨ q = 59 ∨ (78 ≤ q ∧ q ≤ 83) ∨ q = 91) → σ2 q = σ q) (F2 : ∀ j, ¬ j = 7 → σ2 0 j = σ 0 j) (F3 : σ2 34 0 = σ 34 0) (F4 : ∀ j, ¬ (j = 0 ∨ j = 17 ∨ j = 18 ∨ j = 28 ∨ j = 29) → σ2 59 j = σ 59 j) (h7 : σ2 59 18 = σ2 0 7 ∧ ai_r (σ2 0 7)) (hrg : ∀ j, rg (σ2 48 j)) (hb : ∀ j, 0 ≤ σ2 83 j ∧ σ2 83 j ≤ 1) : Rel σ2 := by
  obtain ⟨hS, hT, hL, n0, n1, n2, hX, ⟨f1, f2, f3, f4, f5, f6, f7, f8⟩, ⟨q1, q2, q3, q4⟩, hC, hW⟩ := hR
  unfold Rel
  rw [F3]
  have hF : RFai (σ2 32 1) (σ2 48) (σ2 57) (σ2 83) (σ2 0 7) (σ2 59 18) (σ2 27) (σ2 85) := by
    refine ⟨h7.1, h7.2, ?_, ?_, ?_, ⟨hrg, by rw [F1 57 (by omega)]; exact f7, hb⟩⟩
    · rw [F1 85 (by omega), F1 27 (by omega)]
      exact f3
    · rw [F1 27 (by omega)]
      exact f4
    · rw [F1 32 (by omega)]
      exact f5
  simp only [F1 2 (by omega), F1 3 (by omega), F1 4 (by omega), F1 5 (by omega), F1 6 (by omega), F1 7 (by omega), F1 9 (by omega), F1 10 (by omega), F1 11 (by omega), F1 12 (by omega), F1 15 (by omega), F1 16 (by omega), F1 17 (by omega), F1 19 (by omega), F1 20 (by omega), F1 21 (by omega), F1 23 (by omega), F1 24 (by omega), F1 25 (by omega), F1 26 (by omega), F1 27 (by omega), F1 32 (by omega), F1 35 (by omega), F1 37 (by omega), F1 38 (by omega), F1 39 (by omega), F1 40 (by omega), F1 60 (by omega), F1 61 (by omega), F1 62 (by omega), F1 63 (by omega), F1 64 (by omega), F1 65 (by omega), F1 66 (by omega), F1 67 (by omega), F1 68 (by omega), F1 69 (by omega), F1 70 (by omega), F1 71 (by omega), F1 84 (by omega), F1 85 (by omega), F1 88 (by omega), F1 89 (by omega), F1 90 (by omega), F1 36 (by omega), F1 72 (by omega), F1 73 (by omega), F1 74 (by omega), F1 75 (by omega), F1 76 (by omega), F1 77 (by omega), F1 50 (by omega), F1 51 (by omega), F1 52 (by omega), F1 53 (by omega), F1 54 (by omega), F1 55 (by omega), F1 56 (by omega), F1 57 (by omega), F1 58 (by omega), F2 4 (by decide), F2 5 (by decide), F2 6 (by decide), F4 1 (by decide), F4 13 (by decide), F4 14 (by decide), F4 15 (by decide), F4 19 (by decide), F4 20 (by decide), F4 21 (by decide), F4 41 (by decide), F4 42 (by decide), F4 45 (by decide)] at hF ⊢
  exact ⟨hS, hT, hL, n0, n1, n2, hX, hF, ⟨q1, q2, q3, fun q => ⟨fun h => absurd h (by omega), (q4 q).2⟩⟩, hC, hW⟩
theorem rel_rd1_41 {σ σ2 : ai_S} (hR : Rel σ) (F1 : ∀ q : Nat, ¬ (q = 0 ∨ q = 34 ∨ q = 36 ∨ (41 ≤ q ∧ q ≤ 41 + 8) ∨ q = 59 ∨ (72 ≤ q ∧ q ≤ 83) ∨ q = 91) → σ2 q = σ q) (F2 : σ2 0 4 = 41 ∧ σ2 0 5 = 50 ∧ σ2 0 6 = 1 ∧ σ2 0 7 = -1) (F3 : σ2 34 0 = σ 34 0) (F4 : ∀ j, ¬ (j = 0 ∨ j = 17 ∨ j = 18 ∨ j = 19 ∨ j = 20 ∨ j = 21 ∨ j = 28 ∨ j = 29 ∨ j = 42) → σ2 59 j = σ 59 j) (F5 : σ2 36 0 = 0) (F6 : σ2 59 18 = -1 ∧ σ2 59 19 = 1 ∧ σ2 59 42 = 0) (hrg : ∀ j, rg (σ2 48 j)) (hb : ∀ j, 0 ≤ σ2 83 j ∧ σ2 83 j ≤ 1) (hds : DS (σ 2 0) (σ 4) (σ 5) (σ2 41 0) (σ2 41 1) (σ2 42) (σ2 43) (σ2 44) (σ2 45) (σ2 46) (σ2 47) (σ2 48) (σ2 49) (σ2 59 20) (σ2 59 21) (σ2 72) (σ2 73) (σ2 74) (σ2 75) (σ2 76) (σ2 77)) : Rel σ2 := by
  obtain ⟨hS, hT, hL, n0, n1, n2, hX, ⟨f1, f2, f3, f4, f5, f6, f7, f8⟩, ⟨q1, q2, q3, q4⟩, ⟨c1, c2, c3⟩, hW⟩ := hR
  unfold Rel
  rw [F3]
  have hF : RFai (σ2 32 1) (σ2 48) (σ2 57) (σ2 83) (σ2 0 7) (σ2 59 18) (σ2 27) (σ2 85) := by
    refine ⟨F6.1.trans F2.2.2.2.symm, by rw [F2.2.2.2]; exact rm1, ?_, ?_, ?_, ⟨hrg, by rw [F1 57 (by omega)]; exact f7, hb⟩⟩
    · rw [F1 85 (by omega), F1 27 (by omega)]
      exact f3
    · rw [F1 27 (by omega)]
      exact f4
    · rw [F1 32 (by omega)]
      exact f5
  simp only [F1 2 (by omega), F1 3 (by omega), F1 4 (by omega), F1 5 (by omega), F1 6 (by omega), F1 7 (by omega), F1 9 (by omega), F1 10 (by omega), F1 11 (by omega), F1 12 (by omega), F1 15 (by omega), F1 16 (by omega), F1 17 (by omega), F1 19 (by omega), F1 20 (by omega), F1 21 (by omega), F1 23 (by omega), F1 24 (by omega), F1 25 (by omega), F1 26 (by omega), F1 27 (by omega), F1 32 (by omega), F1 35 (by omega), F1 37 (by omega), F1 38 (by omega), F1 39 (by omega), F1 40 (by omega), F1 60 (by omega), F1 61 (by omega), F1 62 (by omega), F1 63 (by omega), F1 64 (by omega), F1 65 (by omega), F1 66 (by omega), F1 67 (by omega), F1 68 (by omega), F1 69 (by omega), F1 70 (by omega), F1 71 (by omega), F1 84 (by omega), F1 85 (by omega), F1 88 (by omega), F1 89 (by omega), F1 90 (by omega), F2.1, F2.2.1, F2.2.2.1, F5, F6.2.1, F6.2.2, F4 1 (by decide), F4 13 (by decide), F4 14 (by decide), F4 15 (by decide), F4 41 (by decide), F4 45 (by decide)] at hF ⊢
  exact ⟨hS, hT, hL, n0, n1, n2, hX, hF, ⟨Or.inl ⟨rfl, rfl⟩, rfl, Or.inr rfl, fun _ => ⟨fun _ => hds, fun h => absurd (show (41 : Int) = 50 from h) (by decide)⟩⟩, ⟨⟨by decide, by decide⟩, Or.inl ⟨rfl, rfl⟩, c3⟩, hW⟩
theorem tn_read_41 {sc : Int × (Int → Int)} {σ : ai_S} (hR : Rel σ) (h4 : σ 0 4 = 50) (h5 : σ 0 5 = 41) : ∃ k x σ1 σ2, fn sc 193 [some (.inr (.inr 0)), some (.inr (.inr 91)), none] σ (some (.inl k)) σ1 ∧ fn sc 148 [some (.inr (.inr 59)), none] σ1 (some (.inl x)) σ2 ∧ σ2 59 0 = k ∧ (0 ≤ k ∧ k ≤ 3) ∧ ai_r x ∧ (k = 0 → σ2 91 0 = x) ∧ Rel σ2 := by
  obtain ⟨⟨s1, s2, s3, s4, s5, s6, s7, s8, s9, s10, s11, s12⟩, ⟨t1, t4⟩, hL, n0, n1, n2, ⟨y1, y2, y3, y4⟩, ⟨f1, f2, f3, f4, f5, f6, f7, f8⟩, ⟨q1, q2, q3, q4⟩, hC, hW⟩ := id hR
  have hX : TX (σ 34 0) (σ 35) := ⟨y2, y4⟩
  obtain ⟨σ0, hσ0⟩ : ∃ σ0, σ0 = ai_set (ai_set (ai_set σ 34 1 0) 41 0 0) 41 1 0 := ⟨_, rfl⟩
  have k0 : CK 41 σ 0 0 0 (σ 42) (σ 43) (σ 44) (σ 45) (σ 46) (σ 47) (σ 48) (σ 49) σ0 := by
    rw [hσ0]
    exact ⟨fun q hq => (set_ne (by omega)).trans ((set_ne (by omega)).trans (set_ne (by omega))), rfl, rfl, ⟨rfl, rfl⟩, rfl, rfl, rfl, rfl, rfl, rfl, rfl, rfl⟩
  have hd0 : DS (σ 2 0) (σ 4) (σ 5) 0 0 (σ 42) (σ 43) (σ 44) (σ 45) (σ 46) (σ 47) (σ 48) (σ 49) 0 0 (σ 78) (σ 79) (at1 (σ 80) 0 0) (σ 81) (σ 82) (σ 83) := DS_0 f6 at1_at
  obtain ⟨b, p', S', N', ta', wd', cl', nm', fr', rs', ce', nu', st', sw', sf', sl', xc', xn', σ', i1, i2, i3, i4, i5, i6⟩ := rd_all_41 (sc := sc) (n := σ 34 0) (tx := σ 35) (T := σ 2 0) (w := σ 4) (ty := σ 5) (τ := σ) hX ⟨rfl, rfl⟩ s2 s8 s9 rfl rfl rfl 6 0 0 0 _ _ _ _ _ _ _ _ _ _ _ _ _ _ σ0 (by decide) ⟨by decide, hX.1.1⟩ k0 hd0 f8
  have rp : ai_r p' := by
    have := hX.1
    exact ⟨by omega, by omega⟩
  have f74 : fn sc 74 [some (.inr (.inr 34)), some (.inr (.inr 2)), some (.inr (.inr 41)), none] σ (some (.inl b)) σ' := fun Q hQ => by
    refine rb_74_0_41 (ai_ret_q (rb_50_0_41 (ai_k_in (rb_74_5_41 ?_))))
    rw [← hσ0]
    exact i3 Q hQ
  have c5 : ∀ Q : ai_O → Prop, ai_wp sc 5 8 [some (.inr (.inr 0)), none] [.inl b] (0, 0) (92, [], σ') Q → ai_wp sc 5 0 [some (.inr (.inr 0)), none] [] (0, 0) (92, [], σ) Q := fun Q hQ => by
    refine rb_5_0 ?_
    have e : (σ 0 5).toNat = 41 := by
      rw [h5]
      rfl
    rw [e]
    exact rb_5_7_41 (fn_ret f74 hQ)
  have z0 : σ' 0 = σ 0 := i4.1 0 (by omega)
  -- the reference, from a state that the class has left
  have rgo : ∀ σ1 : ai_S, (∀ q : Nat, 59 ≤ q → ¬ q = 91 → σ1 q = σ q) → ∃ ρ', RE (ai_set (ai_set (ai_set (ai_set (ai_set (ai_set σ1 59 0 0) 59 17 0) 59 28 0) 59 29 0) 80 0 0) 59 18 (-1)) p' ρ' ∧ (b = 1 → RK (ai_set (ai_set (ai_set (ai_set (ai_set (ai_set σ1 59 0 0) 59 17 0) 59 28 0) 59 29 0) 80 0 0) 59 18 (-1)) S' N' p' st' sw' sf' sl' xc' xn' ρ') ∧ ∀ Q : ai_O → Prop, (b = 1 → ai_wp sc 148 61 [some (.inr (.inr 59)), some (.inl 0)] [] (0, 0) (92, [], ai_set (ai_set (ai_set (ai_set ρ' 59 19 1) 59 42 0) 59 20 (ρ' 59 28)) 59 21 (ρ' 59 29)) Q) → (b = 0 → Q (.inl (some (.inl 0)), (92, [], ai_set (ai_set ρ' 59 18 p') 59 0 1))) → ai_wp sc 148 0 [some (.inr (.inr 59)), none] [] (0, 0) (92, [], σ1) Q := by
    intro σ1 hp
    have j59 : σ1 59 = σ 59 := hp 59 (by omega) (by omega)
    have r0 : RK (ai_set (ai_set (ai_set (ai_set (ai_set (ai_set σ1 59 0 0) 59 17 0) 59 28 0) 59 29 0) 80 0 0) 59 18 (-1)) 0 0 0 (σ 78) (σ 79) (at1 (σ 80) 0 0) (σ 81) (σ 82) (σ 83) (ai_set (ai_set (ai_set (ai_set (ai_set (ai_set σ1 59 0 0) 59 17 0) 59 28 0) 59 29 0) 80 0 0) 59 18 (-1)) := by
      refine ⟨fun _ _ => rfl, fun _ _ => rfl, rfl, ⟨rfl, rfl⟩, hp 78 (by omega) (by omega), hp 79 (by omega) (by omega), ?_, hp 81 (by omega) (by omega), hp 82 (by omega) (by omega), hp 83 (by omega) (by omega)⟩
      show at1 (σ1 80) 0 0 = at1 (σ 80) 0 0
      rw [hp 80 (by omega) (by omega)]
    obtain ⟨ρ', l1, l2, l3⟩ := i6 (ai_set (ai_set (ai_set (ai_set (ai_set (ai_set σ1 59 0 0) 59 17 0) 59 28 0) 59 29 0) 80 0 0) 59 18 (-1)) _ ⟨(show σ1 59 15 = σ 34 0 by rw [j59]; exact y1), (show σ1 71 = σ 35 by rw [hp 71 (by omega) (by omega)]; exact y3)⟩ (show σ1 61 = σ 5 by rw [hp 61 (by omega) (by omega)]; exact s4) (show σ1 60 = σ 4 by rw [hp 60 (by omega) (by omega)]; exact s3) (show σ1 59 1 = σ 2 0 by rw [j59]; exact s1) rfl r0
    exact ⟨ρ', l1, l2, fun Q q1 q0 => rb_148_0 ⟨⟨by decide, by decide⟩, l3 Q q1 q0⟩⟩
  by_cases hb1 : b = 1
  · -- a dataset
    subst hb1
    obtain ⟨k1, k2, k3⟩ := i5 rfl
    obtain ⟨w1, w2, w3, ⟨w4, w5⟩, u1, u2, u3, u4, u5, u6, u7, u8⟩ := id k1
    have hN := k2.1.2.2.2.1
    have rN : ai_r N' := ⟨by omega, by omega⟩
    obtain ⟨σc, hσc⟩ : ∃ σc, σc = ai_set (ai_set (ai_set (ai_set (ai_set σ' 0 4 41) 0 5 50) 0 6 1) 0 7 (-1)) 36 0 0 := ⟨_, rfl⟩
    have w : fn sc 5 [some (.inr (.inr 0)), none] σ (some (.inl N')) σc := fun Q hQ => c5 Q (by
      refine rb_5_8_41 ⟨rr1, fun _ => ?_, fun z => absurd (show ¬ (1 : Int) = 0 by decide) z⟩
      have e1 : (σ' 0 4).toNat = 50 := by
        rw [z0, h4]
        rfl
      rw [e1]
      refine rb_5_21_41_50 ?_
      have e2 : (σ' 0 5).toNat = 41 := by
        rw [z0, h5]
        rfl
      rw [e2]
      refine rb_5_25_41_50_41 ⟨z11, ai_ret_q (rb_21_0 (ai_k_in (rb_5_38_41_50_41 ?_)))⟩
      rw [← hσc]
      have e3 : (σc 0 4).toNat = 41 := by
        rw [hσc]
        rfl
      rw [e3]
      refine rb_5_40_41_50_41_41 ?_
      have e4 : σc 41 1 = N' := by
        rw [hσc]
        exact w5
      rw [e4]
      exact hQ)
    have hC1 : ∀ q : Nat, ¬ (q = 0 ∨ q = 36) → (ai_set σc 91 0 N') q = (ai_set σ' 91 0 N') q := fun q hq => by
      rw [hσc]
      by_cases e : q = 91
      · subst e
        rfl
      · rw [set_ne e, set_ne (by omega), set_ne (by omega), set_ne (by omega), set_ne (by omega), set_ne (by omega), set_ne e]
    obtain ⟨ρ', l1, l2, l3⟩ := rgo (ai_set σc 91 0 N') (fun q a1 a2 => (hC1 q (by omega)).trans ((set_ne a2).trans (w1 q (by omega))))
    obtain ⟨v1, v2, v3, ⟨v4, v5⟩, g1, g2, g3, g4, g5, g6⟩ := l2 rfl
    obtain ⟨ρe, hρe⟩ : ∃ ρe, ρe = ai_set (ai_set (ai_set (ai_set ρ' 59 19 1) 59 42 0) 59 20 (ρ' 59 28)) 59 21 (ρ' 59 29) := ⟨_, rfl⟩
    have e21 : ρe 59 21 = N' := by
      rw [hρe]
      exact v5
    have ene : ∀ q : Nat, ¬ q = 59 → ρe q = ρ' q := fun q hq => by
      rw [hρe, set_ne hq, set_ne hq, set_ne hq, set_ne hq]
    have w148 : fn sc 148 [some (.inr (.inr 59)), none] (ai_set σc 91 0 N') (some (.inl N')) (WC ρe) := fun Q hQ => l3 Q (fun _ => by
      rw [← hρe]
      refine rf_copy (by rw [ene 83 (by omega), g6]; exact k3) ?_
      rw [e21]
      exact hQ) (fun z => absurd z (by decide))
    -- what stands in the end
    have hC2 : ∀ q : Nat, ¬ (q = 59 ∨ (72 ≤ q ∧ q ≤ 83)) → (WC ρe) q = (ai_set σc 91 0 N') q := fun q hq => by
      rw [WC_ne (by omega), ene q (by omega), v1 q (by omega), set_ne (by omega), set_ne (by omega), set_ne (by omega), set_ne (by omega), set_ne (by omega), set_ne (by omega)]
    have h59 : ∀ j, ¬ (j = 0 ∨ j = 17 ∨ j = 18 ∨ j = 19 ∨ j = 20 ∨ j = 21 ∨ j = 28 ∨ j = 29 ∨ j = 42) → (WC ρe) 59 j = σ 59 j := fun j hj => by
      rw [WC_ne (by omega), hρe, st_ix (by omega), st_ix (by omega), st_ix (by omega), st_ix (by omega), v2 j (by omega), st_ix (by omega), st_pl (by decide), st_ix (by omega), st_ix (by omega), st_ix (by omega), st_ix (by omega), hC1 59 (by omega), set_ne (by decide), w1 59 (by omega)]
    have c0 : (WC ρe) 0 = σc 0 := (hC2 0 (by omega)).trans (set_ne (by decide))
    have cd : ∀ q : Nat, (41 ≤ q ∧ q ≤ 41 + 8) → (WC ρe) q = σ' q := fun q hq => (hC2 q (by omega)).trans ((hC1 q (by omega)).trans (set_ne (by omega)))
    refine ⟨0, N', _, WC ρe, wv_193 w rN, w148, ?_, ⟨by decide, by decide⟩, rN, fun _ => ?_, rel_rd1_41 hR (fun q hq => ?_) ?_ ?_ h59 ?_ ⟨?_, ?_, ?_⟩ ?_ ?_ ?_⟩
    · rw [WC_ne (by omega), hρe]
      show ρ' 59 0 = 0
      rw [v2 0 (by decide)]
      rfl
    · rw [hC2 91 (by omega)]
      exact st_same_at _ _ _ _
    · rw [hC2 q (by omega), hC1 q (by omega), set_ne (by omega)]
      exact w1 q (by omega)
    · rw [c0, hσc]
      exact ⟨rfl, rfl, rfl, rfl⟩
    · rw [hC2 34 (by omega), hC1 34 (by omega)]
      exact w2
    · rw [hC2 36 (by omega), hσc]
      rfl
    · rw [WC_ne (by omega), hρe]
      show ρ' 59 18 = -1
      rw [v2 18 (by decide)]
      rfl
    · rw [WC_ne (by omega), hρe]
      rfl
    · rw [WC_ne (by omega), hρe]
      rfl
    · rw [cd 48 (by omega), u7]
      exact k2.2.1
    · rw [WC_ne (by omega), ene 83 (by omega), g6]
      exact k3
    · have e20 : (WC ρe) 59 20 = S' := by
        rw [WC_ne (by omega), hρe]
        exact v4
      have e21' : (WC ρe) 59 21 = N' := by
        rw [WC_ne (by omega)]
        exact e21
      rw [cd 41 (by omega), cd 42 (by omega), cd 43 (by omega), cd 44 (by omega), cd 45 (by omega), cd 46 (by omega), cd 47 (by omega), cd 48 (by omega), cd 49 (by omega), w4, w5, u1, u2, u3, u4, u5, u6, u7, u8, e20, e21']
      have r1 : (WC ρe) 72 = cpz (ρe 72) st' 6 := by
        rw [← g1, ← ene 78 (by omega)]
        rfl
      have r2 : (WC ρe) 73 = cpz (ρe 73) sw' 6 := by
        rw [← g2, ← ene 79 (by omega)]
        rfl
      have r3 : (WC ρe) 74 = cpz (ρe 74) sf' 7 := by
        rw [← g3, ← ene 80 (by omega)]
        rfl
      have r4 : (WC ρe) 75 = cpz (ρe 75) sl' 30 := by
        rw [← g4, ← ene 81 (by omega)]
        rfl
      have r5 : (WC ρe) 76 = cpz (ρe 76) xc' 120 := by
        rw [← g5, ← ene 82 (by omega)]
        rfl
      have r6 : (WC ρe) 77 = cpz (ρe 77) xn' 120 := by
        rw [← g6, ← ene 83 (by omega)]
        rfl
      rw [r1, r2, r3, r4, r5, r6]
      exact DS_ref s8 k2
  · -- no dataset
    have hb0 : b = 0 := by omega
    subst hb0
    obtain ⟨w1, w2, w3, w4⟩ := i4
    have w : th sc 5 [some (.inr (.inr 0)), none] σ 1 (ai_set σ' 0 7 p') := fun Q hQ => c5 Q (rb_5_8_41 ⟨rr0, fun z => absurd rfl z, fun _ => (show Q (.inr 1, (92, [], ai_set σ' 0 7 (σ' 34 1))) by rw [w3]; exact hQ)⟩)
    obtain ⟨ρ', l1, l2, l3⟩ := rgo (ai_set σ' 0 7 p') (fun q a1 a2 => (set_ne (by omega)).trans (w1 q (by omega)))
    obtain ⟨v1, v2, v3, v4⟩ := l1
    have w148 : fn sc 148 [some (.inr (.inr 59)), none] (ai_set σ' 0 7 p') (some (.inl 0)) (ai_set (ai_set ρ' 59 18 p') 59 0 1) := fun Q hQ => l3 Q (fun z => absurd z (by decide)) (fun _ => hQ)
    have hC2 : ∀ q : Nat, ¬ (q = 59 ∨ (78 ≤ q ∧ q ≤ 83)) → (ai_set (ai_set ρ' 59 18 p') 59 0 1) q = (ai_set σ' 0 7 p') q := fun q hq => by
      rw [set_ne (by omega), set_ne (by omega), v1 q (by omega), set_ne (by omega), set_ne (by omega), set_ne (by omega), set_ne (by omega), set_ne (by omega), set_ne (by omega)]
    refine ⟨1, 0, _, _, wx_193_1 w, w148, rfl, ⟨by decide, by decide⟩, rr0, fun z => absurd z (by decide), rel_rd0_41 hR h4 (fun q hq => ?_) (fun j hj => ?_) ?_ (fun j hj => ?_) ⟨?_, ?_⟩ ?_ ?_⟩
    · rw [hC2 q (by omega), set_ne (by omega)]
      exact w1 q (by omega)
    · rw [hC2 0 (by omega), st_ix hj, z0]
    · rw [hC2 34 (by omega)]
      exact w2
    · rw [st_ix (by omega), st_ix (by omega), v2 j (by omega), st_ix (by omega), st_pl (by decide), st_ix (by omega), st_ix (by omega), st_ix (by omega), st_ix (by omega), st_pl (by decide), w1 59 (by omega)]
    · rw [hC2 0 (by omega)]
      rfl
    · rw [hC2 0 (by omega)]
      exact rp
    · rw [hC2 48 (by omega)]
      exact w4
    · exact v4
theorem rel_rd0_50 {σ σ2 : ai_S} (hR : Rel σ) (h4 : σ 0 4 = 41) (F1 : ∀ q : Nat, ¬ (q = 0 ∨ q = 34 ∨ (50 ≤ q ∧ q ≤ 50 + 8) ∨ q = 59 ∨ (78 ≤ q ∧ q ≤ 83) ∨ q = 91) → σ2 q = σ q) (F2 : ∀ j, ¬ j = 7 → σ2 0 j = σ 0 j) (F3 : σ2 34 0 = σ 34 0) (F4 : ∀ j, ¬ (j = 0 ∨ j = 17 ∨ j = 18 ∨ j = 28 ∨ j = 29) → σ2 59 j = σ 59 j) (h7 : σ2 59 18 = σ2 0 7 ∧ ai_r (σ2 0 7)) (hrg : ∀ j, rg (σ2 57 j)) (hb : ∀ j, 0 ≤ σ2 83 j ∧ σ2 83 j ≤ 1) : Rel σ2 := by
  obtain ⟨hS, hT, hL, n0, n1, n2, hX, ⟨f1, f2, f3, f4, f5, f6, f7, f8⟩, ⟨q1, q2, q3, q4⟩, hC, hW⟩ := hR
  unfold Rel
  rw [F3]
  have hF : RFai (σ2 32 1) (σ2 48) (σ2 57) (σ2 83) (σ2 0 7) (σ2 59 18) (σ2 27) (σ2 85) := by
    refine ⟨h7.1, h7.2, ?_, ?_, ?_, ⟨by rw [F1 48 (by omega)]; exact f6, hrg, hb⟩⟩
    · rw [F1 85 (by omega), F1 27 (by omega)]
      exact f3
    · rw [F1 27 (by omega)]
      exact f4
    · rw [F1 32 (by omega)]
      exact f5
  simp only [F1 2 (by omega), F1 3 (by omega), F1 4 (by omega), F1 5 (by omega), F1 6 (by omega), F1 7 (by omega), F1 9 (by omega), F1 10 (by omega), F1 11 (by omega), F1 12 (by omega), F1 15 (by omega), F1 16 (by omega), F1 17 (by omega), F1 19 (by omega), F1 20 (by omega), F1 21 (by omega), F1 23 (by omega), F1 24 (by omega), F1 25 (by omega), F1 26 (by omega), F1 27 (by omega), F1 32 (by omega), F1 35 (by omega), F1 37 (by omega), F1 38 (by omega), F1 39 (by omega), F1 40 (by omega), F1 60 (by omega), F1 61 (by omega), F1 62 (by omega), F1 63 (by omega), F1 64 (by omega), F1 65 (by omega), F1 66 (by omega), F1 67 (by omega), F1 68 (by omega), F1 69 (by omega), F1 70 (by omega), F1 71 (by omega), F1 84 (by omega), F1 85 (by omega), F1 88 (by omega), F1 89 (by omega), F1 90 (by omega), F1 36 (by omega), F1 72 (by omega), F1 73 (by omega), F1 74 (by omega), F1 75 (by omega), F1 76 (by omega), F1 77 (by omega), F1 41 (by omega), F1 42 (by omega), F1 43 (by omega), F1 44 (by omega), F1 45 (by omega), F1 46 (by omega), F1 47 (by omega), F1 48 (by omega), F1 49 (by omega), F2 4 (by decide), F2 5 (by decide), F2 6 (by decide), F4 1 (by decide), F4 13 (by decide), F4 14 (by decide), F4 15 (by decide), F4 19 (by decide), F4 20 (by decide), F4 21 (by decide), F4 41 (by decide), F4 42 (by decide), F4 45 (by decide)] at hF ⊢
  exact ⟨hS, hT, hL, n0, n1, n2, hX, hF, ⟨q1, q2, q3, fun q => ⟨(q4 q).1, fun h => absurd h (by omega)⟩⟩, hC, hW⟩
theorem rel_rd1_50 {σ σ2 : ai_S} (hR : Rel σ) (F1 : ∀ q : Nat, ¬ (q = 0 ∨ q = 34 ∨ q = 36 ∨ (50 ≤ q ∧ q ≤ 50 + 8) ∨ q = 59 ∨ (72 ≤ q ∧ q ≤ 83) ∨ q = 91) → σ2 q = σ q) (F2 : σ2 0 4 = 50 ∧ σ2 0 5 = 41 ∧ σ2 0 6 = 1 ∧ σ2 0 7 = -1) (F3 : σ2 34 0 = σ 34 0) (F4 : ∀ j, ¬ (j = 0 ∨ j = 17 ∨ j = 18 ∨ j = 19 ∨ j = 20 ∨ j = 21 ∨ j = 28 ∨ j = 29 ∨ j = 42) → σ2 59 j = σ 59 j) (F5 : σ2 36 0 = 0) (F6 : σ2 59 18 = -1 ∧ σ2 59 19 = 1 ∧ σ2 59 42 = 0) (hrg : ∀ j, rg (σ2 57 j)) (hb : ∀ j, 0 ≤ σ2 83 j ∧ σ2 83 j ≤ 1) (hds : DS (σ 2 0) (σ 4) (σ 5) (σ2 50 0) (σ2 50 1) (σ2 51) (σ2 52) (σ2 53) (σ2 54) (σ2 55) (σ2 56) (σ2 57) (σ2 58) (σ2 59 20) (σ2 59 21) (σ2 72) (σ2 73) (σ2 74) (σ2 75) (σ2 76) (σ2 77)) : Rel σ2 := by
  obtain ⟨hS, hT, hL, n0, n1, n2, hX, ⟨f1, f2, f3, f4, f5, f6, f7, f8⟩, ⟨q1, q2, q3, q4⟩, ⟨c1, c2, c3⟩, hW⟩ := hR
  unfold Rel
  rw [F3]
  have hF : RFai (σ2 32 1) (σ2 48) (σ2 57) (σ2 83) (σ2 0 7) (σ2 59 18) (σ2 27) (σ2 85) := by
    refine ⟨F6.1.trans F2.2.2.2.symm, by rw [F2.2.2.2]; exact rm1, ?_, ?_, ?_, ⟨by rw [F1 48 (by omega)]; exact f6, hrg, hb⟩⟩
    · rw [F1 85 (by omega), F1 27 (by omega)]
      exact f3
    · rw [F1 27 (by omega)]
      exact f4
    · rw [F1 32 (by omega)]
      exact f5
  simp only [F1 2 (by omega), F1 3 (by omega), F1 4 (by omega), F1 5 (by omega), F1 6 (by omega), F1 7 (by omega), F1 9 (by omega), F1 10 (by omega), F1 11 (by omega), F1 12 (by omega), F1 15 (by omega), F1 16 (by omega), F1 17 (by omega), F1 19 (by omega), F1 20 (by omega), F1 21 (by omega), F1 23 (by omega), F1 24 (by omega), F1 25 (by omega), F1 26 (by omega), F1 27 (by omega), F1 32 (by omega), F1 35 (by omega), F1 37 (by omega), F1 38 (by omega), F1 39 (by omega), F1 40 (by omega), F1 60 (by omega), F1 61 (by omega), F1 62 (by omega), F1 63 (by omega), F1 64 (by omega), F1 65 (by omega), F1 66 (by omega), F1 67 (by omega), F1 68 (by omega), F1 69 (by omega), F1 70 (by omega), F1 71 (by omega), F1 84 (by omega), F1 85 (by omega), F1 88 (by omega), F1 89 (by omega), F1 90 (by omega), F2.1, F2.2.1, F2.2.2.1, F5, F6.2.1, F6.2.2, F4 1 (by decide), F4 13 (by decide), F4 14 (by decide), F4 15 (by decide), F4 41 (by decide), F4 45 (by decide)] at hF ⊢
  exact ⟨hS, hT, hL, n0, n1, n2, hX, hF, ⟨Or.inr ⟨rfl, rfl⟩, rfl, Or.inr rfl, fun _ => ⟨fun h => absurd (show (50 : Int) = 41 from h) (by decide), fun _ => hds⟩⟩, ⟨⟨by decide, by decide⟩, Or.inl ⟨rfl, rfl⟩, c3⟩, hW⟩
theorem tn_read_50 {sc : Int × (Int → Int)} {σ : ai_S} (hR : Rel σ) (h4 : σ 0 4 = 41) (h5 : σ 0 5 = 50) : ∃ k x σ1 σ2, fn sc 193 [some (.inr (.inr 0)), some (.inr (.inr 91)), none] σ (some (.inl k)) σ1 ∧ fn sc 148 [some (.inr (.inr 59)), none] σ1 (some (.inl x)) σ2 ∧ σ2 59 0 = k ∧ (0 ≤ k ∧ k ≤ 3) ∧ ai_r x ∧ (k = 0 → σ2 91 0 = x) ∧ Rel σ2 := by
  obtain ⟨⟨s1, s2, s3, s4, s5, s6, s7, s8, s9, s10, s11, s12⟩, ⟨t1, t4⟩, hL, n0, n1, n2, ⟨y1, y2, y3, y4⟩, ⟨f1, f2, f3, f4, f5, f6, f7, f8⟩, ⟨q1, q2, q3, q4⟩, hC, hW⟩ := id hR
  have hX : TX (σ 34 0) (σ 35) := ⟨y2, y4⟩
  obtain ⟨σ0, hσ0⟩ : ∃ σ0, σ0 = ai_set (ai_set (ai_set σ 34 1 0) 50 0 0) 50 1 0 := ⟨_, rfl⟩
  have k0 : CK 50 σ 0 0 0 (σ 51) (σ 52) (σ 53) (σ 54) (σ 55) (σ 56) (σ 57) (σ 58) σ0 := by
    rw [hσ0]
    exact ⟨fun q hq => (set_ne (by omega)).trans ((set_ne (by omega)).trans (set_ne (by omega))), rfl, rfl, ⟨rfl, rfl⟩, rfl, rfl, rfl, rfl, rfl, rfl, rfl, rfl⟩
  have hd0 : DS (σ 2 0) (σ 4) (σ 5) 0 0 (σ 51) (σ 52) (σ 53) (σ 54) (σ 55) (σ 56) (σ 57) (σ 58) 0 0 (σ 78) (σ 79) (at1 (σ 80) 0 0) (σ 81) (σ 82) (σ 83) := DS_0 f7 at1_at
  obtain ⟨b, p', S', N', ta', wd', cl', nm', fr', rs', ce', nu', st', sw', sf', sl', xc', xn', σ', i1, i2, i3, i4, i5, i6⟩ := rd_all_50 (sc := sc) (n := σ 34 0) (tx := σ 35) (T := σ 2 0) (w := σ 4) (ty := σ 5) (τ := σ) hX ⟨rfl, rfl⟩ s2 s8 s9 rfl rfl rfl 6 0 0 0 _ _ _ _ _ _ _ _ _ _ _ _ _ _ σ0 (by decide) ⟨by decide, hX.1.1⟩ k0 hd0 f8
  have rp : ai_r p' := by
    have := hX.1
    exact ⟨by omega, by omega⟩
  have f74 : fn sc 74 [some (.inr (.inr 34)), some (.inr (.inr 2)), some (.inr (.inr 50)), none] σ (some (.inl b)) σ' := fun Q hQ => by
    refine rb_74_0_50 (ai_ret_q (rb_50_0_50 (ai_k_in (rb_74_5_50 ?_))))
    rw [← hσ0]
    exact i3 Q hQ
  have c5 : ∀ Q : ai_O → Prop, ai_wp sc 5 8 [some (.inr (.inr 0)), none] [.inl b] (0, 0) (92, [], σ') Q → ai_wp sc 5 0 [some (.inr (.inr 0)), none] [] (0, 0) (92, [], σ) Q := fun Q hQ => by
    refine rb_5_0 ?_
    have e : (σ 0 5).toNat = 50 := by
      rw [h5]
      rfl
    rw [e]
    exact rb_5_7_50 (fn_ret f74 hQ)
  have z0 : σ' 0 = σ 0 := i4.1 0 (by omega)
  -- the reference, from a state that the class has left
  have rgo : ∀ σ1 : ai_S, (∀ q : Nat, 59 ≤ q → ¬ q = 91 → σ1 q = σ q) → ∃ ρ', RE (ai_set (ai_set (ai_set (ai_set (ai_set (ai_set σ1 59 0 0) 59 17 0) 59 28 0) 59 29 0) 80 0 0) 59 18 (-1)) p' ρ' ∧ (b = 1 → RK (ai_set (ai_set (ai_set (ai_set (ai_set (ai_set σ1 59 0 0) 59 17 0) 59 28 0) 59 29 0) 80 0 0) 59 18 (-1)) S' N' p' st' sw' sf' sl' xc' xn' ρ') ∧ ∀ Q : ai_O → Prop, (b = 1 → ai_wp sc 148 61 [some (.inr (.inr 59)), some (.inl 0)] [] (0, 0) (92, [], ai_set (ai_set (ai_set (ai_set ρ' 59 19 1) 59 42 0) 59 20 (ρ' 59 28)) 59 21 (ρ' 59 29)) Q) → (b = 0 → Q (.inl (some (.inl 0)), (92, [], ai_set (ai_set ρ' 59 18 p') 59 0 1))) → ai_wp sc 148 0 [some (.inr (.inr 59)), none] [] (0, 0) (92, [], σ1) Q := by
    intro σ1 hp
    have j59 : σ1 59 = σ 59 := hp 59 (by omega) (by omega)
    have r0 : RK (ai_set (ai_set (ai_set (ai_set (ai_set (ai_set σ1 59 0 0) 59 17 0) 59 28 0) 59 29 0) 80 0 0) 59 18 (-1)) 0 0 0 (σ 78) (σ 79) (at1 (σ 80) 0 0) (σ 81) (σ 82) (σ 83) (ai_set (ai_set (ai_set (ai_set (ai_set (ai_set σ1 59 0 0) 59 17 0) 59 28 0) 59 29 0) 80 0 0) 59 18 (-1)) := by
      refine ⟨fun _ _ => rfl, fun _ _ => rfl, rfl, ⟨rfl, rfl⟩, hp 78 (by omega) (by omega), hp 79 (by omega) (by omega), ?_, hp 81 (by omega) (by omega), hp 82 (by omega) (by omega), hp 83 (by omega) (by omega)⟩
      show at1 (σ1 80) 0 0 = at1 (σ 80) 0 0
      rw [hp 80 (by omega) (by omega)]
    obtain ⟨ρ', l1, l2, l3⟩ := i6 (ai_set (ai_set (ai_set (ai_set (ai_set (ai_set σ1 59 0 0) 59 17 0) 59 28 0) 59 29 0) 80 0 0) 59 18 (-1)) _ ⟨(show σ1 59 15 = σ 34 0 by rw [j59]; exact y1), (show σ1 71 = σ 35 by rw [hp 71 (by omega) (by omega)]; exact y3)⟩ (show σ1 61 = σ 5 by rw [hp 61 (by omega) (by omega)]; exact s4) (show σ1 60 = σ 4 by rw [hp 60 (by omega) (by omega)]; exact s3) (show σ1 59 1 = σ 2 0 by rw [j59]; exact s1) rfl r0
    exact ⟨ρ', l1, l2, fun Q q1 q0 => rb_148_0 ⟨⟨by decide, by decide⟩, l3 Q q1 q0⟩⟩
  by_cases hb1 : b = 1
  · -- a dataset
    subst hb1
    obtain ⟨k1, k2, k3⟩ := i5 rfl
    obtain ⟨w1, w2, w3, ⟨w4, w5⟩, u1, u2, u3, u4, u5, u6, u7, u8⟩ := id k1
    have hN := k2.1.2.2.2.1
    have rN : ai_r N' := ⟨by omega, by omega⟩
    obtain ⟨σc, hσc⟩ : ∃ σc, σc = ai_set (ai_set (ai_set (ai_set (ai_set σ' 0 4 50) 0 5 41) 0 6 1) 0 7 (-1)) 36 0 0 := ⟨_, rfl⟩
    have w : fn sc 5 [some (.inr (.inr 0)), none] σ (some (.inl N')) σc := fun Q hQ => c5 Q (by
      refine rb_5_8_50 ⟨rr1, fun _ => ?_, fun z => absurd (show ¬ (1 : Int) = 0 by decide) z⟩
      have e1 : (σ' 0 4).toNat = 41 := by
        rw [z0, h4]
        rfl
      rw [e1]
      refine rb_5_21_50_41 ?_
      have e2 : (σ' 0 5).toNat = 50 := by
        rw [z0, h5]
        rfl
      rw [e2]
      refine rb_5_25_50_41_50 ⟨z11, ai_ret_q (rb_21_0 (ai_k_in (rb_5_38_50_41_50 ?_)))⟩
      rw [← hσc]
      have e3 : (σc 0 4).toNat = 50 := by
        rw [hσc]
        rfl
      rw [e3]
      refine rb_5_40_50_41_50_50 ?_
      have e4 : σc 50 1 = N' := by
        rw [hσc]
        exact w5
      rw [e4]
      exact hQ)
    have hC1 : ∀ q : Nat, ¬ (q = 0 ∨ q = 36) → (ai_set σc 91 0 N') q = (ai_set σ' 91 0 N') q := fun q hq => by
      rw [hσc]
      by_cases e : q = 91
      · subst e
        rfl
      · rw [set_ne e, set_ne (by omega), set_ne (by omega), set_ne (by omega), set_ne (by omega), set_ne (by omega), set_ne e]
    obtain ⟨ρ', l1, l2, l3⟩ := rgo (ai_set σc 91 0 N') (fun q a1 a2 => (hC1 q (by omega)).trans ((set_ne a2).trans (w1 q (by omega))))
    obtain ⟨v1, v2, v3, ⟨v4, v5⟩, g1, g2, g3, g4, g5, g6⟩ := l2 rfl
    obtain ⟨ρe, hρe⟩ : ∃ ρe, ρe = ai_set (ai_set (ai_set (ai_set ρ' 59 19 1) 59 42 0) 59 20 (ρ' 59 28)) 59 21 (ρ' 59 29) := ⟨_, rfl⟩
    have e21 : ρe 59 21 = N' := by
      rw [hρe]
      exact v5
    have ene : ∀ q : Nat, ¬ q = 59 → ρe q = ρ' q := fun q hq => by
      rw [hρe, set_ne hq, set_ne hq, set_ne hq, set_ne hq]
    have w148 : fn sc 148 [some (.inr (.inr 59)), none] (ai_set σc 91 0 N') (some (.inl N')) (WC ρe) := fun Q hQ => l3 Q (fun _ => by
      rw [← hρe]
      refine rf_copy (by rw [ene 83 (by omega), g6]; exact k3) ?_
      rw [e21]
      exact hQ) (fun z => absurd z (by decide))
    -- what stands in the end
    have hC2 : ∀ q : Nat, ¬ (q = 59 ∨ (72 ≤ q ∧ q ≤ 83)) → (WC ρe) q = (ai_set σc 91 0 N') q := fun q hq => by
      rw [WC_ne (by omega), ene q (by omega), v1 q (by omega), set_ne (by omega), set_ne (by omega), set_ne (by omega), set_ne (by omega), set_ne (by omega), set_ne (by omega)]
    have h59 : ∀ j, ¬ (j = 0 ∨ j = 17 ∨ j = 18 ∨ j = 19 ∨ j = 20 ∨ j = 21 ∨ j = 28 ∨ j = 29 ∨ j = 42) → (WC ρe) 59 j = σ 59 j := fun j hj => by
      rw [WC_ne (by omega), hρe, st_ix (by omega), st_ix (by omega), st_ix (by omega), st_ix (by omega), v2 j (by omega), st_ix (by omega), st_pl (by decide), st_ix (by omega), st_ix (by omega), st_ix (by omega), st_ix (by omega), hC1 59 (by omega), set_ne (by decide), w1 59 (by omega)]
    have c0 : (WC ρe) 0 = σc 0 := (hC2 0 (by omega)).trans (set_ne (by decide))
    have cd : ∀ q : Nat, (50 ≤ q ∧ q ≤ 50 + 8) → (WC ρe) q = σ' q := fun q hq => (hC2 q (by omega)).trans ((hC1 q (by omega)).trans (set_ne (by omega)))
    refine ⟨0, N', _, WC ρe, wv_193 w rN, w148, ?_, ⟨by decide, by decide⟩, rN, fun _ => ?_, rel_rd1_50 hR (fun q hq => ?_) ?_ ?_ h59 ?_ ⟨?_, ?_, ?_⟩ ?_ ?_ ?_⟩
    · rw [WC_ne (by omega), hρe]
      show ρ' 59 0 = 0
      rw [v2 0 (by decide)]
      rfl
    · rw [hC2 91 (by omega)]
      exact st_same_at _ _ _ _
    · rw [hC2 q (by omega), hC1 q (by omega), set_ne (by omega)]
      exact w1 q (by omega)
    · rw [c0, hσc]
      exact ⟨rfl, rfl, rfl, rfl⟩
    · rw [hC2 34 (by omega), hC1 34 (by omega)]
      exact w2
    · rw [hC2 36 (by omega), hσc]
      rfl
    · rw [WC_ne (by omega), hρe]
      show ρ' 59 18 = -1
      rw [v2 18 (by decide)]
      rfl
    · rw [WC_ne (by omega), hρe]
      rfl
    · rw [WC_ne (by omega), hρe]
      rfl
    · rw [cd 57 (by omega), u7]
      exact k2.2.1
    · rw [WC_ne (by omega), ene 83 (by omega), g6]
      exact k3
    · have e20 : (WC ρe) 59 20 = S' := by
        rw [WC_ne (by omega), hρe]
        exact v4
      have e21' : (WC ρe) 59 21 = N' := by
        rw [WC_ne (by omega)]
        exact e21
      rw [cd 50 (by omega), cd 51 (by omega), cd 52 (by omega), cd 53 (by omega), cd 54 (by omega), cd 55 (by omega), cd 56 (by omega), cd 57 (by omega), cd 58 (by omega), w4, w5, u1, u2, u3, u4, u5, u6, u7, u8, e20, e21']
      have r1 : (WC ρe) 72 = cpz (ρe 72) st' 6 := by
        rw [← g1, ← ene 78 (by omega)]
        rfl
      have r2 : (WC ρe) 73 = cpz (ρe 73) sw' 6 := by
        rw [← g2, ← ene 79 (by omega)]
        rfl
      have r3 : (WC ρe) 74 = cpz (ρe 74) sf' 7 := by
        rw [← g3, ← ene 80 (by omega)]
        rfl
      have r4 : (WC ρe) 75 = cpz (ρe 75) sl' 30 := by
        rw [← g4, ← ene 81 (by omega)]
        rfl
      have r5 : (WC ρe) 76 = cpz (ρe 76) xc' 120 := by
        rw [← g5, ← ene 82 (by omega)]
        rfl
      have r6 : (WC ρe) 77 = cpz (ρe 77) xn' 120 := by
        rw [← g6, ← ene 83 (by omega)]
        rfl
      rw [r1, r2, r3, r4, r5, r6]
      exact DS_ref s8 k2
  · -- no dataset
    have hb0 : b = 0 := by omega
    subst hb0
    obtain ⟨w1, w2, w3, w4⟩ := i4
    have w : th sc 5 [some (.inr (.inr 0)), none] σ 1 (ai_set σ' 0 7 p') := fun Q hQ => c5 Q (rb_5_8_50 ⟨rr0, fun z => absurd rfl z, fun _ => (show Q (.inr 1, (92, [], ai_set σ' 0 7 (σ' 34 1))) by rw [w3]; exact hQ)⟩)
    obtain ⟨ρ', l1, l2, l3⟩ := rgo (ai_set σ' 0 7 p') (fun q a1 a2 => (set_ne (by omega)).trans (w1 q (by omega)))
    obtain ⟨v1, v2, v3, v4⟩ := l1
    have w148 : fn sc 148 [some (.inr (.inr 59)), none] (ai_set σ' 0 7 p') (some (.inl 0)) (ai_set (ai_set ρ' 59 18 p') 59 0 1) := fun Q hQ => l3 Q (fun z => absurd z (by decide)) (fun _ => hQ)
    have hC2 : ∀ q : Nat, ¬ (q = 59 ∨ (78 ≤ q ∧ q ≤ 83)) → (ai_set (ai_set ρ' 59 18 p') 59 0 1) q = (ai_set σ' 0 7 p') q := fun q hq => by
      rw [set_ne (by omega), set_ne (by omega), v1 q (by omega), set_ne (by omega), set_ne (by omega), set_ne (by omega), set_ne (by omega), set_ne (by omega), set_ne (by omega)]
    refine ⟨1, 0, _, _, wx_193_1 w, w148, rfl, ⟨by decide, by decide⟩, rr0, fun z => absurd z (by decide), rel_rd0_50 hR h4 (fun q hq => ?_) (fun j hj => ?_) ?_ (fun j hj => ?_) ⟨?_, ?_⟩ ?_ ?_⟩
    · rw [hC2 q (by omega), set_ne (by omega)]
      exact w1 q (by omega)
    · rw [hC2 0 (by omega), st_ix hj, z0]
    · rw [hC2 34 (by omega)]
      exact w2
    · rw [st_ix (by omega), st_ix (by omega), v2 j (by omega), st_ix (by omega), st_pl (by decide), st_ix (by omega), st_ix (by omega), st_ix (by omega), st_ix (by omega), st_pl (by decide), w1 59 (by omega)]
    · rw [hC2 0 (by omega)]
      rfl
    · rw [hC2 0 (by omega)]
      exact rp
    · rw [hC2 57 (by omega)]
      exact w4
    · exact v4
theorem st_read {sc : Int × (Int → Int)} {σ : ai_S} {Q : ai_O → Prop} {a b : Nat} {v4 : Int} (hab : a + 1 ≤ 601024 ∧ b + 6 ≤ 7293034) (hv : 0 ≤ v4 ∧ v4 ≤ sc.1 - 5) (hs : ∀ j, -2147483648 ≤ sc.2 j ∧ sc.2 j ≤ 2147483647) (hR : Rel σ) (K : Nxt sc Q v4 a b) : ai_wp sc 206 147 (lwL v4 none none none) [] (a, b) (92, [], σ) Q := by
  have hD := hR.2.2.2.2.2.2.2.2.1
  have hT : ∃ k x σ1 σ2, fn sc 193 [some (.inr (.inr 0)), some (.inr (.inr 91)), none] σ (some (.inl k)) σ1 ∧ fn sc 148 [some (.inr (.inr 59)), none] σ1 (some (.inl x)) σ2 ∧ σ2 59 0 = k ∧ (0 ≤ k ∧ k ≤ 3) ∧ ai_r x ∧ (k = 0 → σ2 91 0 = x) ∧ Rel σ2 := by
    rcases hD.1 with ⟨e4, e5⟩ | ⟨e4, e5⟩
    · exact tn_read_50 hR e4 e5
    · exact tn_read_41 hR e4 e5
  obtain ⟨k, x, σ1, σ2, hw, hm, hk, hkr, hx, ho, hR2⟩ := hT
  exact ar_read hab hv hs hw hm hk hkr hx ho (K _ _ _ (Nat.le_refl _) (Nat.le_refl _) hR2)
