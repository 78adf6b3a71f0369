/-! WHO REFERS: class and reference. -/
/-- a row of u, not the row ex, holds the key in its column c -/
def RFp (cn ce nu : Int → Int) (u c key ex : Int) : Prop := ∃ q, 0 ≤ q ∧ q < cn u ∧ ¬ q = ex ∧ ai_and (ai_shr (nu (12 * u + q)) c) 1 = 0 ∧ ce (60 * u + 5 * q + c) = key
theorem cf_refers {sc : Int × (Int → Int)} {σ : ai_S} {Q : ai_O → Prop} {u c key ex : Int} (hu : 0 ≤ u ∧ u < 5) (hc : 0 ≤ c ∧ c < 5) (hn : 0 ≤ σ 9 u ∧ σ 9 u ≤ 12) (h8 : ∀ j, ai_r8 (σ 10 j)) (hk : ai_r8 key) (he : ai_r ex) (hQ : ∀ b, (b = 0 ∨ b = 1) → (b = 1 ↔ RFp (σ 9) (σ 10) (σ 11) u c key ex) → Q (.inl (some (.inl b)), (92, [], σ))) : ai_wp sc 109 0 [some (.inr (.inr 8)), some (.inl u), some (.inl c), some (.inr (.inl key)), none, some (.inl ex), none, none, none] [] (0, 0) (92, [], σ) Q := by
  have h : ∀ (n : Nat) (v : Int) (x y : Option ai_V), 0 ≤ v ∧ v ≤ σ 9 u → (σ 9 u - v).toNat = n → (∀ q, 0 ≤ q → q < v → ¬ (¬ q = ex ∧ ai_and (ai_shr (σ 11 (12 * u + q)) c) 1 = 0 ∧ σ 10 (60 * u + 5 * q + c) = key)) → ai_wp sc 109 2 [some (.inr (.inr 8)), some (.inl u), some (.inl c), some (.inr (.inl key)), none, some (.inl ex), some (.inl v), x, y] [] (0, 0) (92, [], σ) Q := by
    intro n
    induction n with
    | zero =>
      intro v x y hv hm hq
      exact rh_109_2 ⟨hu, ⟨⟨by omega, by omega⟩, ⟨by omega, by omega⟩⟩, fun _ => ⟨⟨by decide, by decide⟩, hQ 0 (Or.inl rfl) ⟨fun g => absurd g (by decide), fun g => by
        obtain ⟨q, q1, q2, q3⟩ := g
        exact absurd q3 (hq q q1 (by omega))⟩⟩, fun g => absurd (show σ 9 u ≤ v by omega) g⟩
    | succ n ih =>
      intro v x y hv hm hq
      have e1 : (u * 12) + v = 12 * u + v := by omega
      have e2 : (((u * 12) + v) * 5) + c = 60 * u + 5 * v + c := by omega
      have nxt : ¬ (¬ v = ex ∧ ai_and (ai_shr (σ 11 (12 * u + v)) c) 1 = 0 ∧ σ 10 (60 * u + 5 * v + c) = key) → ∀ x y, ai_wp sc 109 2 [some (.inr (.inr 8)), some (.inl u), some (.inl c), some (.inr (.inl key)), none, some (.inl ex), some (.inl (v + 1)), x, y] [] (0, 0) (92, [], σ) Q := by
        intro g x y
        refine ih (v + 1) x y (by omega) (by omega) (fun q q1 q2 => ?_)
        by_cases e : q = v
        · rw [e]
          exact g
        · exact hq q q1 (by omega)
      refine rh_109_2 ⟨hu, ⟨⟨by omega, by omega⟩, ⟨by omega, by omega⟩⟩, fun g => absurd g (by omega), fun _ => ⟨⟨by omega, by omega⟩, r32 _, fun n0 => ⟨⟨⟨by omega, by omega⟩, he⟩, fun e => nxt (fun g => g.1 e) _ _, fun e => ⟨⟨by decide, by decide⟩, fun z => absurd rfl z, fun _ => ⟨⟨by omega, by omega⟩, ⟨h8 _, hk⟩, cmp_r _ _, fun z => nxt (fun g => ?_) _ _, fun z => ⟨⟨by decide, by decide⟩, hQ 1 (Or.inr rfl) ⟨fun _ => ⟨v, hv.1, by omega, e, ?_, ?_⟩, fun _ => rfl⟩⟩⟩⟩⟩, fun n0 => ⟨⟨⟨by omega, by omega⟩, he⟩, fun e => nxt (fun g => g.1 e) _ _, fun e => ⟨⟨by decide, by decide⟩, fun _ => nxt (fun g => ?_) _ _, fun z => absurd (show ¬ (1 : Int) = 0 by decide) z⟩⟩⟩⟩
      · rw [e2] at z
        exact z (cmp_eq.mpr g.2.2)
      · rw [e1] at n0
        exact n0
      · rw [e2] at z
        exact cmp_eq.mp (Decidable.not_not.mp z)
      · rw [e1] at n0
        exact n0 g.2.1
  exact rb_109_0 (h _ 0 none none ⟨by omega, hn.1⟩ rfl (fun q q1 q2 => absurd q2 (by omega)))
/-- a row of u, not the row ex, refers to table t with that key -/
def TRp (w pa cn ce nu : Int → Int) (u t key ex : Int) : Prop := ∃ c, 0 ≤ c ∧ c < w u ∧ pa (5 * u + c) = t ∧ RFp cn ce nu u c key ex
theorem cf_tableRefers {sc : Int × (Int → Int)} {σ : ai_S} {Q : ai_O → Prop} {u t r : Int} (hu : 0 ≤ u ∧ u < 5) (ht : 0 ≤ t ∧ t < 5) (hr : 0 ≤ r ∧ r < 12) (hw : 0 ≤ σ 4 u ∧ σ 4 u ≤ 5) (hp : ∀ j, -1 ≤ σ 6 j ∧ σ 6 j < 5) (hn : 0 ≤ σ 9 u ∧ σ 9 u ≤ 12) (h8 : ∀ j, ai_r8 (σ 10 j)) (hQ : ∀ b, (b = 0 ∨ b = 1) → (b = 1 ↔ TRp (σ 4) (σ 6) (σ 9) (σ 10) (σ 11) u t (σ 10 (60 * t + 5 * r)) (if u = t then r else -1)) → Q (.inl (some (.inl b)), (92, [], σ))) : ai_wp sc 38 0 [some (.inr (.inr 1)), some (.inl u), some (.inl t), some (.inl r), none, none, none, none] [] (0, 0) (92, [], σ) Q := by
  have h : ∀ (ex : Int), ai_r ex → (ex = if u = t then r else -1) → ∀ (n : Nat) (v : Int) (x : Option ai_V), 0 ≤ v ∧ v ≤ σ 4 u → (σ 4 u - v).toNat = n → (∀ c, 0 ≤ c → c < v → ¬ (σ 6 (5 * u + c) = t ∧ RFp (σ 9) (σ 10) (σ 11) u c (σ 10 (60 * t + 5 * r)) ex)) → ai_wp sc 38 16 [some (.inr (.inr 1)), some (.inl u), some (.inl t), x, some (.inl ex), some (.inr (.inl (σ 10 (60 * t + 5 * r)))), none, some (.inl v)] [] (0, 0) (92, [], σ) Q := by
    intro ex hex eex n
    induction n with
    | zero =>
      intro v x hv hm hq
      exact rh_38_16 (ai_ret_q (pc_94 hu (ai_k_in (rb_38_21 ⟨⟨⟨by omega, by omega⟩, ⟨by omega, by omega⟩⟩, fun _ => ⟨⟨by decide, by decide⟩, hQ 0 (Or.inl rfl) ⟨fun g => absurd g (by decide), fun g => by
        rw [← eex] at g
        obtain ⟨c, c1, c2, c3⟩ := g
        exact absurd c3 (hq c c1 (by omega))⟩⟩, fun g => absurd (show σ 4 u ≤ v by omega) g⟩))))
    | succ n ih =>
      intro v x hv hm hq
      have e5 : (u * 5) + v = 5 * u + v := by omega
      have hpv := hp (5 * u + v)
      have nxt : ¬ (σ 6 (5 * u + v) = t ∧ RFp (σ 9) (σ 10) (σ 11) u v (σ 10 (60 * t + 5 * r)) ex) → ai_wp sc 38 16 [some (.inr (.inr 1)), some (.inl u), some (.inl t), none, some (.inl ex), some (.inr (.inl (σ 10 (60 * t + 5 * r)))), none, some (.inl (v + 1))] [] (0, 0) (92, [], σ) Q := by
        intro g
        refine ih (v + 1) none (by omega) (by omega) (fun c c1 c2 => ?_)
        by_cases e : c = v
        · rw [e]
          exact g
        · exact hq c c1 (by omega)
      refine rh_38_16 (ai_ret_q (pc_94 hu (ai_k_in (rb_38_21 ⟨⟨⟨by omega, by omega⟩, ⟨by omega, by omega⟩⟩, fun g => absurd g (by omega), fun _ => ai_ret_q (pc_96 ⟨by omega, by omega⟩ (ai_k_in ?_))⟩))))
      rw [e5]
      refine rb_38_27 ⟨⟨⟨by omega, by omega⟩, ⟨by omega, by omega⟩⟩, fun g => nxt (fun z => g z.1), fun g => ai_ret_q (cf_refers hu ⟨hv.1, by omega⟩ hn h8 (h8 _) hex (fun b hb hi => ai_k_in (rb_38_36 ⟨⟨by omega, by omega⟩, fun z => nxt (fun y => ?_), fun z => ⟨⟨by decide, by decide⟩, hQ 1 (Or.inr rfl) ⟨fun _ => ?_, fun _ => rfl⟩⟩⟩)))⟩
      · have := hi.mpr y.2
        omega
      · rw [← eex]
        exact ⟨v, hv.1, by omega, Decidable.not_not.mp g, hi.mp (by omega)⟩
  have ek : (((t * 12) + r) * 5) + 0 = 60 * t + 5 * r := by omega
  have start : ∀ ex, ai_r ex → (ex = if u = t then r else -1) → ai_ret (ai_wp sc) 106 [some (.inr (.inr 8)), some (.inl t), some (.inl r), some (.inl 0)] (92, [], σ) (fun v h' => ai_ck (ai_zz 92 h'.1 0) (ai_wp sc 38 13 [some (.inr (.inr 1)), some (.inl u), some (.inl t), some (.inl r), some (.inl ex), none, none, none] (v.toList ++ []) (0, 0) h' Q)) := by
    intro ex hex eex
    refine ai_ret_q (pc_106 ⟨by omega, by omega⟩ (ai_k_in ?_))
    rw [ek]
    exact rb_38_13 (h ex hex eex _ 0 _ ⟨by omega, hw.1⟩ rfl (fun c c1 c2 => absurd c2 (by omega)))
  exact rb_38_0 ⟨⟨⟨by omega, by omega⟩, ⟨by omega, by omega⟩⟩, fun g => start (-1) ⟨by decide, by decide⟩ (if_neg g).symm, fun g => start r ⟨by omega, by omega⟩ (if_pos (Decidable.not_not.mp g)).symm⟩
/-- somebody refers to the row r of t -/
def ARp (T : Int) (w pa cn ce nu : Int → Int) (t r : Int) : Prop := ∃ u, 0 ≤ u ∧ u < T ∧ TRp w pa cn ce nu u t (ce (60 * t + 5 * r)) (if u = t then r else -1)
/-- another table refers to a row of t -/
def ORp (T : Int) (w pa cn ce nu : Int → Int) (t : Int) : Prop := ∃ r u, 0 ≤ r ∧ r < cn t ∧ 0 ≤ u ∧ u < T ∧ ¬ u = t ∧ TRp w pa cn ce nu u t (ce (60 * t + 5 * r)) (if u = t then r else -1)
theorem cf_others {sc : Int × (Int → Int)} {σ : ai_S} {Q : ai_O → Prop} {t : Int} (ht : 0 ≤ t ∧ t < 5) (hT : 0 ≤ σ 2 0 ∧ σ 2 0 ≤ 5) (hw : ∀ u, 0 ≤ σ 4 u ∧ σ 4 u ≤ 5) (hp : ∀ j, -1 ≤ σ 6 j ∧ σ 6 j < 5) (hn : ∀ u, 0 ≤ σ 9 u ∧ σ 9 u ≤ 12) (h8 : ∀ j, ai_r8 (σ 10 j)) (hQ : ∀ b, (b = 0 ∨ b = 1) → (b = 1 ↔ ORp (σ 2 0) (σ 4) (σ 6) (σ 9) (σ 10) (σ 11) t) → Q (.inl (some (.inl b)), (92, [], σ))) : ai_wp sc 37 0 [some (.inr (.inr 1)), some (.inl t), none, none] [] (0, 0) (92, [], σ) Q := by
  have hnt := hn t
  have h : ∀ (n : Nat) (r : Int) (x : Option ai_V), 0 ≤ r ∧ r ≤ σ 9 t → (σ 9 t - r).toNat = n → (∀ q u, 0 ≤ q → q < r → 0 ≤ u → u < σ 2 0 → ¬ u = t → ¬ TRp (σ 4) (σ 6) (σ 9) (σ 10) (σ 11) u t (σ 10 (60 * t + 5 * q)) (if u = t then q else -1)) → ai_wp sc 37 2 [some (.inr (.inr 1)), some (.inl t), some (.inl r), x] [] (0, 0) (92, [], σ) Q := by
    intro n
    induction n with
    | zero =>
      intro r x hr hm hq
      exact rh_37_2 (ai_ret_q (pc_105 ht (ai_k_in (rb_37_7 ⟨⟨⟨by omega, by omega⟩, ⟨by omega, by omega⟩⟩, fun _ => ⟨⟨by decide, by decide⟩, hQ 0 (Or.inl rfl) ⟨fun g => absurd g (by decide), fun g => by
        obtain ⟨q, u, q1, q2, u1, u2, u3, u4⟩ := g
        exact absurd u4 (hq q u q1 (by omega) u1 u2 u3)⟩⟩, fun g => absurd (show σ 9 t ≤ r by omega) g⟩))))
    | succ n ih =>
      intro r x hr hm hq
      have hin : ∀ (m : Nat) (u : Int), 0 ≤ u ∧ u ≤ σ 2 0 → (σ 2 0 - u).toNat = m → (∀ u', 0 ≤ u' → u' < u → ¬ u' = t → ¬ TRp (σ 4) (σ 6) (σ 9) (σ 10) (σ 11) u' t (σ 10 (60 * t + 5 * r)) (if u' = t then r else -1)) → ai_wp sc 37 10 [some (.inr (.inr 1)), some (.inl t), some (.inl r), some (.inl u)] [] (0, 0) (92, [], σ) Q := by
        intro m
        induction m with
        | zero =>
          intro u hu hm2 hq2
          refine rb_37_10 ⟨⟨⟨by omega, by omega⟩, ⟨by omega, by omega⟩⟩, fun _ => ih (r + 1) _ (by omega) (by omega) (fun q u' q1 q2 u1 u2 u3 => ?_), fun g => absurd (show σ 2 0 ≤ u by omega) g⟩
          by_cases e : q = r
          · rw [e]
            exact hq2 u' u1 (by omega) u3
          · exact hq q u' q1 (by omega) u1 u2 u3
        | succ m ihm =>
          intro u hu hm2 hq2
          have nxt : (¬ u = t → ¬ TRp (σ 4) (σ 6) (σ 9) (σ 10) (σ 11) u t (σ 10 (60 * t + 5 * r)) (if u = t then r else -1)) → ai_wp sc 37 10 [some (.inr (.inr 1)), some (.inl t), some (.inl r), some (.inl (u + 1))] [] (0, 0) (92, [], σ) Q := by
            intro g
            refine ihm (u + 1) (by omega) (by omega) (fun u' u1 u2 u3 => ?_)
            by_cases e : u' = u
            · rw [e] at u3 ⊢
              exact g u3
            · exact hq2 u' u1 (by omega) u3
          refine rb_37_10 ⟨⟨⟨by omega, by omega⟩, ⟨by omega, by omega⟩⟩, fun g => absurd g (by omega), fun _ => ⟨⟨⟨by omega, by omega⟩, ⟨by omega, by omega⟩⟩, fun e => nxt (fun g => absurd e g), fun e => ai_ret_q (cf_tableRefers ⟨hu.1, by omega⟩ ht ⟨hr.1, by omega⟩ (hw u) hp (hn u) h8 (fun b hb hi => ai_k_in (rb_37_23 ⟨⟨by omega, by omega⟩, fun z => nxt (fun _ y => ?_), fun z => ⟨⟨by decide, by decide⟩, hQ 1 (Or.inr rfl) ⟨fun _ => ⟨r, u, hr.1, by omega, hu.1, by omega, e, hi.mp (by omega)⟩, fun _ => rfl⟩⟩⟩)))⟩⟩
          have := hi.mpr y
          omega
      exact rh_37_2 (ai_ret_q (pc_105 ht (ai_k_in (rb_37_7 ⟨⟨⟨by omega, by omega⟩, ⟨by omega, by omega⟩⟩, fun g => absurd g (by omega), fun _ => hin _ 0 ⟨by omega, hT.1⟩ rfl (fun u' u1 u2 => absurd u2 (by omega))⟩))))
  exact rb_37_0 (h _ 0 none ⟨by omega, hnt.1⟩ rfl (fun q u q1 q2 => absurd q2 (by omega)))
