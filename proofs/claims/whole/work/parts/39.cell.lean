/-! READ: a cell, class and reference. -/
theorem rd_cell {sc : Int × (Int → Int)} {n : Int} {tx : Int → Int} {p ty : Int} (hT : TX n tx) (hp : 0 ≤ p ∧ p ≤ n) (hty : 0 ≤ ty ∧ ty ≤ 3) : ∃ a b p' v nl, okQ n tx a b p' ∧ (p ≤ p' ∧ p' ≤ n) ∧ (a = 1 → (nl = 0 ∨ nl = 1) ∧ (nl = 1 → v = 0) ∧ okc ty v) ∧
    (∀ (σ : ai_S) (x y : Int), cT σ n tx → ∃ x' y', fn sc 78 [some (.inr (.inr 34)), some (.inl ty)] (RD σ p x y) (some (.inl a)) (RD σ p' x' y') ∧ (a = 1 → x' = v ∧ y' = nl)) ∧
    (∀ (σ : ai_S) (F G : Int → Int) (k : Int), rT σ n tx → 0 ≤ k ∧ k < 120 → ∃ F' G', fn sc 144 [some (.inr (.inr 59)), some (.inl k), some (.inl ty), none] (RP σ p F G) (some (.inl b)) (RP σ p' F' G') ∧ (b = 1 → F' = (fun j => if j = k then v else F j) ∧ G' = (fun j => if j = k then nl else G j)) ∧ gb G G') := by
  have hn := hT.1
  have okc0 : okc ty 0 := ⟨fun _ => by decide, fun _ => by decide, fun _ => okT_wf okT_0, fun _ => Or.inl rfl⟩
  have htr : ai_r ty := ⟨by omega, by omega⟩
  have hcl : ∀ σ x y, cT σ n tx → fn sc 86 [some (.inr (.inr 34)), some (.inl 126)] (RD σ p x y) (some (.inl (ac n tx p 126))) (RD σ (p + ac n tx p 126) x y) := fun σ x y hσ => cf_accept hT hσ hp (by decide)
  have hrf : ∀ σ F G, rT σ n tx → fn sc 136 [some (.inr (.inr 59)), some (.inl 126)] (RP σ p F G) (some (.inl (ac n tx p 126))) (RP σ (p + ac n tx p 126) F G) := fun σ F G hσ => rf_skips hT hσ hp (by decide)
  have hal := ac_le (tx := tx) (c := 126) hp.2
  have ha := ac_01 n tx p 126
  generalize ac n tx p 126 = z at ha hal hcl hrf
  -- the beginning of the class's
  have beg : ∀ (σ : ai_S) (x y : Int) (Q : ai_O → Prop), cT σ n tx → ai_wp sc 78 7 [some (.inr (.inr 34)), some (.inl ty)] [.inl z, .inr (.inr 34)] (0, 0) (92, [], RD σ (p + z) 0 y) Q → ai_wp sc 78 0 [some (.inr (.inr 34)), some (.inl ty)] [] (0, 0) (92, [], RD σ p x y) Q := by
    intro σ x y Q hσ hh
    refine rb_78_0 ?_
    rw [rd3]
    exact fn_ret (hcl σ 0 y hσ) hh
  rcases ha with rfl | rfl
  · rw [Int.add_zero] at hcl hrf beg hal
    have b7 : ∀ (σ : ai_S) (y : Int) (Q : ai_O → Prop), ((ty = 0 → ai_ret (ai_wp sc) 79 [some (.inr (.inr 34)), none] (92, [], RD σ p 0 0) (fun v h' => ai_ck (ai_zz 92 h'.1 0) (ai_wp sc 78 17 [some (.inr (.inr 34)), some (.inl ty)] (v.toList ++ []) (0, 0) h' Q))) ∧ (ty = 1 → ai_ret (ai_wp sc) 80 [some (.inr (.inr 34)), none, none, none] (92, [], RD σ p 0 0) (fun v h' => ai_ck (ai_zz 92 h'.1 0) (ai_wp sc 78 23 [some (.inr (.inr 34)), some (.inl ty)] (v.toList ++ []) (0, 0) h' Q))) ∧ (ty = 2 → ai_ret (ai_wp sc) 86 [some (.inr (.inr 34)), some (.inl 39)] (92, [], RD σ p 0 0) (fun v h' => ai_ck (ai_zz 92 h'.1 0) (ai_wp sc 78 30 [some (.inr (.inr 34)), some (.inl ty)] (v.toList ++ []) (0, 0) h' Q))) ∧ (ty = 3 → ai_ret (ai_wp sc) 84 [some (.inr (.inr 34))] (92, [], RD σ p 0 0) (fun v h' => ai_ck (ai_zz 92 h'.1 0) (ai_wp sc 78 39 [some (.inr (.inr 34)), some (.inl ty)] (v.toList ++ []) (0, 0) h' Q)))) → ai_wp sc 78 7 [some (.inr (.inr 34)), some (.inl ty)] [.inl 0, .inr (.inr 34)] (0, 0) (92, [], RD σ p 0 y) Q := by
      intro σ y Q hh
      refine rb_78_7 ⟨⟨by decide, by decide⟩, ⟨by decide, by decide⟩, fun _ => ?_, fun g => absurd rfl g⟩
      rw [rd4]
      exact ⟨htr, fun g0 => ⟨⟨htr, ⟨by decide, by decide⟩⟩, fun g1 => ⟨⟨htr, ⟨by decide, by decide⟩⟩, fun g2 => hh.2.2.2 (by omega), fun g2 => hh.2.2.1 (Decidable.not_not.mp g2)⟩, fun g1 => hh.2.1 (Decidable.not_not.mp g1)⟩, fun g0 => hh.1 (Decidable.not_not.mp g0)⟩
    have hcase : ty = 0 ∨ ty = 1 ∨ ty = 2 ∨ ty = 3 := by omega
    rcases hcase with rfl | rfl | rfl | rfl
    · obtain ⟨ok, p', v, h1, h2, h3, h4, h5⟩ := rd_int (sc := sc) hT hp
      refine ⟨ok, ok, p', v, 0, ⟨h1, Or.inl rfl⟩, h2, fun e => ⟨Or.inl rfl, fun g => absurd g (by decide), ⟨fun _ => h3 e, fun g => absurd g (by decide), fun g => absurd g (by decide), fun g => absurd g (by decide)⟩⟩, fun σ x y hσ => ?_, fun σ F G k hσ hk => ?_⟩
      · obtain ⟨x', e1, e2⟩ := h4 σ 0 hσ
        exact ⟨x', 0, fun Q hQ => beg σ x y Q hσ (b7 σ y Q ⟨fun _ => fn_ret e1 (rb_78_17 ⟨⟨by omega, by omega⟩, hQ⟩), fun g => absurd g (by decide), fun g => absurd g (by decide), fun g => absurd g (by decide)⟩), fun e => ⟨e2 e, rfl⟩⟩
      · obtain ⟨F', G', e1, e2⟩ := h5 σ F G k hσ hk
        exact ⟨F', G', fun Q hQ => rb_144_0 (fn_ret (hrf σ F G hσ) (rb_144_3 ⟨⟨by decide, by decide⟩, fun _ => ⟨⟨⟨by decide, by decide⟩, ⟨by decide, by decide⟩⟩, fun g => absurd g (by decide), fun _ => ⟨⟨⟨by decide, by decide⟩, ⟨by decide, by decide⟩⟩, fun _ => fn_ret e1 (rb_144_23 ⟨⟨by omega, by omega⟩, hQ⟩), fun g => absurd (show ¬ (0 : Int) = 1 by decide) g⟩⟩, fun g => absurd rfl g⟩)), e2⟩
    · obtain ⟨ok, p', v, h1, h2, h3, h4, h5⟩ := rd_dec (sc := sc) hT hp
      refine ⟨ok, ok, p', v, 0, ⟨h1, Or.inl rfl⟩, h2, fun e => ⟨Or.inl rfl, fun g => absurd g (by decide), ⟨fun g => absurd g (by decide), fun _ => h3 e, fun g => absurd g (by decide), fun g => absurd g (by decide)⟩⟩, fun σ x y hσ => ?_, fun σ F G k hσ hk => ?_⟩
      · obtain ⟨x', e1, e2⟩ := h4 σ 0 hσ
        exact ⟨x', 0, fun Q hQ => beg σ x y Q hσ (b7 σ y Q ⟨fun g => absurd g (by decide), fun _ => fn_ret e1 (rb_78_23 ⟨⟨by omega, by omega⟩, hQ⟩), fun g => absurd g (by decide), fun g => absurd g (by decide)⟩), fun e => ⟨e2 e, rfl⟩⟩
      · obtain ⟨F', G', e1, e2⟩ := h5 σ F G k hσ hk
        exact ⟨F', G', fun Q hQ => rb_144_0 (fn_ret (hrf σ F G hσ) (rb_144_3 ⟨⟨by decide, by decide⟩, fun _ => ⟨⟨⟨by decide, by decide⟩, ⟨by decide, by decide⟩⟩, fun g => absurd g (by decide), fun _ => ⟨⟨⟨by decide, by decide⟩, ⟨by decide, by decide⟩⟩, fun g => absurd rfl g, fun _ => fn_ret e1 (rb_144_23 ⟨⟨by omega, by omega⟩, hQ⟩)⟩⟩, fun g => absurd rfl g⟩)), e2⟩
    · -- texts
      have hc39 : ∀ σ, cT σ n tx → fn sc 86 [some (.inr (.inr 34)), some (.inl 39)] (RD σ p 0 0) (some (.inl (ac n tx p 39))) (RD σ (p + ac n tx p 39) 0 0) := fun σ hσ => cf_accept hT hσ hp (by decide)
      have hpk : ∀ σ F G, rT σ n tx → fn sc 135 [some (.inr (.inr 59))] (RP σ p F G) (some (.inl (if n ≤ p then 0 else tx p))) (RP σ p F G) := fun σ F G hσ => rf_peek hT hσ hp
      have htp := hT.2 p
      have hr : ai_r (if n ≤ p then 0 else tx p) := by
        split
        · exact ⟨by decide, by decide⟩
        · exact ⟨by omega, by omega⟩
      by_cases g : p < n ∧ tx p = 39
      · have e39 : ac n tx p 39 = 1 := if_pos g
        rw [e39] at hc39
        rw [if_neg (by omega), g.2] at hr
        rw [if_neg (by omega), g.2] at hpk
        obtain ⟨q1, q2, q3⟩ := qt_ok (n := n) (tx := tx) 8 0 (p + 1) 0 (Int.le_refl 0) (by decide) (by omega) okT_0
        refine ⟨(qt n tx 8 0 (p + 1) 0).1, (qt n tx 8 0 (p + 1) 0).2.1, (qt n tx 8 0 (p + 1) 0).2.2.1, (qt n tx 8 0 (p + 1) 0).2.2.2, 0, q1, ⟨by omega, q2.2⟩, fun e => ⟨Or.inl rfl, fun g => absurd g (by decide), ⟨fun g => absurd g (by decide), fun g => absurd g (by decide), fun _ => q3, fun g => absurd g (by decide)⟩⟩, fun σ x y hσ => ?_, fun σ F G k hσ hk => ?_⟩
        · have hq := cf_quoted (sc := sc) (y := 0) hT hσ (p := p + 1) ⟨by omega, by omega⟩
          have hb := q1.1
          exact ⟨_, 0, fun Q hQ => beg σ x y Q hσ (b7 σ y Q ⟨fun g => absurd g (by decide), fun g => absurd g (by decide), fun _ => fn_ret (hc39 σ hσ) (rb_78_30 ⟨⟨by decide, by decide⟩, fun g => absurd g (by decide), fun _ => fn_ret hq (rb_78_33 (rb_78_36 ⟨⟨by omega, by omega⟩, hQ⟩))⟩), fun g => absurd g (by decide)⟩), fun _ => ⟨rfl, rfl⟩⟩
        · obtain ⟨F', G', e1, e2⟩ := rf_quoted (sc := sc) (F := F) (G := G) hT hσ ⟨hp.1, g.1⟩ hk
          have hb : (qt n tx 8 0 (p + 1) 0).2.1 = 0 ∨ (qt n tx 8 0 (p + 1) 0).2.1 = 1 := by
            have := q1.1
            rcases q1.2 with z | z <;> omega
          exact ⟨F', G', fun Q hQ => rb_144_0 (fn_ret (hrf σ F G hσ) (rb_144_3 ⟨⟨by decide, by decide⟩, fun _ => ⟨⟨⟨by decide, by decide⟩, ⟨by decide, by decide⟩⟩, fun _ => ⟨⟨⟨by decide, by decide⟩, ⟨by decide, by decide⟩⟩, fun g => absurd rfl g, fun _ => fn_ret (hpk σ F G hσ) (rb_144_29 ⟨⟨⟨by decide, by decide⟩, ⟨by decide, by decide⟩⟩, fun g => absurd rfl g, fun _ => fn_ret e1 (rb_144_34 (rb_144_38 ⟨⟨by omega, by omega⟩, hQ⟩))⟩)⟩, fun g => absurd (by decide) g⟩, fun g => absurd rfl g⟩)), e2⟩
      · have e39 : ac n tx p 39 = 0 := if_neg g
        rw [e39, Int.add_zero] at hc39
        have hne : ¬ (if n ≤ p then 0 else tx p) = 39 := by
          split
          · decide
          · rename_i gn
            exact fun e => g ⟨by omega, e⟩
        obtain ⟨ok, p', v, h1, h2, h3, h4, h5⟩ := rd_let (sc := sc) hT hp
        refine ⟨ok, ok, p', v, 0, ⟨h1, Or.inl rfl⟩, h2, fun e => ⟨Or.inl rfl, fun g => absurd g (by decide), ⟨fun g => absurd g (by decide), fun g => absurd g (by decide), fun _ => h3 e, fun g => absurd g (by decide)⟩⟩, fun σ x y hσ => ?_, fun σ F G k hσ hk => ?_⟩
        · obtain ⟨x', e1, e2⟩ := h4 σ 0 hσ
          exact ⟨x', 0, fun Q hQ => beg σ x y Q hσ (b7 σ y Q ⟨fun g => absurd g (by decide), fun g => absurd g (by decide), fun _ => fn_ret (hc39 σ hσ) (rb_78_30 ⟨⟨by decide, by decide⟩, fun _ => fn_ret e1 (rb_78_36 ⟨⟨by omega, by omega⟩, hQ⟩), fun g => absurd rfl g⟩), fun g => absurd g (by decide)⟩), fun e => ⟨e2 e, rfl⟩⟩
        · obtain ⟨F', G', e1, e2⟩ := h5 σ F G k hσ hk
          exact ⟨F', G', fun Q hQ => rb_144_0 (fn_ret (hrf σ F G hσ) (rb_144_3 ⟨⟨by decide, by decide⟩, fun _ => ⟨⟨⟨by decide, by decide⟩, ⟨by decide, by decide⟩⟩, fun _ => ⟨⟨⟨by decide, by decide⟩, ⟨by decide, by decide⟩⟩, fun g => absurd rfl g, fun _ => fn_ret (hpk σ F G hσ) (rb_144_29 ⟨⟨hr, ⟨by decide, by decide⟩⟩, fun _ => fn_ret e1 (rb_144_38 ⟨⟨by omega, by omega⟩, hQ⟩), fun g => absurd hne g⟩)⟩, fun g => absurd (by decide) g⟩, fun g => absurd rfl g⟩)), e2⟩
    · -- booleans
      have htp := hT.2 p
      have hchr : ∀ σ, cT σ n tx → fn sc 88 [some (.inr (.inr 34)), some (.inl p)] (RD σ p 0 0) (some (.inl (if n ≤ p then -1 else tx p))) (RD σ p 0 0) := fun σ hσ => cf_char hT hσ ⟨hp.1, by omega⟩
      have hpk : ∀ σ F G, rT σ n tx → fn sc 135 [some (.inr (.inr 59))] (RP σ p F G) (some (.inl (if n ≤ p then 0 else tx p))) (RP σ p F G) := fun σ F G hσ => rf_peek hT hσ hp
      have hr : ai_r (if n ≤ p then 0 else tx p) := by
        split
        · exact ⟨by decide, by decide⟩
        · exact ⟨by omega, by omega⟩
      have hr1 : ai_r (if n ≤ p then -1 else tx p) := by
        split
        · exact ⟨by decide, by decide⟩
        · exact ⟨by omega, by omega⟩
      have hct : ∀ σ x, cT σ n tx → fn sc 86 [some (.inr (.inr 34)), some (.inl 116)] (RD σ p x 0) (some (.inl (ac n tx p 116))) (RD σ (p + ac n tx p 116) x 0) := fun σ x hσ => cf_accept hT hσ hp (by decide)
      have hrt : ∀ σ F G, rT σ n tx → fn sc 136 [some (.inr (.inr 59)), some (.inl 116)] (RP σ p F G) (some (.inl (ac n tx p 116))) (RP σ (p + ac n tx p 116) F G) := fun σ F G hσ => rf_skips hT hσ hp (by decide)
      have hcf : ∀ σ x, cT σ n tx → fn sc 86 [some (.inr (.inr 34)), some (.inl 102)] (RD σ p x 0) (some (.inl (ac n tx p 102))) (RD σ (p + ac n tx p 102) x 0) := fun σ x hσ => cf_accept hT hσ hp (by decide)
      have hrff : ∀ σ F G, rT σ n tx → fn sc 136 [some (.inr (.inr 59)), some (.inl 102)] (RP σ p F G) (some (.inl (ac n tx p 102))) (RP σ (p + ac n tx p 102) F G) := fun σ F G hσ => rf_skips hT hσ hp (by decide)
      have halt := ac_le (tx := tx) (c := 116) hp.2
      have half := ac_le (tx := tx) (c := 102) hp.2
      by_cases g : p < n ∧ tx p = 116
      · have e : ac n tx p 116 = 1 := if_pos g
        rw [e] at hct hrt halt
        rw [if_neg (by omega), g.2] at hr hr1
        rw [if_neg (by omega), g.2] at hpk hchr
        refine ⟨1, 1, p + 1, 1, 0, ⟨Or.inr rfl, Or.inl rfl⟩, halt, fun _ => ⟨Or.inl rfl, fun g => absurd g (by decide), ⟨fun g => absurd g (by decide), fun g => absurd g (by decide), fun g => absurd g (by decide), fun _ => Or.inr rfl⟩⟩, fun σ x y hσ => ⟨1, 0, fun Q hQ => beg σ x y Q hσ (b7 σ y Q ⟨fun g => absurd g (by decide), fun g => absurd g (by decide), fun g => absurd g (by decide), fun _ => ai_ret_q (rb_84_0 (fn_ret (hchr σ hσ) (rb_84_5 ⟨⟨⟨by decide, by decide⟩, ⟨by decide, by decide⟩⟩, fun g => absurd rfl g, fun _ => ?_⟩)))⟩), fun _ => ⟨rfl, rfl⟩⟩, fun σ F G k hσ hk => ⟨_, _, fun Q hQ => rb_144_0 (fn_ret (hrf σ F G hσ) (rb_144_3 ⟨⟨by decide, by decide⟩, fun _ => ⟨⟨⟨by decide, by decide⟩, ⟨by decide, by decide⟩⟩, fun _ => ⟨⟨⟨by decide, by decide⟩, ⟨by decide, by decide⟩⟩, fun _ => fn_ret (hpk σ F G hσ) (rb_144_41 ⟨⟨⟨by decide, by decide⟩, ⟨by decide, by decide⟩⟩, fun g => absurd rfl g, fun _ => fn_ret (hrt σ F G hσ) (rb_144_50 ⟨⟨by decide, by decide⟩, fun _ => ⟨⟨by decide, by decide⟩, fun g => absurd g (by decide), fun _ => fn_ret (rf_put hk (by decide)) (rb_144_66 ⟨⟨by decide, by decide⟩, hQ⟩)⟩, fun g => absurd (show ¬ (1 : Int) = 0 by decide) g⟩)⟩), fun g => absurd (show ¬ (3 : Int) = 2 by decide) g⟩, fun g => absurd (by decide) g⟩, fun g => absurd rfl g⟩)), fun _ => ⟨rfl, rfl⟩, gb0⟩⟩
        rw [rd3]
        exact fn_ret (hct σ 1 hσ) (rb_84_14 ⟨⟨by decide, by decide⟩, fun _ => ⟨⟨by decide, by decide⟩, ai_k_in (rb_78_39 ⟨⟨by decide, by decide⟩, hQ⟩)⟩, fun g => absurd (show ¬ (1 : Int) = 0 by decide) g⟩)
      · have e : ac n tx p 116 = 0 := if_neg g
        rw [e, Int.add_zero] at hct hrt
        have hne : ¬ (if n ≤ p then 0 else tx p) = 116 := by
          split
          · decide
          · rename_i gn
            exact fun e => g ⟨by omega, e⟩
        have hne1 : ¬ (if n ≤ p then -1 else tx p) = 116 := by
          split
          · decide
          · rename_i gn
            exact fun e => g ⟨by omega, e⟩
        have hf01 := ac_01 n tx p 102
        generalize ac n tx p 102 = f at hf01 hcf hrff half
        have cl : ∀ (σ : ai_S) (x y : Int) (Q : ai_O → Prop), cT σ n tx → Q (.inl (some (.inl f)), (92, [], RD σ (p + f) 0 0)) → ai_wp sc 78 0 [some (.inr (.inr 34)), some (.inl 3)] [] (0, 0) (92, [], RD σ p x y) Q := by
          intro σ x y Q hσ hQ
          refine beg σ x y Q hσ (b7 σ y Q ⟨fun g => absurd g (by decide), fun g => absurd g (by decide), fun g => absurd g (by decide), fun _ => ai_ret_q (rb_84_0 (fn_ret (hchr σ hσ) (rb_84_5 ⟨⟨hr1, ⟨by decide, by decide⟩⟩, fun _ => ?_, fun g => absurd hne1 g⟩)))⟩)
          rw [rd3]
          refine fn_ret (hct σ 0 hσ) (rb_84_14 ⟨⟨by decide, by decide⟩, fun g => absurd rfl g, fun _ => fn_ret (hcf σ 0 hσ) (rb_84_18 ⟨⟨by omega, by omega⟩, fun g => ⟨⟨by decide, by decide⟩, ?_⟩, fun g => ⟨⟨by decide, by decide⟩, ?_⟩⟩)⟩)
          · rw [g] at hQ ⊢
            exact ai_k_in (rb_78_39 ⟨⟨by decide, by decide⟩, hQ⟩)
          · have e1 : f = 1 := by omega
            rw [e1] at hQ ⊢
            exact ai_k_in (rb_78_39 ⟨⟨by decide, by decide⟩, hQ⟩)
        rcases hf01 with rfl | rfl
        · refine ⟨0, 0, p + 0, 0, 0, ⟨Or.inl rfl, Or.inl rfl⟩, half, fun g => absurd g (by decide), fun σ x y hσ => ⟨0, 0, fun Q hQ => cl σ x y Q hσ hQ, fun g => absurd g (by decide)⟩, fun σ F G k hσ hk => ⟨F, G, fun Q hQ => rb_144_0 (fn_ret (hrf σ F G hσ) (rb_144_3 ⟨⟨by decide, by decide⟩, fun _ => ⟨⟨⟨by decide, by decide⟩, ⟨by decide, by decide⟩⟩, fun _ => ⟨⟨⟨by decide, by decide⟩, ⟨by decide, by decide⟩⟩, fun _ => fn_ret (hpk σ F G hσ) (rb_144_41 ⟨⟨hr, ⟨by decide, by decide⟩⟩, fun _ => fn_ret (hrt σ F G hσ) (rb_144_50 ⟨⟨by decide, by decide⟩, fun g => absurd rfl g, fun _ => fn_ret (hrff σ F G hσ) (rb_144_54 ⟨⟨by decide, by decide⟩, fun g => absurd rfl g, fun _ => ⟨⟨by decide, by decide⟩, hQ⟩⟩)⟩), fun g => absurd hne g⟩), fun g => absurd (show ¬ (3 : Int) = 2 by decide) g⟩, fun g => absurd (by decide) g⟩, fun g => absurd rfl g⟩)), fun g => absurd g (by decide), gb_id⟩⟩
        · refine ⟨1, 1, p + 1, 0, 0, ⟨Or.inr rfl, Or.inl rfl⟩, half, fun _ => ⟨Or.inl rfl, fun g => absurd g (by decide), ⟨fun g => absurd g (by decide), fun g => absurd g (by decide), fun g => absurd g (by decide), fun _ => Or.inl rfl⟩⟩, fun σ x y hσ => ⟨0, 0, fun Q hQ => cl σ x y Q hσ hQ, fun _ => ⟨rfl, rfl⟩⟩, fun σ F G k hσ hk => ⟨_, _, fun Q hQ => rb_144_0 (fn_ret (hrf σ F G hσ) (rb_144_3 ⟨⟨by decide, by decide⟩, fun _ => ⟨⟨⟨by decide, by decide⟩, ⟨by decide, by decide⟩⟩, fun _ => ⟨⟨⟨by decide, by decide⟩, ⟨by decide, by decide⟩⟩, fun _ => fn_ret (hpk σ F G hσ) (rb_144_41 ⟨⟨hr, ⟨by decide, by decide⟩⟩, fun _ => fn_ret (hrt σ F G hσ) (rb_144_50 ⟨⟨by decide, by decide⟩, fun g => absurd rfl g, fun _ => fn_ret (hrff σ F G hσ) (rb_144_54 ⟨⟨by decide, by decide⟩, fun _ => ⟨⟨by decide, by decide⟩, fun _ => fn_ret (rf_put hk (by decide)) (rb_144_66 ⟨⟨by decide, by decide⟩, hQ⟩), fun g => absurd rfl g⟩, fun g => absurd (show ¬ (1 : Int) = 0 by decide) g⟩)⟩), fun g => absurd hne g⟩), fun g => absurd (show ¬ (3 : Int) = 2 by decide) g⟩, fun g => absurd (by decide) g⟩, fun g => absurd rfl g⟩)), fun _ => ⟨rfl, rfl⟩, gb0⟩⟩
  · -- null
    refine ⟨1, 1, p + 1, 0, 1, ⟨Or.inr rfl, Or.inl rfl⟩, hal, fun _ => ⟨Or.inr rfl, fun _ => rfl, okc0⟩, fun σ x y hσ => ⟨0, 1, fun Q hQ => beg σ x y Q hσ (rb_78_7 ⟨⟨by decide, by decide⟩, ⟨by decide, by decide⟩, fun g => absurd g (by decide), fun _ => ⟨⟨by decide, by decide⟩, ?_⟩⟩), fun _ => ⟨rfl, rfl⟩⟩, fun σ F G k hσ hk => ⟨_, _, fun Q hQ => rb_144_0 (fn_ret (hrf σ F G hσ) (rb_144_3 ⟨⟨by decide, by decide⟩, fun g => absurd g (by decide), fun _ => fn_ret (rf_put hk (by decide)) (rb_144_9 ⟨⟨by decide, by decide⟩, hQ⟩)⟩)), fun _ => ⟨rfl, rfl⟩, gb1⟩⟩
    rw [rd4]
    exact hQ
