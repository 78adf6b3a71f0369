/-! APPLY: tables are emptied, class and reference in step. -/
theorem ks_cnt {σ : ai_S} {cn ce nu : Int → Int} {t v : Int} : ai_set (KS σ cn ce nu) 9 t v = KS σ (fun k => if k = t then v else cn k) ce nu := by
  unfold KS
  rw [up_c (p := 11) (q := 9) (by decide), up_c (p := 10) (q := 9) (by decide), up_s]
def HSp (S : Int) (ta : Int → Int) (t : Int) : Prop := ∃ s, 0 ≤ s ∧ s < S ∧ ta s = t
theorem rf_hasSec {sc : Int × (Int → Int)} {σ : ai_S} {t b : Int} (hS : 0 ≤ σ 59 20 ∧ σ 59 20 ≤ 6) (ht : ai_r t) (hta : ∀ s, 0 ≤ s → s < σ 59 20 → ai_r (σ 72 s)) (hb : (b = 1 ∧ HSp (σ 59 20) (σ 72) t) ∨ (b = 0 ∧ ¬ HSp (σ 59 20) (σ 72) t)) : fn sc 169 [some (.inr (.inr 59)), some (.inl t), none, none] σ (some (.inl b)) σ := by
  intro Q hQ
  have h : ∀ (n : Nat) (s v : Int), 0 ≤ s → s + (n : Int) = σ 59 20 → ((v = 1 ∧ ∃ j, 0 ≤ j ∧ j < s ∧ σ 72 j = t) ∨ (v = 0 ∧ ∀ j, 0 ≤ j → j < s → ¬ σ 72 j = t)) → ai_wp sc 169 4 [some (.inr (.inr 59)), some (.inl t), some (.inl v), some (.inl s)] [] (0, 0) (92, [], σ) Q := by
    intro n
    induction n with
    | zero =>
      intro s v s0 sn hv
      have e : b = v := by
        rcases hv with ⟨v1, j, j1, j2, j3⟩ | ⟨v1, v2⟩
        · rcases hb with ⟨z, _⟩ | ⟨_, z⟩
          · omega
          · exact absurd ⟨j, j1, by omega, j3⟩ z
        · rcases hb with ⟨_, j, j1, j2, j3⟩ | ⟨z, _⟩
          · exact absurd j3 (v2 j j1 (by omega))
          · omega
      rw [e] at hQ
      exact rb_169_4 ⟨⟨⟨by omega, by omega⟩, ⟨by omega, by omega⟩⟩, fun _ => ⟨by omega, hQ⟩, fun g => absurd (show σ 59 20 ≤ s by omega) g⟩
    | succ n ih =>
      intro s v s0 sn hv
      refine rb_169_4 ⟨⟨⟨by omega, by omega⟩, ⟨by omega, by omega⟩⟩, fun g => absurd g (by omega), fun _ => ⟨⟨by omega, by omega⟩, fun z => ih (s + 1) 1 (by omega) (by omega) (Or.inl ⟨rfl, ?_⟩), fun z => ⟨⟨s0, by omega⟩, ⟨hta s s0 (by omega), ht⟩, fun y => ih (s + 1) 0 (by omega) (by omega) (Or.inr ⟨rfl, fun j j1 j2 => ?_⟩), fun y => ih (s + 1) 1 (by omega) (by omega) (Or.inl ⟨rfl, s, s0, by omega, Decidable.not_not.mp y⟩)⟩⟩⟩
      · rcases hv with ⟨_, j, j1, j2, j3⟩ | ⟨v1, _⟩
        · exact ⟨j, j1, by omega, j3⟩
        · exact absurd v1 z
      · by_cases e : j = s
        · rw [e]
          exact y
        · rcases hv with ⟨v1, _⟩ | ⟨_, v2⟩
          · exact absurd (show v = 0 from Decidable.not_not.mp z) (by omega)
          · exact v2 j j1 (by omega)
  exact rb_169_0 (h (σ 59 20).toNat 0 0 (by decide) (by omega) (Or.inr ⟨rfl, fun j j1 j2 => absurd j2 (by omega)⟩))
/-- one table -/
theorem clr_one {sc : Int × (Int → Int)} {τ : ai_S} (hS : RSch (τ 2 0) (τ 59 1) (τ 4) (τ 60) (τ 5) (τ 61) (τ 7) (τ 62) (τ 6) (τ 63) (τ 3) (τ 84)) (hO : τ 59 13 = τ 12 0) (hO3 : 0 ≤ τ 12 0 ∧ τ 12 0 ≤ 3) {t : Int} (ht : 0 ≤ t ∧ t < 5) {cn ce nu y : Int → Int} {md ch : Int} (hG : GS (τ 2 0) (τ 4) (τ 5) (τ 6) cn ce nu) (hy : ∀ j, ai_r (y j)) (hch : 0 < τ 12 0 → 0 ≤ ch ∧ ch ≤ 200) :
    ∃ b cn' ce' nu' y' md' ch', okO τ 12 b cn' ce' nu' y' md md' ch' ∧ SmC sc τ 36 [some (.inr (.inr 1)), some (.inl t), none] cn ce nu y md ch b cn' ce' nu' y' md' ch' ∧
      (∀ σ, RT τ cn ce nu y md ch σ → ∃ σ', RT τ cn' ce' nu' y' md' ch' σ' ∧ kpR σ σ' ∧ ∀ (Q : ai_O → Prop) (k : Int), (b = 0 → Q (.inl (some (.inl 0)), (92, [], σ'))) → (b = 1 → ai_wp sc 171 5 [some (.inr (.inr 59)), some (.inl (k + (-1))), some (.inl t)] [] (0, 0) (92, [], σ') Q) → ai_wp sc 171 15 [some (.inr (.inr 59)), some (.inl k), some (.inl t)] [.inl 1] (0, 0) (92, [], σ) Q) := by
  obtain ⟨s1, s2, s3, s4, s5, s6, s7, s8, s9, s10, s11, s12⟩ := hS
  obtain ⟨k1, k2, k3, k4, k5, k6, k7, k8⟩ := id hG
  have h8 : ∀ j, ai_r8 (ce j) := fun j => rg8 (k4 j)
  have rt : ai_r t := ⟨by omega, by omega⟩
  have h12 := k1 t
  have okF : ∀ a, ai_r a → okO τ 12 0 cn ce nu (wy y a t (-1) (-1)) md md ch := fun a ha => ⟨Or.inl rfl, hG, wy_r hy ha rt rm1 rm1, hch, Int.le_refl md, by omega⟩
  have cC : ∀ σ, CT τ cn ce nu y md ch σ → ∀ Q : ai_O → Prop, (ORp (τ 2 0) (τ 4) (τ 6) cn ce nu t → Q (.inl (some (.inl 0)), (92, [], up σ 27 (wy (σ 27) 4 t (-1) (-1))))) → (¬ ORp (τ 2 0) (τ 4) (τ 6) cn ce nu t → 0 < τ 12 0 → 200 < ch + cn t → Q (.inl (some (.inl 0)), (92, [], up σ 27 (wy (σ 27) 7 t (-1) (-1))))) → (¬ ORp (τ 2 0) (τ 4) (τ 6) cn ce nu t → (0 < τ 12 0 → ch + cn t ≤ 200) → ∃ σ2, fn sc 46 [some (.inr (.inr 1)), some (.inl (cn t))] (ai_set σ 9 t 0) none σ2 ∧ Q (.inl (some (.inl 1)), (92, [], σ2))) → ai_wp sc 36 0 [some (.inr (.inr 1)), some (.inl t), none] [] (0, 0) (92, [], σ) Q := by
    intro σ h Q q4 q7 qy
    have c2 := h.1.1 2 (by omega)
    have c4 := h.1.1 4 (by omega)
    have c6 := h.1.1 6 (by omega)
    obtain ⟨c9, c10, c11, c27⟩ := h.2.1
    have c12 := h.1.2
    have cch := h.2.2.2.1
    refine rb_36_0 (ai_ret_q (pc_105 ht (ai_k_in (rb_36_4 (ai_ret_q (cf_others ht (by rw [c2]; exact s2) (by rw [c4]; exact s8) (by rw [c6]; exact s11) (by rw [c9]; exact k1) (by rw [c10]; exact h8) (fun b hb hbi => ai_k_in ?_)))))))
    rw [c2, c4, c6, c9, c10, c11] at hbi
    rw [c9]
    refine rb_36_8 ⟨⟨by omega, by omega⟩, fun z => ?_, fun z => fn_ret cf_fail (rb_36_15 ⟨z01, q4 (hbi.mp (by omega))⟩)⟩
    have hno : ¬ ORp (τ 2 0) (τ 4) (τ 6) cn ce nu t := fun q => by
      have := hbi.mpr q
      omega
    refine ai_ret_q (pc_67 ⟨(by rw [c12]; exact ⟨by omega, by omega⟩), fun q => ?_⟩ (ai_k_in (rb_36_20 ⟨bi_r _, fun g => ?_, fun g => ?_⟩)))
    · rw [c12] at q
      have := hch (by omega)
      rw [cch (by omega)]
      exact ⟨by omega, by omega⟩
    · have g2 := bi_yes g
      obtain ⟨σ2, f1, f2⟩ := qy hno (fun q => by
        rw [c12, cch q] at g2
        omega)
      exact ai_ret_q (rb_113_0 ⟨ht, ai_k_in (rb_36_32 (fn_ret f1 (rb_36_35 ⟨z11, f2⟩)))⟩)
    · have g2 := bi_no2 g
      have o1 : 0 < τ 12 0 := by
        have : ¬ σ 12 0 = 0 := fun q => g2 (Or.inl q)
        rw [c12] at this
        omega
      have o2 : 200 < ch + cn t := by
        have : ¬ ¬ 200 < σ 12 1 + cn t := fun q => g2 (Or.inr q)
        rw [cch o1] at this
        omega
      exact fn_ret cf_fail (rb_36_27 ⟨z01, q7 hno o1 o2⟩)
  have rC : ∀ σ, RT τ cn ce nu y md ch σ → ∀ (Q : ai_O → Prop) (k : Int), (ORp (τ 2 0) (τ 4) (τ 6) cn ce nu t → Q (.inl (some (.inl 0)), (92, [], up σ 85 (wy (σ 85) 4 t (-1) (-1))))) → (¬ ORp (τ 2 0) (τ 4) (τ 6) cn ce nu t → 0 < τ 12 0 → 200 < ch + cn t → Q (.inl (some (.inl 0)), (92, [], up σ 85 (wy (σ 85) 7 t (-1) (-1))))) → (¬ ORp (τ 2 0) (τ 4) (τ 6) cn ce nu t → (0 < τ 12 0 → ch + cn t ≤ 200) → ai_wp sc 171 5 [some (.inr (.inr 59)), some (.inl (k + (-1))), some (.inl t)] [] (0, 0) (92, [], ai_set (ai_set (ai_set σ 59 14 (σ 59 14 + cn t)) 59 37 (σ 59 37 + cn t)) 64 t 0) Q) → ai_wp sc 171 15 [some (.inr (.inr 59)), some (.inl k), some (.inl t)] [.inl 1] (0, 0) (92, [], σ) Q := by
    intro σ h Q k q4 q7 qy
    have c9 := h.2.1.1
    have c1 : σ 59 1 = τ 2 0 := h.1.2.1.trans s1
    have c13 : σ 59 13 = τ 12 0 := h.1.2.2.1.trans hO
    have c60 := (h.1.1 60 (by omega)).trans s3
    have c63 := (h.1.1 63 (by omega)).trans s6
    have cch := h.2.2.2.2
    have hOR := or_same h.2.1 hG s8 s2.2 ht.1
    rw [c9] at hOR
    have tail : ¬ ORp (τ 2 0) (τ 4) (τ 6) cn ce nu t → ai_ret (ai_wp sc) 160 [some (.inr (.inr 59)), some (.inl (σ 64 t))] (92, [], σ) (fun v h' => ai_ck (ai_zz 92 h'.1 0) (ai_wp sc 171 39 [some (.inr (.inr 59)), some (.inl k), some (.inl t)] (v.toList ++ []) (0, 0) h' Q)) := by
      intro hno
      rw [c9]
      by_cases g : 0 < σ 59 13 ∧ 200 < σ 59 14 + cn t
      · have o1 := g.1
        rw [c13] at o1
        have := hch o1
        have e14 := cch o1
        exact fn_ret (rf_log_0 ⟨g.1, by omega⟩ ⟨⟨by omega, by omega⟩, g.2⟩) (rb_171_39 ⟨rr0, fun q => absurd rfl q, fun _ => fn_ret rf_because (rb_171_46 ⟨z01, q7 hno o1 (by omega)⟩)⟩)
      · refine fn_ret (rf_log_1 (by omega) (fun q => ?_)) (rb_171_39 ⟨rr1, fun _ => ⟨ht, qy hno (fun q => ?_)⟩, fun q => absurd (show ¬ (1 : Int) = 0 by decide) q⟩)
        · have o1 := q
          rw [c13] at o1
          have := hch o1
          have e14 := cch o1
          exact ⟨⟨by omega, by omega⟩, by omega⟩
        · have e14 := cch q
          omega
    refine rb_171_15 ⟨rr1, fun _ => ⟨ht, (by rw [c9]; exact ⟨by omega, by omega⟩), fun z => ⟨ht, tail ?_⟩, fun z => ai_ret_q (rf_hasChild ht (by rw [c1]; exact s2) (by rw [c60]; exact s8) (by rw [c63]; exact s11) (by rw [c9]; exact k1) (fun j j1 j2 => by have := no01 h.2.1 j j1 j2; exact ⟨by omega, by omega⟩) (fun b hb hbi => ai_k_in (rb_171_25 ⟨⟨by omega, by omega⟩, fun e => ⟨ht, tail ?_⟩, fun e => fn_ret rf_because (rb_171_32 ⟨z01, q4 ?_⟩)⟩)))⟩, fun q => absurd (show ¬ (1 : Int) = 0 by decide) q⟩
    · rw [c9] at z
      intro q
      have := (hOR.mp q).1
      omega
    · rw [c1, c60, c63, c9] at hbi
      intro q
      have := hbi.mpr (hOR.mp q).2
      omega
    · rw [c1, c60, c63, c9] at hbi
      rw [c9] at z
      exact hOR.mpr ⟨by omega, hbi.mp (by omega)⟩
  by_cases hA : ORp (τ 2 0) (τ 4) (τ 6) cn ce nu t
  · refine ⟨0, cn, ce, nu, wy y 4 t (-1) (-1), md, ch, okF 4 ⟨by decide, by decide⟩, fun σ h => ?_, fun σ h => ?_⟩
    · obtain ⟨q1, q2⟩ := ct_fail (a := 4) (b := t) (c := -1) (d := -1) h
      exact ⟨_, fun Q hQ => cC σ h Q (fun _ => hQ) (fun q => absurd hA q) (fun q => absurd hA q), q1, q2⟩
    · obtain ⟨q1, q2⟩ := rt_fail (a := 4) (b := t) (c := -1) (d := -1) h
      exact ⟨_, q1, q2, fun Q k h0 _ => rC σ h Q k (fun _ => h0 rfl) (fun q => absurd hA q) (fun q => absurd hA q)⟩
  · by_cases hL : 0 < τ 12 0 ∧ 200 < ch + cn t
    · refine ⟨0, cn, ce, nu, wy y 7 t (-1) (-1), md, ch, okF 7 ⟨by decide, by decide⟩, fun σ h => ?_, fun σ h => ?_⟩
      · obtain ⟨q1, q2⟩ := ct_fail (a := 7) (b := t) (c := -1) (d := -1) h
        exact ⟨_, fun Q hQ => cC σ h Q (fun q => absurd q hA) (fun _ _ _ => hQ) (fun _ q => absurd (q hL.1) (by omega)), q1, q2⟩
      · obtain ⟨q1, q2⟩ := rt_fail (a := 7) (b := t) (c := -1) (d := -1) h
        exact ⟨_, q1, q2, fun Q k h0 _ => rC σ h Q k (fun q => absurd q hA) (fun _ _ _ => h0 rfl) (fun _ q => absurd (q hL.1) (by omega))⟩
    · refine ⟨1, fun k => if k = t then 0 else cn k, ce, nu, y, md + cn t, ch + cn t, ⟨Or.inr rfl, GS_clear hG s11 s8 s2.2 ht hA, hy, fun q => by have := hch q; omega, by omega, by omega⟩, fun σ h => ?_, fun σ h => ?_⟩
      · obtain ⟨c9, c10, c11, c27⟩ := h.2.1
        have ei : ai_set σ 9 t 0 = KS σ (fun k => if k = t then 0 else cn k) ce nu := by
          rw [← ks_cnt, ← c9, ← c10, ← c11, ks_id]
        obtain ⟨q1, q2⟩ := ct_store (cn' := fun k => if k = t then 0 else cn k) (ce' := ce) (nu' := nu) h
        rw [← ei] at q1 q2
        obtain ⟨q3, q4⟩ := ct_note (n := cn t) hO3.1 q1
        exact ⟨_, fun Q hQ => cC σ h Q (fun q => absurd q hA) (fun _ z1 z2 => absurd ⟨z1, z2⟩ hL) (fun _ _ => ⟨_, cf_note (by rw [q1.1.2]; exact hO3), hQ⟩), q3, kpC_trans q2 q4⟩
      · obtain ⟨q1, q2⟩ := rt_log (n := cn t) h
        have ei : ai_set (ai_set (ai_set σ 59 14 (σ 59 14 + cn t)) 59 37 (σ 59 37 + cn t)) 64 t 0 = ZS (ai_set (ai_set σ 59 14 (σ 59 14 + cn t)) 59 37 (σ 59 37 + cn t)) (fun k => if k = t then 0 else σ 64 k) (σ 65) (σ 66) := by
          have e2 : ZS (ai_set (ai_set σ 59 14 (σ 59 14 + cn t)) 59 37 (σ 59 37 + cn t)) (σ 64) (σ 65) (σ 66) = ai_set (ai_set σ 59 14 (σ 59 14 + cn t)) 59 37 (σ 59 37 + cn t) := zs_id (σ := ai_set (ai_set σ 59 14 (σ 59 14 + cn t)) 59 37 (σ 59 37 + cn t))
          rw [← zs_cnt, e2]
        have he : EqS (fun k => if k = t then 0 else cn k) ce nu (fun k => if k = t then 0 else σ 64 k) (σ 65) (σ 66) := by
          rw [h.2.1.1]
          exact ⟨rfl, h.2.1.2.1, h.2.1.2.2⟩
        obtain ⟨q3, q4⟩ := rt_store q1 he
        rw [← ei] at q3 q4
        exact ⟨_, q3, kpR_trans q2 q4, fun Q k _ h1 => rC σ h Q k (fun q => absurd q hA) (fun _ z1 z2 => absurd ⟨z1, z2⟩ hL) (fun _ _ => h1 rfl)⟩
theorem cf_hasSec_41 {sc : Int × (Int → Int)} {σ : ai_S} {t b : Int} (hS : 0 ≤ σ 41 0 ∧ σ 41 0 ≤ 6) (ht : ai_r t) (hta : ∀ s, 0 ≤ s → s < σ 41 0 → ai_r (σ 42 s)) (hb : (b = 1 ∧ HSp (σ 41 0) (σ 42) t) ∨ (b = 0 ∧ ¬ HSp (σ 41 0) (σ 42) t)) : fn sc 61 [some (.inr (.inr 41)), some (.inl t), none] σ (some (.inl b)) σ := by
  intro Q hQ
  have h : ∀ (n : Nat) (s : Int), 0 ≤ s → s + (n : Int) = σ 41 0 → (∀ j, 0 ≤ j → j < s → ¬ σ 42 j = t) → ai_wp sc 61 2 [some (.inr (.inr 41)), some (.inl t), some (.inl s)] [] (0, 0) (92, [], σ) Q := by
    intro n
    induction n with
    | zero =>
      intro s s0 sn hv
      have e : b = 0 := by
        rcases hb with ⟨_, j, j1, j2, j3⟩ | ⟨z, _⟩
        · exact absurd j3 (hv j j1 (by omega))
        · exact z
      rw [e] at hQ
      exact rb_61_2_41 ⟨⟨⟨by omega, by omega⟩, ⟨by omega, by omega⟩⟩, fun _ => ⟨z01, hQ⟩, fun g => absurd (show σ 41 0 ≤ s by omega) g⟩
    | succ n ih =>
      intro s s0 sn hv
      refine rb_61_2_41 ⟨⟨⟨by omega, by omega⟩, ⟨by omega, by omega⟩⟩, fun g => absurd g (by omega), fun _ => ⟨⟨s0, by omega⟩, ⟨hta s s0 (by omega), ht⟩, fun y => ih (s + 1) (by omega) (by omega) (fun j j1 j2 => ?_), fun y => ⟨z11, ?_⟩⟩⟩
      · by_cases e : j = s
        · rw [e]
          exact y
        · exact hv j j1 (by omega)
      · have e : b = 1 := by
          rcases hb with ⟨z, _⟩ | ⟨_, z⟩
          · exact z
          · exact absurd ⟨s, s0, by omega, Decidable.not_not.mp y⟩ z
        rw [e] at hQ
        exact hQ
  exact rb_61_0_41 (h (σ 41 0).toNat 0 (by decide) (by omega) (fun j j1 j2 => absurd j2 (by omega)))
theorem clr_all_41 {sc : Int × (Int → Int)} {τ : ai_S} (hS : RSch (τ 2 0) (τ 59 1) (τ 4) (τ 60) (τ 5) (τ 61) (τ 7) (τ 62) (τ 6) (τ 63) (τ 3) (τ 84)) (hD : DS (τ 2 0) (τ 4) (τ 5) (τ 41 0) (τ 41 1) (τ 42) (τ 43) (τ 44) (τ 45) (τ 46) (τ 47) (τ 48) (τ 49) (τ 59 20) (τ 59 21) (τ 72) (τ 73) (τ 74) (τ 75) (τ 76) (τ 77)) (hO : τ 59 13 = τ 12 0) (hO3 : 0 ≤ τ 12 0 ∧ τ 12 0 ≤ 3) (hq : ∀ j, 0 ≤ j → j < τ 2 0 → 0 ≤ τ 3 j ∧ τ 3 j < 5) :
    ∀ (n : Nat) (k : Int) (cn ce nu y : Int → Int) (md ch : Int), k < τ 2 0 → k + 1 = (n : Int) → GS (τ 2 0) (τ 4) (τ 5) (τ 6) cn ce nu → (∀ j, ai_r (y j)) → (0 < τ 12 0 → 0 ≤ ch ∧ ch ≤ 200) → ∃ b cn' ce' nu' y' md' ch', okO τ (12 * (n : Int)) b cn' ce' nu' y' md md' ch' ∧
      (∀ σ, CT τ cn ce nu y md ch σ → ∃ σ', CT τ cn' ce' nu' y' md' ch' σ' ∧ kpC σ σ' ∧ ∀ (Q : ai_O → Prop) (x3 : Option ai_V), Q (.inl (some (.inl b)), (92, [], σ')) → ai_wp sc 35 6 [some (.inr (.inr 1)), some (.inr (.inr 41)), some (.inl k), x3] [] (0, 0) (92, [], σ) Q) ∧
      (∀ σ, RT τ cn ce nu y md ch σ → ∃ σ', RT τ cn' ce' nu' y' md' ch' σ' ∧ kpR σ σ' ∧ ∀ (Q : ai_O → Prop) (x2 : Option ai_V), Q (.inl (some (.inl b)), (92, [], σ')) → ai_wp sc 171 5 [some (.inr (.inr 59)), some (.inl k), x2] [] (0, 0) (92, [], σ) Q) := by
  obtain ⟨⟨d1, d2, d3, d4, d5, d6⟩, d7, d8, d9⟩ := id hD
  obtain ⟨s1, s2, s3, s4, s5, s6, s7, s8, s9, s10, s11, s12⟩ := id hS
  intro n
  induction n with
  | zero =>
    intro k cn ce nu y md ch kT kn hG hy hch
    have k0 : k = -1 := by omega
    subst k0
    exact ⟨1, cn, ce, nu, y, md, ch, ⟨Or.inr rfl, hG, hy, hch, Int.le_refl md, by omega⟩, fun σ h => ⟨σ, h, kpC_rfl, fun Q x3 hQ => rh_35_6_41 ⟨rm1, fun _ => ⟨z11, hQ⟩, fun g => absurd (show (-1 : Int) < 0 by decide) g⟩⟩, fun σ h => ⟨σ, h, kpR_rfl, fun Q x2 hQ => rh_171_5 ⟨rm1, fun _ => ⟨z11, hQ⟩, fun g => absurd (show (-1 : Int) < 0 by decide) g⟩⟩⟩
  | succ n ih =>
    intro k cn ce nu y md ch kT kn hG hy hch
    have k0 : 0 ≤ k ∧ k < 5 := ⟨by omega, by omega⟩
    obtain ⟨t, htd⟩ : ∃ t, t = τ 3 k := ⟨_, rfl⟩
    have ht : 0 ≤ t ∧ t < 5 := by
      rw [htd]
      exact hq k k0.1 kT
    have rt : ai_r t := ⟨by omega, by omega⟩
    have rk : ai_r k := ⟨by omega, by omega⟩
    have hta : ∀ s, 0 ≤ s → s < τ 41 0 → ai_r (τ 42 s) := fun s q1 q2 => by
      have := (d9 s q1 q2).1.2
      exact ⟨by omega, by omega⟩
    have cS : ∀ (σ : ai_S) (b : Int), CS τ σ → ((b = 1 ∧ HSp (τ 41 0) (τ 42) t) ∨ (b = 0 ∧ ¬ HSp (τ 41 0) (τ 42) t)) → ∀ (Q : ai_O → Prop) (x3 : Option ai_V), ai_wp sc 35 17 [some (.inr (.inr 1)), some (.inr (.inr 41)), some (.inl k), some (.inl t)] [.inl b] (0, 0) (92, [], σ) Q → ai_wp sc 35 6 [some (.inr (.inr 1)), some (.inr (.inr 41)), some (.inl k), x3] [] (0, 0) (92, [], σ) Q := by
      intro σ b h hb Q x3 hK
      have c3 : σ 3 = τ 3 := h.1 3 (by omega)
      have cd : σ 41 = τ 41 := h.1 41 (by omega)
      have ct : σ 42 = τ 42 := h.1 42 (by omega)
      refine rh_35_6_41 ⟨rk, fun g => absurd g (by omega), fun _ => ⟨k0, ?_⟩⟩
      rw [c3, ← htd]
      exact fn_ret (cf_hasSec_41 (by rw [cd]; exact d3) rt (by rw [cd, ct]; exact hta) (by rw [cd, ct]; exact hb)) hK
    have rS : ∀ (σ : ai_S) (b : Int), RS τ σ → ((b = 1 ∧ HSp (τ 41 0) (τ 42) t) ∨ (b = 0 ∧ ¬ HSp (τ 41 0) (τ 42) t)) → ∀ (Q : ai_O → Prop) (x2 : Option ai_V), ai_wp sc 171 15 [some (.inr (.inr 59)), some (.inl k), some (.inl t)] [.inl b] (0, 0) (92, [], σ) Q → ai_wp sc 171 5 [some (.inr (.inr 59)), some (.inl k), x2] [] (0, 0) (92, [], σ) Q := by
      intro σ b h hb Q x2 hK
      have c3 : σ 84 = τ 3 := (h.1 84 (by omega)).trans s7
      have c20 : σ 59 20 = τ 41 0 := h.2.2.2.1.trans d1
      have c72 : σ 72 = τ 72 := h.1 72 (by omega)
      have hiff : HSp (τ 41 0) (τ 42) t ↔ HSp (σ 59 20) (σ 72) t := by
        rw [c20, c72]
        constructor
        · rintro ⟨s, q1, q2, q3⟩
          exact ⟨s, q1, q2, (d9 s q1 q2).1.1.trans q3⟩
        · rintro ⟨s, q1, q2, q3⟩
          exact ⟨s, q1, q2, (d9 s q1 q2).1.1.symm.trans q3⟩
      refine rh_171_5 ⟨rk, fun g => absurd g (by omega), fun _ => ⟨k0, ?_⟩⟩
      rw [c3, ← htd]
      refine fn_ret (rf_hasSec (by rw [c20]; exact d3) rt (fun s q1 q2 => ?_) ?_) hK
      · rw [c20] at q2
        rw [c72, (d9 s q1 q2).1.1]
        exact hta s q1 q2
      · rcases hb with ⟨z1, z2⟩ | ⟨z1, z2⟩
        · exact Or.inl ⟨z1, hiff.mp z2⟩
        · exact Or.inr ⟨z1, fun q => z2 (hiff.mpr q)⟩
    by_cases hH : HSp (τ 41 0) (τ 42) t
    · obtain ⟨b1, cn1, ce1, nu1, y1, md1, ch1, ⟨o1, o2, o3, o4, o5⟩, lc, lr⟩ := clr_one (sc := sc) hS hO hO3 ht (md := md) hG hy hch
      by_cases hb1 : b1 = 0
      · subst hb1
        refine ⟨0, cn1, ce1, nu1, y1, md1, ch1, ⟨Or.inl rfl, o2, o3, o4, o5.1, by omega⟩, fun σ h => ?_, fun σ h => ?_⟩
        · obtain ⟨σ', l1, l2, l3⟩ := lc σ h
          exact ⟨σ', l2, l3, fun Q x3 hQ => cS σ 1 h.1 (Or.inl ⟨rfl, hH⟩) Q x3 (rb_35_17_41 ⟨rr1, fun z => absurd z (by decide), fun _ => fn_ret l1 (rb_35_21_41 ⟨rr0, fun z => absurd rfl z, fun _ => ⟨z01, hQ⟩⟩)⟩)⟩
        · obtain ⟨σ', l1, l2, l3⟩ := lr σ h
          exact ⟨σ', l1, l2, fun Q x2 hQ => rS σ 1 h.1 (Or.inl ⟨rfl, hH⟩) Q x2 (l3 Q k (fun _ => hQ) (fun z => absurd z (by decide)))⟩
      · have hb2 : b1 = 1 := by omega
        subst hb2
        obtain ⟨b2, cn2, ce2, nu2, y2, md2, ch2, ⟨p1, p2, p3, p4, p5⟩, ic, ir⟩ := ih (k - 1) cn1 ce1 nu1 y1 md1 ch1 (by omega) (by omega) o2 o3 o4
        refine ⟨b2, cn2, ce2, nu2, y2, md2, ch2, ⟨p1, p2, p3, p4, by omega, by omega⟩, fun σ h => ?_, fun σ h => ?_⟩
        · obtain ⟨σ1, l1, l2, l3⟩ := lc σ h
          obtain ⟨σ2, j1, j2, j3⟩ := ic σ1 l2
          exact ⟨σ2, j1, kpC_trans l3 j2, fun Q x3 hQ => cS σ 1 h.1 (Or.inl ⟨rfl, hH⟩) Q x3 (rb_35_17_41 ⟨rr1, fun z => absurd z (by decide), fun _ => fn_ret l1 (rb_35_21_41 ⟨rr1, fun _ => j3 Q _ hQ, fun z => absurd (show ¬ (1 : Int) = 0 by decide) z⟩)⟩)⟩
        · obtain ⟨σ1, l1, l2, l3⟩ := lr σ h
          obtain ⟨σ2, j1, j2, j3⟩ := ir σ1 l1
          exact ⟨σ2, j1, kpR_trans l2 j2, fun Q x2 hQ => rS σ 1 h.1 (Or.inl ⟨rfl, hH⟩) Q x2 (l3 Q k (fun z => absurd z (by decide)) (fun _ => j3 Q _ hQ))⟩
    · obtain ⟨b2, cn2, ce2, nu2, y2, md2, ch2, ⟨p1, p2, p3, p4, p5⟩, ic, ir⟩ := ih (k - 1) cn ce nu y md ch (by omega) (by omega) hG hy hch
      refine ⟨b2, cn2, ce2, nu2, y2, md2, ch2, ⟨p1, p2, p3, p4, p5.1, by omega⟩, fun σ h => ?_, fun σ h => ?_⟩
      · obtain ⟨σ2, j1, j2, j3⟩ := ic σ h
        exact ⟨σ2, j1, j2, fun Q x3 hQ => cS σ 0 h.1 (Or.inr ⟨rfl, hH⟩) Q x3 (rb_35_17_41 ⟨rr0, fun _ => j3 Q _ hQ, fun z => absurd rfl z⟩)⟩
      · obtain ⟨σ2, j1, j2, j3⟩ := ir σ h
        exact ⟨σ2, j1, j2, fun Q x2 hQ => rS σ 0 h.1 (Or.inr ⟨rfl, hH⟩) Q x2 (rb_171_15 ⟨rr0, fun z => absurd rfl z, fun _ => j3 Q _ hQ⟩)⟩
theorem cf_hasSec_50 {sc : Int × (Int → Int)} {σ : ai_S} {t b : Int} (hS : 0 ≤ σ 50 0 ∧ σ 50 0 ≤ 6) (ht : ai_r t) (hta : ∀ s, 0 ≤ s → s < σ 50 0 → ai_r (σ 51 s)) (hb : (b = 1 ∧ HSp (σ 50 0) (σ 51) t) ∨ (b = 0 ∧ ¬ HSp (σ 50 0) (σ 51) t)) : fn sc 61 [some (.inr (.inr 50)), some (.inl t), none] σ (some (.inl b)) σ := by
  intro Q hQ
  have h : ∀ (n : Nat) (s : Int), 0 ≤ s → s + (n : Int) = σ 50 0 → (∀ j, 0 ≤ j → j < s → ¬ σ 51 j = t) → ai_wp sc 61 2 [some (.inr (.inr 50)), some (.inl t), some (.inl s)] [] (0, 0) (92, [], σ) Q := by
    intro n
    induction n with
    | zero =>
      intro s s0 sn hv
      have e : b = 0 := by
        rcases hb with ⟨_, j, j1, j2, j3⟩ | ⟨z, _⟩
        · exact absurd j3 (hv j j1 (by omega))
        · exact z
      rw [e] at hQ
      exact rb_61_2_50 ⟨⟨⟨by omega, by omega⟩, ⟨by omega, by omega⟩⟩, fun _ => ⟨z01, hQ⟩, fun g => absurd (show σ 50 0 ≤ s by omega) g⟩
    | succ n ih =>
      intro s s0 sn hv
      refine rb_61_2_50 ⟨⟨⟨by omega, by omega⟩, ⟨by omega, by omega⟩⟩, fun g => absurd g (by omega), fun _ => ⟨⟨s0, by omega⟩, ⟨hta s s0 (by omega), ht⟩, fun y => ih (s + 1) (by omega) (by omega) (fun j j1 j2 => ?_), fun y => ⟨z11, ?_⟩⟩⟩
      · by_cases e : j = s
        · rw [e]
          exact y
        · exact hv j j1 (by omega)
      · have e : b = 1 := by
          rcases hb with ⟨z, _⟩ | ⟨_, z⟩
          · exact z
          · exact absurd ⟨s, s0, by omega, Decidable.not_not.mp y⟩ z
        rw [e] at hQ
        exact hQ
  exact rb_61_0_50 (h (σ 50 0).toNat 0 (by decide) (by omega) (fun j j1 j2 => absurd j2 (by omega)))
theorem clr_all_50 {sc : Int × (Int → Int)} {τ : ai_S} (hS : RSch (τ 2 0) (τ 59 1) (τ 4) (τ 60) (τ 5) (τ 61) (τ 7) (τ 62) (τ 6) (τ 63) (τ 3) (τ 84)) (hD : DS (τ 2 0) (τ 4) (τ 5) (τ 50 0) (τ 50 1) (τ 51) (τ 52) (τ 53) (τ 54) (τ 55) (τ 56) (τ 57) (τ 58) (τ 59 20) (τ 59 21) (τ 72) (τ 73) (τ 74) (τ 75) (τ 76) (τ 77)) (hO : τ 59 13 = τ 12 0) (hO3 : 0 ≤ τ 12 0 ∧ τ 12 0 ≤ 3) (hq : ∀ j, 0 ≤ j → j < τ 2 0 → 0 ≤ τ 3 j ∧ τ 3 j < 5) :
    ∀ (n : Nat) (k : Int) (cn ce nu y : Int → Int) (md ch : Int), k < τ 2 0 → k + 1 = (n : Int) → GS (τ 2 0) (τ 4) (τ 5) (τ 6) cn ce nu → (∀ j, ai_r (y j)) → (0 < τ 12 0 → 0 ≤ ch ∧ ch ≤ 200) → ∃ b cn' ce' nu' y' md' ch', okO τ (12 * (n : Int)) b cn' ce' nu' y' md md' ch' ∧
      (∀ σ, CT τ cn ce nu y md ch σ → ∃ σ', CT τ cn' ce' nu' y' md' ch' σ' ∧ kpC σ σ' ∧ ∀ (Q : ai_O → Prop) (x3 : Option ai_V), Q (.inl (some (.inl b)), (92, [], σ')) → ai_wp sc 35 6 [some (.inr (.inr 1)), some (.inr (.inr 50)), some (.inl k), x3] [] (0, 0) (92, [], σ) Q) ∧
      (∀ σ, RT τ cn ce nu y md ch σ → ∃ σ', RT τ cn' ce' nu' y' md' ch' σ' ∧ kpR σ σ' ∧ ∀ (Q : ai_O → Prop) (x2 : Option ai_V), Q (.inl (some (.inl b)), (92, [], σ')) → ai_wp sc 171 5 [some (.inr (.inr 59)), some (.inl k), x2] [] (0, 0) (92, [], σ) Q) := by
  obtain ⟨⟨d1, d2, d3, d4, d5, d6⟩, d7, d8, d9⟩ := id hD
  obtain ⟨s1, s2, s3, s4, s5, s6, s7, s8, s9, s10, s11, s12⟩ := id hS
  intro n
  induction n with
  | zero =>
    intro k cn ce nu y md ch kT kn hG hy hch
    have k0 : k = -1 := by omega
    subst k0
    exact ⟨1, cn, ce, nu, y, md, ch, ⟨Or.inr rfl, hG, hy, hch, Int.le_refl md, by omega⟩, fun σ h => ⟨σ, h, kpC_rfl, fun Q x3 hQ => rh_35_6_50 ⟨rm1, fun _ => ⟨z11, hQ⟩, fun g => absurd (show (-1 : Int) < 0 by decide) g⟩⟩, fun σ h => ⟨σ, h, kpR_rfl, fun Q x2 hQ => rh_171_5 ⟨rm1, fun _ => ⟨z11, hQ⟩, fun g => absurd (show (-1 : Int) < 0 by decide) g⟩⟩⟩
  | succ n ih =>
    intro k cn ce nu y md ch kT kn hG hy hch
    have k0 : 0 ≤ k ∧ k < 5 := ⟨by omega, by omega⟩
    obtain ⟨t, htd⟩ : ∃ t, t = τ 3 k := ⟨_, rfl⟩
    have ht : 0 ≤ t ∧ t < 5 := by
      rw [htd]
      exact hq k k0.1 kT
    have rt : ai_r t := ⟨by omega, by omega⟩
    have rk : ai_r k := ⟨by omega, by omega⟩
    have hta : ∀ s, 0 ≤ s → s < τ 50 0 → ai_r (τ 51 s) := fun s q1 q2 => by
      have := (d9 s q1 q2).1.2
      exact ⟨by omega, by omega⟩
    have cS : ∀ (σ : ai_S) (b : Int), CS τ σ → ((b = 1 ∧ HSp (τ 50 0) (τ 51) t) ∨ (b = 0 ∧ ¬ HSp (τ 50 0) (τ 51) t)) → ∀ (Q : ai_O → Prop) (x3 : Option ai_V), ai_wp sc 35 17 [some (.inr (.inr 1)), some (.inr (.inr 50)), some (.inl k), some (.inl t)] [.inl b] (0, 0) (92, [], σ) Q → ai_wp sc 35 6 [some (.inr (.inr 1)), some (.inr (.inr 50)), some (.inl k), x3] [] (0, 0) (92, [], σ) Q := by
      intro σ b h hb Q x3 hK
      have c3 : σ 3 = τ 3 := h.1 3 (by omega)
      have cd : σ 50 = τ 50 := h.1 50 (by omega)
      have ct : σ 51 = τ 51 := h.1 51 (by omega)
      refine rh_35_6_50 ⟨rk, fun g => absurd g (by omega), fun _ => ⟨k0, ?_⟩⟩
      rw [c3, ← htd]
      exact fn_ret (cf_hasSec_50 (by rw [cd]; exact d3) rt (by rw [cd, ct]; exact hta) (by rw [cd, ct]; exact hb)) hK
    have rS : ∀ (σ : ai_S) (b : Int), RS τ σ → ((b = 1 ∧ HSp (τ 50 0) (τ 51) t) ∨ (b = 0 ∧ ¬ HSp (τ 50 0) (τ 51) t)) → ∀ (Q : ai_O → Prop) (x2 : Option ai_V), ai_wp sc 171 15 [some (.inr (.inr 59)), some (.inl k), some (.inl t)] [.inl b] (0, 0) (92, [], σ) Q → ai_wp sc 171 5 [some (.inr (.inr 59)), some (.inl k), x2] [] (0, 0) (92, [], σ) Q := by
      intro σ b h hb Q x2 hK
      have c3 : σ 84 = τ 3 := (h.1 84 (by omega)).trans s7
      have c20 : σ 59 20 = τ 50 0 := h.2.2.2.1.trans d1
      have c72 : σ 72 = τ 72 := h.1 72 (by omega)
      have hiff : HSp (τ 50 0) (τ 51) t ↔ HSp (σ 59 20) (σ 72) t := by
        rw [c20, c72]
        constructor
        · rintro ⟨s, q1, q2, q3⟩
          exact ⟨s, q1, q2, (d9 s q1 q2).1.1.trans q3⟩
        · rintro ⟨s, q1, q2, q3⟩
          exact ⟨s, q1, q2, (d9 s q1 q2).1.1.symm.trans q3⟩
      refine rh_171_5 ⟨rk, fun g => absurd g (by omega), fun _ => ⟨k0, ?_⟩⟩
      rw [c3, ← htd]
      refine fn_ret (rf_hasSec (by rw [c20]; exact d3) rt (fun s q1 q2 => ?_) ?_) hK
      · rw [c20] at q2
        rw [c72, (d9 s q1 q2).1.1]
        exact hta s q1 q2
      · rcases hb with ⟨z1, z2⟩ | ⟨z1, z2⟩
        · exact Or.inl ⟨z1, hiff.mp z2⟩
        · exact Or.inr ⟨z1, fun q => z2 (hiff.mpr q)⟩
    by_cases hH : HSp (τ 50 0) (τ 51) t
    · obtain ⟨b1, cn1, ce1, nu1, y1, md1, ch1, ⟨o1, o2, o3, o4, o5⟩, lc, lr⟩ := clr_one (sc := sc) hS hO hO3 ht (md := md) hG hy hch
      by_cases hb1 : b1 = 0
      · subst hb1
        refine ⟨0, cn1, ce1, nu1, y1, md1, ch1, ⟨Or.inl rfl, o2, o3, o4, o5.1, by omega⟩, fun σ h => ?_, fun σ h => ?_⟩
        · obtain ⟨σ', l1, l2, l3⟩ := lc σ h
          exact ⟨σ', l2, l3, fun Q x3 hQ => cS σ 1 h.1 (Or.inl ⟨rfl, hH⟩) Q x3 (rb_35_17_50 ⟨rr1, fun z => absurd z (by decide), fun _ => fn_ret l1 (rb_35_21_50 ⟨rr0, fun z => absurd rfl z, fun _ => ⟨z01, hQ⟩⟩)⟩)⟩
        · obtain ⟨σ', l1, l2, l3⟩ := lr σ h
          exact ⟨σ', l1, l2, fun Q x2 hQ => rS σ 1 h.1 (Or.inl ⟨rfl, hH⟩) Q x2 (l3 Q k (fun _ => hQ) (fun z => absurd z (by decide)))⟩
      · have hb2 : b1 = 1 := by omega
        subst hb2
        obtain ⟨b2, cn2, ce2, nu2, y2, md2, ch2, ⟨p1, p2, p3, p4, p5⟩, ic, ir⟩ := ih (k - 1) cn1 ce1 nu1 y1 md1 ch1 (by omega) (by omega) o2 o3 o4
        refine ⟨b2, cn2, ce2, nu2, y2, md2, ch2, ⟨p1, p2, p3, p4, by omega, by omega⟩, fun σ h => ?_, fun σ h => ?_⟩
        · obtain ⟨σ1, l1, l2, l3⟩ := lc σ h
          obtain ⟨σ2, j1, j2, j3⟩ := ic σ1 l2
          exact ⟨σ2, j1, kpC_trans l3 j2, fun Q x3 hQ => cS σ 1 h.1 (Or.inl ⟨rfl, hH⟩) Q x3 (rb_35_17_50 ⟨rr1, fun z => absurd z (by decide), fun _ => fn_ret l1 (rb_35_21_50 ⟨rr1, fun _ => j3 Q _ hQ, fun z => absurd (show ¬ (1 : Int) = 0 by decide) z⟩)⟩)⟩
        · obtain ⟨σ1, l1, l2, l3⟩ := lr σ h
          obtain ⟨σ2, j1, j2, j3⟩ := ir σ1 l1
          exact ⟨σ2, j1, kpR_trans l2 j2, fun Q x2 hQ => rS σ 1 h.1 (Or.inl ⟨rfl, hH⟩) Q x2 (l3 Q k (fun z => absurd z (by decide)) (fun _ => j3 Q _ hQ))⟩
    · obtain ⟨b2, cn2, ce2, nu2, y2, md2, ch2, ⟨p1, p2, p3, p4, p5⟩, ic, ir⟩ := ih (k - 1) cn ce nu y md ch (by omega) (by omega) hG hy hch
      refine ⟨b2, cn2, ce2, nu2, y2, md2, ch2, ⟨p1, p2, p3, p4, p5.1, by omega⟩, fun σ h => ?_, fun σ h => ?_⟩
      · obtain ⟨σ2, j1, j2, j3⟩ := ic σ h
        exact ⟨σ2, j1, j2, fun Q x3 hQ => cS σ 0 h.1 (Or.inr ⟨rfl, hH⟩) Q x3 (rb_35_17_50 ⟨rr0, fun _ => j3 Q _ hQ, fun z => absurd rfl z⟩)⟩
      · obtain ⟨σ2, j1, j2, j3⟩ := ir σ h
        exact ⟨σ2, j1, j2, fun Q x2 hQ => rS σ 0 h.1 (Or.inr ⟨rfl, hH⟩) Q x2 (rb_171_15 ⟨rr0, fun z => absurd rfl z, fun _ => j3 Q _ hQ⟩)⟩
