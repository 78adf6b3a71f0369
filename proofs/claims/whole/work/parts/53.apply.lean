/-! APPLY: the whole call. -/
theorem pf_41 {sc : Int × (Int → Int)} {τ : ai_S} (hS : RSch (τ 2 0) (τ 59 1) (τ 4) (τ 60) (τ 5) (τ 61) (τ 7) (τ 62) (τ 6) (τ 63) (τ 3) (τ 84)) (hD : DS (τ 2 0) (τ 4) (τ 5) (τ 41 0) (τ 41 1) (τ 42) (τ 43) (τ 44) (τ 45) (τ 46) (τ 47) (τ 48) (τ 49) (τ 59 20) (τ 59 21) (τ 72) (τ 73) (τ 74) (τ 75) (τ 76) (τ 77)) (hO : τ 59 13 = τ 12 0) (hO3 : 0 ≤ τ 12 0 ∧ τ 12 0 ≤ 3) {op : Int} (hop : 0 ≤ op ∧ op ≤ 5) (hq : ∀ j, 0 ≤ j → j < τ 2 0 → 0 ≤ τ 3 j ∧ τ 3 j < 5) {cn ce nu y : Int → Int} {md ch : Int} (hG : GS (τ 2 0) (τ 4) (τ 5) (τ 6) cn ce nu) (hy : ∀ j, ai_r (y j)) (hch : 0 < τ 12 0 → 0 ≤ ch ∧ ch ≤ 200) :
    ∃ b cn' ce' nu' y' md' ch', okO τ 200 b cn' ce' nu' y' md md' ch' ∧ SmC sc τ 34 [some (.inr (.inr 1)), some (.inl op), some (.inr (.inr 41))] cn ce nu y md ch b cn' ce' nu' y' md' ch' ∧
      (∀ σ, RT τ cn ce nu y md ch (ai_set σ 59 37 0) → ∃ σ', RT τ cn' ce' nu' y' md' ch' σ' ∧ kpR (ai_set σ 59 37 0) σ' ∧ ∀ Q : ai_O → Prop, (b = 1 → Q (.inl (some (.inl (σ' 59 37))), (92, [], σ'))) → (b = 0 → ∀ x : Int, ai_ret (ai_wp sc) 154 [some (.inr (.inr 59)), some (.inl 3), none] (92, [], σ') (fun v h' => ai_ck (ai_zz 92 h'.1 0) (ai_wp sc 172 67 [some (.inr (.inr 59)), some (.inl op), some (.inl x)] (v.toList ++ []) (0, 0) h' Q))) → ai_wp sc 172 35 [some (.inr (.inr 59)), some (.inl op), none] [] (0, 0) (92, [], σ) Q) := by
  obtain ⟨s1, s2, s3⟩ := id hS
  have rop : ai_r op := ⟨by omega, by omega⟩
  have r4 : ai_r 4 := ⟨by decide, by decide⟩
  have r5 : ai_r 5 := ⟨by decide, by decide⟩
  have h10 : ¬ (1 : Int) = 0 := by decide
  by_cases h4 : op < 4
  · obtain ⟨b, cn1, ce1, nu1, y1, md1, ch1, ⟨o1, o2, o3, o4, o5⟩, lc, lr⟩ := ld_all_41 (sc := sc) hS hD hO hO3 (op := op) ⟨hop.1, by omega⟩ hq (τ 2 0).toNat 0 cn ce nu y md ch (by decide) (by omega) hG hy hch
    refine ⟨b, cn1, ce1, nu1, y1, md1, ch1, ⟨o1, o2, o3, o4, o5.1, by omega⟩, fun σ h => ?_, fun σ h => ?_⟩
    · obtain ⟨σ', l1, l2, l3⟩ := lc σ h
      exact ⟨σ', fun Q hQ => rb_34_0_41 ⟨⟨rop, r4⟩, fun _ => ⟨⟨rop, r5⟩, fun _ => ai_ret_q (rb_39_0_41 (l3 _ none none (ai_k_in (rb_34_27_41 ⟨by omega, hQ⟩)))), fun z => absurd (show ¬ op = 5 by omega) z⟩, fun z => absurd (show ¬ op = 4 by omega) z⟩, l1, l2⟩
    · obtain ⟨σ', l1, l2, l3⟩ := lr _ h
      refine ⟨σ', l1, l2, fun Q q1 q0 => rb_172_35 ⟨⟨rop, r4⟩, fun z => absurd z (by omega), fun _ => ai_ret_q (rb_168_0 (l3 _ none none none (ai_k_in (rb_172_44 ⟨⟨by omega, by omega⟩, fun z => ?_, fun z => q1 (by omega)⟩))))⟩⟩
      have e : b = 0 := z
      rw [e] at q0 ⊢
      exact q0 rfl 0
  · obtain ⟨b, cn1, ce1, nu1, y1, md1, ch1, ⟨o1, o2, o3, o4, o5⟩, lc, lr⟩ := clr_all_41 (sc := sc) hS hD hO hO3 hq (τ 2 0).toNat (τ 2 0 - 1) cn ce nu y md ch (by omega) (by omega) hG hy hch
    have f35 : ∀ σ, CT τ cn ce nu y md ch σ → ∃ σ', fn sc 35 [some (.inr (.inr 1)), some (.inr (.inr 41)), none, none] σ (some (.inl b)) σ' ∧ CT τ cn1 ce1 nu1 y1 md1 ch1 σ' ∧ kpC σ σ' := fun σ h => by
      obtain ⟨σ', l1, l2, l3⟩ := lc σ h
      refine ⟨σ', fun Q hQ => rb_35_0_41 ?_, l1, l2⟩
      rw [show σ 2 0 = τ 2 0 from congrFun (h.1.1 2 (by omega)) 0]
      exact l3 Q none hQ
    have f171 : ∀ σ, RT τ cn ce nu y md ch σ → ∃ σ', fn sc 171 [some (.inr (.inr 59)), none, none] σ (some (.inl b)) σ' ∧ RT τ cn1 ce1 nu1 y1 md1 ch1 σ' ∧ kpR σ σ' := fun σ h => by
      obtain ⟨σ', l1, l2, l3⟩ := lr σ h
      refine ⟨σ', fun Q hQ => rb_171_0 ?_, l1, l2⟩
      rw [show σ 59 1 = τ 2 0 from h.1.2.1.trans s1]
      exact l3 Q none hQ
    by_cases hb : b = 0
    · subst hb
      refine ⟨0, cn1, ce1, nu1, y1, md1, ch1, ⟨o1, o2, o3, o4, o5.1, by omega⟩, fun σ h => ?_, fun σ h => ?_⟩
      · obtain ⟨σ', l1, l2, l3⟩ := f35 σ h
        exact ⟨σ', fun Q hQ => rb_34_0_41 ⟨⟨rop, r4⟩, fun _ => ⟨⟨rop, r5⟩, fun z => absurd (show op = 5 by omega) z, fun _ => fn_ret l1 (rb_34_13_41 ⟨rr0, fun _ => ⟨z01, hQ⟩, fun z => absurd rfl z⟩)⟩, fun _ => fn_ret l1 (rb_34_6_41 ⟨z01, hQ⟩)⟩, l2, l3⟩
      · obtain ⟨σ', l1, l2, l3⟩ := f171 _ h
        exact ⟨σ', l2, l3, fun Q _ q0 => rb_172_35 ⟨⟨rop, r4⟩, fun _ => fn_ret l1 (rb_172_47 ⟨rr0, fun _ => ⟨rr0, fun _ => q0 rfl 0, fun z => absurd rfl z⟩, fun z => absurd rfl z⟩), fun z => absurd (show 4 ≤ op by omega) z⟩⟩
    · have hb1 : b = 1 := by omega
      subst hb1
      by_cases h5 : op = 4
      · refine ⟨1, cn1, ce1, nu1, y1, md1, ch1, ⟨o1, o2, o3, o4, o5.1, by omega⟩, fun σ h => ?_, fun σ h => ?_⟩
        · obtain ⟨σ', l1, l2, l3⟩ := f35 σ h
          exact ⟨σ', fun Q hQ => rb_34_0_41 ⟨⟨rop, r4⟩, fun z => absurd h5 z, fun _ => fn_ret l1 (rb_34_6_41 ⟨z11, hQ⟩)⟩, l2, l3⟩
        · obtain ⟨σ', l1, l2, l3⟩ := f171 _ h
          exact ⟨σ', l2, l3, fun Q q1 _ => rb_172_35 ⟨⟨rop, r4⟩, fun _ => fn_ret l1 (rb_172_47 ⟨rr1, fun z => absurd z h10, fun _ => ⟨⟨rop, r4⟩, fun _ => ⟨rr1, fun z => absurd z h10, fun _ => q1 rfl⟩, fun z => absurd h5 z⟩⟩), fun z => absurd (show 4 ≤ op by omega) z⟩⟩
      · obtain ⟨b2, cn2, ce2, nu2, y2, md2, ch2, ⟨p1, p2, p3, p4, p5⟩, kc, kr⟩ := ld_all_41 (sc := sc) hS hD hO hO3 (op := 0) ⟨by decide, by decide⟩ hq (τ 2 0).toNat 0 cn1 ce1 nu1 y1 md1 ch1 (by decide) (by omega) o2 o3 o4
        refine ⟨b2, cn2, ce2, nu2, y2, md2, ch2, ⟨p1, p2, p3, p4, by omega, by omega⟩, fun σ h => ?_, fun σ h => ?_⟩
        · obtain ⟨σ1, l1, l2, l3⟩ := f35 σ h
          obtain ⟨σ2, j1, j2, j3⟩ := kc σ1 l2
          refine ⟨σ2, fun Q hQ => rb_34_0_41 ⟨⟨rop, r4⟩, fun _ => ⟨⟨rop, r5⟩, fun z => absurd (show op = 5 by omega) z, fun _ => fn_ret l1 (rb_34_13_41 ⟨rr1, fun z => absurd z h10, fun _ => ai_ret_q (rb_39_0_41 (j3 _ none none (ai_k_in (rb_34_18_41 ⟨⟨by omega, by omega⟩, fun z => ⟨z01, ?_⟩, fun z => ⟨z11, ?_⟩⟩))))⟩)⟩, fun z => absurd h5 z⟩, j1, kpC_trans l3 j2⟩
          · have e : b2 = 0 := z
            rw [e] at hQ
            exact hQ
          · have e : b2 = 1 := by
              have : ¬ b2 = 0 := z
              omega
            rw [e] at hQ
            exact hQ
        · obtain ⟨σ1, l1, l2, l3⟩ := f171 _ h
          obtain ⟨σ2, j1, j2, j3⟩ := kr σ1 l2
          refine ⟨σ2, j1, kpR_trans l3 j2, fun Q q1 q0 => rb_172_35 ⟨⟨rop, r4⟩, fun _ => fn_ret l1 (rb_172_47 ⟨rr1, fun z => absurd z h10, fun _ => ⟨⟨rop, r4⟩, fun z => absurd z h5, fun _ => ai_ret_q (rb_168_0 (j3 _ none none none (ai_k_in (rb_172_54 ⟨⟨by omega, by omega⟩, fun z => ⟨rr0, fun _ => q0 z 0, fun z2 => absurd rfl z2⟩, fun z => ⟨rr1, fun z2 => absurd z2 h10, fun _ => q1 (by have : ¬ b2 = 0 := z; omega)⟩⟩))))⟩⟩), fun z => absurd (show 4 ≤ op by omega) z⟩⟩
theorem pf_50 {sc : Int × (Int → Int)} {τ : ai_S} (hS : RSch (τ 2 0) (τ 59 1) (τ 4) (τ 60) (τ 5) (τ 61) (τ 7) (τ 62) (τ 6) (τ 63) (τ 3) (τ 84)) (hD : DS (τ 2 0) (τ 4) (τ 5) (τ 50 0) (τ 50 1) (τ 51) (τ 52) (τ 53) (τ 54) (τ 55) (τ 56) (τ 57) (τ 58) (τ 59 20) (τ 59 21) (τ 72) (τ 73) (τ 74) (τ 75) (τ 76) (τ 77)) (hO : τ 59 13 = τ 12 0) (hO3 : 0 ≤ τ 12 0 ∧ τ 12 0 ≤ 3) {op : Int} (hop : 0 ≤ op ∧ op ≤ 5) (hq : ∀ j, 0 ≤ j → j < τ 2 0 → 0 ≤ τ 3 j ∧ τ 3 j < 5) {cn ce nu y : Int → Int} {md ch : Int} (hG : GS (τ 2 0) (τ 4) (τ 5) (τ 6) cn ce nu) (hy : ∀ j, ai_r (y j)) (hch : 0 < τ 12 0 → 0 ≤ ch ∧ ch ≤ 200) :
    ∃ b cn' ce' nu' y' md' ch', okO τ 200 b cn' ce' nu' y' md md' ch' ∧ SmC sc τ 34 [some (.inr (.inr 1)), some (.inl op), some (.inr (.inr 50))] cn ce nu y md ch b cn' ce' nu' y' md' ch' ∧
      (∀ σ, RT τ cn ce nu y md ch (ai_set σ 59 37 0) → ∃ σ', RT τ cn' ce' nu' y' md' ch' σ' ∧ kpR (ai_set σ 59 37 0) σ' ∧ ∀ Q : ai_O → Prop, (b = 1 → Q (.inl (some (.inl (σ' 59 37))), (92, [], σ'))) → (b = 0 → ∀ x : Int, ai_ret (ai_wp sc) 154 [some (.inr (.inr 59)), some (.inl 3), none] (92, [], σ') (fun v h' => ai_ck (ai_zz 92 h'.1 0) (ai_wp sc 172 67 [some (.inr (.inr 59)), some (.inl op), some (.inl x)] (v.toList ++ []) (0, 0) h' Q))) → ai_wp sc 172 35 [some (.inr (.inr 59)), some (.inl op), none] [] (0, 0) (92, [], σ) Q) := by
  obtain ⟨s1, s2, s3⟩ := id hS
  have rop : ai_r op := ⟨by omega, by omega⟩
  have r4 : ai_r 4 := ⟨by decide, by decide⟩
  have r5 : ai_r 5 := ⟨by decide, by decide⟩
  have h10 : ¬ (1 : Int) = 0 := by decide
  by_cases h4 : op < 4
  · obtain ⟨b, cn1, ce1, nu1, y1, md1, ch1, ⟨o1, o2, o3, o4, o5⟩, lc, lr⟩ := ld_all_50 (sc := sc) hS hD hO hO3 (op := op) ⟨hop.1, by omega⟩ hq (τ 2 0).toNat 0 cn ce nu y md ch (by decide) (by omega) hG hy hch
    refine ⟨b, cn1, ce1, nu1, y1, md1, ch1, ⟨o1, o2, o3, o4, o5.1, by omega⟩, fun σ h => ?_, fun σ h => ?_⟩
    · obtain ⟨σ', l1, l2, l3⟩ := lc σ h
      exact ⟨σ', fun Q hQ => rb_34_0_50 ⟨⟨rop, r4⟩, fun _ => ⟨⟨rop, r5⟩, fun _ => ai_ret_q (rb_39_0_50 (l3 _ none none (ai_k_in (rb_34_27_50 ⟨by omega, hQ⟩)))), fun z => absurd (show ¬ op = 5 by omega) z⟩, fun z => absurd (show ¬ op = 4 by omega) z⟩, l1, l2⟩
    · obtain ⟨σ', l1, l2, l3⟩ := lr _ h
      refine ⟨σ', l1, l2, fun Q q1 q0 => rb_172_35 ⟨⟨rop, r4⟩, fun z => absurd z (by omega), fun _ => ai_ret_q (rb_168_0 (l3 _ none none none (ai_k_in (rb_172_44 ⟨⟨by omega, by omega⟩, fun z => ?_, fun z => q1 (by omega)⟩))))⟩⟩
      have e : b = 0 := z
      rw [e] at q0 ⊢
      exact q0 rfl 0
  · obtain ⟨b, cn1, ce1, nu1, y1, md1, ch1, ⟨o1, o2, o3, o4, o5⟩, lc, lr⟩ := clr_all_50 (sc := sc) hS hD hO hO3 hq (τ 2 0).toNat (τ 2 0 - 1) cn ce nu y md ch (by omega) (by omega) hG hy hch
    have f35 : ∀ σ, CT τ cn ce nu y md ch σ → ∃ σ', fn sc 35 [some (.inr (.inr 1)), some (.inr (.inr 50)), none, none] σ (some (.inl b)) σ' ∧ CT τ cn1 ce1 nu1 y1 md1 ch1 σ' ∧ kpC σ σ' := fun σ h => by
      obtain ⟨σ', l1, l2, l3⟩ := lc σ h
      refine ⟨σ', fun Q hQ => rb_35_0_50 ?_, l1, l2⟩
      rw [show σ 2 0 = τ 2 0 from congrFun (h.1.1 2 (by omega)) 0]
      exact l3 Q none hQ
    have f171 : ∀ σ, RT τ cn ce nu y md ch σ → ∃ σ', fn sc 171 [some (.inr (.inr 59)), none, none] σ (some (.inl b)) σ' ∧ RT τ cn1 ce1 nu1 y1 md1 ch1 σ' ∧ kpR σ σ' := fun σ h => by
      obtain ⟨σ', l1, l2, l3⟩ := lr σ h
      refine ⟨σ', fun Q hQ => rb_171_0 ?_, l1, l2⟩
      rw [show σ 59 1 = τ 2 0 from h.1.2.1.trans s1]
      exact l3 Q none hQ
    by_cases hb : b = 0
    · subst hb
      refine ⟨0, cn1, ce1, nu1, y1, md1, ch1, ⟨o1, o2, o3, o4, o5.1, by omega⟩, fun σ h => ?_, fun σ h => ?_⟩
      · obtain ⟨σ', l1, l2, l3⟩ := f35 σ h
        exact ⟨σ', fun Q hQ => rb_34_0_50 ⟨⟨rop, r4⟩, fun _ => ⟨⟨rop, r5⟩, fun z => absurd (show op = 5 by omega) z, fun _ => fn_ret l1 (rb_34_13_50 ⟨rr0, fun _ => ⟨z01, hQ⟩, fun z => absurd rfl z⟩)⟩, fun _ => fn_ret l1 (rb_34_6_50 ⟨z01, hQ⟩)⟩, l2, l3⟩
      · obtain ⟨σ', l1, l2, l3⟩ := f171 _ h
        exact ⟨σ', l2, l3, fun Q _ q0 => rb_172_35 ⟨⟨rop, r4⟩, fun _ => fn_ret l1 (rb_172_47 ⟨rr0, fun _ => ⟨rr0, fun _ => q0 rfl 0, fun z => absurd rfl z⟩, fun z => absurd rfl z⟩), fun z => absurd (show 4 ≤ op by omega) z⟩⟩
    · have hb1 : b = 1 := by omega
      subst hb1
      by_cases h5 : op = 4
      · refine ⟨1, cn1, ce1, nu1, y1, md1, ch1, ⟨o1, o2, o3, o4, o5.1, by omega⟩, fun σ h => ?_, fun σ h => ?_⟩
        · obtain ⟨σ', l1, l2, l3⟩ := f35 σ h
          exact ⟨σ', fun Q hQ => rb_34_0_50 ⟨⟨rop, r4⟩, fun z => absurd h5 z, fun _ => fn_ret l1 (rb_34_6_50 ⟨z11, hQ⟩)⟩, l2, l3⟩
        · obtain ⟨σ', l1, l2, l3⟩ := f171 _ h
          exact ⟨σ', l2, l3, fun Q q1 _ => rb_172_35 ⟨⟨rop, r4⟩, fun _ => fn_ret l1 (rb_172_47 ⟨rr1, fun z => absurd z h10, fun _ => ⟨⟨rop, r4⟩, fun _ => ⟨rr1, fun z => absurd z h10, fun _ => q1 rfl⟩, fun z => absurd h5 z⟩⟩), fun z => absurd (show 4 ≤ op by omega) z⟩⟩
      · obtain ⟨b2, cn2, ce2, nu2, y2, md2, ch2, ⟨p1, p2, p3, p4, p5⟩, kc, kr⟩ := ld_all_50 (sc := sc) hS hD hO hO3 (op := 0) ⟨by decide, by decide⟩ hq (τ 2 0).toNat 0 cn1 ce1 nu1 y1 md1 ch1 (by decide) (by omega) o2 o3 o4
        refine ⟨b2, cn2, ce2, nu2, y2, md2, ch2, ⟨p1, p2, p3, p4, by omega, by omega⟩, fun σ h => ?_, fun σ h => ?_⟩
        · obtain ⟨σ1, l1, l2, l3⟩ := f35 σ h
          obtain ⟨σ2, j1, j2, j3⟩ := kc σ1 l2
          refine ⟨σ2, fun Q hQ => rb_34_0_50 ⟨⟨rop, r4⟩, fun _ => ⟨⟨rop, r5⟩, fun z => absurd (show op = 5 by omega) z, fun _ => fn_ret l1 (rb_34_13_50 ⟨rr1, fun z => absurd z h10, fun _ => ai_ret_q (rb_39_0_50 (j3 _ none none (ai_k_in (rb_34_18_50 ⟨⟨by omega, by omega⟩, fun z => ⟨z01, ?_⟩, fun z => ⟨z11, ?_⟩⟩))))⟩)⟩, fun z => absurd h5 z⟩, j1, kpC_trans l3 j2⟩
          · have e : b2 = 0 := z
            rw [e] at hQ
            exact hQ
          · have e : b2 = 1 := by
              have : ¬ b2 = 0 := z
              omega
            rw [e] at hQ
            exact hQ
        · obtain ⟨σ1, l1, l2, l3⟩ := f171 _ h
          obtain ⟨σ2, j1, j2, j3⟩ := kr σ1 l2
          refine ⟨σ2, j1, kpR_trans l3 j2, fun Q q1 q0 => rb_172_35 ⟨⟨rop, r4⟩, fun _ => fn_ret l1 (rb_172_47 ⟨rr1, fun z => absurd z h10, fun _ => ⟨⟨rop, r4⟩, fun z => absurd z h5, fun _ => ai_ret_q (rb_168_0 (j3 _ none none none (ai_k_in (rb_172_54 ⟨⟨by omega, by omega⟩, fun z => ⟨rr0, fun _ => q0 z 0, fun z2 => absurd rfl z2⟩, fun z => ⟨rr1, fun z2 => absurd z2 h10, fun _ => q1 (by have : ¬ b2 = 0 := z; omega)⟩⟩))))⟩⟩), fun z => absurd (show 4 ≤ op by omega) z⟩⟩
/-- what apply may change -/
def FA (σ σ2 : ai_S) : Prop := (∀ p : Nat, ¬ (p = 1 ∨ p = 3 ∨ (9 ≤ p ∧ p ≤ 12) ∨ p = 27 ∨ (29 ≤ p ∧ p ≤ 33) ∨ p = 59 ∨ (64 ≤ p ∧ p ≤ 70) ∨ (84 ≤ p ∧ p ≤ 87) ∨ p = 91) → σ2 p = σ p) ∧ (∀ j, ¬ (j = 0 ∨ j = 14 ∨ j = 37) → σ2 59 j = σ 59 j) ∧ σ2 12 0 = σ 12 0 ∧ (∀ j, 0 ≤ j → j < 15 → σ2 69 j = σ 69 j) ∧ (∀ j, 0 ≤ j → j < 900 → σ2 67 j = σ 67 j ∧ σ2 68 j = σ 68 j) ∧ (∀ j, 0 ≤ j → j < 3 → σ2 70 j = σ 70 j)
theorem FA_trans {a b c : ai_S} (h : FA a b) (g : FA b c) : FA a c := ⟨fun p hp => (g.1 p hp).trans (h.1 p hp), fun j hj => (g.2.1 j hj).trans (h.2.1 j hj), g.2.2.1.trans h.2.2.1, fun j x y => (g.2.2.2.1 j x y).trans (h.2.2.2.1 j x y), fun j x y => ⟨(g.2.2.2.2.1 j x y).1.trans (h.2.2.2.2.1 j x y).1, (g.2.2.2.2.1 j x y).2.trans (h.2.2.2.2.1 j x y).2⟩, fun j x y => (g.2.2.2.2.2 j x y).trans (h.2.2.2.2.2 j x y)⟩
theorem FA_C {σ σ' : ai_S} (k : kpC σ σ') : FA σ σ' := ⟨fun p hp => k.1 p (by omega), fun j _ => congrFun (k.1 59 (by omega)) j, k.2.2 0 (by decide), fun j _ _ => congrFun (k.1 69 (by omega)) j, fun j _ _ => ⟨congrFun (k.1 67 (by omega)) j, congrFun (k.1 68 (by omega)) j⟩, fun j _ _ => congrFun (k.1 70 (by omega)) j⟩
theorem FA_R {σ σ' : ai_S} (k : kpR σ σ') : FA σ σ' := ⟨fun p hp => k.1 p (by omega), fun j hj => k.2 j (by omega), congrFun (k.1 12 (by omega)) 0, fun j _ _ => congrFun (k.1 69 (by omega)) j, fun j _ _ => ⟨congrFun (k.1 67 (by omega)) j, congrFun (k.1 68 (by omega)) j⟩, fun j _ _ => congrFun (k.1 70 (by omega)) j⟩
theorem FA_at {σ σ' : ai_S} {p : Nat} (hp : p = 1 ∨ p = 3 ∨ (9 ≤ p ∧ p ≤ 11) ∨ p = 27 ∨ (29 ≤ p ∧ p ≤ 33) ∨ (64 ≤ p ∧ p ≤ 66) ∨ (84 ≤ p ∧ p ≤ 87) ∨ p = 91) (h : ∀ q : Nat, ¬ q = p → σ' q = σ q) : FA σ σ' := ⟨fun q hq => h q (by omega), fun j _ => congrFun (h 59 (by omega)) j, congrFun (h 12 (by omega)) 0, fun j _ _ => congrFun (h 69 (by omega)) j, fun j _ _ => ⟨congrFun (h 67 (by omega)) j, congrFun (h 68 (by omega)) j⟩, fun j _ _ => congrFun (h 70 (by omega)) j⟩
theorem FA_59 {σ : ai_S} {i v : Int} (hi : i = 0 ∨ i = 14 ∨ i = 37) : FA σ (ai_set σ 59 i v) := ⟨fun q hq => set_ne (by omega), fun j hj => st_ix (by omega), congrFun (set_ne (by decide)) 0, fun j _ _ => congrFun (set_ne (by decide)) j, fun j _ _ => ⟨congrFun (set_ne (by decide)) j, congrFun (set_ne (by decide)) j⟩, fun j _ _ => congrFun (set_ne (by decide)) j⟩
theorem FA_12 {σ : ai_S} {v : Int} : FA σ (ai_set σ 12 1 v) := ⟨fun q hq => set_ne (by omega), fun j hj => congrFun (set_ne (by decide)) j, st_ix (by decide), fun j _ _ => congrFun (set_ne (by decide)) j, fun j _ _ => ⟨congrFun (set_ne (by decide)) j, congrFun (set_ne (by decide)) j⟩, fun j _ _ => congrFun (set_ne (by decide)) j⟩
theorem cpy_ne {σ : ai_S} {p q r : Nat} {a b n : Int} (h : ¬ r = q) : ai_cpy σ p q a b n r = σ r := funext (fun _ => if_neg h)
/-- the snapshot of slot 3 -/
def KP (σ : ai_S) : ai_S := ai_set (up (up (up σ 67 (cpf (σ 67) (σ 65) (300 * 3) 300)) 68 (cpf (σ 68) (σ 66) (300 * 3) 300)) 69 (cpf (σ 69) (σ 64) (5 * 3) 5)) 70 3 (σ 59 14)
def UN (σ : ai_S) : ai_S := ai_set (up (up (up σ 65 (cpg (σ 65) (σ 67) (300 * 3) 300)) 66 (cpg (σ 66) (σ 68) (300 * 3) 300)) 64 (cpg (σ 64) (σ 69) (5 * 3) (σ 59 1))) 59 14 (σ 70 3)
theorem KP_ne {σ : ai_S} {p : Nat} (h : ¬ (67 ≤ p ∧ p ≤ 70)) : KP σ p = σ p := (set_ne (by omega)).trans ((up_ne (by omega)).trans ((up_ne (by omega)).trans (up_ne (by omega))))
theorem FA_KP {σ : ai_S} : FA σ (KP σ) := by
  refine ⟨fun p hp => KP_ne (by omega), fun j _ => congrFun (KP_ne (by omega)) j, congrFun (KP_ne (by omega)) 0, fun j x y => ?_, fun j x y => ⟨?_, ?_⟩, fun j x y => ?_⟩
  · show cpf (σ 69) (σ 64) (5 * 3) 5 j = σ 69 j
    unfold cpf
    exact if_neg (by omega)
  · show cpf (σ 67) (σ 65) (300 * 3) 300 j = σ 67 j
    unfold cpf
    exact if_neg (by omega)
  · show cpf (σ 68) (σ 66) (300 * 3) 300 j = σ 68 j
    unfold cpf
    exact if_neg (by omega)
  · exact if_neg (by omega)
theorem FA_UN {σ : ai_S} : FA σ (UN σ) := FA_trans (FA_trans (FA_trans (FA_at (p := 65) (by omega) (fun q hq => up_ne hq)) (FA_at (p := 66) (by omega) (fun q hq => up_ne hq))) (FA_at (p := 64) (by omega) (fun q hq => up_ne hq))) (FA_59 (by omega))
def SB (σ : ai_S) : ai_S := up (ai_set (ai_set (ai_cpy (ai_cpy (ai_cpy σ 9 29 0 0 5) 10 30 0 0 300) 11 31 0 0 60) 1 7 (σ 12 1)) 1 4 0) 27 (wy (σ 27) 0 (-1) (-1) (-1))
theorem SB_ne {σ : ai_S} {p : Nat} (h : ¬ (p = 1 ∨ p = 27 ∨ (29 ≤ p ∧ p ≤ 31))) : SB σ p = σ p := (up_ne (by omega)).trans ((set_ne (by omega)).trans ((set_ne (by omega)).trans ((cpy_ne (by omega)).trans ((cpy_ne (by omega)).trans (cpy_ne (by omega))))))
theorem FA_SB {σ : ai_S} : FA σ (SB σ) := ⟨fun p hp => SB_ne (by omega), fun j _ => congrFun (SB_ne (by omega)) j, congrFun (SB_ne (by omega)) 0, fun j _ _ => congrFun (SB_ne (by omega)) j, fun j _ _ => ⟨congrFun (SB_ne (by omega)) j, congrFun (SB_ne (by omega)) j⟩, fun j _ _ => congrFun (SB_ne (by omega)) j⟩
def BK (σ : ai_S) : ai_S := ai_set (ai_cpy (ai_cpy (ai_cpy σ 29 9 0 0 5) 30 10 0 0 300) 31 11 0 0 60) 12 1 (σ 1 7)
theorem BK_ne {σ : ai_S} {p : Nat} (h : ¬ (9 ≤ p ∧ p ≤ 12)) : BK σ p = σ p := (set_ne (by omega)).trans ((cpy_ne (by omega)).trans ((cpy_ne (by omega)).trans (cpy_ne (by omega))))
theorem FA_BK {σ : ai_S} : FA σ (BK σ) := FA_trans (FA_trans (FA_trans (FA_at (p := 9) (by omega) (fun q hq => cpy_ne hq)) (FA_at (p := 10) (by omega) (fun q hq => cpy_ne hq))) (FA_at (p := 11) (by omega) (fun q hq => cpy_ne hq))) FA_12
theorem cl_start {sc : Int × (Int → Int)} {σ : ai_S} : fn sc 32 [some (.inr (.inr 1))] σ none (SB σ) := fun _ hQ => rb_32_0 (ai_ret_q (rb_115_0_28_8 ⟨by decide, by decide, by decide, ai_k_in (rb_32_5 (fn_ret cf_setf (rb_32_19 hQ)))⟩))
theorem cl_back {sc : Int × (Int → Int)} {σ : ai_S} : fn sc 33 [some (.inr (.inr 1))] σ none (BK σ) := fun _ hQ => rb_33_0 (ai_ret_q (rb_115_0_8_28 ⟨by decide, by decide, by decide, ai_k_in (rb_33_5 hQ)⟩))
theorem rsn_ext {i o T : Int} {w ty pa cn ce nu om ov on sg ol om' ov' on' ol' : Int → Int} (hi : 0 ≤ i ∧ i < 3) (h : RSn i o T w ty pa cn ce nu om ov on sg ol) (a : ∀ j, 0 ≤ j → j < 15 → om' j = om j) (b : ∀ j, 0 ≤ j → j < 900 → ov' j = ov j ∧ on' j = on j) (c : ∀ j, 0 ≤ j → j < 3 → ol' j = ol j) : RSn i o T w ty pa cn ce nu om' ov' on' sg ol' := by
  refine ⟨h.1, fun q => ?_⟩
  obtain ⟨⟨g1, g2, g3⟩, g4, g5, g6⟩ := h.2 q
  refine ⟨⟨fun t x y => ?_, fun j x y => ?_, fun k l x y z u => ?_⟩, g4, (c i hi.1 hi.2).trans g5, g6⟩
  · rw [a _ (by omega) (by omega)]
    exact g1 t x y
  · rw [(b _ (by omega) (by omega)).1]
    exact g2 j x y
  · rw [(b _ (by omega) (by omega)).2]
    exact g3 k l x y z u
theorem rel_apply {σ σ2 : ai_S} (hR : Rel σ) (hF : FA σ σ2) (hq : σ2 84 = σ2 3 ∧ ∀ k, 0 ≤ σ2 3 k ∧ σ2 3 k < 5) (hE : EqS (σ2 9) (σ2 10) (σ2 11) (σ2 64) (σ2 65) (σ2 66)) (hG : GS (σ 2 0) (σ 4) (σ 5) (σ 6) (σ2 9) (σ2 10) (σ2 11)) (hL : 0 < σ 12 0 → σ2 59 14 = σ2 12 1 ∧ 0 ≤ σ2 12 1 ∧ σ2 12 1 ≤ 200) (hx : 0 ≤ σ2 32 1 ∧ σ2 32 1 < 32) (hy : σ2 85 = σ2 27 ∧ ∀ j, ai_r (σ2 27 j)) : Rel σ2 := by
  obtain ⟨⟨s1, s2, s3, s4, s5, s6, s7, s8, s9, s10, s11, s12⟩, ⟨t1, t4⟩, ⟨l1, l2, l3⟩, n0, n1, n2, hX, ⟨f1, f2, f3, f4, f5, f6, f7⟩, hD, hC, hW⟩ := hR
  obtain ⟨F1, F2, F3, F4, F5, F6⟩ := hF
  unfold Rel
  rw [F3]
  simp only [F1 0 (by omega), F1 2 (by omega), F1 4 (by omega), F1 5 (by omega), F1 6 (by omega), F1 7 (by omega), F1 15 (by omega), F1 16 (by omega), F1 17 (by omega), F1 19 (by omega), F1 20 (by omega), F1 21 (by omega), F1 23 (by omega), F1 24 (by omega), F1 25 (by omega), F1 26 (by omega), F1 34 (by omega), F1 35 (by omega), F1 36 (by omega), F1 37 (by omega), F1 38 (by omega), F1 39 (by omega), F1 40 (by omega), F1 41 (by omega), F1 42 (by omega), F1 43 (by omega), F1 44 (by omega), F1 45 (by omega), F1 46 (by omega), F1 47 (by omega), F1 48 (by omega), F1 49 (by omega), F1 50 (by omega), F1 51 (by omega), F1 52 (by omega), F1 53 (by omega), F1 54 (by omega), F1 55 (by omega), F1 56 (by omega), F1 57 (by omega), F1 58 (by omega), F1 60 (by omega), F1 61 (by omega), F1 62 (by omega), F1 63 (by omega), F1 71 (by omega), F1 72 (by omega), F1 73 (by omega), F1 74 (by omega), F1 75 (by omega), F1 76 (by omega), F1 77 (by omega), F1 83 (by omega), F1 88 (by omega), F1 89 (by omega), F1 90 (by omega), F2 1 (by omega), F2 13 (by omega), F2 15 (by omega), F2 18 (by omega), F2 19 (by omega), F2 20 (by omega), F2 21 (by omega), F2 41 (by omega), F2 42 (by omega), F2 45 (by omega)]
  exact ⟨⟨s1, s2, s3, s4, s5, s6, hq.1, s8, s9, s10, s11, hq.2⟩, ⟨hE, hG⟩, ⟨l1, l2, hL⟩, rsn_ext (by omega) n0 F4 F5 F6, rsn_ext (by omega) n1 F4 F5 F6, rsn_ext (by omega) n2 F4 F5 F6, hX, ⟨f1, f2, hy.1, hy.2, hx, f6, f7⟩, hD, hC, hW⟩
theorem eqn3 {cn ce nu mn vl no om ov on : Int → Int} (h : EqS cn ce nu mn vl no) : EqN 3 cn ce nu (cpf om mn (5 * 3) 5) (cpf ov vl (300 * 3) 300) (cpf on no (300 * 3) 300) := by
  obtain ⟨h1, h2, h3⟩ := h
  refine ⟨fun t x y => ?_, fun j x y => ?_, fun q c x y z u => ?_⟩
  · unfold cpf
    rw [if_pos (by omega), h1, show 5 * 3 + t - 5 * 3 = t by omega]
  · unfold cpf
    rw [if_pos (by omega), h2, show 300 * 3 + j - 300 * 3 = j by omega]
  · unfold cpf
    rw [if_pos (by omega), show 300 * 3 + (5 * q + c) - 300 * 3 = 5 * q + c by omega]
    exact h3 q c x y z u
theorem tn_apply_41 {sc : Int × (Int → Int)} {σ : ai_S} {v : Int} (hR : Rel σ) (hv : 0 ≤ v ∧ v ≤ 5) (hd : σ 0 4 = 41) (hk : σ 0 6 = 1) {g : Int → Int} (hA : Arr (σ 2 0) (σ 4) (σ 6) (σ 2 0).toNat 0 0 (σ 3) 1 g) (hg : ∀ j, 0 ≤ g j ∧ g j < 5) : ∃ k x σ1 σ2, fn sc 195 [some (.inr (.inr 0)), some (.inl v), some (.inr (.inr 91)), none] σ (some (.inl k)) σ1 ∧ fn sc 172 [some (.inr (.inr 59)), some (.inl v), none] σ1 (some (.inl x)) σ2 ∧ σ2 59 0 = k ∧ (0 ≤ k ∧ k ≤ 3) ∧ ai_r x ∧ (k = 0 → σ2 91 0 = x) ∧ Rel σ2 := by
  have hRt : Rel (up (up σ 3 g) 84 g) := rel_seq hR hg
  obtain ⟨⟨s1, s2, s3, s4, s5, s6, s7, s8, s9, s10, s11, s12⟩, ⟨t1, t4⟩, ⟨l1, l2, l3⟩, n0, n1, n2, hX, ⟨f1, f2, f3, f4, f5, f6, f7⟩, ⟨q1, q2, q3, q4⟩, hC, hW⟩ := id hR
  have hS : RSch (up (up σ 3 g) 84 g 2 0) (up (up σ 3 g) 84 g 59 1) (up (up σ 3 g) 84 g 4) (up (up σ 3 g) 84 g 60) (up (up σ 3 g) 84 g 5) (up (up σ 3 g) 84 g 61) (up (up σ 3 g) 84 g 7) (up (up σ 3 g) 84 g 62) (up (up σ 3 g) 84 g 6) (up (up σ 3 g) 84 g 63) (up (up σ 3 g) 84 g 3) (up (up σ 3 g) 84 g 84) := hRt.1
  have hDS := (q4 hk).1 hd
  obtain ⟨τ, hτ⟩ : ∃ τ, τ = up (up σ 3 g) 84 g := ⟨_, rfl⟩
  have y0r : ∀ j, ai_r (wy (σ 27) 0 (-1) (-1) (-1) j) := wy_r f4 rr0 rm1 rm1 rm1
  have hpf := pf_41 (sc := sc) (τ := τ) (op := v) (cn := σ 9) (ce := σ 10) (nu := σ 11) (y := wy (σ 27) 0 (-1) (-1) (-1)) (md := 0) (ch := σ 12 1) (by rw [hτ]; exact hS) (by rw [hτ]; exact hDS) (by rw [hτ]; exact l1) (by rw [hτ]; exact l2) hv (fun j _ _ => by rw [hτ]; exact hg j) (by rw [hτ]; exact t4) y0r (fun q => by rw [hτ] at q; exact (l3 q).2)
  obtain ⟨b, cn', ce', nu', y', md', ch', ⟨o1, o2, o3, o4, o5⟩, lc, lr⟩ := hpf
  -- the class
  have c0 : CT τ (σ 9) (σ 10) (σ 11) (wy (σ 27) 0 (-1) (-1) (-1)) 0 (σ 12 1) (up (SB σ) 3 g) := by
    refine ⟨⟨fun p hp => ?_, ?_⟩, ⟨rfl, rfl, rfl, rfl⟩, rfl, fun _ => rfl, f5⟩
    · rw [hτ]
      by_cases e : p = 3
      · subst e
        rfl
      · exact (up_ne e).trans ((SB_ne (by omega)).trans ((up_ne (by omega)).trans (up_ne e)).symm)
    · rw [hτ]
      rfl
  obtain ⟨σC, m1, m2, m3⟩ := lc _ c0
  have cpre : ∀ Q : ai_O → Prop, ai_wp sc 8 37 [some (.inr (.inr 0)), some (.inl v)] [.inl b] (0, 0) (92, [], σC) Q → ai_wp sc 8 0 [some (.inr (.inr 0)), some (.inl v)] [] (0, 0) (92, [], σ) Q := by
    intro Q hK
    refine rb_8_0 (fn_ret cl_start (rb_8_3 ⟨⟨by omega, by omega⟩, fun z => absurd z (by omega), fun _ => ⟨⟨⟨by omega, by omega⟩, ⟨by decide, by decide⟩⟩, fun _ => fn_ret (cf_arrange (σ := SB σ) (b := 1) (g := g) s2 s8 s11 hA) (rb_8_17 ⟨rr1, fun _ => ⟨(show ai_r (σ 0 6) by rw [hk]; exact rr1), fun _ => ?_, fun z => absurd (show ¬ σ 0 6 = 0 by omega) z⟩, fun z => absurd (show ¬ (1 : Int) = 0 by decide) z⟩), fun z => absurd hv.2 z⟩⟩))
    have e : (up (SB σ) 3 g 0 4).toNat = 41 := by
      show (σ 0 4).toNat = 41
      rw [hd]
      rfl
    rw [e]
    exact rb_8_36_41 (fn_ret m1 hK)
  have FC0 : FA σ (up (SB σ) 3 g) := FA_trans FA_SB (FA_at (p := 3) (by omega) (fun q hq => up_ne hq))
  have FCC : FA σ σC := FA_trans FC0 (FA_C m3)
  -- the reference, from a state that the class has left
  have rpre : ∀ σ1 : ai_S, (∀ p : Nat, 59 ≤ p → ¬ p = 91 → σ1 p = σ p) → ∃ σR, RT τ cn' ce' nu' y' md' ch' σR ∧ kpR (ai_set (KP (ai_set (up (up σ1 85 (wy (σ1 85) 0 (-1) (-1) (-1))) 84 g) 59 0 0)) 59 37 0) σR ∧ ∀ Q : ai_O → Prop, (b = 1 → Q (.inl (some (.inl (σR 59 37))), (92, [], σR))) → (b = 0 → Q (.inl (some (.inl 0)), (92, [], ai_set (UN σR) 59 0 3))) → ai_wp sc 172 0 [some (.inr (.inr 59)), some (.inl v), none] [] (0, 0) (92, [], σ1) Q := by
    intro σ1 hp
    have r0 : RT τ (σ 9) (σ 10) (σ 11) (wy (σ 27) 0 (-1) (-1) (-1)) 0 (σ 12 1) (ai_set (KP (ai_set (up (up σ1 85 (wy (σ1 85) 0 (-1) (-1) (-1))) 84 g) 59 0 0)) 59 37 0) := by
      have e59 : ∀ j, ¬ j = 0 → ¬ j = 37 → (ai_set (KP (ai_set (up (up σ1 85 (wy (σ1 85) 0 (-1) (-1) (-1))) 84 g) 59 0 0)) 59 37 0) 59 j = σ 59 j := fun j j0 j1 => by
        rw [st_ix j1, KP_ne (by omega), st_ix j0, up_ne (by omega), up_ne (by omega), hp 59 (by omega) (by omega)]
      have eo : ∀ p : Nat, 59 < p → ¬ p = 91 → ¬ (67 ≤ p ∧ p ≤ 70) → ¬ p = 84 → ¬ p = 85 → (ai_set (KP (ai_set (up (up σ1 85 (wy (σ1 85) 0 (-1) (-1) (-1))) 84 g) 59 0 0)) 59 37 0) p = σ p := fun p a1 a2 a3 a4 a5 => by
        rw [set_ne (by omega), KP_ne a3, set_ne (by omega), up_ne a4, up_ne a5, hp p (by omega) a2]
      refine ⟨⟨fun p hpp => ?_, ?_, ?_, ?_, ?_⟩, ?_, ?_, rfl, fun q => ?_⟩
      · by_cases e : p = 84
        · subst e
          rw [hτ]
          rfl
        · rw [eo p (by omega) (by omega) (by omega) e (by omega), hτ]
          exact ((up_ne e).trans (up_ne (by omega))).symm
      · rw [e59 1 (by decide) (by decide), hτ]
        rfl
      · rw [e59 13 (by decide) (by decide), hτ]
        rfl
      · rw [e59 20 (by decide) (by decide), hτ]
        rfl
      · rw [e59 21 (by decide) (by decide), hτ]
        rfl
      · rw [eo 64 (by omega) (by omega) (by omega) (by omega) (by omega), eo 65 (by omega) (by omega) (by omega) (by omega) (by omega), eo 66 (by omega) (by omega) (by omega) (by omega) (by omega)]
        exact t1
      · show wy (σ1 85) 0 (-1) (-1) (-1) = wy (σ 27) 0 (-1) (-1) (-1)
        rw [hp 85 (by omega) (by omega), f3]
      · rw [hτ] at q
        rw [e59 14 (by decide) (by decide)]
        exact (l3 q).1
    obtain ⟨σR, u1, u2, u3⟩ := lr _ r0
    refine ⟨σR, u1, u2, fun Q h1 h0 => ?_⟩
    have i1 : σ1 59 = σ 59 := hp 59 (by omega) (by omega)
    have hnb : ∀ j, 0 ≤ j → j < 300 → 0 ≤ σ1 66 j ∧ σ1 66 j ≤ 1 := by
      rw [hp 66 (by omega) (by omega)]
      exact no01 t1
    have hT1 : 0 ≤ σ1 59 1 ∧ σ1 59 1 ≤ 5 := by
      rw [i1]
      omega
    have hA2 : Arr (σ1 59 1) (σ1 60) (σ1 63) (σ1 59 1).toNat 0 0 (σ1 84) 1 g := by
      rw [i1, hp 60 (by omega) (by omega), hp 63 (by omega) (by omega), hp 84 (by omega) (by omega), s1, s3, s6, s7]
      exact hA
    have h19 : σ1 59 19 = 1 := by
      rw [i1]
      exact q2.trans hk
    refine rb_172_0 (fn_ret rf_because (rb_172_6 ⟨⟨by omega, by omega⟩, fun z => absurd z (by omega), fun _ => ⟨⟨⟨by omega, by omega⟩, ⟨by decide, by decide⟩⟩, fun _ => fn_ret (rf_ordered (σ := up σ1 85 (wy (σ1 85) 0 (-1) (-1) (-1))) (b := 1) (g := g) hT1 (by rw [show (up σ1 85 (wy (σ1 85) 0 (-1) (-1) (-1))) 60 = σ1 60 from rfl, hp 60 (by omega) (by omega), s3]; exact s8) (by rw [show (up σ1 85 (wy (σ1 85) 0 (-1) (-1) (-1))) 63 = σ1 63 from rfl, hp 63 (by omega) (by omega), s6]; exact s11) hA2) (rb_172_17 ⟨rr1, fun _ => ⟨(show ai_r (σ1 59 19) by rw [h19]; exact rr1), fun _ => ⟨rr0, fun _ => fn_ret (rf_keep (σ := ai_set (up (up σ1 85 (wy (σ1 85) 0 (-1) (-1) (-1))) 84 g) 59 0 0) (s := 3) ⟨by decide, by decide⟩ hnb) ?_, fun z => absurd (Int.le_refl 0) z⟩, fun z => absurd (show ¬ σ1 59 19 = 0 by omega) z⟩, fun z => absurd (show ¬ (1 : Int) = 0 by decide) z⟩), fun z => absurd hv.2 z⟩⟩))
    refine u3 Q h1 (fun e x => ?_)
    have e1 : σR 59 1 = σ1 59 1 := (u2.2 1 (by decide)).trans rfl
    have e68 : σR 68 = cpf (σ1 68) (σ1 66) (300 * 3) 300 := (u2.1 68 (by omega)).trans rfl
    refine fn_ret (rf_undo (σ := σR) (s := 3) ⟨by decide, by decide⟩ (by rw [e1]; exact hT1) (fun j j1 j2 => ?_)) (rb_172_67 (ai_ret_q (rb_128_0 (ai_k_in (rb_172_70 (h0 e))))))
    rw [e68]
    unfold cpf
    rw [if_pos (by omega), show 300 * 3 + j - 300 * 3 = j by omega]
    exact hnb j j1 j2
  have Ffin : ∀ σ1 σR : ai_S, kpR (ai_set (KP (ai_set (up (up σ1 85 (wy (σ1 85) 0 (-1) (-1) (-1))) 84 g) 59 0 0)) 59 37 0) σR → FA σ1 σR := fun σ1 σR h => FA_trans (FA_trans (FA_trans (FA_trans (FA_trans (FA_at (p := 85) (by omega) (fun q hq => up_ne hq)) (FA_at (p := 84) (by omega) (fun q hq => up_ne hq))) (FA_59 (by omega))) FA_KP) (FA_59 (by omega))) (FA_R h)
  -- a place of the class behind the reference
  have cls : ∀ (σ1 σR : ai_S) (p : Nat), kpR (ai_set (KP (ai_set (up (up σ1 85 (wy (σ1 85) 0 (-1) (-1) (-1))) 84 g) 59 0 0)) 59 37 0) σR → (p < 59 ∨ p = 91) → σR p = σ1 p := fun σ1 σR p h hp => by
    rw [h.1 p (by omega), set_ne (by omega), KP_ne (by omega), set_ne (by omega), up_ne (by omega), up_ne (by omega)]
  have refC : ∀ p : Nat, 59 ≤ p → σC p = σ p := fun p hp => (m3.1 p (by omega)).trans ((up_ne (by omega)).trans (SB_ne (by omega)))
  have g3 : σC 3 = g := (m3.1 3 (by omega)).trans rfl
  by_cases hb : b = 1
  · subst hb
    -- done
    have hmd : ai_r md' := ⟨by omega, by omega⟩
    have w1 : fn sc 8 [some (.inr (.inr 0)), some (.inl v)] σ (some (.inl md')) σC := fun Q hQ => cpre Q (rb_8_37_41 ⟨rr1, fun _ => (show Q (.inl (some (.inl (σC 1 4))), (92, [], σC)) by rw [m2.2.2.1]; exact hQ), fun z => absurd (show ¬ (1 : Int) = 0 by decide) z⟩)
    obtain ⟨σR, u1, u2, u3⟩ := rpre (ai_set σC 91 0 md') (fun p a1 a2 => (set_ne a2).trans (refC p a1))
    have FR := Ffin _ _ u2
    refine ⟨0, md', _, σR, wv_195 w1 hmd, fun Q hQ => u3 Q (fun _ => (by rw [u1.2.2.2.1]; exact hQ)) (fun z => absurd z (by decide)), ?_, ⟨by decide, by decide⟩, hmd, fun _ => ?_, ?_⟩
    · exact (u2.2 0 (by decide)).trans rfl
    · exact (congrFun (cls _ _ 91 u2 (Or.inr rfl)) 0).trans rfl
    · have FF : FA σ σR := FA_trans (FA_trans FCC (FA_at (p := 91) (by omega) (fun q hq => set_ne hq))) FR
      have a : ∀ p : Nat, p < 59 → σR p = σC p := fun p hp => (cls _ _ p u2 (Or.inl hp)).trans (set_ne (by omega))
      refine rel_apply hR FF ?_ ?_ ?_ (fun q => ?_) ?_ ?_
      · rw [a 3 (by omega), g3]
        exact ⟨(u2.1 84 (by omega)).trans rfl, hg⟩
      · rw [a 9 (by omega), a 10 (by omega), a 11 (by omega), m2.2.1.1, m2.2.1.2.1, m2.2.1.2.2.1]
        exact u1.2.1
      · rw [a 9 (by omega), a 10 (by omega), a 11 (by omega), m2.2.1.1, m2.2.1.2.1, m2.2.1.2.2.1]
        rw [hτ] at o2
        exact o2
      · have q2 : 0 < τ 12 0 := by
          rw [hτ]
          exact q
        rw [u1.2.2.2.2 q2, a 12 (by omega), m2.2.2.2.1 q2]
        exact ⟨rfl, o4 q2⟩
      · rw [a 32 (by omega)]
        exact m2.2.2.2.2
      · rw [a 27 (by omega), u1.2.2.1, m2.2.1.2.2.2]
        exact ⟨rfl, o3⟩
  · have hb0 : b = 0 := by omega
    subst hb0
    -- taken back
    have w1 : th sc 8 [some (.inr (.inr 0)), some (.inl v)] σ 0 (BK σC) := fun Q hQ => cpre Q (rb_8_37_41 ⟨rr0, fun z => absurd rfl z, fun _ => fn_ret cl_back (rb_8_41_41 hQ)⟩)
    obtain ⟨σR, u1, u2, u3⟩ := rpre (BK σC) (fun p a1 a2 => (BK_ne (by omega)).trans (refC p a1))
    have FR := Ffin _ _ u2
    refine ⟨3, 0, _, ai_set (UN σR) 59 0 3, wx_195_0 w1, fun Q hQ => u3 Q (fun z => absurd z (by decide)) (fun _ => hQ), rfl, ⟨by decide, by decide⟩, rr0, fun z => absurd z (by decide), ?_⟩
    have FF : FA σ (ai_set (UN σR) 59 0 3) := FA_trans (FA_trans (FA_trans (FA_trans FCC FA_BK) FR) FA_UN) (FA_59 (by omega))
    have a : ∀ p : Nat, p < 59 → (ai_set (UN σR) 59 0 3) p = (BK σC) p := fun p hp => by
      rw [set_ne (by omega)]
      unfold UN
      rw [set_ne (by omega), up_ne (by omega), up_ne (by omega), up_ne (by omega)]
      exact cls _ _ p u2 (Or.inl hp)
    have b29 : ∀ j, 0 ≤ j → j < 5 → σC 29 j = σ 9 j := fun j j1 j2 => by
      rw [m3.1 29 (by omega)]
      show (if 0 ≤ j ∧ j < 0 + 5 then σ 9 (0 + (j - 0)) else σ 29 j) = σ 9 j
      rw [if_pos (by omega), show 0 + (j - 0) = j by omega]
    have b30 : ∀ j, 0 ≤ j → j < 300 → σC 30 j = σ 10 j := fun j j1 j2 => by
      rw [m3.1 30 (by omega)]
      show (if 0 ≤ j ∧ j < 0 + 300 then σ 10 (0 + (j - 0)) else σ 30 j) = σ 10 j
      rw [if_pos (by omega), show 0 + (j - 0) = j by omega]
    have b31 : ∀ j, 0 ≤ j → j < 60 → σC 31 j = σ 11 j := fun j j1 j2 => by
      rw [m3.1 31 (by omega)]
      show (if 0 ≤ j ∧ j < 0 + 60 then σ 11 (0 + (j - 0)) else σ 31 j) = σ 11 j
      rw [if_pos (by omega), show 0 + (j - 0) = j by omega]
    have e9 : (BK σC) 9 = fun j => if 0 ≤ j ∧ j < 0 + 5 then σ 9 (0 + (j - 0)) else cn' j := by
      funext j
      show (if 0 ≤ j ∧ j < 0 + 5 then σC 29 (0 + (j - 0)) else σC 9 j) = _
      by_cases z : 0 ≤ j ∧ j < 0 + 5
      · rw [if_pos z, if_pos z]
        exact b29 _ (by omega) (by omega)
      · rw [if_neg z, if_neg z, m2.2.1.1]
    have e10 : (BK σC) 10 = fun j => if 0 ≤ j ∧ j < 0 + 300 then σ 10 (0 + (j - 0)) else ce' j := by
      funext j
      show (if 0 ≤ j ∧ j < 0 + 300 then σC 30 (0 + (j - 0)) else σC 10 j) = _
      by_cases z : 0 ≤ j ∧ j < 0 + 300
      · rw [if_pos z, if_pos z]
        exact b30 _ (by omega) (by omega)
      · rw [if_neg z, if_neg z, m2.2.1.2.1]
    have e11 : (BK σC) 11 = fun j => if 0 ≤ j ∧ j < 0 + 60 then σ 11 (0 + (j - 0)) else nu' j := by
      funext j
      show (if 0 ≤ j ∧ j < 0 + 60 then σC 31 (0 + (j - 0)) else σC 11 j) = _
      by_cases z : 0 ≤ j ∧ j < 0 + 60
      · rw [if_pos z, if_pos z]
        exact b31 _ (by omega) (by omega)
      · rw [if_neg z, if_neg z, m2.2.1.2.2.1]
    have oG : GS (σ 2 0) (σ 4) (σ 5) (σ 6) cn' ce' nu' := by
      rw [hτ] at o2
      exact o2
    have rb : ∀ p : Nat, 59 ≤ p → (BK σC) p = σ p := fun p hp => (BK_ne (by omega)).trans (refC p hp)
    have n69 : σR 69 = cpf (σ 69) (σ 64) (5 * 3) 5 := by
      rw [u2.1 69 (by omega), ← rb 69 (by omega), ← rb 64 (by omega)]
      rfl
    have n67 : σR 67 = cpf (σ 67) (σ 65) (300 * 3) 300 := by
      rw [u2.1 67 (by omega), ← rb 67 (by omega), ← rb 65 (by omega)]
      rfl
    have n68 : σR 68 = cpf (σ 68) (σ 66) (300 * 3) 300 := by
      rw [u2.1 68 (by omega), ← rb 68 (by omega), ← rb 66 (by omega)]
      rfl
    have n70 : σR 70 3 = σ 59 14 := by
      rw [u2.1 70 (by omega), ← rb 59 (by omega)]
      rfl
    have n1' : σR 59 1 = σ 2 0 := by
      rw [u2.2 1 (by decide), ← s1, ← rb 59 (by omega)]
      rfl
    refine rel_apply hR FF ?_ ?_ ?_ (fun q => ?_) ?_ ?_
    · rw [a 3 (by omega)]
      refine ⟨?_, ?_⟩
      · show σR 84 = σC 3
        rw [g3]
        exact (u2.1 84 (by omega)).trans rfl
      · show ∀ k, 0 ≤ σC 3 k ∧ σC 3 k < 5
        rw [g3]
        exact hg
    · rw [a 9 (by omega), a 10 (by omega), a 11 (by omega), e9, e10, e11]
      show EqS _ _ _ (cpg (σR 64) (σR 69) (5 * 3) (σR 59 1)) (cpg (σR 65) (σR 67) (300 * 3) 300) (cpg (σR 66) (σR 68) (300 * 3) 300)
      rw [n69, n67, n68, n1']
      exact EqS_back s2 u1.2.1 (eqn3 t1) (fun t z1 z2 => oG.2.1 t z1 z2) (fun t z1 z2 => t4.2.1 t z1 z2)
    · rw [a 9 (by omega), a 10 (by omega), a 11 (by omega), e9, e10, e11]
      exact GS_copy t4 s8 s11 s2 oG.1 oG.2.2.1 oG.2.2.2.1
    · have e12 : (ai_set (UN σR) 59 0 3) 12 1 = σ 12 1 := by
        rw [a 12 (by omega)]
        show σC 1 7 = σ 12 1
        rw [m3.2.1 7 (by decide)]
        rfl
      have e14 : (ai_set (UN σR) 59 0 3) 59 14 = σ 59 14 := by
        show σR 70 3 = σ 59 14
        exact n70
      rw [e12, e14]
      exact l3 q
    · rw [a 32 (by omega), BK_ne (by omega)]
      exact m2.2.2.2.2
    · rw [a 27 (by omega), BK_ne (by omega), m2.2.1.2.2.2]
      refine ⟨?_, o3⟩
      show σR 85 = y'
      exact u1.2.2.1
theorem tn_apply_50 {sc : Int × (Int → Int)} {σ : ai_S} {v : Int} (hR : Rel σ) (hv : 0 ≤ v ∧ v ≤ 5) (hd : σ 0 4 = 50) (hk : σ 0 6 = 1) {g : Int → Int} (hA : Arr (σ 2 0) (σ 4) (σ 6) (σ 2 0).toNat 0 0 (σ 3) 1 g) (hg : ∀ j, 0 ≤ g j ∧ g j < 5) : ∃ k x σ1 σ2, fn sc 195 [some (.inr (.inr 0)), some (.inl v), some (.inr (.inr 91)), none] σ (some (.inl k)) σ1 ∧ fn sc 172 [some (.inr (.inr 59)), some (.inl v), none] σ1 (some (.inl x)) σ2 ∧ σ2 59 0 = k ∧ (0 ≤ k ∧ k ≤ 3) ∧ ai_r x ∧ (k = 0 → σ2 91 0 = x) ∧ Rel σ2 := by
  have hRt : Rel (up (up σ 3 g) 84 g) := rel_seq hR hg
  obtain ⟨⟨s1, s2, s3, s4, s5, s6, s7, s8, s9, s10, s11, s12⟩, ⟨t1, t4⟩, ⟨l1, l2, l3⟩, n0, n1, n2, hX, ⟨f1, f2, f3, f4, f5, f6, f7⟩, ⟨q1, q2, q3, q4⟩, hC, hW⟩ := id hR
  have hS : RSch (up (up σ 3 g) 84 g 2 0) (up (up σ 3 g) 84 g 59 1) (up (up σ 3 g) 84 g 4) (up (up σ 3 g) 84 g 60) (up (up σ 3 g) 84 g 5) (up (up σ 3 g) 84 g 61) (up (up σ 3 g) 84 g 7) (up (up σ 3 g) 84 g 62) (up (up σ 3 g) 84 g 6) (up (up σ 3 g) 84 g 63) (up (up σ 3 g) 84 g 3) (up (up σ 3 g) 84 g 84) := hRt.1
  have hDS := (q4 hk).2 hd
  obtain ⟨τ, hτ⟩ : ∃ τ, τ = up (up σ 3 g) 84 g := ⟨_, rfl⟩
  have y0r : ∀ j, ai_r (wy (σ 27) 0 (-1) (-1) (-1) j) := wy_r f4 rr0 rm1 rm1 rm1
  have hpf := pf_50 (sc := sc) (τ := τ) (op := v) (cn := σ 9) (ce := σ 10) (nu := σ 11) (y := wy (σ 27) 0 (-1) (-1) (-1)) (md := 0) (ch := σ 12 1) (by rw [hτ]; exact hS) (by rw [hτ]; exact hDS) (by rw [hτ]; exact l1) (by rw [hτ]; exact l2) hv (fun j _ _ => by rw [hτ]; exact hg j) (by rw [hτ]; exact t4) y0r (fun q => by rw [hτ] at q; exact (l3 q).2)
  obtain ⟨b, cn', ce', nu', y', md', ch', ⟨o1, o2, o3, o4, o5⟩, lc, lr⟩ := hpf
  -- the class
  have c0 : CT τ (σ 9) (σ 10) (σ 11) (wy (σ 27) 0 (-1) (-1) (-1)) 0 (σ 12 1) (up (SB σ) 3 g) := by
    refine ⟨⟨fun p hp => ?_, ?_⟩, ⟨rfl, rfl, rfl, rfl⟩, rfl, fun _ => rfl, f5⟩
    · rw [hτ]
      by_cases e : p = 3
      · subst e
        rfl
      · exact (up_ne e).trans ((SB_ne (by omega)).trans ((up_ne (by omega)).trans (up_ne e)).symm)
    · rw [hτ]
      rfl
  obtain ⟨σC, m1, m2, m3⟩ := lc _ c0
  have cpre : ∀ Q : ai_O → Prop, ai_wp sc 8 37 [some (.inr (.inr 0)), some (.inl v)] [.inl b] (0, 0) (92, [], σC) Q → ai_wp sc 8 0 [some (.inr (.inr 0)), some (.inl v)] [] (0, 0) (92, [], σ) Q := by
    intro Q hK
    refine rb_8_0 (fn_ret cl_start (rb_8_3 ⟨⟨by omega, by omega⟩, fun z => absurd z (by omega), fun _ => ⟨⟨⟨by omega, by omega⟩, ⟨by decide, by decide⟩⟩, fun _ => fn_ret (cf_arrange (σ := SB σ) (b := 1) (g := g) s2 s8 s11 hA) (rb_8_17 ⟨rr1, fun _ => ⟨(show ai_r (σ 0 6) by rw [hk]; exact rr1), fun _ => ?_, fun z => absurd (show ¬ σ 0 6 = 0 by omega) z⟩, fun z => absurd (show ¬ (1 : Int) = 0 by decide) z⟩), fun z => absurd hv.2 z⟩⟩))
    have e : (up (SB σ) 3 g 0 4).toNat = 50 := by
      show (σ 0 4).toNat = 50
      rw [hd]
      rfl
    rw [e]
    exact rb_8_36_50 (fn_ret m1 hK)
  have FC0 : FA σ (up (SB σ) 3 g) := FA_trans FA_SB (FA_at (p := 3) (by omega) (fun q hq => up_ne hq))
  have FCC : FA σ σC := FA_trans FC0 (FA_C m3)
  -- the reference, from a state that the class has left
  have rpre : ∀ σ1 : ai_S, (∀ p : Nat, 59 ≤ p → ¬ p = 91 → σ1 p = σ p) → ∃ σR, RT τ cn' ce' nu' y' md' ch' σR ∧ kpR (ai_set (KP (ai_set (up (up σ1 85 (wy (σ1 85) 0 (-1) (-1) (-1))) 84 g) 59 0 0)) 59 37 0) σR ∧ ∀ Q : ai_O → Prop, (b = 1 → Q (.inl (some (.inl (σR 59 37))), (92, [], σR))) → (b = 0 → Q (.inl (some (.inl 0)), (92, [], ai_set (UN σR) 59 0 3))) → ai_wp sc 172 0 [some (.inr (.inr 59)), some (.inl v), none] [] (0, 0) (92, [], σ1) Q := by
    intro σ1 hp
    have r0 : RT τ (σ 9) (σ 10) (σ 11) (wy (σ 27) 0 (-1) (-1) (-1)) 0 (σ 12 1) (ai_set (KP (ai_set (up (up σ1 85 (wy (σ1 85) 0 (-1) (-1) (-1))) 84 g) 59 0 0)) 59 37 0) := by
      have e59 : ∀ j, ¬ j = 0 → ¬ j = 37 → (ai_set (KP (ai_set (up (up σ1 85 (wy (σ1 85) 0 (-1) (-1) (-1))) 84 g) 59 0 0)) 59 37 0) 59 j = σ 59 j := fun j j0 j1 => by
        rw [st_ix j1, KP_ne (by omega), st_ix j0, up_ne (by omega), up_ne (by omega), hp 59 (by omega) (by omega)]
      have eo : ∀ p : Nat, 59 < p → ¬ p = 91 → ¬ (67 ≤ p ∧ p ≤ 70) → ¬ p = 84 → ¬ p = 85 → (ai_set (KP (ai_set (up (up σ1 85 (wy (σ1 85) 0 (-1) (-1) (-1))) 84 g) 59 0 0)) 59 37 0) p = σ p := fun p a1 a2 a3 a4 a5 => by
        rw [set_ne (by omega), KP_ne a3, set_ne (by omega), up_ne a4, up_ne a5, hp p (by omega) a2]
      refine ⟨⟨fun p hpp => ?_, ?_, ?_, ?_, ?_⟩, ?_, ?_, rfl, fun q => ?_⟩
      · by_cases e : p = 84
        · subst e
          rw [hτ]
          rfl
        · rw [eo p (by omega) (by omega) (by omega) e (by omega), hτ]
          exact ((up_ne e).trans (up_ne (by omega))).symm
      · rw [e59 1 (by decide) (by decide), hτ]
        rfl
      · rw [e59 13 (by decide) (by decide), hτ]
        rfl
      · rw [e59 20 (by decide) (by decide), hτ]
        rfl
      · rw [e59 21 (by decide) (by decide), hτ]
        rfl
      · rw [eo 64 (by omega) (by omega) (by omega) (by omega) (by omega), eo 65 (by omega) (by omega) (by omega) (by omega) (by omega), eo 66 (by omega) (by omega) (by omega) (by omega) (by omega)]
        exact t1
      · show wy (σ1 85) 0 (-1) (-1) (-1) = wy (σ 27) 0 (-1) (-1) (-1)
        rw [hp 85 (by omega) (by omega), f3]
      · rw [hτ] at q
        rw [e59 14 (by decide) (by decide)]
        exact (l3 q).1
    obtain ⟨σR, u1, u2, u3⟩ := lr _ r0
    refine ⟨σR, u1, u2, fun Q h1 h0 => ?_⟩
    have i1 : σ1 59 = σ 59 := hp 59 (by omega) (by omega)
    have hnb : ∀ j, 0 ≤ j → j < 300 → 0 ≤ σ1 66 j ∧ σ1 66 j ≤ 1 := by
      rw [hp 66 (by omega) (by omega)]
      exact no01 t1
    have hT1 : 0 ≤ σ1 59 1 ∧ σ1 59 1 ≤ 5 := by
      rw [i1]
      omega
    have hA2 : Arr (σ1 59 1) (σ1 60) (σ1 63) (σ1 59 1).toNat 0 0 (σ1 84) 1 g := by
      rw [i1, hp 60 (by omega) (by omega), hp 63 (by omega) (by omega), hp 84 (by omega) (by omega), s1, s3, s6, s7]
      exact hA
    have h19 : σ1 59 19 = 1 := by
      rw [i1]
      exact q2.trans hk
    refine rb_172_0 (fn_ret rf_because (rb_172_6 ⟨⟨by omega, by omega⟩, fun z => absurd z (by omega), fun _ => ⟨⟨⟨by omega, by omega⟩, ⟨by decide, by decide⟩⟩, fun _ => fn_ret (rf_ordered (σ := up σ1 85 (wy (σ1 85) 0 (-1) (-1) (-1))) (b := 1) (g := g) hT1 (by rw [show (up σ1 85 (wy (σ1 85) 0 (-1) (-1) (-1))) 60 = σ1 60 from rfl, hp 60 (by omega) (by omega), s3]; exact s8) (by rw [show (up σ1 85 (wy (σ1 85) 0 (-1) (-1) (-1))) 63 = σ1 63 from rfl, hp 63 (by omega) (by omega), s6]; exact s11) hA2) (rb_172_17 ⟨rr1, fun _ => ⟨(show ai_r (σ1 59 19) by rw [h19]; exact rr1), fun _ => ⟨rr0, fun _ => fn_ret (rf_keep (σ := ai_set (up (up σ1 85 (wy (σ1 85) 0 (-1) (-1) (-1))) 84 g) 59 0 0) (s := 3) ⟨by decide, by decide⟩ hnb) ?_, fun z => absurd (Int.le_refl 0) z⟩, fun z => absurd (show ¬ σ1 59 19 = 0 by omega) z⟩, fun z => absurd (show ¬ (1 : Int) = 0 by decide) z⟩), fun z => absurd hv.2 z⟩⟩))
    refine u3 Q h1 (fun e x => ?_)
    have e1 : σR 59 1 = σ1 59 1 := (u2.2 1 (by decide)).trans rfl
    have e68 : σR 68 = cpf (σ1 68) (σ1 66) (300 * 3) 300 := (u2.1 68 (by omega)).trans rfl
    refine fn_ret (rf_undo (σ := σR) (s := 3) ⟨by decide, by decide⟩ (by rw [e1]; exact hT1) (fun j j1 j2 => ?_)) (rb_172_67 (ai_ret_q (rb_128_0 (ai_k_in (rb_172_70 (h0 e))))))
    rw [e68]
    unfold cpf
    rw [if_pos (by omega), show 300 * 3 + j - 300 * 3 = j by omega]
    exact hnb j j1 j2
  have Ffin : ∀ σ1 σR : ai_S, kpR (ai_set (KP (ai_set (up (up σ1 85 (wy (σ1 85) 0 (-1) (-1) (-1))) 84 g) 59 0 0)) 59 37 0) σR → FA σ1 σR := fun σ1 σR h => FA_trans (FA_trans (FA_trans (FA_trans (FA_trans (FA_at (p := 85) (by omega) (fun q hq => up_ne hq)) (FA_at (p := 84) (by omega) (fun q hq => up_ne hq))) (FA_59 (by omega))) FA_KP) (FA_59 (by omega))) (FA_R h)
  -- a place of the class behind the reference
  have cls : ∀ (σ1 σR : ai_S) (p : Nat), kpR (ai_set (KP (ai_set (up (up σ1 85 (wy (σ1 85) 0 (-1) (-1) (-1))) 84 g) 59 0 0)) 59 37 0) σR → (p < 59 ∨ p = 91) → σR p = σ1 p := fun σ1 σR p h hp => by
    rw [h.1 p (by omega), set_ne (by omega), KP_ne (by omega), set_ne (by omega), up_ne (by omega), up_ne (by omega)]
  have refC : ∀ p : Nat, 59 ≤ p → σC p = σ p := fun p hp => (m3.1 p (by omega)).trans ((up_ne (by omega)).trans (SB_ne (by omega)))
  have g3 : σC 3 = g := (m3.1 3 (by omega)).trans rfl
  by_cases hb : b = 1
  · subst hb
    -- done
    have hmd : ai_r md' := ⟨by omega, by omega⟩
    have w1 : fn sc 8 [some (.inr (.inr 0)), some (.inl v)] σ (some (.inl md')) σC := fun Q hQ => cpre Q (rb_8_37_50 ⟨rr1, fun _ => (show Q (.inl (some (.inl (σC 1 4))), (92, [], σC)) by rw [m2.2.2.1]; exact hQ), fun z => absurd (show ¬ (1 : Int) = 0 by decide) z⟩)
    obtain ⟨σR, u1, u2, u3⟩ := rpre (ai_set σC 91 0 md') (fun p a1 a2 => (set_ne a2).trans (refC p a1))
    have FR := Ffin _ _ u2
    refine ⟨0, md', _, σR, wv_195 w1 hmd, fun Q hQ => u3 Q (fun _ => (by rw [u1.2.2.2.1]; exact hQ)) (fun z => absurd z (by decide)), ?_, ⟨by decide, by decide⟩, hmd, fun _ => ?_, ?_⟩
    · exact (u2.2 0 (by decide)).trans rfl
    · exact (congrFun (cls _ _ 91 u2 (Or.inr rfl)) 0).trans rfl
    · have FF : FA σ σR := FA_trans (FA_trans FCC (FA_at (p := 91) (by omega) (fun q hq => set_ne hq))) FR
      have a : ∀ p : Nat, p < 59 → σR p = σC p := fun p hp => (cls _ _ p u2 (Or.inl hp)).trans (set_ne (by omega))
      refine rel_apply hR FF ?_ ?_ ?_ (fun q => ?_) ?_ ?_
      · rw [a 3 (by omega), g3]
        exact ⟨(u2.1 84 (by omega)).trans rfl, hg⟩
      · rw [a 9 (by omega), a 10 (by omega), a 11 (by omega), m2.2.1.1, m2.2.1.2.1, m2.2.1.2.2.1]
        exact u1.2.1
      · rw [a 9 (by omega), a 10 (by omega), a 11 (by omega), m2.2.1.1, m2.2.1.2.1, m2.2.1.2.2.1]
        rw [hτ] at o2
        exact o2
      · have q2 : 0 < τ 12 0 := by
          rw [hτ]
          exact q
        rw [u1.2.2.2.2 q2, a 12 (by omega), m2.2.2.2.1 q2]
        exact ⟨rfl, o4 q2⟩
      · rw [a 32 (by omega)]
        exact m2.2.2.2.2
      · rw [a 27 (by omega), u1.2.2.1, m2.2.1.2.2.2]
        exact ⟨rfl, o3⟩
  · have hb0 : b = 0 := by omega
    subst hb0
    -- taken back
    have w1 : th sc 8 [some (.inr (.inr 0)), some (.inl v)] σ 0 (BK σC) := fun Q hQ => cpre Q (rb_8_37_50 ⟨rr0, fun z => absurd rfl z, fun _ => fn_ret cl_back (rb_8_41_50 hQ)⟩)
    obtain ⟨σR, u1, u2, u3⟩ := rpre (BK σC) (fun p a1 a2 => (BK_ne (by omega)).trans (refC p a1))
    have FR := Ffin _ _ u2
    refine ⟨3, 0, _, ai_set (UN σR) 59 0 3, wx_195_0 w1, fun Q hQ => u3 Q (fun z => absurd z (by decide)) (fun _ => hQ), rfl, ⟨by decide, by decide⟩, rr0, fun z => absurd z (by decide), ?_⟩
    have FF : FA σ (ai_set (UN σR) 59 0 3) := FA_trans (FA_trans (FA_trans (FA_trans FCC FA_BK) FR) FA_UN) (FA_59 (by omega))
    have a : ∀ p : Nat, p < 59 → (ai_set (UN σR) 59 0 3) p = (BK σC) p := fun p hp => by
      rw [set_ne (by omega)]
      unfold UN
      rw [set_ne (by omega), up_ne (by omega), up_ne (by omega), up_ne (by omega)]
      exact cls _ _ p u2 (Or.inl hp)
    have b29 : ∀ j, 0 ≤ j → j < 5 → σC 29 j = σ 9 j := fun j j1 j2 => by
      rw [m3.1 29 (by omega)]
      show (if 0 ≤ j ∧ j < 0 + 5 then σ 9 (0 + (j - 0)) else σ 29 j) = σ 9 j
      rw [if_pos (by omega), show 0 + (j - 0) = j by omega]
    have b30 : ∀ j, 0 ≤ j → j < 300 → σC 30 j = σ 10 j := fun j j1 j2 => by
      rw [m3.1 30 (by omega)]
      show (if 0 ≤ j ∧ j < 0 + 300 then σ 10 (0 + (j - 0)) else σ 30 j) = σ 10 j
      rw [if_pos (by omega), show 0 + (j - 0) = j by omega]
    have b31 : ∀ j, 0 ≤ j → j < 60 → σC 31 j = σ 11 j := fun j j1 j2 => by
      rw [m3.1 31 (by omega)]
      show (if 0 ≤ j ∧ j < 0 + 60 then σ 11 (0 + (j - 0)) else σ 31 j) = σ 11 j
      rw [if_pos (by omega), show 0 + (j - 0) = j by omega]
    have e9 : (BK σC) 9 = fun j => if 0 ≤ j ∧ j < 0 + 5 then σ 9 (0 + (j - 0)) else cn' j := by
      funext j
      show (if 0 ≤ j ∧ j < 0 + 5 then σC 29 (0 + (j - 0)) else σC 9 j) = _
      by_cases z : 0 ≤ j ∧ j < 0 + 5
      · rw [if_pos z, if_pos z]
        exact b29 _ (by omega) (by omega)
      · rw [if_neg z, if_neg z, m2.2.1.1]
    have e10 : (BK σC) 10 = fun j => if 0 ≤ j ∧ j < 0 + 300 then σ 10 (0 + (j - 0)) else ce' j := by
      funext j
      show (if 0 ≤ j ∧ j < 0 + 300 then σC 30 (0 + (j - 0)) else σC 10 j) = _
      by_cases z : 0 ≤ j ∧ j < 0 + 300
      · rw [if_pos z, if_pos z]
        exact b30 _ (by omega) (by omega)
      · rw [if_neg z, if_neg z, m2.2.1.2.1]
    have e11 : (BK σC) 11 = fun j => if 0 ≤ j ∧ j < 0 + 60 then σ 11 (0 + (j - 0)) else nu' j := by
      funext j
      show (if 0 ≤ j ∧ j < 0 + 60 then σC 31 (0 + (j - 0)) else σC 11 j) = _
      by_cases z : 0 ≤ j ∧ j < 0 + 60
      · rw [if_pos z, if_pos z]
        exact b31 _ (by omega) (by omega)
      · rw [if_neg z, if_neg z, m2.2.1.2.2.1]
    have oG : GS (σ 2 0) (σ 4) (σ 5) (σ 6) cn' ce' nu' := by
      rw [hτ] at o2
      exact o2
    have rb : ∀ p : Nat, 59 ≤ p → (BK σC) p = σ p := fun p hp => (BK_ne (by omega)).trans (refC p hp)
    have n69 : σR 69 = cpf (σ 69) (σ 64) (5 * 3) 5 := by
      rw [u2.1 69 (by omega), ← rb 69 (by omega), ← rb 64 (by omega)]
      rfl
    have n67 : σR 67 = cpf (σ 67) (σ 65) (300 * 3) 300 := by
      rw [u2.1 67 (by omega), ← rb 67 (by omega), ← rb 65 (by omega)]
      rfl
    have n68 : σR 68 = cpf (σ 68) (σ 66) (300 * 3) 300 := by
      rw [u2.1 68 (by omega), ← rb 68 (by omega), ← rb 66 (by omega)]
      rfl
    have n70 : σR 70 3 = σ 59 14 := by
      rw [u2.1 70 (by omega), ← rb 59 (by omega)]
      rfl
    have n1' : σR 59 1 = σ 2 0 := by
      rw [u2.2 1 (by decide), ← s1, ← rb 59 (by omega)]
      rfl
    refine rel_apply hR FF ?_ ?_ ?_ (fun q => ?_) ?_ ?_
    · rw [a 3 (by omega)]
      refine ⟨?_, ?_⟩
      · show σR 84 = σC 3
        rw [g3]
        exact (u2.1 84 (by omega)).trans rfl
      · show ∀ k, 0 ≤ σC 3 k ∧ σC 3 k < 5
        rw [g3]
        exact hg
    · rw [a 9 (by omega), a 10 (by omega), a 11 (by omega), e9, e10, e11]
      show EqS _ _ _ (cpg (σR 64) (σR 69) (5 * 3) (σR 59 1)) (cpg (σR 65) (σR 67) (300 * 3) 300) (cpg (σR 66) (σR 68) (300 * 3) 300)
      rw [n69, n67, n68, n1']
      exact EqS_back s2 u1.2.1 (eqn3 t1) (fun t z1 z2 => oG.2.1 t z1 z2) (fun t z1 z2 => t4.2.1 t z1 z2)
    · rw [a 9 (by omega), a 10 (by omega), a 11 (by omega), e9, e10, e11]
      exact GS_copy t4 s8 s11 s2 oG.1 oG.2.2.1 oG.2.2.2.1
    · have e12 : (ai_set (UN σR) 59 0 3) 12 1 = σ 12 1 := by
        rw [a 12 (by omega)]
        show σC 1 7 = σ 12 1
        rw [m3.2.1 7 (by decide)]
        rfl
      have e14 : (ai_set (UN σR) 59 0 3) 59 14 = σ 59 14 := by
        show σR 70 3 = σ 59 14
        exact n70
      rw [e12, e14]
      exact l3 q
    · rw [a 32 (by omega), BK_ne (by omega)]
      exact m2.2.2.2.2
    · rw [a 27 (by omega), BK_ne (by omega), m2.2.1.2.2.2]
      refine ⟨?_, o3⟩
      show σR 85 = y'
      exact u1.2.2.1
theorem tn_apply {sc : Int × (Int → Int)} {σ : ai_S} {v : Int} (hv : ai_r v) (hR : Rel σ) : ∃ k x σ1 σ2, fn sc 195 [some (.inr (.inr 0)), some (.inl v), some (.inr (.inr 91)), none] σ (some (.inl k)) σ1 ∧ fn sc 172 [some (.inr (.inr 59)), some (.inl v), none] σ1 (some (.inl x)) σ2 ∧ σ2 59 0 = k ∧ (0 ≤ k ∧ k ≤ 3) ∧ ai_r x ∧ (k = 0 → σ2 91 0 = x) ∧ Rel σ2 := by
  obtain ⟨⟨s1, s2, s3, s4, s5, s6, s7, s8, s9, s10, s11, s12⟩, ⟨t1, t4⟩, ⟨l1, l2, l3⟩, n0, n1, n2, hX, ⟨f1, f2, f3, f4, f5, f6, f7⟩, ⟨q1, q2, q3, q4⟩, hC, hW⟩ := id hR
  have y0r : ∀ j, ai_r (wy (σ 27) 0 (-1) (-1) (-1) j) := wy_r f4 rr0 rm1 rm1 rm1
  by_cases hop : 0 ≤ v ∧ v ≤ 5
  · obtain ⟨b, g, hA⟩ := Arr_total (T := σ 2 0) (w := σ 4) (pa := σ 6) s2.1 (σ 2 0).toNat 0 0 (σ 3)
    obtain ⟨b01, hg, _, _⟩ := Arr_rng s2.2 hA
    have hg2 := hg s12
    have hA2 : Arr (σ 59 1) (σ 60) (σ 63) (σ 59 1).toNat 0 0 (σ 84) b g := by
      rw [s1, s3, s6, s7]
      exact hA
    have w60 : ∀ t, 0 ≤ σ 60 t ∧ σ 60 t ≤ 5 := by
      rw [s3]
      exact s8
    have w63 : ∀ j, -1 ≤ σ 63 j ∧ σ 63 j < 5 := by
      rw [s6]
      exact s11
    have T1 : 0 ≤ σ 59 1 ∧ σ 59 1 ≤ 5 := by omega
    -- where nothing is done
    have idle : ∀ c : Int, Rel (ai_set (up (up (up (SB σ) 3 g) 85 (wy (σ 85) 0 (-1) (-1) (-1))) 84 g) 59 0 c) := by
      intro c
      refine rel_apply hR (FA_trans (FA_trans (FA_trans (FA_trans FA_SB (FA_at (p := 3) (by omega) (fun q hq => up_ne hq))) (FA_at (p := 85) (by omega) (fun q hq => up_ne hq))) (FA_at (p := 84) (by omega) (fun q hq => up_ne hq))) (FA_59 (by omega))) ⟨rfl, hg2⟩ t1 t4 (fun q => l3 q) f5 ⟨?_, y0r⟩
      show wy (σ 85) 0 (-1) (-1) (-1) = wy (σ 27) 0 (-1) (-1) (-1)
      rw [f3]
    by_cases hb : b = 1
    · subst hb
      by_cases hk : σ 0 6 = 1
      · rcases q1 with ⟨e4, e5⟩ | ⟨e4, e5⟩
        · exact tn_apply_41 hR hop e4 hk hA hg2
        · exact tn_apply_50 hR hop e4 hk hA hg2
      · have hk0 : σ 0 6 = 0 := by omega
        have w1 : th sc 8 [some (.inr (.inr 0)), some (.inl v)] σ 0 (up (SB σ) 3 g) := fun Q hQ => rb_8_0 (fn_ret cl_start (rb_8_3 ⟨hv, fun z => absurd z (by omega), fun _ => ⟨⟨hv, ⟨by decide, by decide⟩⟩, fun _ => fn_ret (cf_arrange (σ := SB σ) (b := 1) (g := g) s2 s8 s11 hA) (rb_8_17 ⟨rr1, fun _ => ⟨(show ai_r (σ 0 6) by rw [hk0]; exact rr0), fun z => absurd (show σ 0 6 = 0 from hk0) z, fun _ => hQ⟩, fun z => absurd (show ¬ (1 : Int) = 0 by decide) z⟩), fun z => absurd hop.2 z⟩⟩))
        have w2 : fn sc 172 [some (.inr (.inr 59)), some (.inl v), none] (up (SB σ) 3 g) (some (.inl 0)) (ai_set (up (up (up (SB σ) 3 g) 85 (wy (σ 85) 0 (-1) (-1) (-1))) 84 g) 59 0 3) := fun Q hQ => rb_172_0 (fn_ret rf_because (rb_172_6 ⟨hv, fun z => absurd z (by omega), fun _ => ⟨⟨hv, ⟨by decide, by decide⟩⟩, fun _ => fn_ret (rf_ordered (σ := up (up (SB σ) 3 g) 85 (wy (σ 85) 0 (-1) (-1) (-1))) (b := 1) (g := g) T1 w60 w63 hA2) (rb_172_17 ⟨rr1, fun _ => ⟨(show ai_r (σ 59 19) by rw [q2, hk0]; exact rr0), fun z => absurd (show σ 59 19 = 0 by rw [q2]; exact hk0) z, fun _ => ⟨rr3, fun z => absurd z (by decide), fun _ => hQ⟩⟩, fun z => absurd (show ¬ (1 : Int) = 0 by decide) z⟩), fun z => absurd hop.2 z⟩⟩))
        exact ⟨3, 0, _, _, wx_195_0 w1, w2, rfl, ⟨by decide, by decide⟩, rr0, fun z => absurd z (by decide), idle 3⟩
    · have hb0 : b = 0 := by omega
      subst hb0
      have r2 : ai_r 2 := ⟨by decide, by decide⟩
      have w1 : th sc 8 [some (.inr (.inr 0)), some (.inl v)] σ 2 (up (SB σ) 3 g) := fun Q hQ => rb_8_0 (fn_ret cl_start (rb_8_3 ⟨hv, fun z => absurd z (by omega), fun _ => ⟨⟨hv, ⟨by decide, by decide⟩⟩, fun _ => fn_ret (cf_arrange (σ := SB σ) (b := 0) (g := g) s2 s8 s11 hA) (rb_8_17 ⟨rr0, fun z => absurd rfl z, fun _ => hQ⟩), fun z => absurd hop.2 z⟩⟩))
      have w2 : fn sc 172 [some (.inr (.inr 59)), some (.inl v), none] (up (SB σ) 3 g) (some (.inl 0)) (ai_set (up (up (up (SB σ) 3 g) 85 (wy (σ 85) 0 (-1) (-1) (-1))) 84 g) 59 0 2) := fun Q hQ => rb_172_0 (fn_ret rf_because (rb_172_6 ⟨hv, fun z => absurd z (by omega), fun _ => ⟨⟨hv, ⟨by decide, by decide⟩⟩, fun _ => fn_ret (rf_ordered (σ := up (up (SB σ) 3 g) 85 (wy (σ 85) 0 (-1) (-1) (-1))) (b := 0) (g := g) T1 w60 w63 hA2) (rb_172_17 ⟨rr0, fun z => absurd rfl z, fun _ => ⟨r2, fun z => absurd z (by decide), fun _ => hQ⟩⟩), fun z => absurd hop.2 z⟩⟩))
      exact ⟨2, 0, _, _, wx_195_2 w1, w2, rfl, ⟨by decide, by decide⟩, rr0, fun z => absurd z (by decide), idle 2⟩
  · -- no such operation
    have w1 : th sc 8 [some (.inr (.inr 0)), some (.inl v)] σ 1 (SB σ) := fun Q hQ => rb_8_0 (fn_ret cl_start (rb_8_3 ⟨hv, fun _ => hQ, fun z => ⟨⟨hv, ⟨by decide, by decide⟩⟩, fun z2 => absurd z2 (by omega), fun _ => hQ⟩⟩))
    have w2 : fn sc 172 [some (.inr (.inr 59)), some (.inl v), none] (SB σ) (some (.inl 0)) (ai_set (up (SB σ) 85 (wy (σ 85) 0 (-1) (-1) (-1))) 59 0 1) := fun Q hQ => rb_172_0 (fn_ret rf_because (rb_172_6 ⟨hv, fun _ => ⟨rr1, fun z => absurd z (by decide), fun _ => hQ⟩, fun z => ⟨⟨hv, ⟨by decide, by decide⟩⟩, fun z2 => absurd z2 (by omega), fun _ => ⟨rr1, fun z2 => absurd z2 (by decide), fun _ => hQ⟩⟩⟩))
    refine ⟨1, 0, _, _, wx_195_1 w1, w2, rfl, ⟨by decide, by decide⟩, rr0, fun z => absurd z (by decide), rel_apply hR (FA_trans (FA_trans FA_SB (FA_at (p := 85) (by omega) (fun q hq => up_ne hq))) (FA_59 (by omega))) ⟨s7, s12⟩ t1 t4 (fun q => l3 q) f5 ⟨?_, y0r⟩⟩
    show wy (σ 85) 0 (-1) (-1) (-1) = wy (σ 27) 0 (-1) (-1) (-1)
    rw [f3]
theorem st_apply {sc : Int × (Int → Int)} {σ : ai_S} {Q : ai_O → Prop} {a b : Nat} {v4 : Int} (hab : a + 1 ≤ 601024 ∧ b + 6 ≤ 7293034) (hv : 0 ≤ v4 ∧ v4 ≤ sc.1 - 5) (hs : ∀ j, -2147483648 ≤ sc.2 j ∧ sc.2 j ≤ 2147483647) (hR : Rel σ) (K : Nxt sc Q v4 a b) : ai_wp sc 206 214 (lwL v4 none none none) [] (a, b) (92, [], σ) Q := by
  obtain ⟨k, x, σ1, σ2, hw, hm, hk, hkr, hx, ho, hR2⟩ := tn_apply (sc := sc) (v := sc.2 (v4 + 1)) (hs _) hR
  exact ar_apply hab hv hs hw hm hk hkr hx ho (K _ _ _ (Nat.le_refl _) (Nat.le_refl _) hR2)
