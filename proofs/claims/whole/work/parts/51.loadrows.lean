/-! APPLY: all rows, class and reference in step. -/
theorem sf_mono {sf : Int → Int} {S : Int} (h : ∀ s, 0 ≤ s → s < S → sf s ≤ sf (s + 1)) : ∀ (n : Nat) (s : Int), 0 ≤ s → s + (n : Int) ≤ S → sf s ≤ sf (s + (n : Int)) := by
  intro n
  induction n with
  | zero =>
    intro s _ _
    rw [show s + ((0 : Nat) : Int) = s by omega]
    exact Int.le_refl _
  | succ n ih =>
    intro s s1 s2
    have a := ih (s + 1) (by omega) (by omega)
    have b := h s s1 (by omega)
    rw [show s + ((n + 1 : Nat) : Int) = s + 1 + (n : Int) by omega]
    omega
theorem sf_le {sf : Int → Int} {S a b : Int} (h : ∀ s, 0 ≤ s → s < S → sf s ≤ sf (s + 1)) (h0 : 0 ≤ a) (hab : a ≤ b) (hb : b ≤ S) : sf a ≤ sf b := by
  have := sf_mono h (b - a).toNat a h0 (by omega)
  rw [show a + (((b - a).toNat : Nat) : Int) = b by omega] at this
  exact this
/-- sections that end where the row is are passed by -/
theorem rf_down {sc : Int × (Int → Int)} {τ σ : ai_S} {Q : ai_O → Prop} {op k t r M S N : Int} (hR : RS τ σ) (hS : τ 59 20 = S) (hS6 : S ≤ 6) (hmo : ∀ s, 0 ≤ s → s < S → τ 74 s ≤ τ 74 (s + 1)) (hsr : ∀ s, 0 ≤ s → s ≤ S → 0 ≤ τ 74 s ∧ τ 74 s ≤ 24) (hM : 0 ≤ M ∧ M ≤ S) (hr : τ 74 M ≤ r ∧ r ≤ 24) (hβ : r = τ 74 M → ∀ x5, ai_wp sc 168 23 [some (.inr (.inr 59)), some (.inl op), some (.inl k), some (.inl t), some (.inl M), x5] [] (0, 0) (92, [], σ) Q) : ∀ (n : Nat) (s : Int), 0 ≤ s → s + (n : Int) = M → r = τ 74 s → ∀ x5, ai_wp sc 168 23 [some (.inr (.inr 59)), some (.inl op), some (.inl k), some (.inl t), some (.inl s), x5] [] (0, 0) (92, [], σ) Q := by
  have c20 : σ 59 20 = S := hR.2.2.2.1.trans hS
  have c74 : σ 74 = τ 74 := hR.1 74 (by omega)
  intro n
  induction n with
  | zero =>
    intro s s1 s2 s3 x5
    have e : s = M := by omega
    subst e
    exact hβ s3 x5
  | succ n ih =>
    intro s s1 s2 s3 x5
    have a1 := hmo s s1 (by omega)
    have a2 := sf_le (a := s + 1) (b := M) hmo (by omega) (by omega) hM.2
    have a3 := hsr s s1 (by omega)
    have a4 := hsr (s + 1) (by omega) (by omega)
    refine rh_168_23 ⟨⟨⟨by omega, by omega⟩, (by rw [c20]; exact ⟨by omega, by omega⟩)⟩, fun g => absurd g (by rw [c20]; omega), fun _ => ⟨⟨s1, by omega⟩, ?_⟩⟩
    rw [c74]
    refine rb_168_32 ⟨⟨by omega, by omega⟩, ⟨⟨by omega, by omega⟩, (by rw [c74]; exact ⟨by omega, by omega⟩)⟩, fun _ => ih (s + 1) (by omega) (by omega) (by omega) _, fun g => absurd (show σ 74 (s + 1) ≤ τ 74 s by rw [c74]; omega) g⟩
theorem ld_rows_41 {sc : Int × (Int → Int)} {τ : ai_S} (hS : RSch (τ 2 0) (τ 59 1) (τ 4) (τ 60) (τ 5) (τ 61) (τ 7) (τ 62) (τ 6) (τ 63) (τ 3) (τ 84)) (hD : DS (τ 2 0) (τ 4) (τ 5) (τ 41 0) (τ 41 1) (τ 42) (τ 43) (τ 44) (τ 45) (τ 46) (τ 47) (τ 48) (τ 49) (τ 59 20) (τ 59 21) (τ 72) (τ 73) (τ 74) (τ 75) (τ 76) (τ 77)) (hO : τ 59 13 = τ 12 0) (hO3 : 0 ≤ τ 12 0 ∧ τ 12 0 ≤ 3) {op k t : Int} (hop : 0 ≤ op ∧ op ≤ 3) (hk : 0 ≤ k ∧ k < 5) (ht : 0 ≤ t ∧ t < 5) :
    ∀ (n : Nat) (r : Int) (cn ce nu y : Int → Int) (md ch : Int), 0 ≤ r → r + (n : Int) = τ 41 1 → GS (τ 2 0) (τ 4) (τ 5) (τ 6) cn ce nu → (∀ j, ai_r (y j)) → (0 < τ 12 0 → 0 ≤ ch ∧ ch ≤ 200) → ∃ b cn' ce' nu' y' md' ch', okO τ (n : Int) b cn' ce' nu' y' md md' ch' ∧
      (∀ σ, CT τ cn ce nu y md ch σ → ∃ σ', CT τ cn' ce' nu' y' md' ch' σ' ∧ kpC σ σ' ∧ ∀ Q : ai_O → Prop, (b = 0 → Q (.inl (some (.inl 0)), (92, [], σ'))) → (b = 1 → ∀ x4 x5, ai_wp sc 39 2 [some (.inr (.inr 1)), some (.inl op), some (.inr (.inr 41)), some (.inl (k + 1)), x4, x5] [] (0, 0) (92, [], σ') Q) → ai_wp sc 39 26 [some (.inr (.inr 1)), some (.inl op), some (.inr (.inr 41)), some (.inl k), some (.inl t), some (.inl r)] [] (0, 0) (92, [], σ) Q) ∧
      (∀ σ, RT τ cn ce nu y md ch σ → ∃ σ', RT τ cn' ce' nu' y' md' ch' σ' ∧ kpR σ σ' ∧ ∀ Q : ai_O → Prop, (b = 0 → Q (.inl (some (.inl 0)), (92, [], σ'))) → (b = 1 → ∀ x3 x4 x5, ai_wp sc 168 2 [some (.inr (.inr 59)), some (.inl op), some (.inl (k + 1)), x3, x4, x5] [] (0, 0) (92, [], σ') Q) → (∀ s, 0 ≤ s → s ≤ τ 41 0 → τ 74 s ≤ r → (s < τ 41 0 → r ≤ τ 74 (s + 1)) → (s < τ 41 0 → τ 72 s = t → ai_wp sc 168 32 [some (.inr (.inr 59)), some (.inl op), some (.inl k), some (.inl t), some (.inl s), some (.inl r)] [] (0, 0) (92, [], σ) Q) ∧ (s < τ 41 0 → ¬ τ 72 s = t → ∀ x5, ai_wp sc 168 23 [some (.inr (.inr 59)), some (.inl op), some (.inl k), some (.inl t), some (.inl (s + 1)), x5] [] (0, 0) (92, [], σ) Q) ∧ (r = τ 74 s → ∀ x5, ai_wp sc 168 23 [some (.inr (.inr 59)), some (.inl op), some (.inl k), some (.inl t), some (.inl s), x5] [] (0, 0) (92, [], σ) Q))) := by
  obtain ⟨⟨d1, d2, d3, d4, d5, d6⟩, d7, d8, d9⟩ := id hD
  have hmo : ∀ s, 0 ≤ s → s < τ 41 0 → τ 74 s ≤ τ 74 (s + 1) := fun s q1 q2 => (d9 s q1 q2).2.2.1.2.2.1
  have hsr : ∀ s, 0 ≤ s → s ≤ τ 41 0 → 0 ≤ τ 74 s ∧ τ 74 s ≤ 24 := fun s q1 q2 => by
    have a := sf_le (a := 0) (b := s) hmo (by decide) q1 q2
    have b := sf_le (a := s) (b := τ 41 0) hmo q1 q2 (Int.le_refl _)
    omega
  have s2 := hS.2.1
  have rop : ai_r op := ⟨by omega, by omega⟩
  have rt : ai_r t := ⟨by omega, by omega⟩
  -- the other sections at a row, from the section that has it
  have down : ∀ (σ : ai_S) (Q : ai_O → Prop) (r M : Int), RS τ σ → 0 ≤ r → r ≤ 24 → (0 ≤ M ∧ M ≤ τ 41 0) → τ 74 M ≤ r → (M < τ 41 0 → r < τ 74 (M + 1)) → (M = τ 41 0 → r = τ 74 M) → ((M < τ 41 0 → τ 72 M = t → ai_wp sc 168 32 [some (.inr (.inr 59)), some (.inl op), some (.inl k), some (.inl t), some (.inl M), some (.inl r)] [] (0, 0) (92, [], σ) Q) ∧ (M < τ 41 0 → ¬ τ 72 M = t → ∀ x5, ai_wp sc 168 23 [some (.inr (.inr 59)), some (.inl op), some (.inl k), some (.inl t), some (.inl (M + 1)), x5] [] (0, 0) (92, [], σ) Q) ∧ (r = τ 74 M → ∀ x5, ai_wp sc 168 23 [some (.inr (.inr 59)), some (.inl op), some (.inl k), some (.inl t), some (.inl M), x5] [] (0, 0) (92, [], σ) Q)) → (∀ s, 0 ≤ s → s ≤ τ 41 0 → τ 74 s ≤ r → (s < τ 41 0 → r ≤ τ 74 (s + 1)) → (s < τ 41 0 → τ 72 s = t → ai_wp sc 168 32 [some (.inr (.inr 59)), some (.inl op), some (.inl k), some (.inl t), some (.inl s), some (.inl r)] [] (0, 0) (92, [], σ) Q) ∧ (s < τ 41 0 → ¬ τ 72 s = t → ∀ x5, ai_wp sc 168 23 [some (.inr (.inr 59)), some (.inl op), some (.inl k), some (.inl t), some (.inl (s + 1)), x5] [] (0, 0) (92, [], σ) Q) ∧ (r = τ 74 s → ∀ x5, ai_wp sc 168 23 [some (.inr (.inr 59)), some (.inl op), some (.inl k), some (.inl t), some (.inl s), x5] [] (0, 0) (92, [], σ) Q)) := by
    intro σ Q r M hR r0 r24 hM hMr hM2 hM3 hc s q1 q2 q3 q4
    have hb := rf_down (S := τ 41 0) (N := 0) (M := M) (r := r) hR d1 d3.2 hmo hsr hM ⟨hMr, r24⟩ hc.2.2
    have hsM : s ≤ M := by
      by_cases z : M < s
      · have a := sf_le (a := M + 1) (b := s) hmo (by omega) (by omega) q2
        have := hM2 (by omega)
        omega
      · omega
    have c74 : σ 74 = τ 74 := hR.1 74 (by omega)
    have c72 : σ 72 = τ 72 := hR.1 72 (by omega)
    by_cases e : s = M
    · subst e
      exact hc
    · have e1 : s < τ 41 0 := by omega
      have a := sf_le (a := s + 1) (b := M) hmo (by omega) (by omega) hM.2
      have e2 : r = τ 74 (s + 1) := by
        have := q4 e1
        omega
      have hn := hb (M - (s + 1)).toNat (s + 1) (by omega) (by omega) e2
      refine ⟨fun _ z => ?_, fun _ _ => hn, fun z => hb (M - s).toNat s q1 (by omega) z⟩
      exact rb_168_32 ⟨⟨by omega, by omega⟩, ⟨⟨by omega, by omega⟩, (by rw [c74, ← e2]; exact ⟨by omega, by omega⟩)⟩, fun _ => hn _, fun g => absurd (show σ 74 (s + 1) ≤ r by rw [c74]; omega) g⟩
  intro n
  induction n with
  | zero =>
    intro r cn ce nu y md ch r0 rn hG hy hch
    refine ⟨1, cn, ce, nu, y, md, ch, ⟨Or.inr rfl, hG, hy, hch, Int.le_refl md, by omega⟩, fun σ h => ⟨σ, h, kpC_rfl, fun Q _ h1 => ?_⟩, fun σ h => ⟨σ, h, kpR_rfl, fun Q _ h1 => ?_⟩⟩
    · have c := congrFun (h.1.1 41 (by omega)) 1
      exact rb_39_26_41 ⟨⟨⟨by omega, by omega⟩, (by rw [c]; exact ⟨by omega, by omega⟩)⟩, fun _ => h1 rfl _ _, fun g => absurd (show σ 41 1 ≤ r by rw [c]; omega) g⟩
    · have c20 : σ 59 20 = τ 41 0 := h.1.2.2.2.1.trans d1
      refine down σ Q r (τ 41 0) h.1 r0 (by omega) ⟨d3.1, Int.le_refl _⟩ (by omega) (fun z => absurd z (by omega)) (fun _ => by omega) ⟨fun z => absurd z (by omega), fun z => absurd z (by omega), fun _ x5 => ?_⟩
      exact rh_168_23 ⟨⟨⟨by omega, by omega⟩, (by rw [c20]; exact ⟨by omega, by omega⟩)⟩, fun _ => h1 rfl _ _ _, fun g => absurd (show σ 59 20 ≤ τ 41 0 by rw [c20]; exact Int.le_refl _) g⟩
  | succ n ih =>
    intro r cn ce nu y md ch r0 rn hG hy hch
    obtain ⟨e1, e2, e3⟩ := d8 r r0 (by omega)
    have hr24 : 0 ≤ r ∧ r < 24 := ⟨r0, by omega⟩
    have hta := (d9 _ e1.1 e1.2).1
    -- a class's step to the row behind
    have cnext : ∀ (σ : ai_S) (Q : ai_O → Prop), CT τ cn ce nu y md ch σ → (τ 42 (τ 47 r) = t → ai_ret (ai_wp sc) 40 [some (.inr (.inr 1)), some (.inl op), some (.inr (.inr 41)), some (.inl r), none, none] (92, [], σ) (fun v h' => ai_ck (ai_zz 92 h'.1 0) (ai_wp sc 39 40 [some (.inr (.inr 1)), some (.inl op), some (.inr (.inr 41)), some (.inl k), some (.inl t), some (.inl r)] (v.toList ++ []) (0, 0) h' Q))) → (¬ τ 42 (τ 47 r) = t → ai_wp sc 39 26 [some (.inr (.inr 1)), some (.inl op), some (.inr (.inr 41)), some (.inl k), some (.inl t), some (.inl (r + 1))] [] (0, 0) (92, [], σ) Q) → ai_wp sc 39 26 [some (.inr (.inr 1)), some (.inl op), some (.inr (.inr 41)), some (.inl k), some (.inl t), some (.inl r)] [] (0, 0) (92, [], σ) Q := by
      intro σ Q h hyes hno
      have c := congrFun (h.1.1 41 (by omega)) 1
      have cr := h.1.1 47 (by omega)
      have ct := h.1.1 42 (by omega)
      refine rb_39_26_41 ⟨⟨⟨by omega, by omega⟩, (by rw [c]; exact ⟨by omega, by omega⟩)⟩, fun g => absurd g (by rw [c]; omega), fun _ => ai_ret_q (pc_63_41 ⟨hr24, (by rw [cr]; exact ⟨e1.1, by omega⟩)⟩ (ai_k_in ?_))⟩
      rw [ct, cr]
      exact rb_39_33_41 ⟨⟨⟨by omega, by omega⟩, rt⟩, hno, fun z => hyes (Decidable.not_not.mp z)⟩
    by_cases hm : τ 42 (τ 47 r) = t
    · -- the row is the table's
      obtain ⟨b1, cn1, ce1, nu1, y1, md1, ch1, ⟨o1, o2, o3, o4, o5⟩, lc, lr⟩ := ld_row_41 (sc := sc) hS hD hO hO3 hop (r := r) ⟨r0, by omega⟩ (md := md) hG hy hch
      by_cases hb1 : b1 = 0
      · subst hb1
        refine ⟨0, cn1, ce1, nu1, y1, md1, ch1, ⟨Or.inl rfl, o2, o3, o4, o5.1, by omega⟩, fun σ h => ?_, fun σ h => ?_⟩
        · obtain ⟨σ', l1, l2, l3⟩ := lc σ h
          exact ⟨σ', l2, l3, fun Q h0 _ => cnext σ Q h (fun _ => fn_ret l1 (rb_39_40_41 ⟨rr0, fun z => absurd rfl z, fun _ => ⟨z01, h0 rfl⟩⟩)) (fun z => absurd hm z)⟩
        · obtain ⟨σ', l1, l2, l3⟩ := lr σ h
          refine ⟨σ', l2, l3, fun Q h0 _ => ?_⟩
          have c74 : σ 74 = τ 74 := h.1.1 74 (by omega)
          have c72 : σ 72 = τ 72 := h.1.1 72 (by omega)
          have c20 : σ 59 20 = τ 41 0 := h.1.2.2.2.1.trans d1
          have w32 : ai_wp sc 168 32 [some (.inr (.inr 59)), some (.inl op), some (.inl k), some (.inl t), some (.inl (τ 47 r)), some (.inl r)] [] (0, 0) (92, [], σ) Q := by
            rw [hm] at l1
            refine rb_168_32 ⟨⟨by omega, by omega⟩, ⟨⟨by omega, by omega⟩, (by rw [c74]; have := hsr (τ 47 r + 1) (by omega) (by omega); exact ⟨by omega, by omega⟩)⟩, fun g => absurd g (by rw [c74]; omega), fun _ => ⟨⟨e1.1, by omega⟩, ⟨(by rw [c72, hta.1]; exact ⟨by omega, by omega⟩), rt⟩, fun z => absurd (show σ 72 (τ 47 r) = t by rw [c72, hta.1]; exact hm) z, fun _ => fn_ret l1 (rb_168_52 ⟨rr0, fun z => absurd rfl z, fun _ => ⟨z01, h0 rfl⟩⟩)⟩⟩
          refine down σ Q r (τ 47 r) h.1 r0 (by omega) ⟨e1.1, by omega⟩ e2 (fun _ => e3) (fun z => absurd z (by omega)) ⟨fun _ _ => w32, fun _ z => absurd (hta.1.trans hm) z, fun z x5 => ?_⟩
          refine rh_168_23 ⟨⟨⟨by omega, by omega⟩, (by rw [c20]; exact ⟨by omega, by omega⟩)⟩, fun g => absurd g (by rw [c20]; omega), fun _ => ⟨⟨e1.1, by omega⟩, ?_⟩⟩
          rw [c74, ← z]
          exact w32
      · have hb2 : b1 = 1 := by omega
        subst hb2
        obtain ⟨b2, cn2, ce2, nu2, y2, md2, ch2, ⟨p1, p2, p3, p4, p5⟩, ic, ir⟩ := ih (r + 1) cn1 ce1 nu1 y1 md1 ch1 (by omega) (by omega) o2 o3 o4
        refine ⟨b2, cn2, ce2, nu2, y2, md2, ch2, ⟨p1, p2, p3, p4, by omega, by omega⟩, fun σ h => ?_, fun σ h => ?_⟩
        · obtain ⟨σ1, l1, l2, l3⟩ := lc σ h
          obtain ⟨σ2, j1, j2, j3⟩ := ic σ1 l2
          exact ⟨σ2, j1, kpC_trans l3 j2, fun Q h0 h1 => cnext σ Q h (fun _ => fn_ret l1 (rb_39_40_41 ⟨rr1, fun _ => j3 Q h0 h1, fun z => absurd (show ¬ (1 : Int) = 0 by decide) z⟩)) (fun z => absurd hm z)⟩
        · obtain ⟨σ1, l1, l2, l3⟩ := lr σ h
          obtain ⟨σ2, j1, j2, j3⟩ := ir σ1 l2
          refine ⟨σ2, j1, kpR_trans l3 j2, fun Q h0 h1 => ?_⟩
          have c74 : σ 74 = τ 74 := h.1.1 74 (by omega)
          have c72 : σ 72 = τ 72 := h.1.1 72 (by omega)
          have c20 : σ 59 20 = τ 41 0 := h.1.2.2.2.1.trans d1
          have w32 : ai_wp sc 168 32 [some (.inr (.inr 59)), some (.inl op), some (.inl k), some (.inl t), some (.inl (τ 47 r)), some (.inl r)] [] (0, 0) (92, [], σ) Q := by
            rw [hm] at l1
            have nx := (j3 Q h0 h1 (τ 47 r) e1.1 (by omega) (by omega) (fun _ => by omega)).1 e1.2 (hta.1.trans hm)
            refine rb_168_32 ⟨⟨by omega, by omega⟩, ⟨⟨by omega, by omega⟩, (by rw [c74]; have := hsr (τ 47 r + 1) (by omega) (by omega); exact ⟨by omega, by omega⟩)⟩, fun g => absurd g (by rw [c74]; omega), fun _ => ⟨⟨e1.1, by omega⟩, ⟨(by rw [c72, hta.1]; exact ⟨by omega, by omega⟩), rt⟩, fun z => absurd (show σ 72 (τ 47 r) = t by rw [c72, hta.1]; exact hm) z, fun _ => fn_ret l1 (rb_168_52 ⟨rr1, fun _ => nx, fun z => absurd (show ¬ (1 : Int) = 0 by decide) z⟩)⟩⟩
          refine down σ Q r (τ 47 r) h.1 r0 (by omega) ⟨e1.1, by omega⟩ e2 (fun _ => e3) (fun z => absurd z (by omega)) ⟨fun _ _ => w32, fun _ z => absurd (hta.1.trans hm) z, fun z x5 => ?_⟩
          refine rh_168_23 ⟨⟨⟨by omega, by omega⟩, (by rw [c20]; exact ⟨by omega, by omega⟩)⟩, fun g => absurd g (by rw [c20]; omega), fun _ => ⟨⟨e1.1, by omega⟩, ?_⟩⟩
          rw [c74, ← z]
          exact w32
    · -- another table's row
      obtain ⟨b2, cn2, ce2, nu2, y2, md2, ch2, ⟨p1, p2, p3, p4, p5⟩, ic, ir⟩ := ih (r + 1) cn ce nu y md ch (by omega) (by omega) hG hy hch
      refine ⟨b2, cn2, ce2, nu2, y2, md2, ch2, ⟨p1, p2, p3, p4, p5.1, by omega⟩, fun σ h => ?_, fun σ h => ?_⟩
      · obtain ⟨σ2, j1, j2, j3⟩ := ic σ h
        exact ⟨σ2, j1, j2, fun Q h0 h1 => cnext σ Q h (fun z => absurd z hm) (fun _ => j3 Q h0 h1)⟩
      · obtain ⟨σ2, j1, j2, j3⟩ := ir σ h
        refine ⟨σ2, j1, j2, fun Q h0 h1 => ?_⟩
        have c74 : σ 74 = τ 74 := h.1.1 74 (by omega)
        have c72 : σ 72 = τ 72 := h.1.1 72 (by omega)
        have c20 : σ 59 20 = τ 41 0 := h.1.2.2.2.1.trans d1
        have hne : ¬ τ 72 (τ 47 r) = t := fun z => hm (hta.1.symm.trans z)
        have nx := (j3 Q h0 h1 (τ 47 r) e1.1 (by omega) (by omega) (fun _ => by omega)).2.1 e1.2 hne
        refine down σ Q r (τ 47 r) h.1 r0 (by omega) ⟨e1.1, by omega⟩ e2 (fun _ => e3) (fun z => absurd z (by omega)) ⟨fun _ z => absurd z hne, fun _ _ => nx, fun z x5 => ?_⟩
        refine rh_168_23 ⟨⟨⟨by omega, by omega⟩, (by rw [c20]; exact ⟨by omega, by omega⟩)⟩, fun g => absurd g (by rw [c20]; omega), fun _ => ⟨⟨e1.1, by omega⟩, ?_⟩⟩
        refine rb_168_32 ⟨⟨by omega, by omega⟩, ⟨(by rw [c74]; exact ⟨by omega, by omega⟩), (by rw [c74]; have := hsr (τ 47 r + 1) (by omega) (by omega); exact ⟨by omega, by omega⟩)⟩, fun g => absurd g (by rw [c74]; omega), fun _ => ⟨⟨e1.1, by omega⟩, ⟨(by rw [c72, hta.1]; exact ⟨by omega, by omega⟩), rt⟩, fun _ => nx _, fun g => absurd (show ¬ σ 72 (τ 47 r) = t by rw [c72]; exact hne) g⟩⟩
theorem ld_all_41 {sc : Int × (Int → Int)} {τ : ai_S} (hS : RSch (τ 2 0) (τ 59 1) (τ 4) (τ 60) (τ 5) (τ 61) (τ 7) (τ 62) (τ 6) (τ 63) (τ 3) (τ 84)) (hD : DS (τ 2 0) (τ 4) (τ 5) (τ 41 0) (τ 41 1) (τ 42) (τ 43) (τ 44) (τ 45) (τ 46) (τ 47) (τ 48) (τ 49) (τ 59 20) (τ 59 21) (τ 72) (τ 73) (τ 74) (τ 75) (τ 76) (τ 77)) (hO : τ 59 13 = τ 12 0) (hO3 : 0 ≤ τ 12 0 ∧ τ 12 0 ≤ 3) {op : Int} (hop : 0 ≤ op ∧ op ≤ 3) (hq : ∀ j, 0 ≤ j → j < τ 2 0 → 0 ≤ τ 3 j ∧ τ 3 j < 5) :
    ∀ (n : Nat) (k : Int) (cn ce nu y : Int → Int) (md ch : Int), 0 ≤ k → k + (n : Int) = τ 2 0 → GS (τ 2 0) (τ 4) (τ 5) (τ 6) cn ce nu → (∀ j, ai_r (y j)) → (0 < τ 12 0 → 0 ≤ ch ∧ ch ≤ 200) → ∃ b cn' ce' nu' y' md' ch', okO τ (24 * (n : Int)) b cn' ce' nu' y' md md' ch' ∧
      (∀ σ, CT τ cn ce nu y md ch σ → ∃ σ', CT τ cn' ce' nu' y' md' ch' σ' ∧ kpC σ σ' ∧ ∀ (Q : ai_O → Prop) (x4 x5 : Option ai_V), Q (.inl (some (.inl b)), (92, [], σ')) → ai_wp sc 39 2 [some (.inr (.inr 1)), some (.inl op), some (.inr (.inr 41)), some (.inl k), x4, x5] [] (0, 0) (92, [], σ) Q) ∧
      (∀ σ, RT τ cn ce nu y md ch σ → ∃ σ', RT τ cn' ce' nu' y' md' ch' σ' ∧ kpR σ σ' ∧ ∀ (Q : ai_O → Prop) (x3 x4 x5 : Option ai_V), Q (.inl (some (.inl b)), (92, [], σ')) → ai_wp sc 168 2 [some (.inr (.inr 59)), some (.inl op), some (.inl k), x3, x4, x5] [] (0, 0) (92, [], σ) Q) := by
  obtain ⟨⟨d1, d2, d3, d4, d5, d6⟩, d7, d8, d9⟩ := id hD
  obtain ⟨s1, s2, s3, s4, s5, s6, s7, s8, s9, s10, s11, s12⟩ := id hS
  have rop : ai_r op := ⟨by omega, by omega⟩
  intro n
  induction n with
  | zero =>
    intro k cn ce nu y md ch k0 kn hG hy hch
    refine ⟨1, cn, ce, nu, y, md, ch, ⟨Or.inr rfl, hG, hy, hch, Int.le_refl md, by omega⟩, fun σ h => ⟨σ, h, kpC_rfl, fun Q x4 x5 hQ => ?_⟩, fun σ h => ⟨σ, h, kpR_rfl, fun Q x3 x4 x5 hQ => ?_⟩⟩
    · have c : σ 2 0 = τ 2 0 := congrFun (h.1.1 2 (by omega)) 0
      exact rh_39_2_41 ⟨⟨⟨by omega, by omega⟩, (by rw [c]; exact ⟨by omega, by omega⟩)⟩, fun _ => ⟨z11, hQ⟩, fun g => absurd (show σ 2 0 ≤ k by rw [c]; omega) g⟩
    · have c : σ 59 1 = τ 2 0 := h.1.2.1.trans s1
      exact rh_168_2 ⟨⟨⟨by omega, by omega⟩, (by rw [c]; exact ⟨by omega, by omega⟩)⟩, fun _ => ⟨z11, hQ⟩, fun g => absurd (show σ 59 1 ≤ k by rw [c]; omega) g⟩
  | succ n ih =>
    intro k cn ce nu y md ch k0 kn hG hy hch
    -- the table
    obtain ⟨t, htd⟩ : ∃ t, t = τ 3 (if op = 3 then τ 2 0 - 1 - k else k) := ⟨_, rfl⟩
    have ht : 0 ≤ t ∧ t < 5 := by
      rw [htd]
      split
      · exact hq _ (by omega) (by omega)
      · exact hq _ (by omega) (by omega)
    have c0 : ∀ (σ : ai_S) (Q : ai_O → Prop) (x4 x5 : Option ai_V), CS τ σ → ai_wp sc 39 26 [some (.inr (.inr 1)), some (.inl op), some (.inr (.inr 41)), some (.inl k), some (.inl t), some (.inl 0)] [] (0, 0) (92, [], σ) Q → ai_wp sc 39 2 [some (.inr (.inr 1)), some (.inl op), some (.inr (.inr 41)), some (.inl k), x4, x5] [] (0, 0) (92, [], σ) Q := by
      intro σ Q x4 x5 h hK
      have c : σ 2 0 = τ 2 0 := congrFun (h.1 2 (by omega)) 0
      have c3 : σ 3 = τ 3 := h.1 3 (by omega)
      refine rh_39_2_41 ⟨⟨⟨by omega, by omega⟩, (by rw [c]; exact ⟨by omega, by omega⟩)⟩, fun g => absurd g (by rw [c]; omega), fun _ => ⟨⟨rop, rr3⟩, fun z => ⟨⟨by omega, by omega⟩, ?_⟩, fun z => ⟨(by rw [c]; exact ⟨by omega, by omega⟩), ?_⟩⟩⟩
      · rw [htd, if_neg z] at hK
        rw [c3]
        exact hK
      · rw [htd, if_pos (Decidable.not_not.mp z)] at hK
        rw [c3, c]
        exact hK
    have r0 : ∀ (σ : ai_S) (Q : ai_O → Prop) (x3 x4 x5 : Option ai_V), RS τ σ → ai_wp sc 168 23 [some (.inr (.inr 59)), some (.inl op), some (.inl k), some (.inl t), some (.inl 0), none] [] (0, 0) (92, [], σ) Q → ai_wp sc 168 2 [some (.inr (.inr 59)), some (.inl op), some (.inl k), x3, x4, x5] [] (0, 0) (92, [], σ) Q := by
      intro σ Q x3 x4 x5 h hK
      have c : σ 59 1 = τ 2 0 := h.2.1.trans s1
      have c3 : σ 84 = τ 3 := (h.1 84 (by omega)).trans s7
      refine rh_168_2 ⟨⟨⟨by omega, by omega⟩, (by rw [c]; exact ⟨by omega, by omega⟩)⟩, fun g => absurd g (by rw [c]; omega), fun _ => ⟨⟨rop, rr3⟩, fun z => ⟨⟨by omega, by omega⟩, ?_⟩, fun z => ⟨(by rw [c]; exact ⟨by omega, by omega⟩), ?_⟩⟩⟩
      · rw [htd, if_neg z] at hK
        rw [c3]
        exact hK
      · rw [htd, if_pos (Decidable.not_not.mp z)] at hK
        rw [c3, c]
        exact hK
    obtain ⟨b1, cn1, ce1, nu1, y1, md1, ch1, ⟨o1, o2, o3, o4, o5⟩, lc, lr⟩ := ld_rows_41 (sc := sc) hS hD hO hO3 hop (k := k) (t := t) ⟨k0, by omega⟩ ht (τ 41 1).toNat 0 cn ce nu y md ch (by decide) (by omega) hG hy hch
    by_cases hb1 : b1 = 0
    · subst hb1
      refine ⟨0, cn1, ce1, nu1, y1, md1, ch1, ⟨Or.inl rfl, o2, o3, o4, o5.1, by omega⟩, fun σ h => ?_, fun σ h => ?_⟩
      · obtain ⟨σ', l1, l2, l3⟩ := lc σ h
        exact ⟨σ', l1, l2, fun Q x4 x5 hQ => c0 σ Q x4 x5 h.1 (l3 Q (fun _ => hQ) (fun z => absurd z (by decide)))⟩
      · obtain ⟨σ', l1, l2, l3⟩ := lr σ h
        refine ⟨σ', l1, l2, fun Q x3 x4 x5 hQ => r0 σ Q x3 x4 x5 h.1 ?_⟩
        exact (l3 Q (fun _ => hQ) (fun z => absurd z (by decide)) 0 (by decide) d3.1 (by omega) (fun z => (d9 0 (by decide) z).2.2.1.2.2.1 |> fun q => by omega)).2.2 (by omega) none
    · have hb2 : b1 = 1 := by omega
      subst hb2
      obtain ⟨b2, cn2, ce2, nu2, y2, md2, ch2, ⟨p1, p2, p3, p4, p5⟩, ic, ir⟩ := ih (k + 1) cn1 ce1 nu1 y1 md1 ch1 (by omega) (by omega) o2 o3 o4
      refine ⟨b2, cn2, ce2, nu2, y2, md2, ch2, ⟨p1, p2, p3, p4, by omega, by omega⟩, fun σ h => ?_, fun σ h => ?_⟩
      · obtain ⟨σ1, l1, l2, l3⟩ := lc σ h
        obtain ⟨σ2, j1, j2, j3⟩ := ic σ1 l1
        exact ⟨σ2, j1, kpC_trans l2 j2, fun Q x4 x5 hQ => c0 σ Q x4 x5 h.1 (l3 Q (fun z => absurd z (by decide)) (fun _ y4 y5 => j3 Q y4 y5 hQ))⟩
      · obtain ⟨σ1, l1, l2, l3⟩ := lr σ h
        obtain ⟨σ2, j1, j2, j3⟩ := ir σ1 l1
        refine ⟨σ2, j1, kpR_trans l2 j2, fun Q x3 x4 x5 hQ => r0 σ Q x3 x4 x5 h.1 ?_⟩
        exact (l3 Q (fun z => absurd z (by decide)) (fun _ y3 y4 y5 => j3 Q y3 y4 y5 hQ) 0 (by decide) d3.1 (by omega) (fun z => (d9 0 (by decide) z).2.2.1.2.2.1 |> fun q => by omega)).2.2 (by omega) none
theorem ld_rows_50 {sc : Int × (Int → Int)} {τ : ai_S} (hS : RSch (τ 2 0) (τ 59 1) (τ 4) (τ 60) (τ 5) (τ 61) (τ 7) (τ 62) (τ 6) (τ 63) (τ 3) (τ 84)) (hD : DS (τ 2 0) (τ 4) (τ 5) (τ 50 0) (τ 50 1) (τ 51) (τ 52) (τ 53) (τ 54) (τ 55) (τ 56) (τ 57) (τ 58) (τ 59 20) (τ 59 21) (τ 72) (τ 73) (τ 74) (τ 75) (τ 76) (τ 77)) (hO : τ 59 13 = τ 12 0) (hO3 : 0 ≤ τ 12 0 ∧ τ 12 0 ≤ 3) {op k t : Int} (hop : 0 ≤ op ∧ op ≤ 3) (hk : 0 ≤ k ∧ k < 5) (ht : 0 ≤ t ∧ t < 5) :
    ∀ (n : Nat) (r : Int) (cn ce nu y : Int → Int) (md ch : Int), 0 ≤ r → r + (n : Int) = τ 50 1 → GS (τ 2 0) (τ 4) (τ 5) (τ 6) cn ce nu → (∀ j, ai_r (y j)) → (0 < τ 12 0 → 0 ≤ ch ∧ ch ≤ 200) → ∃ b cn' ce' nu' y' md' ch', okO τ (n : Int) b cn' ce' nu' y' md md' ch' ∧
      (∀ σ, CT τ cn ce nu y md ch σ → ∃ σ', CT τ cn' ce' nu' y' md' ch' σ' ∧ kpC σ σ' ∧ ∀ Q : ai_O → Prop, (b = 0 → Q (.inl (some (.inl 0)), (92, [], σ'))) → (b = 1 → ∀ x4 x5, ai_wp sc 39 2 [some (.inr (.inr 1)), some (.inl op), some (.inr (.inr 50)), some (.inl (k + 1)), x4, x5] [] (0, 0) (92, [], σ') Q) → ai_wp sc 39 26 [some (.inr (.inr 1)), some (.inl op), some (.inr (.inr 50)), some (.inl k), some (.inl t), some (.inl r)] [] (0, 0) (92, [], σ) Q) ∧
      (∀ σ, RT τ cn ce nu y md ch σ → ∃ σ', RT τ cn' ce' nu' y' md' ch' σ' ∧ kpR σ σ' ∧ ∀ Q : ai_O → Prop, (b = 0 → Q (.inl (some (.inl 0)), (92, [], σ'))) → (b = 1 → ∀ x3 x4 x5, ai_wp sc 168 2 [some (.inr (.inr 59)), some (.inl op), some (.inl (k + 1)), x3, x4, x5] [] (0, 0) (92, [], σ') Q) → (∀ s, 0 ≤ s → s ≤ τ 50 0 → τ 74 s ≤ r → (s < τ 50 0 → r ≤ τ 74 (s + 1)) → (s < τ 50 0 → τ 72 s = t → ai_wp sc 168 32 [some (.inr (.inr 59)), some (.inl op), some (.inl k), some (.inl t), some (.inl s), some (.inl r)] [] (0, 0) (92, [], σ) Q) ∧ (s < τ 50 0 → ¬ τ 72 s = t → ∀ x5, ai_wp sc 168 23 [some (.inr (.inr 59)), some (.inl op), some (.inl k), some (.inl t), some (.inl (s + 1)), x5] [] (0, 0) (92, [], σ) Q) ∧ (r = τ 74 s → ∀ x5, ai_wp sc 168 23 [some (.inr (.inr 59)), some (.inl op), some (.inl k), some (.inl t), some (.inl s), x5] [] (0, 0) (92, [], σ) Q))) := by
  obtain ⟨⟨d1, d2, d3, d4, d5, d6⟩, d7, d8, d9⟩ := id hD
  have hmo : ∀ s, 0 ≤ s → s < τ 50 0 → τ 74 s ≤ τ 74 (s + 1) := fun s q1 q2 => (d9 s q1 q2).2.2.1.2.2.1
  have hsr : ∀ s, 0 ≤ s → s ≤ τ 50 0 → 0 ≤ τ 74 s ∧ τ 74 s ≤ 24 := fun s q1 q2 => by
    have a := sf_le (a := 0) (b := s) hmo (by decide) q1 q2
    have b := sf_le (a := s) (b := τ 50 0) hmo q1 q2 (Int.le_refl _)
    omega
  have s2 := hS.2.1
  have rop : ai_r op := ⟨by omega, by omega⟩
  have rt : ai_r t := ⟨by omega, by omega⟩
  -- the other sections at a row, from the section that has it
  have down : ∀ (σ : ai_S) (Q : ai_O → Prop) (r M : Int), RS τ σ → 0 ≤ r → r ≤ 24 → (0 ≤ M ∧ M ≤ τ 50 0) → τ 74 M ≤ r → (M < τ 50 0 → r < τ 74 (M + 1)) → (M = τ 50 0 → r = τ 74 M) → ((M < τ 50 0 → τ 72 M = t → ai_wp sc 168 32 [some (.inr (.inr 59)), some (.inl op), some (.inl k), some (.inl t), some (.inl M), some (.inl r)] [] (0, 0) (92, [], σ) Q) ∧ (M < τ 50 0 → ¬ τ 72 M = t → ∀ x5, ai_wp sc 168 23 [some (.inr (.inr 59)), some (.inl op), some (.inl k), some (.inl t), some (.inl (M + 1)), x5] [] (0, 0) (92, [], σ) Q) ∧ (r = τ 74 M → ∀ x5, ai_wp sc 168 23 [some (.inr (.inr 59)), some (.inl op), some (.inl k), some (.inl t), some (.inl M), x5] [] (0, 0) (92, [], σ) Q)) → (∀ s, 0 ≤ s → s ≤ τ 50 0 → τ 74 s ≤ r → (s < τ 50 0 → r ≤ τ 74 (s + 1)) → (s < τ 50 0 → τ 72 s = t → ai_wp sc 168 32 [some (.inr (.inr 59)), some (.inl op), some (.inl k), some (.inl t), some (.inl s), some (.inl r)] [] (0, 0) (92, [], σ) Q) ∧ (s < τ 50 0 → ¬ τ 72 s = t → ∀ x5, ai_wp sc 168 23 [some (.inr (.inr 59)), some (.inl op), some (.inl k), some (.inl t), some (.inl (s + 1)), x5] [] (0, 0) (92, [], σ) Q) ∧ (r = τ 74 s → ∀ x5, ai_wp sc 168 23 [some (.inr (.inr 59)), some (.inl op), some (.inl k), some (.inl t), some (.inl s), x5] [] (0, 0) (92, [], σ) Q)) := by
    intro σ Q r M hR r0 r24 hM hMr hM2 hM3 hc s q1 q2 q3 q4
    have hb := rf_down (S := τ 50 0) (N := 0) (M := M) (r := r) hR d1 d3.2 hmo hsr hM ⟨hMr, r24⟩ hc.2.2
    have hsM : s ≤ M := by
      by_cases z : M < s
      · have a := sf_le (a := M + 1) (b := s) hmo (by omega) (by omega) q2
        have := hM2 (by omega)
        omega
      · omega
    have c74 : σ 74 = τ 74 := hR.1 74 (by omega)
    have c72 : σ 72 = τ 72 := hR.1 72 (by omega)
    by_cases e : s = M
    · subst e
      exact hc
    · have e1 : s < τ 50 0 := by omega
      have a := sf_le (a := s + 1) (b := M) hmo (by omega) (by omega) hM.2
      have e2 : r = τ 74 (s + 1) := by
        have := q4 e1
        omega
      have hn := hb (M - (s + 1)).toNat (s + 1) (by omega) (by omega) e2
      refine ⟨fun _ z => ?_, fun _ _ => hn, fun z => hb (M - s).toNat s q1 (by omega) z⟩
      exact rb_168_32 ⟨⟨by omega, by omega⟩, ⟨⟨by omega, by omega⟩, (by rw [c74, ← e2]; exact ⟨by omega, by omega⟩)⟩, fun _ => hn _, fun g => absurd (show σ 74 (s + 1) ≤ r by rw [c74]; omega) g⟩
  intro n
  induction n with
  | zero =>
    intro r cn ce nu y md ch r0 rn hG hy hch
    refine ⟨1, cn, ce, nu, y, md, ch, ⟨Or.inr rfl, hG, hy, hch, Int.le_refl md, by omega⟩, fun σ h => ⟨σ, h, kpC_rfl, fun Q _ h1 => ?_⟩, fun σ h => ⟨σ, h, kpR_rfl, fun Q _ h1 => ?_⟩⟩
    · have c := congrFun (h.1.1 50 (by omega)) 1
      exact rb_39_26_50 ⟨⟨⟨by omega, by omega⟩, (by rw [c]; exact ⟨by omega, by omega⟩)⟩, fun _ => h1 rfl _ _, fun g => absurd (show σ 50 1 ≤ r by rw [c]; omega) g⟩
    · have c20 : σ 59 20 = τ 50 0 := h.1.2.2.2.1.trans d1
      refine down σ Q r (τ 50 0) h.1 r0 (by omega) ⟨d3.1, Int.le_refl _⟩ (by omega) (fun z => absurd z (by omega)) (fun _ => by omega) ⟨fun z => absurd z (by omega), fun z => absurd z (by omega), fun _ x5 => ?_⟩
      exact rh_168_23 ⟨⟨⟨by omega, by omega⟩, (by rw [c20]; exact ⟨by omega, by omega⟩)⟩, fun _ => h1 rfl _ _ _, fun g => absurd (show σ 59 20 ≤ τ 50 0 by rw [c20]; exact Int.le_refl _) g⟩
  | succ n ih =>
    intro r cn ce nu y md ch r0 rn hG hy hch
    obtain ⟨e1, e2, e3⟩ := d8 r r0 (by omega)
    have hr24 : 0 ≤ r ∧ r < 24 := ⟨r0, by omega⟩
    have hta := (d9 _ e1.1 e1.2).1
    -- a class's step to the row behind
    have cnext : ∀ (σ : ai_S) (Q : ai_O → Prop), CT τ cn ce nu y md ch σ → (τ 51 (τ 56 r) = t → ai_ret (ai_wp sc) 40 [some (.inr (.inr 1)), some (.inl op), some (.inr (.inr 50)), some (.inl r), none, none] (92, [], σ) (fun v h' => ai_ck (ai_zz 92 h'.1 0) (ai_wp sc 39 40 [some (.inr (.inr 1)), some (.inl op), some (.inr (.inr 50)), some (.inl k), some (.inl t), some (.inl r)] (v.toList ++ []) (0, 0) h' Q))) → (¬ τ 51 (τ 56 r) = t → ai_wp sc 39 26 [some (.inr (.inr 1)), some (.inl op), some (.inr (.inr 50)), some (.inl k), some (.inl t), some (.inl (r + 1))] [] (0, 0) (92, [], σ) Q) → ai_wp sc 39 26 [some (.inr (.inr 1)), some (.inl op), some (.inr (.inr 50)), some (.inl k), some (.inl t), some (.inl r)] [] (0, 0) (92, [], σ) Q := by
      intro σ Q h hyes hno
      have c := congrFun (h.1.1 50 (by omega)) 1
      have cr := h.1.1 56 (by omega)
      have ct := h.1.1 51 (by omega)
      refine rb_39_26_50 ⟨⟨⟨by omega, by omega⟩, (by rw [c]; exact ⟨by omega, by omega⟩)⟩, fun g => absurd g (by rw [c]; omega), fun _ => ai_ret_q (pc_63_50 ⟨hr24, (by rw [cr]; exact ⟨e1.1, by omega⟩)⟩ (ai_k_in ?_))⟩
      rw [ct, cr]
      exact rb_39_33_50 ⟨⟨⟨by omega, by omega⟩, rt⟩, hno, fun z => hyes (Decidable.not_not.mp z)⟩
    by_cases hm : τ 51 (τ 56 r) = t
    · -- the row is the table's
      obtain ⟨b1, cn1, ce1, nu1, y1, md1, ch1, ⟨o1, o2, o3, o4, o5⟩, lc, lr⟩ := ld_row_50 (sc := sc) hS hD hO hO3 hop (r := r) ⟨r0, by omega⟩ (md := md) hG hy hch
      by_cases hb1 : b1 = 0
      · subst hb1
        refine ⟨0, cn1, ce1, nu1, y1, md1, ch1, ⟨Or.inl rfl, o2, o3, o4, o5.1, by omega⟩, fun σ h => ?_, fun σ h => ?_⟩
        · obtain ⟨σ', l1, l2, l3⟩ := lc σ h
          exact ⟨σ', l2, l3, fun Q h0 _ => cnext σ Q h (fun _ => fn_ret l1 (rb_39_40_50 ⟨rr0, fun z => absurd rfl z, fun _ => ⟨z01, h0 rfl⟩⟩)) (fun z => absurd hm z)⟩
        · obtain ⟨σ', l1, l2, l3⟩ := lr σ h
          refine ⟨σ', l2, l3, fun Q h0 _ => ?_⟩
          have c74 : σ 74 = τ 74 := h.1.1 74 (by omega)
          have c72 : σ 72 = τ 72 := h.1.1 72 (by omega)
          have c20 : σ 59 20 = τ 50 0 := h.1.2.2.2.1.trans d1
          have w32 : ai_wp sc 168 32 [some (.inr (.inr 59)), some (.inl op), some (.inl k), some (.inl t), some (.inl (τ 56 r)), some (.inl r)] [] (0, 0) (92, [], σ) Q := by
            rw [hm] at l1
            refine rb_168_32 ⟨⟨by omega, by omega⟩, ⟨⟨by omega, by omega⟩, (by rw [c74]; have := hsr (τ 56 r + 1) (by omega) (by omega); exact ⟨by omega, by omega⟩)⟩, fun g => absurd g (by rw [c74]; omega), fun _ => ⟨⟨e1.1, by omega⟩, ⟨(by rw [c72, hta.1]; exact ⟨by omega, by omega⟩), rt⟩, fun z => absurd (show σ 72 (τ 56 r) = t by rw [c72, hta.1]; exact hm) z, fun _ => fn_ret l1 (rb_168_52 ⟨rr0, fun z => absurd rfl z, fun _ => ⟨z01, h0 rfl⟩⟩)⟩⟩
          refine down σ Q r (τ 56 r) h.1 r0 (by omega) ⟨e1.1, by omega⟩ e2 (fun _ => e3) (fun z => absurd z (by omega)) ⟨fun _ _ => w32, fun _ z => absurd (hta.1.trans hm) z, fun z x5 => ?_⟩
          refine rh_168_23 ⟨⟨⟨by omega, by omega⟩, (by rw [c20]; exact ⟨by omega, by omega⟩)⟩, fun g => absurd g (by rw [c20]; omega), fun _ => ⟨⟨e1.1, by omega⟩, ?_⟩⟩
          rw [c74, ← z]
          exact w32
      · have hb2 : b1 = 1 := by omega
        subst hb2
        obtain ⟨b2, cn2, ce2, nu2, y2, md2, ch2, ⟨p1, p2, p3, p4, p5⟩, ic, ir⟩ := ih (r + 1) cn1 ce1 nu1 y1 md1 ch1 (by omega) (by omega) o2 o3 o4
        refine ⟨b2, cn2, ce2, nu2, y2, md2, ch2, ⟨p1, p2, p3, p4, by omega, by omega⟩, fun σ h => ?_, fun σ h => ?_⟩
        · obtain ⟨σ1, l1, l2, l3⟩ := lc σ h
          obtain ⟨σ2, j1, j2, j3⟩ := ic σ1 l2
          exact ⟨σ2, j1, kpC_trans l3 j2, fun Q h0 h1 => cnext σ Q h (fun _ => fn_ret l1 (rb_39_40_50 ⟨rr1, fun _ => j3 Q h0 h1, fun z => absurd (show ¬ (1 : Int) = 0 by decide) z⟩)) (fun z => absurd hm z)⟩
        · obtain ⟨σ1, l1, l2, l3⟩ := lr σ h
          obtain ⟨σ2, j1, j2, j3⟩ := ir σ1 l2
          refine ⟨σ2, j1, kpR_trans l3 j2, fun Q h0 h1 => ?_⟩
          have c74 : σ 74 = τ 74 := h.1.1 74 (by omega)
          have c72 : σ 72 = τ 72 := h.1.1 72 (by omega)
          have c20 : σ 59 20 = τ 50 0 := h.1.2.2.2.1.trans d1
          have w32 : ai_wp sc 168 32 [some (.inr (.inr 59)), some (.inl op), some (.inl k), some (.inl t), some (.inl (τ 56 r)), some (.inl r)] [] (0, 0) (92, [], σ) Q := by
            rw [hm] at l1
            have nx := (j3 Q h0 h1 (τ 56 r) e1.1 (by omega) (by omega) (fun _ => by omega)).1 e1.2 (hta.1.trans hm)
            refine rb_168_32 ⟨⟨by omega, by omega⟩, ⟨⟨by omega, by omega⟩, (by rw [c74]; have := hsr (τ 56 r + 1) (by omega) (by omega); exact ⟨by omega, by omega⟩)⟩, fun g => absurd g (by rw [c74]; omega), fun _ => ⟨⟨e1.1, by omega⟩, ⟨(by rw [c72, hta.1]; exact ⟨by omega, by omega⟩), rt⟩, fun z => absurd (show σ 72 (τ 56 r) = t by rw [c72, hta.1]; exact hm) z, fun _ => fn_ret l1 (rb_168_52 ⟨rr1, fun _ => nx, fun z => absurd (show ¬ (1 : Int) = 0 by decide) z⟩)⟩⟩
          refine down σ Q r (τ 56 r) h.1 r0 (by omega) ⟨e1.1, by omega⟩ e2 (fun _ => e3) (fun z => absurd z (by omega)) ⟨fun _ _ => w32, fun _ z => absurd (hta.1.trans hm) z, fun z x5 => ?_⟩
          refine rh_168_23 ⟨⟨⟨by omega, by omega⟩, (by rw [c20]; exact ⟨by omega, by omega⟩)⟩, fun g => absurd g (by rw [c20]; omega), fun _ => ⟨⟨e1.1, by omega⟩, ?_⟩⟩
          rw [c74, ← z]
          exact w32
    · -- another table's row
      obtain ⟨b2, cn2, ce2, nu2, y2, md2, ch2, ⟨p1, p2, p3, p4, p5⟩, ic, ir⟩ := ih (r + 1) cn ce nu y md ch (by omega) (by omega) hG hy hch
      refine ⟨b2, cn2, ce2, nu2, y2, md2, ch2, ⟨p1, p2, p3, p4, p5.1, by omega⟩, fun σ h => ?_, fun σ h => ?_⟩
      · obtain ⟨σ2, j1, j2, j3⟩ := ic σ h
        exact ⟨σ2, j1, j2, fun Q h0 h1 => cnext σ Q h (fun z => absurd z hm) (fun _ => j3 Q h0 h1)⟩
      · obtain ⟨σ2, j1, j2, j3⟩ := ir σ h
        refine ⟨σ2, j1, j2, fun Q h0 h1 => ?_⟩
        have c74 : σ 74 = τ 74 := h.1.1 74 (by omega)
        have c72 : σ 72 = τ 72 := h.1.1 72 (by omega)
        have c20 : σ 59 20 = τ 50 0 := h.1.2.2.2.1.trans d1
        have hne : ¬ τ 72 (τ 56 r) = t := fun z => hm (hta.1.symm.trans z)
        have nx := (j3 Q h0 h1 (τ 56 r) e1.1 (by omega) (by omega) (fun _ => by omega)).2.1 e1.2 hne
        refine down σ Q r (τ 56 r) h.1 r0 (by omega) ⟨e1.1, by omega⟩ e2 (fun _ => e3) (fun z => absurd z (by omega)) ⟨fun _ z => absurd z hne, fun _ _ => nx, fun z x5 => ?_⟩
        refine rh_168_23 ⟨⟨⟨by omega, by omega⟩, (by rw [c20]; exact ⟨by omega, by omega⟩)⟩, fun g => absurd g (by rw [c20]; omega), fun _ => ⟨⟨e1.1, by omega⟩, ?_⟩⟩
        refine rb_168_32 ⟨⟨by omega, by omega⟩, ⟨(by rw [c74]; exact ⟨by omega, by omega⟩), (by rw [c74]; have := hsr (τ 56 r + 1) (by omega) (by omega); exact ⟨by omega, by omega⟩)⟩, fun g => absurd g (by rw [c74]; omega), fun _ => ⟨⟨e1.1, by omega⟩, ⟨(by rw [c72, hta.1]; exact ⟨by omega, by omega⟩), rt⟩, fun _ => nx _, fun g => absurd (show ¬ σ 72 (τ 56 r) = t by rw [c72]; exact hne) g⟩⟩
theorem ld_all_50 {sc : Int × (Int → Int)} {τ : ai_S} (hS : RSch (τ 2 0) (τ 59 1) (τ 4) (τ 60) (τ 5) (τ 61) (τ 7) (τ 62) (τ 6) (τ 63) (τ 3) (τ 84)) (hD : DS (τ 2 0) (τ 4) (τ 5) (τ 50 0) (τ 50 1) (τ 51) (τ 52) (τ 53) (τ 54) (τ 55) (τ 56) (τ 57) (τ 58) (τ 59 20) (τ 59 21) (τ 72) (τ 73) (τ 74) (τ 75) (τ 76) (τ 77)) (hO : τ 59 13 = τ 12 0) (hO3 : 0 ≤ τ 12 0 ∧ τ 12 0 ≤ 3) {op : Int} (hop : 0 ≤ op ∧ op ≤ 3) (hq : ∀ j, 0 ≤ j → j < τ 2 0 → 0 ≤ τ 3 j ∧ τ 3 j < 5) :
    ∀ (n : Nat) (k : Int) (cn ce nu y : Int → Int) (md ch : Int), 0 ≤ k → k + (n : Int) = τ 2 0 → GS (τ 2 0) (τ 4) (τ 5) (τ 6) cn ce nu → (∀ j, ai_r (y j)) → (0 < τ 12 0 → 0 ≤ ch ∧ ch ≤ 200) → ∃ b cn' ce' nu' y' md' ch', okO τ (24 * (n : Int)) b cn' ce' nu' y' md md' ch' ∧
      (∀ σ, CT τ cn ce nu y md ch σ → ∃ σ', CT τ cn' ce' nu' y' md' ch' σ' ∧ kpC σ σ' ∧ ∀ (Q : ai_O → Prop) (x4 x5 : Option ai_V), Q (.inl (some (.inl b)), (92, [], σ')) → ai_wp sc 39 2 [some (.inr (.inr 1)), some (.inl op), some (.inr (.inr 50)), some (.inl k), x4, x5] [] (0, 0) (92, [], σ) Q) ∧
      (∀ σ, RT τ cn ce nu y md ch σ → ∃ σ', RT τ cn' ce' nu' y' md' ch' σ' ∧ kpR σ σ' ∧ ∀ (Q : ai_O → Prop) (x3 x4 x5 : Option ai_V), Q (.inl (some (.inl b)), (92, [], σ')) → ai_wp sc 168 2 [some (.inr (.inr 59)), some (.inl op), some (.inl k), x3, x4, x5] [] (0, 0) (92, [], σ) Q) := by
  obtain ⟨⟨d1, d2, d3, d4, d5, d6⟩, d7, d8, d9⟩ := id hD
  obtain ⟨s1, s2, s3, s4, s5, s6, s7, s8, s9, s10, s11, s12⟩ := id hS
  have rop : ai_r op := ⟨by omega, by omega⟩
  intro n
  induction n with
  | zero =>
    intro k cn ce nu y md ch k0 kn hG hy hch
    refine ⟨1, cn, ce, nu, y, md, ch, ⟨Or.inr rfl, hG, hy, hch, Int.le_refl md, by omega⟩, fun σ h => ⟨σ, h, kpC_rfl, fun Q x4 x5 hQ => ?_⟩, fun σ h => ⟨σ, h, kpR_rfl, fun Q x3 x4 x5 hQ => ?_⟩⟩
    · have c : σ 2 0 = τ 2 0 := congrFun (h.1.1 2 (by omega)) 0
      exact rh_39_2_50 ⟨⟨⟨by omega, by omega⟩, (by rw [c]; exact ⟨by omega, by omega⟩)⟩, fun _ => ⟨z11, hQ⟩, fun g => absurd (show σ 2 0 ≤ k by rw [c]; omega) g⟩
    · have c : σ 59 1 = τ 2 0 := h.1.2.1.trans s1
      exact rh_168_2 ⟨⟨⟨by omega, by omega⟩, (by rw [c]; exact ⟨by omega, by omega⟩)⟩, fun _ => ⟨z11, hQ⟩, fun g => absurd (show σ 59 1 ≤ k by rw [c]; omega) g⟩
  | succ n ih =>
    intro k cn ce nu y md ch k0 kn hG hy hch
    -- the table
    obtain ⟨t, htd⟩ : ∃ t, t = τ 3 (if op = 3 then τ 2 0 - 1 - k else k) := ⟨_, rfl⟩
    have ht : 0 ≤ t ∧ t < 5 := by
      rw [htd]
      split
      · exact hq _ (by omega) (by omega)
      · exact hq _ (by omega) (by omega)
    have c0 : ∀ (σ : ai_S) (Q : ai_O → Prop) (x4 x5 : Option ai_V), CS τ σ → ai_wp sc 39 26 [some (.inr (.inr 1)), some (.inl op), some (.inr (.inr 50)), some (.inl k), some (.inl t), some (.inl 0)] [] (0, 0) (92, [], σ) Q → ai_wp sc 39 2 [some (.inr (.inr 1)), some (.inl op), some (.inr (.inr 50)), some (.inl k), x4, x5] [] (0, 0) (92, [], σ) Q := by
      intro σ Q x4 x5 h hK
      have c : σ 2 0 = τ 2 0 := congrFun (h.1 2 (by omega)) 0
      have c3 : σ 3 = τ 3 := h.1 3 (by omega)
      refine rh_39_2_50 ⟨⟨⟨by omega, by omega⟩, (by rw [c]; exact ⟨by omega, by omega⟩)⟩, fun g => absurd g (by rw [c]; omega), fun _ => ⟨⟨rop, rr3⟩, fun z => ⟨⟨by omega, by omega⟩, ?_⟩, fun z => ⟨(by rw [c]; exact ⟨by omega, by omega⟩), ?_⟩⟩⟩
      · rw [htd, if_neg z] at hK
        rw [c3]
        exact hK
      · rw [htd, if_pos (Decidable.not_not.mp z)] at hK
        rw [c3, c]
        exact hK
    have r0 : ∀ (σ : ai_S) (Q : ai_O → Prop) (x3 x4 x5 : Option ai_V), RS τ σ → ai_wp sc 168 23 [some (.inr (.inr 59)), some (.inl op), some (.inl k), some (.inl t), some (.inl 0), none] [] (0, 0) (92, [], σ) Q → ai_wp sc 168 2 [some (.inr (.inr 59)), some (.inl op), some (.inl k), x3, x4, x5] [] (0, 0) (92, [], σ) Q := by
      intro σ Q x3 x4 x5 h hK
      have c : σ 59 1 = τ 2 0 := h.2.1.trans s1
      have c3 : σ 84 = τ 3 := (h.1 84 (by omega)).trans s7
      refine rh_168_2 ⟨⟨⟨by omega, by omega⟩, (by rw [c]; exact ⟨by omega, by omega⟩)⟩, fun g => absurd g (by rw [c]; omega), fun _ => ⟨⟨rop, rr3⟩, fun z => ⟨⟨by omega, by omega⟩, ?_⟩, fun z => ⟨(by rw [c]; exact ⟨by omega, by omega⟩), ?_⟩⟩⟩
      · rw [htd, if_neg z] at hK
        rw [c3]
        exact hK
      · rw [htd, if_pos (Decidable.not_not.mp z)] at hK
        rw [c3, c]
        exact hK
    obtain ⟨b1, cn1, ce1, nu1, y1, md1, ch1, ⟨o1, o2, o3, o4, o5⟩, lc, lr⟩ := ld_rows_50 (sc := sc) hS hD hO hO3 hop (k := k) (t := t) ⟨k0, by omega⟩ ht (τ 50 1).toNat 0 cn ce nu y md ch (by decide) (by omega) hG hy hch
    by_cases hb1 : b1 = 0
    · subst hb1
      refine ⟨0, cn1, ce1, nu1, y1, md1, ch1, ⟨Or.inl rfl, o2, o3, o4, o5.1, by omega⟩, fun σ h => ?_, fun σ h => ?_⟩
      · obtain ⟨σ', l1, l2, l3⟩ := lc σ h
        exact ⟨σ', l1, l2, fun Q x4 x5 hQ => c0 σ Q x4 x5 h.1 (l3 Q (fun _ => hQ) (fun z => absurd z (by decide)))⟩
      · obtain ⟨σ', l1, l2, l3⟩ := lr σ h
        refine ⟨σ', l1, l2, fun Q x3 x4 x5 hQ => r0 σ Q x3 x4 x5 h.1 ?_⟩
        exact (l3 Q (fun _ => hQ) (fun z => absurd z (by decide)) 0 (by decide) d3.1 (by omega) (fun z => (d9 0 (by decide) z).2.2.1.2.2.1 |> fun q => by omega)).2.2 (by omega) none
    · have hb2 : b1 = 1 := by omega
      subst hb2
      obtain ⟨b2, cn2, ce2, nu2, y2, md2, ch2, ⟨p1, p2, p3, p4, p5⟩, ic, ir⟩ := ih (k + 1) cn1 ce1 nu1 y1 md1 ch1 (by omega) (by omega) o2 o3 o4
      refine ⟨b2, cn2, ce2, nu2, y2, md2, ch2, ⟨p1, p2, p3, p4, by omega, by omega⟩, fun σ h => ?_, fun σ h => ?_⟩
      · obtain ⟨σ1, l1, l2, l3⟩ := lc σ h
        obtain ⟨σ2, j1, j2, j3⟩ := ic σ1 l1
        exact ⟨σ2, j1, kpC_trans l2 j2, fun Q x4 x5 hQ => c0 σ Q x4 x5 h.1 (l3 Q (fun z => absurd z (by decide)) (fun _ y4 y5 => j3 Q y4 y5 hQ))⟩
      · obtain ⟨σ1, l1, l2, l3⟩ := lr σ h
        obtain ⟨σ2, j1, j2, j3⟩ := ir σ1 l1
        refine ⟨σ2, j1, kpR_trans l2 j2, fun Q x3 x4 x5 hQ => r0 σ Q x3 x4 x5 h.1 ?_⟩
        exact (l3 Q (fun z => absurd z (by decide)) (fun _ y3 y4 y5 => j3 Q y3 y4 y5 hQ) 0 (by decide) d3.1 (by omega) (fun z => (d9 0 (by decide) z).2.2.1.2.2.1 |> fun q => by omega)).2.2 (by omega) none
