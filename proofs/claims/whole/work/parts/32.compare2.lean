/-! COMPARE, further: sections, the run, the turn. -/
theorem bi_or (p : Prop) [Decidable p] : bi p = 0 ∨ bi p = 1 := by
  have := bi_01 p
  omega
noncomputable def pb (p : Prop) : Bool := @decide p (Classical.propDecidable p)
theorem pb_iff {p : Prop} : pb p = true ↔ p := @decide_eq_true_iff p (Classical.propDecidable p)
theorem pb_no {p : Prop} (h : ¬ p) : pb p = false := @decide_eq_false p (Classical.propDecidable p) h
theorem cf_differs_41 {sc : Int × (Int → Int)} {σ : ai_S} {Q : ai_O → Prop} {s r c dl : Int} (hs : 0 ≤ s ∧ s < 6) (hr : 0 ≤ r ∧ r < 12) (hA : 0 ≤ σ 38 r ∧ σ 38 r < 24) (ht : 0 ≤ σ 42 s ∧ σ 42 s < 5) (hc : 0 ≤ c ∧ c < 5) (g1 : ∀ j, rg (σ 48 j)) (g2 : ∀ j, rg (σ 10 j)) (hty : ∀ j, 0 ≤ σ 5 j ∧ σ 5 j ≤ 3) (hdl : 0 ≤ dl ∧ dl ≤ 9223372036854775807)
    (hQ : ∀ b, (b = 0 ∨ b = 1) → (b = 1 ↔ DN (ai_and (ai_shr (σ 49 (σ 38 r)) c) 1) (ai_and (ai_shr (σ 11 (((σ 42 s) * 12) + r)) c) 1) (σ 5 (((σ 42 s) * 5) + c)) (σ 48 (((σ 38 r) * 5) + c)) (σ 10 (((((σ 42 s) * 12) + r) * 5) + c)) dl) → Q (.inl (some (.inl b)), (92, [], σ))) : ai_wp sc 28 0 [some (.inr (.inr 36)), some (.inr (.inr 1)), some (.inr (.inr 41)), some (.inl s), some (.inl r), some (.inl c), some (.inr (.inl dl)), none, none, none, none, none] [] (0, 0) (92, [], σ) Q := by
  have h1 := g1 (((σ 38 r) * 5) + c)
  have h2 := g2 (((((σ 42 s) * 12) + r) * 5) + c)
  have h3 := hty (((σ 42 s) * 5) + c)
  unfold rg at h1 h2
  have h8 : ai_r8 ((σ 48 (((σ 38 r) * 5) + c)) - (σ 10 (((((σ 42 s) * 12) + r) * 5) + c))) := ⟨by omega, by omega⟩
  have h9 : ai_r8 (if 0 < ((σ 48 (((σ 38 r) * 5) + c)) - (σ 10 (((((σ 42 s) * 12) + r) * 5) + c))) then (σ 48 (((σ 38 r) * 5) + c)) - (σ 10 (((((σ 42 s) * 12) + r) * 5) + c)) else -((σ 48 (((σ 38 r) * 5) + c)) - (σ 10 (((((σ 42 s) * 12) + r) * 5) + c)))) := by
    split
    · exact h8
    · exact ⟨by omega, by omega⟩
  refine pc_28_41 ?_ (hQ _ (bi_or _) ?_)
  · repeat' (first | exact h8 | exact h9 | omega | apply And.intro | with_reducible intro _)
  · rw [bi_eq1]
    exact dc_iff hdl.1
theorem cf_sec_41 {sc : Int × (Int → Int)} {σ : ai_S} {L D : Int → Int → Bool} {s h cnt dl ig : Int} {A : Int → Int} (hs : 0 ≤ s ∧ s < σ 41 0) (hS : σ 41 0 ≤ 6) (ht : 0 ≤ σ 42 s ∧ σ 42 s < 5) (hw : 0 ≤ σ 43 s ∧ σ 43 s ≤ 5) (hcl : ∀ k, 0 ≤ k → k < σ 43 s → 0 ≤ σ 44 (5 * s + k) ∧ σ 44 (5 * s + k) < 5) (hh : h = (if σ 41 0 ≤ s + 1 then σ 41 1 - σ 46 s else σ 46 (s + 1) - σ 46 s)) (hf : 0 ≤ σ 46 s) (hx : 0 ≤ h ∧ σ 46 s + h ≤ 24) (hcn : cnt = σ 9 (σ 42 s)) (hc12 : 0 ≤ cnt ∧ cnt ≤ 12)
    (g1 : ∀ j, rg (σ 48 j)) (g2 : ∀ j, rg (σ 10 j)) (hty : ∀ j, 0 ≤ σ 5 j ∧ σ 5 j ≤ 3) (hdl : 0 ≤ dl ∧ dl ≤ 9223372036854775807)
    (hL : ∀ x y, σ 46 s ≤ x → x < σ 46 s + h → σ 46 s ≤ y → y < σ 46 s + h → (L x y = true ↔ (¬ ai_and (ai_shr (σ 45 s) 0) 1 = 0) ∧ KLA (σ 49) (σ 48) x y)) (hL0 : ai_and (ai_shr (σ 45 s) 0) 1 = 0 → ∀ x y, L x y = false)
    (hD : ∀ r c, 0 ≤ r → r < h → r < cnt → 0 ≤ c → c < 5 → (D r c = true ↔ ai_and (ai_shr ig c) 1 = 0 ∧ DN (ai_and (ai_shr (σ 49 (srt L (σ 46 s) h.toNat 0 A r)) c) 1) (ai_and (ai_shr (σ 11 (((σ 42 s) * 12) + r)) c) 1) (σ 5 (((σ 42 s) * 5) + c)) (σ 48 (((srt L (σ 46 s) h.toNat 0 A r) * 5) + c)) (σ 10 (((((σ 42 s) * 12) + r) * 5) + c)) dl)) :
    ∀ (Q : ai_O → Prop) P n, 0 ≤ n → n + ((secT s h cnt (σ 44) D (σ 43 s).toNat (if cnt < h then cnt else h).toNat).length : Int) ≤ 1000 → Q (.inl none, (92, [], X3 σ (n + ((secT s h cnt (σ 44) D (σ 43 s).toNat (if cnt < h then cnt else h).toNat).length : Int)) (dl3 (secT s h cnt (σ 44) D (σ 43 s).toNat (if cnt < h then cnt else h).toNat) n P) (srt L (σ 46 s) h.toNat 0 A))) → ai_wp sc 25 0 [some (.inr (.inr 36)), some (.inr (.inr 1)), some (.inr (.inr 41)), some (.inl s), some (.inr (.inl dl)), none, some (.inl ig), none, none, none, none, none] [] (0, 0) (92, [], X3 σ n P A) Q := by
  have hB : ∀ j, 0 ≤ j → j < h → σ 46 s ≤ srt L (σ 46 s) h.toNat 0 A j ∧ srt L (σ 46 s) h.toNat 0 A j < σ 46 s + h := fun j j1 j2 => srt_rng (p := fun z => σ 46 s ≤ z ∧ z < σ 46 s + h) h.toNat 0 A (Int.le_refl 0) (fun k k1 k2 => ⟨by omega, by omega⟩) (fun j j1 j2 => absurd j2 (by omega)) j j1 (by omega)
  have hsort : ∀ P n, fn sc 26 [some (.inr (.inr 36)), some (.inr (.inr 41)), some (.inl s), none, none, none, none] (X3 σ n P A) none (X3 σ n P (srt L (σ 46 s) h.toNat 0 A)) := fun P n => cf_sort_41 (σ := up (ai_set σ 36 0 n) 37 P) hs hS hh hf hx (fun j => by have := g1 j; unfold rg at this; exact ⟨by show _ ≤ σ 48 j; omega, by show σ 48 j ≤ _; omega⟩) hL hL0
  generalize hA' : srt L (σ 46 s) h.toNat 0 A = B at hB hD hsort ⊢
  have hmin : ∀ r : Int, (if cnt < h then cnt else h) ≤ r ↔ cnt ≤ r ∨ h ≤ r := by
    intro r
    split <;> omega
  have hmr : 0 ≤ (if cnt < h then cnt else h) ∧ (if cnt < h then cnt else h) ≤ 12 ∨ (0 ≤ (if cnt < h then cnt else h) ∧ (if cnt < h then cnt else h) ≤ 24) := by
    split <;> omega
  have hrow : ∀ (r : Int) (M : List (Int × Int × Int)), 0 ≤ r → r < h → r < cnt → (∀ x y, cD sc σ B 25 25 [some (.inr (.inr 36)), some (.inr (.inr 1)), some (.inr (.inr 41)), some (.inl s), some (.inr (.inl dl)), none, some (.inl ig), some (.inl h), some (.inl cnt), some (.inl (r + 1)), x, y] M) → ∀ (n : Nat) (k : Int) (x : Option ai_V), 0 ≤ k ∧ k ≤ σ 43 s → (σ 43 s - k).toNat = n → cD sc σ B 25 32 [some (.inr (.inr 36)), some (.inr (.inr 1)), some (.inr (.inr 41)), some (.inl s), some (.inr (.inl dl)), none, some (.inl ig), some (.inl h), some (.inl cnt), some (.inl r), some (.inl k), x] (catT (fun k => colT s (σ 44) D r k) n k ++ M) := by
    intro r M r0 rh rc hM n
    induction n with
    | zero =>
      intro k x hk hn
      exact cD_nil (hM _ _) (fun P n Q hr => rh_25_32_41 (ai_ret_q (pc_56_41 ⟨by omega, by omega⟩ (ai_k_in (rb_25_36_41 ⟨⟨⟨by omega, by omega⟩, (show ai_r (σ 43 s) from ⟨by omega, by omega⟩)⟩, fun _ => hr, fun q => absurd (show σ 43 s ≤ k by omega) q⟩)))))
    | succ n ih =>
      intro k x hk hn
      have hc := hcl k hk.1 (by omega)
      have e5 : (s * 5) + k = 5 * s + k := by omega
      have hd := hD r (σ 44 (5 * s + k)) r0 rh rc hc.1 hc.2
      have hb := hB r r0 rh
      have g := ih (k + 1) (some (.inl (σ 44 (5 * s + k)))) (by omega) (by omega)
      have g62 : cD sc σ B 25 62 [some (.inr (.inr 36)), some (.inr (.inr 1)), some (.inr (.inr 41)), some (.inl s), some (.inr (.inl dl)), none, some (.inl ig), some (.inl h), some (.inl cnt), some (.inl r), some (.inl k), some (.inl (σ 44 (5 * s + k)))] (catT (fun k => colT s (σ 44) D r k) n (k + 1) ++ M) := cD_nil g (fun P n Q hr => rb_25_62_41 hr)
      have top : ∀ (P : Int → Int) (n : Int) (Q : ai_O → Prop), ai_wp sc 25 41 [some (.inr (.inr 36)), some (.inr (.inr 1)), some (.inr (.inr 41)), some (.inl s), some (.inr (.inl dl)), none, some (.inl ig), some (.inl h), some (.inl cnt), some (.inl r), some (.inl k), none] [.inl (σ 44 (5 * s + k))] (0, 0) (92, [], X3 σ n P B) Q → ai_wp sc 25 32 [some (.inr (.inr 36)), some (.inr (.inr 1)), some (.inr (.inr 41)), some (.inl s), some (.inr (.inl dl)), none, some (.inl ig), some (.inl h), some (.inl cnt), some (.inl r), some (.inl k), x] [] (0, 0) (92, [], X3 σ n P B) Q := by
        intro P n Q hr
        refine rh_25_32_41 (ai_ret_q (pc_56_41 ⟨by omega, by omega⟩ (ai_k_in (rb_25_36_41 ⟨⟨⟨by omega, by omega⟩, (show ai_r (σ 43 s) from ⟨by omega, by omega⟩)⟩, fun q => absurd (show σ 43 s ≤ k from q) (by omega), fun _ => ai_ret_q (pc_57_41 ⟨by omega, by omega⟩ (ai_k_in ?_))⟩))))
        rw [e5]
        exact hr
      show cD sc σ B 25 32 _ (colT s (σ 44) D r k ++ catT (fun k => colT s (σ 44) D r k) n (k + 1) ++ M)
      unfold colT
      by_cases hDr : D r (σ 44 (5 * s + k)) = true
      · rw [if_pos hDr, List.append_assoc]
        exact cD_add g62 (fun P n Q hr => top P n Q (rb_25_41_41 ⟨r32 _, fun q => absurd (hd.mp hDr).1 q, fun _ => ai_ret_q (cf_differs_41 (σ := X3 σ n P B) ⟨by omega, by omega⟩ ⟨r0, by omega⟩ (show 0 ≤ B r ∧ B r < 24 from ⟨by omega, by omega⟩) ht hc g1 g2 hty hdl (fun b hb hi => ai_k_in (rb_25_56_41 ⟨⟨by omega, by omega⟩, fun q => absurd (hi.mpr (hd.mp hDr).2) (by omega), fun _ => hr⟩)))⟩))
      · rw [if_neg hDr, List.nil_append]
        refine cD_nil g62 (fun P n Q hr => top P n Q (rb_25_41_41 ⟨r32 _, fun _ => hr, fun q => ai_ret_q (cf_differs_41 (σ := X3 σ n P B) ⟨by omega, by omega⟩ ⟨r0, by omega⟩ (show 0 ≤ B r ∧ B r < 24 from ⟨by omega, by omega⟩) ht hc g1 g2 hty hdl (fun b hb hi => ai_k_in (rb_25_56_41 ⟨⟨by omega, by omega⟩, fun _ => hr, fun q2 => absurd (hd.mpr ⟨Decidable.not_not.mp q, hi.mp (by omega)⟩) hDr⟩)))⟩))
  have hrows : ∀ (n : Nat) (r : Int) (x y : Option ai_V), 0 ≤ r ∧ r ≤ (if cnt < h then cnt else h) → ((if cnt < h then cnt else h) - r).toNat = n → cD sc σ B 25 25 [some (.inr (.inr 36)), some (.inr (.inr 1)), some (.inr (.inr 41)), some (.inl s), some (.inr (.inl dl)), none, some (.inl ig), some (.inl h), some (.inl cnt), some (.inl r), x, y] (catT (fun r => rwT s (σ 44) D (σ 43 s).toNat r) n r) := by
    intro n
    induction n with
    | zero =>
      intro r x y hr0 hn Q P k k0 k1 hQ
      refine rh_25_25_41 ⟨⟨⟨by omega, by omega⟩, ⟨by omega, by omega⟩⟩, ⟨⟨by omega, by omega⟩, ⟨by omega, by omega⟩⟩, fun _ => ?_, fun q => absurd (show (if cnt < h then cnt else h) ≤ r by omega) q⟩
      rw [show k + ((catT (fun r => rwT s (σ 44) D (σ 43 s).toNat r) 0 r).length : Int) = k from Int.add_zero k] at hQ
      exact hQ
    | succ n ih =>
      intro r x y hr0 hn
      have hmn := hmin r
      have g := hrow r _ hr0.1 (by omega) (by omega) (fun x y => ih (r + 1) x y (by omega) (by omega)) (σ 43 s).toNat 0 none ⟨by omega, hw.1⟩ (by omega)
      exact cD_nil g (fun P n Q hr => rh_25_25_41 ⟨⟨⟨by omega, by omega⟩, ⟨by omega, by omega⟩⟩, ⟨⟨by omega, by omega⟩, ⟨by omega, by omega⟩⟩, fun q => absurd q (by omega), fun _ => hr⟩)
  have g23 : cD sc σ B 25 23 [some (.inr (.inr 36)), some (.inr (.inr 1)), some (.inr (.inr 41)), some (.inl s), some (.inr (.inl dl)), none, some (.inl ig), some (.inl h), some (.inl cnt), none, none, none] (catT (fun r => rwT s (σ 44) D (σ 43 s).toNat r) (if cnt < h then cnt else h).toNat 0) := cD_nil (hrows _ 0 none none ⟨by omega, by omega⟩ (by omega)) (fun P n Q hr => rb_25_23_41 hr)
  have g15 : cD sc σ B 25 15 [some (.inr (.inr 36)), some (.inr (.inr 1)), some (.inr (.inr 41)), some (.inl s), some (.inr (.inl dl)), none, some (.inl ig), some (.inl h), some (.inl cnt), none, none, none] (secT s h cnt (σ 44) D (σ 43 s).toNat (if cnt < h then cnt else h).toNat) := by
    unfold secT
    by_cases e : h = cnt
    · rw [if_pos e, List.nil_append]
      exact cD_nil g23 (fun P n Q hr => rb_25_15_41 ⟨⟨⟨by omega, by omega⟩, ⟨by omega, by omega⟩⟩, fun _ => hr, fun q => absurd e q⟩)
    · rw [if_neg e]
      exact cD_add g23 (fun P n Q hr => rb_25_15_41 ⟨⟨⟨by omega, by omega⟩, ⟨by omega, by omega⟩⟩, fun q => absurd q e, fun _ => hr⟩)
  intro Q P n n0 n1 hQ
  refine rb_25_0_41 (ai_ret_q (pc_60_41 ?_ (ai_k_in ?_)))
  · exact ⟨⟨⟨by omega, by omega⟩, (show ai_r (σ 41 0) from ⟨by omega, by omega⟩)⟩, fun _ => ⟨by omega, by omega⟩, fun q => ⟨⟨by omega, by have q2 : ¬ σ 41 0 ≤ s + 1 := q; omega⟩, ⟨by omega, by omega⟩⟩⟩
  · show ai_wp sc 25 3 _ [.inl (if σ 41 0 ≤ s + 1 then σ 41 1 - σ 46 s else σ 46 (s + 1) - σ 46 s)] (0, 0) _ Q
    rw [← hh]
    refine rb_25_3_41 (ai_ret_q (pc_55_41 ⟨by omega, by omega⟩ (ai_k_in (rb_25_9_41 (ai_ret_q (pc_105 ht (ai_k_in ?_)))))))
    show ai_wp sc 25 10 _ [.inl (σ 9 (σ 42 s))] (0, 0) _ Q
    rw [← hcn]
    exact rb_25_10_41 (fn_ret (hsort P n) (g15 Q P n n0 n1 hQ))
theorem cf_differs_50 {sc : Int × (Int → Int)} {σ : ai_S} {Q : ai_O → Prop} {s r c dl : Int} (hs : 0 ≤ s ∧ s < 6) (hr : 0 ≤ r ∧ r < 12) (hA : 0 ≤ σ 38 r ∧ σ 38 r < 24) (ht : 0 ≤ σ 51 s ∧ σ 51 s < 5) (hc : 0 ≤ c ∧ c < 5) (g1 : ∀ j, rg (σ 57 j)) (g2 : ∀ j, rg (σ 10 j)) (hty : ∀ j, 0 ≤ σ 5 j ∧ σ 5 j ≤ 3) (hdl : 0 ≤ dl ∧ dl ≤ 9223372036854775807)
    (hQ : ∀ b, (b = 0 ∨ b = 1) → (b = 1 ↔ DN (ai_and (ai_shr (σ 58 (σ 38 r)) c) 1) (ai_and (ai_shr (σ 11 (((σ 51 s) * 12) + r)) c) 1) (σ 5 (((σ 51 s) * 5) + c)) (σ 57 (((σ 38 r) * 5) + c)) (σ 10 (((((σ 51 s) * 12) + r) * 5) + c)) dl) → Q (.inl (some (.inl b)), (92, [], σ))) : ai_wp sc 28 0 [some (.inr (.inr 36)), some (.inr (.inr 1)), some (.inr (.inr 50)), some (.inl s), some (.inl r), some (.inl c), some (.inr (.inl dl)), none, none, none, none, none] [] (0, 0) (92, [], σ) Q := by
  have h1 := g1 (((σ 38 r) * 5) + c)
  have h2 := g2 (((((σ 51 s) * 12) + r) * 5) + c)
  have h3 := hty (((σ 51 s) * 5) + c)
  unfold rg at h1 h2
  have h8 : ai_r8 ((σ 57 (((σ 38 r) * 5) + c)) - (σ 10 (((((σ 51 s) * 12) + r) * 5) + c))) := ⟨by omega, by omega⟩
  have h9 : ai_r8 (if 0 < ((σ 57 (((σ 38 r) * 5) + c)) - (σ 10 (((((σ 51 s) * 12) + r) * 5) + c))) then (σ 57 (((σ 38 r) * 5) + c)) - (σ 10 (((((σ 51 s) * 12) + r) * 5) + c)) else -((σ 57 (((σ 38 r) * 5) + c)) - (σ 10 (((((σ 51 s) * 12) + r) * 5) + c)))) := by
    split
    · exact h8
    · exact ⟨by omega, by omega⟩
  refine pc_28_50 ?_ (hQ _ (bi_or _) ?_)
  · repeat' (first | exact h8 | exact h9 | omega | apply And.intro | with_reducible intro _)
  · rw [bi_eq1]
    exact dc_iff hdl.1
theorem cf_sec_50 {sc : Int × (Int → Int)} {σ : ai_S} {L D : Int → Int → Bool} {s h cnt dl ig : Int} {A : Int → Int} (hs : 0 ≤ s ∧ s < σ 50 0) (hS : σ 50 0 ≤ 6) (ht : 0 ≤ σ 51 s ∧ σ 51 s < 5) (hw : 0 ≤ σ 52 s ∧ σ 52 s ≤ 5) (hcl : ∀ k, 0 ≤ k → k < σ 52 s → 0 ≤ σ 53 (5 * s + k) ∧ σ 53 (5 * s + k) < 5) (hh : h = (if σ 50 0 ≤ s + 1 then σ 50 1 - σ 55 s else σ 55 (s + 1) - σ 55 s)) (hf : 0 ≤ σ 55 s) (hx : 0 ≤ h ∧ σ 55 s + h ≤ 24) (hcn : cnt = σ 9 (σ 51 s)) (hc12 : 0 ≤ cnt ∧ cnt ≤ 12)
    (g1 : ∀ j, rg (σ 57 j)) (g2 : ∀ j, rg (σ 10 j)) (hty : ∀ j, 0 ≤ σ 5 j ∧ σ 5 j ≤ 3) (hdl : 0 ≤ dl ∧ dl ≤ 9223372036854775807)
    (hL : ∀ x y, σ 55 s ≤ x → x < σ 55 s + h → σ 55 s ≤ y → y < σ 55 s + h → (L x y = true ↔ (¬ ai_and (ai_shr (σ 54 s) 0) 1 = 0) ∧ KLA (σ 58) (σ 57) x y)) (hL0 : ai_and (ai_shr (σ 54 s) 0) 1 = 0 → ∀ x y, L x y = false)
    (hD : ∀ r c, 0 ≤ r → r < h → r < cnt → 0 ≤ c → c < 5 → (D r c = true ↔ ai_and (ai_shr ig c) 1 = 0 ∧ DN (ai_and (ai_shr (σ 58 (srt L (σ 55 s) h.toNat 0 A r)) c) 1) (ai_and (ai_shr (σ 11 (((σ 51 s) * 12) + r)) c) 1) (σ 5 (((σ 51 s) * 5) + c)) (σ 57 (((srt L (σ 55 s) h.toNat 0 A r) * 5) + c)) (σ 10 (((((σ 51 s) * 12) + r) * 5) + c)) dl)) :
    ∀ (Q : ai_O → Prop) P n, 0 ≤ n → n + ((secT s h cnt (σ 53) D (σ 52 s).toNat (if cnt < h then cnt else h).toNat).length : Int) ≤ 1000 → Q (.inl none, (92, [], X3 σ (n + ((secT s h cnt (σ 53) D (σ 52 s).toNat (if cnt < h then cnt else h).toNat).length : Int)) (dl3 (secT s h cnt (σ 53) D (σ 52 s).toNat (if cnt < h then cnt else h).toNat) n P) (srt L (σ 55 s) h.toNat 0 A))) → ai_wp sc 25 0 [some (.inr (.inr 36)), some (.inr (.inr 1)), some (.inr (.inr 50)), some (.inl s), some (.inr (.inl dl)), none, some (.inl ig), none, none, none, none, none] [] (0, 0) (92, [], X3 σ n P A) Q := by
  have hB : ∀ j, 0 ≤ j → j < h → σ 55 s ≤ srt L (σ 55 s) h.toNat 0 A j ∧ srt L (σ 55 s) h.toNat 0 A j < σ 55 s + h := fun j j1 j2 => srt_rng (p := fun z => σ 55 s ≤ z ∧ z < σ 55 s + h) h.toNat 0 A (Int.le_refl 0) (fun k k1 k2 => ⟨by omega, by omega⟩) (fun j j1 j2 => absurd j2 (by omega)) j j1 (by omega)
  have hsort : ∀ P n, fn sc 26 [some (.inr (.inr 36)), some (.inr (.inr 50)), some (.inl s), none, none, none, none] (X3 σ n P A) none (X3 σ n P (srt L (σ 55 s) h.toNat 0 A)) := fun P n => cf_sort_50 (σ := up (ai_set σ 36 0 n) 37 P) hs hS hh hf hx (fun j => by have := g1 j; unfold rg at this; exact ⟨by show _ ≤ σ 57 j; omega, by show σ 57 j ≤ _; omega⟩) hL hL0
  generalize hA' : srt L (σ 55 s) h.toNat 0 A = B at hB hD hsort ⊢
  have hmin : ∀ r : Int, (if cnt < h then cnt else h) ≤ r ↔ cnt ≤ r ∨ h ≤ r := by
    intro r
    split <;> omega
  have hmr : 0 ≤ (if cnt < h then cnt else h) ∧ (if cnt < h then cnt else h) ≤ 12 ∨ (0 ≤ (if cnt < h then cnt else h) ∧ (if cnt < h then cnt else h) ≤ 24) := by
    split <;> omega
  have hrow : ∀ (r : Int) (M : List (Int × Int × Int)), 0 ≤ r → r < h → r < cnt → (∀ x y, cD sc σ B 25 25 [some (.inr (.inr 36)), some (.inr (.inr 1)), some (.inr (.inr 50)), some (.inl s), some (.inr (.inl dl)), none, some (.inl ig), some (.inl h), some (.inl cnt), some (.inl (r + 1)), x, y] M) → ∀ (n : Nat) (k : Int) (x : Option ai_V), 0 ≤ k ∧ k ≤ σ 52 s → (σ 52 s - k).toNat = n → cD sc σ B 25 32 [some (.inr (.inr 36)), some (.inr (.inr 1)), some (.inr (.inr 50)), some (.inl s), some (.inr (.inl dl)), none, some (.inl ig), some (.inl h), some (.inl cnt), some (.inl r), some (.inl k), x] (catT (fun k => colT s (σ 53) D r k) n k ++ M) := by
    intro r M r0 rh rc hM n
    induction n with
    | zero =>
      intro k x hk hn
      exact cD_nil (hM _ _) (fun P n Q hr => rh_25_32_50 (ai_ret_q (pc_56_50 ⟨by omega, by omega⟩ (ai_k_in (rb_25_36_50 ⟨⟨⟨by omega, by omega⟩, (show ai_r (σ 52 s) from ⟨by omega, by omega⟩)⟩, fun _ => hr, fun q => absurd (show σ 52 s ≤ k by omega) q⟩)))))
    | succ n ih =>
      intro k x hk hn
      have hc := hcl k hk.1 (by omega)
      have e5 : (s * 5) + k = 5 * s + k := by omega
      have hd := hD r (σ 53 (5 * s + k)) r0 rh rc hc.1 hc.2
      have hb := hB r r0 rh
      have g := ih (k + 1) (some (.inl (σ 53 (5 * s + k)))) (by omega) (by omega)
      have g62 : cD sc σ B 25 62 [some (.inr (.inr 36)), some (.inr (.inr 1)), some (.inr (.inr 50)), some (.inl s), some (.inr (.inl dl)), none, some (.inl ig), some (.inl h), some (.inl cnt), some (.inl r), some (.inl k), some (.inl (σ 53 (5 * s + k)))] (catT (fun k => colT s (σ 53) D r k) n (k + 1) ++ M) := cD_nil g (fun P n Q hr => rb_25_62_50 hr)
      have top : ∀ (P : Int → Int) (n : Int) (Q : ai_O → Prop), ai_wp sc 25 41 [some (.inr (.inr 36)), some (.inr (.inr 1)), some (.inr (.inr 50)), some (.inl s), some (.inr (.inl dl)), none, some (.inl ig), some (.inl h), some (.inl cnt), some (.inl r), some (.inl k), none] [.inl (σ 53 (5 * s + k))] (0, 0) (92, [], X3 σ n P B) Q → ai_wp sc 25 32 [some (.inr (.inr 36)), some (.inr (.inr 1)), some (.inr (.inr 50)), some (.inl s), some (.inr (.inl dl)), none, some (.inl ig), some (.inl h), some (.inl cnt), some (.inl r), some (.inl k), x] [] (0, 0) (92, [], X3 σ n P B) Q := by
        intro P n Q hr
        refine rh_25_32_50 (ai_ret_q (pc_56_50 ⟨by omega, by omega⟩ (ai_k_in (rb_25_36_50 ⟨⟨⟨by omega, by omega⟩, (show ai_r (σ 52 s) from ⟨by omega, by omega⟩)⟩, fun q => absurd (show σ 52 s ≤ k from q) (by omega), fun _ => ai_ret_q (pc_57_50 ⟨by omega, by omega⟩ (ai_k_in ?_))⟩))))
        rw [e5]
        exact hr
      show cD sc σ B 25 32 _ (colT s (σ 53) D r k ++ catT (fun k => colT s (σ 53) D r k) n (k + 1) ++ M)
      unfold colT
      by_cases hDr : D r (σ 53 (5 * s + k)) = true
      · rw [if_pos hDr, List.append_assoc]
        exact cD_add g62 (fun P n Q hr => top P n Q (rb_25_41_50 ⟨r32 _, fun q => absurd (hd.mp hDr).1 q, fun _ => ai_ret_q (cf_differs_50 (σ := X3 σ n P B) ⟨by omega, by omega⟩ ⟨r0, by omega⟩ (show 0 ≤ B r ∧ B r < 24 from ⟨by omega, by omega⟩) ht hc g1 g2 hty hdl (fun b hb hi => ai_k_in (rb_25_56_50 ⟨⟨by omega, by omega⟩, fun q => absurd (hi.mpr (hd.mp hDr).2) (by omega), fun _ => hr⟩)))⟩))
      · rw [if_neg hDr, List.nil_append]
        refine cD_nil g62 (fun P n Q hr => top P n Q (rb_25_41_50 ⟨r32 _, fun _ => hr, fun q => ai_ret_q (cf_differs_50 (σ := X3 σ n P B) ⟨by omega, by omega⟩ ⟨r0, by omega⟩ (show 0 ≤ B r ∧ B r < 24 from ⟨by omega, by omega⟩) ht hc g1 g2 hty hdl (fun b hb hi => ai_k_in (rb_25_56_50 ⟨⟨by omega, by omega⟩, fun _ => hr, fun q2 => absurd (hd.mpr ⟨Decidable.not_not.mp q, hi.mp (by omega)⟩) hDr⟩)))⟩))
  have hrows : ∀ (n : Nat) (r : Int) (x y : Option ai_V), 0 ≤ r ∧ r ≤ (if cnt < h then cnt else h) → ((if cnt < h then cnt else h) - r).toNat = n → cD sc σ B 25 25 [some (.inr (.inr 36)), some (.inr (.inr 1)), some (.inr (.inr 50)), some (.inl s), some (.inr (.inl dl)), none, some (.inl ig), some (.inl h), some (.inl cnt), some (.inl r), x, y] (catT (fun r => rwT s (σ 53) D (σ 52 s).toNat r) n r) := by
    intro n
    induction n with
    | zero =>
      intro r x y hr0 hn Q P k k0 k1 hQ
      refine rh_25_25_50 ⟨⟨⟨by omega, by omega⟩, ⟨by omega, by omega⟩⟩, ⟨⟨by omega, by omega⟩, ⟨by omega, by omega⟩⟩, fun _ => ?_, fun q => absurd (show (if cnt < h then cnt else h) ≤ r by omega) q⟩
      rw [show k + ((catT (fun r => rwT s (σ 53) D (σ 52 s).toNat r) 0 r).length : Int) = k from Int.add_zero k] at hQ
      exact hQ
    | succ n ih =>
      intro r x y hr0 hn
      have hmn := hmin r
      have g := hrow r _ hr0.1 (by omega) (by omega) (fun x y => ih (r + 1) x y (by omega) (by omega)) (σ 52 s).toNat 0 none ⟨by omega, hw.1⟩ (by omega)
      exact cD_nil g (fun P n Q hr => rh_25_25_50 ⟨⟨⟨by omega, by omega⟩, ⟨by omega, by omega⟩⟩, ⟨⟨by omega, by omega⟩, ⟨by omega, by omega⟩⟩, fun q => absurd q (by omega), fun _ => hr⟩)
  have g23 : cD sc σ B 25 23 [some (.inr (.inr 36)), some (.inr (.inr 1)), some (.inr (.inr 50)), some (.inl s), some (.inr (.inl dl)), none, some (.inl ig), some (.inl h), some (.inl cnt), none, none, none] (catT (fun r => rwT s (σ 53) D (σ 52 s).toNat r) (if cnt < h then cnt else h).toNat 0) := cD_nil (hrows _ 0 none none ⟨by omega, by omega⟩ (by omega)) (fun P n Q hr => rb_25_23_50 hr)
  have g15 : cD sc σ B 25 15 [some (.inr (.inr 36)), some (.inr (.inr 1)), some (.inr (.inr 50)), some (.inl s), some (.inr (.inl dl)), none, some (.inl ig), some (.inl h), some (.inl cnt), none, none, none] (secT s h cnt (σ 53) D (σ 52 s).toNat (if cnt < h then cnt else h).toNat) := by
    unfold secT
    by_cases e : h = cnt
    · rw [if_pos e, List.nil_append]
      exact cD_nil g23 (fun P n Q hr => rb_25_15_50 ⟨⟨⟨by omega, by omega⟩, ⟨by omega, by omega⟩⟩, fun _ => hr, fun q => absurd e q⟩)
    · rw [if_neg e]
      exact cD_add g23 (fun P n Q hr => rb_25_15_50 ⟨⟨⟨by omega, by omega⟩, ⟨by omega, by omega⟩⟩, fun q => absurd q e, fun _ => hr⟩)
  intro Q P n n0 n1 hQ
  refine rb_25_0_50 (ai_ret_q (pc_60_50 ?_ (ai_k_in ?_)))
  · exact ⟨⟨⟨by omega, by omega⟩, (show ai_r (σ 50 0) from ⟨by omega, by omega⟩)⟩, fun _ => ⟨by omega, by omega⟩, fun q => ⟨⟨by omega, by have q2 : ¬ σ 50 0 ≤ s + 1 := q; omega⟩, ⟨by omega, by omega⟩⟩⟩
  · show ai_wp sc 25 3 _ [.inl (if σ 50 0 ≤ s + 1 then σ 50 1 - σ 55 s else σ 55 (s + 1) - σ 55 s)] (0, 0) _ Q
    rw [← hh]
    refine rb_25_3_50 (ai_ret_q (pc_55_50 ⟨by omega, by omega⟩ (ai_k_in (rb_25_9_50 (ai_ret_q (pc_105 ht (ai_k_in ?_)))))))
    show ai_wp sc 25 10 _ [.inl (σ 9 (σ 51 s))] (0, 0) _ Q
    rw [← hcn]
    exact rb_25_10_50 (fn_ret (hsort P n) (g15 Q P n n0 n1 hQ))
