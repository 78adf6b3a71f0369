/-! COMPARE, further: the reference's sections, both runs, the turn. -/
theorem rf_other {sc : Int × (Int → Int)} {σ : ai_S} {Q : ai_O → Prop} {a b ty dl : Int} (ha : 0 ≤ a ∧ a < 120) (hb : 0 ≤ b ∧ b < 300) (h77 : σ 77 a = 0 ∨ σ 77 a = 1) (h66 : σ 66 b = 0 ∨ σ 66 b = 1) (g1 : rg (σ 76 a)) (g2 : rg (σ 65 b)) (hty : 0 ≤ ty ∧ ty ≤ 3) (hdl : 0 ≤ dl ∧ dl ≤ 9223372036854775807) (hQ : ∀ x, (x = 0 ∨ x = 1) → (x = 1 ↔ DN (σ 77 a) (σ 66 b) ty (σ 76 a) (σ 65 b) dl) → Q (.inl (some (.inl x)), (92, [], σ))) : ai_wp sc 181 0 [some (.inr (.inr 59)), some (.inl a), some (.inl b), some (.inl ty), some (.inr (.inl dl)), none, none, none] [] (0, 0) (92, [], σ) Q := by
  unfold rg at g1 g2
  refine pc_181 ?_ (hQ _ (bi_or _) ?_)
  · repeat' (first | omega | apply And.intro | with_reducible intro _)
  · rw [bi_eq1]
    exact dr_iff hdl.1 h77 h66
theorem rf_sec {sc : Int × (Int → Int)} {σ : ai_S} {L D : Int → Int → Bool} {s h cnt dl ig : Int} {A : Int → Int} (hs : 0 ≤ s ∧ s < 6) (ht : 0 ≤ σ 72 s ∧ σ 72 s < 5) (hw : 0 ≤ σ 73 s ∧ σ 73 s ≤ 5) (hcl : ∀ k, 0 ≤ k → k < σ 73 s → 0 ≤ σ 75 (5 * s + k) ∧ σ 75 (5 * s + k) < 5) (hh : h = σ 74 (s + 1) - σ 74 s) (hf : 0 ≤ σ 74 s) (hx : 0 ≤ h ∧ σ 74 s + h ≤ 24) (hcn : cnt = σ 64 (σ 72 s)) (hc12 : 0 ≤ cnt ∧ cnt ≤ 12)
    (h77 : ∀ y k, σ 74 s ≤ y → y < σ 74 s + h → 0 ≤ k → k < σ 73 s → σ 77 (5 * y + k) = 0 ∨ σ 77 (5 * y + k) = 1) (h66 : ∀ j, 0 ≤ j → j < 300 → σ 66 j = 0 ∨ σ 66 j = 1) (g1 : ∀ y k, σ 74 s ≤ y → y < σ 74 s + h → 0 ≤ k → k < σ 73 s → rg (σ 76 (5 * y + k))) (g2 : ∀ j, rg (σ 65 j)) (hty : ∀ j, 0 ≤ σ 61 j ∧ σ 61 j ≤ 3) (hdl : 0 ≤ dl ∧ dl ≤ 9223372036854775807)
    (hL : ∀ k, ((k = -1 ∧ ∀ j, 0 ≤ j → j < σ 73 s → ¬ σ 75 (5 * s + j) = 0) ∨ (0 ≤ k ∧ k < σ 73 s ∧ σ 75 (5 * s + k) = 0)) → ∀ x y, σ 74 s ≤ x → x < σ 74 s + h → σ 74 s ≤ y → y < σ 74 s + h → (L x y = true ↔ ¬ k = -1 ∧ (((¬ σ 77 (5 * x + k) = 0) ∧ σ 77 (5 * y + k) = 0) ∨ (σ 77 (5 * x + k) = 0 ∧ σ 77 (5 * y + k) = 0 ∧ σ 76 (5 * x + k) < σ 76 (5 * y + k)))))
    (hD : ∀ r k, 0 ≤ r → r < h → r < cnt → 0 ≤ k → k < σ 73 s → (D r (σ 75 (5 * s + k)) = true ↔ ai_and (ai_shr ig (σ 75 (5 * s + k))) 1 = 0 ∧ DN (σ 77 (5 * (srt L (σ 74 s) h.toNat 0 A r) + k)) (σ 66 (((60 * (σ 72 s)) + (5 * r)) + (σ 75 (5 * s + k)))) (σ 61 ((5 * (σ 72 s)) + (σ 75 (5 * s + k)))) (σ 76 (5 * (srt L (σ 74 s) h.toNat 0 A r) + k)) (σ 65 (((60 * (σ 72 s)) + (5 * r)) + (σ 75 (5 * s + k)))) dl)) :
    ∀ (Q : ai_O → Prop) P n, 0 ≤ n → n + ((secT s h cnt (σ 75) D (σ 73 s).toNat (if cnt < h then cnt else h).toNat).length : Int) ≤ 1000 → Q (.inl none, (92, [], Y3 σ (n + ((secT s h cnt (σ 75) D (σ 73 s).toNat (if cnt < h then cnt else h).toNat).length : Int)) (dl3 (secT s h cnt (σ 75) D (σ 73 s).toNat (if cnt < h then cnt else h).toNat) n P) (srt L (σ 74 s) h.toNat 0 A))) → ai_wp sc 182 0 [some (.inr (.inr 59)), some (.inl s), some (.inr (.inl dl)), none, some (.inl ig), none, none, none, none, none] [] (0, 0) (92, [], Y3 σ n P A) Q := by
  have hB : ∀ j, 0 ≤ j → j < h → σ 74 s ≤ srt L (σ 74 s) h.toNat 0 A j ∧ srt L (σ 74 s) h.toNat 0 A j < σ 74 s + h := fun j j1 j2 => srt_rng (p := fun z => σ 74 s ≤ z ∧ z < σ 74 s + h) h.toNat 0 A (Int.le_refl 0) (fun k k1 k2 => ⟨by omega, by omega⟩) (fun j j1 j2 => absurd j2 (by omega)) j j1 (by omega)
  have hsort : ∀ P n, fn sc 178 [some (.inr (.inr 59)), some (.inl s), none, none, none, none, none] (Y3 σ n P A) none (Y3 σ n P (srt L (σ 74 s) h.toNat 0 A)) := fun P n => rf_sort (σ := up (ai_set σ 59 41 n) 88 P) hs hw (fun k k1 k2 => by have := hcl k k1 k2; exact ⟨by show _ ≤ σ 75 (5 * s + k); omega, by show σ 75 (5 * s + k) ≤ _; omega⟩) hh hf hx (fun y k y1 y2 k1 k2 => by have := g1 y k y1 y2 k1 k2; unfold rg at this; exact ⟨by show _ ≤ σ 76 (5 * y + k); omega, by show σ 76 (5 * y + k) ≤ _; omega⟩) (fun y k y1 y2 k1 k2 => by have := h77 y k y1 y2 k1 k2; exact ⟨by show _ ≤ σ 77 (5 * y + k); omega, by show σ 77 (5 * y + k) ≤ _; omega⟩) hL
  generalize hA' : srt L (σ 74 s) h.toNat 0 A = B at hB hD hsort ⊢
  have hmin : ∀ r : Int, (if cnt < h then cnt else h) ≤ r ↔ cnt ≤ r ∨ h ≤ r := by
    intro r
    split <;> omega
  have hmr : 0 ≤ (if cnt < h then cnt else h) ∧ (if cnt < h then cnt else h) ≤ 24 := by
    split <;> omega
  have c64 : ai_r (σ 64 (σ 72 s)) := by
    rw [← hcn]
    exact ⟨by omega, by omega⟩
  have hrow : ∀ (r : Int) (M : List (Int × Int × Int)), 0 ≤ r → r < h → r < cnt → (∀ x y, rD sc σ B 182 33 [some (.inr (.inr 59)), some (.inl s), some (.inr (.inl dl)), none, some (.inl ig), some (.inl (σ 72 s)), some (.inl h), some (.inl (r + 1)), x, y] M) → ∀ (n : Nat) (k : Int) (x : Option ai_V), 0 ≤ k ∧ k ≤ σ 73 s → (σ 73 s - k).toNat = n → rD sc σ B 182 44 [some (.inr (.inr 59)), some (.inl s), some (.inr (.inl dl)), none, some (.inl ig), some (.inl (σ 72 s)), some (.inl h), some (.inl r), some (.inl k), x] (catT (fun k => colT s (σ 75) D r k) n k ++ M) := by
    intro r M r0 rh rc hM n
    induction n with
    | zero =>
      intro k x hk hn
      exact rD_nil (hM _ _) (fun P n Q hr => rh_182_44 ⟨hs, ⟨⟨by omega, by omega⟩, (show ai_r (σ 73 s) from ⟨by omega, by omega⟩)⟩, fun _ => hr, fun q => absurd (show σ 73 s ≤ k by omega) q⟩)
    | succ n ih =>
      intro k x hk hn
      have hc := hcl k hk.1 (by omega)
      have hd := hD r k r0 rh rc hk.1 (by omega)
      have hb := hB r r0 rh
      have g := ih (k + 1) (some (.inl (σ 75 (5 * s + k)))) (by omega) (by omega)
      have g99 : rD sc σ B 182 99 [some (.inr (.inr 59)), some (.inl s), some (.inr (.inl dl)), none, some (.inl ig), some (.inl (σ 72 s)), some (.inl h), some (.inl r), some (.inl k), some (.inl (σ 75 (5 * s + k)))] (catT (fun k => colT s (σ 75) D r k) n (k + 1) ++ M) := rD_nil g (fun P n Q hr => rb_182_99 hr)
      have hoth : ∀ (P : Int → Int) (n : Int) (Q : ai_O → Prop), (∀ b, (b = 0 ∨ b = 1) → (b = 1 ↔ DN (σ 77 (5 * B r + k)) (σ 66 (((60 * (σ 72 s)) + (5 * r)) + (σ 75 (5 * s + k)))) (σ 61 ((5 * (σ 72 s)) + (σ 75 (5 * s + k)))) (σ 76 (5 * B r + k)) (σ 65 (((60 * (σ 72 s)) + (5 * r)) + (σ 75 (5 * s + k)))) dl) → Q (.inl (some (.inl b)), (92, [], Y3 σ n P B))) → ai_wp sc 181 0 [some (.inr (.inr 59)), some (.inl (5 * B r + k)), some (.inl (((60 * (σ 72 s)) + (5 * r)) + (σ 75 (5 * s + k)))), some (.inl (σ 61 ((5 * (σ 72 s)) + (σ 75 (5 * s + k))))), some (.inr (.inl dl)), none, none, none] [] (0, 0) (92, [], Y3 σ n P B) Q := fun P n Q hq => rf_other (σ := Y3 σ n P B) ⟨by omega, by omega⟩ ⟨by omega, by omega⟩ (h77 _ _ hb.1 hb.2 hk.1 (by omega)) (h66 _ (by omega) (by omega)) (g1 _ _ hb.1 hb.2 hk.1 (by omega)) (g2 _) (hty _) hdl hq
      show rD sc σ B 182 44 _ (colT s (σ 75) D r k ++ catT (fun k => colT s (σ 75) D r k) n (k + 1) ++ M)
      unfold colT
      by_cases hDr : D r (σ 75 (5 * s + k)) = true
      · rw [if_pos hDr, List.append_assoc]
        exact rD_add g99 (fun P n Q hr => rh_182_44 ⟨hs, ⟨⟨by omega, by omega⟩, (show ai_r (σ 73 s) from ⟨by omega, by omega⟩)⟩, fun q => absurd (show σ 73 s ≤ k from q) (by omega), fun _ => ⟨⟨by omega, by omega⟩, r32 _, fun q => absurd (hd.mp hDr).1 q, fun _ => ⟨⟨by omega, by omega⟩, (show 0 ≤ (5 * (σ 72 s)) + (σ 75 (5 * s + k)) ∧ (5 * (σ 72 s)) + (σ 75 (5 * s + k)) < 25 from ⟨by omega, by omega⟩), ai_ret_q (hoth P n _ (fun b hb hi => ai_k_in (rb_182_93 ⟨⟨by omega, by omega⟩, fun q => absurd (hi.mpr (hd.mp hDr).2) (by omega), fun _ => hr⟩)))⟩⟩⟩)
      · rw [if_neg hDr, List.nil_append]
        exact rD_nil g99 (fun P n Q hr => rh_182_44 ⟨hs, ⟨⟨by omega, by omega⟩, (show ai_r (σ 73 s) from ⟨by omega, by omega⟩)⟩, fun q => absurd (show σ 73 s ≤ k from q) (by omega), fun _ => ⟨⟨by omega, by omega⟩, r32 _, fun _ => hr, fun q => ⟨⟨by omega, by omega⟩, (show 0 ≤ (5 * (σ 72 s)) + (σ 75 (5 * s + k)) ∧ (5 * (σ 72 s)) + (σ 75 (5 * s + k)) < 25 from ⟨by omega, by omega⟩), ai_ret_q (hoth P n _ (fun b hb hi => ai_k_in (rb_182_93 ⟨⟨by omega, by omega⟩, fun _ => hr, fun q2 => absurd (hd.mpr ⟨Decidable.not_not.mp q, hi.mp (by omega)⟩) hDr⟩)))⟩⟩⟩)
  have hrows : ∀ (n : Nat) (r : Int) (x y : Option ai_V), 0 ≤ r ∧ r ≤ (if cnt < h then cnt else h) → ((if cnt < h then cnt else h) - r).toNat = n → rD sc σ B 182 33 [some (.inr (.inr 59)), some (.inl s), some (.inr (.inl dl)), none, some (.inl ig), some (.inl (σ 72 s)), some (.inl h), some (.inl r), x, y] (catT (fun r => rwT s (σ 75) D (σ 73 s).toNat r) n r) := by
    intro n
    induction n with
    | zero =>
      intro r x y hr0 hn Q P k k0 k1 hQ
      have hmn := hmin r
      rw [show k + ((catT (fun r => rwT s (σ 75) D (σ 73 s).toNat r) 0 r).length : Int) = k from Int.add_zero k] at hQ
      by_cases hhr : h ≤ r
      · exact rh_182_33 ⟨⟨⟨by omega, by omega⟩, ⟨by omega, by omega⟩⟩, fun _ => hQ, fun q => absurd hhr q⟩
      · exact rh_182_33 ⟨⟨⟨by omega, by omega⟩, ⟨by omega, by omega⟩⟩, fun q => absurd q hhr, fun _ => ⟨ht, ⟨⟨by omega, by omega⟩, c64⟩, fun _ => hQ, fun q => absurd (show σ 64 (σ 72 s) ≤ r by omega) q⟩⟩
    | succ n ih =>
      intro r x y hr0 hn
      have hmn := hmin r
      have g := hrow r _ hr0.1 (by omega) (by omega) (fun x y => ih (r + 1) x y (by omega) (by omega)) (σ 73 s).toNat 0 none ⟨by omega, hw.1⟩ (by omega)
      exact rD_nil g (fun P n Q hr => rh_182_33 ⟨⟨⟨by omega, by omega⟩, ⟨by omega, by omega⟩⟩, fun q => absurd q (by omega), fun _ => ⟨ht, ⟨⟨by omega, by omega⟩, c64⟩, fun q => absurd (show σ 64 (σ 72 s) ≤ r from q) (by omega), fun _ => hr⟩⟩)
  have g31 : rD sc σ B 182 31 [some (.inr (.inr 59)), some (.inl s), some (.inr (.inl dl)), none, some (.inl ig), some (.inl (σ 72 s)), some (.inl h), none, none, none] (catT (fun r => rwT s (σ 75) D (σ 73 s).toNat r) (if cnt < h then cnt else h).toNat 0) := rD_nil (hrows _ 0 none none ⟨by omega, by omega⟩ (by omega)) (fun P n Q hr => rb_182_31 hr)
  have g20 : rD sc σ B 182 20 [some (.inr (.inr 59)), some (.inl s), some (.inr (.inl dl)), none, some (.inl ig), some (.inl (σ 72 s)), some (.inl h), none, none, none] (secT s h cnt (σ 75) D (σ 73 s).toNat (if cnt < h then cnt else h).toNat) := by
    unfold secT
    by_cases e : h = cnt
    · rw [if_pos e, List.nil_append]
      exact rD_nil g31 (fun P n Q hr => rb_182_20 ⟨ht, ⟨⟨by omega, by omega⟩, c64⟩, fun _ => hr, fun q => absurd (e.trans hcn) q⟩)
    · rw [if_neg e]
      exact rD_add g31 (fun P n Q hr => rb_182_20 ⟨ht, ⟨⟨by omega, by omega⟩, c64⟩, fun q => absurd (show h = σ 64 (σ 72 s) from q) (fun z => e (z.trans hcn.symm)), fun _ => hr⟩)
  intro Q P n n0 n1 hQ
  refine rb_182_0 ⟨hs, ⟨by omega, by omega⟩, ⟨by omega, by omega⟩, fn_ret (hsort P n) ?_⟩
  show ai_wp sc 182 20 [some (.inr (.inr 59)), some (.inl s), some (.inr (.inl dl)), none, some (.inl ig), some (.inl (σ 72 s)), some (.inl (σ 74 (s + 1) - σ 74 s)), none, none, none] [] (0, 0) (92, [], Y3 σ n P B) Q
  rw [← hh]
  exact g20 Q P n n0 n1 hQ
def runT (f : Int → (Int → Int) → List (Int × Int × Int) × (Int → Int)) : Nat → Int → (Int → Int) → List (Int × Int × Int) × (Int → Int)
  | 0, _, A => ([], A)
  | n + 1, s, A => ((f s A).1 ++ (runT f n (s + 1) (f s A).2).1, (runT f n (s + 1) (f s A).2).2)
theorem runT_len {f : Int → (Int → Int) → List (Int × Int × Int) × (Int → Int)} {B : Nat} (h : ∀ s A, (f s A).1.length ≤ B) : ∀ n s A, (runT f n s A).1.length ≤ n * B := by
  intro n
  induction n with
  | zero => exact fun _ _ => Nat.zero_le _
  | succ n ih =>
    intro s A
    have h1 := h s A
    have h2 := ih (s + 1) (f s A).2
    have e : (n + 1) * B = n * B + B := Nat.succ_mul n B
    show ((f s A).1 ++ (runT f n (s + 1) (f s A).2).1).length ≤ (n + 1) * B
    rw [List.length_append, e]
    omega
theorem runT_ok {f : Int → (Int → Int) → List (Int × Int × Int) × (Int → Int)} {S : Int} (h : ∀ s A, 0 ≤ s → s < S → ok3 (f s A).1) : ∀ (n : Nat) (s : Int) A, 0 ≤ s → s + (n : Int) ≤ S → ok3 (runT f n s A).1 := by
  intro n
  induction n with
  | zero => exact fun _ _ _ _ => ok3_nil
  | succ n ih => exact fun s A h0 h1 => ok3_app (h s A h0 (by omega)) (ih (s + 1) _ (by omega) (by omega))
theorem runT_all {f : Int → (Int → Int) → List (Int × Int × Int) × (Int → Int)} {S : Int} {p : Int → Prop} (h : ∀ s A, 0 ≤ s → s < S → (∀ j, p (A j)) → ∀ j, p ((f s A).2 j)) : ∀ (n : Nat) (s : Int) A, 0 ≤ s → s + (n : Int) ≤ S → (∀ j, p (A j)) → ∀ j, p ((runT f n s A).2 j) := by
  intro n
  induction n with
  | zero => exact fun _ _ _ _ hA => hA
  | succ n ih => exact fun s A h0 h1 hA => ih (s + 1) _ (by omega) (by omega) (h s A h0 (by omega) hA)
theorem cf_run_41 {sc : Int × (Int → Int)} {σ : ai_S} {f : Int → (Int → Int) → List (Int × Int × Int) × (Int → Int)} {dl ig : Int} {A P : Int → Int} (hS : 0 ≤ σ 41 0 ∧ σ 41 0 ≤ 6) (hl : ∀ s A, 0 ≤ s → s < σ 41 0 → (f s A).1.length ≤ 61) (hst : ∀ s A, 0 ≤ s → s < σ 41 0 → ∀ (Q : ai_O → Prop) P n, 0 ≤ n → n + ((f s A).1.length : Int) ≤ 1000 → Q (.inl none, (92, [], X3 σ (n + ((f s A).1.length : Int)) (dl3 (f s A).1 n P) (f s A).2)) → ai_wp sc 25 0 [some (.inr (.inr 36)), some (.inr (.inr 1)), some (.inr (.inr 41)), some (.inl s), some (.inr (.inl dl)), none, some (.inl ig), none, none, none, none, none] [] (0, 0) (92, [], X3 σ n P A) Q) :
    fn sc 24 [some (.inr (.inr 36)), some (.inr (.inr 1)), some (.inr (.inr 41)), some (.inr (.inl dl)), none, some (.inl ig), none] (up (up σ 37 P) 38 A) none (X3 σ ((runT f (σ 41 0).toNat 0 A).1.length : Int) (dl3 (runT f (σ 41 0).toNat 0 A).1 0 P) (runT f (σ 41 0).toNat 0 A).2) := by
  intro Q hQ
  have h : ∀ (n : Nat) (s m : Int) (A P : Int → Int), 0 ≤ s ∧ s ≤ σ 41 0 → (σ 41 0 - s).toNat = n → 0 ≤ m ∧ m ≤ 61 * s → Q (.inl none, (92, [], X3 σ (m + ((runT f n s A).1.length : Int)) (dl3 (runT f n s A).1 m P) (runT f n s A).2)) → ai_wp sc 24 5 [some (.inr (.inr 36)), some (.inr (.inr 1)), some (.inr (.inr 41)), some (.inr (.inl dl)), none, some (.inl ig), some (.inl s)] [] (0, 0) (92, [], X3 σ m P A) Q := by
    intro n
    induction n with
    | zero =>
      intro s m A P hs hn hm hq
      refine rb_24_5_41 ⟨⟨⟨by omega, by omega⟩, (show ai_r (σ 41 0) from ⟨by omega, by omega⟩)⟩, fun _ => ?_, fun q => absurd (show σ 41 0 ≤ s by omega) q⟩
      rw [show m + ((runT f 0 s A).1.length : Int) = m from Int.add_zero m] at hq
      exact hq
    | succ n ih =>
      intro s m A P hs hn hm hq
      have hl1 := hl s A hs.1 (by omega)
      refine rb_24_5_41 ⟨⟨⟨by omega, by omega⟩, (show ai_r (σ 41 0) from ⟨by omega, by omega⟩)⟩, fun q => absurd (show σ 41 0 ≤ s from q) (by omega), fun _ => ai_ret_q (hst s A hs.1 (by omega) _ P m hm.1 (by omega) (ai_k_in (rb_24_16_41 (ih (s + 1) _ _ _ (by omega) (by omega) (by omega) ?_))))⟩
      have e : m + ((runT f (n + 1) s A).1.length : Int) = m + ((f s A).1.length : Int) + ((runT f n (s + 1) (f s A).2).1.length : Int) := by
        show m + (((f s A).1 ++ (runT f n (s + 1) (f s A).2).1).length : Int) = _
        rw [List.length_append]
        omega
      have e2 : dl3 (runT f (n + 1) s A).1 m P = dl3 (runT f n (s + 1) (f s A).2).1 (m + ((f s A).1.length : Int)) (dl3 (f s A).1 m P) := dl3_app _ _ _ _
      rw [e, e2] at hq
      exact hq
  refine rb_24_0_41 ?_
  have e : ai_set (up (up σ 37 P) 38 A) 36 0 0 = X3 σ 0 P A := by
    unfold X3
    rw [up_c (p := 38) (q := 36) (by decide), up_c (p := 37) (q := 36) (by decide)]
  rw [e]
  refine h (σ 41 0).toNat 0 0 A P ⟨by omega, hS.1⟩ (by omega) ⟨by omega, by omega⟩ ?_
  rw [Int.zero_add]
  exact hQ
theorem cf_run_50 {sc : Int × (Int → Int)} {σ : ai_S} {f : Int → (Int → Int) → List (Int × Int × Int) × (Int → Int)} {dl ig : Int} {A P : Int → Int} (hS : 0 ≤ σ 50 0 ∧ σ 50 0 ≤ 6) (hl : ∀ s A, 0 ≤ s → s < σ 50 0 → (f s A).1.length ≤ 61) (hst : ∀ s A, 0 ≤ s → s < σ 50 0 → ∀ (Q : ai_O → Prop) P n, 0 ≤ n → n + ((f s A).1.length : Int) ≤ 1000 → Q (.inl none, (92, [], X3 σ (n + ((f s A).1.length : Int)) (dl3 (f s A).1 n P) (f s A).2)) → ai_wp sc 25 0 [some (.inr (.inr 36)), some (.inr (.inr 1)), some (.inr (.inr 50)), some (.inl s), some (.inr (.inl dl)), none, some (.inl ig), none, none, none, none, none] [] (0, 0) (92, [], X3 σ n P A) Q) :
    fn sc 24 [some (.inr (.inr 36)), some (.inr (.inr 1)), some (.inr (.inr 50)), some (.inr (.inl dl)), none, some (.inl ig), none] (up (up σ 37 P) 38 A) none (X3 σ ((runT f (σ 50 0).toNat 0 A).1.length : Int) (dl3 (runT f (σ 50 0).toNat 0 A).1 0 P) (runT f (σ 50 0).toNat 0 A).2) := by
  intro Q hQ
  have h : ∀ (n : Nat) (s m : Int) (A P : Int → Int), 0 ≤ s ∧ s ≤ σ 50 0 → (σ 50 0 - s).toNat = n → 0 ≤ m ∧ m ≤ 61 * s → Q (.inl none, (92, [], X3 σ (m + ((runT f n s A).1.length : Int)) (dl3 (runT f n s A).1 m P) (runT f n s A).2)) → ai_wp sc 24 5 [some (.inr (.inr 36)), some (.inr (.inr 1)), some (.inr (.inr 50)), some (.inr (.inl dl)), none, some (.inl ig), some (.inl s)] [] (0, 0) (92, [], X3 σ m P A) Q := by
    intro n
    induction n with
    | zero =>
      intro s m A P hs hn hm hq
      refine rb_24_5_50 ⟨⟨⟨by omega, by omega⟩, (show ai_r (σ 50 0) from ⟨by omega, by omega⟩)⟩, fun _ => ?_, fun q => absurd (show σ 50 0 ≤ s by omega) q⟩
      rw [show m + ((runT f 0 s A).1.length : Int) = m from Int.add_zero m] at hq
      exact hq
    | succ n ih =>
      intro s m A P hs hn hm hq
      have hl1 := hl s A hs.1 (by omega)
      refine rb_24_5_50 ⟨⟨⟨by omega, by omega⟩, (show ai_r (σ 50 0) from ⟨by omega, by omega⟩)⟩, fun q => absurd (show σ 50 0 ≤ s from q) (by omega), fun _ => ai_ret_q (hst s A hs.1 (by omega) _ P m hm.1 (by omega) (ai_k_in (rb_24_16_50 (ih (s + 1) _ _ _ (by omega) (by omega) (by omega) ?_))))⟩
      have e : m + ((runT f (n + 1) s A).1.length : Int) = m + ((f s A).1.length : Int) + ((runT f n (s + 1) (f s A).2).1.length : Int) := by
        show m + (((f s A).1 ++ (runT f n (s + 1) (f s A).2).1).length : Int) = _
        rw [List.length_append]
        omega
      have e2 : dl3 (runT f (n + 1) s A).1 m P = dl3 (runT f n (s + 1) (f s A).2).1 (m + ((f s A).1.length : Int)) (dl3 (f s A).1 m P) := dl3_app _ _ _ _
      rw [e, e2] at hq
      exact hq
  refine rb_24_0_50 ?_
  have e : ai_set (up (up σ 37 P) 38 A) 36 0 0 = X3 σ 0 P A := by
    unfold X3
    rw [up_c (p := 38) (q := 36) (by decide), up_c (p := 37) (q := 36) (by decide)]
  rw [e]
  refine h (σ 50 0).toNat 0 0 A P ⟨by omega, hS.1⟩ (by omega) ⟨by omega, by omega⟩ ?_
  rw [Int.zero_add]
  exact hQ
theorem rf_run {sc : Int × (Int → Int)} {σ : ai_S} {f : Int → (Int → Int) → List (Int × Int × Int) × (Int → Int)} {dl ig : Int} {A P : Int → Int} (hS : 0 ≤ σ 59 20 ∧ σ 59 20 ≤ 6) (hl : ∀ s A, 0 ≤ s → s < σ 59 20 → (f s A).1.length ≤ 61) (hst : ∀ s A, 0 ≤ s → s < σ 59 20 → ∀ (Q : ai_O → Prop) P n, 0 ≤ n → n + ((f s A).1.length : Int) ≤ 1000 → Q (.inl none, (92, [], Y3 σ (n + ((f s A).1.length : Int)) (dl3 (f s A).1 n P) (f s A).2)) → ai_wp sc 182 0 [some (.inr (.inr 59)), some (.inl s), some (.inr (.inl dl)), none, some (.inl ig), none, none, none, none, none] [] (0, 0) (92, [], Y3 σ n P A) Q) (Q : ai_O → Prop) (hQ : Q (.inl (some (.inl ((runT f (σ 59 20).toNat 0 A).1.length : Int))), (92, [], Y3 σ ((runT f (σ 59 20).toNat 0 A).1.length : Int) (dl3 (runT f (σ 59 20).toNat 0 A).1 0 P) (runT f (σ 59 20).toNat 0 A).2))) : ai_wp sc 183 27 [some (.inr (.inr 59)), some (.inr (.inl dl)), none, some (.inl ig), some (.inl 0)] [] (0, 0) (92, [], Y3 σ 0 P A) Q := by
  have h : ∀ (n : Nat) (s m : Int) (A P : Int → Int), 0 ≤ s ∧ s ≤ σ 59 20 → (σ 59 20 - s).toNat = n → 0 ≤ m ∧ m ≤ 61 * s → Q (.inl (some (.inl (m + ((runT f n s A).1.length : Int)))), (92, [], Y3 σ (m + ((runT f n s A).1.length : Int)) (dl3 (runT f n s A).1 m P) (runT f n s A).2)) → ai_wp sc 183 27 [some (.inr (.inr 59)), some (.inr (.inl dl)), none, some (.inl ig), some (.inl s)] [] (0, 0) (92, [], Y3 σ m P A) Q := by
    intro n
    induction n with
    | zero =>
      intro s m A P hs hn hm hq
      refine rb_183_27 ⟨⟨⟨by omega, by omega⟩, (show ai_r (σ 59 20) from ⟨by omega, by omega⟩)⟩, fun _ => ?_, fun q => absurd (show σ 59 20 ≤ s by omega) q⟩
      rw [show m + ((runT f 0 s A).1.length : Int) = m from Int.add_zero m] at hq
      exact hq
    | succ n ih =>
      intro s m A P hs hn hm hq
      have hl1 := hl s A hs.1 (by omega)
      refine rb_183_27 ⟨⟨⟨by omega, by omega⟩, (show ai_r (σ 59 20) from ⟨by omega, by omega⟩)⟩, fun q => absurd (show σ 59 20 ≤ s from q) (by omega), fun _ => ai_ret_q (hst s A hs.1 (by omega) _ P m hm.1 (by omega) (ai_k_in (rb_183_36 (ih (s + 1) _ _ _ (by omega) (by omega) (by omega) ?_))))⟩
      have e : m + ((runT f (n + 1) s A).1.length : Int) = m + ((f s A).1.length : Int) + ((runT f n (s + 1) (f s A).2).1.length : Int) := by
        show m + (((f s A).1 ++ (runT f n (s + 1) (f s A).2).1).length : Int) = _
        rw [List.length_append]
        omega
      have e2 : dl3 (runT f (n + 1) s A).1 m P = dl3 (runT f n (s + 1) (f s A).2).1 (m + ((f s A).1.length : Int)) (dl3 (f s A).1 m P) := dl3_app _ _ _ _
      rw [e, e2] at hq
      exact hq
  refine h (σ 59 20).toNat 0 0 A P ⟨by omega, hS.1⟩ (by omega) ⟨by omega, by omega⟩ ?_
  rw [Int.zero_add]
  exact hQ
