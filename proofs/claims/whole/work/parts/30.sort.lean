/-! THE ROWS OF A SECTION IN ORDER. -/
def ins (L : Int → Int → Bool) (x : Int) : Nat → Int → (Int → Int) → (Int → Int)
  | 0, v, a => fun j => if j = v then x else a j
  | n + 1, v, a => if L x (a (v - 1)) = true then ins L x n (v + (-1)) (fun j => if j = v then a (v - 1) else a j) else fun j => if j = v then x else a j
def srt (L : Int → Int → Bool) (f : Int) : Nat → Int → (Int → Int) → (Int → Int)
  | 0, _, a => a
  | n + 1, i, a => srt L f n (i + 1) (ins L (f + i) i.toNat i a)
theorem ins_all {p : Int → Prop} {L : Int → Int → Bool} {x : Int} (hx : p x) : ∀ (n : Nat) (v : Int) (a : Int → Int), (∀ j, p (a j)) → ∀ j, p (ins L x n v a j) := by
  intro n
  induction n with
  | zero =>
    intro v a h j
    show p (if j = v then x else a j)
    split
    · exact hx
    · exact h j
  | succ n ih =>
    intro v a h j
    unfold ins
    split
    · refine ih _ _ (fun j => ?_) j
      show p (if j = v then a (v - 1) else a j)
      split
      · exact h _
      · exact h j
    · show p (if j = v then x else a j)
      split
      · exact hx
      · exact h j
theorem ins_rng {p : Int → Prop} {L : Int → Int → Bool} {x : Int} (hx : p x) : ∀ (n : Nat) (v m : Int) (a : Int → Int), v.toNat = n → 0 ≤ v → v ≤ m → (∀ j, 0 ≤ j → j < m → p (a j)) → ∀ j, 0 ≤ j → j < m + 1 → (j < m ∨ p (a j) ∨ v = m) → p (ins L x n v a j) := by
  intro n
  induction n with
  | zero =>
    intro v m a hn h0 h1 h j j1 j2 j3
    show p (if j = v then x else a j)
    split
    · exact hx
    · rcases j3 with q | q | q
      · exact h j j1 q
      · exact q
      · exact h j j1 (by omega)
  | succ n ih =>
    intro v m a hn h0 h1 h j j1 j2 j3
    have hv : p (a (v - 1)) := h (v - 1) (by omega) (by omega)
    have hj : ¬ j = v → p (a j) := by
      intro e
      rcases j3 with q | q | q
      · exact h j j1 q
      · exact q
      · exact h j j1 (by omega)
    unfold ins
    split
    · refine ih (v + (-1)) m _ (by omega) (by omega) (by omega) (fun i i1 i2 => ?_) j j1 j2 (Or.inr (Or.inl ?_))
      · show p (if i = v then a (v - 1) else a i)
        split
        · exact hv
        · exact h i i1 i2
      · show p (if j = v then a (v - 1) else a j)
        split
        · exact hv
        · rename_i e
          exact hj e
    · show p (if j = v then x else a j)
      split
      · exact hx
      · rename_i e
        exact hj e
theorem srt_all {p : Int → Prop} {L : Int → Int → Bool} {f : Int} : ∀ (n : Nat) (i : Int) (a : Int → Int), (∀ k, i ≤ k → k < i + (n : Int) → p (f + k)) → (∀ j, p (a j)) → ∀ j, p (srt L f n i a j) := by
  intro n
  induction n with
  | zero => exact fun i a _ h => h
  | succ n ih => exact fun i a h1 h2 => ih (i + 1) _ (fun k k1 k2 => h1 k (by omega) (by omega)) (ins_all (h1 i (by omega) (by omega)) _ _ _ h2)
theorem srt_rng {p : Int → Prop} {L : Int → Int → Bool} {f : Int} : ∀ (n : Nat) (i : Int) (a : Int → Int), 0 ≤ i → (∀ k, i ≤ k → k < i + (n : Int) → p (f + k)) → (∀ j, 0 ≤ j → j < i → p (a j)) → ∀ j, 0 ≤ j → j < i + (n : Int) → p (srt L f n i a j) := by
  intro n
  induction n with
  | zero =>
    intro i a h0 _ h2 j j1 j2
    exact h2 j j1 (by omega)
  | succ n ih =>
    intro i a h0 h1 h2 j j1 j2
    exact ih (i + 1) _ (by omega) (fun k k1 k2 => h1 k (by omega) (by omega)) (fun j j1 j2 => ins_rng (h1 i (by omega) (by omega)) _ i i a rfl h0 (by omega) h2 j j1 j2 (Or.inr (Or.inr rfl))) j j1 (by omega)
def KLA (nu ce : Int → Int) (x y : Int) : Prop := ((¬ ai_and (ai_shr (nu x) 0) 1 = 0) ∧ ai_and (ai_shr (nu y) 0) 1 = 0) ∨ (ai_and (ai_shr (nu x) 0) 1 = 0 ∧ ai_and (ai_shr (nu y) 0) 1 = 0 ∧ ce ((x * 5) + 0) < ce ((y * 5) + 0))
theorem kl_iff {A B u v : Int} : (((¬ (A = (0 : Int))) ∧ ((¬ (A = (0 : Int))) ∧ (¬ (¬ (B = (0 : Int)))))) ∨ ((¬ (¬ (A = (0 : Int)))) ∧ (((¬ (B = (0 : Int))) ∧ ((¬ (A = (0 : Int))) ∧ (¬ (¬ (B = (0 : Int)))))) ∨ ((¬ (¬ (B = (0 : Int)))) ∧ (¬ ((0 : Int) ≤ (ai_cmp u v))))))) ↔ ((¬ A = 0) ∧ B = 0) ∨ (A = 0 ∧ B = 0 ∧ u < v) := by
  rw [cmp_ge]
  omega
theorem kr_iff {a b u v : Int} : (((¬ a = (0 : Int)) ∧ ((¬ (a = (0 : Int))) ∧ (¬ (¬ b = (0 : Int))))) ∨ ((¬ (¬ a = (0 : Int))) ∧ (((b = (0 : Int)) ∧ (¬ ((0 : Int) ≤ (ai_cmp u v)))) ∨ ((¬ (b = (0 : Int))) ∧ ((¬ (a = (0 : Int))) ∧ (¬ (¬ b = (0 : Int)))))))) ↔ ((¬ a = 0) ∧ b = 0) ∨ (a = 0 ∧ b = 0 ∧ u < v) := by
  rw [cmp_ge]
  omega
theorem ci_41 {sc : Int × (Int → Int)} {σ : ai_S} {Q : ai_O → Prop} {L : Int → Int → Bool} {s f b i : Int} (hb : b = 0 ∨ b = 1) (hf : 0 ≤ f) (hi : 0 ≤ i) (hx : f + i < 24) (hr8 : ∀ j, ai_r8 (σ 48 j)) (hL : ∀ y, f ≤ y → y < f + i → (L (f + i) y = true ↔ ¬ b = 0 ∧ KLA (σ 49) (σ 48) (f + i) y)) (hL0 : b = 0 → ∀ y, L (f + i) y = false) :
    ∀ (n : Nat) (v : Int) (a : Int → Int), 0 ≤ v ∧ v ≤ i → v.toNat = n → (∀ j, 0 ≤ j → j < v → f ≤ a j ∧ a j < f + i) → (∀ x, ai_wp sc 26 11 [some (.inr (.inr 36)), some (.inr (.inr 41)), some (.inl s), some (.inl f), some (.inl b), some (.inl (i + 1)), x] [] (0, 0) (92, [], up σ 38 (ins L (f + i) n v a)) Q) → ai_wp sc 26 18 [some (.inr (.inr 36)), some (.inr (.inr 41)), some (.inl s), some (.inl f), some (.inl b), some (.inl i), some (.inl v)] [] (0, 0) (92, [], up σ 38 a) Q := by
  intro n
  induction n with
  | zero =>
    intro v a hv hn ha K
    have hput := K (some (.inl v))
    refine rb_26_18_41 ⟨⟨by omega, by omega⟩, fun _ => ⟨⟨by omega, by omega⟩, ?_⟩, fun _ => ⟨⟨by omega, by omega⟩, fun _ => ⟨⟨by omega, by omega⟩, ?_⟩, fun h => absurd (show v ≤ 0 by omega) h⟩⟩
    · rw [up_s]
      exact hput
    · rw [up_s]
      exact hput
  | succ n ih =>
    intro v a hv hn ha K
    have hput := K (some (.inl v))
    have hy := ha (v - 1) (by omega) (by omega)
    have hLy := hL (a (v - 1)) hy.1 hy.2
    by_cases h0 : b = 0
    · have hl := hL0 h0 (a (v - 1))
      refine rb_26_18_41 ⟨⟨by omega, by omega⟩, fun _ => ⟨⟨by omega, by omega⟩, ?_⟩, fun h => absurd h0 h⟩
      rw [up_s]
      unfold ins at hput
      rw [if_neg (by rw [hl]; decide)] at hput
      exact hput
    · refine rb_26_18_41 ⟨⟨by omega, by omega⟩, fun h => absurd h h0, fun _ => ⟨⟨by omega, by omega⟩, fun h => absurd h (by omega), fun _ => ⟨⟨by omega, by omega⟩, ai_ret_q (pc_27_41 (v3 := a (v - 1)) ?_ (ai_k_in (rb_26_34_41 ⟨bi_r _, fun h => ⟨⟨by omega, by omega⟩, ?_⟩, fun h => ⟨⟨by omega, by omega⟩, ⟨by omega, by omega⟩, ?_⟩⟩)))⟩⟩⟩
      · repeat' (first | exact hr8 _ | omega | apply And.intro | with_reducible intro _)
      · have h2 := mt kl_iff.mpr (bi_no h)
        have hl : ¬ L (f + i) (a (v - 1)) = true := fun q => h2 (hLy.mp q).2
        rw [up_s]
        unfold ins at hput
        rw [if_neg hl] at hput
        exact hput
      · have h2 := kl_iff.mp (bi_yes h)
        have hl : L (f + i) (a (v - 1)) = true := hLy.mpr ⟨h0, h2⟩
        rw [up_s]
        refine ih (v + (-1)) _ ⟨by omega, by omega⟩ (by omega) (fun j j1 j2 => ?_) (fun x => ?_)
        · show f ≤ (if j = v then a (v - 1) else a j) ∧ (if j = v then a (v - 1) else a j) < f + i
          rw [if_neg (by omega)]
          exact ha j j1 (by omega)
        · have hk := K x
          unfold ins at hk
          rw [if_pos hl] at hk
          exact hk
theorem cf_sort_41 {sc : Int × (Int → Int)} {σ : ai_S} {L : Int → Int → Bool} {s h : Int} {a : Int → Int} (hs : 0 ≤ s ∧ s < σ 41 0) (hS : σ 41 0 ≤ 6) (hh : h = (if σ 41 0 ≤ s + 1 then σ 41 1 - σ 46 s else σ 46 (s + 1) - σ 46 s)) (hf : 0 ≤ σ 46 s) (hx : 0 ≤ h ∧ σ 46 s + h ≤ 24) (hr8 : ∀ j, ai_r8 (σ 48 j))
    (hL : ∀ x y, σ 46 s ≤ x → x < σ 46 s + h → σ 46 s ≤ y → y < σ 46 s + h → (L x y = true ↔ (¬ ai_and (ai_shr (σ 45 s) 0) 1 = 0) ∧ KLA (σ 49) (σ 48) x y)) (hL0 : ai_and (ai_shr (σ 45 s) 0) 1 = 0 → ∀ x y, L x y = false) : fn sc 26 [some (.inr (.inr 36)), some (.inr (.inr 41)), some (.inl s), none, none, none, none] (up σ 38 a) none (up σ 38 (srt L (σ 46 s) h.toNat 0 a)) := by
  intro Q hQ
  have hb := bi_01 (¬ ((ai_and (ai_shr (σ 45 s) 0) 1) = (0 : Int)))
  have hloop : ∀ (n : Nat) (i : Int) (A : Int → Int) (x : Option ai_V), 0 ≤ i ∧ i ≤ h → (h - i).toNat = n → (∀ j, 0 ≤ j → j < i → σ 46 s ≤ A j ∧ A j < σ 46 s + i) → Q (.inl none, (92, [], up σ 38 (srt L (σ 46 s) n i A))) → ai_wp sc 26 11 [some (.inr (.inr 36)), some (.inr (.inr 41)), some (.inl s), some (.inl (σ 46 s)), some (.inl (bi (¬ ((ai_and (ai_shr (σ 45 s) 0) 1) = (0 : Int))))), some (.inl i), x] [] (0, 0) (92, [], up σ 38 A) Q := by
    intro n
    induction n with
    | zero =>
      intro i A x hi hn hA hq
      refine rh_26_11_41 (ai_ret_q (pc_60_41 ?_ (ai_k_in ?_)))
      · exact ⟨⟨⟨by omega, by omega⟩, (show ai_r (σ 41 0) from ⟨by omega, by omega⟩)⟩, fun _ => ⟨by omega, by omega⟩, fun q => ⟨⟨by omega, by have q2 : ¬ σ 41 0 ≤ s + 1 := q; omega⟩, ⟨by omega, by omega⟩⟩⟩
      · show ai_wp sc 26 15 _ [.inl (if σ 41 0 ≤ s + 1 then σ 41 1 - σ 46 s else σ 46 (s + 1) - σ 46 s), .inl i] (0, 0) _ Q
        rw [← hh]
        exact rb_26_15_41 ⟨⟨⟨by omega, by omega⟩, ⟨by omega, by omega⟩⟩, fun _ => hq, fun q => absurd (show h ≤ i by omega) q⟩
    | succ n ih =>
      intro i A x hi hn hA hq
      refine rh_26_11_41 (ai_ret_q (pc_60_41 ?_ (ai_k_in ?_)))
      · exact ⟨⟨⟨by omega, by omega⟩, (show ai_r (σ 41 0) from ⟨by omega, by omega⟩)⟩, fun _ => ⟨by omega, by omega⟩, fun q => ⟨⟨by omega, by have q2 : ¬ σ 41 0 ≤ s + 1 := q; omega⟩, ⟨by omega, by omega⟩⟩⟩
      · show ai_wp sc 26 15 _ [.inl (if σ 41 0 ≤ s + 1 then σ 41 1 - σ 46 s else σ 46 (s + 1) - σ 46 s), .inl i] (0, 0) _ Q
        rw [← hh]
        refine rb_26_15_41 ⟨⟨⟨by omega, by omega⟩, ⟨by omega, by omega⟩⟩, fun q => absurd q (by omega), fun _ => ?_⟩
        refine ci_41 (L := L) (by omega) hf hi.1 (by omega) hr8 (fun y y1 y2 => ?_) (fun e y => ?_) _ i A ⟨hi.1, Int.le_refl i⟩ rfl hA (fun y => ih (i + 1) _ y (by omega) (by omega) (fun j j1 j2 => ?_) hq)
        · have g := hL (σ 46 s + i) y (by omega) (by omega) y1 (by omega)
          rw [g, bi_eq0, Decidable.not_not]
        · exact hL0 (Decidable.not_not.mp (bi_no e)) _ y
        · have hp := ins_rng (p := fun z => σ 46 s ≤ z ∧ z < σ 46 s + (i + 1)) (L := L) (x := σ 46 s + i) ⟨by omega, by omega⟩ i.toNat i i A rfl hi.1 (Int.le_refl i) (fun j j1 j2 => by have := hA j j1 j2; omega) j j1 j2 (Or.inr (Or.inr rfl))
          exact hp
  refine rb_26_0_41 (ai_ret_q (pc_59_41 ⟨by omega, by omega⟩ (ai_k_in (rb_26_3_41 (ai_ret_q (pc_58_41 ⟨by omega, by omega⟩ (ai_k_in (rb_26_8_41 ?_))))))))
  exact hloop h.toNat 0 a none ⟨by omega, hx.1⟩ (by omega) (fun j j1 j2 => absurd j2 (by omega)) hQ
theorem ci_50 {sc : Int × (Int → Int)} {σ : ai_S} {Q : ai_O → Prop} {L : Int → Int → Bool} {s f b i : Int} (hb : b = 0 ∨ b = 1) (hf : 0 ≤ f) (hi : 0 ≤ i) (hx : f + i < 24) (hr8 : ∀ j, ai_r8 (σ 57 j)) (hL : ∀ y, f ≤ y → y < f + i → (L (f + i) y = true ↔ ¬ b = 0 ∧ KLA (σ 58) (σ 57) (f + i) y)) (hL0 : b = 0 → ∀ y, L (f + i) y = false) :
    ∀ (n : Nat) (v : Int) (a : Int → Int), 0 ≤ v ∧ v ≤ i → v.toNat = n → (∀ j, 0 ≤ j → j < v → f ≤ a j ∧ a j < f + i) → (∀ x, ai_wp sc 26 11 [some (.inr (.inr 36)), some (.inr (.inr 50)), some (.inl s), some (.inl f), some (.inl b), some (.inl (i + 1)), x] [] (0, 0) (92, [], up σ 38 (ins L (f + i) n v a)) Q) → ai_wp sc 26 18 [some (.inr (.inr 36)), some (.inr (.inr 50)), some (.inl s), some (.inl f), some (.inl b), some (.inl i), some (.inl v)] [] (0, 0) (92, [], up σ 38 a) Q := by
  intro n
  induction n with
  | zero =>
    intro v a hv hn ha K
    have hput := K (some (.inl v))
    refine rb_26_18_50 ⟨⟨by omega, by omega⟩, fun _ => ⟨⟨by omega, by omega⟩, ?_⟩, fun _ => ⟨⟨by omega, by omega⟩, fun _ => ⟨⟨by omega, by omega⟩, ?_⟩, fun h => absurd (show v ≤ 0 by omega) h⟩⟩
    · rw [up_s]
      exact hput
    · rw [up_s]
      exact hput
  | succ n ih =>
    intro v a hv hn ha K
    have hput := K (some (.inl v))
    have hy := ha (v - 1) (by omega) (by omega)
    have hLy := hL (a (v - 1)) hy.1 hy.2
    by_cases h0 : b = 0
    · have hl := hL0 h0 (a (v - 1))
      refine rb_26_18_50 ⟨⟨by omega, by omega⟩, fun _ => ⟨⟨by omega, by omega⟩, ?_⟩, fun h => absurd h0 h⟩
      rw [up_s]
      unfold ins at hput
      rw [if_neg (by rw [hl]; decide)] at hput
      exact hput
    · refine rb_26_18_50 ⟨⟨by omega, by omega⟩, fun h => absurd h h0, fun _ => ⟨⟨by omega, by omega⟩, fun h => absurd h (by omega), fun _ => ⟨⟨by omega, by omega⟩, ai_ret_q (pc_27_50 (v3 := a (v - 1)) ?_ (ai_k_in (rb_26_34_50 ⟨bi_r _, fun h => ⟨⟨by omega, by omega⟩, ?_⟩, fun h => ⟨⟨by omega, by omega⟩, ⟨by omega, by omega⟩, ?_⟩⟩)))⟩⟩⟩
      · repeat' (first | exact hr8 _ | omega | apply And.intro | with_reducible intro _)
      · have h2 := mt kl_iff.mpr (bi_no h)
        have hl : ¬ L (f + i) (a (v - 1)) = true := fun q => h2 (hLy.mp q).2
        rw [up_s]
        unfold ins at hput
        rw [if_neg hl] at hput
        exact hput
      · have h2 := kl_iff.mp (bi_yes h)
        have hl : L (f + i) (a (v - 1)) = true := hLy.mpr ⟨h0, h2⟩
        rw [up_s]
        refine ih (v + (-1)) _ ⟨by omega, by omega⟩ (by omega) (fun j j1 j2 => ?_) (fun x => ?_)
        · show f ≤ (if j = v then a (v - 1) else a j) ∧ (if j = v then a (v - 1) else a j) < f + i
          rw [if_neg (by omega)]
          exact ha j j1 (by omega)
        · have hk := K x
          unfold ins at hk
          rw [if_pos hl] at hk
          exact hk
theorem cf_sort_50 {sc : Int × (Int → Int)} {σ : ai_S} {L : Int → Int → Bool} {s h : Int} {a : Int → Int} (hs : 0 ≤ s ∧ s < σ 50 0) (hS : σ 50 0 ≤ 6) (hh : h = (if σ 50 0 ≤ s + 1 then σ 50 1 - σ 55 s else σ 55 (s + 1) - σ 55 s)) (hf : 0 ≤ σ 55 s) (hx : 0 ≤ h ∧ σ 55 s + h ≤ 24) (hr8 : ∀ j, ai_r8 (σ 57 j))
    (hL : ∀ x y, σ 55 s ≤ x → x < σ 55 s + h → σ 55 s ≤ y → y < σ 55 s + h → (L x y = true ↔ (¬ ai_and (ai_shr (σ 54 s) 0) 1 = 0) ∧ KLA (σ 58) (σ 57) x y)) (hL0 : ai_and (ai_shr (σ 54 s) 0) 1 = 0 → ∀ x y, L x y = false) : fn sc 26 [some (.inr (.inr 36)), some (.inr (.inr 50)), some (.inl s), none, none, none, none] (up σ 38 a) none (up σ 38 (srt L (σ 55 s) h.toNat 0 a)) := by
  intro Q hQ
  have hb := bi_01 (¬ ((ai_and (ai_shr (σ 54 s) 0) 1) = (0 : Int)))
  have hloop : ∀ (n : Nat) (i : Int) (A : Int → Int) (x : Option ai_V), 0 ≤ i ∧ i ≤ h → (h - i).toNat = n → (∀ j, 0 ≤ j → j < i → σ 55 s ≤ A j ∧ A j < σ 55 s + i) → Q (.inl none, (92, [], up σ 38 (srt L (σ 55 s) n i A))) → ai_wp sc 26 11 [some (.inr (.inr 36)), some (.inr (.inr 50)), some (.inl s), some (.inl (σ 55 s)), some (.inl (bi (¬ ((ai_and (ai_shr (σ 54 s) 0) 1) = (0 : Int))))), some (.inl i), x] [] (0, 0) (92, [], up σ 38 A) Q := by
    intro n
    induction n with
    | zero =>
      intro i A x hi hn hA hq
      refine rh_26_11_50 (ai_ret_q (pc_60_50 ?_ (ai_k_in ?_)))
      · exact ⟨⟨⟨by omega, by omega⟩, (show ai_r (σ 50 0) from ⟨by omega, by omega⟩)⟩, fun _ => ⟨by omega, by omega⟩, fun q => ⟨⟨by omega, by have q2 : ¬ σ 50 0 ≤ s + 1 := q; omega⟩, ⟨by omega, by omega⟩⟩⟩
      · show ai_wp sc 26 15 _ [.inl (if σ 50 0 ≤ s + 1 then σ 50 1 - σ 55 s else σ 55 (s + 1) - σ 55 s), .inl i] (0, 0) _ Q
        rw [← hh]
        exact rb_26_15_50 ⟨⟨⟨by omega, by omega⟩, ⟨by omega, by omega⟩⟩, fun _ => hq, fun q => absurd (show h ≤ i by omega) q⟩
    | succ n ih =>
      intro i A x hi hn hA hq
      refine rh_26_11_50 (ai_ret_q (pc_60_50 ?_ (ai_k_in ?_)))
      · exact ⟨⟨⟨by omega, by omega⟩, (show ai_r (σ 50 0) from ⟨by omega, by omega⟩)⟩, fun _ => ⟨by omega, by omega⟩, fun q => ⟨⟨by omega, by have q2 : ¬ σ 50 0 ≤ s + 1 := q; omega⟩, ⟨by omega, by omega⟩⟩⟩
      · show ai_wp sc 26 15 _ [.inl (if σ 50 0 ≤ s + 1 then σ 50 1 - σ 55 s else σ 55 (s + 1) - σ 55 s), .inl i] (0, 0) _ Q
        rw [← hh]
        refine rb_26_15_50 ⟨⟨⟨by omega, by omega⟩, ⟨by omega, by omega⟩⟩, fun q => absurd q (by omega), fun _ => ?_⟩
        refine ci_50 (L := L) (by omega) hf hi.1 (by omega) hr8 (fun y y1 y2 => ?_) (fun e y => ?_) _ i A ⟨hi.1, Int.le_refl i⟩ rfl hA (fun y => ih (i + 1) _ y (by omega) (by omega) (fun j j1 j2 => ?_) hq)
        · have g := hL (σ 55 s + i) y (by omega) (by omega) y1 (by omega)
          rw [g, bi_eq0, Decidable.not_not]
        · exact hL0 (Decidable.not_not.mp (bi_no e)) _ y
        · have hp := ins_rng (p := fun z => σ 55 s ≤ z ∧ z < σ 55 s + (i + 1)) (L := L) (x := σ 55 s + i) ⟨by omega, by omega⟩ i.toNat i i A rfl hi.1 (Int.le_refl i) (fun j j1 j2 => by have := hA j j1 j2; omega) j j1 j2 (Or.inr (Or.inr rfl))
          exact hp
  refine rb_26_0_50 (ai_ret_q (pc_59_50 ⟨by omega, by omega⟩ (ai_k_in (rb_26_3_50 (ai_ret_q (pc_58_50 ⟨by omega, by omega⟩ (ai_k_in (rb_26_8_50 ?_))))))))
  exact hloop h.toNat 0 a none ⟨by omega, hx.1⟩ (by omega) (fun j j1 j2 => absurd j2 (by omega)) hQ
theorem rf_keyOf {sc : Int × (Int → Int)} {σ : ai_S} {Q : ai_O → Prop} {s : Int} (hs : 0 ≤ s ∧ s < 6) (hw : 0 ≤ σ 73 s ∧ σ 73 s ≤ 5) (hc : ∀ k, 0 ≤ k → k < σ 73 s → ai_r (σ 75 (5 * s + k))) (hQ : ∀ k, ((k = -1 ∧ ∀ j, 0 ≤ j → j < σ 73 s → ¬ σ 75 (5 * s + j) = 0) ∨ (0 ≤ k ∧ k < σ 73 s ∧ σ 75 (5 * s + k) = 0)) → Q (.inl (some (.inl k)), (92, [], σ))) : ai_wp sc 166 0 [some (.inr (.inr 59)), some (.inl s), none, none] [] (0, 0) (92, [], σ) Q := by
  have h : ∀ (n : Nat) (v k : Int), 0 ≤ v ∧ v ≤ σ 73 s → (σ 73 s - v).toNat = n → ((k = -1 ∧ ∀ j, 0 ≤ j → j < v → ¬ σ 75 (5 * s + j) = 0) ∨ (0 ≤ k ∧ k < v ∧ σ 75 (5 * s + k) = 0)) → ai_wp sc 166 4 [some (.inr (.inr 59)), some (.inl s), some (.inl k), some (.inl v)] [] (0, 0) (92, [], σ) Q := by
    intro n
    induction n with
    | zero =>
      intro v k hv hn hk
      have e : v = σ 73 s := by omega
      subst e
      exact rb_166_4 ⟨hs, ⟨⟨by omega, by omega⟩, ⟨by omega, by omega⟩⟩, fun _ => hQ k hk, fun q => absurd (Int.le_refl (σ 73 s)) q⟩
    | succ n ih =>
      intro v k hv hn hk
      refine rb_166_4 ⟨hs, ⟨⟨by omega, by omega⟩, ⟨by omega, by omega⟩⟩, fun q => absurd q (by omega), fun _ => ⟨⟨by omega, by omega⟩, hc v hv.1 (by omega), fun q => ih (v + 1) k (by omega) (by omega) ?_, fun q => ih (v + 1) v (by omega) (by omega) (Or.inr ⟨hv.1, by omega, Decidable.not_not.mp q⟩)⟩⟩
      rcases hk with ⟨h1, h2⟩ | ⟨h1, h2, h3⟩
      · refine Or.inl ⟨h1, fun j j1 j2 => ?_⟩
        by_cases ej : j = v
        · rw [ej]
          exact q
        · exact h2 j j1 (by omega)
      · exact Or.inr ⟨h1, by omega, h3⟩
  exact rb_166_0 (h _ 0 (-1) ⟨by omega, hw.1⟩ rfl (Or.inl ⟨rfl, fun j j1 j2 => absurd j2 (by omega)⟩))
theorem ri_ {sc : Int × (Int → Int)} {σ : ai_S} {Q : ai_O → Prop} {L : Int → Int → Bool} {s f k h i : Int} (hk : -1 ≤ k ∧ k < 5) (hf : 0 ≤ f) (hi : 0 ≤ i) (hx : f + i < 24) (hr8 : ∀ y, f ≤ y → y < f + i + 1 → 0 ≤ k → ai_r8 (σ 76 (5 * y + k))) (hr : ∀ y, f ≤ y → y < f + i + 1 → 0 ≤ k → ai_r (σ 77 (5 * y + k))) (hL : ∀ y, f ≤ y → y < f + i → (L (f + i) y = true ↔ ¬ k = -1 ∧ (((¬ σ 77 (5 * (f + i) + k) = 0) ∧ σ 77 (5 * y + k) = 0) ∨ (σ 77 (5 * (f + i) + k) = 0 ∧ σ 77 (5 * y + k) = 0 ∧ σ 76 (5 * (f + i) + k) < σ 76 (5 * y + k))))) :
    ∀ (n : Nat) (v : Int) (a : Int → Int), 0 ≤ v ∧ v ≤ i → v.toNat = n → (∀ j, 0 ≤ j → j < v → f ≤ a j ∧ a j < f + i) → (∀ x y, ai_wp sc 178 18 [some (.inr (.inr 59)), some (.inl s), some (.inl k), some (.inl h), some (.inl (i + 1)), x, y] [] (0, 0) (92, [], up σ 89 (ins L (f + i) n v a)) Q) → ai_wp sc 178 30 [some (.inr (.inr 59)), some (.inl s), some (.inl k), some (.inl h), some (.inl i), some (.inl (f + i)), some (.inl v)] [] (0, 0) (92, [], up σ 89 a) Q := by
  intro n
  induction n with
  | zero =>
    intro v a hv hn ha K
    have hput := K (some (.inl (f + i))) (some (.inl v))
    refine rb_178_30 ⟨⟨by omega, by omega⟩, fun _ => ⟨⟨by omega, by omega⟩, ?_⟩, fun q => absurd (show v ≤ 0 by omega) q⟩
    rw [up_s]
    exact hput
  | succ n ih =>
    intro v a hv hn ha K
    have hput := K (some (.inl (f + i))) (some (.inl v))
    have hy := ha (v - 1) (by omega) (by omega)
    have hLy := hL (a (v - 1)) hy.1 hy.2
    by_cases h0 : k = -1
    · have hl : ¬ L (f + i) (a (v - 1)) = true := fun q => (hLy.mp q).1 h0
      refine rb_178_30 ⟨⟨by omega, by omega⟩, fun q => absurd q (by omega), fun _ => ⟨⟨⟨by omega, by omega⟩, ⟨by decide, by decide⟩⟩, fun _ => ⟨⟨by omega, by omega⟩, ?_⟩, fun q => absurd h0 q⟩⟩
      rw [up_s]
      unfold ins at hput
      rw [if_neg hl] at hput
      exact hput
    · have r1 := hr (f + i) (by omega) (by omega) (by omega)
      have r2 := hr (a (v - 1)) hy.1 (by omega) (by omega)
      have r3 := hr8 (f + i) (by omega) (by omega) (by omega)
      have r4 := hr8 (a (v - 1)) hy.1 (by omega) (by omega)
      refine rb_178_30 ⟨⟨by omega, by omega⟩, fun q => absurd q (by omega), fun _ => ⟨⟨⟨by omega, by omega⟩, ⟨by decide, by decide⟩⟩, fun q => absurd q h0, fun _ => ⟨⟨by omega, by omega⟩, ai_ret_q (pc_179 (v2 := 5 * a (v - 1) + k) ?_ (ai_k_in (rb_178_52 ⟨bi_r _, fun q => ⟨⟨by omega, by omega⟩, ?_⟩, fun q => ⟨⟨by omega, by omega⟩, ⟨by omega, by omega⟩, ?_⟩⟩)))⟩⟩⟩
      · repeat' (first | exact r3 | exact r4 | exact r1 | exact r2 | omega | apply And.intro | with_reducible intro _)
      · have h2 := mt kr_iff.mpr (bi_no q)
        have hl : ¬ L (f + i) (a (v - 1)) = true := fun q => h2 (hLy.mp q).2
        rw [up_s]
        unfold ins at hput
        rw [if_neg hl] at hput
        exact hput
      · have h2 := kr_iff.mp (bi_yes q)
        have hl : L (f + i) (a (v - 1)) = true := hLy.mpr ⟨h0, h2⟩
        rw [up_s]
        refine ih (v + (-1)) _ ⟨by omega, by omega⟩ (by omega) (fun j j1 j2 => ?_) (fun x y => ?_)
        · show f ≤ (if j = v then a (v - 1) else a j) ∧ (if j = v then a (v - 1) else a j) < f + i
          rw [if_neg (by omega)]
          exact ha j j1 (by omega)
        · have hk := K x y
          unfold ins at hk
          rw [if_pos hl] at hk
          exact hk
theorem rf_sort {sc : Int × (Int → Int)} {σ : ai_S} {L : Int → Int → Bool} {s h : Int} {a : Int → Int} (hs : 0 ≤ s ∧ s < 6) (hw : 0 ≤ σ 73 s ∧ σ 73 s ≤ 5) (hc : ∀ k, 0 ≤ k → k < σ 73 s → ai_r (σ 75 (5 * s + k))) (hh : h = σ 74 (s + 1) - σ 74 s) (hf : 0 ≤ σ 74 s) (hx : 0 ≤ h ∧ σ 74 s + h ≤ 24) (hr8 : ∀ y k, σ 74 s ≤ y → y < σ 74 s + h → 0 ≤ k → k < σ 73 s → ai_r8 (σ 76 (5 * y + k))) (hr : ∀ y k, σ 74 s ≤ y → y < σ 74 s + h → 0 ≤ k → k < σ 73 s → ai_r (σ 77 (5 * y + k)))
    (hL : ∀ k, ((k = -1 ∧ ∀ j, 0 ≤ j → j < σ 73 s → ¬ σ 75 (5 * s + j) = 0) ∨ (0 ≤ k ∧ k < σ 73 s ∧ σ 75 (5 * s + k) = 0)) → ∀ x y, σ 74 s ≤ x → x < σ 74 s + h → σ 74 s ≤ y → y < σ 74 s + h → (L x y = true ↔ ¬ k = -1 ∧ (((¬ σ 77 (5 * x + k) = 0) ∧ σ 77 (5 * y + k) = 0) ∨ (σ 77 (5 * x + k) = 0 ∧ σ 77 (5 * y + k) = 0 ∧ σ 76 (5 * x + k) < σ 76 (5 * y + k))))) : fn sc 178 [some (.inr (.inr 59)), some (.inl s), none, none, none, none, none] (up σ 89 a) none (up σ 89 (srt L (σ 74 s) h.toNat 0 a)) := by
  intro Q hQ
  refine rb_178_0 (ai_ret_q (rf_keyOf (σ := up σ 89 a) hs hw hc (fun k hk => ai_k_in ?_)))
  have hk' : ((k = -1 ∧ ∀ j, 0 ≤ j → j < σ 73 s → ¬ σ 75 (5 * s + j) = 0) ∨ (0 ≤ k ∧ k < σ 73 s ∧ σ 75 (5 * s + k) = 0)) := hk
  have hkr : -1 ≤ k ∧ k < 5 ∧ (0 ≤ k → k < σ 73 s) := by
    rcases hk' with ⟨h1, _⟩ | ⟨h1, h2, _⟩ <;> omega
  have hloop : ∀ (n : Nat) (i : Int) (A : Int → Int) (x y : Option ai_V), 0 ≤ i ∧ i ≤ h → (h - i).toNat = n → (∀ j, 0 ≤ j → j < i → σ 74 s ≤ A j ∧ A j < σ 74 s + i) → Q (.inl none, (92, [], up σ 89 (srt L (σ 74 s) n i A))) → ai_wp sc 178 18 [some (.inr (.inr 59)), some (.inl s), some (.inl k), some (.inl h), some (.inl i), x, y] [] (0, 0) (92, [], up σ 89 A) Q := by
    intro n
    induction n with
    | zero =>
      intro i A x y hi hn hA hq
      exact rh_178_18 ⟨⟨⟨by omega, by omega⟩, ⟨by omega, by omega⟩⟩, fun _ => hq, fun q => absurd (show h ≤ i by omega) q⟩
    | succ n ih =>
      intro i A x y hi hn hA hq
      refine rh_178_18 ⟨⟨⟨by omega, by omega⟩, ⟨by omega, by omega⟩⟩, fun q => absurd q (by omega), fun _ => ⟨⟨by omega, by omega⟩, ?_⟩⟩
      refine ri_ (L := L) (f := σ 74 s) ⟨by omega, by omega⟩ hf hi.1 (by omega) (fun y y1 y2 y3 => hr8 y k y1 (by omega) y3 (hkr.2.2 y3)) (fun y y1 y2 y3 => hr y k y1 (by omega) y3 (hkr.2.2 y3)) (fun y y1 y2 => hL k hk' (σ 74 s + i) y (by omega) (by omega) y1 (by omega)) _ i A ⟨hi.1, Int.le_refl i⟩ rfl hA (fun x y => ih (i + 1) _ x y (by omega) (by omega) (fun j j1 j2 => ?_) hq)
      have hp := ins_rng (p := fun z => σ 74 s ≤ z ∧ z < σ 74 s + (i + 1)) (L := L) (x := σ 74 s + i) ⟨by omega, by omega⟩ i.toNat i i A rfl hi.1 (Int.le_refl i) (fun j j1 j2 => by have := hA j j1 j2; omega) j j1 j2 (Or.inr (Or.inr rfl))
      exact hp
  refine rb_178_3 ⟨⟨by omega, by omega⟩, ⟨by omega, by omega⟩, ?_⟩
  show ai_wp sc 178 18 [some (.inr (.inr 59)), some (.inl s), some (.inl k), some (.inl (σ 74 (s + 1) - σ 74 s)), some (.inl 0), none, none] [] (0, 0) (92, [], up σ 89 a) Q
  rw [← hh]
  exact hloop h.toNat 0 a none none ⟨by omega, hx.1⟩ (by omega) (fun j j1 j2 => absurd j2 (by omega)) hQ
