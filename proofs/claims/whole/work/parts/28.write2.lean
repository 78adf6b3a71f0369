/-! WRITE, further: texts, cells, rows, tables. -/
def plA (v : Int) : Nat → Int → Int
  | 0, _ => 1
  | n + 1, i => if chr v i = 0 then (if 0 < i then 1 else 0) else if chr v i < 97 ∨ 122 < chr v i then 0 else plA v n (i + 1)
def txc (v : Int) : Nat → Int → List Int
  | 0, _ => []
  | n + 1, i => if chr v i = 0 then [] else [chr v i] ++ ((if chr v i = 39 then [39] else []) ++ txc v n (i + 1))
def txtL (v : Int) : List Int := (if plA v 8 0 = 0 then [39] else []) ++ (txc v 8 0 ++ (if plA v 8 0 = 0 then [39] else []))
theorem plA_01 (v : Int) : ∀ n i, plA v n i = 0 ∨ plA v n i = 1 := by
  intro n
  induction n with
  | zero => exact fun _ => Or.inr rfl
  | succ n ih =>
    intro i
    unfold plA
    repeat' split
    · exact Or.inr rfl
    · exact Or.inl rfl
    · exact Or.inl rfl
    · exact ih _
theorem txc_len (v : Int) : ∀ n i, (txc v n i).length ≤ 2 * n := by
  intro n
  induction n with
  | zero => exact fun _ => Nat.le_refl _
  | succ n ih =>
    intro i
    unfold txc
    split
    · exact Nat.zero_le _
    · have := ih (i + 1)
      split
      · show (txc v n (i + 1)).length + 1 + 1 ≤ 2 * (n + 1)
        omega
      · show (txc v n (i + 1)).length + 1 ≤ 2 * (n + 1)
        omega
theorem txtL_len (v : Int) : (txtL v).length ≤ 18 := by
  have := txc_len v 8 0
  unfold txtL
  simp only [List.length_append]
  split
  · simp only [List.length_cons, List.length_nil]
    omega
  · simp only [List.length_nil]
    omega
theorem okL_q (p : Prop) [Decidable p] : okL (if p then [39] else []) := by
  split
  · exact okL_one (by decide)
  · exact okL_nil
theorem txc_ok (v : Int) : ∀ n i, okL (txc v n i) := by
  intro n
  induction n with
  | zero => exact fun _ => okL_nil
  | succ n ih =>
    intro i
    have h := chr_r v i
    unfold txc
    split
    · exact okL_nil
    · exact okL_app (okL_one (by omega)) (okL_app (okL_q _) (ih _))
theorem txtL_ok (v : Int) : okL (txtL v) := okL_app (okL_q _) (okL_app (txc_ok v 8 0) (okL_q _))
theorem cf_letters {sc : Int × (Int → Int)} {σ : ai_S} {v : Int} : fn sc 123 [some (.inr (.inl v)), none, none, none] σ (some (.inl (plA v 8 0))) σ := by
  intro Q hQ
  have h : ∀ (n : Nat) (i : Int) (x : Option ai_V), 0 ≤ i ∧ i ≤ 8 → (8 - i).toNat = n → Q (.inl (some (.inl (plA v n i))), (92, [], σ)) → ai_wp sc 123 2 [some (.inr (.inl v)), none, some (.inl i), x] [] (0, 0) (92, [], σ) Q := by
    intro n
    induction n with
    | zero =>
      intro i x hi hn hq
      exact rh_123_2 ⟨⟨⟨by omega, by omega⟩, ⟨by decide, by decide⟩⟩, fun _ => ⟨⟨by decide, by decide⟩, hq⟩, fun h => absurd (show 8 ≤ i by omega) h⟩
    | succ n ih =>
      intro i x hi hn hq
      have hc := chr_r v i
      unfold plA at hq
      refine rh_123_2 ⟨⟨⟨by omega, by omega⟩, ⟨by decide, by decide⟩⟩, fun h => absurd h (by omega), fun _ => ai_ret_q (pc_124 (ai_k_in ?_))⟩
      show ai_wp sc 123 8 [some (.inr (.inl v)), none, some (.inl i), none] [.inl (chr v i)] (0, 0) (92, [], σ) Q
      refine rb_123_8 ⟨⟨by omega, by omega⟩, fun h0 => ⟨⟨⟨by omega, by omega⟩, ⟨by decide, by decide⟩⟩, fun h1 => ⟨⟨by decide, by decide⟩, ?_⟩, fun h1 => ⟨⟨⟨by omega, by omega⟩, ⟨by decide, by decide⟩⟩, fun h2 => ?_, fun h2 => ⟨⟨by decide, by decide⟩, ?_⟩⟩⟩, fun h0 => ⟨⟨by omega, by omega⟩, fun h1 => ⟨⟨by decide, by decide⟩, ?_⟩, fun h1 => ⟨⟨by decide, by decide⟩, ?_⟩⟩⟩
      · rw [if_neg h0, if_pos (Or.inl h1)] at hq
        exact hq
      · rw [if_neg h0, if_neg (by omega)] at hq
        exact ih (i + 1) _ (by omega) (by omega) hq
      · rw [if_neg h0, if_pos (Or.inr (by omega))] at hq
        exact hq
      · rw [if_pos (Decidable.not_not.mp h0), if_neg (by omega)] at hq
        exact hq
      · rw [if_pos (Decidable.not_not.mp h0), if_pos (by omega)] at hq
        exact hq
  exact rb_123_0 (h 8 0 none ⟨by omega, by omega⟩ (by omega) hQ)
/-- nothing laid, then M -/
theorem cG_nil {sc : Int × (Int → Int)} {σ : ai_S} {m i i' : Nat} {ls ls' : ai_L} {M : List Int} (g : cG sc σ m i' ls' M) (row : ∀ (τ : ai_S) (Q : ai_O → Prop), ai_wp sc m i' ls' [] (0, 0) (92, [], τ) Q → (τ = WS σ (τ 40) (τ 39 0)) → ai_wp sc m i ls [] (0, 0) (92, [], τ) Q) : cG sc σ m i ls M := fun Q F n h0 h1 hQ => row _ _ (g Q F n h0 h1 hQ) rfl
theorem rG_nil {sc : Int × (Int → Int)} {σ : ai_S} {m i i' : Nat} {ls ls' : ai_L} {M : List Int} (g : rG sc σ m i' ls' M) (row : ∀ (τ : ai_S) (Q : ai_O → Prop), ai_wp sc m i' ls' [] (0, 0) (92, [], τ) Q → (τ = V σ (τ 90) (τ 59 45)) → ai_wp sc m i ls [] (0, 0) (92, [], τ) Q) : rG sc σ m i ls M := fun Q F n h0 h1 hQ => row _ _ (g Q F n h0 h1 hQ) rfl
theorem cW_text {sc : Int × (Int → Int)} {σ : ai_S} {v : Int} : cW sc σ 122 [some (.inr (.inr 39)), some (.inr (.inl v)), none, none, none] (txtL v) := by
  have hp := plA_01 v 8 0
  have hend : ∀ i, cG sc σ 122 37 [some (.inr (.inr 39)), some (.inr (.inl v)), none, some (.inl (plA v 8 0)), some (.inl i)] [] := fun i Q F n h0 h1 hQ => rb_122_37 (by
    rw [show n + (([] : List Int).length : Int) = n from Int.add_zero n] at hQ
    exact hQ)
  have hq : ∀ i, plA v 8 0 = 0 → ∀ (τ : ai_S) (Q : ai_O → Prop), ai_ret (ai_wp sc) 125 [some (.inr (.inr 39)), some (.inl 39)] (92, [], τ) (fun v' h' => ai_ck (ai_zz 92 h'.1 0) (ai_wp sc 122 37 [some (.inr (.inr 39)), some (.inr (.inl v)), none, some (.inl (plA v 8 0)), some (.inl i)] (v'.toList ++ []) (0, 0) h' Q)) → (ai_r (plA v 8 0)) ∧ ((¬ plA v 8 0 = 0) → (ai_wp sc 122 37 [some (.inr (.inr 39)), some (.inr (.inl v)), none, some (.inl (plA v 8 0)), some (.inl i)] [] (0, 0) (92, [], τ) Q)) ∧ (¬ (¬ plA v 8 0 = 0) → ai_ret (ai_wp sc) 125 [some (.inr (.inr 39)), some (.inl 39)] (92, [], τ) (fun v' h' => ai_ck (ai_zz 92 h'.1 0) (ai_wp sc 122 37 [some (.inr (.inr 39)), some (.inr (.inl v)), none, some (.inl (plA v 8 0)), some (.inl i)] (v'.toList ++ []) (0, 0) h' Q))) := fun i h0 τ Q hr => ⟨⟨by omega, by omega⟩, fun h => absurd h0 h, fun _ => hr⟩
  have hloop : ∀ (n : Nat) (i : Int), 0 ≤ i ∧ i ≤ 8 → (8 - i).toNat = n → cG sc σ 122 10 [some (.inr (.inr 39)), some (.inr (.inl v)), none, some (.inl (plA v 8 0)), some (.inl i)] (txc v n i ++ (if plA v 8 0 = 0 then [39] else [])) := by
    intro n
    induction n with
    | zero =>
      intro i hi hn
      show cG sc σ 122 10 _ (if plA v 8 0 = 0 then [39] else [])
      by_cases h0 : plA v 8 0 = 0
      · rw [if_pos h0]
        exact cG_then (M := []) (cW_add (by decide)) (hend i) (fun τ Q hr _ => rb_122_10 ⟨⟨⟨by omega, by omega⟩, ⟨by decide, by decide⟩⟩, fun _ => hq i h0 τ Q hr, fun h => absurd (show 8 ≤ i by omega) h⟩)
      · rw [if_neg h0]
        exact cG_nil (hend i) (fun τ Q hr _ => rb_122_10 ⟨⟨⟨by omega, by omega⟩, ⟨by decide, by decide⟩⟩, fun _ => ⟨⟨by omega, by omega⟩, fun _ => hr, fun h => absurd h0 h⟩, fun h => absurd (show 8 ≤ i by omega) h⟩)
    | succ n ih =>
      intro i hi hn
      have hc := chr_r v i
      have h8 : ¬ 8 ≤ i := by omega
      unfold txc
      by_cases hz : chr v i = 0
      · rw [if_pos hz, List.nil_append]
        have row : ∀ (τ : ai_S) (Q : ai_O → Prop), ((ai_r (plA v 8 0)) ∧ ((¬ plA v 8 0 = 0) → (ai_wp sc 122 37 [some (.inr (.inr 39)), some (.inr (.inl v)), none, some (.inl (plA v 8 0)), some (.inl i)] [] (0, 0) (92, [], τ) Q)) ∧ (¬ (¬ plA v 8 0 = 0) → ai_ret (ai_wp sc) 125 [some (.inr (.inr 39)), some (.inl 39)] (92, [], τ) (fun v' h' => ai_ck (ai_zz 92 h'.1 0) (ai_wp sc 122 37 [some (.inr (.inr 39)), some (.inr (.inl v)), none, some (.inl (plA v 8 0)), some (.inl i)] (v'.toList ++ []) (0, 0) h' Q)))) → ai_wp sc 122 10 [some (.inr (.inr 39)), some (.inr (.inl v)), none, some (.inl (plA v 8 0)), some (.inl i)] [] (0, 0) (92, [], τ) Q := fun τ Q hr => rb_122_10 ⟨⟨⟨by omega, by omega⟩, ⟨by decide, by decide⟩⟩, fun h => absurd h h8, fun _ => ai_ret_q (pc_124 (ai_k_in (show ai_wp sc 122 16 [some (.inr (.inr 39)), some (.inr (.inl v)), none, some (.inl (plA v 8 0)), some (.inl i)] [.inl (chr v i)] (0, 0) (92, [], τ) Q from rb_122_16 ⟨⟨by omega, by omega⟩, fun _ => hr, fun h => absurd hz h⟩)))⟩
        by_cases h0 : plA v 8 0 = 0
        · rw [if_pos h0]
          exact cG_then (M := []) (cW_add (by decide)) (hend i) (fun τ Q hr _ => row τ Q (hq i h0 τ Q hr))
        · rw [if_neg h0]
          exact cG_nil (hend i) (fun τ Q hr _ => row τ Q ⟨⟨by omega, by omega⟩, fun _ => hr, fun h => absurd h0 h⟩)
      · rw [if_neg hz]
        have g := ih (i + 1) (by omega) (by omega)
        have g30 : cG sc σ 122 30 [some (.inr (.inr 39)), some (.inr (.inl v)), none, some (.inl (plA v 8 0)), some (.inl i)] (txc v n (i + 1) ++ (if plA v 8 0 = 0 then [39] else [])) := cG_nil g (fun τ Q hr _ => rb_122_30 hr)
        have g22 : cG sc σ 122 22 [some (.inr (.inr 39)), some (.inr (.inl v)), none, some (.inl (plA v 8 0)), some (.inl i)] ((if chr v i = 39 then [39] else []) ++ (txc v n (i + 1) ++ (if plA v 8 0 = 0 then [39] else []))) := by
          by_cases h39 : chr v i = 39
          · rw [if_pos h39]
            exact cG_then (cW_add (by decide)) g30 (fun τ Q hr _ => rb_122_22 (ai_ret_q (pc_124 (ai_k_in (show ai_wp sc 122 25 [some (.inr (.inr 39)), some (.inr (.inl v)), none, some (.inl (plA v 8 0)), some (.inl i)] [.inl (chr v i)] (0, 0) (92, [], τ) Q from rb_122_25 ⟨⟨⟨by omega, by omega⟩, ⟨by decide, by decide⟩⟩, fun h => absurd h39 h, fun _ => hr⟩)))))
          · rw [if_neg h39, List.nil_append]
            exact cG_nil g30 (fun τ Q hr _ => rb_122_22 (ai_ret_q (pc_124 (ai_k_in (show ai_wp sc 122 25 [some (.inr (.inr 39)), some (.inr (.inl v)), none, some (.inl (plA v 8 0)), some (.inl i)] [.inl (chr v i)] (0, 0) (92, [], τ) Q from rb_122_25 ⟨⟨⟨by omega, by omega⟩, ⟨by decide, by decide⟩⟩, fun _ => hr, fun h => absurd h39 h⟩)))))
        rw [List.append_assoc, List.append_assoc]
        exact cG_then (cW_add (by omega)) g22 (fun τ Q hr _ => rb_122_10 ⟨⟨⟨by omega, by omega⟩, ⟨by decide, by decide⟩⟩, fun h => absurd h h8, fun _ => ai_ret_q (pc_124 (ai_k_in (show ai_wp sc 122 16 [some (.inr (.inr 39)), some (.inr (.inl v)), none, some (.inl (plA v 8 0)), some (.inl i)] [.inl (chr v i)] (0, 0) (92, [], τ) Q from rb_122_16 ⟨⟨by omega, by omega⟩, fun h => absurd h hz, fun _ => ai_ret_q (pc_124 (ai_k_in (show ai_wp sc 122 21 [some (.inr (.inr 39)), some (.inr (.inl v)), none, some (.inl (plA v 8 0)), some (.inl i)] [.inl (chr v i), .inr (.inr 39)] (0, 0) (92, [], τ) Q from rb_122_21 hr)))⟩)))⟩)
  have g8 : cG sc σ 122 8 [some (.inr (.inr 39)), some (.inr (.inl v)), none, some (.inl (plA v 8 0)), none] (txc v 8 0 ++ (if plA v 8 0 = 0 then [39] else [])) := cG_nil (hloop 8 0 ⟨by omega, by omega⟩ (by omega)) (fun τ Q hr _ => rb_122_8 hr)
  refine cW_of ?_
  unfold txtL
  by_cases h0 : plA v 8 0 = 0
  · rw [if_pos h0] at g8 ⊢
    exact cG_then (cW_add (by decide)) g8 (fun τ Q hr _ => rb_122_0 (fn_ret cf_letters (rb_122_2 ⟨⟨by omega, by omega⟩, fun h => absurd h0 h, fun _ => hr⟩)))
  · rw [if_neg h0] at g8 ⊢
    rw [List.nil_append]
    exact cG_nil g8 (fun τ Q hr _ => rb_122_0 (fn_ret cf_letters (rb_122_2 ⟨⟨by omega, by omega⟩, fun _ => hr, fun h => absurd h0 h⟩)))
/-- the reference's text -/
theorem plA_iff {v : Int} (hw : wfT v) : ∀ (n : Nat) (i : Int), 0 ≤ i → i + (n : Int) = 8 → (plA v n i = 1 ↔ (∀ j, i ≤ j → j < 8 → chr v j = 0 ∨ (97 ≤ chr v j ∧ chr v j ≤ 122)) ∧ (i < 8 → chr v i = 0 → 0 < i)) := by
  intro n
  induction n with
  | zero =>
    intro i h0 hn
    exact ⟨fun _ => ⟨fun j j1 j2 => absurd j2 (by omega), fun h => absurd h (by omega)⟩, fun _ => rfl⟩
  | succ n ih =>
    intro i h0 hn
    unfold plA
    by_cases hz : chr v i = 0
    · rw [if_pos hz]
      have hz2 := wfT_z hw h0 hz
      by_cases hi : 0 < i
      · rw [if_pos hi]
        exact ⟨fun _ => ⟨fun j j1 j2 => Or.inl (hz2 j j1 j2), fun _ _ => hi⟩, fun _ => rfl⟩
      · rw [if_neg hi]
        exact ⟨fun h => absurd h (by decide), fun h => absurd (h.2 (by omega) hz) hi⟩
    · rw [if_neg hz]
      by_cases hl : chr v i < 97 ∨ 122 < chr v i
      · rw [if_pos hl]
        refine ⟨fun h => absurd h (by decide), fun h => ?_⟩
        rcases h.1 i (Int.le_refl _) (by omega) with q | q
        · exact absurd q hz
        · omega
      · rw [if_neg hl, ih (i + 1) (by omega) (by omega)]
        refine ⟨fun h => ⟨fun j j1 j2 => ?_, fun _ q => absurd q hz⟩, fun h => ⟨fun j j1 j2 => h.1 j (by omega) j2, fun _ _ => by omega⟩⟩
        by_cases ej : j = i
        · rw [ej]
          exact Or.inr (by omega)
        · exact h.1 j (by omega) j2
theorem txc_z {v : Int} (hw : wfT v) {i : Int} (h0 : 0 ≤ i) (hz : chr v i = 0) : ∀ n, txc v n i = [] := by
  intro n
  cases n with
  | zero => rfl
  | succ n => exact if_pos hz
theorem rW_text {sc : Int × (Int → Int)} {σ : ai_S} {v : Int} (hw : wfT v) : rW sc σ 187 [some (.inr (.inr 59)), some (.inr (.inl v)), none, none, none, none] (txtL v) := by
  have hp := plA_01 v 8 0
  have hv := hw.1
  have hend : ∀ i, rG sc σ 187 79 [some (.inr (.inr 59)), some (.inr (.inl v)), none, some (.inl (plA v 8 0)), some (.inl i), none] [] := fun i Q F n h0 h1 hQ => rb_187_79 (by
    rw [show n + (([] : List Int).length : Int) = n from Int.add_zero n] at hQ
    exact hQ)
  have hloop : ∀ (n : Nat) (i : Int) (x : Option ai_V), 0 ≤ i ∧ i ≤ 8 → (8 - i).toNat = n → rG sc σ 187 47 [some (.inr (.inr 59)), some (.inr (.inl v)), none, some (.inl (plA v 8 0)), some (.inl i), x] (txc v n i ++ (if plA v 8 0 = 0 then [39] else [])) := by
    intro n
    induction n with
    | zero =>
      intro i x hi hn
      show rG sc σ 187 47 _ (if plA v 8 0 = 0 then [39] else [])
      by_cases h0 : plA v 8 0 = 0
      · rw [if_pos h0]
        exact rG_then (M := []) rW_say (hend i) (fun τ Q hr _ => rh_187_47 ⟨⟨⟨by omega, by omega⟩, ⟨by decide, by decide⟩⟩, fun _ => ⟨⟨by omega, by omega⟩, fun h => absurd h0 h, fun _ => hr⟩, fun h => absurd (show 8 ≤ i by omega) h⟩)
      · rw [if_neg h0]
        exact rG_nil (hend i) (fun τ Q hr _ => rh_187_47 ⟨⟨⟨by omega, by omega⟩, ⟨by decide, by decide⟩⟩, fun _ => ⟨⟨by omega, by omega⟩, fun _ => hr, fun h => absurd h0 h⟩, fun h => absurd (show 8 ≤ i by omega) h⟩)
    | succ n ih =>
      intro i x hi hn
      have hc := chr_r v i
      have h8 : ¬ 8 ≤ i := by omega
      have g := ih (i + 1) (some (.inl (chr v i))) (by omega) (by omega)
      have g72 : rG sc σ 187 72 [some (.inr (.inr 59)), some (.inr (.inl v)), none, some (.inl (plA v 8 0)), some (.inl i), some (.inl (chr v i))] (txc v n (i + 1) ++ (if plA v 8 0 = 0 then [39] else [])) := rG_nil g (fun τ Q hr _ => rb_187_72 hr)
      have g66 : rG sc σ 187 66 [some (.inr (.inr 59)), some (.inr (.inl v)), none, some (.inl (plA v 8 0)), some (.inl i), some (.inl (chr v i))] ((if chr v i = 39 then [39] else []) ++ (txc v n (i + 1) ++ (if plA v 8 0 = 0 then [39] else []))) := by
        by_cases h39 : chr v i = 39
        · rw [if_pos h39]
          refine rG_then (a := [some (.inr (.inr 59)), some (.inl (chr v i))]) (L := [39]) ?_ g72 (fun τ Q hr _ => rb_187_66 ⟨⟨⟨by omega, by omega⟩, ⟨by decide, by decide⟩⟩, fun h => absurd h39 h, fun _ => hr⟩)
          rw [h39]
          exact rW_say
        · rw [if_neg h39, List.nil_append]
          exact rG_nil g72 (fun τ Q hr _ => rb_187_66 ⟨⟨⟨by omega, by omega⟩, ⟨by decide, by decide⟩⟩, fun _ => hr, fun h => absurd h39 h⟩)
      have row : ∀ (τ : ai_S) (Q : ai_O → Prop), ((chr v i = 0 → ai_wp sc 187 66 [some (.inr (.inr 59)), some (.inr (.inl v)), none, some (.inl (plA v 8 0)), some (.inl i), some (.inl (chr v i))] [] (0, 0) (92, [], τ) Q) ∧ (¬ chr v i = 0 → ai_ret (ai_wp sc) 185 [some (.inr (.inr 59)), some (.inl (chr v i))] (92, [], τ) (fun v' h' => ai_ck (ai_zz 92 h'.1 0) (ai_wp sc 187 66 [some (.inr (.inr 59)), some (.inr (.inl v)), none, some (.inl (plA v 8 0)), some (.inl i), some (.inl (chr v i))] (v'.toList ++ []) (0, 0) h' Q)))) → ai_wp sc 187 47 [some (.inr (.inr 59)), some (.inr (.inl v)), none, some (.inl (plA v 8 0)), some (.inl i), x] [] (0, 0) (92, [], τ) Q := by
        intro τ Q hr
        refine rh_187_47 ⟨⟨⟨by omega, by omega⟩, ⟨by decide, by decide⟩⟩, fun h => absurd h h8, fun _ => ?_⟩
        rw [rch]
        exact ⟨⟨by omega, by omega⟩, hr.1, hr.2⟩
      unfold txc
      by_cases hz : chr v i = 0
      · rw [if_pos hz, List.nil_append]
        have e39 : ¬ chr v i = 39 := by omega
        rw [if_neg e39, List.nil_append] at g66
        have et : txc v n (i + 1) = [] := by
          by_cases hn0 : n = 0
          · rw [hn0]
            rfl
          · exact txc_z hw (by omega) (hw.2 i hi.1 (by omega) hz) n
        rw [et, List.nil_append] at g66
        exact rG_nil g66 (fun τ Q hr _ => row τ Q ⟨fun _ => hr, fun h => absurd hz h⟩)
      · rw [if_neg hz, List.append_assoc, List.append_assoc]
        exact rG_then rW_say g66 (fun τ Q hr _ => row τ Q ⟨fun h => absurd h hz, fun _ => hr⟩)
  have g45 : ∀ i, rG sc σ 187 45 [some (.inr (.inr 59)), some (.inr (.inl v)), none, some (.inl (plA v 8 0)), some (.inl i), none] (txc v 8 0 ++ (if plA v 8 0 = 0 then [39] else [])) := fun i => rG_nil (hloop 8 0 none ⟨by omega, by omega⟩ (by omega)) (fun τ Q hr _ => rb_187_45 hr)
  -- the first loop: is it plain
  have hpl : ∀ (n : Nat) (i f : Int) (x : Option ai_V), 0 ≤ i ∧ i ≤ 8 → (8 - i).toNat = n → (f = 0 ∨ f = 1) → (f = 1 ↔ ¬ v = 0 ∧ ∀ j, 0 ≤ j → j < i → chr v j = 0 ∨ (97 ≤ chr v j ∧ chr v j ≤ 122)) → rG sc σ 187 10 [some (.inr (.inr 59)), some (.inr (.inl v)), none, some (.inl f), some (.inl i), x] (txtL v) := by
    intro n
    induction n with
    | zero =>
      intro i f x hi hn hf hi2
      have ei : i = 8 := by omega
      subst ei
      have ef : f = plA v 8 0 := by
        have h1 := plA_iff hw 8 0 (Int.le_refl 0) (by decide)
        have h2 := wfT_0 hw
        by_cases hf1 : f = 1
        · rw [hf1]
          refine (h1.mpr ⟨(hi2.mp hf1).2, fun _ q => absurd (h2.mpr q) (hi2.mp hf1).1⟩).symm
        · have h3 : ¬ plA v 8 0 = 1 := fun q => hf1 (hi2.mpr ⟨fun e => absurd ((h1.mp q).2 (by decide) (h2.mp e)) (by decide), (h1.mp q).1⟩)
          omega
      subst ef
      unfold txtL
      by_cases h0 : plA v 8 0 = 0
      · have g := g45 8
        rw [if_pos h0] at g ⊢
        exact rG_then rW_say g (fun τ Q hr _ => rh_187_10 ⟨⟨⟨by decide, by decide⟩, ⟨by decide, by decide⟩⟩, fun _ => ⟨⟨by omega, by omega⟩, fun h => absurd h0 h, fun _ => hr⟩, fun h => absurd (by decide) h⟩)
      · have g := g45 8
        rw [if_neg h0] at g ⊢
        rw [List.nil_append]
        exact rG_nil g (fun τ Q hr _ => rh_187_10 ⟨⟨⟨by decide, by decide⟩, ⟨by decide, by decide⟩⟩, fun _ => ⟨⟨by omega, by omega⟩, fun _ => hr, fun h => absurd h0 h⟩, fun h => absurd (by decide) h⟩)
    | succ n ih =>
      intro i f x hi hn hf hi2
      have hc := chr_r v i
      have h8 : ¬ 8 ≤ i := by omega
      have n1 : f = 1 → (chr v i = 0 ∨ (97 ≤ chr v i ∧ chr v i ≤ 122)) → ∀ y, rG sc σ 187 10 [some (.inr (.inr 59)), some (.inr (.inl v)), none, some (.inl 1), some (.inl (i + 1)), y] (txtL v) := by
        intro hf1 hg y
        refine ih (i + 1) 1 y (by omega) (by omega) (Or.inr rfl) ⟨fun _ => ⟨(hi2.mp hf1).1, fun j j1 j2 => ?_⟩, fun _ => rfl⟩
        by_cases ej : j = i
        · rw [ej]
          exact hg
        · exact (hi2.mp hf1).2 j j1 (by omega)
      have n0 : (f = 0 ∨ ¬ (chr v i = 0 ∨ (97 ≤ chr v i ∧ chr v i ≤ 122))) → ∀ y, rG sc σ 187 10 [some (.inr (.inr 59)), some (.inr (.inl v)), none, some (.inl 0), some (.inl (i + 1)), y] (txtL v) := by
        intro hg y
        refine ih (i + 1) 0 y (by omega) (by omega) (Or.inl rfl) ⟨fun q => absurd q (by decide), fun q => ?_⟩
        rcases hg with hg | hg
        · have := hi2.mpr ⟨q.1, fun j j1 j2 => q.2 j j1 (by omega)⟩
          omega
        · exact absurd (q.2 i hi.1 (by omega)) hg
      intro Q F k k0 k1 hQ
      refine rh_187_10 ⟨⟨⟨by omega, by omega⟩, ⟨by decide, by decide⟩⟩, fun h => absurd h h8, fun _ => ?_⟩
      rw [rch]
      exact ⟨⟨by omega, by omega⟩, fun h => n0 (Or.inl h) _ Q F k k0 k1 hQ, fun h => ⟨⟨by omega, by omega⟩, fun h2 => n1 (by omega) (Or.inl h2) _ Q F k k0 k1 hQ, fun h2 => ⟨⟨⟨by omega, by omega⟩, ⟨by decide, by decide⟩⟩, fun h3 => n0 (Or.inr (by omega)) _ Q F k k0 k1 hQ, fun h3 => ⟨⟨⟨by omega, by omega⟩, ⟨by decide, by decide⟩⟩, fun h4 => n0 (Or.inr (by omega)) _ Q F k k0 k1 hQ, fun h4 => n1 (by omega) (Or.inr (by omega)) _ Q F k k0 k1 hQ⟩⟩⟩⟩
  refine rW_of (fun Q F k k0 k1 hQ => rb_187_0 ⟨⟨⟨by omega, by omega⟩, ⟨by decide, by decide⟩⟩, cmp_r _ _, fun h => ?_, fun h => ?_⟩)
  · have hv0 := cmp_eq.mp h
    exact hpl 8 0 0 none ⟨by omega, by omega⟩ (by omega) (Or.inl rfl) ⟨fun q => absurd q (by decide), fun q => absurd hv0 q.1⟩ Q F k k0 k1 hQ
  · have hv0 := mt cmp_eq.mpr h
    exact hpl 8 0 1 none ⟨by omega, by omega⟩ (by omega) (Or.inr rfl) ⟨fun _ => ⟨hv0, fun j j1 j2 => absurd j2 (by omega)⟩, fun _ => rfl⟩ Q F k k0 k1 hQ
