/-! WRITE, further: cells, rows, tables, the turn. -/
def absI (v : Int) : Int := if 0 < v then v else -v
theorem absI_r (v : Int) : 0 ≤ absI v ∧ (absI v = v ∨ absI v = -v) := by
  unfold absI
  split <;> omega
def decL (a : Int) : List Int := whL (a / 100) ++ ([46] ++ ([48 + a / 10 % 10] ++ [48 + a % 10]))
def numL (ty v : Int) : List Int := (if v < 0 then [45] else []) ++ (if ty = 0 then whL (absI v) else decL (absI v))
def cellL (ty v : Int) : List Int := if ty = 3 then [if v = 1 then 116 else 102] else if ty = 2 then txtL v else numL ty v
theorem whL_ok (v : Int) : okL (whL v) := dgs_ok v 9 _
theorem whL_len (v : Int) : (whL v).length ≤ 9 := dgs_len v 9 _
theorem decL_ok (a : Int) : okL (decL a) := okL_app (whL_ok _) (okL_app (okL_one (by decide)) (okL_app (okL_one (by omega)) (okL_one (by omega))))
theorem cellL_ok (ty v : Int) : okL (cellL ty v) := by
  unfold cellL
  split
  · refine okL_one ?_
    split <;> decide
  · split
    · exact txtL_ok v
    · unfold numL
      refine okL_app ?_ ?_
      · split
        · exact okL_one (by decide)
        · exact okL_nil
      · split
        · exact whL_ok _
        · exact decL_ok _
theorem cellL_len (ty v : Int) : (cellL ty v).length ≤ 18 := by
  have h1 := txtL_len v
  have h2 := whL_len (absI v)
  have h3 := whL_len (absI v / 100)
  unfold cellL
  split
  · show (1 : Nat) ≤ 18
    decide
  · split
    · exact h1
    · unfold numL decL
      simp only [List.length_append]
      split <;> split <;> simp only [List.length_cons, List.length_nil, List.length_append] <;> omega
def catL (f : Int → List Int) : Nat → Int → List Int
  | 0, _ => []
  | n + 1, c => f c ++ catL f n (c + 1)
theorem catL_ok {f : Int → List Int} (h : ∀ c, okL (f c)) : ∀ n c, okL (catL f n c) := by
  intro n
  induction n with
  | zero => exact fun _ => okL_nil
  | succ n ih => exact fun c => okL_app (h c) (ih _)
theorem catL_len {f : Int → List Int} {B : Nat} (h : ∀ c, (f c).length ≤ B) : ∀ n c, (catL f n c).length ≤ n * B := by
  intro n
  induction n with
  | zero => exact fun _ => Nat.zero_le _
  | succ n ih =>
    intro c
    have h1 := h c
    have h2 := ih (c + 1)
    have e : (n + 1) * B = n * B + B := Nat.succ_mul n B
    show (f c ++ catL f n (c + 1)).length ≤ (n + 1) * B
    rw [List.length_append, e]
    omega
def sepL (ty ce no : Int → Int) (t r c : Int) : List Int := [if c = 0 then 58 else 44] ++ (if no (60 * t + 5 * r + c) = 0 then cellL (ty (5 * t + c)) (ce (60 * t + 5 * r + c)) else [126])
theorem sepL_ok (ty ce no : Int → Int) (t r c : Int) : okL (sepL ty ce no t r c) := by
  unfold sepL
  refine okL_app (okL_one ?_) ?_
  · split <;> decide
  · split
    · exact cellL_ok _ _
    · exact okL_one (by decide)
theorem sepL_len (ty ce no : Int → Int) (t r c : Int) : (sepL ty ce no t r c).length ≤ 19 := by
  unfold sepL
  have := cellL_len (ty (5 * t + c)) (ce (60 * t + 5 * r + c))
  have h2 : (if no (60 * t + 5 * r + c) = 0 then cellL (ty (5 * t + c)) (ce (60 * t + 5 * r + c)) else [126]).length ≤ 18 := by
    split
    · exact this
    · show (1 : Nat) ≤ 18
      decide
  rw [List.length_append]
  show 1 + _ ≤ 19
  omega
def rowL (w : Nat) (ty ce no : Int → Int) (t r : Int) : List Int := catL (fun c => sepL ty ce no t r c) w 0
def tabL (w n : Nat) (ty ce no : Int → Int) (t : Int) : List Int := [48 + t] ++ ([40] ++ (catL (fun c => [48 + c]) w 0 ++ ([41] ++ (catL (fun r => rowL w ty ce no t r) n 0 ++ [59]))))
theorem tabL_len {w n : Nat} {ty ce no : Int → Int} {t : Int} (hw : w ≤ 5) (hn : n ≤ 12) : (tabL w n ty ce no t).length ≤ 1149 := by
  have h1 := catL_len (f := fun c => [48 + c]) (B := 1) (fun _ => Nat.le_refl _) w 0
  have h2 : ∀ r, (rowL w ty ce no t r).length ≤ 95 := fun r => by
    have := catL_len (f := fun c => sepL ty ce no t r c) (B := 19) (fun c => sepL_len _ _ _ _ _ _) w 0
    unfold rowL
    omega
  have h3 := catL_len (f := fun r => rowL w ty ce no t r) (B := 95) h2 n 0
  unfold tabL
  simp only [List.length_append, List.length_cons, List.length_nil]
  omega
theorem mem_cat1 : ∀ (n : Nat) (c x : Int), x ∈ catL (fun c => [48 + c]) n c → 48 + c ≤ x ∧ x < 48 + c + (n : Int) := by
  intro n
  induction n with
  | zero => exact fun c x h => absurd h (List.not_mem_nil)
  | succ n ih =>
    intro c x h
    rcases List.mem_append.mp h with q | q
    · rw [List.mem_singleton.mp q]
      omega
    · have := ih (c + 1) x q
      omega
theorem tabL_ok {w n : Nat} {ty ce no : Int → Int} {t : Int} (ht : 0 ≤ t ∧ t < 5) (hw : w ≤ 5) : okL (tabL w n ty ce no t) := by
  refine okL_app (okL_one (by omega)) (okL_app (okL_one (by decide)) (okL_app (fun x hx => ?_) (okL_app (okL_one (by decide)) (okL_app (catL_ok (fun r => catL_ok (fun c => sepL_ok _ _ _ _ _ _) _ _) _ _) (okL_one (by decide))))))
  have := mem_cat1 w 0 x hx
  omega
theorem cW_cell {sc : Int × (Int → Int)} {σ : ai_S} {ty v : Int} (ht : 0 ≤ ty ∧ ty ≤ 3) (hv : okc ty v) : cW sc σ 119 [some (.inr (.inr 39)), some (.inl ty), some (.inr (.inl v)), none] (cellL ty v) := by
  have hend : cG sc σ 119 24 [some (.inr (.inr 39)), some (.inl ty), some (.inr (.inl v)), none] [] := fun Q F n h0 h1 hQ => rb_119_24 (by
    rw [show n + (([] : List Int).length : Int) = n from Int.add_zero n] at hQ
    exact hQ)
  have h12 : cG sc σ 119 12 [some (.inr (.inr 39)), some (.inl ty), some (.inr (.inl v)), none] [] := cG_nil hend (fun τ Q hr _ => rb_119_12 hr)
  have h19 : cG sc σ 119 19 [some (.inr (.inr 39)), some (.inl ty), some (.inr (.inl v)), none] [] := cG_nil hend (fun τ Q hr _ => rb_119_19 hr)
  refine cW_of ?_
  unfold cellL
  by_cases h3 : ty = 3
  · subst h3
    rw [if_pos rfl]
    have hv3 := hv.2.2.2 rfl
    have hv8 : ai_r8 v := ⟨by omega, by omega⟩
    by_cases h1 : v = 1
    · rw [if_pos h1]
      exact cG_then (M := []) (cW_add (by decide)) h12 (fun τ Q hr _ => rb_119_0 ⟨⟨⟨by decide, by decide⟩, ⟨by decide, by decide⟩⟩, fun h => absurd rfl h, fun _ => ⟨⟨hv8, ⟨by decide, by decide⟩⟩, cmp_r _ _, fun h => absurd (cmp_eq.mpr h1) h, fun _ => hr⟩⟩)
    · rw [if_neg h1]
      exact cG_then (M := []) (cW_add (by decide)) h12 (fun τ Q hr _ => rb_119_0 ⟨⟨⟨by decide, by decide⟩, ⟨by decide, by decide⟩⟩, fun h => absurd rfl h, fun _ => ⟨⟨hv8, ⟨by decide, by decide⟩⟩, cmp_r _ _, fun _ => hr, fun h => absurd (cmp_eq.mp (Decidable.not_not.mp h)) h1⟩⟩)
  · rw [if_neg h3]
    by_cases h2 : ty = 2
    · subst h2
      rw [if_pos rfl]
      have := cG_then (M := []) (cW_text (σ := σ) (v := v)) h19 (fun τ Q hr _ => rb_119_0 ⟨⟨⟨by decide, by decide⟩, ⟨by decide, by decide⟩⟩, fun _ => ⟨⟨⟨by decide, by decide⟩, ⟨by decide, by decide⟩⟩, fun h => absurd rfl h, fun _ => hr⟩, fun h => absurd h3 h⟩)
      rw [List.append_nil] at this
      exact this
    · rw [if_neg h2]
      have ha := absI_r v
      have hb : absI v < 1000000000 ∧ (ty = 1 → absI v < 100000000) := by
        have h0 := hv.1
        have h1 := hv.2.1
        by_cases e0 : ty = 0
        · have := h0 e0
          omega
        · have := h1 (by omega)
          omega
      have hv8 : ai_r8 v := ⟨by omega, by omega⟩
      have e10 : ai_ldiv (absI v) 10 = absI v / 10 := ldiv_nn ha.1 (by omega) (by decide) (by decide)
      have e100 : ai_ldiv (absI v) 100 = absI v / 100 := ldiv_nn ha.1 (by omega) (by decide) (by decide)
      have er : ai_lrem (absI v) 10 = absI v % 10 := lrem10 ha.1 (by omega)
      have er2 : ai_lrem (absI v / 10) 10 = absI v / 10 % 10 := lrem10 (by omega) (by omega)
      have g42 : cG sc σ 120 42 [some (.inr (.inr 39)), some (.inl ty), some (.inr (.inl v)), none, some (.inr (.inl (absI v))), none] [] := fun Q F n h0 h1 hQ => rb_120_42 (by
        rw [show n + (([] : List Int).length : Int) = n from Int.add_zero n] at hQ
        exact hQ)
      have g10 : cG sc σ 120 10 [some (.inr (.inr 39)), some (.inl ty), some (.inr (.inl v)), none, some (.inr (.inl (absI v))), none] (if ty = 0 then whL (absI v) else decL (absI v)) := by
        by_cases e0 : ty = 0
        · subst e0
          rw [if_pos rfl]
          have g15 : cG sc σ 120 15 [some (.inr (.inr 39)), some (.inl 0), some (.inr (.inl v)), none, some (.inr (.inl (absI v))), none] [] := cG_nil g42 (fun τ Q hr _ => rb_120_15 hr)
          have := cG_then (M := []) (cW_whole (σ := σ) ⟨ha.1, hb.1⟩) g15 (fun τ Q hr _ => rb_120_10 ⟨⟨by decide, by decide⟩, fun h => absurd rfl h, fun _ => hr⟩)
          rw [List.append_nil] at this
          exact this
        · rw [if_neg e0]
          have g34 : cG sc σ 120 34 [some (.inr (.inr 39)), some (.inl ty), some (.inr (.inl v)), none, some (.inr (.inl (absI v))), none] ([48 + absI v % 10]) := cG_then (M := []) (cW_add (by omega)) g42 (fun τ Q hr _ => rb_120_34 ⟨⟨⟨by decide, by decide⟩, by decide⟩, by
            rw [er]
            exact hr⟩)
          have g24 : cG sc σ 120 24 [some (.inr (.inr 39)), some (.inl ty), some (.inr (.inl v)), none, some (.inr (.inl (absI v))), none] ([48 + absI v / 10 % 10] ++ [48 + absI v % 10]) := cG_then (cW_add (by omega)) g34 (fun τ Q hr _ => rb_120_24 ⟨⟨⟨by decide, by decide⟩, by decide⟩, ⟨⟨by decide, by decide⟩, by decide⟩, by
            rw [e10, er2]
            exact hr⟩)
          have g21 : cG sc σ 120 21 [some (.inr (.inr 39)), some (.inl ty), some (.inr (.inl v)), none, some (.inr (.inl (absI v))), none] ([46] ++ ([48 + absI v / 10 % 10] ++ [48 + absI v % 10])) := cG_then (cW_add (by decide)) g24 (fun τ Q hr _ => rb_120_21 hr)
          exact cG_then (cW_whole (σ := σ) (v := absI v / 100) ⟨by omega, by omega⟩) g21 (fun τ Q hr _ => rb_120_10 ⟨⟨by omega, by omega⟩, fun _ => ⟨⟨⟨by decide, by decide⟩, by decide⟩, by
            rw [e100]
            exact hr⟩, fun h => absurd e0 h⟩)
      have hn : cW sc σ 120 [some (.inr (.inr 39)), some (.inl ty), some (.inr (.inl v)), none, none, none] (numL ty v) := by
        refine cW_of ?_
        unfold numL
        by_cases hneg : v < 0
        · rw [if_pos hneg]
          exact cG_then (cW_add (by decide)) g10 (fun τ Q hr _ => rb_120_0 ⟨hv8, ⟨hv8, ⟨by decide, by decide⟩⟩, cmp_r _ _, fun h => absurd (cmp_ge.mp h) (by omega), fun _ => hr⟩)
        · rw [if_neg hneg, List.nil_append]
          exact cG_nil g10 (fun τ Q hr _ => rb_120_0 ⟨hv8, ⟨hv8, ⟨by decide, by decide⟩⟩, cmp_r _ _, fun _ => hr, fun h => absurd (cmp_ge.mpr (by omega)) h⟩)
      have := cG_then (M := []) hn hend (fun τ Q hr _ => rb_119_0 ⟨⟨⟨by omega, by omega⟩, ⟨by decide, by decide⟩⟩, fun _ => ⟨⟨⟨by omega, by omega⟩, ⟨by decide, by decide⟩⟩, fun _ => hr, fun h => absurd h2 h⟩, fun h => absurd h3 h⟩)
      rw [List.append_nil] at this
      exact this
theorem rW_cell {sc : Int × (Int → Int)} {σ : ai_S} {ty v : Int} (ht : 0 ≤ ty ∧ ty ≤ 3) (hv : okc ty v) : rW sc σ 188 [some (.inr (.inr 59)), some (.inl ty), some (.inr (.inl v)), none, none, none] (cellL ty v) := by
  have hend : ∀ x y, rG sc σ 188 69 [some (.inr (.inr 59)), some (.inl ty), some (.inr (.inl v)), none, x, y] [] := fun x y Q F n h0 h1 hQ => rh_188_69 (by
    rw [show n + (([] : List Int).length : Int) = n from Int.add_zero n] at hQ
    exact hQ)
  have h6 : rG sc σ 188 6 [some (.inr (.inr 59)), some (.inl ty), some (.inr (.inl v)), none, none, none] [] := rG_nil (hend none none) (fun τ Q hr _ => rb_188_6 hr)
  have h19 : rG sc σ 188 19 [some (.inr (.inr 59)), some (.inl ty), some (.inr (.inl v)), none, none, none] [] := rG_nil (hend none none) (fun τ Q hr _ => rb_188_19 hr)
  refine rW_of ?_
  unfold cellL
  by_cases h3 : ty = 3
  · subst h3
    rw [if_pos rfl]
    have hv3 := hv.2.2.2 rfl
    have hv8 : ai_r8 v := ⟨by omega, by omega⟩
    by_cases h1 : v = 1
    · rw [if_pos h1]
      exact rG_then (M := []) rW_say h19 (fun τ Q hr _ => rb_188_0 ⟨⟨⟨by decide, by decide⟩, ⟨by decide, by decide⟩⟩, fun _ => ⟨⟨⟨by decide, by decide⟩, ⟨by decide, by decide⟩⟩, fun h => absurd h (by decide), fun _ => ⟨⟨hv8, ⟨by decide, by decide⟩⟩, cmp_r _ _, fun h => absurd (cmp_eq.mpr h1) h, fun _ => hr⟩⟩, fun h => absurd (show ¬ (3 : Int) = 2 by decide) h⟩)
    · rw [if_neg h1]
      exact rG_then (M := []) rW_say h19 (fun τ Q hr _ => rb_188_0 ⟨⟨⟨by decide, by decide⟩, ⟨by decide, by decide⟩⟩, fun _ => ⟨⟨⟨by decide, by decide⟩, ⟨by decide, by decide⟩⟩, fun h => absurd h (by decide), fun _ => ⟨⟨hv8, ⟨by decide, by decide⟩⟩, cmp_r _ _, fun _ => hr, fun h => absurd (cmp_eq.mp (Decidable.not_not.mp h)) h1⟩⟩, fun h => absurd (show ¬ (3 : Int) = 2 by decide) h⟩)
  · rw [if_neg h3]
    by_cases h2 : ty = 2
    · subst h2
      rw [if_pos rfl]
      have := rG_then (M := []) (rW_text (σ := σ) (v := v) (hv.2.2.1 rfl)) h6 (fun τ Q hr _ => rb_188_0 ⟨⟨⟨by decide, by decide⟩, ⟨by decide, by decide⟩⟩, fun h => absurd rfl h, fun _ => hr⟩)
      rw [List.append_nil] at this
      exact this
    · rw [if_neg h2]
      have ha := absI_r v
      have hb : absI v < 1000000000 ∧ (ty = 1 → absI v < 100000000) := by
        have h0 := hv.1
        have h1 := hv.2.1
        by_cases e0 : ty = 0
        · have := h0 e0
          omega
        · have := h1 (by omega)
          omega
      have hv8 : ai_r8 v := ⟨by omega, by omega⟩
      have e10 : ai_ldiv (absI v) 10 = absI v / 10 := ldiv_nn ha.1 (by omega) (by decide) (by decide)
      have e100 : ai_ldiv (absI v) 100 = absI v / 100 := ldiv_nn ha.1 (by omega) (by decide) (by decide)
      have er : ai_lrem (absI v) 10 = absI v % 10 := lrem10 ha.1 (by omega)
      have er2 : ai_lrem (absI v / 10) 10 = absI v / 10 % 10 := lrem10 (by omega) (by omega)
      have g27 : rG sc σ 188 27 [some (.inr (.inr 59)), some (.inl ty), some (.inr (.inl v)), none, none, none] (if ty = 0 then whL (absI v) else decL (absI v)) := by
        have row : ∀ (τ : ai_S) (Q : ai_O → Prop), ((ai_r ty) ∧ ((¬ ty = 0) → (((ai_r8 100) ∧ ¬ (100 : Int) = 0) ∧ (ai_ret (ai_wp sc) 186 [some (.inr (.inr 59)), some (.inr (.inl (ai_ldiv (absI v) 100))), none, none, none, none, none] (92, [], τ) (fun v' h' => ai_ck (ai_zz 92 h'.1 0) (ai_wp sc 188 45 [some (.inr (.inr 59)), some (.inl ty), some (.inr (.inl v)), none, some (.inr (.inl (absI v))), none] (v'.toList ++ []) (0, 0) h' Q))))) ∧ (¬ (¬ ty = 0) → (ai_ret (ai_wp sc) 186 [some (.inr (.inr 59)), some (.inr (.inl (absI v))), none, none, none, none, none] (92, [], τ) (fun v' h' => ai_ck (ai_zz 92 h'.1 0) (ai_wp sc 188 45 [some (.inr (.inr 59)), some (.inl ty), some (.inr (.inl v)), none, some (.inr (.inl (absI v))), none] (v'.toList ++ []) (0, 0) h' Q))))) → ai_wp sc 188 27 [some (.inr (.inr 59)), some (.inl ty), some (.inr (.inl v)), none, none, none] [] (0, 0) (92, [], τ) Q := by
          intro τ Q hr
          by_cases hneg : 0 ≤ v
          · have e : absI v = v := by omega
            rw [e] at hr
            exact rb_188_27 ⟨⟨hv8, ⟨by decide, by decide⟩⟩, cmp_r _ _, fun _ => hr, fun h => absurd (cmp_ge.mpr hneg) h⟩
          · have e : absI v = -v := by omega
            rw [e] at hr
            exact rb_188_27 ⟨⟨hv8, ⟨by decide, by decide⟩⟩, cmp_r _ _, fun h => absurd (cmp_ge.mp h) hneg, fun _ => hr⟩
        by_cases e0 : ty = 0
        · subst e0
          rw [if_pos rfl]
          have g45 : rG sc σ 188 45 [some (.inr (.inr 59)), some (.inl 0), some (.inr (.inl v)), none, some (.inr (.inl (absI v))), none] [] := fun Q F n h0 h1 hQ => rb_188_45 ⟨⟨by decide, by decide⟩, fun h => absurd rfl h, fun _ => by
            rw [show n + (([] : List Int).length : Int) = n from Int.add_zero n] at hQ
            exact hQ⟩
          have := rG_then (M := []) (rW_number (σ := σ) ⟨ha.1, hb.1⟩) g45 (fun τ Q hr _ => row τ Q ⟨⟨by decide, by decide⟩, fun h => absurd rfl h, fun _ => hr⟩)
          rw [List.append_nil] at this
          exact this
        · rw [if_neg e0]
          have g61 : rG sc σ 188 61 [some (.inr (.inr 59)), some (.inl ty), some (.inr (.inl v)), none, some (.inr (.inl (absI v))), none] ([48 + absI v % 10]) := rG_then (M := []) rW_say (hend (some (.inr (.inl (absI v)))) none) (fun τ Q hr _ => rb_188_61 ⟨⟨⟨by decide, by decide⟩, by decide⟩, by
            rw [er]
            exact hr⟩)
          have g51 : rG sc σ 188 51 [some (.inr (.inr 59)), some (.inl ty), some (.inr (.inl v)), none, some (.inr (.inl (absI v))), none] ([48 + absI v / 10 % 10] ++ [48 + absI v % 10]) := rG_then rW_say g61 (fun τ Q hr _ => rb_188_51 ⟨⟨⟨by decide, by decide⟩, by decide⟩, ⟨⟨by decide, by decide⟩, by decide⟩, by
            rw [e10, er2]
            exact hr⟩)
          have g45 : rG sc σ 188 45 [some (.inr (.inr 59)), some (.inl ty), some (.inr (.inl v)), none, some (.inr (.inl (absI v))), none] ([46] ++ ([48 + absI v / 10 % 10] ++ [48 + absI v % 10])) := rG_then rW_say g51 (fun τ Q hr _ => rb_188_45 ⟨⟨by omega, by omega⟩, fun _ => hr, fun h => absurd e0 h⟩)
          exact rG_then (rW_number (σ := σ) (v := absI v / 100) ⟨by omega, by omega⟩) g45 (fun τ Q hr _ => row τ Q ⟨⟨by omega, by omega⟩, fun _ => ⟨⟨⟨by decide, by decide⟩, by decide⟩, by
            rw [e100]
            exact hr⟩, fun h => absurd e0 h⟩)
      unfold numL
      have hty : (ty ≤ 2) := by omega
      by_cases hneg : v < 0
      · rw [if_pos hneg]
        exact rG_then rW_say g27 (fun τ Q hr _ => rb_188_0 ⟨⟨⟨by omega, by omega⟩, ⟨by decide, by decide⟩⟩, fun _ => ⟨⟨⟨by omega, by omega⟩, ⟨by decide, by decide⟩⟩, fun _ => ⟨⟨hv8, ⟨by decide, by decide⟩⟩, cmp_r _ _, fun h => absurd (cmp_ge.mp h) (by omega), fun _ => hr⟩, fun h => absurd hty h⟩, fun h => absurd h2 h⟩)
      · rw [if_neg hneg, List.nil_append]
        exact rG_nil g27 (fun τ Q hr _ => rb_188_0 ⟨⟨⟨by omega, by omega⟩, ⟨by decide, by decide⟩⟩, fun _ => ⟨⟨⟨by omega, by omega⟩, ⟨by decide, by decide⟩⟩, fun _ => ⟨⟨hv8, ⟨by decide, by decide⟩⟩, cmp_r _ _, fun _ => hr, fun h => absurd (cmp_ge.mpr (by omega)) h⟩, fun h => absurd hty h⟩, fun h => absurd h2 h⟩)
theorem cW_row {sc : Int × (Int → Int)} {σ : ai_S} {no : Int → Int} {t r : Int} (ht : 0 ≤ t ∧ t < 5) (hr0 : 0 ≤ r ∧ r < 12) (hw : 0 ≤ σ 4 t ∧ σ 4 t ≤ 5) (hty : ∀ j, 0 ≤ σ 5 j ∧ σ 5 j ≤ 3) (hok : ∀ c, 0 ≤ c → c < σ 4 t → okc (σ 5 (5 * t + c)) (σ 10 (60 * t + 5 * r + c)))
    (hno : ∀ c, 0 ≤ c → c < 5 → ((¬ ai_and (ai_shr (σ 11 ((t * 12) + r)) c) 1 = 0) ↔ ¬ no (60 * t + 5 * r + c) = 0)) : cW sc σ 118 [some (.inr (.inr 39)), some (.inr (.inr 1)), some (.inl t), some (.inl r), none] (rowL (σ 4 t).toNat (σ 5) (σ 10) no t r) := by
  have h : ∀ (n : Nat) (c : Int), 0 ≤ c ∧ c ≤ σ 4 t → (σ 4 t - c).toNat = n → cG sc σ 118 2 [some (.inr (.inr 39)), some (.inr (.inr 1)), some (.inl t), some (.inl r), some (.inl c)] (catL (fun c => sepL (σ 5) (σ 10) no t r c) n c) := by
    intro n
    induction n with
    | zero =>
      intro c hc hn Q F k k0 k1 hQ
      have hQ2 : Q (.inl none, (92, [], WS σ F k)) := by
        have e : k + ((catL (fun c => sepL (σ 5) (σ 10) no t r c) 0 c).length : Int) = k := Int.add_zero k
        rw [e] at hQ
        exact hQ
      refine rb_118_2 (ai_ret_q (pc_94 ht (ai_k_in (rb_118_7 ⟨⟨⟨by omega, by omega⟩, (show ai_r (σ 4 t) from ⟨by omega, by omega⟩)⟩, fun _ => hQ2, fun h => absurd (show σ 4 t ≤ c by omega) h⟩))))
    | succ n ih =>
      intro c hc hn
      have g := ih (c + 1) (by omega) (by omega)
      have g39 : cG sc σ 118 39 [some (.inr (.inr 39)), some (.inr (.inr 1)), some (.inl t), some (.inl r), some (.inl c)] (catL (fun c => sepL (σ 5) (σ 10) no t r c) n (c + 1)) := cG_nil g (fun τ Q hr _ => rb_118_39 hr)
      have hn5 := hno c (by omega) (by omega)
      have e5 : (t * 5) + c = 5 * t + c := by omega
      have e10 : ((t * 12) + r) * 5 + c = 60 * t + 5 * r + c := by omega
      have g15 : cG sc σ 118 15 [some (.inr (.inr 39)), some (.inr (.inr 1)), some (.inl t), some (.inl r), some (.inl c)] ((if no (60 * t + 5 * r + c) = 0 then cellL (σ 5 (5 * t + c)) (σ 10 (60 * t + 5 * r + c)) else [126]) ++ catL (fun c => sepL (σ 5) (σ 10) no t r c) n (c + 1)) := by
        by_cases hz : no (60 * t + 5 * r + c) = 0
        · rw [if_pos hz]
          refine cG_then (cW_cell (hty _) (hok c hc.1 (by omega))) g39 (fun τ Q hr e => ?_)
          have f11 : τ 11 = σ 11 := congrFun e 11
          have f5 : τ 5 = σ 5 := congrFun e 5
          have f10 : τ 10 = σ 10 := congrFun e 10
          refine rb_118_15 (ai_ret_q (pc_107 ⟨by omega, by omega⟩ (ai_k_in (rb_118_21 ⟨bi_r _, fun _ => ai_ret_q (pc_95 ⟨by omega, by omega⟩ (ai_k_in (rb_118_32 (ai_ret_q (pc_106 ⟨by omega, by omega⟩ (ai_k_in (rb_118_38 ?_))))))), fun h => ?_⟩))))
          · rw [f5, f10, e5, e10]
            exact hr
          · have h2 := bi_yes h
            rw [f11] at h2
            exact absurd hz (hn5.mp h2)
        · rw [if_neg hz]
          have g25 : cG sc σ 118 25 [some (.inr (.inr 39)), some (.inr (.inr 1)), some (.inl t), some (.inl r), some (.inl c)] (catL (fun c => sepL (σ 5) (σ 10) no t r c) n (c + 1)) := cG_nil g39 (fun τ Q hr _ => rb_118_25 hr)
          refine cG_then (cW_add (by decide)) g25 (fun τ Q hr e => ?_)
          have f11 : τ 11 = σ 11 := congrFun e 11
          refine rb_118_15 (ai_ret_q (pc_107 ⟨by omega, by omega⟩ (ai_k_in (rb_118_21 ⟨bi_r _, fun h => ?_, fun _ => hr⟩))))
          have h2 := bi_no h
          rw [f11] at h2
          exact absurd (hn5.mpr hz) h2
      show cG sc σ 118 2 _ (sepL (σ 5) (σ 10) no t r c ++ catL (fun c => sepL (σ 5) (σ 10) no t r c) n (c + 1))
      unfold sepL
      rw [List.append_assoc]
      by_cases h0 : c = 0
      · rw [if_pos h0]
        refine cG_then (cW_add (by decide)) g15 (fun τ Q hr e => ?_)
        have f4 : τ 4 = σ 4 := congrFun e 4
        refine rb_118_2 (ai_ret_q (pc_94 ht (ai_k_in ?_)))
        rw [f4]
        exact rb_118_7 ⟨⟨⟨by omega, by omega⟩, ⟨by omega, by omega⟩⟩, fun h => absurd h (by omega), fun _ => ⟨⟨by omega, by omega⟩, fun h => absurd h0 h, fun _ => hr⟩⟩
      · rw [if_neg h0]
        refine cG_then (cW_add (by decide)) g15 (fun τ Q hr e => ?_)
        have f4 : τ 4 = σ 4 := congrFun e 4
        refine rb_118_2 (ai_ret_q (pc_94 ht (ai_k_in ?_)))
        rw [f4]
        exact rb_118_7 ⟨⟨⟨by omega, by omega⟩, ⟨by omega, by omega⟩⟩, fun h => absurd h (by omega), fun _ => ⟨⟨by omega, by omega⟩, fun _ => hr, fun h => absurd h0 h⟩⟩
  exact cW_of (cG_nil (h _ 0 ⟨by omega, hw.1⟩ (by rw [Int.sub_zero])) (fun τ Q hr _ => rb_118_0 hr))
theorem cf_table {sc : Int × (Int → Int)} {σ : ai_S} {no : Int → Int} {t : Int} (ht : 0 ≤ t ∧ t < 5) (hw : 0 ≤ σ 4 t ∧ σ 4 t ≤ 5) (hn : 0 ≤ σ 9 t ∧ σ 9 t ≤ 12) (hty : ∀ j, 0 ≤ σ 5 j ∧ σ 5 j ≤ 3) (hok : ∀ r c, 0 ≤ r → r < σ 9 t → 0 ≤ c → c < σ 4 t → okc (σ 5 (5 * t + c)) (σ 10 (60 * t + 5 * r + c)))
    (hno : ∀ r c, 0 ≤ r → r < σ 9 t → 0 ≤ c → c < 5 → ((¬ ai_and (ai_shr (σ 11 ((t * 12) + r)) c) 1 = 0) ↔ ¬ no (60 * t + 5 * r + c) = 0)) : fn sc 117 [some (.inr (.inr 39)), some (.inr (.inr 1)), some (.inl t), none] σ none (WS σ (lay (tabL (σ 4 t).toNat (σ 9 t).toNat (σ 5) (σ 10) no t) (σ 40) 0) ((tabL (σ 4 t).toNat (σ 9 t).toNat (σ 5) (σ 10) no t).length : Int)) := by
  have hend : ∀ c, cG sc σ 117 47 [some (.inr (.inr 39)), some (.inr (.inr 1)), some (.inl t), some (.inl c)] [] := fun c Q F n h0 h1 hQ => rb_117_47 (by
    rw [show n + (([] : List Int).length : Int) = n from Int.add_zero n] at hQ
    exact hQ)
  have hrows : ∀ (n : Nat) (r : Int), 0 ≤ r ∧ r ≤ σ 9 t → (σ 9 t - r).toNat = n → cG sc σ 117 31 [some (.inr (.inr 39)), some (.inr (.inr 1)), some (.inl t), some (.inl r)] (catL (fun r => rowL (σ 4 t).toNat (σ 5) (σ 10) no t r) n r ++ [59]) := by
    intro n
    induction n with
    | zero =>
      intro r hr0 hn0
      refine cG_then (M := []) (cW_add (by decide)) (hend r) (fun τ Q hr e => ?_)
      have f9 : τ 9 = σ 9 := congrFun e 9
      refine rb_117_31 (ai_ret_q (pc_105 ht (ai_k_in ?_)))
      rw [f9]
      exact rb_117_36 ⟨⟨⟨by omega, by omega⟩, ⟨by omega, by omega⟩⟩, fun _ => hr, fun h => absurd (show σ 9 t ≤ r by omega) h⟩
    | succ n ih =>
      intro r hr0 hn0
      have g := ih (r + 1) (by omega) (by omega)
      have g42 : cG sc σ 117 42 [some (.inr (.inr 39)), some (.inr (.inr 1)), some (.inl t), some (.inl r)] (catL (fun r => rowL (σ 4 t).toNat (σ 5) (σ 10) no t r) n (r + 1) ++ [59]) := cG_nil g (fun τ Q hr _ => rb_117_42 hr)
      show cG sc σ 117 31 _ (rowL (σ 4 t).toNat (σ 5) (σ 10) no t r ++ catL (fun r => rowL (σ 4 t).toNat (σ 5) (σ 10) no t r) n (r + 1) ++ [59])
      rw [List.append_assoc]
      refine cG_then (cW_row ht ⟨hr0.1, by omega⟩ hw hty (fun c c1 c2 => hok r c hr0.1 (by omega) c1 c2) (fun c c1 c2 => hno r c hr0.1 (by omega) c1 c2)) g42 (fun τ Q hr e => ?_)
      have f9 : τ 9 = σ 9 := congrFun e 9
      refine rb_117_31 (ai_ret_q (pc_105 ht (ai_k_in ?_)))
      rw [f9]
      exact rb_117_36 ⟨⟨⟨by omega, by omega⟩, ⟨by omega, by omega⟩⟩, fun h => absurd h (by omega), fun _ => hr⟩
  have g29 : ∀ c, cG sc σ 117 29 [some (.inr (.inr 39)), some (.inr (.inr 1)), some (.inl t), some (.inl c)] (catL (fun r => rowL (σ 4 t).toNat (σ 5) (σ 10) no t r) (σ 9 t).toNat 0 ++ [59]) := fun c => cG_nil (hrows _ 0 ⟨by omega, hn.1⟩ (by rw [Int.sub_zero])) (fun τ Q hr _ => rb_117_29 hr)
  have hcols : ∀ (n : Nat) (c : Int), 0 ≤ c ∧ c ≤ σ 4 t → (σ 4 t - c).toNat = n → cG sc σ 117 13 [some (.inr (.inr 39)), some (.inr (.inr 1)), some (.inl t), some (.inl c)] (catL (fun c => [48 + c]) n c ++ ([41] ++ (catL (fun r => rowL (σ 4 t).toNat (σ 5) (σ 10) no t r) (σ 9 t).toNat 0 ++ [59]))) := by
    intro n
    induction n with
    | zero =>
      intro c hc hn0
      show cG sc σ 117 13 _ ([41] ++ _)
      refine cG_then (cW_add (by decide)) (g29 c) (fun τ Q hr e => ?_)
      have f4 : τ 4 = σ 4 := congrFun e 4
      refine rb_117_13 (ai_ret_q (pc_94 ht (ai_k_in ?_)))
      rw [f4]
      exact rb_117_18 ⟨⟨⟨by omega, by omega⟩, ⟨by omega, by omega⟩⟩, fun _ => hr, fun h => absurd (show σ 4 t ≤ c by omega) h⟩
    | succ n ih =>
      intro c hc hn0
      have g := ih (c + 1) (by omega) (by omega)
      have g24 : cG sc σ 117 24 [some (.inr (.inr 39)), some (.inr (.inr 1)), some (.inl t), some (.inl c)] (catL (fun c => [48 + c]) n (c + 1) ++ ([41] ++ (catL (fun r => rowL (σ 4 t).toNat (σ 5) (σ 10) no t r) (σ 9 t).toNat 0 ++ [59]))) := cG_nil g (fun τ Q hr _ => rb_117_24 hr)
      show cG sc σ 117 13 _ ([48 + c] ++ catL (fun c => [48 + c]) n (c + 1) ++ _)
      rw [List.append_assoc]
      refine cG_then (cW_add (by omega)) g24 (fun τ Q hr e => ?_)
      have f4 : τ 4 = σ 4 := congrFun e 4
      refine rb_117_13 (ai_ret_q (pc_94 ht (ai_k_in ?_)))
      rw [f4]
      exact rb_117_18 ⟨⟨⟨by omega, by omega⟩, ⟨by omega, by omega⟩⟩, fun h => absurd h (by omega), fun _ => hr⟩
  have g11 : cG sc σ 117 11 [some (.inr (.inr 39)), some (.inr (.inr 1)), some (.inl t), none] (catL (fun c => [48 + c]) (σ 4 t).toNat 0 ++ ([41] ++ (catL (fun r => rowL (σ 4 t).toNat (σ 5) (σ 10) no t r) (σ 9 t).toNat 0 ++ [59]))) := cG_nil (hcols _ 0 ⟨by omega, hw.1⟩ (by rw [Int.sub_zero])) (fun τ Q hr _ => rb_117_11 hr)
  have g8 : cG sc σ 117 8 [some (.inr (.inr 39)), some (.inr (.inr 1)), some (.inl t), none] ([40] ++ (catL (fun c => [48 + c]) (σ 4 t).toNat 0 ++ ([41] ++ (catL (fun r => rowL (σ 4 t).toNat (σ 5) (σ 10) no t r) (σ 9 t).toNat 0 ++ [59])))) := cG_then (cW_add (by decide)) g11 (fun τ Q hr _ => rb_117_8 hr)
  intro Q hQ
  have hl := tabL_len (w := (σ 4 t).toNat) (n := (σ 9 t).toNat) (ty := σ 5) (ce := σ 10) (no := no) (t := t) (by omega) (by omega)
  have e0 : ai_set σ 39 0 0 = WS σ (σ 40) 0 := (up_e (σ := ai_set σ 39 0 0) (p := 40) rfl).symm
  refine rb_117_0 ?_
  rw [e0]
  unfold tabL at hQ hl
  generalize hM : [40] ++ (catL (fun c => [48 + c]) (σ 4 t).toNat 0 ++ ([41] ++ (catL (fun r => rowL (σ 4 t).toNat (σ 5) (σ 10) no t r) (σ 9 t).toNat 0 ++ [59]))) = M at g8 hQ hl
  have hl2 : 1 + M.length ≤ 1149 := by
    rw [List.length_append] at hl
    exact hl
  refine fn_ret (cW_add (c := 48 + t) (by omega) (σ 40) 0 (Int.le_refl 0) (by show (0 : Int) + 1 ≤ 1149; decide)) ?_
  refine g8 Q _ _ (by show (0 : Int) ≤ 0 + 1; decide) (by show (0 : Int) + 1 + (M.length : Int) ≤ 1149; omega) ?_
  rw [lay_app, List.length_append] at hQ
  have e1 : (([48 + t].length + M.length : Nat) : Int) = 0 + ([48 + t].length : Int) + (M.length : Int) := by omega
  rw [e1] at hQ
  exact hQ
theorem rf_table {sc : Int × (Int → Int)} {σ : ai_S} {t : Int} (ht : 0 ≤ t ∧ t < σ 59 1) (hT : 0 ≤ σ 59 1 ∧ σ 59 1 ≤ 5) (hw : 0 ≤ σ 60 t ∧ σ 60 t ≤ 5) (hw0 : ¬ σ 60 t = 0) (hn : 0 ≤ σ 64 t ∧ σ 64 t ≤ 12) (hty : ∀ j, 0 ≤ σ 61 j ∧ σ 61 j ≤ 3) (hok : ∀ r c, 0 ≤ r → r < σ 64 t → 0 ≤ c → c < σ 60 t → okc (σ 61 (5 * t + c)) (σ 65 (60 * t + 5 * r + c)))
    (hno : ∀ j, 0 ≤ j → j < 300 → ai_r (σ 66 j)) : fn sc 189 [some (.inr (.inr 59)), some (.inl t), none, none] σ (some (.inl ((tabL (σ 60 t).toNat (σ 64 t).toNat (σ 61) (σ 65) (σ 66) t).length : Int))) (V (ai_set σ 59 0 0) (lay (tabL (σ 60 t).toNat (σ 64 t).toNat (σ 61) (σ 65) (σ 66) t) (σ 90) 0) ((tabL (σ 60 t).toNat (σ 64 t).toNat (σ 61) (σ 65) (σ 66) t).length : Int)) := by
  intro Q hQ
  have ht5 : 0 ≤ t ∧ t < 5 := by omega
  have hl := tabL_len (w := (σ 60 t).toNat) (n := (σ 64 t).toNat) (ty := σ 61) (ce := σ 65) (no := σ 66) (t := t) (by omega) (by omega)
  -- what is laid from here on, and the return
  have hG : ∃ (G : Nat → ai_L → List Int → Prop), G = (fun i ls L => ∀ F n, 0 ≤ n → n + (L.length : Int) ≤ 1149 → (Q (.inl (some (.inl (n + (L.length : Int)))), (92, [], V (ai_set σ 59 0 0) (lay L F n) (n + (L.length : Int))))) → ai_wp sc 189 i ls [] (0, 0) (92, [], V (ai_set σ 59 0 0) F n) Q) := ⟨_, rfl⟩
  obtain ⟨G, hG⟩ := hG
  have gthen : ∀ {i i' m' : Nat} {ls ls' a : ai_L} {L M : List Int}, rW sc (ai_set σ 59 0 0) m' a L → G i' ls' M → (∀ (τ : ai_S), ai_ret (ai_wp sc) m' a (92, [], τ) (fun v h' => ai_ck (ai_zz 92 h'.1 0) (ai_wp sc 189 i' ls' (v.toList ++ []) (0, 0) h' Q)) → (τ = V (ai_set σ 59 0 0) (τ 90) (τ 59 45)) → ai_wp sc 189 i ls [] (0, 0) (92, [], τ) Q) → G i ls (L ++ M) := by
    intro i i' m' ls ls' a L M h g row
    rw [hG] at g ⊢
    intro F n h0 h1 hq
    rw [List.length_append] at h1 hq
    have e : n + ((L.length + M.length : Nat) : Int) = n + (L.length : Int) + (M.length : Int) := by omega
    rw [lay_app, e] at hq
    refine row _ (fn_ret (h F n h0 (by omega)) ?_) rfl
    exact g _ _ (by omega) (by omega) hq
  have gnil : ∀ {i i' : Nat} {ls ls' : ai_L} {M : List Int}, G i' ls' M → (∀ (τ : ai_S), ai_wp sc 189 i' ls' [] (0, 0) (92, [], τ) Q → (τ = V (ai_set σ 59 0 0) (τ 90) (τ 59 45)) → ai_wp sc 189 i ls [] (0, 0) (92, [], τ) Q) → G i ls M := by
    intro i i' ls ls' M g row
    rw [hG] at g ⊢
    exact fun F n h0 h1 hq => row _ (g F n h0 h1 hq) rfl
  have hend : ∀ a, G 119 [some (.inr (.inr 59)), some (.inl t), some (.inl a), none] [] := by
    intro a
    rw [hG]
    intro F n h0 h1 hq
    rw [show n + (([] : List Int).length : Int) = n from Int.add_zero n] at hq
    exact rb_189_119 hq
  have hrow : ∀ (M : List Int) (r : Int), 0 ≤ r ∧ r < σ 64 t → (∀ x, G 52 [some (.inr (.inr 59)), some (.inl t), some (.inl (r + 1)), x] M) → ∀ (n : Nat) (c : Int), 0 ≤ c ∧ c ≤ σ 60 t → (σ 60 t - c).toNat = n → G 60 [some (.inr (.inr 59)), some (.inl t), some (.inl r), some (.inl c)] (catL (fun c => sepL (σ 61) (σ 65) (σ 66) t r c) n c ++ M) := by
    intro M r hr0 hM n
    induction n with
    | zero =>
      intro c hc hn0
      refine gnil (hM (some (.inl c))) (fun τ hr e => ?_)
      have f60 : τ 60 = σ 60 := congrFun e 60
      refine rb_189_60 ⟨ht5, ?_⟩
      rw [f60]
      exact ⟨⟨⟨by omega, by omega⟩, ⟨by omega, by omega⟩⟩, fun _ => hr, fun h => absurd (show σ 60 t ≤ c by omega) h⟩
    | succ n ih =>
      intro c hc hn0
      have g := ih (c + 1) (by omega) (by omega)
      have g112 : G 112 [some (.inr (.inr 59)), some (.inl t), some (.inl r), some (.inl c)] (catL (fun c => sepL (σ 61) (σ 65) (σ 66) t r c) n (c + 1) ++ M) := gnil g (fun τ hr _ => rb_189_112 hr)
      have g73 : G 73 [some (.inr (.inr 59)), some (.inl t), some (.inl r), some (.inl c)] ((if σ 66 (60 * t + 5 * r + c) = 0 then cellL (σ 61 (5 * t + c)) (σ 65 (60 * t + 5 * r + c)) else [126]) ++ (catL (fun c => sepL (σ 61) (σ 65) (σ 66) t r c) n (c + 1) ++ M)) := by
        by_cases hz : σ 66 (60 * t + 5 * r + c) = 0
        · rw [if_pos hz]
          refine gthen (rW_cell (hty _) (hok r c hr0.1 hr0.2 hc.1 (by omega))) g112 (fun τ hr e => ?_)
          have f66 : τ 66 = σ 66 := congrFun e 66
          have f61 : τ 61 = σ 61 := congrFun e 61
          have f65 : τ 65 = σ 65 := congrFun e 65
          refine rb_189_73 ⟨⟨by omega, by omega⟩, ?_⟩
          rw [f66, f61, f65]
          exact ⟨hno _ (by omega) (by omega), fun _ => ⟨⟨by omega, by omega⟩, ⟨by omega, by omega⟩, hr⟩, fun h => absurd hz h⟩
        · rw [if_neg hz]
          have g89 : G 89 [some (.inr (.inr 59)), some (.inl t), some (.inl r), some (.inl c)] (catL (fun c => sepL (σ 61) (σ 65) (σ 66) t r c) n (c + 1) ++ M) := gnil g112 (fun τ hr _ => rb_189_89 hr)
          refine gthen rW_say g89 (fun τ hr e => ?_)
          have f66 : τ 66 = σ 66 := congrFun e 66
          refine rb_189_73 ⟨⟨by omega, by omega⟩, ?_⟩
          rw [f66]
          exact ⟨hno _ (by omega) (by omega), fun h => absurd h hz, fun _ => hr⟩
      show G 60 _ (sepL (σ 61) (σ 65) (σ 66) t r c ++ catL (fun c => sepL (σ 61) (σ 65) (σ 66) t r c) n (c + 1) ++ M)
      unfold sepL
      rw [List.append_assoc, List.append_assoc]
      by_cases h0 : c = 0
      · rw [if_pos h0]
        refine gthen rW_say g73 (fun τ hr e => ?_)
        have f60 : τ 60 = σ 60 := congrFun e 60
        refine rb_189_60 ⟨ht5, ?_⟩
        rw [f60]
        exact ⟨⟨⟨by omega, by omega⟩, ⟨by omega, by omega⟩⟩, fun h => absurd h (by omega), fun _ => ⟨⟨by omega, by omega⟩, fun h => absurd h0 h, fun _ => hr⟩⟩
      · rw [if_neg h0]
        refine gthen rW_say g73 (fun τ hr e => ?_)
        have f60 : τ 60 = σ 60 := congrFun e 60
        refine rb_189_60 ⟨ht5, ?_⟩
        rw [f60]
        exact ⟨⟨⟨by omega, by omega⟩, ⟨by omega, by omega⟩⟩, fun h => absurd h (by omega), fun _ => ⟨⟨by omega, by omega⟩, fun _ => hr, fun h => absurd h0 h⟩⟩
  have hrows : ∀ (n : Nat) (r : Int) (x : Option ai_V), 0 ≤ r ∧ r ≤ σ 64 t → (σ 64 t - r).toNat = n → G 52 [some (.inr (.inr 59)), some (.inl t), some (.inl r), x] (catL (fun r => rowL (σ 60 t).toNat (σ 61) (σ 65) (σ 66) t r) n r ++ [59]) := by
    intro n
    induction n with
    | zero =>
      intro r x hr0 hn0
      refine gthen (M := []) rW_say (hend r) (fun τ hr e => ?_)
      have f64 : τ 64 = σ 64 := congrFun e 64
      refine rh_189_52 ⟨ht5, ?_⟩
      rw [f64]
      exact ⟨⟨⟨by omega, by omega⟩, ⟨by omega, by omega⟩⟩, fun _ => hr, fun h => absurd (show σ 64 t ≤ r by omega) h⟩
    | succ n ih =>
      intro r x hr0 hn0
      show G 52 _ (rowL (σ 60 t).toNat (σ 61) (σ 65) (σ 66) t r ++ catL (fun r => rowL (σ 60 t).toNat (σ 61) (σ 65) (σ 66) t r) n (r + 1) ++ [59])
      rw [List.append_assoc]
      have g := hrow _ r ⟨hr0.1, by omega⟩ (fun x => ih (r + 1) x (by omega) (by omega)) _ 0 ⟨by omega, hw.1⟩ (by rw [Int.sub_zero])
      refine gnil g (fun τ hr e => ?_)
      have f64 : τ 64 = σ 64 := congrFun e 64
      refine rh_189_52 ⟨ht5, ?_⟩
      rw [f64]
      exact ⟨⟨⟨by omega, by omega⟩, ⟨by omega, by omega⟩⟩, fun h => absurd h (by omega), fun _ => hr⟩
  have g50 : ∀ c, G 50 [some (.inr (.inr 59)), some (.inl t), some (.inl c), none] (catL (fun r => rowL (σ 60 t).toNat (σ 61) (σ 65) (σ 66) t r) (σ 64 t).toNat 0 ++ [59]) := fun c => gnil (hrows _ 0 none ⟨by omega, hn.1⟩ (by rw [Int.sub_zero])) (fun τ hr _ => rb_189_50 hr)
  have hcols : ∀ (n : Nat) (c : Int), 0 ≤ c ∧ c ≤ σ 60 t → (σ 60 t - c).toNat = n → G 34 [some (.inr (.inr 59)), some (.inl t), some (.inl c), none] (catL (fun c => [48 + c]) n c ++ ([41] ++ (catL (fun r => rowL (σ 60 t).toNat (σ 61) (σ 65) (σ 66) t r) (σ 64 t).toNat 0 ++ [59]))) := by
    intro n
    induction n with
    | zero =>
      intro c hc hn0
      show G 34 _ ([41] ++ _)
      refine gthen rW_say (g50 c) (fun τ hr e => ?_)
      have f60 : τ 60 = σ 60 := congrFun e 60
      refine rb_189_34 ⟨ht5, ?_⟩
      rw [f60]
      exact ⟨⟨⟨by omega, by omega⟩, ⟨by omega, by omega⟩⟩, fun _ => hr, fun h => absurd (show σ 60 t ≤ c by omega) h⟩
    | succ n ih =>
      intro c hc hn0
      have g := ih (c + 1) (by omega) (by omega)
      have g45 : G 45 [some (.inr (.inr 59)), some (.inl t), some (.inl c), none] (catL (fun c => [48 + c]) n (c + 1) ++ ([41] ++ (catL (fun r => rowL (σ 60 t).toNat (σ 61) (σ 65) (σ 66) t r) (σ 64 t).toNat 0 ++ [59]))) := gnil g (fun τ hr _ => rb_189_45 hr)
      show G 34 _ ([48 + c] ++ catL (fun c => [48 + c]) n (c + 1) ++ _)
      rw [List.append_assoc]
      refine gthen rW_say g45 (fun τ hr e => ?_)
      have f60 : τ 60 = σ 60 := congrFun e 60
      refine rb_189_34 ⟨ht5, ?_⟩
      rw [f60]
      exact ⟨⟨⟨by omega, by omega⟩, ⟨by omega, by omega⟩⟩, fun h => absurd h (by omega), fun _ => hr⟩
  have g32 : G 32 [some (.inr (.inr 59)), some (.inl t), none, none] (catL (fun c => [48 + c]) (σ 60 t).toNat 0 ++ ([41] ++ (catL (fun r => rowL (σ 60 t).toNat (σ 61) (σ 65) (σ 66) t r) (σ 64 t).toNat 0 ++ [59]))) := gnil (hcols _ 0 ⟨by omega, hw.1⟩ (by rw [Int.sub_zero])) (fun τ hr _ => rb_189_32 hr)
  have g29 : G 29 [some (.inr (.inr 59)), some (.inl t), none, none] ([40] ++ (catL (fun c => [48 + c]) (σ 60 t).toNat 0 ++ ([41] ++ (catL (fun r => rowL (σ 60 t).toNat (σ 61) (σ 65) (σ 66) t r) (σ 64 t).toNat 0 ++ [59])))) := gthen rW_say g32 (fun τ hr _ => rb_189_29 hr)
  have e0 : ai_set (ai_set σ 59 0 0) 59 45 0 = V (ai_set σ 59 0 0) (σ 90) 0 := (up_e (σ := ai_set (ai_set σ 59 0 0) 59 45 0) (p := 90) rfl).symm
  unfold tabL at hQ hl
  generalize hM : [40] ++ (catL (fun c => [48 + c]) (σ 60 t).toNat 0 ++ ([41] ++ (catL (fun r => rowL (σ 60 t).toNat (σ 61) (σ 65) (σ 66) t r) (σ 64 t).toNat 0 ++ [59]))) = M at g29 hQ hl
  have hl2 : 1 + M.length ≤ 1149 := by
    rw [List.length_append] at hl
    exact hl
  refine rb_189_0 (ai_ret_q (pc_129 ⟨⟨by omega, by omega⟩, fun _ => ⟨⟨by omega, by omega⟩, ⟨by omega, by omega⟩⟩⟩ (ai_k_in (rb_189_4 ⟨bi_r _, fun _ => ⟨ht5, ⟨by omega, by omega⟩, fun _ => ⟨⟨by decide, by decide⟩, fun _ => ?_, fun h => absurd (by decide) h⟩, fun h => absurd hw0 h⟩, fun h => absurd (show _ ∧ _ from ⟨by omega, by omega⟩) (bi_no2 h)⟩))))
  rw [e0]
  refine fn_ret (rW_say (c := 48 + t) (σ 90) 0 (Int.le_refl 0) (by show (0 : Int) + 1 ≤ 1149; decide)) ?_
  rw [hG] at g29
  refine g29 _ _ (by show (0 : Int) ≤ 0 + 1; decide) (by show (0 : Int) + 1 + (M.length : Int) ≤ 1149; omega) ?_
  rw [lay_app, List.length_append] at hQ
  have e1 : (([48 + t].length + M.length : Nat) : Int) = 0 + ([48 + t].length : Int) + (M.length : Int) := by omega
  rw [e1] at hQ
  exact hQ
theorem cl_write_3 {sc : Int × (Int → Int)} {σ : ai_S} {t : Int} (hk : -2147483648 ≤ t ∧ t ≤ 2147483647) (hT : 0 ≤ σ 2 0 ∧ σ 2 0 ≤ 5) (hg : ¬ (0 ≤ t ∧ t < σ 2 0)) : th sc 18 [some (.inr (.inr 0)), some (.inl t)] σ 3 σ := by
  intro Q hQ
  exact rb_18_0 (ai_ret_q (pc_93 ⟨hk, fun _ => ⟨hk, ⟨by omega, by omega⟩⟩⟩ (ai_k_in (rb_18_5 ⟨bi_r _, fun h => absurd (bi_yes h) (by omega), fun _ => hQ⟩))))
theorem cl_write_0 {sc : Int × (Int → Int)} {σ : ai_S} {t : Int} (hk : -2147483648 ≤ t ∧ t ≤ 2147483647) (hT : 0 ≤ σ 2 0 ∧ σ 2 0 ≤ 5) (hg : 0 ≤ t ∧ t < σ 2 0) (hw : σ 4 t = 0) : th sc 18 [some (.inr (.inr 0)), some (.inl t)] σ 0 σ := by
  intro Q hQ
  exact rb_18_0 (ai_ret_q (pc_93 ⟨hk, fun _ => ⟨hk, ⟨by omega, by omega⟩⟩⟩ (ai_k_in (rb_18_5 ⟨bi_r _, fun _ => ai_ret_q (pc_94 ⟨by omega, by omega⟩ (ai_k_in (rb_18_16 ⟨⟨by omega, by omega⟩, fun h => absurd hw h, fun _ => hQ⟩))), fun h => absurd (show _ ∧ _ from ⟨by omega, by omega⟩) (bi_no2 h)⟩))))
theorem rf_write_1 {sc : Int × (Int → Int)} {σ : ai_S} {t : Int} (hk : -2147483648 ≤ t ∧ t ≤ 2147483647) (hT : 0 ≤ σ 59 1 ∧ σ 59 1 ≤ 5) (hg : ¬ (0 ≤ t ∧ t < σ 59 1)) : fn sc 189 [some (.inr (.inr 59)), some (.inl t), none, none] σ (some (.inl 0)) (ai_set σ 59 0 1) := by
  intro Q hQ
  exact rb_189_0 (ai_ret_q (pc_129 ⟨hk, fun _ => ⟨hk, ⟨by omega, by omega⟩⟩⟩ (ai_k_in (rb_189_4 ⟨bi_r _, fun h => absurd (bi_yes h) (by omega), fun _ => ⟨⟨by decide, by decide⟩, fun h => absurd h (by decide), fun _ => hQ⟩⟩))))
theorem rf_write_2 {sc : Int × (Int → Int)} {σ : ai_S} {t : Int} (hk : -2147483648 ≤ t ∧ t ≤ 2147483647) (hT : 0 ≤ σ 59 1 ∧ σ 59 1 ≤ 5) (hg : 0 ≤ t ∧ t < σ 59 1) (hw : σ 60 t = 0) : fn sc 189 [some (.inr (.inr 59)), some (.inl t), none, none] σ (some (.inl 0)) (ai_set σ 59 0 2) := by
  intro Q hQ
  exact rb_189_0 (ai_ret_q (pc_129 ⟨hk, fun _ => ⟨hk, ⟨by omega, by omega⟩⟩⟩ (ai_k_in (rb_189_4 ⟨bi_r _, fun _ => ⟨⟨by omega, by omega⟩, ⟨by omega, by omega⟩, fun h => absurd hw h, fun _ => ⟨⟨by decide, by decide⟩, fun h => absurd h (by decide), fun _ => hQ⟩⟩, fun h => absurd (show _ ∧ _ from ⟨by omega, by omega⟩) (bi_no2 h)⟩))))
theorem tn_write {sc : Int × (Int → Int)} {σ : ai_S} (hR : Rel σ) {t : Int} (hk : -2147483648 ≤ t ∧ t ≤ 2147483647) : ∃ k x σ1 σ2, fn sc 204 [some (.inr (.inr 0)), some (.inl t), some (.inr (.inr 91)), none] σ (some (.inl k)) σ1 ∧ fn sc 189 [some (.inr (.inr 59)), some (.inl t), none, none] σ1 (some (.inl x)) σ2 ∧ σ2 59 0 = k ∧ (0 ≤ k ∧ k ≤ 3) ∧ ai_r x ∧ (k = 0 → σ2 91 0 = x) ∧ Rel σ2 := by
  obtain ⟨⟨s1, s2, s3, s4, s5, s6, s7, s8, s9, s10, s11, s12⟩, ⟨⟨t1, t2, t3⟩, t4⟩, hL, n0, n1, n2, hX, hF, hD, hC, ⟨w1, w2, w3, w4⟩⟩ := id hR
  have z1 : 0 ≤ σ 59 1 ∧ σ 59 1 ≤ 5 := by
    rw [s1]
    exact s2
  by_cases hg : 0 ≤ t ∧ t < σ 2 0
  · have hg' : 0 ≤ t ∧ t < σ 59 1 := by omega
    have h4 := s8 t
    have h9 := t4.1 t
    by_cases hw : σ 4 t = 0
    · have hw' : σ 60 t = 0 := by
        rw [s3]
        exact hw
      exact ⟨2, _, _, _, wx_204_0 (cl_write_0 hk s2 hg hw), rf_write_2 hk z1 hg' hw', rfl, ⟨by decide, by decide⟩, ⟨by decide, by decide⟩, fun h => absurd h (by decide), rel_code hR⟩
    · have hok := fun r c (q1 : 0 ≤ r) (q2 : r < σ 9 t) (q3 : 0 ≤ c) (q4 : c < σ 4 t) => t4.2.2.2.2.2.2.2 t r c hg.1 hg.2 q1 q2 q3 q4
      have hno : ∀ r c, 0 ≤ r → r < σ 9 t → 0 ≤ c → c < 5 → ((¬ ai_and (ai_shr (σ 11 ((t * 12) + r)) c) 1 = 0) ↔ ¬ σ 66 (60 * t + 5 * r + c) = 0) := by
        intro r c q1 q2 q3 q4
        have e := t3 (12 * t + r) c (by omega) (by omega) q3 q4
        rw [show 5 * (12 * t + r) + c = 60 * t + 5 * r + c by omega] at e
        rw [e, bi_eq0, Decidable.not_not, show (t * 12) + r = 12 * t + r by omega]
        exact bit_ne (t4.2.2.1 _) ⟨q3, q4⟩
      have hcl := cf_table (sc := sc) (no := σ 66) ⟨hg.1, by omega⟩ h4 h9 s9 hok hno
      have hlen := tabL_len (w := (σ 4 t).toNat) (n := (σ 9 t).toNat) (ty := σ 5) (ce := σ 10) (no := σ 66) (t := t) (by omega) (by omega)
      have hokL := tabL_ok (w := (σ 4 t).toNat) (n := (σ 9 t).toNat) (ty := σ 5) (ce := σ 10) (no := σ 66) (t := t) ⟨hg.1, by omega⟩ (by omega)
      have y4 : 0 ≤ σ 60 t ∧ σ 60 t ≤ 5 := by
        rw [s3]
        exact h4
      have y0 : ¬ σ 60 t = 0 := by
        rw [s3]
        exact hw
      have y9 : 0 ≤ σ 64 t ∧ σ 64 t ≤ 12 := by
        rw [t1]
        exact h9
      have y5 : ∀ j, 0 ≤ σ 61 j ∧ σ 61 j ≤ 3 := by
        rw [s4]
        exact s9
      have yok : ∀ r c, 0 ≤ r → r < σ 64 t → 0 ≤ c → c < σ 60 t → okc (σ 61 (5 * t + c)) (σ 65 (60 * t + 5 * r + c)) := by
        rw [s4, t2, t1, s3]
        exact hok
      have yno : ∀ j, 0 ≤ j → j < 300 → ai_r (σ 66 j) := by
        intro j q1 q2
        have e := t3 (j / 5) (j % 5) (by omega) (by omega) (by omega) (by omega)
        rw [show 5 * (j / 5) + j % 5 = j by omega] at e
        rw [e]
        exact bi_r _
      have eL : tabL (σ 60 t).toNat (σ 64 t).toNat (σ 61) (σ 65) (σ 66) t = tabL (σ 4 t).toNat (σ 9 t).toNat (σ 5) (σ 10) (σ 66) t := by
        rw [s3, t1, s4, t2]
      have hcw : fn sc 18 [some (.inr (.inr 0)), some (.inl t)] σ (some (.inl ((tabL (σ 4 t).toNat (σ 9 t).toNat (σ 5) (σ 10) (σ 66) t).length : Int))) _ := fun Q hQ => rb_18_0 (ai_ret_q (pc_93 ⟨hk, fun _ => ⟨hk, ⟨by omega, by omega⟩⟩⟩ (ai_k_in (rb_18_5 ⟨bi_r _, fun _ => ai_ret_q (pc_94 ⟨by omega, by omega⟩ (ai_k_in (rb_18_16 ⟨⟨by omega, by omega⟩, fun _ => fn_ret hcl (rb_18_28 hQ), fun h => absurd hw h⟩))), fun h => absurd (show _ ∧ _ from ⟨by omega, by omega⟩) (bi_no2 h)⟩))))
      generalize hcL : tabL (σ 4 t).toNat (σ 9 t).toNat (σ 5) (σ 10) (σ 66) t = TL at hcw hlen hokL eL
      have hrf := rf_table (sc := sc) (σ := ai_set (WS σ (lay TL (σ 40) 0) (TL.length : Int)) 91 0 (TL.length : Int)) hg' z1 y4 y0 y9 y5 yok yno
      rw [show tabL ((ai_set (WS σ (lay TL (σ 40) 0) (TL.length : Int)) 91 0 (TL.length : Int)) 60 t).toNat ((ai_set (WS σ (lay TL (σ 40) 0) (TL.length : Int)) 91 0 (TL.length : Int)) 64 t).toNat ((ai_set (WS σ (lay TL (σ 40) 0) (TL.length : Int)) 91 0 (TL.length : Int)) 61) ((ai_set (WS σ (lay TL (σ 40) 0) (TL.length : Int)) 91 0 (TL.length : Int)) 65) ((ai_set (WS σ (lay TL (σ 40) 0) (TL.length : Int)) 91 0 (TL.length : Int)) 66) t = TL from eL] at hrf
      refine ⟨0, _, _, _, wv_204 hcw ⟨by omega, by omega⟩, hrf, rfl, ⟨by decide, by decide⟩, ⟨by omega, by omega⟩, fun _ => rfl, ?_⟩
      exact ⟨⟨s1, s2, s3, s4, s5, s6, s7, s8, s9, s10, s11, s12⟩, ⟨⟨t1, t2, t3⟩, t4⟩, hL, n0, n1, n2, hX, hF, hD, hC, ⟨rfl, ⟨(show 0 ≤ (TL.length : Int) by omega), (show (TL.length : Int) ≤ 1149 by omega)⟩, (show lay TL (σ 90) 0 = lay TL (σ 40) 0 by rw [w3]), lay_rng hokL w4⟩⟩
  · have hg' : ¬ (0 ≤ t ∧ t < σ 59 1) := by omega
    exact ⟨1, _, _, _, wx_204_3 (cl_write_3 hk s2 hg), rf_write_1 hk z1 hg', rfl, ⟨by decide, by decide⟩, ⟨by decide, by decide⟩, fun h => absurd h (by decide), rel_code hR⟩
theorem st_write {sc : Int × (Int → Int)} {σ : ai_S} {Q : ai_O → Prop} {a b : Nat} {v4 : Int} (hab : a + 1 ≤ 601024 ∧ b + 6 ≤ 7293034) (hv : 0 ≤ v4 ∧ v4 ≤ sc.1 - 5) (hs : ∀ j, -2147483648 ≤ sc.2 j ∧ sc.2 j ≤ 2147483647) (hR : Rel σ) (K : Nxt sc Q v4 a b) : ai_wp sc 206 602 (lwL v4 none none none) [] (a, b) (92, [], σ) Q := by
  obtain ⟨k, x, σ1, σ2, hw, hm, hk, hkr, hx, ho, hR2⟩ := tn_write (sc := sc) hR (hs (v4 + 1))
  exact ar_write hab hv hs hw hm hk hkr hx ho (K _ _ _ (Nat.le_refl _) (Nat.le_refl _) hR2)
