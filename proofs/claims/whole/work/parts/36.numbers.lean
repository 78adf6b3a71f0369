/-! READ: integers and decimals, class and reference. -/
/-- both read the same at p: whether, up to where, what -/
def rdC (sc : Int × (Int → Int)) (n : Int) (tx : Int → Int) (m : Nat) (args : ai_L) (p ok p' v : Int) : Prop := ∀ (σ : ai_S) (y : Int), cT σ n tx → ∃ x, fn sc m args (RD σ p 0 y) (some (.inl ok)) (RD σ p' x y) ∧ (ok = 1 → x = v)
/-- booleans stay booleans -/
def gb (G G' : Int → Int) : Prop := (∀ j, 0 ≤ G j ∧ G j ≤ 1) → ∀ j, 0 ≤ G' j ∧ G' j ≤ 1
theorem gb_id {G : Int → Int} : gb G G := fun h => h
theorem gb0 {G : Int → Int} {k : Int} : gb G (fun j => if j = k then 0 else G j) := by
  intro h j
  show 0 ≤ (if j = k then 0 else G j) ∧ (if j = k then 0 else G j) ≤ 1
  split
  · exact ⟨by decide, by decide⟩
  · exact h j
theorem gb1 {G : Int → Int} {k : Int} : gb G (fun j => if j = k then 1 else G j) := by
  intro h j
  show 0 ≤ (if j = k then 1 else G j) ∧ (if j = k then 1 else G j) ≤ 1
  split
  · exact ⟨by decide, by decide⟩
  · exact h j
def rdR (sc : Int × (Int → Int)) (n : Int) (tx : Int → Int) (m : Nat) (args : Int → ai_L) (p ok p' v : Int) : Prop := ∀ (σ : ai_S) (F G : Int → Int) (k : Int), rT σ n tx → 0 ≤ k ∧ k < 120 → ∃ F' G', fn sc m (args k) (RP σ p F G) (some (.inl ok)) (RP σ p' F' G') ∧ (ok = 1 → F' = (fun j => if j = k then v else F j) ∧ G' = (fun j => if j = k then 0 else G j)) ∧ gb G G'
theorem rf_put {sc : Int × (Int → Int)} {σ : ai_S} {p k v b : Int} {F G : Int → Int} (hk : 0 ≤ k ∧ k < 120) (hb : 0 ≤ b ∧ b ≤ 1) : fn sc 139 [some (.inr (.inr 59)), some (.inl k), some (.inr (.inl v)), none, some (.inl b)] (RP σ p F G) none (RP σ p (fun j => if j = k then v else F j) (fun j => if j = k then b else G j)) := by
  intro Q hQ
  refine rb_139_0 ⟨hk, hk, hb, ?_⟩
  rw [rpq2]
  exact hQ
theorem rd_int {sc : Int × (Int → Int)} {n : Int} {tx : Int → Int} {p : Int} (hT : TX n tx) (hp : 0 ≤ p ∧ p ≤ n) : ∃ ok p' v, (ok = 0 ∨ ok = 1) ∧ (p ≤ p' ∧ p' ≤ n) ∧ (ok = 1 → -1000000000 < v ∧ v < 1000000000) ∧ rdC sc n tx 79 [some (.inr (.inr 34)), none] p ok p' v ∧ rdR sc n tx 141 (fun k => [some (.inr (.inr 59)), some (.inl k), some (.inl 0), none, none, none, none, none, none]) p ok p' v := by
  have hn := hT.1
  have ha := ac_01 n tx p 45
  have hal := ac_le (tx := tx) (c := 45) hp.2
  generalize em : ac n tx p 45 = m at ha hal
  have hd1 := dgt_1 n tx 9 (p + m) 0
  have hd2 := dgt_2 n tx 9 (p + m) 0 1 (Int.le_refl 0) (by decide)
  have hb9 : (1 : Int) * bd 9 = 1000000000 := rfl
  rw [hb9] at hd2
  have hp1 : 0 ≤ p + m ∧ p + m ≤ n := by omega
  have hcl : ∀ σ y, cT σ n tx → fn sc 86 [some (.inr (.inr 34)), some (.inl 45)] (RD σ p 0 y) (some (.inl m)) (RD σ (p + m) 0 y) := fun σ y hσ => by
    have := cf_accept (sc := sc) (x := 0) (y := y) (c := 45) hT hσ hp (by decide)
    rw [em] at this
    exact this
  have hrf : ∀ σ F G, rT σ n tx → fn sc 136 [some (.inr (.inr 59)), some (.inl 45)] (RP σ p F G) (some (.inl m)) (RP σ (p + m) F G) := fun σ F G hσ => by
    have := rf_skips (sc := sc) (F := F) (G := G) (c := 45) hT hσ hp (by decide)
    rw [em] at this
    exact this
  by_cases h0 : (dgt n tx 9 (p + m) 0).1 = 0
  · refine ⟨0, p + m + (dgt n tx 9 (p + m) 0).1, 0, Or.inl rfl, ⟨by omega, by omega⟩, fun h => absurd h (by decide), fun σ y hσ => ⟨_, fun Q hQ => rb_79_0 (fn_ret (hcl σ y hσ) (rb_79_3 (fn_ret (cf_digits hT hσ hp1 9 rfl (by decide)) (rb_79_7 ⟨⟨by omega, by omega⟩, fun q => absurd h0 q, fun _ => ⟨⟨by decide, by decide⟩, hQ⟩⟩)))), fun h => absurd h (by decide)⟩, fun σ F G k hσ hk => ⟨F, G, fun Q hQ => rb_141_0 (fn_ret (hrf σ F G hσ) (rb_141_3 ⟨⟨by decide, by decide⟩, fun _ => fn_ret (rf_digits hT hσ hp1 9 rfl (by decide)) ?_, fun q => absurd rfl q⟩)), fun h => absurd h (by decide), gb_id⟩⟩
    rw [if_pos h0]
    exact rb_141_11 ⟨⟨⟨by decide, by decide⟩, ⟨by decide, by decide⟩⟩, cmp_r _ _, fun q => absurd (cmp_ge.mp q) (by decide), fun _ => ⟨⟨by decide, by decide⟩, hQ⟩⟩
  · refine ⟨1, p + m + (dgt n tx 9 (p + m) 0).1, if m = 0 then (dgt n tx 9 (p + m) 0).2 else -(dgt n tx 9 (p + m) 0).2, Or.inr rfl, ⟨by omega, by omega⟩, fun _ => by split <;> omega, fun σ y hσ => ⟨if m = 0 then (dgt n tx 9 (p + m) 0).2 else -(dgt n tx 9 (p + m) 0).2, fun Q hQ => rb_79_0 (fn_ret (hcl σ y hσ) (rb_79_3 (fn_ret (cf_digits hT hσ hp1 9 rfl (by decide)) (rb_79_7 ⟨⟨by omega, by omega⟩, fun _ => ⟨⟨by omega, by omega⟩, fun q => ⟨⟨by decide, by decide⟩, ?_⟩, fun q => ⟨⟨by decide, by decide⟩, ?_⟩⟩, fun q => absurd h0 q⟩)))), fun _ => rfl⟩, fun σ F G k hσ hk => ⟨_, _, fun Q hQ => rb_141_0 (fn_ret (hrf σ F G hσ) (rb_141_3 ⟨⟨by decide, by decide⟩, fun _ => fn_ret (rf_digits hT hσ hp1 9 rfl (by decide)) ?_, fun q => absurd rfl q⟩)), fun _ => ⟨rfl, rfl⟩, gb0⟩⟩
    · rw [if_pos q] at hQ
      show Q (.inl (some (.inl 1)), (92, [], ai_set (RD σ _ _ y) 34 3 (dgt n tx 9 (p + m) 0).2))
      rw [rd3]
      exact hQ
    · rw [if_neg q] at hQ
      show Q (.inl (some (.inl 1)), (92, [], ai_set (RD σ _ _ y) 34 3 (-(dgt n tx 9 (p + m) 0).2)))
      rw [rd3]
      exact hQ
    · rw [if_neg h0]
      refine rb_141_11 ⟨⟨⟨by omega, by omega⟩, ⟨by decide, by decide⟩⟩, cmp_r _ _, fun _ => ⟨⟨by decide, by decide⟩, fun _ => ⟨⟨by omega, by omega⟩, fun q => fn_ret (rf_put hk (by decide)) (rb_141_65 ⟨⟨by decide, by decide⟩, ?_⟩), fun q => fn_ret (rf_put hk (by decide)) (rb_141_65 ⟨⟨by decide, by decide⟩, ?_⟩)⟩, fun q => absurd rfl q⟩, fun q => absurd (cmp_ge.mpr hd2.1) q⟩
      · rw [if_pos q] at hQ
        exact hQ
      · rw [if_neg q] at hQ
        exact hQ
theorem dgt_cnt (n : Int) (tx : Int → Int) : ∀ (k : Nat) (p v w : Int), (dgt n tx k p v).1 = (dgt n tx k p w).1 := by
  intro k
  induction k with
  | zero => exact fun _ _ _ => rfl
  | succ k ih =>
    intro p v w
    unfold dgt
    split
    · show (dgt n tx k (p + 1) (v * 10 + (tx p - 48))).1 + 1 = (dgt n tx k (p + 1) (w * 10 + (tx p - 48))).1 + 1
      rw [ih (p + 1) (v * 10 + (tx p - 48)) (w * 10 + (tx p - 48))]
    · rfl
theorem dgt_two (n : Int) (tx : Int → Int) (p v : Int) : ((dgt n tx 2 p 0).1 = 0 → (dgt n tx 2 p v).2 = v) ∧ ((dgt n tx 2 p 0).1 = 1 → (dgt n tx 2 p v).2 = v * 10 + (dgt n tx 2 p 0).2) ∧ ((dgt n tx 2 p 0).1 = 2 → (dgt n tx 2 p v).2 = v * 100 + (dgt n tx 2 p 0).2) := by
  unfold dgt
  by_cases h1 : p < n ∧ 48 ≤ tx p ∧ tx p ≤ 57
  · simp only [if_pos h1]
    unfold dgt
    by_cases h2 : p + 1 < n ∧ 48 ≤ tx (p + 1) ∧ tx (p + 1) ≤ 57
    · simp only [if_pos h2]
      unfold dgt
      refine ⟨fun h => ?_, fun h => ?_, fun _ => ?_⟩ <;> omega
    · simp only [if_neg h2]
      refine ⟨fun h => ?_, fun _ => ?_, fun h => ?_⟩ <;> omega
  · simp only [if_neg h1]
    refine ⟨fun _ => ?_, fun h => ?_, fun h => ?_⟩ <;> omega
theorem cf_times {sc : Int × (Int → Int)} {σ : ai_S} {Q : ai_O → Prop} {p y m : Int} (hm : m = 0 ∨ m = 1) : ∀ (i : Int) (w : Int) (x : Option ai_V), (i = 0 ∨ i = 1 ∨ i = 2) → (∀ z, z = (if i = 0 then w * 100 else if i = 1 then w * 10 else w) → Q (.inl (some (.inl 1)), (92, [], RD σ p (if m = 0 then z else -z) y))) → ai_wp sc 80 26 [some (.inr (.inr 34)), some (.inl m), x, some (.inl i)] [] (0, 0) (92, [], RD σ p w y) Q := by
  have h2 : ∀ (w : Int) (x : Option ai_V), Q (.inl (some (.inl 1)), (92, [], RD σ p (if m = 0 then w else -w) y)) → ai_wp sc 80 26 [some (.inr (.inr 34)), some (.inl m), x, some (.inl 2)] [] (0, 0) (92, [], RD σ p w y) Q := by
    intro w x hQ
    refine rh_80_26 ⟨⟨⟨by decide, by decide⟩, ⟨by decide, by decide⟩⟩, fun _ => ⟨⟨by omega, by omega⟩, fun q => ⟨⟨by decide, by decide⟩, ?_⟩, fun q => ⟨⟨by decide, by decide⟩, ?_⟩⟩, fun q => absurd (by decide) q⟩
    · rw [if_pos q] at hQ
      show Q (.inl (some (.inl 1)), (92, [], ai_set (RD σ p w y) 34 3 w))
      rw [rd3]
      exact hQ
    · rw [if_neg q] at hQ
      show Q (.inl (some (.inl 1)), (92, [], ai_set (RD σ p w y) 34 3 (-w)))
      rw [rd3]
      exact hQ
  have h1 : ∀ (w : Int) (x : Option ai_V), Q (.inl (some (.inl 1)), (92, [], RD σ p (if m = 0 then w * 10 else -(w * 10)) y)) → ai_wp sc 80 26 [some (.inr (.inr 34)), some (.inl m), x, some (.inl 1)] [] (0, 0) (92, [], RD σ p w y) Q := by
    intro w x hQ
    refine rh_80_26 ⟨⟨⟨by decide, by decide⟩, ⟨by decide, by decide⟩⟩, fun q => absurd q (by decide), fun _ => ?_⟩
    show ai_wp sc 80 26 _ [] (0, 0) (92, [], ai_set (RD σ p w y) 34 3 (w * 10)) Q
    rw [rd3]
    exact h2 (w * 10) none hQ
  intro i w x hi hQ
  rcases hi with rfl | rfl | rfl
  · refine rh_80_26 ⟨⟨⟨by decide, by decide⟩, ⟨by decide, by decide⟩⟩, fun q => absurd q (by decide), fun _ => ?_⟩
    show ai_wp sc 80 26 _ [] (0, 0) (92, [], ai_set (RD σ p w y) 34 3 (w * 10)) Q
    rw [rd3]
    exact h1 (w * 10) none (hQ (w * 10 * 10) (by rw [if_pos rfl]; omega))
  · exact h1 w x (hQ (w * 10) (by rw [if_neg (by decide), if_pos rfl]))
  · exact h2 w x (hQ w (by rw [if_neg (by decide), if_neg (by decide)]))
theorem rd_dec {sc : Int × (Int → Int)} {n : Int} {tx : Int → Int} {p : Int} (hT : TX n tx) (hp : 0 ≤ p ∧ p ≤ n) : ∃ ok p' v, (ok = 0 ∨ ok = 1) ∧ (p ≤ p' ∧ p' ≤ n) ∧ (ok = 1 → -100000000 < v ∧ v < 100000000) ∧ rdC sc n tx 80 [some (.inr (.inr 34)), none, none, none] p ok p' v ∧ rdR sc n tx 141 (fun k => [some (.inr (.inr 59)), some (.inl k), some (.inl 1), none, none, none, none, none, none]) p ok p' v := by
  have hn := hT.1
  have ha := ac_01 n tx p 45
  have hal := ac_le (tx := tx) (c := 45) hp.2
  generalize em : ac n tx p 45 = m at ha hal
  have hd1 := dgt_1 n tx 6 (p + m) 0
  have hd2 := dgt_2 n tx 6 (p + m) 0 1 (Int.le_refl 0) (by decide)
  have hb9 : (1 : Int) * bd 6 = 1000000 := rfl
  rw [hb9] at hd2
  have hp1 : 0 ≤ p + m ∧ p + m ≤ n := by omega
  have hcl : ∀ σ y, cT σ n tx → fn sc 86 [some (.inr (.inr 34)), some (.inl 45)] (RD σ p 0 y) (some (.inl m)) (RD σ (p + m) 0 y) := fun σ y hσ => by
    have := cf_accept (sc := sc) (x := 0) (y := y) (c := 45) hT hσ hp (by decide)
    rw [em] at this
    exact this
  have hrf : ∀ σ F G, rT σ n tx → fn sc 136 [some (.inr (.inr 59)), some (.inl 45)] (RP σ p F G) (some (.inl m)) (RP σ (p + m) F G) := fun σ F G hσ => by
    have := rf_skips (sc := sc) (F := F) (G := G) (c := 45) hT hσ hp (by decide)
    rw [em] at this
    exact this
  by_cases h0 : (dgt n tx 6 (p + m) 0).1 = 0
  · refine ⟨0, p + m + (dgt n tx 6 (p + m) 0).1, 0, Or.inl rfl, ⟨by omega, by omega⟩, fun h => absurd h (by decide), fun σ y hσ => ⟨_, fun Q hQ => rb_80_0 (fn_ret (hcl σ y hσ) (rb_80_3 (fn_ret (cf_digits hT hσ hp1 6 rfl (by decide)) (rb_80_7 ⟨⟨by omega, by omega⟩, fun q => absurd h0 q, fun _ => ⟨⟨by decide, by decide⟩, hQ⟩⟩)))), fun h => absurd h (by decide)⟩, fun σ F G k hσ hk => ⟨F, G, fun Q hQ => rb_141_0 (fn_ret (hrf σ F G hσ) (rb_141_3 ⟨⟨by decide, by decide⟩, fun q => absurd q (by decide), fun _ => fn_ret (rf_digits hT hσ hp1 6 rfl (by decide)) ?_⟩)), fun h => absurd h (by decide), gb_id⟩⟩
    rw [if_pos h0]
    exact rb_141_11 ⟨⟨⟨by decide, by decide⟩, ⟨by decide, by decide⟩⟩, cmp_r _ _, fun q => absurd (cmp_ge.mp q) (by decide), fun _ => ⟨⟨by decide, by decide⟩, hQ⟩⟩
  generalize eD : dgt n tx 6 (p + m) 0 = D at h0 hd1 hd2
  have hp2 : 0 ≤ p + m + D.1 ∧ p + m + D.1 ≤ n := by omega
  have hdc : ∀ σ y, cT σ n tx → fn sc 81 [some (.inr (.inr 34)), some (.inl 6), none] (RD σ (p + m) 0 y) (some (.inl D.1)) (RD σ (p + m + D.1) D.2 y) := fun σ y hσ => by
    have := cf_digits (sc := sc) (x := 0) (y := y) hT hσ hp1 6 rfl (by decide)
    rw [eD] at this
    exact this
  have hdr : ∀ σ F G, rT σ n tx → fn sc 140 [some (.inr (.inr 59)), some (.inl 6), none, none, none] (RP σ (p + m) F G) (some (.inr (.inl D.2))) (RP σ (p + m + D.1) F G) := fun σ F G hσ => by
    have := rf_digits (sc := sc) (F := F) (G := G) hT hσ hp1 6 rfl (by decide)
    rw [eD, if_neg h0] at this
    exact this
  have hb := ac_01 n tx (p + m + D.1) 46
  have hbl := ac_le (tx := tx) (c := 46) hp2.2
  have hcl2 : ∀ σ y x, cT σ n tx → fn sc 86 [some (.inr (.inr 34)), some (.inl 46)] (RD σ (p + m + D.1) x y) (some (.inl (ac n tx (p + m + D.1) 46))) (RD σ (p + m + D.1 + ac n tx (p + m + D.1) 46) x y) := fun σ y x hσ => cf_accept hT hσ hp2 (by decide)
  have hrf2 : ∀ σ F G, rT σ n tx → fn sc 136 [some (.inr (.inr 59)), some (.inl 46)] (RP σ (p + m + D.1) F G) (some (.inl (ac n tx (p + m + D.1) 46))) (RP σ (p + m + D.1 + ac n tx (p + m + D.1) 46) F G) := fun σ F G hσ => rf_skips hT hσ hp2 (by decide)
  generalize ac n tx (p + m + D.1) 46 = a at hb hbl hcl2 hrf2
  rcases hb with rfl | rfl
  · -- no point
    refine ⟨1, p + m + D.1 + 0, if m = 0 then D.2 * 100 else -(D.2 * 100), Or.inr rfl, ⟨by omega, by omega⟩, fun _ => by split <;> omega, fun σ y hσ => ⟨if m = 0 then D.2 * 100 else -(D.2 * 100), fun Q hQ => rb_80_0 (fn_ret (hcl σ y hσ) (rb_80_3 (fn_ret (hdc σ y hσ) (rb_80_7 ⟨⟨by omega, by omega⟩, fun _ => fn_ret (hcl2 σ y D.2 hσ) (rb_80_15 ⟨⟨by decide, by decide⟩, fun _ => cf_times ha 0 D.2 _ (Or.inl rfl) (fun z hz => ?_), fun q => absurd rfl q⟩), fun q => absurd h0 q⟩)))), fun _ => rfl⟩, fun σ F G k hσ hk => ⟨_, _, fun Q hQ => rb_141_0 (fn_ret (hrf σ F G hσ) (rb_141_3 ⟨⟨by decide, by decide⟩, fun q => absurd q (by decide), fun _ => fn_ret (hdr σ F G hσ) (rb_141_11 ⟨⟨⟨by omega, by omega⟩, ⟨by decide, by decide⟩⟩, cmp_r _ _, fun _ => ⟨⟨by decide, by decide⟩, fun q => absurd q (by decide), fun _ => fn_ret (hrf2 σ F G hσ) (rb_141_27 ⟨⟨by decide, by decide⟩, fun _ => ⟨⟨by omega, by omega⟩, fun q => fn_ret (rf_put hk (by decide)) (rb_141_65 ⟨⟨by decide, by decide⟩, ?_⟩), fun q => fn_ret (rf_put hk (by decide)) (rb_141_65 ⟨⟨by decide, by decide⟩, ?_⟩)⟩, fun q => absurd rfl q⟩)⟩, fun q => absurd (cmp_ge.mpr hd2.1) q⟩)⟩)), fun _ => ⟨rfl, rfl⟩, gb0⟩⟩
    · rw [if_pos rfl] at hz
      subst hz
      exact hQ
    · rw [if_pos q] at hQ
      exact hQ
    · rw [if_neg q] at hQ
      exact hQ
  · -- a point
    have hp3 : 0 ≤ p + m + D.1 + 1 ∧ p + m + D.1 + 1 ≤ n := by omega
    have hc := dgt_cnt n tx 2 (p + m + D.1 + 1) D.2 0
    have ht := dgt_two n tx (p + m + D.1 + 1) D.2
    have he1 := dgt_1 n tx 2 (p + m + D.1 + 1) 0
    have he2 := dgt_2 n tx 2 (p + m + D.1 + 1) 0 1 (Int.le_refl 0) (by decide)
    have hb2 : (1 : Int) * bd 2 = 100 := rfl
    rw [hb2] at he2
    have he3 := dgt_2 n tx 1 (p + m + D.1 + 1) 0 1 (Int.le_refl 0) (by decide)
    have hdc2 : ∀ σ y, cT σ n tx → fn sc 81 [some (.inr (.inr 34)), some (.inl 2), none] (RD σ (p + m + D.1 + 1) D.2 y) (some (.inl (dgt n tx 2 (p + m + D.1 + 1) 0).1)) (RD σ (p + m + D.1 + 1 + (dgt n tx 2 (p + m + D.1 + 1) 0).1) (dgt n tx 2 (p + m + D.1 + 1) D.2).2 y) := fun σ y hσ => by
      have := cf_digits (sc := sc) (x := D.2) (y := y) hT hσ hp3 2 rfl (by decide)
      rw [hc] at this
      exact this
    have hdr2 : ∀ σ F G, rT σ n tx → fn sc 140 [some (.inr (.inr 59)), some (.inl 2), none, none, none] (RP σ (p + m + D.1 + 1) F G) (some (.inr (.inl (if (dgt n tx 2 (p + m + D.1 + 1) 0).1 = 0 then -1 else (dgt n tx 2 (p + m + D.1 + 1) 0).2)))) (RP σ (p + m + D.1 + 1 + (dgt n tx 2 (p + m + D.1 + 1) 0).1) F G) := fun σ F G hσ => rf_digits hT hσ hp3 2 rfl (by decide)
    have h10 : (dgt n tx 2 (p + m + D.1 + 1) 0).1 = 1 → (dgt n tx 2 (p + m + D.1 + 1) 0).2 < 10 := by
      intro h
      have t0 := hT.2 (p + m + D.1 + 1)
      unfold dgt at h ⊢
      split
      · rename_i g
        rw [if_pos g] at h
        unfold dgt at h ⊢
        split
        · rename_i g2
          rw [if_pos g2] at h
          have h3 : (dgt n tx 0 (p + m + D.1 + 1 + 1 + 1) ((0 * 10 + (tx (p + m + D.1 + 1) - 48)) * 10 + (tx (p + m + D.1 + 1 + 1) - 48))).1 + 1 + 1 = 1 := h
          have h4 : (0 : Int) + 1 + 1 = 1 := h3
          exact absurd h4 (by decide)
        · show 0 * 10 + (tx (p + m + D.1 + 1) - 48) < 10
          omega
      · rename_i g
        rw [if_neg g] at h
        exact absurd h (by decide)
    generalize dgt n tx 2 (p + m + D.1 + 1) D.2 = E' at hc ht hdc2
    generalize dgt n tx 2 (p + m + D.1 + 1) 0 = E at hc ht he1 he2 hdc2 hdr2 h10
    have hcnt : E.1 = 0 ∨ E.1 = 1 ∨ E.1 = 2 := by omega
    by_cases hE : E.1 = 0
    · refine ⟨0, p + m + D.1 + 1 + E.1, 0, Or.inl rfl, ⟨by omega, by omega⟩, fun h => absurd h (by decide), fun σ y hσ => ⟨_, fun Q hQ => rb_80_0 (fn_ret (hcl σ y hσ) (rb_80_3 (fn_ret (hdc σ y hσ) (rb_80_7 ⟨⟨by omega, by omega⟩, fun _ => fn_ret (hcl2 σ y D.2 hσ) (rb_80_15 ⟨⟨by decide, by decide⟩, fun q => absurd q (by decide), fun _ => fn_ret (hdc2 σ y hσ) (rb_80_19 ⟨⟨by omega, by omega⟩, fun q => absurd hE q, fun _ => ⟨⟨by decide, by decide⟩, hQ⟩⟩)⟩), fun q => absurd h0 q⟩)))), fun h => absurd h (by decide)⟩, fun σ F G k hσ hk => ⟨F, G, fun Q hQ => rb_141_0 (fn_ret (hrf σ F G hσ) (rb_141_3 ⟨⟨by decide, by decide⟩, fun q => absurd q (by decide), fun _ => fn_ret (hdr σ F G hσ) (rb_141_11 ⟨⟨⟨by omega, by omega⟩, ⟨by decide, by decide⟩⟩, cmp_r _ _, fun _ => ⟨⟨by decide, by decide⟩, fun q => absurd q (by decide), fun _ => fn_ret (hrf2 σ F G hσ) (rb_141_27 ⟨⟨by decide, by decide⟩, fun q => absurd q (by decide), fun _ => fn_ret (hdr2 σ F G hσ) ?_⟩)⟩, fun q => absurd (cmp_ge.mpr hd2.1) q⟩)⟩)), fun h => absurd h (by decide), gb_id⟩⟩
      rw [if_pos hE]
      exact rb_141_34 ⟨⟨⟨by decide, by decide⟩, ⟨by decide, by decide⟩⟩, cmp_r _ _, fun q => absurd (cmp_ge.mp q) (by decide), fun _ => ⟨⟨by decide, by decide⟩, hQ⟩⟩
    · refine ⟨1, p + m + D.1 + 1 + E.1, if m = 0 then (if E.1 = 1 then D.2 * 100 + 10 * E.2 else D.2 * 100 + E.2) else -(if E.1 = 1 then D.2 * 100 + 10 * E.2 else D.2 * 100 + E.2), Or.inr rfl, ⟨by omega, by omega⟩, fun _ => ?_, fun σ y hσ => ⟨if m = 0 then (if E.1 = 1 then D.2 * 100 + 10 * E.2 else D.2 * 100 + E.2) else -(if E.1 = 1 then D.2 * 100 + 10 * E.2 else D.2 * 100 + E.2), fun Q hQ => rb_80_0 (fn_ret (hcl σ y hσ) (rb_80_3 (fn_ret (hdc σ y hσ) (rb_80_7 ⟨⟨by omega, by omega⟩, fun _ => fn_ret (hcl2 σ y D.2 hσ) (rb_80_15 ⟨⟨by decide, by decide⟩, fun q => absurd q (by decide), fun _ => fn_ret (hdc2 σ y hσ) (rb_80_19 ⟨⟨by omega, by omega⟩, fun _ => cf_times ha E.1 E'.2 _ hcnt (fun z hz => ?_), fun q => absurd hE q⟩)⟩), fun q => absurd h0 q⟩)))), fun _ => rfl⟩, fun σ F G k hσ hk => ⟨_, _, fun Q hQ => rb_141_0 (fn_ret (hrf σ F G hσ) (rb_141_3 ⟨⟨by decide, by decide⟩, fun q => absurd q (by decide), fun _ => fn_ret (hdr σ F G hσ) (rb_141_11 ⟨⟨⟨by omega, by omega⟩, ⟨by decide, by decide⟩⟩, cmp_r _ _, fun _ => ⟨⟨by decide, by decide⟩, fun q => absurd q (by decide), fun _ => fn_ret (hrf2 σ F G hσ) (rb_141_27 ⟨⟨by decide, by decide⟩, fun q => absurd q (by decide), fun _ => fn_ret (hdr2 σ F G hσ) ?_⟩)⟩, fun q => absurd (cmp_ge.mpr hd2.1) q⟩)⟩)), fun _ => ⟨rfl, rfl⟩, gb0⟩⟩
      · by_cases h1 : E.1 = 1
        · have := h10 h1
          rw [if_pos h1]
          split <;> omega
        · rw [if_neg h1]
          split <;> omega
      · have ez : z = (if E.1 = 1 then D.2 * 100 + 10 * E.2 else D.2 * 100 + E.2) := by
          rw [if_neg hE] at hz
          by_cases h1 : E.1 = 1
          · rw [if_pos h1] at hz ⊢
            have := ht.2.1 h1
            omega
          · rw [if_neg h1] at hz ⊢
            have := ht.2.2 (by omega)
            omega
        rw [ez]
        exact hQ
      · rw [if_neg hE]
        have hat : ∀ σ' : ai_S, (RP σ' (p + m + D.1 + 1 + E.1) F G) 59 17 - (RP σ' (p + m + D.1 + 1) F G) 59 17 = E.1 := fun σ' => by
          show p + m + D.1 + 1 + E.1 - (p + m + D.1 + 1) = E.1
          omega
        refine rb_141_34 ⟨⟨⟨by omega, by omega⟩, ⟨by decide, by decide⟩⟩, cmp_r _ _, fun _ => ?_, fun q => absurd (cmp_ge.mpr he2.1) q⟩
        rw [hat σ]
        refine ⟨⟨⟨by omega, by omega⟩, ⟨by decide, by decide⟩⟩, fun h1 => ⟨⟨by omega, by omega⟩, fun q => fn_ret (rf_put hk (by decide)) (rh_141_65 ⟨⟨by decide, by decide⟩, ?_⟩), fun q => fn_ret (rf_put hk (by decide)) (rh_141_65 ⟨⟨by decide, by decide⟩, ?_⟩)⟩, fun h1 => ⟨⟨by omega, by omega⟩, fun q => fn_ret (rf_put hk (by decide)) (rh_141_65 ⟨⟨by decide, by decide⟩, ?_⟩), fun q => fn_ret (rf_put hk (by decide)) (rh_141_65 ⟨⟨by decide, by decide⟩, ?_⟩)⟩⟩
        · rw [if_pos q, if_neg h1] at hQ
          exact hQ
        · rw [if_neg q, if_neg h1] at hQ
          exact hQ
        · rw [if_pos q, if_pos (Decidable.not_not.mp h1)] at hQ
          exact hQ
        · rw [if_neg q, if_pos (Decidable.not_not.mp h1)] at hQ
          exact hQ
