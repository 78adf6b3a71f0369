/-! READ: characters and digits, class and reference. -/
def RD (σ : ai_S) (p x y : Int) : ai_S := ai_set (ai_set (ai_set σ 34 1 p) 34 3 x) 34 4 y
theorem rd1 {σ : ai_S} {p x y q : Int} : ai_set (RD σ p x y) 34 1 q = RD σ q x y := by
  unfold RD
  rw [set_comm (i := 4) (j := 1) (by decide), set_comm (i := 3) (j := 1) (by decide), set_set]
theorem rd3 {σ : ai_S} {p x y q : Int} : ai_set (RD σ p x y) 34 3 q = RD σ p q y := by
  unfold RD
  rw [set_comm (i := 4) (j := 3) (by decide), set_set]
theorem rd4 {σ : ai_S} {p x y q : Int} : ai_set (RD σ p x y) 34 4 q = RD σ p x q := by
  unfold RD
  rw [set_set]
def RP (σ : ai_S) (p : Int) (F G : Int → Int) : ai_S := up (up (ai_set σ 59 17 p) 82 F) 83 G
theorem rpq1 {σ : ai_S} {p q : Int} {F G : Int → Int} : ai_set (RP σ p F G) 59 17 q = RP σ q F G := by
  unfold RP
  rw [up_c (p := 83) (q := 59) (by decide), up_c (p := 82) (q := 59) (by decide), set_set]
theorem rpq2 {σ : ai_S} {p k v b : Int} {F G : Int → Int} : ai_set (ai_set (RP σ p F G) 82 k v) 83 k b = RP σ p (fun j => if j = k then v else F j) (fun j => if j = k then b else G j) := by
  unfold RP
  rw [up_c (p := 83) (q := 82) (by decide), up_s, up_s]
/-- one, if the character c stands at p -/
def ac (n : Int) (tx : Int → Int) (p c : Int) : Int := if p < n ∧ tx p = c then 1 else 0
theorem ac_01 (n : Int) (tx : Int → Int) (p c : Int) : ac n tx p c = 0 ∨ ac n tx p c = 1 := by
  unfold ac
  split <;> omega
theorem ac_le {n : Int} {tx : Int → Int} {p c : Int} (h : p ≤ n) : p ≤ p + ac n tx p c ∧ p + ac n tx p c ≤ n := by
  unfold ac
  split <;> omega
/-- the text that both read -/
def TX (n : Int) (tx : Int → Int) : Prop := (0 ≤ n ∧ n ≤ 120) ∧ ∀ j, 0 ≤ tx j ∧ tx j ≤ 65535
def cT (σ : ai_S) (n : Int) (tx : Int → Int) : Prop := σ 34 0 = n ∧ σ 35 = tx
def rT (σ : ai_S) (n : Int) (tx : Int → Int) : Prop := σ 59 15 = n ∧ σ 71 = tx
theorem cf_accept {sc : Int × (Int → Int)} {σ : ai_S} {n : Int} {tx : Int → Int} {p x y c : Int} (hT : TX n tx) (hσ : cT σ n tx) (hp : 0 ≤ p ∧ p ≤ n) (hc : 0 ≤ c ∧ c ≤ 65535) : fn sc 86 [some (.inr (.inr 34)), some (.inl c)] (RD σ p x y) (some (.inl (ac n tx p c))) (RD σ (p + ac n tx p c) x y) := by
  obtain ⟨e1, e2⟩ := hσ
  subst e1
  subst e2
  intro Q hQ
  have ht := hT.2 p
  have hn := hT.1
  unfold ac at hQ
  refine rb_86_0 ⟨⟨(show ai_r p from ⟨by omega, by omega⟩), (show ai_r (σ 34 0) from ⟨by omega, by omega⟩)⟩, fun h => ⟨⟨by decide, by decide⟩, ?_⟩, fun h => ⟨(show 0 ≤ p ∧ p < 120 from ⟨by omega, by have h2 : ¬ σ 34 0 ≤ p := h; omega⟩), ⟨(show ai_r (σ 35 p) from ⟨by omega, by omega⟩), ⟨by omega, by omega⟩⟩, fun h3 => ⟨⟨by decide, by decide⟩, ?_⟩, fun h3 => ⟨⟨by decide, by decide⟩, ?_⟩⟩⟩
  · have h2 : σ 34 0 ≤ p := h
    rw [if_neg (by omega), Int.add_zero] at hQ
    exact hQ
  · have h2 : ¬ σ 34 0 ≤ p := h
    have h4 : σ 35 p = c := h3
    rw [if_pos ⟨by omega, h4⟩] at hQ
    show Q (.inl (some (.inl 1)), (92, [], ai_set (RD σ p x y) 34 1 (p + 1)))
    rw [rd1]
    exact hQ
  · have h4 : ¬ σ 35 p = c := h3
    rw [if_neg (fun q => h4 q.2), Int.add_zero] at hQ
    exact hQ
theorem rf_peek {sc : Int × (Int → Int)} {σ : ai_S} {n : Int} {tx : Int → Int} {p : Int} {F G : Int → Int} (hT : TX n tx) (hσ : rT σ n tx) (hp : 0 ≤ p ∧ p ≤ n) : fn sc 135 [some (.inr (.inr 59))] (RP σ p F G) (some (.inl (if n ≤ p then 0 else tx p))) (RP σ p F G) := by
  obtain ⟨e1, e2⟩ := hσ
  subst e1
  subst e2
  intro Q hQ
  have ht := hT.2 p
  have hn := hT.1
  exact pc_135 ⟨⟨(show ai_r p from ⟨by omega, by omega⟩), (show ai_r (σ 59 15) from ⟨by omega, by omega⟩)⟩, fun h => (show 0 ≤ p ∧ p < 120 from ⟨by omega, by have h2 : ¬ σ 59 15 ≤ p := h; omega⟩)⟩ hQ
theorem rf_skips {sc : Int × (Int → Int)} {σ : ai_S} {n : Int} {tx : Int → Int} {p c : Int} {F G : Int → Int} (hT : TX n tx) (hσ : rT σ n tx) (hp : 0 ≤ p ∧ p ≤ n) (hc : 0 < c ∧ c ≤ 65535) : fn sc 136 [some (.inr (.inr 59)), some (.inl c)] (RP σ p F G) (some (.inl (ac n tx p c))) (RP σ (p + ac n tx p c) F G) := by
  have hpk := rf_peek (sc := sc) (F := F) (G := G) hT hσ hp
  obtain ⟨e1, e2⟩ := hσ
  subst e1
  subst e2
  intro Q hQ
  have ht := hT.2 p
  have hn := hT.1
  unfold ac at hQ
  refine rb_136_0 (fn_ret hpk ?_)
  have hr : ai_r (if σ 59 15 ≤ p then 0 else σ 71 p) := by
    split
    · exact ⟨by decide, by decide⟩
    · exact ⟨by omega, by omega⟩
  refine rb_136_2 ⟨⟨hr, ⟨by omega, by omega⟩⟩, fun h => ⟨⟨by decide, by decide⟩, ?_⟩, fun h => ⟨⟨(show ai_r p from ⟨by omega, by omega⟩), (show ai_r (σ 59 15) from ⟨by omega, by omega⟩)⟩, fun h3 => ⟨⟨by decide, by decide⟩, ?_⟩, fun h3 => ⟨⟨by decide, by decide⟩, ?_⟩⟩⟩
  · by_cases h2 : σ 59 15 ≤ p
    · rw [if_neg (by omega), Int.add_zero] at hQ
      exact hQ
    · rw [if_neg h2] at h
      rw [if_neg (fun q => h q.2), Int.add_zero] at hQ
      exact hQ
  · have h4 := Decidable.not_not.mp h
    have h5 : ¬ p = σ 59 15 := h3
    rw [if_neg (by omega)] at h4
    rw [if_pos ⟨by omega, h4⟩] at hQ
    show Q (.inl (some (.inl 1)), (92, [], ai_set (RP σ p F G) 59 17 (p + 1)))
    rw [rpq1]
    exact hQ
  · have h5 : p = σ 59 15 := Decidable.not_not.mp h3
    rw [if_neg (by omega), Int.add_zero] at hQ
    exact hQ
/-- how many digits, and the number that they make behind v -/
def dgt (n : Int) (tx : Int → Int) : Nat → Int → Int → Int × Int
  | 0, _, v => (0, v)
  | k + 1, p, v => if p < n ∧ 48 ≤ tx p ∧ tx p ≤ 57 then ((dgt n tx k (p + 1) (v * 10 + (tx p - 48))).1 + 1, (dgt n tx k (p + 1) (v * 10 + (tx p - 48))).2) else (0, v)
theorem dgt_1 (n : Int) (tx : Int → Int) : ∀ (k : Nat) (p v : Int), 0 ≤ (dgt n tx k p v).1 ∧ (dgt n tx k p v).1 ≤ (k : Int) ∧ (p ≤ n → p + (dgt n tx k p v).1 ≤ n) := by
  intro k
  induction k with
  | zero =>
    intro p v
    show 0 ≤ (0 : Int) ∧ (0 : Int) ≤ ((0 : Nat) : Int) ∧ (p ≤ n → p + 0 ≤ n)
    omega
  | succ k ih =>
    intro p v
    unfold dgt
    split
    · have := ih (p + 1) (v * 10 + (tx p - 48))
      show 0 ≤ (dgt n tx k (p + 1) (v * 10 + (tx p - 48))).1 + 1 ∧ (dgt n tx k (p + 1) (v * 10 + (tx p - 48))).1 + 1 ≤ ((k + 1 : Nat) : Int) ∧ (p ≤ n → p + ((dgt n tx k (p + 1) (v * 10 + (tx p - 48))).1 + 1) ≤ n)
      omega
    · show 0 ≤ (0 : Int) ∧ (0 : Int) ≤ ((k + 1 : Nat) : Int) ∧ (p ≤ n → p + 0 ≤ n)
      omega
theorem dgt_2 (n : Int) (tx : Int → Int) : ∀ (k : Nat) (p v b : Int), 0 ≤ v → v + 1 ≤ b → 0 ≤ (dgt n tx k p v).2 ∧ (dgt n tx k p v).2 + 1 ≤ b * bd k := by
  intro k
  induction k with
  | zero =>
    intro p v b h0 h1
    show 0 ≤ v ∧ v + 1 ≤ b * 1
    omega
  | succ k ih =>
    intro p v b h0 h1
    have e : 10 * b * bd k = b * (10 * bd k) := by
      rw [Int.mul_comm 10 b, Int.mul_assoc]
    unfold dgt
    split
    · have := ih (p + 1) (v * 10 + (tx p - 48)) (10 * b) (by omega) (by omega)
      rw [e] at this
      exact this
    · show 0 ≤ v ∧ v + 1 ≤ b * (10 * bd k)
      have hb : ∀ m : Nat, 1 ≤ bd m := by
        intro m
        induction m with
        | zero => exact Int.le_refl 1
        | succ m ihm =>
          show 1 ≤ 10 * bd m
          omega
      have h2 : b * 1 ≤ b * (10 * bd k) := Int.mul_le_mul_of_nonneg_left (by have := hb k; omega) (by omega)
      omega
theorem cf_digits {sc : Int × (Int → Int)} {σ : ai_S} {n : Int} {tx : Int → Int} {p x y most : Int} (hT : TX n tx) (hσ : cT σ n tx) (hp : 0 ≤ p ∧ p ≤ n) (k : Nat) (hk : most = (k : Int)) (hk9 : k ≤ 9) : fn sc 81 [some (.inr (.inr 34)), some (.inl most), none] (RD σ p x y) (some (.inl (dgt n tx k p x).1)) (RD σ (p + (dgt n tx k p x).1) (dgt n tx k p x).2 y) := by
  obtain ⟨e1, e2⟩ := hσ
  subst e1
  subst e2
  intro Q hQ
  have hn := hT.1
  have h : ∀ (m : Nat) (i q w : Int), 0 ≤ i → i + (m : Int) = most → 0 ≤ q ∧ q ≤ σ 34 0 → Q (.inl (some (.inl (i + (dgt (σ 34 0) (σ 35) m q w).1))), (92, [], RD σ (q + (dgt (σ 34 0) (σ 35) m q w).1) (dgt (σ 34 0) (σ 35) m q w).2 y)) → ai_wp sc 81 2 [some (.inr (.inr 34)), some (.inl most), some (.inl i)] [] (0, 0) (92, [], RD σ q w y) Q := by
    intro m
    induction m with
    | zero =>
      intro i q w hi hm hq hh
      have e : i = most := by omega
      subst e
      have h2 : Q (.inl (some (.inl (i + 0))), (92, [], RD σ (q + 0) w y)) := hh
      rw [Int.add_zero, Int.add_zero] at h2
      exact rb_81_2 ⟨⟨⟨by omega, by omega⟩, ⟨by omega, by omega⟩⟩, fun _ => h2, fun g => absurd (Int.le_refl i) g⟩
    | succ m ih =>
      intro i q w hi hm hq hh
      have ht := hT.2 q
      unfold dgt at hh
      have stop : ¬ (q < σ 34 0 ∧ 48 ≤ σ 35 q ∧ σ 35 q ≤ 57) → Q (.inl (some (.inl i)), (92, [], RD σ q w y)) := by
        intro g
        rw [if_neg g] at hh
        have h2 : Q (.inl (some (.inl (i + 0))), (92, [], RD σ (q + 0) w y)) := hh
        rw [Int.add_zero, Int.add_zero] at h2
        exact h2
      refine rb_81_2 ⟨⟨⟨by omega, by omega⟩, ⟨by omega, by omega⟩⟩, fun g => absurd g (by omega), fun _ => ⟨⟨(show ai_r q from ⟨by omega, by omega⟩), (show ai_r (σ 34 0) from ⟨by omega, by omega⟩)⟩, fun g => stop (fun z => by have g2 : σ 34 0 ≤ q := g; omega), fun g => ?_⟩⟩
      have g2 : ¬ σ 34 0 ≤ q := g
      refine ⟨(show 0 ≤ q ∧ q < 120 from ⟨by omega, by omega⟩), ⟨(show ai_r (σ 35 q) from ⟨by omega, by omega⟩), ⟨by decide, by decide⟩⟩, fun g3 => stop (fun z => by have g4 : σ 35 q < 48 := g3; omega), fun g3 => ⟨(show 0 ≤ q ∧ q < 120 from ⟨by omega, by omega⟩), ⟨(show ai_r (σ 35 q) from ⟨by omega, by omega⟩), ⟨by decide, by decide⟩⟩, fun g5 => ⟨(show 0 ≤ q ∧ q < 120 from ⟨by omega, by omega⟩), (show ai_r (σ 35 q - 48) from ⟨by omega, by omega⟩), ?_⟩, fun g5 => stop (fun z => by have g6 : ¬ σ 35 q ≤ 57 := g5; omega)⟩⟩
      have g4 : ¬ σ 35 q < 48 := g3
      have g6 : σ 35 q ≤ 57 := g5
      show ai_wp sc 81 2 _ [] (0, 0) (92, [], ai_set (ai_set (RD σ q w y) 34 3 (w * 10 + (σ 35 q - 48))) 34 1 (q + 1)) Q
      rw [rd3, rd1]
      refine ih (i + 1) (q + 1) _ (by omega) (by omega) (by omega) ?_
      rw [if_pos ⟨by omega, by omega, g6⟩] at hh
      rw [show i + 1 + (dgt (σ 34 0) (σ 35) m (q + 1) (w * 10 + (σ 35 q - 48))).1 = i + ((dgt (σ 34 0) (σ 35) m (q + 1) (w * 10 + (σ 35 q - 48))).1 + 1) by omega, show q + 1 + (dgt (σ 34 0) (σ 35) m (q + 1) (w * 10 + (σ 35 q - 48))).1 = q + ((dgt (σ 34 0) (σ 35) m (q + 1) (w * 10 + (σ 35 q - 48))).1 + 1) by omega]
      exact hh
  refine rb_81_0 (h k 0 p x (Int.le_refl 0) (by omega) hp ?_)
  rw [Int.zero_add]
  exact hQ
theorem rf_isDigit {sc : Int × (Int → Int)} {σ : ai_S} {n : Int} {tx : Int → Int} {p : Int} {F G : Int → Int} (hT : TX n tx) (hσ : rT σ n tx) (hp : 0 ≤ p ∧ p ≤ n) : fn sc 137 [some (.inr (.inr 59))] (RP σ p F G) (some (.inl (bi (p < n ∧ 48 ≤ tx p ∧ tx p ≤ 57)))) (RP σ p F G) := by
  have hpk := rf_peek (sc := sc) (F := F) (G := G) hT hσ hp
  intro Q hQ
  have ht := hT.2 p
  have hr : ai_r (if n ≤ p then 0 else tx p) := by
    split
    · exact ⟨by decide, by decide⟩
    · exact ⟨by omega, by omega⟩
  have hno : ¬ (p < n ∧ 48 ≤ tx p ∧ tx p ≤ 57) → Q (.inl (some (.inl 0)), (92, [], RP σ p F G)) := by
    intro g
    rw [bi_eq0.mpr g] at hQ
    exact hQ
  refine rb_137_0 (fn_ret hpk (rb_137_2 ⟨⟨hr, ⟨by decide, by decide⟩⟩, fun h => ⟨⟨by decide, by decide⟩, hno (fun g => ?_)⟩, fun h => fn_ret hpk (rb_137_6 ⟨⟨hr, ⟨by decide, by decide⟩⟩, fun h2 => ⟨⟨by decide, by decide⟩, hno (fun g => ?_)⟩, fun h2 => ⟨⟨by decide, by decide⟩, ?_⟩⟩)⟩))
  · rw [if_neg (by omega)] at h
    omega
  · rw [if_neg (by omega)] at h2
    omega
  · have g : p < n ∧ 48 ≤ tx p ∧ tx p ≤ 57 := by
      by_cases h3 : n ≤ p
      · rw [if_pos h3] at h
        omega
      · rw [if_neg h3] at h h2
        omega
    rw [bi_eq1.mpr g] at hQ
    exact hQ
theorem rf_digits {sc : Int × (Int → Int)} {σ : ai_S} {n : Int} {tx : Int → Int} {p most : Int} {F G : Int → Int} (hT : TX n tx) (hσ : rT σ n tx) (hp : 0 ≤ p ∧ p ≤ n) (k : Nat) (hk : most = (k : Int)) (hk9 : k ≤ 9) : fn sc 140 [some (.inr (.inr 59)), some (.inl most), none, none, none] (RP σ p F G) (some (.inr (.inl (if (dgt n tx k p 0).1 = 0 then -1 else (dgt n tx k p 0).2)))) (RP σ (p + (dgt n tx k p 0).1) F G) := by
  intro Q hQ
  have hn := hT.1
  have step : ∀ (i q w z : Int), 0 ≤ i → i < most → (0 ≤ q ∧ q ≤ n) → (q < n ∧ 48 ≤ tx q ∧ tx q ≤ 57) → (z = (if i = 0 then 0 else 10 * w) + tx q - 48) → ai_wp sc 140 4 [some (.inr (.inr 59)), some (.inl most), some (.inr (.inl z)), none, some (.inl (i + 1))] [] (0, 0) (92, [], RP σ (q + 1) F G) Q → ai_wp sc 140 4 [some (.inr (.inr 59)), some (.inl most), some (.inr (.inl w)), none, some (.inl i)] [] (0, 0) (92, [], RP σ q F G) Q := by
    intro i q w z hi him hq hg hz hh
    have ht := hT.2 q
    have hb := bi_eq1.mpr hg
    have hpk := rf_peek (sc := sc) (F := F) (G := G) hT hσ hq
    rw [if_neg (by omega)] at hpk
    have hid := rf_isDigit (sc := sc) (F := F) (G := G) hT hσ hq
    rw [hb] at hid
    have fin : ai_wp sc 140 4 [some (.inr (.inr 59)), some (.inl most), some (.inr (.inl z)), none, some (.inl (i + 1))] [] (0, 0) (92, [], ai_set (RP σ q F G) 59 17 (q + 1)) Q := by
      rw [rpq1]
      exact hh
    refine rb_140_4 ⟨⟨⟨by omega, by omega⟩, ⟨by omega, by omega⟩⟩, fun g => absurd g (by omega), fun _ => fn_ret hid (rb_140_9 ⟨⟨by decide, by decide⟩, fun g => absurd g (by decide), fun _ => ⟨⟨by omega, by omega⟩, fun g => fn_ret hpk (rb_140_19 ⟨⟨by omega, by omega⟩, ?_⟩), fun g => fn_ret hpk (rb_140_19 ⟨⟨by omega, by omega⟩, ?_⟩)⟩⟩)⟩
    · rw [if_neg g] at hz
      rw [← hz]
      exact fin
    · rw [if_pos (Decidable.not_not.mp g)] at hz
      rw [← hz]
      exact fin
  have stop : ∀ (i q w : Int), 0 ≤ i → i < most → (0 ≤ q ∧ q ≤ n) → ¬ (q < n ∧ 48 ≤ tx q ∧ tx q ≤ 57) → Q (.inl (some (.inr (.inl w))), (92, [], RP σ q F G)) → ai_wp sc 140 4 [some (.inr (.inr 59)), some (.inl most), some (.inr (.inl w)), none, some (.inl i)] [] (0, 0) (92, [], RP σ q F G) Q := by
    intro i q w hi him hq hg hh
    have hid := rf_isDigit (sc := sc) (F := F) (G := G) hT hσ hq
    rw [bi_eq0.mpr hg] at hid
    exact rb_140_4 ⟨⟨⟨by omega, by omega⟩, ⟨by omega, by omega⟩⟩, fun g => absurd g (by omega), fun _ => fn_ret hid (rb_140_9 ⟨⟨by decide, by decide⟩, fun _ => hh, fun g => absurd rfl g⟩)⟩
  have h : ∀ (m : Nat) (i q w : Int), 0 < i → i + (m : Int) = most → 0 ≤ q ∧ q ≤ n → Q (.inl (some (.inr (.inl (dgt n tx m q w).2))), (92, [], RP σ (q + (dgt n tx m q w).1) F G)) → ai_wp sc 140 4 [some (.inr (.inr 59)), some (.inl most), some (.inr (.inl w)), none, some (.inl i)] [] (0, 0) (92, [], RP σ q F G) Q := by
    intro m
    induction m with
    | zero =>
      intro i q w hi hm hq hh
      have h2 : Q (.inl (some (.inr (.inl w))), (92, [], RP σ (q + 0) F G)) := hh
      rw [Int.add_zero] at h2
      exact rb_140_4 ⟨⟨⟨by omega, by omega⟩, ⟨by omega, by omega⟩⟩, fun _ => h2, fun g => absurd (show most ≤ i by omega) g⟩
    | succ m ih =>
      intro i q w hi hm hq hh
      unfold dgt at hh
      by_cases hg : q < n ∧ 48 ≤ tx q ∧ tx q ≤ 57
      · rw [if_pos hg] at hh
        refine step i q w (w * 10 + (tx q - 48)) (by omega) (by omega) hq hg (by rw [if_neg (by omega)]; omega) (ih (i + 1) (q + 1) _ (by omega) (by omega) (by omega) ?_)
        rw [show q + 1 + (dgt n tx m (q + 1) (w * 10 + (tx q - 48))).1 = q + ((dgt n tx m (q + 1) (w * 10 + (tx q - 48))).1 + 1) by omega]
        exact hh
      · rw [if_neg hg] at hh
        have h2 : Q (.inl (some (.inr (.inl w))), (92, [], RP σ (q + 0) F G)) := hh
        rw [Int.add_zero] at h2
        exact stop i q w (by omega) (by omega) hq hg h2
  refine rb_140_0 ?_
  cases k with
  | zero =>
    have e0 : most = 0 := hk
    subst e0
    have h2 : Q (.inl (some (.inr (.inl (-1)))), (92, [], RP σ (p + 0) F G)) := hQ
    rw [Int.add_zero] at h2
    exact rb_140_4 ⟨⟨⟨by decide, by decide⟩, ⟨by decide, by decide⟩⟩, fun _ => h2, fun g => absurd (Int.le_refl 0) g⟩
  | succ k =>
    unfold dgt at hQ
    by_cases hg : p < n ∧ 48 ≤ tx p ∧ tx p ≤ 57
    · rw [if_pos hg] at hQ
      have hd := dgt_1 n tx k (p + 1) (0 * 10 + (tx p - 48))
      rw [if_neg (show ¬ ((dgt n tx k (p + 1) (0 * 10 + (tx p - 48))).1 + 1, (dgt n tx k (p + 1) (0 * 10 + (tx p - 48))).2).1 = 0 from (show ¬ (dgt n tx k (p + 1) (0 * 10 + (tx p - 48))).1 + 1 = 0 by omega))] at hQ
      refine step 0 p (-1) (0 * 10 + (tx p - 48)) (Int.le_refl 0) (by omega) hp hg (by rw [if_pos rfl]; omega) (h k (0 + 1) (p + 1) _ (by omega) (by omega) (by omega) ?_)
      rw [show p + 1 + (dgt n tx k (p + 1) (0 * 10 + (tx p - 48))).1 = p + ((dgt n tx k (p + 1) (0 * 10 + (tx p - 48))).1 + 1) by omega]
      exact hQ
    · rw [if_neg hg] at hQ
      have h2 : Q (.inl (some (.inr (.inl (-1)))), (92, [], RP σ (p + 0) F G)) := hQ
      rw [Int.add_zero] at h2
      exact stop 0 p (-1) (Int.le_refl 0) (by omega) hp hg h2
