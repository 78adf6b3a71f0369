/-! WRITE: numbers, texts, cells, rows; class and reference lay the same characters. -/
theorem lshr_lit {v s : Int} {k : Nat} (hv : ai_r8 v) (hk : (((Int32.ofInt s).toInt64 &&& 63).toBitVec.smod 64).toNat = k) : ai_lshr v s = v / ((2 ^ k : Nat) : Int) := by
  unfold ai_lshr
  show (BitVec.sshiftRight' (Int64.ofInt v).toBitVec (((Int32.ofInt s).toInt64 &&& 63).toBitVec.smod 64)).toInt = _
  rw [BitVec.toInt_sshiftRight', hk]
  have e : (Int64.ofInt v).toBitVec.toInt = v := ai_64 hv
  rw [e, Int.shiftRight_eq_div_pow]
theorem and127 (x : Int) : ai_and x 127 = x % 128 := by
  unfold ai_and
  show ((Int32.ofInt x).toBitVec &&& (Int32.ofInt 127).toBitVec).toInt = x % 128
  have e1 : ((Int32.ofInt x).toBitVec &&& (Int32.ofInt 127).toBitVec).toNat = (x % 128).toNat := by
    rw [BitVec.toNat_and]
    show (BitVec.ofInt 32 x).toNat &&& (2 ^ 7 - 1) = _
    rw [BitVec.toNat_ofInt, Nat.and_two_pow_sub_one_eq_mod]
    omega
  rw [BitVec.toInt_eq_toNat_of_lt (by omega), e1]
  omega
theorem land127 (x : Int) : ai_land x 127 = x % 128 := by
  unfold ai_land
  show ((Int64.ofInt x).toBitVec &&& (Int64.ofInt 127).toBitVec).toInt = x % 128
  have e1 : ((Int64.ofInt x).toBitVec &&& (Int64.ofInt 127).toBitVec).toNat = (x % 128).toNat := by
    rw [BitVec.toNat_and]
    show (BitVec.ofInt 64 x).toNat &&& (2 ^ 7 - 1) = _
    rw [BitVec.toNat_ofInt, Nat.and_two_pow_sub_one_eq_mod]
    omega
  rw [BitVec.toInt_eq_toNat_of_lt (by omega), e1]
  omega
theorem chr_r (v i : Int) : 0 ≤ chr v i ∧ chr v i ≤ 127 := by
  unfold chr
  rw [and127]
  omega
theorem rch (v n : Int) : ai_land (ai_lshr v (49 - (7 * n))) 127 = chr v n := by
  unfold chr
  rw [and127, land127, show 49 - (7 * n) = 7 * (7 - n) by omega]
theorem ldiv_nn {a b : Int} (ha : 0 ≤ a) (ha2 : a ≤ 9223372036854775807) (hb : 0 < b) (hb2 : b ≤ 9223372036854775807) : ai_ldiv a b = a / b := by
  unfold ai_ldiv
  have hb8 : ai_r8 b := ⟨by omega, hb2⟩
  have hne : Int64.ofInt b ≠ -1 := fun h => by
    have h1 : (Int64.ofInt b).toInt = (-1 : Int64).toInt := congrArg _ h
    rw [ai_64 hb8] at h1
    have h2 : (-1 : Int64).toInt = -1 := rfl
    omega
  rw [Int64.toInt_div_of_ne_right _ _ hne, ai_64 ⟨by omega, ha2⟩, ai_64 hb8, Int.tdiv_eq_ediv_of_nonneg ha]
theorem lrem10 {a : Int} (ha : 0 ≤ a) (ha2 : a ≤ 9223372036854775807) : ai_lrem a 10 = a % 10 := by
  have hd := ldiv_nn (b := 10) ha ha2 (by decide) (by decide)
  unfold ai_ldiv at hd
  unfold ai_lrem
  rw [Int64.toInt_sub, Int64.toInt_mul, hd, ai_64 ⟨by omega, ha2⟩, ai_64 (x := 10) ⟨by decide, by decide⟩]
  rw [Int.bmod_eq_of_le_mul_two (x := a / 10 * 10) (by omega) (by omega), Int.bmod_eq_of_le_mul_two (by omega) (by omega)]
  omega
theorem chr_at {v : Int} (h : 0 ≤ v ∧ v < 72057594037927936) : chr v 0 = v / 562949953421312 % 128 ∧ chr v 1 = v / 4398046511104 % 128 ∧ chr v 2 = v / 34359738368 % 128 ∧ chr v 3 = v / 268435456 % 128 ∧ chr v 4 = v / 2097152 % 128 ∧ chr v 5 = v / 16384 % 128 ∧ chr v 6 = v / 128 % 128 ∧ chr v 7 = v / 1 % 128 := by
  have h8 : ai_r8 v := ⟨by omega, by omega⟩
  refine ⟨?_, ?_, ?_, ?_, ?_, ?_, ?_, ?_⟩
  · unfold chr
    rw [and127, lshr_lit (k := 49) h8 (by decide)]
    rfl
  · unfold chr
    rw [and127, lshr_lit (k := 42) h8 (by decide)]
    rfl
  · unfold chr
    rw [and127, lshr_lit (k := 35) h8 (by decide)]
    rfl
  · unfold chr
    rw [and127, lshr_lit (k := 28) h8 (by decide)]
    rfl
  · unfold chr
    rw [and127, lshr_lit (k := 21) h8 (by decide)]
    rfl
  · unfold chr
    rw [and127, lshr_lit (k := 14) h8 (by decide)]
    rfl
  · unfold chr
    rw [and127, lshr_lit (k := 7) h8 (by decide)]
    rfl
  · unfold chr
    rw [and127, lshr_lit (k := 0) h8 (by decide)]
    rfl
def wfT (v : Int) : Prop := (0 ≤ v ∧ v < 72057594037927936) ∧ ∀ i, 0 ≤ i → i < 7 → chr v i = 0 → chr v (i + 1) = 0
theorem wfT_z {v i : Int} (h : wfT v) (hi : 0 ≤ i) (h0 : chr v i = 0) : ∀ j, i ≤ j → j < 8 → chr v j = 0 := by
  have h1 : ∀ (n : Nat), i + (n : Int) < 8 → chr v (i + (n : Int)) = 0 := by
    intro n
    induction n with
    | zero =>
      intro _
      rw [show i + ((0 : Nat) : Int) = i by omega]
      exact h0
    | succ n ih =>
      intro hn
      have := h.2 (i + (n : Int)) (by omega) (by omega) (ih (by omega))
      rw [show i + ((n + 1 : Nat) : Int) = i + (n : Int) + 1 by omega]
      exact this
  intro j j1 j2
  have := h1 (j - i).toNat (by omega)
  rw [show i + ((j - i).toNat : Int) = j by omega] at this
  exact this
theorem wfT_0 {v : Int} (h : wfT v) : v = 0 ↔ chr v 0 = 0 := by
  constructor
  · intro e
    subst e
    rw [(chr_at h.1).1]
    decide
  · intro e
    obtain ⟨c0, c1, c2, c3, c4, c5, c6, c7⟩ := chr_at h.1
    have z := wfT_z h (Int.le_refl 0) e
    have z0 := z 0 (by decide) (by decide)
    have z1 := z 1 (by decide) (by decide)
    have z2 := z 2 (by decide) (by decide)
    have z3 := z 3 (by decide) (by decide)
    have z4 := z 4 (by decide) (by decide)
    have z5 := z 5 (by decide) (by decide)
    have z6 := z 6 (by decide) (by decide)
    have z7 := z 7 (by decide) (by decide)
    have hv := h.1
    omega
theorem set_set {σ : ai_S} {p : Nat} {i v w : Int} : ai_set (ai_set σ p i v) p i w = ai_set σ p i w := by
  funext q j
  unfold ai_set
  by_cases h : q = p
  · simp only [if_pos h]
    by_cases hj : j = i
    · simp only [if_pos hj]
    · simp only [if_neg hj]
  · simp only [if_neg h]
/-! What is laid. -/
def lay : List Int → (Int → Int) → Int → (Int → Int)
  | [], F, _ => F
  | c :: L, F, n => lay L (fun j => if j = n then c else F j) (n + 1)
theorem lay_app : ∀ (L M : List Int) (F : Int → Int) (n : Int), lay (L ++ M) F n = lay M (lay L F n) (n + (L.length : Int)) := by
  intro L
  induction L with
  | nil =>
    intro M F n
    show lay M F n = lay M F (n + ((0 : Nat) : Int))
    rw [show n + ((0 : Nat) : Int) = n by omega]
  | cons c L ih =>
    intro M F n
    show lay (L ++ M) _ (n + 1) = _
    rw [ih]
    show lay M (lay L _ (n + 1)) (n + 1 + (L.length : Int)) = lay M (lay L _ (n + 1)) (n + ((L.length + 1 : Nat) : Int))
    rw [show n + 1 + (L.length : Int) = n + ((L.length + 1 : Nat) : Int) by omega]
def okL (L : List Int) : Prop := ∀ c, c ∈ L → 0 ≤ c ∧ c ≤ 65535
theorem lay_rng : ∀ {L : List Int} {F : Int → Int} {n : Int}, okL L → (∀ j, 0 ≤ F j ∧ F j ≤ 65535) → ∀ j, 0 ≤ lay L F n j ∧ lay L F n j ≤ 65535 := by
  intro L
  induction L with
  | nil => exact fun _ h => h
  | cons c L ih =>
    intro F n hL hF
    refine ih (fun x hx => hL x (List.mem_cons_of_mem _ hx)) (fun j => ?_)
    show 0 ≤ (if j = n then c else F j) ∧ (if j = n then c else F j) ≤ 65535
    have h1 := hL c (List.mem_cons_self ..)
    have h2 := hF j
    split <;> omega
theorem okL_app {L M : List Int} (h : okL L) (g : okL M) : okL (L ++ M) := fun c hc => by
  rcases List.mem_append.mp hc with q | q
  · exact h c q
  · exact g c q
theorem okL_one {c : Int} (h : 0 ≤ c ∧ c ≤ 65535) : okL [c] := fun x hx => by
  rw [List.mem_singleton.mp hx]
  exact h
theorem okL_nil : okL [] := fun x hx => absurd hx (List.not_mem_nil)
def WS (σ : ai_S) (F : Int → Int) (n : Int) : ai_S := up (ai_set σ 39 0 n) 40 F
def V (σ : ai_S) (F : Int → Int) (n : Int) : ai_S := up (ai_set σ 59 45 n) 90 F
def cW (sc : Int × (Int → Int)) (σ : ai_S) (m : Nat) (a : ai_L) (L : List Int) : Prop := ∀ F n, 0 ≤ n → n + (L.length : Int) ≤ 1149 → fn sc m a (WS σ F n) none (WS σ (lay L F n) (n + (L.length : Int)))
def rW (sc : Int × (Int → Int)) (σ : ai_S) (m : Nat) (a : ai_L) (L : List Int) : Prop := ∀ F n, 0 ≤ n → n + (L.length : Int) ≤ 1149 → fn sc m a (V σ F n) none (V σ (lay L F n) (n + (L.length : Int)))
/-- from here on what is laid is L -/
def cG (sc : Int × (Int → Int)) (σ : ai_S) (m i : Nat) (ls : ai_L) (L : List Int) : Prop := ∀ (Q : ai_O → Prop) F n, 0 ≤ n → n + (L.length : Int) ≤ 1149 → Q (.inl none, (92, [], WS σ (lay L F n) (n + (L.length : Int)))) → ai_wp sc m i ls [] (0, 0) (92, [], WS σ F n) Q
def rG (sc : Int × (Int → Int)) (σ : ai_S) (m i : Nat) (ls : ai_L) (L : List Int) : Prop := ∀ (Q : ai_O → Prop) F n, 0 ≤ n → n + (L.length : Int) ≤ 1149 → Q (.inl none, (92, [], V σ (lay L F n) (n + (L.length : Int)))) → ai_wp sc m i ls [] (0, 0) (92, [], V σ F n) Q
theorem cW_of {sc : Int × (Int → Int)} {σ : ai_S} {m : Nat} {a : ai_L} {L : List Int} (h : cG sc σ m 0 a L) : cW sc σ m a L := fun F n h0 h1 Q hQ => h Q F n h0 h1 hQ
theorem rW_of {sc : Int × (Int → Int)} {σ : ai_S} {m : Nat} {a : ai_L} {L : List Int} (h : rG sc σ m 0 a L) : rW sc σ m a L := fun F n h0 h1 Q hQ => h Q F n h0 h1 hQ
/-- a call that lays L, and then M -/
theorem cG_then {sc : Int × (Int → Int)} {σ : ai_S} {m i m' i' : Nat} {ls ls' a : ai_L} {L M : List Int} (h : cW sc σ m' a L) (g : cG sc σ m i' ls' M)
    (row : ∀ (τ : ai_S) (Q : ai_O → Prop), ai_ret (ai_wp sc) m' a (92, [], τ) (fun v h' => ai_ck (ai_zz 92 h'.1 0) (ai_wp sc m i' ls' (v.toList ++ []) (0, 0) h' Q)) → (τ = WS σ (τ 40) (τ 39 0)) → ai_wp sc m i ls [] (0, 0) (92, [], τ) Q) : cG sc σ m i ls (L ++ M) := by
  intro Q F n h0 h1 hQ
  rw [List.length_append] at h1 hQ
  have e : n + ((L.length + M.length : Nat) : Int) = n + (L.length : Int) + (M.length : Int) := by omega
  rw [lay_app, e] at hQ
  refine row _ _ (fn_ret (h F n h0 (by omega)) ?_) rfl
  exact g Q _ _ (by omega) (by omega) hQ
theorem rG_then {sc : Int × (Int → Int)} {σ : ai_S} {m i m' i' : Nat} {ls ls' a : ai_L} {L M : List Int} (h : rW sc σ m' a L) (g : rG sc σ m i' ls' M)
    (row : ∀ (τ : ai_S) (Q : ai_O → Prop), ai_ret (ai_wp sc) m' a (92, [], τ) (fun v h' => ai_ck (ai_zz 92 h'.1 0) (ai_wp sc m i' ls' (v.toList ++ []) (0, 0) h' Q)) → (τ = V σ (τ 90) (τ 59 45)) → ai_wp sc m i ls [] (0, 0) (92, [], τ) Q) : rG sc σ m i ls (L ++ M) := by
  intro Q F n h0 h1 hQ
  rw [List.length_append] at h1 hQ
  have e : n + ((L.length + M.length : Nat) : Int) = n + (L.length : Int) + (M.length : Int) := by omega
  rw [lay_app, e] at hQ
  refine row _ _ (fn_ret (h F n h0 (by omega)) ?_) rfl
  exact g Q _ _ (by omega) (by omega) hQ
theorem cW_add {sc : Int × (Int → Int)} {σ : ai_S} {c : Int} (hc : 0 ≤ c ∧ c ≤ 65535) : cW sc σ 125 [some (.inr (.inr 39)), some (.inl c)] [c] := by
  intro F n h0 h1 Q hQ
  have e := i2c_id hc
  have h2 : n + 1 ≤ 1149 := h1
  refine rb_125_0 ⟨⟨(show ai_r n from ⟨by omega, by omega⟩), ⟨by decide, by decide⟩⟩, fun h => absurd (show 1149 ≤ n from h) (by omega), fun _ => ⟨(show 0 ≤ n ∧ n < 1149 from ⟨by omega, by omega⟩), i2c_rng _, ?_⟩⟩
  rw [e]
  have e2 : ai_set (ai_set (WS σ F n) 40 n c) 39 0 (n + 1) = WS σ (lay [c] F n) (n + 1) := by
    unfold WS
    rw [up_s, up_c (p := 40) (q := 39) (by decide), set_set]
    rfl
  show Q (.inl none, (92, [], ai_set (ai_set (WS σ F n) 40 n c) 39 0 (n + 1)))
  rw [e2]
  exact hQ
theorem rW_say {sc : Int × (Int → Int)} {σ : ai_S} {c : Int} : rW sc σ 185 [some (.inr (.inr 59)), some (.inl c)] [c] := by
  intro F n h0 h1 Q hQ
  have h2 : n + 1 ≤ 1149 := h1
  refine rb_185_0 ⟨(show 0 ≤ n ∧ n < 1300 from ⟨by omega, by omega⟩), ?_⟩
  have e2 : ai_set (ai_set (V σ F n) 90 n c) 59 45 (n + 1) = V σ (lay [c] F n) (n + 1) := by
    unfold V
    rw [up_s, up_c (p := 90) (q := 59) (by decide), set_set]
    rfl
  show Q (.inl none, (92, [], ai_set (ai_set (V σ F n) 90 n c) 59 45 (n + 1)))
  rw [e2]
  exact hQ
def bd : Nat → Int
  | 0 => 1
  | k + 1 => 10 * bd k
def dgs (v : Int) : Nat → Int → List Int
  | 0, _ => []
  | k + 1, u => if u ≤ 0 then [] else (48 + v / u % 10) :: dgs v k (u / 10)
theorem dgs_0 (v : Int) : ∀ k, dgs v k 0 = [] := by
  intro k
  cases k with
  | zero => rfl
  | succ k => exact if_pos (by decide)
theorem dgs_len (v : Int) : ∀ k u, (dgs v k u).length ≤ k := by
  intro k
  induction k with
  | zero => exact fun _ => Nat.le_refl _
  | succ k ih =>
    intro u
    unfold dgs
    split
    · exact Nat.zero_le _
    · exact Nat.succ_le_succ (ih _)
theorem dgs_ok (v : Int) : ∀ k u, okL (dgs v k u) := by
  intro k
  induction k with
  | zero => exact fun _ => okL_nil
  | succ k ih =>
    intro u
    unfold dgs
    split
    · exact okL_nil
    · intro c hc
      rcases List.mem_cons.mp hc with q | q
      · rw [q]
        omega
      · exact ih _ c q
theorem ws_nil {Q : ai_O → Prop} {σ : ai_S} {F : Int → Int} {n : Int} {L : List Int} (hL : L = []) (h : Q (.inl none, (92, [], WS σ (lay L F n) (n + (L.length : Int))))) : Q (.inl none, (92, [], WS σ F n)) := by
  subst hL
  have e : n + (([] : List Int).length : Int) = n := Int.add_zero n
  rw [e] at h
  exact h
theorem v_nil {Q : ai_O → Prop} {σ : ai_S} {F : Int → Int} {n : Int} {L : List Int} (hL : L = []) (h : Q (.inl none, (92, [], V σ (lay L F n) (n + (L.length : Int))))) : Q (.inl none, (92, [], V σ F n)) := by
  subst hL
  have e : n + (([] : List Int).length : Int) = n := Int.add_zero n
  rw [e] at h
  exact h
theorem cG_dgs {sc : Int × (Int → Int)} {σ : ai_S} {v : Int} (hv : 0 ≤ v ∧ v < 1000000000) : ∀ (k : Nat) (u : Int) (x : Option ai_V), 0 ≤ u ∧ u < bd k → u ≤ 1000000000 → cG sc σ 121 19 [some (.inr (.inr 39)), some (.inr (.inl v)), none, some (.inr (.inl u)), none, x] (dgs v k u) := by
  intro k
  induction k with
  | zero =>
    intro u x hu _
    have hu1 : u < 1 := hu.2
    have e : u = 0 := by omega
    subst e
    exact fun Q F n h0 h1 hQ => rh_121_19 ⟨⟨⟨by decide, by decide⟩, ⟨by decide, by decide⟩⟩, cmp_r _ _, fun _ => ws_nil rfl hQ, fun h => absurd (by decide) h⟩
  | succ k ih =>
    intro u x hu hu9
    have hu1 : u < 10 * bd k := hu.2
    have hu8 : ai_r8 u := ⟨by omega, by omega⟩
    by_cases e : u ≤ 0
    · have e0 : u = 0 := by omega
      subst e0
      rw [dgs_0]
      exact fun Q F n h0 h1 hQ => rh_121_19 ⟨⟨⟨by decide, by decide⟩, ⟨by decide, by decide⟩⟩, cmp_r _ _, fun _ => ws_nil rfl hQ, fun h => absurd (by decide) h⟩
    · have hl : dgs v (k + 1) u = [48 + v / u % 10] ++ dgs v k (u / 10) := if_neg e
      rw [hl]
      have e1 : ai_ldiv v u = v / u := ldiv_nn hv.1 (by omega) (by omega) (by omega)
      have hq0 : 0 ≤ v / u := Int.ediv_nonneg hv.1 (by omega)
      have hq1 : v / u ≤ v := Int.ediv_le_self _ hv.1
      have e2 : ai_lrem (v / u) 10 = v / u % 10 := lrem10 hq0 (by omega)
      have e3 : ai_ldiv u 10 = u / 10 := ldiv_nn (by omega) (by omega) (by decide) (by decide)
      have g := ih (u / 10) none ⟨by omega, by omega⟩ (by omega)
      have g2 : cG sc σ 121 33 [some (.inr (.inr 39)), some (.inr (.inl v)), none, some (.inr (.inl u)), none, none] (dgs v k (u / 10)) := fun Q F n h0 h1 hQ => rb_121_33 ⟨⟨⟨by decide, by decide⟩, by decide⟩, by
        rw [e3]
        exact g Q F n h0 h1 hQ⟩
      refine cG_then (cW_add (by omega)) g2 (fun τ Q hr _ => rh_121_19 ⟨⟨hu8, ⟨by decide, by decide⟩⟩, cmp_r _ _, fun h => absurd (cmp_le.mp h) (by omega), fun _ => ⟨⟨hu8, by omega⟩, ⟨⟨by decide, by decide⟩, by decide⟩, ?_⟩⟩)
      rw [e1, e2]
      exact hr
def unit (v : Int) : Int := if v < 10 then 1 else if v < 100 then 10 else if v < 1000 then 100 else if v < 10000 then 1000 else if v < 100000 then 10000 else if v < 1000000 then 100000 else if v < 10000000 then 1000000 else if v < 100000000 then 10000000 else 100000000
def whL (v : Int) : List Int := dgs v 9 (unit v)
theorem unit_r (v : Int) : 0 ≤ unit v ∧ unit v ≤ 100000000 := by
  unfold unit
  repeat' split
  all_goals omega
theorem cW_whole {sc : Int × (Int → Int)} {σ : ai_S} {v : Int} (hv : 0 ≤ v ∧ v < 1000000000) : cW sc σ 121 [some (.inr (.inr 39)), some (.inr (.inl v)), none, none, none, none] (whL v) := by
  have hu := unit_r v
  have h0 : ∀ x, cG sc σ 121 19 [some (.inr (.inr 39)), some (.inr (.inl v)), none, some (.inr (.inl (unit v))), none, x] (whL v) := fun x => cG_dgs hv 9 (unit v) x ⟨hu.1, (show unit v < 1000000000 by omega)⟩ (by omega)
  have p8 : 100000000 ≤ v → cG sc σ 121 4 [some (.inr (.inr 39)), some (.inr (.inl v)), none, some (.inr (.inl (100000000 : Int))), none, some (.inl 9)] (whL v) := by
    intro hk Q F n q0 q1 hQ
    have e : unit v = 100000000 := by
      unfold unit
      repeat rw [if_neg (by omega)]
    have hh := h0 (some (.inl 9)) Q F n q0 q1 hQ
    rw [e] at hh
    exact rb_121_4 ⟨⟨⟨by decide, by decide⟩, ⟨by decide, by decide⟩⟩, fun _ => hh, fun h => absurd (by decide) h⟩
  have p7 : 10000000 ≤ v → cG sc σ 121 4 [some (.inr (.inr 39)), some (.inr (.inl v)), none, some (.inr (.inl (10000000 : Int))), none, some (.inl 8)] (whL v) := by
    intro hk Q F n q0 q1 hQ
    have e1 : ai_ldiv v 10000000 = v / 10000000 := ldiv_nn hv.1 (by omega) (by decide) (by decide)
    refine rb_121_4 ⟨⟨⟨by decide, by decide⟩, ⟨by decide, by decide⟩⟩, fun h => absurd h (by decide), fun _ => ⟨⟨⟨by decide, by decide⟩, by decide⟩, ⟨?_, ⟨by decide, by decide⟩⟩, cmp_r _ _, fun h => ?_, fun h => ?_⟩⟩
    · rw [e1]
      exact ⟨by omega, by omega⟩
    · have h2 := cmp_lt.mp h
      rw [e1] at h2
      have e : unit v = 10000000 := by
        unfold unit
        rw [if_neg (by omega), if_neg (by omega), if_neg (by omega), if_neg (by omega), if_neg (by omega), if_neg (by omega), if_neg (by omega)]
        rw [if_pos (by omega)]
      have hh := h0 (some (.inl 8)) Q F n q0 q1 hQ
      rw [e] at hh
      exact hh
    · have h2 := mt cmp_lt.mpr h
      rw [e1] at h2
      exact p8 (by omega) Q F n q0 q1 hQ
  have p6 : 1000000 ≤ v → cG sc σ 121 4 [some (.inr (.inr 39)), some (.inr (.inl v)), none, some (.inr (.inl (1000000 : Int))), none, some (.inl 7)] (whL v) := by
    intro hk Q F n q0 q1 hQ
    have e1 : ai_ldiv v 1000000 = v / 1000000 := ldiv_nn hv.1 (by omega) (by decide) (by decide)
    refine rb_121_4 ⟨⟨⟨by decide, by decide⟩, ⟨by decide, by decide⟩⟩, fun h => absurd h (by decide), fun _ => ⟨⟨⟨by decide, by decide⟩, by decide⟩, ⟨?_, ⟨by decide, by decide⟩⟩, cmp_r _ _, fun h => ?_, fun h => ?_⟩⟩
    · rw [e1]
      exact ⟨by omega, by omega⟩
    · have h2 := cmp_lt.mp h
      rw [e1] at h2
      have e : unit v = 1000000 := by
        unfold unit
        rw [if_neg (by omega), if_neg (by omega), if_neg (by omega), if_neg (by omega), if_neg (by omega), if_neg (by omega)]
        rw [if_pos (by omega)]
      have hh := h0 (some (.inl 7)) Q F n q0 q1 hQ
      rw [e] at hh
      exact hh
    · have h2 := mt cmp_lt.mpr h
      rw [e1] at h2
      exact p7 (by omega) Q F n q0 q1 hQ
  have p5 : 100000 ≤ v → cG sc σ 121 4 [some (.inr (.inr 39)), some (.inr (.inl v)), none, some (.inr (.inl (100000 : Int))), none, some (.inl 6)] (whL v) := by
    intro hk Q F n q0 q1 hQ
    have e1 : ai_ldiv v 100000 = v / 100000 := ldiv_nn hv.1 (by omega) (by decide) (by decide)
    refine rb_121_4 ⟨⟨⟨by decide, by decide⟩, ⟨by decide, by decide⟩⟩, fun h => absurd h (by decide), fun _ => ⟨⟨⟨by decide, by decide⟩, by decide⟩, ⟨?_, ⟨by decide, by decide⟩⟩, cmp_r _ _, fun h => ?_, fun h => ?_⟩⟩
    · rw [e1]
      exact ⟨by omega, by omega⟩
    · have h2 := cmp_lt.mp h
      rw [e1] at h2
      have e : unit v = 100000 := by
        unfold unit
        rw [if_neg (by omega), if_neg (by omega), if_neg (by omega), if_neg (by omega), if_neg (by omega)]
        rw [if_pos (by omega)]
      have hh := h0 (some (.inl 6)) Q F n q0 q1 hQ
      rw [e] at hh
      exact hh
    · have h2 := mt cmp_lt.mpr h
      rw [e1] at h2
      exact p6 (by omega) Q F n q0 q1 hQ
  have p4 : 10000 ≤ v → cG sc σ 121 4 [some (.inr (.inr 39)), some (.inr (.inl v)), none, some (.inr (.inl (10000 : Int))), none, some (.inl 5)] (whL v) := by
    intro hk Q F n q0 q1 hQ
    have e1 : ai_ldiv v 10000 = v / 10000 := ldiv_nn hv.1 (by omega) (by decide) (by decide)
    refine rb_121_4 ⟨⟨⟨by decide, by decide⟩, ⟨by decide, by decide⟩⟩, fun h => absurd h (by decide), fun _ => ⟨⟨⟨by decide, by decide⟩, by decide⟩, ⟨?_, ⟨by decide, by decide⟩⟩, cmp_r _ _, fun h => ?_, fun h => ?_⟩⟩
    · rw [e1]
      exact ⟨by omega, by omega⟩
    · have h2 := cmp_lt.mp h
      rw [e1] at h2
      have e : unit v = 10000 := by
        unfold unit
        rw [if_neg (by omega), if_neg (by omega), if_neg (by omega), if_neg (by omega)]
        rw [if_pos (by omega)]
      have hh := h0 (some (.inl 5)) Q F n q0 q1 hQ
      rw [e] at hh
      exact hh
    · have h2 := mt cmp_lt.mpr h
      rw [e1] at h2
      exact p5 (by omega) Q F n q0 q1 hQ
  have p3 : 1000 ≤ v → cG sc σ 121 4 [some (.inr (.inr 39)), some (.inr (.inl v)), none, some (.inr (.inl (1000 : Int))), none, some (.inl 4)] (whL v) := by
    intro hk Q F n q0 q1 hQ
    have e1 : ai_ldiv v 1000 = v / 1000 := ldiv_nn hv.1 (by omega) (by decide) (by decide)
    refine rb_121_4 ⟨⟨⟨by decide, by decide⟩, ⟨by decide, by decide⟩⟩, fun h => absurd h (by decide), fun _ => ⟨⟨⟨by decide, by decide⟩, by decide⟩, ⟨?_, ⟨by decide, by decide⟩⟩, cmp_r _ _, fun h => ?_, fun h => ?_⟩⟩
    · rw [e1]
      exact ⟨by omega, by omega⟩
    · have h2 := cmp_lt.mp h
      rw [e1] at h2
      have e : unit v = 1000 := by
        unfold unit
        rw [if_neg (by omega), if_neg (by omega), if_neg (by omega)]
        rw [if_pos (by omega)]
      have hh := h0 (some (.inl 4)) Q F n q0 q1 hQ
      rw [e] at hh
      exact hh
    · have h2 := mt cmp_lt.mpr h
      rw [e1] at h2
      exact p4 (by omega) Q F n q0 q1 hQ
  have p2 : 100 ≤ v → cG sc σ 121 4 [some (.inr (.inr 39)), some (.inr (.inl v)), none, some (.inr (.inl (100 : Int))), none, some (.inl 3)] (whL v) := by
    intro hk Q F n q0 q1 hQ
    have e1 : ai_ldiv v 100 = v / 100 := ldiv_nn hv.1 (by omega) (by decide) (by decide)
    refine rb_121_4 ⟨⟨⟨by decide, by decide⟩, ⟨by decide, by decide⟩⟩, fun h => absurd h (by decide), fun _ => ⟨⟨⟨by decide, by decide⟩, by decide⟩, ⟨?_, ⟨by decide, by decide⟩⟩, cmp_r _ _, fun h => ?_, fun h => ?_⟩⟩
    · rw [e1]
      exact ⟨by omega, by omega⟩
    · have h2 := cmp_lt.mp h
      rw [e1] at h2
      have e : unit v = 100 := by
        unfold unit
        rw [if_neg (by omega), if_neg (by omega)]
        rw [if_pos (by omega)]
      have hh := h0 (some (.inl 3)) Q F n q0 q1 hQ
      rw [e] at hh
      exact hh
    · have h2 := mt cmp_lt.mpr h
      rw [e1] at h2
      exact p3 (by omega) Q F n q0 q1 hQ
  have p1 : 10 ≤ v → cG sc σ 121 4 [some (.inr (.inr 39)), some (.inr (.inl v)), none, some (.inr (.inl (10 : Int))), none, some (.inl 2)] (whL v) := by
    intro hk Q F n q0 q1 hQ
    have e1 : ai_ldiv v 10 = v / 10 := ldiv_nn hv.1 (by omega) (by decide) (by decide)
    refine rb_121_4 ⟨⟨⟨by decide, by decide⟩, ⟨by decide, by decide⟩⟩, fun h => absurd h (by decide), fun _ => ⟨⟨⟨by decide, by decide⟩, by decide⟩, ⟨?_, ⟨by decide, by decide⟩⟩, cmp_r _ _, fun h => ?_, fun h => ?_⟩⟩
    · rw [e1]
      exact ⟨by omega, by omega⟩
    · have h2 := cmp_lt.mp h
      rw [e1] at h2
      have e : unit v = 10 := by
        unfold unit
        rw [if_neg (by omega)]
        rw [if_pos (by omega)]
      have hh := h0 (some (.inl 2)) Q F n q0 q1 hQ
      rw [e] at hh
      exact hh
    · have h2 := mt cmp_lt.mpr h
      rw [e1] at h2
      exact p2 (by omega) Q F n q0 q1 hQ
  have p0 : cG sc σ 121 4 [some (.inr (.inr 39)), some (.inr (.inl v)), none, some (.inr (.inl (1 : Int))), none, some (.inl 1)] (whL v) := by
    intro Q F n q0 q1 hQ
    have e1 : ai_ldiv v 1 = v / 1 := ldiv_nn hv.1 (by omega) (by decide) (by decide)
    refine rb_121_4 ⟨⟨⟨by decide, by decide⟩, ⟨by decide, by decide⟩⟩, fun h => absurd h (by decide), fun _ => ⟨⟨⟨by decide, by decide⟩, by decide⟩, ⟨?_, ⟨by decide, by decide⟩⟩, cmp_r _ _, fun h => ?_, fun h => ?_⟩⟩
    · rw [e1]
      exact ⟨by omega, by omega⟩
    · have h2 := cmp_lt.mp h
      rw [e1] at h2
      have e : unit v = 1 := by
        unfold unit
        rw [if_pos (by omega)]
      have hh := h0 (some (.inl 1)) Q F n q0 q1 hQ
      rw [e] at hh
      exact hh
    · have h2 := mt cmp_lt.mpr h
      rw [e1] at h2
      exact p1 (by omega) Q F n q0 q1 hQ
  exact cW_of (fun Q F n q0 q1 hQ => rb_121_0 (p0 Q F n q0 q1 hQ))
theorem rG_dgs {sc : Int × (Int → Int)} {σ : ai_S} {v : Int} (hv : 0 ≤ v ∧ v < 1000000000) : ∀ (k : Nat) (u : Int) (x y : Option ai_V), 0 ≤ u ∧ u < bd k → u ≤ 1000000000 → rG sc σ 186 15 [some (.inr (.inr 59)), some (.inr (.inl v)), none, x, y, some (.inr (.inl u)), none] (dgs v k u) := by
  intro k
  induction k with
  | zero =>
    intro u x y hu _
    have hu1 : u < 1 := hu.2
    have e : u = 0 := by omega
    subst e
    exact fun Q F n h0 h1 hQ => rh_186_15 ⟨⟨⟨by decide, by decide⟩, ⟨by decide, by decide⟩⟩, cmp_r _ _, fun _ => v_nil rfl hQ, fun h => absurd (by decide) h⟩
  | succ k ih =>
    intro u x y hu hu9
    have hu1 : u < 10 * bd k := hu.2
    have hu8 : ai_r8 u := ⟨by omega, by omega⟩
    by_cases e : u ≤ 0
    · have e0 : u = 0 := by omega
      subst e0
      rw [dgs_0]
      exact fun Q F n h0 h1 hQ => rh_186_15 ⟨⟨⟨by decide, by decide⟩, ⟨by decide, by decide⟩⟩, cmp_r _ _, fun _ => v_nil rfl hQ, fun h => absurd (by decide) h⟩
    · have hl : dgs v (k + 1) u = [48 + v / u % 10] ++ dgs v k (u / 10) := if_neg e
      rw [hl]
      have e1 : ai_ldiv v u = v / u := ldiv_nn hv.1 (by omega) (by omega) (by omega)
      have hq0 : 0 ≤ v / u := Int.ediv_nonneg hv.1 (by omega)
      have hq1 : v / u ≤ v := Int.ediv_le_self _ hv.1
      have e2 : ai_lrem (v / u) 10 = v / u % 10 := lrem10 hq0 (by omega)
      have e3 : ai_ldiv u 10 = u / 10 := ldiv_nn (by omega) (by omega) (by decide) (by decide)
      have g := ih (u / 10) none none ⟨by omega, by omega⟩ (by omega)
      have g2 : rG sc σ 186 29 [some (.inr (.inr 59)), some (.inr (.inl v)), none, none, none, some (.inr (.inl u)), none] (dgs v k (u / 10)) := fun Q F n h0 h1 hQ => rb_186_29 ⟨⟨⟨by decide, by decide⟩, by decide⟩, by
        rw [e3]
        exact g Q F n h0 h1 hQ⟩
      refine rG_then rW_say g2 (fun τ Q hr _ => rh_186_15 ⟨⟨hu8, ⟨by decide, by decide⟩⟩, cmp_r _ _, fun h => absurd (cmp_le.mp h) (by omega), fun _ => ⟨⟨hu8, by omega⟩, ⟨⟨by decide, by decide⟩, by decide⟩, ?_⟩⟩)
      rw [e1, e2]
      exact hr
theorem rW_number {sc : Int × (Int → Int)} {σ : ai_S} {v : Int} (hv : 0 ≤ v ∧ v < 1000000000) : rW sc σ 186 [some (.inr (.inr 59)), some (.inr (.inl v)), none, none, none, none, none] (whL v) := by
  have hu := unit_r v
  have h0 : ∀ x y, rG sc σ 186 15 [some (.inr (.inr 59)), some (.inr (.inl v)), none, x, y, some (.inr (.inl (unit v))), none] (whL v) := fun x y => rG_dgs hv 9 (unit v) x y ⟨hu.1, (show unit v < 1000000000 by omega)⟩ (by omega)
  have p8 : 100000000 ≤ v → rG sc σ 186 2 [some (.inr (.inr 59)), some (.inr (.inl v)), none, some (.inr (.inl (100000000 : Int))), none, none, none] (whL v) := by
    intro hk Q F n q0 q1 hQ
    have e1 : ai_ldiv v 100000000 = v / 100000000 := ldiv_nn hv.1 (by omega) (by decide) (by decide)
    refine rb_186_2 ⟨⟨⟨by decide, by decide⟩, by decide⟩, ⟨?_, ⟨by decide, by decide⟩⟩, cmp_r _ _, fun h => ?_, fun h => ?_⟩
    · rw [e1]
      exact ⟨by omega, by omega⟩
    · have h2 := cmp_le.mp h
      rw [e1] at h2
      have e : unit v = 100000000 := by
        unfold unit
        repeat rw [if_neg (by omega)]
      have hh := h0 (some (.inr (.inl 100000000))) none Q F n q0 q1 hQ
      rw [e] at hh
      exact hh
    · have h2 := mt cmp_le.mpr h
      rw [e1] at h2
      exact absurd hv.2 (by omega)
  have p7 : 10000000 ≤ v → rG sc σ 186 2 [some (.inr (.inr 59)), some (.inr (.inl v)), none, some (.inr (.inl (10000000 : Int))), none, none, none] (whL v) := by
    intro hk Q F n q0 q1 hQ
    have e1 : ai_ldiv v 10000000 = v / 10000000 := ldiv_nn hv.1 (by omega) (by decide) (by decide)
    refine rb_186_2 ⟨⟨⟨by decide, by decide⟩, by decide⟩, ⟨?_, ⟨by decide, by decide⟩⟩, cmp_r _ _, fun h => ?_, fun h => ?_⟩
    · rw [e1]
      exact ⟨by omega, by omega⟩
    · have h2 := cmp_le.mp h
      rw [e1] at h2
      have e : unit v = 10000000 := by
        unfold unit
        rw [if_neg (by omega), if_neg (by omega), if_neg (by omega), if_neg (by omega), if_neg (by omega), if_neg (by omega), if_neg (by omega)]
        rw [if_pos (by omega)]
      have hh := h0 (some (.inr (.inl 10000000))) none Q F n q0 q1 hQ
      rw [e] at hh
      exact hh
    · have h2 := mt cmp_le.mpr h
      rw [e1] at h2
      exact p8 (by omega) Q F n q0 q1 hQ
  have p6 : 1000000 ≤ v → rG sc σ 186 2 [some (.inr (.inr 59)), some (.inr (.inl v)), none, some (.inr (.inl (1000000 : Int))), none, none, none] (whL v) := by
    intro hk Q F n q0 q1 hQ
    have e1 : ai_ldiv v 1000000 = v / 1000000 := ldiv_nn hv.1 (by omega) (by decide) (by decide)
    refine rb_186_2 ⟨⟨⟨by decide, by decide⟩, by decide⟩, ⟨?_, ⟨by decide, by decide⟩⟩, cmp_r _ _, fun h => ?_, fun h => ?_⟩
    · rw [e1]
      exact ⟨by omega, by omega⟩
    · have h2 := cmp_le.mp h
      rw [e1] at h2
      have e : unit v = 1000000 := by
        unfold unit
        rw [if_neg (by omega), if_neg (by omega), if_neg (by omega), if_neg (by omega), if_neg (by omega), if_neg (by omega)]
        rw [if_pos (by omega)]
      have hh := h0 (some (.inr (.inl 1000000))) none Q F n q0 q1 hQ
      rw [e] at hh
      exact hh
    · have h2 := mt cmp_le.mpr h
      rw [e1] at h2
      exact p7 (by omega) Q F n q0 q1 hQ
  have p5 : 100000 ≤ v → rG sc σ 186 2 [some (.inr (.inr 59)), some (.inr (.inl v)), none, some (.inr (.inl (100000 : Int))), none, none, none] (whL v) := by
    intro hk Q F n q0 q1 hQ
    have e1 : ai_ldiv v 100000 = v / 100000 := ldiv_nn hv.1 (by omega) (by decide) (by decide)
    refine rb_186_2 ⟨⟨⟨by decide, by decide⟩, by decide⟩, ⟨?_, ⟨by decide, by decide⟩⟩, cmp_r _ _, fun h => ?_, fun h => ?_⟩
    · rw [e1]
      exact ⟨by omega, by omega⟩
    · have h2 := cmp_le.mp h
      rw [e1] at h2
      have e : unit v = 100000 := by
        unfold unit
        rw [if_neg (by omega), if_neg (by omega), if_neg (by omega), if_neg (by omega), if_neg (by omega)]
        rw [if_pos (by omega)]
      have hh := h0 (some (.inr (.inl 100000))) none Q F n q0 q1 hQ
      rw [e] at hh
      exact hh
    · have h2 := mt cmp_le.mpr h
      rw [e1] at h2
      exact p6 (by omega) Q F n q0 q1 hQ
  have p4 : 10000 ≤ v → rG sc σ 186 2 [some (.inr (.inr 59)), some (.inr (.inl v)), none, some (.inr (.inl (10000 : Int))), none, none, none] (whL v) := by
    intro hk Q F n q0 q1 hQ
    have e1 : ai_ldiv v 10000 = v / 10000 := ldiv_nn hv.1 (by omega) (by decide) (by decide)
    refine rb_186_2 ⟨⟨⟨by decide, by decide⟩, by decide⟩, ⟨?_, ⟨by decide, by decide⟩⟩, cmp_r _ _, fun h => ?_, fun h => ?_⟩
    · rw [e1]
      exact ⟨by omega, by omega⟩
    · have h2 := cmp_le.mp h
      rw [e1] at h2
      have e : unit v = 10000 := by
        unfold unit
        rw [if_neg (by omega), if_neg (by omega), if_neg (by omega), if_neg (by omega)]
        rw [if_pos (by omega)]
      have hh := h0 (some (.inr (.inl 10000))) none Q F n q0 q1 hQ
      rw [e] at hh
      exact hh
    · have h2 := mt cmp_le.mpr h
      rw [e1] at h2
      exact p5 (by omega) Q F n q0 q1 hQ
  have p3 : 1000 ≤ v → rG sc σ 186 2 [some (.inr (.inr 59)), some (.inr (.inl v)), none, some (.inr (.inl (1000 : Int))), none, none, none] (whL v) := by
    intro hk Q F n q0 q1 hQ
    have e1 : ai_ldiv v 1000 = v / 1000 := ldiv_nn hv.1 (by omega) (by decide) (by decide)
    refine rb_186_2 ⟨⟨⟨by decide, by decide⟩, by decide⟩, ⟨?_, ⟨by decide, by decide⟩⟩, cmp_r _ _, fun h => ?_, fun h => ?_⟩
    · rw [e1]
      exact ⟨by omega, by omega⟩
    · have h2 := cmp_le.mp h
      rw [e1] at h2
      have e : unit v = 1000 := by
        unfold unit
        rw [if_neg (by omega), if_neg (by omega), if_neg (by omega)]
        rw [if_pos (by omega)]
      have hh := h0 (some (.inr (.inl 1000))) none Q F n q0 q1 hQ
      rw [e] at hh
      exact hh
    · have h2 := mt cmp_le.mpr h
      rw [e1] at h2
      exact p4 (by omega) Q F n q0 q1 hQ
  have p2 : 100 ≤ v → rG sc σ 186 2 [some (.inr (.inr 59)), some (.inr (.inl v)), none, some (.inr (.inl (100 : Int))), none, none, none] (whL v) := by
    intro hk Q F n q0 q1 hQ
    have e1 : ai_ldiv v 100 = v / 100 := ldiv_nn hv.1 (by omega) (by decide) (by decide)
    refine rb_186_2 ⟨⟨⟨by decide, by decide⟩, by decide⟩, ⟨?_, ⟨by decide, by decide⟩⟩, cmp_r _ _, fun h => ?_, fun h => ?_⟩
    · rw [e1]
      exact ⟨by omega, by omega⟩
    · have h2 := cmp_le.mp h
      rw [e1] at h2
      have e : unit v = 100 := by
        unfold unit
        rw [if_neg (by omega), if_neg (by omega)]
        rw [if_pos (by omega)]
      have hh := h0 (some (.inr (.inl 100))) none Q F n q0 q1 hQ
      rw [e] at hh
      exact hh
    · have h2 := mt cmp_le.mpr h
      rw [e1] at h2
      exact p3 (by omega) Q F n q0 q1 hQ
  have p1 : 10 ≤ v → rG sc σ 186 2 [some (.inr (.inr 59)), some (.inr (.inl v)), none, some (.inr (.inl (10 : Int))), none, none, none] (whL v) := by
    intro hk Q F n q0 q1 hQ
    have e1 : ai_ldiv v 10 = v / 10 := ldiv_nn hv.1 (by omega) (by decide) (by decide)
    refine rb_186_2 ⟨⟨⟨by decide, by decide⟩, by decide⟩, ⟨?_, ⟨by decide, by decide⟩⟩, cmp_r _ _, fun h => ?_, fun h => ?_⟩
    · rw [e1]
      exact ⟨by omega, by omega⟩
    · have h2 := cmp_le.mp h
      rw [e1] at h2
      have e : unit v = 10 := by
        unfold unit
        rw [if_neg (by omega)]
        rw [if_pos (by omega)]
      have hh := h0 (some (.inr (.inl 10))) none Q F n q0 q1 hQ
      rw [e] at hh
      exact hh
    · have h2 := mt cmp_le.mpr h
      rw [e1] at h2
      exact p2 (by omega) Q F n q0 q1 hQ
  have p0 : rG sc σ 186 2 [some (.inr (.inr 59)), some (.inr (.inl v)), none, some (.inr (.inl (1 : Int))), none, none, none] (whL v) := by
    intro Q F n q0 q1 hQ
    have e1 : ai_ldiv v 1 = v / 1 := ldiv_nn hv.1 (by omega) (by decide) (by decide)
    refine rb_186_2 ⟨⟨⟨by decide, by decide⟩, by decide⟩, ⟨?_, ⟨by decide, by decide⟩⟩, cmp_r _ _, fun h => ?_, fun h => ?_⟩
    · rw [e1]
      exact ⟨by omega, by omega⟩
    · have h2 := cmp_le.mp h
      rw [e1] at h2
      have e : unit v = 1 := by
        unfold unit
        rw [if_pos (by omega)]
      have hh := h0 (some (.inr (.inl 1))) none Q F n q0 q1 hQ
      rw [e] at hh
      exact hh
    · have h2 := mt cmp_le.mpr h
      rw [e1] at h2
      exact p1 (by omega) Q F n q0 q1 hQ
  exact rW_of (fun Q F n q0 q1 hQ => rb_186_0 (p0 Q F n q0 q1 hQ))
