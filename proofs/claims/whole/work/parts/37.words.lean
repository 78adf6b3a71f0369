/-! READ: letters and quoted texts, class and reference. -/
theorem nat64 {x : Int} (h : 0 ≤ x ∧ x < 9223372036854775808) : (Int64.ofInt x).toBitVec.toNat = x.toNat := by
  show (BitVec.ofInt 64 x).toNat = x.toNat
  rw [BitVec.toNat_ofInt]
  omega
theorem int64 {b : BitVec 64} {m : Nat} (h : b.toNat = m) (hm : m < 9223372036854775808) : b.toInt = (m : Int) := by
  rw [BitVec.toInt_eq_toNat_of_lt (by omega), h]
theorem lshl_lit {c s : Int} {k : Nat} (hc : 0 ≤ c ∧ c < 128) (hk : (((Int32.ofInt s).toInt64 &&& 63).toBitVec.smod 64).toNat = k) (hk2 : k ≤ 49) : ai_lshl c s = c * ((2 ^ k : Nat) : Int) := by
  have h2 : 2 ^ k ≤ 2 ^ 49 := Nat.pow_le_pow_right (by decide) hk2
  have h3 : c.toNat * 2 ^ k < 128 * 2 ^ 49 := Nat.mul_lt_mul_of_lt_of_le (by omega) h2 (by decide)
  unfold ai_lshl
  show ((Int64.ofInt c).toBitVec <<< (((Int32.ofInt s).toInt64 &&& 63).toBitVec.smod 64)).toInt = _
  have e : ((Int64.ofInt c).toBitVec <<< (((Int32.ofInt s).toInt64 &&& 63).toBitVec.smod 64)).toNat = c.toNat * 2 ^ k := by
    show ((Int64.ofInt c).toBitVec <<< (((Int32.ofInt s).toInt64 &&& 63).toBitVec.smod 64).toNat).toNat = c.toNat * 2 ^ k
    rw [hk, BitVec.toNat_shiftLeft, nat64 ⟨hc.1, by omega⟩, Nat.shiftLeft_eq]
    exact Nat.mod_eq_of_lt (by omega)
  rw [int64 e (by omega), Int.natCast_mul]
  rw [Int.toNat_of_nonneg hc.1]
theorem lor_add {a b : Int} {k : Nat} {q : Int} (ha : a = ((2 ^ k : Nat) : Int) * q) (hq : 0 ≤ q) (hb : 0 ≤ b ∧ b < ((2 ^ k : Nat) : Int)) (h8 : a + b < 9223372036854775808) : ai_lor a b = a + b := by
  have hk0 : 0 ≤ ((2 ^ k : Nat) : Int) := Int.natCast_nonneg _
  have ha0 : 0 ≤ a := by
    rw [ha]
    exact Int.mul_nonneg hk0 hq
  unfold ai_lor
  show ((Int64.ofInt a).toBitVec ||| (Int64.ofInt b).toBitVec).toInt = _
  have en : a.toNat = 2 ^ k * q.toNat := by
    rw [ha, Int.toNat_mul hk0 hq]
    rfl
  have e : ((Int64.ofInt a).toBitVec ||| (Int64.ofInt b).toBitVec).toNat = a.toNat + b.toNat := by
    rw [BitVec.toNat_or, nat64 ⟨ha0, by omega⟩, nat64 ⟨hb.1, by omega⟩, en]
    exact (Nat.two_pow_add_eq_or_of_lt (by omega) _).symm
  rw [int64 e (by omega)]
  omega
/-- the first i characters stand, the others are none -/
def okT (i v : Int) : Prop := (0 ≤ v ∧ v < 72057594037927936) ∧ (∀ j, 0 ≤ j → j < i → ¬ chr v j = 0) ∧ (∀ j, i ≤ j → j < 8 → chr v j = 0)
theorem okT_0 : okT 0 0 := by
  have h := chr_at (v := 0) (by decide)
  refine ⟨by decide, fun j j1 j2 => absurd j2 (by omega), fun j j1 j2 => ?_⟩
  have e : j = 0 ∨ j = 1 ∨ j = 2 ∨ j = 3 ∨ j = 4 ∨ j = 5 ∨ j = 6 ∨ j = 7 := by omega
  rcases e with rfl | rfl | rfl | rfl | rfl | rfl | rfl | rfl
  · rw [h.1]; decide
  · rw [h.2.1]; decide
  · rw [h.2.2.1]; decide
  · rw [h.2.2.2.1]; decide
  · rw [h.2.2.2.2.1]; decide
  · rw [h.2.2.2.2.2.1]; decide
  · rw [h.2.2.2.2.2.2.1]; decide
  · rw [h.2.2.2.2.2.2.2]; decide
theorem okT_wf {i v : Int} (h : okT i v) : wfT v := by
  refine ⟨h.1, fun j j1 j2 j3 => ?_⟩
  by_cases e : j < i
  · exact absurd j3 (h.2.1 j j1 e)
  · exact h.2.2 (j + 1) (by omega) (by omega)
theorem okT_add_0 {v c : Int} (h : okT 0 v) (hc : 0 < c ∧ c < 128) : okT (0 + 1) (ai_lor v (ai_lshl c (7 * (7 - 0)))) := by
  obtain ⟨h1, h2, h3⟩ := h
  obtain ⟨c0, c1, c2, c3, c4, c5, c6, c7⟩ := chr_at h1
  have z : v % 72057594037927936 = 0 := by
    have z0 := h3 0 (by decide) (by decide)
    have z1 := h3 1 (by decide) (by decide)
    have z2 := h3 2 (by decide) (by decide)
    have z3 := h3 3 (by decide) (by decide)
    have z4 := h3 4 (by decide) (by decide)
    have z5 := h3 5 (by decide) (by decide)
    have z6 := h3 6 (by decide) (by decide)
    have z7 := h3 7 (by decide) (by decide)
    omega
  have es : ai_lshl c (7 * (7 - 0)) = c * 562949953421312 := lshl_lit (k := 49) ⟨by omega, hc.2⟩ (by decide) (by decide)
  have eo : ai_lor v (c * 562949953421312) = v + c * 562949953421312 := by
    clear c0 c1 c2 c3 c4 c5 c6 c7
    exact lor_add (k := 56) (q := v / 72057594037927936) (by show v = 72057594037927936 * (v / 72057594037927936); omega) (by omega) (by show 0 ≤ c * 562949953421312 ∧ c * 562949953421312 < 72057594037927936; omega) (by omega)
  rw [es, eo]
  have hv : 0 ≤ v + c * 562949953421312 ∧ v + c * 562949953421312 < 72057594037927936 := by
    clear c0 c1 c2 c3 c4 c5 c6 c7
    omega
  obtain ⟨d0, d1, d2, d3, d4, d5, d6, d7⟩ := chr_at hv
  refine ⟨hv, fun j j1 j2 => ?_, fun j j1 j2 => ?_⟩
  · have e : j = 0 := by clear z c0 c1 c2 c3 c4 c5 c6 c7 d0 d1 d2 d3 d4 d5 d6 d7; omega
    subst e
    clear c0 c1 c2 c3 c4 c5 c6 c7 d1 d2 d3 d4 d5 d6 d7
    omega
  · have e : j = 1 ∨ j = 2 ∨ j = 3 ∨ j = 4 ∨ j = 5 ∨ j = 6 ∨ j = 7 := by clear z c0 c1 c2 c3 c4 c5 c6 c7 d0 d1 d2 d3 d4 d5 d6 d7; omega
    rcases e with rfl | rfl | rfl | rfl | rfl | rfl | rfl
    · clear c0 c1 c2 c3 c4 c5 c6 c7 d0 d2 d3 d4 d5 d6 d7
      omega
    · clear c0 c1 c2 c3 c4 c5 c6 c7 d0 d1 d3 d4 d5 d6 d7
      omega
    · clear c0 c1 c2 c3 c4 c5 c6 c7 d0 d1 d2 d4 d5 d6 d7
      omega
    · clear c0 c1 c2 c3 c4 c5 c6 c7 d0 d1 d2 d3 d5 d6 d7
      omega
    · clear c0 c1 c2 c3 c4 c5 c6 c7 d0 d1 d2 d3 d4 d6 d7
      omega
    · clear c0 c1 c2 c3 c4 c5 c6 c7 d0 d1 d2 d3 d4 d5 d7
      omega
    · clear c0 c1 c2 c3 c4 c5 c6 c7 d0 d1 d2 d3 d4 d5 d6
      omega
theorem okT_add_1 {v c : Int} (h : okT 1 v) (hc : 0 < c ∧ c < 128) : okT (1 + 1) (ai_lor v (ai_lshl c (7 * (7 - 1)))) := by
  obtain ⟨h1, h2, h3⟩ := h
  obtain ⟨c0, c1, c2, c3, c4, c5, c6, c7⟩ := chr_at h1
  have z : v % 562949953421312 = 0 := by
    have z1 := h3 1 (by decide) (by decide)
    have z2 := h3 2 (by decide) (by decide)
    have z3 := h3 3 (by decide) (by decide)
    have z4 := h3 4 (by decide) (by decide)
    have z5 := h3 5 (by decide) (by decide)
    have z6 := h3 6 (by decide) (by decide)
    have z7 := h3 7 (by decide) (by decide)
    omega
  have es : ai_lshl c (7 * (7 - 1)) = c * 4398046511104 := lshl_lit (k := 42) ⟨by omega, hc.2⟩ (by decide) (by decide)
  have eo : ai_lor v (c * 4398046511104) = v + c * 4398046511104 := by
    clear c0 c1 c2 c3 c4 c5 c6 c7
    exact lor_add (k := 49) (q := v / 562949953421312) (by show v = 562949953421312 * (v / 562949953421312); omega) (by omega) (by show 0 ≤ c * 4398046511104 ∧ c * 4398046511104 < 562949953421312; omega) (by omega)
  rw [es, eo]
  have hv : 0 ≤ v + c * 4398046511104 ∧ v + c * 4398046511104 < 72057594037927936 := by
    clear c0 c1 c2 c3 c4 c5 c6 c7
    omega
  obtain ⟨d0, d1, d2, d3, d4, d5, d6, d7⟩ := chr_at hv
  refine ⟨hv, fun j j1 j2 => ?_, fun j j1 j2 => ?_⟩
  · have e : j = 0 ∨ j = 1 := by clear z c0 c1 c2 c3 c4 c5 c6 c7 d0 d1 d2 d3 d4 d5 d6 d7; omega
    rcases e with rfl | rfl
    · have a := h2 0 (by decide) (by decide)
      clear c1 c2 c3 c4 c5 c6 c7 d1 d2 d3 d4 d5 d6 d7
      omega
    · clear c0 c1 c2 c3 c4 c5 c6 c7 d0 d2 d3 d4 d5 d6 d7
      omega
  · have e : j = 2 ∨ j = 3 ∨ j = 4 ∨ j = 5 ∨ j = 6 ∨ j = 7 := by clear z c0 c1 c2 c3 c4 c5 c6 c7 d0 d1 d2 d3 d4 d5 d6 d7; omega
    rcases e with rfl | rfl | rfl | rfl | rfl | rfl
    · clear c0 c1 c2 c3 c4 c5 c6 c7 d0 d1 d3 d4 d5 d6 d7
      omega
    · clear c0 c1 c2 c3 c4 c5 c6 c7 d0 d1 d2 d4 d5 d6 d7
      omega
    · clear c0 c1 c2 c3 c4 c5 c6 c7 d0 d1 d2 d3 d5 d6 d7
      omega
    · clear c0 c1 c2 c3 c4 c5 c6 c7 d0 d1 d2 d3 d4 d6 d7
      omega
    · clear c0 c1 c2 c3 c4 c5 c6 c7 d0 d1 d2 d3 d4 d5 d7
      omega
    · clear c0 c1 c2 c3 c4 c5 c6 c7 d0 d1 d2 d3 d4 d5 d6
      omega
theorem okT_add_2 {v c : Int} (h : okT 2 v) (hc : 0 < c ∧ c < 128) : okT (2 + 1) (ai_lor v (ai_lshl c (7 * (7 - 2)))) := by
  obtain ⟨h1, h2, h3⟩ := h
  obtain ⟨c0, c1, c2, c3, c4, c5, c6, c7⟩ := chr_at h1
  have z : v % 4398046511104 = 0 := by
    have z2 := h3 2 (by decide) (by decide)
    have z3 := h3 3 (by decide) (by decide)
    have z4 := h3 4 (by decide) (by decide)
    have z5 := h3 5 (by decide) (by decide)
    have z6 := h3 6 (by decide) (by decide)
    have z7 := h3 7 (by decide) (by decide)
    omega
  have es : ai_lshl c (7 * (7 - 2)) = c * 34359738368 := lshl_lit (k := 35) ⟨by omega, hc.2⟩ (by decide) (by decide)
  have eo : ai_lor v (c * 34359738368) = v + c * 34359738368 := by
    clear c0 c1 c2 c3 c4 c5 c6 c7
    exact lor_add (k := 42) (q := v / 4398046511104) (by show v = 4398046511104 * (v / 4398046511104); omega) (by omega) (by show 0 ≤ c * 34359738368 ∧ c * 34359738368 < 4398046511104; omega) (by omega)
  rw [es, eo]
  have hv : 0 ≤ v + c * 34359738368 ∧ v + c * 34359738368 < 72057594037927936 := by
    clear c0 c1 c2 c3 c4 c5 c6 c7
    omega
  obtain ⟨d0, d1, d2, d3, d4, d5, d6, d7⟩ := chr_at hv
  refine ⟨hv, fun j j1 j2 => ?_, fun j j1 j2 => ?_⟩
  · have e : j = 0 ∨ j = 1 ∨ j = 2 := by clear z c0 c1 c2 c3 c4 c5 c6 c7 d0 d1 d2 d3 d4 d5 d6 d7; omega
    rcases e with rfl | rfl | rfl
    · have a := h2 0 (by decide) (by decide)
      clear c1 c2 c3 c4 c5 c6 c7 d1 d2 d3 d4 d5 d6 d7
      omega
    · have a := h2 1 (by decide) (by decide)
      clear c0 c2 c3 c4 c5 c6 c7 d0 d2 d3 d4 d5 d6 d7
      omega
    · clear c0 c1 c2 c3 c4 c5 c6 c7 d0 d1 d3 d4 d5 d6 d7
      omega
  · have e : j = 3 ∨ j = 4 ∨ j = 5 ∨ j = 6 ∨ j = 7 := by clear z c0 c1 c2 c3 c4 c5 c6 c7 d0 d1 d2 d3 d4 d5 d6 d7; omega
    rcases e with rfl | rfl | rfl | rfl | rfl
    · clear c0 c1 c2 c3 c4 c5 c6 c7 d0 d1 d2 d4 d5 d6 d7
      omega
    · clear c0 c1 c2 c3 c4 c5 c6 c7 d0 d1 d2 d3 d5 d6 d7
      omega
    · clear c0 c1 c2 c3 c4 c5 c6 c7 d0 d1 d2 d3 d4 d6 d7
      omega
    · clear c0 c1 c2 c3 c4 c5 c6 c7 d0 d1 d2 d3 d4 d5 d7
      omega
    · clear c0 c1 c2 c3 c4 c5 c6 c7 d0 d1 d2 d3 d4 d5 d6
      omega
theorem okT_add_3 {v c : Int} (h : okT 3 v) (hc : 0 < c ∧ c < 128) : okT (3 + 1) (ai_lor v (ai_lshl c (7 * (7 - 3)))) := by
  obtain ⟨h1, h2, h3⟩ := h
  obtain ⟨c0, c1, c2, c3, c4, c5, c6, c7⟩ := chr_at h1
  have z : v % 34359738368 = 0 := by
    have z3 := h3 3 (by decide) (by decide)
    have z4 := h3 4 (by decide) (by decide)
    have z5 := h3 5 (by decide) (by decide)
    have z6 := h3 6 (by decide) (by decide)
    have z7 := h3 7 (by decide) (by decide)
    omega
  have es : ai_lshl c (7 * (7 - 3)) = c * 268435456 := lshl_lit (k := 28) ⟨by omega, hc.2⟩ (by decide) (by decide)
  have eo : ai_lor v (c * 268435456) = v + c * 268435456 := by
    clear c0 c1 c2 c3 c4 c5 c6 c7
    exact lor_add (k := 35) (q := v / 34359738368) (by show v = 34359738368 * (v / 34359738368); omega) (by omega) (by show 0 ≤ c * 268435456 ∧ c * 268435456 < 34359738368; omega) (by omega)
  rw [es, eo]
  have hv : 0 ≤ v + c * 268435456 ∧ v + c * 268435456 < 72057594037927936 := by
    clear c0 c1 c2 c3 c4 c5 c6 c7
    omega
  obtain ⟨d0, d1, d2, d3, d4, d5, d6, d7⟩ := chr_at hv
  refine ⟨hv, fun j j1 j2 => ?_, fun j j1 j2 => ?_⟩
  · have e : j = 0 ∨ j = 1 ∨ j = 2 ∨ j = 3 := by clear z c0 c1 c2 c3 c4 c5 c6 c7 d0 d1 d2 d3 d4 d5 d6 d7; omega
    rcases e with rfl | rfl | rfl | rfl
    · have a := h2 0 (by decide) (by decide)
      clear c1 c2 c3 c4 c5 c6 c7 d1 d2 d3 d4 d5 d6 d7
      omega
    · have a := h2 1 (by decide) (by decide)
      clear c0 c2 c3 c4 c5 c6 c7 d0 d2 d3 d4 d5 d6 d7
      omega
    · have a := h2 2 (by decide) (by decide)
      clear c0 c1 c3 c4 c5 c6 c7 d0 d1 d3 d4 d5 d6 d7
      omega
    · clear c0 c1 c2 c3 c4 c5 c6 c7 d0 d1 d2 d4 d5 d6 d7
      omega
  · have e : j = 4 ∨ j = 5 ∨ j = 6 ∨ j = 7 := by clear z c0 c1 c2 c3 c4 c5 c6 c7 d0 d1 d2 d3 d4 d5 d6 d7; omega
    rcases e with rfl | rfl | rfl | rfl
    · clear c0 c1 c2 c3 c4 c5 c6 c7 d0 d1 d2 d3 d5 d6 d7
      omega
    · clear c0 c1 c2 c3 c4 c5 c6 c7 d0 d1 d2 d3 d4 d6 d7
      omega
    · clear c0 c1 c2 c3 c4 c5 c6 c7 d0 d1 d2 d3 d4 d5 d7
      omega
    · clear c0 c1 c2 c3 c4 c5 c6 c7 d0 d1 d2 d3 d4 d5 d6
      omega
theorem okT_add_4 {v c : Int} (h : okT 4 v) (hc : 0 < c ∧ c < 128) : okT (4 + 1) (ai_lor v (ai_lshl c (7 * (7 - 4)))) := by
  obtain ⟨h1, h2, h3⟩ := h
  obtain ⟨c0, c1, c2, c3, c4, c5, c6, c7⟩ := chr_at h1
  have z : v % 268435456 = 0 := by
    have z4 := h3 4 (by decide) (by decide)
    have z5 := h3 5 (by decide) (by decide)
    have z6 := h3 6 (by decide) (by decide)
    have z7 := h3 7 (by decide) (by decide)
    omega
  have es : ai_lshl c (7 * (7 - 4)) = c * 2097152 := lshl_lit (k := 21) ⟨by omega, hc.2⟩ (by decide) (by decide)
  have eo : ai_lor v (c * 2097152) = v + c * 2097152 := by
    clear c0 c1 c2 c3 c4 c5 c6 c7
    exact lor_add (k := 28) (q := v / 268435456) (by show v = 268435456 * (v / 268435456); omega) (by omega) (by show 0 ≤ c * 2097152 ∧ c * 2097152 < 268435456; omega) (by omega)
  rw [es, eo]
  have hv : 0 ≤ v + c * 2097152 ∧ v + c * 2097152 < 72057594037927936 := by
    clear c0 c1 c2 c3 c4 c5 c6 c7
    omega
  obtain ⟨d0, d1, d2, d3, d4, d5, d6, d7⟩ := chr_at hv
  refine ⟨hv, fun j j1 j2 => ?_, fun j j1 j2 => ?_⟩
  · have e : j = 0 ∨ j = 1 ∨ j = 2 ∨ j = 3 ∨ j = 4 := by clear z c0 c1 c2 c3 c4 c5 c6 c7 d0 d1 d2 d3 d4 d5 d6 d7; omega
    rcases e with rfl | rfl | rfl | rfl | rfl
    · have a := h2 0 (by decide) (by decide)
      clear c1 c2 c3 c4 c5 c6 c7 d1 d2 d3 d4 d5 d6 d7
      omega
    · have a := h2 1 (by decide) (by decide)
      clear c0 c2 c3 c4 c5 c6 c7 d0 d2 d3 d4 d5 d6 d7
      omega
    · have a := h2 2 (by decide) (by decide)
      clear c0 c1 c3 c4 c5 c6 c7 d0 d1 d3 d4 d5 d6 d7
      omega
    · have a := h2 3 (by decide) (by decide)
      clear c0 c1 c2 c4 c5 c6 c7 d0 d1 d2 d4 d5 d6 d7
      omega
    · clear c0 c1 c2 c3 c4 c5 c6 c7 d0 d1 d2 d3 d5 d6 d7
      omega
  · have e : j = 5 ∨ j = 6 ∨ j = 7 := by clear z c0 c1 c2 c3 c4 c5 c6 c7 d0 d1 d2 d3 d4 d5 d6 d7; omega
    rcases e with rfl | rfl | rfl
    · clear c0 c1 c2 c3 c4 c5 c6 c7 d0 d1 d2 d3 d4 d6 d7
      omega
    · clear c0 c1 c2 c3 c4 c5 c6 c7 d0 d1 d2 d3 d4 d5 d7
      omega
    · clear c0 c1 c2 c3 c4 c5 c6 c7 d0 d1 d2 d3 d4 d5 d6
      omega
theorem okT_add_5 {v c : Int} (h : okT 5 v) (hc : 0 < c ∧ c < 128) : okT (5 + 1) (ai_lor v (ai_lshl c (7 * (7 - 5)))) := by
  obtain ⟨h1, h2, h3⟩ := h
  obtain ⟨c0, c1, c2, c3, c4, c5, c6, c7⟩ := chr_at h1
  have z : v % 2097152 = 0 := by
    have z5 := h3 5 (by decide) (by decide)
    have z6 := h3 6 (by decide) (by decide)
    have z7 := h3 7 (by decide) (by decide)
    omega
  have es : ai_lshl c (7 * (7 - 5)) = c * 16384 := lshl_lit (k := 14) ⟨by omega, hc.2⟩ (by decide) (by decide)
  have eo : ai_lor v (c * 16384) = v + c * 16384 := by
    clear c0 c1 c2 c3 c4 c5 c6 c7
    exact lor_add (k := 21) (q := v / 2097152) (by show v = 2097152 * (v / 2097152); omega) (by omega) (by show 0 ≤ c * 16384 ∧ c * 16384 < 2097152; omega) (by omega)
  rw [es, eo]
  have hv : 0 ≤ v + c * 16384 ∧ v + c * 16384 < 72057594037927936 := by
    clear c0 c1 c2 c3 c4 c5 c6 c7
    omega
  obtain ⟨d0, d1, d2, d3, d4, d5, d6, d7⟩ := chr_at hv
  refine ⟨hv, fun j j1 j2 => ?_, fun j j1 j2 => ?_⟩
  · have e : j = 0 ∨ j = 1 ∨ j = 2 ∨ j = 3 ∨ j = 4 ∨ j = 5 := by clear z c0 c1 c2 c3 c4 c5 c6 c7 d0 d1 d2 d3 d4 d5 d6 d7; omega
    rcases e with rfl | rfl | rfl | rfl | rfl | rfl
    · have a := h2 0 (by decide) (by decide)
      clear c1 c2 c3 c4 c5 c6 c7 d1 d2 d3 d4 d5 d6 d7
      omega
    · have a := h2 1 (by decide) (by decide)
      clear c0 c2 c3 c4 c5 c6 c7 d0 d2 d3 d4 d5 d6 d7
      omega
    · have a := h2 2 (by decide) (by decide)
      clear c0 c1 c3 c4 c5 c6 c7 d0 d1 d3 d4 d5 d6 d7
      omega
    · have a := h2 3 (by decide) (by decide)
      clear c0 c1 c2 c4 c5 c6 c7 d0 d1 d2 d4 d5 d6 d7
      omega
    · have a := h2 4 (by decide) (by decide)
      clear c0 c1 c2 c3 c5 c6 c7 d0 d1 d2 d3 d5 d6 d7
      omega
    · clear c0 c1 c2 c3 c4 c5 c6 c7 d0 d1 d2 d3 d4 d6 d7
      omega
  · have e : j = 6 ∨ j = 7 := by clear z c0 c1 c2 c3 c4 c5 c6 c7 d0 d1 d2 d3 d4 d5 d6 d7; omega
    rcases e with rfl | rfl
    · clear c0 c1 c2 c3 c4 c5 c6 c7 d0 d1 d2 d3 d4 d5 d7
      omega
    · clear c0 c1 c2 c3 c4 c5 c6 c7 d0 d1 d2 d3 d4 d5 d6
      omega
theorem okT_add_6 {v c : Int} (h : okT 6 v) (hc : 0 < c ∧ c < 128) : okT (6 + 1) (ai_lor v (ai_lshl c (7 * (7 - 6)))) := by
  obtain ⟨h1, h2, h3⟩ := h
  obtain ⟨c0, c1, c2, c3, c4, c5, c6, c7⟩ := chr_at h1
  have z : v % 16384 = 0 := by
    have z6 := h3 6 (by decide) (by decide)
    have z7 := h3 7 (by decide) (by decide)
    omega
  have es : ai_lshl c (7 * (7 - 6)) = c * 128 := lshl_lit (k := 7) ⟨by omega, hc.2⟩ (by decide) (by decide)
  have eo : ai_lor v (c * 128) = v + c * 128 := by
    clear c0 c1 c2 c3 c4 c5 c6 c7
    exact lor_add (k := 14) (q := v / 16384) (by show v = 16384 * (v / 16384); omega) (by omega) (by show 0 ≤ c * 128 ∧ c * 128 < 16384; omega) (by omega)
  rw [es, eo]
  have hv : 0 ≤ v + c * 128 ∧ v + c * 128 < 72057594037927936 := by
    clear c0 c1 c2 c3 c4 c5 c6 c7
    omega
  obtain ⟨d0, d1, d2, d3, d4, d5, d6, d7⟩ := chr_at hv
  refine ⟨hv, fun j j1 j2 => ?_, fun j j1 j2 => ?_⟩
  · have e : j = 0 ∨ j = 1 ∨ j = 2 ∨ j = 3 ∨ j = 4 ∨ j = 5 ∨ j = 6 := by clear z c0 c1 c2 c3 c4 c5 c6 c7 d0 d1 d2 d3 d4 d5 d6 d7; omega
    rcases e with rfl | rfl | rfl | rfl | rfl | rfl | rfl
    · have a := h2 0 (by decide) (by decide)
      clear c1 c2 c3 c4 c5 c6 c7 d1 d2 d3 d4 d5 d6 d7
      omega
    · have a := h2 1 (by decide) (by decide)
      clear c0 c2 c3 c4 c5 c6 c7 d0 d2 d3 d4 d5 d6 d7
      omega
    · have a := h2 2 (by decide) (by decide)
      clear c0 c1 c3 c4 c5 c6 c7 d0 d1 d3 d4 d5 d6 d7
      omega
    · have a := h2 3 (by decide) (by decide)
      clear c0 c1 c2 c4 c5 c6 c7 d0 d1 d2 d4 d5 d6 d7
      omega
    · have a := h2 4 (by decide) (by decide)
      clear c0 c1 c2 c3 c5 c6 c7 d0 d1 d2 d3 d5 d6 d7
      omega
    · have a := h2 5 (by decide) (by decide)
      clear c0 c1 c2 c3 c4 c6 c7 d0 d1 d2 d3 d4 d6 d7
      omega
    · clear c0 c1 c2 c3 c4 c5 c6 c7 d0 d1 d2 d3 d4 d5 d7
      omega
  · have e : j = 7 := by clear z c0 c1 c2 c3 c4 c5 c6 c7 d0 d1 d2 d3 d4 d5 d6 d7; omega
    subst e
    clear c0 c1 c2 c3 c4 c5 c6 c7 d0 d1 d2 d3 d4 d5 d6
    omega
theorem okT_add_7 {v c : Int} (h : okT 7 v) (hc : 0 < c ∧ c < 128) : okT (7 + 1) (ai_lor v (ai_lshl c (7 * (7 - 7)))) := by
  obtain ⟨h1, h2, h3⟩ := h
  obtain ⟨c0, c1, c2, c3, c4, c5, c6, c7⟩ := chr_at h1
  have z : v % 128 = 0 := by
    have z7 := h3 7 (by decide) (by decide)
    omega
  have es : ai_lshl c (7 * (7 - 7)) = c * 1 := lshl_lit (k := 0) ⟨by omega, hc.2⟩ (by decide) (by decide)
  have eo : ai_lor v (c * 1) = v + c * 1 := by
    clear c0 c1 c2 c3 c4 c5 c6 c7
    exact lor_add (k := 7) (q := v / 128) (by show v = 128 * (v / 128); omega) (by omega) (by show 0 ≤ c * 1 ∧ c * 1 < 128; omega) (by omega)
  rw [es, eo]
  have hv : 0 ≤ v + c * 1 ∧ v + c * 1 < 72057594037927936 := by
    clear c0 c1 c2 c3 c4 c5 c6 c7
    omega
  obtain ⟨d0, d1, d2, d3, d4, d5, d6, d7⟩ := chr_at hv
  refine ⟨hv, fun j j1 j2 => ?_, fun j j1 j2 => ?_⟩
  · have e : j = 0 ∨ j = 1 ∨ j = 2 ∨ j = 3 ∨ j = 4 ∨ j = 5 ∨ j = 6 ∨ j = 7 := by clear z c0 c1 c2 c3 c4 c5 c6 c7 d0 d1 d2 d3 d4 d5 d6 d7; omega
    rcases e with rfl | rfl | rfl | rfl | rfl | rfl | rfl | rfl
    · have a := h2 0 (by decide) (by decide)
      clear c1 c2 c3 c4 c5 c6 c7 d1 d2 d3 d4 d5 d6 d7
      omega
    · have a := h2 1 (by decide) (by decide)
      clear c0 c2 c3 c4 c5 c6 c7 d0 d2 d3 d4 d5 d6 d7
      omega
    · have a := h2 2 (by decide) (by decide)
      clear c0 c1 c3 c4 c5 c6 c7 d0 d1 d3 d4 d5 d6 d7
      omega
    · have a := h2 3 (by decide) (by decide)
      clear c0 c1 c2 c4 c5 c6 c7 d0 d1 d2 d4 d5 d6 d7
      omega
    · have a := h2 4 (by decide) (by decide)
      clear c0 c1 c2 c3 c5 c6 c7 d0 d1 d2 d3 d5 d6 d7
      omega
    · have a := h2 5 (by decide) (by decide)
      clear c0 c1 c2 c3 c4 c6 c7 d0 d1 d2 d3 d4 d6 d7
      omega
    · have a := h2 6 (by decide) (by decide)
      clear c0 c1 c2 c3 c4 c5 c7 d0 d1 d2 d3 d4 d5 d7
      omega
    · clear c0 c1 c2 c3 c4 c5 c6 c7 d0 d1 d2 d3 d4 d5 d6
      omega
  · have e : False := by clear z c0 c1 c2 c3 c4 c5 c6 c7 d0 d1 d2 d3 d4 d5 d6 d7; omega
    exact e.elim
theorem okT_add {i v c : Int} (h : okT i v) (hi : 0 ≤ i ∧ i < 8) (hc : 0 < c ∧ c < 128) : okT (i + 1) (ai_lor v (ai_lshl c (7 * (7 - i)))) := by
  have e : i = 0 ∨ i = 1 ∨ i = 2 ∨ i = 3 ∨ i = 4 ∨ i = 5 ∨ i = 6 ∨ i = 7 := by omega
  rcases e with rfl | rfl | rfl | rfl | rfl | rfl | rfl | rfl
  · exact okT_add_0 h hc
  · exact okT_add_1 h hc
  · exact okT_add_2 h hc
  · exact okT_add_3 h hc
  · exact okT_add_4 h hc
  · exact okT_add_5 h hc
  · exact okT_add_6 h hc
  · exact okT_add_7 h hc
def ltr (n : Int) (tx : Int → Int) : Nat → Int → Int → Int → Int × Int
  | 0, _, _, v => (0, v)
  | k + 1, i, p, v => if p < n ∧ 97 ≤ tx p ∧ tx p ≤ 122 then ((ltr n tx k (i + 1) (p + 1) (ai_lor v (ai_lshl (tx p) (7 * (7 - i))))).1 + 1, (ltr n tx k (i + 1) (p + 1) (ai_lor v (ai_lshl (tx p) (7 * (7 - i))))).2) else (0, v)
theorem ltr_1 (n : Int) (tx : Int → Int) : ∀ (k : Nat) (i p v : Int), 0 ≤ (ltr n tx k i p v).1 ∧ (ltr n tx k i p v).1 ≤ (k : Int) ∧ (p ≤ n → p + (ltr n tx k i p v).1 ≤ n) := by
  intro k
  induction k with
  | zero =>
    intro i p v
    show 0 ≤ (0 : Int) ∧ (0 : Int) ≤ ((0 : Nat) : Int) ∧ (p ≤ n → p + 0 ≤ n)
    omega
  | succ k ih =>
    intro i p v
    unfold ltr
    split
    · have := ih (i + 1) (p + 1) (ai_lor v (ai_lshl (tx p) (7 * (7 - i))))
      show 0 ≤ (ltr n tx k (i + 1) (p + 1) (ai_lor v (ai_lshl (tx p) (7 * (7 - i))))).1 + 1 ∧ (ltr n tx k (i + 1) (p + 1) (ai_lor v (ai_lshl (tx p) (7 * (7 - i))))).1 + 1 ≤ ((k + 1 : Nat) : Int) ∧ (p ≤ n → p + ((ltr n tx k (i + 1) (p + 1) (ai_lor v (ai_lshl (tx p) (7 * (7 - i))))).1 + 1) ≤ n)
      omega
    · show 0 ≤ (0 : Int) ∧ (0 : Int) ≤ ((k + 1 : Nat) : Int) ∧ (p ≤ n → p + 0 ≤ n)
      omega
theorem ltr_2 (n : Int) (tx : Int → Int) : ∀ (k : Nat) (i p v : Int), 0 ≤ i → i + (k : Int) ≤ 8 → okT i v → wfT (ltr n tx k i p v).2 := by
  intro k
  induction k with
  | zero => exact fun i p v _ _ h => okT_wf h
  | succ k ih =>
    intro i p v h0 h1 h
    unfold ltr
    split
    · rename_i g
      exact ih (i + 1) (p + 1) _ (by omega) (by omega) (okT_add h ⟨h0, by omega⟩ ⟨by omega, by omega⟩)
    · exact okT_wf h
theorem cf_addch {sc : Int × (Int → Int)} {σ : ai_S} {p x y c i : Int} (hc : 0 ≤ c ∧ c ≤ 65535) : fn sc 85 [some (.inr (.inr 34)), some (.inl c), some (.inl i)] (RD σ p x y) none (RD σ p (ai_lor x (ai_lshl c (7 * (7 - i)))) y) := by
  intro Q hQ
  refine rb_85_0 ⟨⟨by omega, by omega⟩, ?_⟩
  show Q (.inl none, (92, [], ai_set (RD σ p x y) 34 3 (ai_lor x (ai_lshl c (7 * (7 - i))))))
  rw [rd3]
  exact hQ
theorem cf_char {sc : Int × (Int → Int)} {σ : ai_S} {n : Int} {tx : Int → Int} {p x y q : Int} (hT : TX n tx) (hσ : cT σ n tx) (hq : 0 ≤ q ∧ q ≤ 1000) : fn sc 88 [some (.inr (.inr 34)), some (.inl q)] (RD σ p x y) (some (.inl (if n ≤ q then -1 else tx q))) (RD σ p x y) := by
  obtain ⟨e1, e2⟩ := hσ
  subst e1
  subst e2
  intro Q hQ
  have hn := hT.1
  exact pc_88 ⟨⟨⟨by omega, by omega⟩, (show ai_r (σ 34 0) from ⟨by omega, by omega⟩)⟩, fun h => ⟨by omega, by have h2 : ¬ σ 34 0 ≤ q := h; omega⟩⟩ hQ
theorem rf_isLetter {sc : Int × (Int → Int)} {σ : ai_S} {n : Int} {tx : Int → Int} {p : Int} {F G : Int → Int} (hT : TX n tx) (hσ : rT σ n tx) (hp : 0 ≤ p ∧ p ≤ n) : fn sc 138 [some (.inr (.inr 59))] (RP σ p F G) (some (.inl (bi (p < n ∧ 97 ≤ tx p ∧ tx p ≤ 122)))) (RP σ p F G) := by
  have hpk := rf_peek (sc := sc) (F := F) (G := G) hT hσ hp
  intro Q hQ
  have ht := hT.2 p
  have hr : ai_r (if n ≤ p then 0 else tx p) := by
    split
    · exact ⟨by decide, by decide⟩
    · exact ⟨by omega, by omega⟩
  have hno : ¬ (p < n ∧ 97 ≤ tx p ∧ tx p ≤ 122) → Q (.inl (some (.inl 0)), (92, [], RP σ p F G)) := by
    intro g
    rw [bi_eq0.mpr g] at hQ
    exact hQ
  refine rb_138_0 (fn_ret hpk (rb_138_2 ⟨⟨hr, ⟨by decide, by decide⟩⟩, fun h => ⟨⟨by decide, by decide⟩, hno (fun g => ?_)⟩, fun h => fn_ret hpk (rb_138_6 ⟨⟨hr, ⟨by decide, by decide⟩⟩, fun h2 => ⟨⟨by decide, by decide⟩, hno (fun g => ?_)⟩, fun h2 => ⟨⟨by decide, by decide⟩, ?_⟩⟩)⟩))
  · rw [if_neg (by omega)] at h
    omega
  · rw [if_neg (by omega)] at h2
    omega
  · have g : p < n ∧ 97 ≤ tx p ∧ tx p ≤ 122 := by
      by_cases h3 : n ≤ p
      · rw [if_pos h3] at h
        omega
      · rw [if_neg h3] at h h2
        omega
    rw [bi_eq1.mpr g] at hQ
    exact hQ
theorem rd_let {sc : Int × (Int → Int)} {n : Int} {tx : Int → Int} {p : Int} (hT : TX n tx) (hp : 0 ≤ p ∧ p ≤ n) : ∃ ok p' v, (ok = 0 ∨ ok = 1) ∧ (p ≤ p' ∧ p' ≤ n) ∧ (ok = 1 → wfT v) ∧ rdC sc n tx 82 [some (.inr (.inr 34)), none, none] p ok p' v ∧ rdR sc n tx 142 (fun k => [some (.inr (.inr 59)), some (.inl k), none, none, none]) p ok p' v := by
  have hn := hT.1
  have hd1 := ltr_1 n tx 8 0 p 0
  have hd2 := ltr_2 n tx 8 0 p 0 (Int.le_refl 0) (by decide) okT_0
  have hc : ∀ (σ : ai_S) (y : Int) (Q : ai_O → Prop), cT σ n tx → ∀ (m : Nat) (i q w : Int) (x : Option ai_V), 0 ≤ i → i + (m : Int) = 8 → (0 ≤ q ∧ q ≤ n) → (∀ r, r = (if i + (ltr n tx m i q w).1 = 0 then 0 else 1) → Q (.inl (some (.inl r)), (92, [], RD σ (q + (ltr n tx m i q w).1) (ltr n tx m i q w).2 y))) → ai_wp sc 82 2 [some (.inr (.inr 34)), some (.inl i), x] [] (0, 0) (92, [], RD σ q w y) Q := by
    intro σ y Q hσ m
    induction m with
    | zero =>
      intro i q w x hi hm hq hh
      have h2 := hh 1 (by
        show (1 : Int) = if i + 0 = 0 then 0 else 1
        rw [if_neg (by omega)])
      have h3 : Q (.inl (some (.inl 1)), (92, [], RD σ (q + 0) w y)) := h2
      rw [Int.add_zero] at h3
      exact rh_82_2 ⟨⟨⟨by omega, by omega⟩, ⟨by decide, by decide⟩⟩, fun _ => ⟨⟨by decide, by decide⟩, h3⟩, fun g => absurd (show 8 ≤ i by omega) g⟩
    | succ m ih =>
      intro i q w x hi hm hq hh
      have ht := hT.2 q
      have hch := cf_char (sc := sc) (p := q) (x := w) (y := y) (q := q) hT hσ ⟨hq.1, by omega⟩
      unfold ltr at hh
      have hr : ai_r (if n ≤ q then -1 else tx q) := by
        split
        · exact ⟨by decide, by decide⟩
        · exact ⟨by omega, by omega⟩
      have stop : ¬ (q < n ∧ 97 ≤ tx q ∧ tx q ≤ 122) → (ai_r i) ∧ ((i ≤ 0) → ((0 ≤ (0 : Int) ∧ (0 : Int) ≤ 1) ∧ (Q (.inl (some (.inl 0)), (92, [], RD σ q w y))))) ∧ (¬ (i ≤ 0) → ((0 ≤ (1 : Int) ∧ (1 : Int) ≤ 1) ∧ (Q (.inl (some (.inl 1)), (92, [], RD σ q w y))))) := by
        intro g
        rw [if_neg g] at hh
        have h3 : ∀ r, r = (if i + 0 = 0 then 0 else 1) → Q (.inl (some (.inl r)), (92, [], RD σ (q + 0) w y)) := hh
        rw [Int.add_zero, Int.add_zero] at h3
        exact ⟨⟨by omega, by omega⟩, fun g2 => ⟨⟨by decide, by decide⟩, h3 0 (by rw [if_pos (by omega)])⟩, fun g2 => ⟨⟨by decide, by decide⟩, h3 1 (by rw [if_neg (by omega)])⟩⟩
      refine rh_82_2 ⟨⟨⟨by omega, by omega⟩, ⟨by decide, by decide⟩⟩, fun g => absurd g (by omega), fun _ => fn_ret hch (rb_82_9 ⟨⟨hr, ⟨by decide, by decide⟩⟩, fun g => stop (fun z => ?_), fun g => ⟨⟨hr, ⟨by decide, by decide⟩⟩, fun g2 => ?_, fun g2 => stop (fun z => ?_)⟩⟩)⟩
      · rw [if_neg (by omega)] at g
        omega
      · have g3 : ¬ n ≤ q := fun e => by
          rw [if_pos e] at g
          omega
        rw [if_neg g3] at g g2 ⊢
        have g4 : q < n ∧ 97 ≤ tx q ∧ tx q ≤ 122 := ⟨by omega, by omega, g2⟩
        rw [if_pos g4] at hh
        refine fn_ret (cf_addch ⟨by omega, by omega⟩) (rb_82_26 ?_)
        show ai_wp sc 82 2 _ [] (0, 0) (92, [], ai_set (RD σ q _ y) 34 1 (q + 1)) Q
        rw [rd1]
        refine ih (i + 1) (q + 1) _ _ (by omega) (by omega) (by omega) (fun r hr2 => ?_)
        have h3 := hh r (by
          show r = if i + ((ltr n tx m (i + 1) (q + 1) (ai_lor w (ai_lshl (tx q) (7 * (7 - i))))).1 + 1) = 0 then 0 else 1
          rw [hr2, show i + 1 + (ltr n tx m (i + 1) (q + 1) (ai_lor w (ai_lshl (tx q) (7 * (7 - i))))).1 = i + ((ltr n tx m (i + 1) (q + 1) (ai_lor w (ai_lshl (tx q) (7 * (7 - i))))).1 + 1) by omega])
        rw [show q + 1 + (ltr n tx m (i + 1) (q + 1) (ai_lor w (ai_lshl (tx q) (7 * (7 - i))))).1 = q + ((ltr n tx m (i + 1) (q + 1) (ai_lor w (ai_lshl (tx q) (7 * (7 - i))))).1 + 1) by omega]
        exact h3
      · rw [if_neg (by omega)] at g2
        omega
  have hr : ∀ (σ : ai_S) (F G : Int → Int) (k : Int) (Q : ai_O → Prop), rT σ n tx → (0 ≤ k ∧ k < 120) → ∀ (m : Nat) (i q w : Int), 0 ≤ i → i + (m : Int) = 8 → (0 ≤ q ∧ q ≤ n) → (∀ r, r = (if i + (ltr n tx m i q w).1 = 0 then 0 else 1) → Q (.inl (some (.inl r)), (92, [], RP σ (q + (ltr n tx m i q w).1) (fun j => if j = k then (ltr n tx m i q w).2 else F j) (fun j => if j = k then 0 else G j)))) → ai_wp sc 142 4 [some (.inr (.inr 59)), some (.inl k), some (.inr (.inl w)), none, some (.inl i)] [] (0, 0) (92, [], RP σ q F G) Q := by
    intro σ F G k Q hσ hk m
    induction m with
    | zero =>
      intro i q w hi hm hq hh
      have h2 := hh 1 (by
        show (1 : Int) = if i + 0 = 0 then 0 else 1
        rw [if_neg (by omega)])
      have h3 : Q (.inl (some (.inl 1)), (92, [], RP σ (q + 0) (fun j => if j = k then w else F j) (fun j => if j = k then 0 else G j))) := h2
      rw [Int.add_zero] at h3
      exact rb_142_4 ⟨⟨⟨by omega, by omega⟩, ⟨by decide, by decide⟩⟩, fun _ => fn_ret (rf_put hk (by decide)) (rb_142_35 ⟨⟨by omega, by omega⟩, fun g => absurd g (by omega), fun _ => ⟨⟨by decide, by decide⟩, h3⟩⟩), fun g => absurd (show 8 ≤ i by omega) g⟩
    | succ m ih =>
      intro i q w hi hm hq hh
      have ht := hT.2 q
      have hil := rf_isLetter (sc := sc) (F := F) (G := G) hT hσ hq
      have hpk := rf_peek (sc := sc) (F := F) (G := G) hT hσ hq
      unfold ltr at hh
      by_cases g : q < n ∧ 97 ≤ tx q ∧ tx q ≤ 122
      · rw [bi_eq1.mpr g] at hil
        rw [if_neg (by omega)] at hpk
        rw [if_pos g] at hh
        refine rb_142_4 ⟨⟨⟨by omega, by omega⟩, ⟨by decide, by decide⟩⟩, fun g => absurd g (by omega), fun _ => fn_ret hil (rb_142_9 ⟨⟨by decide, by decide⟩, fun g => absurd g (by decide), fun _ => fn_ret hpk (rb_142_13 ⟨⟨by omega, by omega⟩, ?_⟩)⟩)⟩
        rw [show 49 - (7 * i) = 7 * (7 - i) by omega]
        show ai_wp sc 142 4 _ [] (0, 0) (92, [], ai_set (RP σ q F G) 59 17 (q + 1)) Q
        rw [rpq1]
        refine ih (i + 1) (q + 1) _ (by omega) (by omega) (by omega) (fun r hr2 => ?_)
        have h3 := hh r (by
          show r = if i + ((ltr n tx m (i + 1) (q + 1) (ai_lor w (ai_lshl (tx q) (7 * (7 - i))))).1 + 1) = 0 then 0 else 1
          rw [hr2, show i + 1 + (ltr n tx m (i + 1) (q + 1) (ai_lor w (ai_lshl (tx q) (7 * (7 - i))))).1 = i + ((ltr n tx m (i + 1) (q + 1) (ai_lor w (ai_lshl (tx q) (7 * (7 - i))))).1 + 1) by omega])
        rw [show q + 1 + (ltr n tx m (i + 1) (q + 1) (ai_lor w (ai_lshl (tx q) (7 * (7 - i))))).1 = q + ((ltr n tx m (i + 1) (q + 1) (ai_lor w (ai_lshl (tx q) (7 * (7 - i))))).1 + 1) by omega]
        exact h3
      · rw [bi_eq0.mpr g] at hil
        rw [if_neg g] at hh
        have h3 : ∀ r, r = (if i + 0 = 0 then 0 else 1) → Q (.inl (some (.inl r)), (92, [], RP σ (q + 0) (fun j => if j = k then w else F j) (fun j => if j = k then 0 else G j))) := hh
        rw [Int.add_zero, Int.add_zero] at h3
        exact rb_142_4 ⟨⟨⟨by omega, by omega⟩, ⟨by decide, by decide⟩⟩, fun g => absurd g (by omega), fun _ => fn_ret hil (rb_142_9 ⟨⟨by decide, by decide⟩, fun _ => fn_ret (rf_put hk (by decide)) (rb_142_35 ⟨⟨by omega, by omega⟩, fun g2 => ⟨⟨by decide, by decide⟩, h3 0 (by rw [if_pos (by omega)])⟩, fun g2 => ⟨⟨by decide, by decide⟩, h3 1 (by rw [if_neg (by omega)])⟩⟩), fun g => absurd rfl g⟩)⟩
  refine ⟨if (ltr n tx 8 0 p 0).1 = 0 then 0 else 1, p + (ltr n tx 8 0 p 0).1, (ltr n tx 8 0 p 0).2, by split <;> omega, ⟨by omega, by omega⟩, fun _ => hd2, fun σ y hσ => ⟨_, fun Q hQ => rb_82_0 (hc σ y Q hσ 8 0 p 0 none (Int.le_refl 0) (by decide) hp (fun r hr => ?_)), fun _ => rfl⟩, fun σ F G k hσ hk => ⟨_, _, fun Q hQ => rb_142_0 (hr σ F G k Q hσ hk 8 0 p 0 (Int.le_refl 0) (by decide) hp (fun r hr => ?_)), fun _ => ⟨rfl, rfl⟩, gb0⟩⟩
  · rw [Int.zero_add] at hr
    rw [hr]
    exact hQ
  · rw [Int.zero_add] at hr
    rw [hr]
    exact hQ
