/-! GROUND FOR THE CONTRACTS: calls, stores, comparisons, bits. -/
def ai_k (K : Option ai_V → ai_H → Prop) (o : ai_O) : Prop := ∃ v h', o = (.inl v, h') ∧ K v h'
theorem ai_ret_q {sc : Int × (Int → Int)} {m' : Nat} {args : ai_L} {h : ai_H} {K : Option ai_V → ai_H → Prop} (hw : ai_wp sc m' 0 args [] (0, 0) h (ai_k K)) : ai_ret (ai_wp sc) m' args h K := ⟨_, hw, fun _ ho => ho⟩
theorem ai_k_in {K : Option ai_V → ai_H → Prop} {v : Option ai_V} {h' : ai_H} (h : K v h') : ai_k K (.inl v, h') := ⟨v, h', rfl, h⟩
theorem st_same_at (σ : ai_S) (p : Nat) (i v : Int) : ai_set σ p i v p i = v := by simp [ai_set]
theorem st_pl {σ : ai_S} {p q : Nat} {i j v : Int} (h : q ≠ p) : ai_set σ p i v q j = σ q j := by simp [ai_set, h]
theorem st_ix {σ : ai_S} {p : Nat} {i j v : Int} (h : j ≠ i) : ai_set σ p i v p j = σ p j := by simp [ai_set, h]
theorem cmp_r (a b : Int) : ai_r (ai_cmp a b) := by
  unfold ai_cmp ai_r
  split
  · omega
  · split <;> omega
theorem cmp_eq {a b : Int} : ai_cmp a b = 0 ↔ a = b := by
  unfold ai_cmp
  split
  · omega
  · split <;> omega
theorem cmp_lt {a b : Int} : ai_cmp a b < 0 ↔ a < b := by
  unfold ai_cmp
  split
  · omega
  · split <;> omega
theorem cmp_le {a b : Int} : ai_cmp a b ≤ 0 ↔ a ≤ b := by
  unfold ai_cmp
  split
  · omega
  · split <;> omega
theorem cmp_gt {a b : Int} : 0 < ai_cmp a b ↔ b < a := by
  unfold ai_cmp
  split
  · omega
  · split <;> omega
theorem cmp_ge {a b : Int} : 0 ≤ ai_cmp a b ↔ b ≤ a := by
  unfold ai_cmp
  split
  · omega
  · split <;> omega
/-- bit c of n -/
def tb (n c : Int) : Bool := decide (ai_and (ai_shr n c) 1 = 1)
theorem bit_all : (List.range 32).all (fun n => (List.range 5).all (fun c => decide (ai_and (ai_shr (Int.ofNat n) (Int.ofNat c)) 1 = 0 ∨ ai_and (ai_shr (Int.ofNat n) (Int.ofNat c)) 1 = 1) && decide (0 ≤ ai_or (Int.ofNat n) (ai_shl 1 (Int.ofNat c)) ∧ ai_or (Int.ofNat n) (ai_shl 1 (Int.ofNat c)) < 32) && decide (0 ≤ ai_and (Int.ofNat n) (ai_xor (ai_shl 1 (Int.ofNat c)) (-1)) ∧ ai_and (Int.ofNat n) (ai_xor (ai_shl 1 (Int.ofNat c)) (-1)) < 32) &&
  (List.range 5).all (fun d => decide (tb (ai_or (Int.ofNat n) (ai_shl 1 (Int.ofNat c))) (Int.ofNat d) = (tb (Int.ofNat n) (Int.ofNat d) || decide (d = c))) && decide (tb (ai_and (Int.ofNat n) (ai_xor (ai_shl 1 (Int.ofNat c)) (-1))) (Int.ofNat d) = (tb (Int.ofNat n) (Int.ofNat d) && !decide (d = c)))))) = true := by decide +kernel
theorem bit_facts {n c : Int} (hn : 0 ≤ n ∧ n < 32) (hc : 0 ≤ c ∧ c < 5) : (ai_and (ai_shr n c) 1 = 0 ∨ ai_and (ai_shr n c) 1 = 1) ∧ (0 ≤ ai_or n (ai_shl 1 c) ∧ ai_or n (ai_shl 1 c) < 32) ∧ (0 ≤ ai_and n (ai_xor (ai_shl 1 c) (-1)) ∧ ai_and n (ai_xor (ai_shl 1 c) (-1)) < 32) ∧ ∀ d, 0 ≤ d ∧ d < 5 → tb (ai_or n (ai_shl 1 c)) d = (tb n d || decide (d = c)) ∧ tb (ai_and n (ai_xor (ai_shl 1 c) (-1))) d = (tb n d && !decide (d = c)) := by
  obtain ⟨n', rfl⟩ := Int.eq_ofNat_of_zero_le hn.1
  obtain ⟨c', rfl⟩ := Int.eq_ofNat_of_zero_le hc.1
  have h := List.all_eq_true.mp (List.all_eq_true.mp bit_all n' (List.mem_range.mpr (by omega))) c' (List.mem_range.mpr (by omega))
  simp only [Bool.and_eq_true, decide_eq_true_eq] at h
  refine ⟨h.1.1.1, h.1.1.2, h.1.2, fun d hd => ?_⟩
  obtain ⟨d', rfl⟩ := Int.eq_ofNat_of_zero_le hd.1
  have h2 := List.all_eq_true.mp h.2 d' (List.mem_range.mpr (by omega))
  simp only [Bool.and_eq_true, decide_eq_true_eq] at h2
  have e : decide ((d' : Int) = (c' : Int)) = decide (d' = c') := by simp only [Int.natCast_inj]
  rw [e]
  exact h2
theorem bit_r {n c : Int} (hn : 0 ≤ n ∧ n < 32) (hc : 0 ≤ c ∧ c < 5) : ai_r (ai_and (ai_shr n c) 1) := by
  rcases (bit_facts hn hc).1 with h | h <;> rw [h] <;> exact ⟨by decide, by decide⟩
theorem bit_ne {n c : Int} (hn : 0 ≤ n ∧ n < 32) (hc : 0 ≤ c ∧ c < 5) : ¬ ai_and (ai_shr n c) 1 = 0 ↔ tb n c = true := by
  unfold tb
  rcases (bit_facts hn hc).1 with h | h <;> rw [h] <;> decide
theorem bit_eq {n c : Int} (hn : 0 ≤ n ∧ n < 32) (hc : 0 ≤ c ∧ c < 5) : ai_and (ai_shr n c) 1 = 0 ↔ tb n c = false := by
  unfold tb
  rcases (bit_facts hn hc).1 with h | h <;> rw [h] <;> decide
