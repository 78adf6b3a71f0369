/-! THE SOUNDNESS of the machine of places: what ends there as Q asks, ends so in the machine. -/
theorem ai_okf_use {m n : Nat} {x : ai_X} {pt : Bool} (h : ai_okf m x n pt = true) : ∃ (C : String) (T : u_T) (N : Nat), vwCl[x.1]? = some (C, T, N) ∧ x.2.1 < N ∧ Cond.fieldLink (ai_mY m).cls n C (T x.2.1).2.1 (T x.2.1).2.2.1 ∈ ai_WS ∧ ai_kd x.1 x.2.1 = x.2.2.1 ∧ (pt = true → (T x.2.1).2.2.2 = false ∨ ((T x.2.1).2.2.2 = true ∧ (ai_mY m).name = "<init>" ∧ C = (ai_mY m).cls)) := by
  unfold ai_okf at h
  split at h
  · rename_i C T N hcl
    obtain ⟨h, h4⟩ := iv_and2 h
    obtain ⟨h, h3⟩ := iv_and2 h
    obtain ⟨h, h2⟩ := iv_and2 h
    refine ⟨C, T, N, hcl, iv_blt h, ai_wd_in h2, Nat.eq_of_beq_eq_true h3, fun hp => ?_⟩
    subst hp
    cases hf : (T x.2.1).2.2.2 with
    | false => exact Or.inl rfl
    | true =>
      rw [hf] at h4
      have h5 : (decide ((ai_mY m).name = "<init>") && decide (C = (ai_mY m).cls)) = true := h4
      obtain ⟨h5, h6⟩ := iv_and2 h5
      exact Or.inr ⟨rfl, of_decide_eq_true h5, of_decide_eq_true h6⟩
  · cases h
theorem ai_rmk_use {m m' : Nat} (h : ai_rmk m m' = true) : (ai_rm m').frames + 1 ≤ (ai_rm m).frames ∧ 8 + (ai_mL m' + 11) + (ai_rm m').locals ≤ (ai_rm m).locals := by
  obtain ⟨h1, h2⟩ := iv_and2 h
  exact ⟨iv_ble h1, iv_ble h2⟩
theorem ai_okv_use {m n kd : Nat} {x : ai_X} (h : ai_okv m x n kd = true) : Cond.methodLink (ai_mY m).cls n (ai_mY x.1) ∈ ai_WS ∧ ai_mK x.1 = kd ∧ x.1 < 206 ∧ x.2.1 = ai_mN x.1 + (if kd = 2 then 0 else 1) ∧ ai_rmk m x.1 = true ∧ (kd = 2 → (ai_mY x.1).cls = (ai_mY m).cls ∧ x.2.2.1 = 0) ∧ (kd = 1 → x.2.2.1 = 0 ∧ ai_hh x.1 = []) ∧ (kd = 0 → ai_hh x.1 = []) := by
  unfold ai_okv at h
  obtain ⟨h, h6⟩ := iv_and2 h
  obtain ⟨h, h5⟩ := iv_and2 h
  obtain ⟨h, h4⟩ := iv_and2 h
  obtain ⟨h, h3⟩ := iv_and2 h
  obtain ⟨h1, h2⟩ := iv_and2 h
  refine ⟨ai_wd_in h1, Nat.eq_of_beq_eq_true h2, iv_blt h3, Nat.eq_of_beq_eq_true h4, h5, fun q => ?_, fun q => ?_, fun q => ?_⟩
  · subst q
    obtain ⟨g1, g2⟩ := iv_and2 h6
    exact ⟨of_decide_eq_true g1, Nat.eq_of_beq_eq_true g2⟩
  · subst q
    obtain ⟨g1, g2⟩ := iv_and2 h6
    exact ⟨Nat.eq_of_beq_eq_true g1, List.isEmpty_iff.mp g2⟩
  · subst q
    exact List.isEmpty_iff.mp h6
theorem ai_meth_use {m : Nat} (h : m < 206) : Cond.initialized (ai_mY m).cls ∈ ai_WS ∧ ((ai_mY m).cls ≠ "java/lang/invoke/MethodHandle" ∧ (ai_mY m).cls ≠ "java/lang/invoke/VarHandle" ∧ (parseMethodDescriptor (ai_mY m).desc).map (fun d => d.parameters.length) = some (ai_mN m)) ∧ plainName (ai_mY m).cls = true ∧ ai_pc m 0 = 0 ∧ (ai_mK m = 0 → Cond.instanceMethod (ai_mY m) ∈ ai_WS ∧ Cond.selects (ai_mY m).cls (ai_mY m) (ai_mY m) ∈ ai_WS ∧ ∃ T N, vwCl[ai_mC m]? = some ((ai_mY m).cls, T, N)) ∧ (ai_mK m = 1 → Cond.instanceMethod (ai_mY m) ∈ ai_WS ∧ (ai_mY m).name = "<init>" ∧ ai_mR m = none) ∧ (ai_mK m = 2 → Cond.static (ai_mY m) ∈ ai_WS) := by
  have h0 := ai_meth h
  unfold ai_okY at h0
  obtain ⟨h0, h7⟩ := iv_and2 h0
  obtain ⟨h0, h6⟩ := iv_and2 h0
  obtain ⟨h0, h5⟩ := iv_and2 h0
  obtain ⟨h0, h4⟩ := iv_and2 h0
  obtain ⟨h0, h3⟩ := iv_and2 h0
  obtain ⟨h1, h2⟩ := iv_and2 h0
  refine ⟨ai_wd_in h1, ⟨of_decide_eq_true h2, of_decide_eq_true h3, of_decide_eq_true h4⟩, h5, Nat.eq_of_beq_eq_true h6, fun q => ?_, fun q => ?_, fun q => ?_⟩
  · rw [q] at h7
    obtain ⟨h7, g3⟩ := iv_and2 h7
    obtain ⟨g1, g2⟩ := iv_and2 h7
    refine ⟨ai_wd_in g1, ai_wd_in g2, ?_⟩
    have g4 := of_decide_eq_true g3
    cases hv : vwCl[ai_mC m]? with
    | none => rw [hv] at g4; cases g4
    | some y =>
      obtain ⟨C, T, N⟩ := y
      rw [hv] at g4
      cases g4
      exact ⟨T, N, rfl⟩
  · rw [q] at h7
    obtain ⟨h7, g3⟩ := iv_and2 h7
    obtain ⟨g1, g2⟩ := iv_and2 h7
    exact ⟨ai_wd_in g1, of_decide_eq_true g2, of_decide_eq_true g3⟩
  · rw [q] at h7
    exact ai_wd_in h7
