/-! WHO REFERS: the two questions are one. -/
theorem bit_no {nu no : Int → Int} (hnu : ∀ q, 0 ≤ nu q ∧ nu q < 32) (he : ∀ q c, 0 ≤ q → q < 60 → 0 ≤ c → c < 5 → no (5 * q + c) = bi (tb (nu q) c = true)) {q c : Int} (hq : 0 ≤ q ∧ q < 60) (hc : 0 ≤ c ∧ c < 5) : ai_and (ai_shr (nu q) c) 1 = 0 ↔ no (5 * q + c) = 0 := by
  rw [he q c hq.1 hq.2 hc.1 hc.2, bi_eq0, bit_eq (hnu q) hc]
  cases tb (nu q) c <;> simp
theorem ar_same {T : Int} {w pa cn ce nu mn vl no : Int → Int} {t r : Int} (hE : EqS cn ce nu mn vl no) (hnu : ∀ q, 0 ≤ nu q ∧ nu q < 32) (hn : ∀ u, 0 ≤ cn u ∧ cn u ≤ 12) (hw : ∀ u, 0 ≤ w u ∧ w u ≤ 5) (hT : T ≤ 5) (hr : 0 ≤ r) : ARp T w pa cn ce nu t r ↔ ∃ u q c, (0 ≤ u ∧ u < T) ∧ RRp w pa mn vl no t r u q c := by
  obtain ⟨e1, e2, e3⟩ := hE
  subst e1
  subst e2
  constructor
  · intro h
    obtain ⟨u, u1, u2, c, c1, c2, c3, q, q1, q2, q3, q4, q5⟩ := h
    have h1 := hn u
    have h2 := hw u
    have hb := (bit_no hnu e3 (q := 12 * u + q) (c := c) ⟨by omega, by omega⟩ ⟨c1, by omega⟩).mp q4
    rw [show 5 * (12 * u + q) + c = 60 * u + 5 * q + c by omega] at hb
    refine ⟨u, q, c, ⟨u1, u2⟩, q1, q2, c1, c2, c3, hb, q5, fun z => ?_⟩
    rw [if_pos z.1] at q3
    exact q3 z.2
  · intro h
    obtain ⟨u, q, c, u1, q1, q2, c1, c2, c3, hb, q5, q6⟩ := h
    have h1 := hn u
    have h2 := hw u
    refine ⟨u, u1.1, u1.2, c, c1, c2, c3, q, q1, q2, fun z => ?_, ?_, q5⟩
    · by_cases e : u = t
      · rw [if_pos e] at z
        exact q6 ⟨e, z⟩
      · rw [if_neg e] at z
        omega
    · refine (bit_no hnu e3 (q := 12 * u + q) (c := c) ⟨by omega, by omega⟩ ⟨c1, by omega⟩).mpr ?_
      rw [show 5 * (12 * u + q) + c = 60 * u + 5 * q + c by omega]
      exact hb
theorem or_same {T : Int} {w ty pa cn ce nu mn vl no : Int → Int} {t : Int} (hE : EqS cn ce nu mn vl no) (hG : GS T w ty pa cn ce nu) (hw : ∀ u, 0 ≤ w u ∧ w u ≤ 5) (hT : T ≤ 5) (ht : 0 ≤ t) : ORp T w pa cn ce nu t ↔ (0 < mn t ∧ ∃ k, (0 ≤ k ∧ k < 300) ∧ HCp T w pa mn no t k) := by
  obtain ⟨e1, e2, e3⟩ := hE
  subst e1
  subst e2
  obtain ⟨g1, g2, g3, g4, g5, g6, g7, g8⟩ := hG
  constructor
  · intro h
    obtain ⟨r, u, r1, r2, u1, u2, u3, c, c1, c2, c3, q, q1, q2, q3, q4, q5⟩ := h
    have h1 := g1 u
    have h2 := hw u
    have hb := (bit_no g3 e3 (q := 12 * u + q) (c := c) ⟨by omega, by omega⟩ ⟨c1, by omega⟩).mp q4
    rw [show 5 * (12 * u + q) + c = 60 * u + 5 * q + c by omega] at hb
    have k1 : (60 * u + 5 * q + c) / 60 = u := by omega
    have k2 : (60 * u + 5 * q + c) % 60 / 5 = q := by omega
    have k3 : (60 * u + 5 * q + c) % 5 = c := by omega
    refine ⟨by omega, 60 * u + 5 * q + c, ⟨by omega, by omega⟩, ?_⟩
    unfold HCp
    rw [k1, k2, k3]
    exact ⟨u3, u2, q2, c2, c3, hb⟩
  · intro h
    obtain ⟨h0, k, hk, k1, k2, k3, k4, k5, k6⟩ := h
    have h1 := g1 (k / 60)
    have h2 := hw (k / 60)
    have ek : k = 60 * (k / 60) + 5 * (k % 60 / 5) + k % 5 := by omega
    have ek2 : k = 5 * (12 * (k / 60) + k % 60 / 5) + k % 5 := by omega
    have hb : ai_and (ai_shr (nu (12 * (k / 60) + k % 60 / 5)) (k % 5)) 1 = 0 := by
      refine (bit_no g3 e3 (q := 12 * (k / 60) + k % 60 / 5) (c := k % 5) ⟨by omega, by omega⟩ ⟨by omega, by omega⟩).mpr ?_
      rw [← ek2]
      exact k6
    have hbf := (bit_eq (g3 (12 * (k / 60) + k % 60 / 5)) (c := k % 5) ⟨by omega, by omega⟩).mp hb
    obtain ⟨q, q1, q2, q3⟩ := g7 (k / 60) (k % 60 / 5) (k % 5) (by omega) k2 (by omega) k3 (by omega) k4 (by rw [k5]; omega) hbf
    rw [k5] at q2 q3
    exact ⟨q, k / 60, q1, q2, by omega, k2, k1, k % 5, by omega, k4, k5, k % 60 / 5, by omega, k3, by rw [if_neg k1]; omega, hb, q3.symm⟩
/-! A ROW TAKEN OUT, PUT IN, PUT OVER: the two stores stay one. -/
theorem no_shift {nu no : Int → Int} {t r n x : Int} {rn : Int → Int} (ht : 0 ≤ t ∧ t < 5) (hr : 0 ≤ r ∧ r ≤ n) (hn : n < 12) (he : ∀ q c, 0 ≤ q → q < 60 → 0 ≤ c → c < 5 → no (5 * q + c) = bi (tb (nu q) c = true)) (hx : ∀ c, 0 ≤ c → c < 5 → rn c = bi (tb x c = true)) : ∀ q c, 0 ≤ q → q < 60 → 0 ≤ c → c < 5 → cpf (shf no (60 * t) r n) rn (60 * t + 5 * r) 5 (5 * q + c) = bi (tb (if q = 12 * t + r then x else shn nu (12 * t) r n q) c = true) := by
  intro q c q1 q2 c1 c2
  unfold cpf
  by_cases e : q = 12 * t + r
  · rw [if_pos (by omega), if_pos e, show 5 * q + c - (60 * t + 5 * r) = c by omega]
    exact hx c c1 c2
  · rw [if_neg (by omega), if_neg e]
    unfold shf shn
    by_cases e2 : 12 * t + r + 1 ≤ q ∧ q < 12 * t + n + 1
    · rw [if_pos (by omega), if_pos e2, show 5 * q + c - 5 = 5 * (q - 1) + c by omega]
      exact he (q - 1) c (by omega) (by omega) c1 c2
    · rw [if_neg (by omega), if_neg e2]
      exact he q c q1 q2 c1 c2
theorem no_over {nu no : Int → Int} {t r x : Int} {rn : Int → Int} (ht : 0 ≤ t ∧ t < 5) (hr : 0 ≤ r ∧ r < 12) (he : ∀ q c, 0 ≤ q → q < 60 → 0 ≤ c → c < 5 → no (5 * q + c) = bi (tb (nu q) c = true)) (hx : ∀ c, 0 ≤ c → c < 5 → rn c = bi (tb x c = true)) : ∀ q c, 0 ≤ q → q < 60 → 0 ≤ c → c < 5 → cpf no rn (60 * t + 5 * r) 5 (5 * q + c) = bi (tb (if q = 12 * t + r then x else nu q) c = true) := by
  intro q c q1 q2 c1 c2
  unfold cpf
  by_cases e : q = 12 * t + r
  · rw [if_pos (by omega), if_pos e, show 5 * q + c - (60 * t + 5 * r) = c by omega]
    exact hx c c1 c2
  · rw [if_neg (by omega), if_neg e]
    exact he q c q1 q2 c1 c2
theorem no_del {nu no : Int → Int} {t r n : Int} (ht : 0 ≤ t ∧ t < 5) (hr : 0 ≤ r ∧ r < n) (hn : n ≤ 12) (he : ∀ q c, 0 ≤ q → q < 60 → 0 ≤ c → c < 5 → no (5 * q + c) = bi (tb (nu q) c = true)) : ∀ q c, 0 ≤ q → q < 60 → 0 ≤ c → c < 5 → del no (60 * t + 5 * r) (60 * t + 5 * (n - 1)) (5 * q + c) = bi (tb (dln nu (12 * t + r) (12 * t + (n - 1)) q) c = true) := by
  intro q c q1 q2 c1 c2
  unfold del dln
  by_cases e : 12 * t + r ≤ q ∧ q < 12 * t + (n - 1)
  · rw [if_pos (by omega), if_pos e, show 5 * q + c + 5 = 5 * (q + 1) + c by omega]
    exact he (q + 1) c (by omega) (by omega) c1 c2
  · rw [if_neg (by omega), if_neg e]
    exact he q c q1 q2 c1 c2
