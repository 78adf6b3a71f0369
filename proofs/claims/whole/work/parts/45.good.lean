/-! THE STORE STAYS GOOD: clear, put over, put in, take out. -/
def kin (cn ce : Int → Int) (p v : Int) : Prop := ∃ q, 0 ≤ q ∧ q < cn p ∧ ce (60 * p + 5 * q) = v
/-- what a row must be to stand in table t -/
def rowOK (w ty : Int → Int) (t : Int) (f : Int → Int) (x : Int) : Prop := (0 ≤ x ∧ x < 32) ∧ (∀ c, 0 ≤ c → c < 5 → rg (f c)) ∧ (∀ c, 0 ≤ c → c < 5 → tb x c = true → f c = 0) ∧ (∀ c, 0 ≤ c → c < w t → okc (ty (5 * t + c)) (f c))
/-- what it refers to is there, or itself -/
def rowRef (w pa cn ce : Int → Int) (t : Int) (f : Int → Int) (x : Int) : Prop := ∀ c, 0 ≤ c → c < w t → ¬ pa (5 * t + c) = -1 → tb x c = false → (pa (5 * t + c) = t ∧ f c = f 0) ∨ kin cn ce (pa (5 * t + c)) (f c)
theorem GS_clear {T : Int} {w ty pa cn ce nu : Int → Int} {t : Int} (h : GS T w ty pa cn ce nu) (hp : ∀ j, -1 ≤ pa j ∧ pa j < 5) (hw : ∀ u, 0 ≤ w u ∧ w u ≤ 5) (hT : T ≤ 5) (ht : 0 ≤ t ∧ t < 5) (hO : ¬ ORp T w pa cn ce nu t) : GS T w ty pa (fun k => if k = t then 0 else cn k) ce nu := by
  obtain ⟨g1, g2, g3, g4, g5, g6, g7, g8⟩ := h
  have hc : ∀ u, (if u = t then 0 else cn u) ≤ cn u := fun u => by
    have := g1 u
    split <;> omega
  refine ⟨fun u => ?_, fun u u1 u2 => ?_, g3, g4, fun u r q u1 u2 r1 r2 r3 => g5 u r q u1 u2 r1 r2 ?_, fun u r c u1 u2 r1 r2 => g6 u r c u1 u2 r1 ?_, fun u r c u1 u2 r1 r2 c1 c2 c3 c4 => ?_, fun u r c u1 u2 r1 r2 => g8 u r c u1 u2 r1 ?_⟩
  · show 0 ≤ (if u = t then 0 else cn u) ∧ (if u = t then 0 else cn u) ≤ 12
    have := g1 u
    split <;> omega
  · show (if u = t then 0 else cn u) = 0
    split
    · rfl
    · exact g2 u u1 u2
  · have := hc u
    have r4 : q < (if u = t then 0 else cn u) := r3
    omega
  · have := hc u
    have r4 : r < (if u = t then 0 else cn u) := r2
    omega
  · have r4 : r < (if u = t then 0 else cn u) := r2
    have hut : ¬ u = t := fun e => by
      rw [if_pos e] at r4
      omega
    rw [if_neg hut] at r4
    obtain ⟨q, q1, q2, q3⟩ := g7 u r c u1 u2 r1 r4 c1 c2 c3 c4
    refine ⟨q, q1, ?_, q3⟩
    show q < (if pa (5 * u + c) = t then 0 else cn (pa (5 * u + c)))
    by_cases e : pa (5 * u + c) = t
    · exfalso
      rw [e] at q2 q3
      have hb := g3 (12 * u + r)
      have hwu := hw u
      refine hO ⟨q, u, q1, q2, u1, u2, hut, c, c1, c2, e, r, r1, r4, ?_, (bit_eq hb ⟨c1, by omega⟩).mpr c4, q3.symm⟩
      rw [if_neg hut]
      omega
    · rw [if_neg e]
      exact q2
  · have := hc u
    have r4 : r < (if u = t then 0 else cn u) := r2
    omega
theorem GS_over {T : Int} {w ty pa cn ce nu cc : Int → Int} {t r x : Int} (h : GS T w ty pa cn ce nu) (hp : ∀ j, -1 ≤ pa j ∧ pa j < 5) (hw : ∀ u, 0 ≤ w u ∧ w u ≤ 5) (hT : T ≤ 5) (ht : 0 ≤ t ∧ t < T) (hr : 0 ≤ r ∧ r < cn t) (hk : cc 0 = ce (60 * t + 5 * r)) (hok : rowOK w ty t cc x) (href : rowRef w pa cn ce t cc x) : GS T w ty pa cn (cpf ce cc (60 * t + 5 * r) 5) (fun q => if q = 12 * t + r then x else nu q) := by
  obtain ⟨g1, g2, g3, g4, g5, g6, g7, g8⟩ := h
  obtain ⟨k1, k2, k3, k4⟩ := hok
  have hn := g1 t
  have rd : ∀ u q c, 0 ≤ u → u < 5 → 0 ≤ q → q < 12 → 0 ≤ c → c < 5 → cpf ce cc (60 * t + 5 * r) 5 (60 * u + 5 * q + c) = if u = t ∧ q = r then cc c else ce (60 * u + 5 * q + c) := by
    intro u q c u1 u2 q1 q2 c1 c2
    unfold cpf
    by_cases e : u = t ∧ q = r
    · rw [if_pos (by omega), if_pos e, show 60 * u + 5 * q + c - (60 * t + 5 * r) = c by omega]
    · rw [if_neg (by omega), if_neg e]
  have rk : ∀ u q, 0 ≤ u → u < 5 → 0 ≤ q → q < 12 → cpf ce cc (60 * t + 5 * r) 5 (60 * u + 5 * q) = ce (60 * u + 5 * q) := by
    intro u q u1 u2 q1 q2
    have := rd u q 0 u1 u2 q1 q2 (by decide) (by decide)
    rw [Int.add_zero] at this
    rw [this]
    by_cases e : u = t ∧ q = r
    · rw [if_pos e, hk, e.1, e.2]
    · rw [if_neg e]
  refine ⟨g1, g2, fun q => ?_, fun j => ?_, fun u q q' u1 u2 q1 q2 q3 => ?_, fun u q c u1 u2 q1 q2 c1 c2 c3 => ?_, fun u q c u1 u2 q1 q2 c1 c2 c3 c4 => ?_, fun u q c u1 u2 q1 q2 c1 c2 => ?_⟩
  · show 0 ≤ (if q = 12 * t + r then x else nu q) ∧ (if q = 12 * t + r then x else nu q) < 32
    have := g3 q
    split <;> omega
  · unfold cpf
    split
    · exact k2 _ (by omega) (by omega)
    · exact g4 j
  · have := g1 u
    rw [rk u q u1 u2 q1 (by omega), rk u q' u1 u2 (by omega) (by omega)]
    exact g5 u q q' u1 u2 q1 q2 q3
  · have := g1 u
    rw [rd u q c u1 u2 q1 (by omega) c1 c2]
    have c4 : tb (if 12 * u + q = 12 * t + r then x else nu (12 * u + q)) c = true := c3
    by_cases e : u = t ∧ q = r
    · rw [if_pos (show 12 * u + q = 12 * t + r by omega)] at c4
      rw [if_pos e]
      exact k3 c c1 c2 c4
    · rw [if_neg (show ¬ 12 * u + q = 12 * t + r by omega)] at c4
      rw [if_neg e]
      exact g6 u q c u1 u2 q1 q2 c1 c2 c4
  · have h1 := g1 u
    have h2 := hw u
    have hpc := hp (5 * u + c)
    have hnp := g1 (pa (5 * u + c))
    have c5 : tb (if 12 * u + q = 12 * t + r then x else nu (12 * u + q)) c = false := c4
    have up : ∀ v, kin cn ce (pa (5 * u + c)) v → ∃ q', 0 ≤ q' ∧ q' < cn (pa (5 * u + c)) ∧ cpf ce cc (60 * t + 5 * r) 5 (60 * pa (5 * u + c) + 5 * q') = v := by
      intro v hv
      obtain ⟨q', a1, a2, a3⟩ := hv
      exact ⟨q', a1, a2, (rk _ q' (by omega) (by omega) a1 (by omega)).trans a3⟩
    rw [rd u q c u1 (by omega) q1 (by omega) c1 (by omega)]
    by_cases e : u = t ∧ q = r
    · rw [if_pos (show 12 * u + q = 12 * t + r by omega)] at c5
      rw [if_pos e]
      obtain ⟨e1, e2⟩ := e
      subst e1
      subst e2
      rcases href c c1 c2 c3 c5 with z | z
      · refine up _ ⟨q, q1, ?_, ?_⟩
        · rw [z.1]
          exact q2
        · rw [z.1, z.2, hk]
      · exact up _ z
    · rw [if_neg (show ¬ 12 * u + q = 12 * t + r by omega)] at c5
      rw [if_neg e]
      exact up _ (g7 u q c u1 u2 q1 q2 c1 c2 c3 c5)
  · have h1 := g1 u
    have h2 := hw u
    rw [rd u q c u1 (by omega) q1 (by omega) c1 (by omega)]
    by_cases e : u = t ∧ q = r
    · rw [if_pos e, e.1]
      rw [e.1] at c2
      exact k4 c c1 c2
    · rw [if_neg e]
      exact g8 u q c u1 u2 q1 q2 c1 c2
theorem GS_in {T : Int} {w ty pa cn ce nu cc : Int → Int} {t r x : Int} (h : GS T w ty pa cn ce nu) (hp : ∀ j, -1 ≤ pa j ∧ pa j < 5) (hw : ∀ u, 0 ≤ w u ∧ w u ≤ 5) (hT : T ≤ 5) (ht : 0 ≤ t ∧ t < T) (hn : cn t < 12) (hpos : isPos (cn t) (fun q => ce (60 * t + 5 * q)) (cc 0) r) (hnew : ∀ q, 0 ≤ q → q < cn t → ¬ ce (60 * t + 5 * q) = cc 0) (hok : rowOK w ty t cc x) (href : rowRef w pa cn ce t cc x) : GS T w ty pa (fun k => if k = t then cn t + 1 else cn k) (cpf (shf ce (60 * t) r (cn t)) cc (60 * t + 5 * r) 5) (fun q => if q = 12 * t + r then x else shn nu (12 * t) r (cn t) q) := by
  obtain ⟨g1, g2, g3, g4, g5, g6, g7, g8⟩ := h
  obtain ⟨k1, k2, k3, k4⟩ := hok
  obtain ⟨p1, p2, p3⟩ := hpos
  have hnt := g1 t
  have hlt : ∀ q, 0 ≤ q → q < r → ce (60 * t + 5 * q) < cc 0 := by
    intro q q1 q2
    rcases p3 with z | z
    · omega
    · have h1 := hnew (r - 1) (by omega) (by omega)
      have z2 : ce (60 * t + 5 * (r - 1)) ≤ cc 0 := z
      by_cases e : q = r - 1
      · rw [e]
        omega
      · have := g5 t q (r - 1) ht.1 (by omega) q1 (by omega) (by omega)
        omega
  -- what stands where
  have rd : ∀ u q c, 0 ≤ u → u < 5 → 0 ≤ q → q < 12 → 0 ≤ c → c < 5 → cpf (shf ce (60 * t) r (cn t)) cc (60 * t + 5 * r) 5 (60 * u + 5 * q + c) = if u = t ∧ q = r then cc c else if u = t ∧ r < q ∧ q ≤ cn t then ce (60 * u + 5 * (q - 1) + c) else ce (60 * u + 5 * q + c) := by
    intro u q c u1 u2 q1 q2 c1 c2
    unfold cpf shf
    by_cases e : u = t ∧ q = r
    · rw [if_pos (by omega), if_pos e, show 60 * u + 5 * q + c - (60 * t + 5 * r) = c by omega]
    · rw [if_neg (by omega), if_neg e]
      by_cases e2 : u = t ∧ r < q ∧ q ≤ cn t
      · rw [if_pos (by omega), if_pos e2, show 60 * u + 5 * q + c - 5 = 60 * u + 5 * (q - 1) + c by omega]
      · rw [if_neg (by omega), if_neg e2]
  have rn : ∀ u q, 0 ≤ u → u < 5 → 0 ≤ q → q < 12 → (if 12 * u + q = 12 * t + r then x else shn nu (12 * t) r (cn t) (12 * u + q)) = if u = t ∧ q = r then x else if u = t ∧ r < q ∧ q ≤ cn t then nu (12 * u + (q - 1)) else nu (12 * u + q) := by
    intro u q u1 u2 q1 q2
    unfold shn
    by_cases e : u = t ∧ q = r
    · rw [if_pos (by omega), if_pos e]
    · rw [if_neg (by omega), if_neg e]
      by_cases e2 : u = t ∧ r < q ∧ q ≤ cn t
      · rw [if_pos (by omega), if_pos e2, show 12 * u + q - 1 = 12 * u + (q - 1) by omega]
      · rw [if_neg (by omega), if_neg e2]
  have rk : ∀ u q, 0 ≤ u → u < 5 → 0 ≤ q → q < 12 → cpf (shf ce (60 * t) r (cn t)) cc (60 * t + 5 * r) 5 (60 * u + 5 * q) = if u = t ∧ q = r then cc 0 else if u = t ∧ r < q ∧ q ≤ cn t then ce (60 * u + 5 * (q - 1)) else ce (60 * u + 5 * q) := by
    intro u q u1 u2 q1 q2
    have := rd u q 0 u1 u2 q1 q2 (by decide) (by decide)
    rw [Int.add_zero, Int.add_zero] at this
    exact this
  have hcn : ∀ u, (if u = t then cn t + 1 else cn u) ≤ 12 ∧ 0 ≤ (if u = t then cn t + 1 else cn u) := fun u => by
    have := g1 u
    split <;> omega
  -- a key that was there is there
  have kup : ∀ p v, 0 ≤ p → p < 5 → kin cn ce p v → ∃ q', 0 ≤ q' ∧ q' < (if p = t then cn t + 1 else cn p) ∧ cpf (shf ce (60 * t) r (cn t)) cc (60 * t + 5 * r) 5 (60 * p + 5 * q') = v := by
    intro p v hp0 hp5 hv
    obtain ⟨q, a1, a2, a3⟩ := hv
    have hnp := g1 p
    by_cases e : p = t
    · subst e
      rw [if_pos rfl]
      by_cases e2 : q < r
      · refine ⟨q, a1, by omega, ?_⟩
        rw [rk p q hp0 hp5 a1 (by omega), if_neg (by omega), if_neg (by omega)]
        exact a3
      · refine ⟨q + 1, by omega, by omega, ?_⟩
        rw [rk p (q + 1) hp0 hp5 (by omega) (by omega), if_neg (by omega), if_pos ⟨rfl, by omega, by omega⟩, show q + 1 - 1 = q by omega]
        exact a3
    · rw [if_neg e]
      refine ⟨q, a1, a2, ?_⟩
      rw [rk p q hp0 hp5 a1 (by omega), if_neg (fun z => e z.1), if_neg (fun z => e z.1)]
      exact a3
  have kown : ∃ q', 0 ≤ q' ∧ q' < (if t = t then cn t + 1 else cn t) ∧ cpf (shf ce (60 * t) r (cn t)) cc (60 * t + 5 * r) 5 (60 * t + 5 * q') = cc 0 := by
    rw [if_pos rfl]
    refine ⟨r, p1.1, by omega, ?_⟩
    rw [rk t r ht.1 (by omega) p1.1 (by omega), if_pos ⟨rfl, rfl⟩]
  refine ⟨fun u => ⟨(hcn u).2, (hcn u).1⟩, fun u u1 u2 => ?_, fun q => ?_, fun j => ?_, fun u q q' u1 u2 q1 q2 q3 => ?_, fun u q c u1 u2 q1 q2 c1 c2 c3 => ?_, fun u q c u1 u2 q1 q2 c1 c2 c3 c4 => ?_, fun u q c u1 u2 q1 q2 c1 c2 => ?_⟩
  · show (if u = t then cn t + 1 else cn u) = 0
    rw [if_neg (by omega)]
    exact g2 u u1 u2
  · show 0 ≤ (if q = 12 * t + r then x else shn nu (12 * t) r (cn t) q) ∧ (if q = 12 * t + r then x else shn nu (12 * t) r (cn t) q) < 32
    unfold shn
    have a1 := g3 q
    have a2 := g3 (q - 1)
    split
    · exact k1
    · split
      · exact a2
      · exact a1
  · unfold cpf shf
    split
    · exact k2 _ (by omega) (by omega)
    · split
      · exact g4 _
      · exact g4 j
  · have q4 : q' < (if u = t then cn t + 1 else cn u) := q3
    have := hcn u
    rw [rk u q u1 u2 q1 (by omega), rk u q' u1 u2 (by omega) (by omega)]
    by_cases e : u = t
    · subst e
      rw [if_pos rfl] at q4
      by_cases a1 : q = r
      · rw [if_pos ⟨rfl, a1⟩, if_neg (by omega), if_pos ⟨rfl, by omega, by omega⟩]
        exact p2 (q' - 1) (by omega) (by omega)
      · rw [if_neg (fun z => a1 z.2)]
        by_cases a2 : r < q
        · rw [if_pos ⟨rfl, a2, by omega⟩, if_neg (by omega), if_pos ⟨rfl, by omega, by omega⟩]
          exact g5 u (q - 1) (q' - 1) u1 u2 (by omega) (by omega) (by omega)
        · rw [if_neg (by omega)]
          by_cases a3 : q' = r
          · rw [if_pos ⟨rfl, a3⟩]
            exact hlt q q1 (by omega)
          · rw [if_neg (fun z => a3 z.2)]
            by_cases a4 : r < q'
            · rw [if_pos ⟨rfl, a4, by omega⟩]
              by_cases a5 : q = q' - 1
              · omega
              · exact g5 u q (q' - 1) u1 u2 q1 (by omega) (by omega)
            · rw [if_neg (by omega)]
              exact g5 u q q' u1 u2 q1 q2 (by omega)
    · rw [if_neg e] at q4
      rw [if_neg (fun z => e z.1), if_neg (fun z => e z.1), if_neg (fun z => e z.1), if_neg (fun z => e z.1)]
      exact g5 u q q' u1 u2 q1 q2 q4
  · have q4 : q < (if u = t then cn t + 1 else cn u) := q2
    have := hcn u
    have c4 : tb (if 12 * u + q = 12 * t + r then x else shn nu (12 * t) r (cn t) (12 * u + q)) c = true := c3
    rw [rn u q u1 u2 q1 (by omega)] at c4
    rw [rd u q c u1 u2 q1 (by omega) c1 c2]
    by_cases a1 : u = t ∧ q = r
    · rw [if_pos a1] at c4 ⊢
      exact k3 c c1 c2 c4
    · rw [if_neg a1] at c4 ⊢
      by_cases a2 : u = t ∧ r < q ∧ q ≤ cn t
      · rw [if_pos a2] at c4 ⊢
        exact g6 u (q - 1) c u1 u2 (by omega) (by rw [a2.1]; omega) c1 c2 c4
      · rw [if_neg a2] at c4 ⊢
        refine g6 u q c u1 u2 q1 ?_ c1 c2 c4
        by_cases e : u = t
        · rw [if_pos e] at q4
          rw [e]
          omega
        · rw [if_neg e] at q4
          exact q4
  · have q4 : q < (if u = t then cn t + 1 else cn u) := q2
    have := hcn u
    have hwu := hw u
    have hpc := hp (5 * u + c)
    have c5 : tb (if 12 * u + q = 12 * t + r then x else shn nu (12 * t) r (cn t) (12 * u + q)) c = false := c4
    rw [rn u q u1 (by omega) q1 (by omega)] at c5
    rw [rd u q c u1 (by omega) q1 (by omega) c1 (by omega)]
    by_cases a1 : u = t ∧ q = r
    · rw [if_pos a1] at c5 ⊢
      obtain ⟨e1, e2⟩ := a1
      subst e1
      rcases href c c1 c2 c3 c5 with z | z
      · rw [z.1, z.2]
        exact kown
      · exact kup _ _ (by omega) (by omega) z
    · rw [if_neg a1] at c5 ⊢
      by_cases a2 : u = t ∧ r < q ∧ q ≤ cn t
      · rw [if_pos a2] at c5 ⊢
        exact kup _ _ (by omega) (by omega) (g7 u (q - 1) c u1 u2 (by omega) (by rw [a2.1]; omega) c1 c2 c3 c5)
      · rw [if_neg a2] at c5 ⊢
        refine kup _ _ (by omega) (by omega) (g7 u q c u1 u2 q1 ?_ c1 c2 c3 c5)
        by_cases e : u = t
        · rw [if_pos e] at q4
          rw [e]
          omega
        · rw [if_neg e] at q4
          exact q4
  · have q4 : q < (if u = t then cn t + 1 else cn u) := q2
    have := hcn u
    have hwu := hw u
    rw [rd u q c u1 (by omega) q1 (by omega) c1 (by omega)]
    by_cases a1 : u = t ∧ q = r
    · rw [if_pos a1, a1.1]
      rw [a1.1] at c2
      exact k4 c c1 c2
    · rw [if_neg a1]
      by_cases a2 : u = t ∧ r < q ∧ q ≤ cn t
      · rw [if_pos a2]
        exact g8 u (q - 1) c u1 u2 (by omega) (by rw [a2.1]; omega) c1 c2
      · rw [if_neg a2]
        refine g8 u q c u1 u2 q1 ?_ c1 c2
        by_cases e : u = t
        · rw [if_pos e] at q4
          rw [e]
          omega
        · rw [if_neg e] at q4
          exact q4
theorem GS_out {T : Int} {w ty pa cn ce nu : Int → Int} {t r : Int} (h : GS T w ty pa cn ce nu) (hp : ∀ j, -1 ≤ pa j ∧ pa j < 5) (hw : ∀ u, 0 ≤ w u ∧ w u ≤ 5) (hT : T ≤ 5) (ht : 0 ≤ t ∧ t < T) (hr : 0 ≤ r ∧ r < cn t) (hA : ¬ ARp T w pa cn ce nu t r) : GS T w ty pa (fun k => if k = t then cn t - 1 else cn k) (del ce (60 * t + 5 * r) (60 * t + 5 * (cn t - 1))) (dln nu (12 * t + r) (12 * t + (cn t - 1))) := by
  obtain ⟨g1, g2, g3, g4, g5, g6, g7, g8⟩ := h
  have hnt := g1 t
  have rd : ∀ u q c, 0 ≤ u → u < 5 → 0 ≤ q → q < (if u = t then cn t - 1 else cn u) → 0 ≤ c → c < 5 → del ce (60 * t + 5 * r) (60 * t + 5 * (cn t - 1)) (60 * u + 5 * q + c) = if u = t ∧ r ≤ q then ce (60 * u + 5 * (q + 1) + c) else ce (60 * u + 5 * q + c) := by
    intro u q c u1 u2 q1 q2 c1 c2
    have hnu := g1 u
    unfold del
    by_cases e : u = t ∧ r ≤ q
    · rw [if_pos e.1] at q2
      rw [if_pos (by omega), if_pos e, show 60 * u + 5 * q + c + 5 = 60 * u + 5 * (q + 1) + c by omega]
    · rw [if_neg e]
      by_cases e2 : u = t
      · rw [if_pos e2] at q2
        rw [if_neg (by omega)]
      · rw [if_neg e2] at q2
        rw [if_neg (by omega)]
  have rn : ∀ u q, 0 ≤ u → u < 5 → 0 ≤ q → q < (if u = t then cn t - 1 else cn u) → dln nu (12 * t + r) (12 * t + (cn t - 1)) (12 * u + q) = if u = t ∧ r ≤ q then nu (12 * u + (q + 1)) else nu (12 * u + q) := by
    intro u q u1 u2 q1 q2
    have hnu := g1 u
    unfold dln
    by_cases e : u = t ∧ r ≤ q
    · rw [if_pos e.1] at q2
      rw [if_pos (by omega), if_pos e, show 12 * u + q + 1 = 12 * u + (q + 1) by omega]
    · rw [if_neg e]
      by_cases e2 : u = t
      · rw [if_pos e2] at q2
        rw [if_neg (by omega)]
      · rw [if_neg e2] at q2
        rw [if_neg (by omega)]
  have rk : ∀ u q, 0 ≤ u → u < 5 → 0 ≤ q → q < (if u = t then cn t - 1 else cn u) → del ce (60 * t + 5 * r) (60 * t + 5 * (cn t - 1)) (60 * u + 5 * q) = if u = t ∧ r ≤ q then ce (60 * u + 5 * (q + 1)) else ce (60 * u + 5 * q) := by
    intro u q u1 u2 q1 q2
    have := rd u q 0 u1 u2 q1 q2 (by decide) (by decide)
    rw [Int.add_zero, Int.add_zero] at this
    exact this
  have hcn : ∀ u, (if u = t then cn t - 1 else cn u) ≤ 12 ∧ 0 ≤ (if u = t then cn t - 1 else cn u) := fun u => by
    have := g1 u
    split <;> omega
  -- where a row stood
  have old : ∀ u q, q < (if u = t then cn t - 1 else cn u) → ∃ q0, (u = t ∧ r ≤ q → q0 = q + 1) ∧ (¬ (u = t ∧ r ≤ q) → q0 = q) ∧ q0 < cn u ∧ (0 ≤ q → 0 ≤ q0) ∧ ¬ (u = t ∧ q0 = r) := by
    intro u q q2
    by_cases e : u = t ∧ r ≤ q
    · rw [if_pos e.1] at q2
      exact ⟨q + 1, fun _ => rfl, fun z => absurd e z, by rw [e.1]; omega, fun _ => by omega, fun z => by omega⟩
    · refine ⟨q, fun z => absurd z e, fun _ => rfl, ?_, fun z => z, fun z => e ⟨z.1, by omega⟩⟩
      by_cases e2 : u = t
      · rw [if_pos e2] at q2
        rw [e2]
        omega
      · rw [if_neg e2] at q2
        exact q2
  refine ⟨fun u => ⟨(hcn u).2, (hcn u).1⟩, fun u u1 u2 => ?_, fun q => ?_, fun j => ?_, fun u q q' u1 u2 q1 q2 q3 => ?_, fun u q c u1 u2 q1 q2 c1 c2 c3 => ?_, fun u q c u1 u2 q1 q2 c1 c2 c3 c4 => ?_, fun u q c u1 u2 q1 q2 c1 c2 => ?_⟩
  · show (if u = t then cn t - 1 else cn u) = 0
    rw [if_neg (by omega)]
    exact g2 u u1 u2
  · unfold dln
    split
    · exact g3 _
    · exact g3 q
  · unfold del
    split
    · exact g4 _
    · exact g4 j
  · have q4 : q' < (if u = t then cn t - 1 else cn u) := q3
    rw [rk u q u1 u2 q1 (by omega), rk u q' u1 u2 (by omega) q4]
    by_cases e : u = t
    · rw [if_pos e] at q4
      by_cases a1 : r ≤ q
      · rw [if_pos ⟨e, a1⟩, if_pos ⟨e, by omega⟩]
        exact g5 u (q + 1) (q' + 1) u1 u2 (by omega) (by omega) (by rw [e]; omega)
      · rw [if_neg (fun z => a1 z.2)]
        by_cases a2 : r ≤ q'
        · rw [if_pos ⟨e, a2⟩]
          exact g5 u q (q' + 1) u1 u2 q1 (by omega) (by rw [e]; omega)
        · rw [if_neg (fun z => a2 z.2)]
          exact g5 u q q' u1 u2 q1 q2 (by rw [e]; omega)
    · rw [if_neg e] at q4
      rw [if_neg (fun z => e z.1), if_neg (fun z => e z.1)]
      exact g5 u q q' u1 u2 q1 q2 q4
  · have q4 : q < (if u = t then cn t - 1 else cn u) := q2
    obtain ⟨q0, o1, o2, o3, o4, o5⟩ := old u q q4
    have c4 : tb (dln nu (12 * t + r) (12 * t + (cn t - 1)) (12 * u + q)) c = true := c3
    rw [rn u q u1 u2 q1 q4] at c4
    rw [rd u q c u1 u2 q1 q4 c1 c2]
    by_cases a1 : u = t ∧ r ≤ q
    · rw [if_pos a1] at c4 ⊢
      rw [← o1 a1] at c4 ⊢
      exact g6 u q0 c u1 u2 (o4 q1) o3 c1 c2 c4
    · rw [if_neg a1] at c4 ⊢
      rw [← o2 a1] at c4 ⊢
      exact g6 u q0 c u1 u2 (o4 q1) o3 c1 c2 c4
  · have q4 : q < (if u = t then cn t - 1 else cn u) := q2
    obtain ⟨q0, o1, o2, o3, o4, o5⟩ := old u q q4
    have hwu := hw u
    have hpc := hp (5 * u + c)
    have hnu := g1 u
    have c5 : tb (dln nu (12 * t + r) (12 * t + (cn t - 1)) (12 * u + q)) c = false := c4
    rw [rn u q u1 (by omega) q1 q4] at c5
    have e0 : (if u = t ∧ r ≤ q then nu (12 * u + (q + 1)) else nu (12 * u + q)) = nu (12 * u + q0) ∧ (if u = t ∧ r ≤ q then ce (60 * u + 5 * (q + 1) + c) else ce (60 * u + 5 * q + c)) = ce (60 * u + 5 * q0 + c) := by
      by_cases a1 : u = t ∧ r ≤ q
      · rw [if_pos a1, if_pos a1, o1 a1]
        exact ⟨rfl, rfl⟩
      · rw [if_neg a1, if_neg a1, o2 a1]
        exact ⟨rfl, rfl⟩
    rw [e0.1] at c5
    rw [rd u q c u1 (by omega) q1 q4 c1 (by omega), e0.2]
    obtain ⟨s, s1, s2, s3⟩ := g7 u q0 c u1 u2 (o4 q1) o3 c1 c2 c3 c5
    have hns := g1 (pa (5 * u + c))
    -- the row that it refers to is not the one that goes
    have hsr : ¬ (pa (5 * u + c) = t ∧ s = r) := fun z => by
      refine hA ⟨u, u1, u2, c, c1, c2, z.1, q0, o4 q1, o3, ?_, (bit_eq (g3 _) ⟨c1, by omega⟩).mpr c5, ?_⟩
      · by_cases e : u = t
        · rw [if_pos e]
          exact fun y => o5 ⟨e, y⟩
        · rw [if_neg e]
          have := o4 q1
          omega
      · rw [← s3, z.1, z.2]
    by_cases e : pa (5 * u + c) = t
    · rw [e] at s2 s3 hsr ⊢
      by_cases a1 : s < r
      · refine ⟨s, s1, by show s < (if t = t then cn t - 1 else cn t); rw [if_pos rfl]; omega, ?_⟩
        rw [rk t s ht.1 (by omega) s1 (by rw [if_pos rfl]; omega), if_neg (by omega)]
        exact s3
      · have a2 : r < s := by
          have := fun z => hsr ⟨rfl, z⟩
          omega
        refine ⟨s - 1, by omega, by show s - 1 < (if t = t then cn t - 1 else cn t); rw [if_pos rfl]; omega, ?_⟩
        rw [rk t (s - 1) ht.1 (by omega) (by omega) (by rw [if_pos rfl]; omega), if_pos ⟨rfl, by omega⟩, show s - 1 + 1 = s by omega]
        exact s3
    · refine ⟨s, s1, by show s < (if pa (5 * u + c) = t then cn t - 1 else cn (pa (5 * u + c))); rw [if_neg e]; exact s2, ?_⟩
      rw [rk _ s (by omega) (by omega) s1 (by rw [if_neg e]; exact s2), if_neg (fun z => e z.1)]
      exact s3
  · have q4 : q < (if u = t then cn t - 1 else cn u) := q2
    obtain ⟨q0, o1, o2, o3, o4, o5⟩ := old u q q4
    have hwu := hw u
    rw [rd u q c u1 (by omega) q1 q4 c1 (by omega)]
    by_cases a1 : u = t ∧ r ≤ q
    · rw [if_pos a1, ← o1 a1]
      exact g8 u q0 c u1 u2 (o4 q1) o3 c1 c2
    · rw [if_neg a1, ← o2 a1]
      exact g8 u q0 c u1 u2 (o4 q1) o3 c1 c2
