/-! READ: a row, class and reference. -/
theorem set_pl {σ : ai_S} {p q : Nat} {i j v w : Int} (h : q ≠ p) : ai_set (ai_set σ p i v) q j w = ai_set (ai_set σ q j w) p i v := by
  funext r k
  by_cases h1 : r = q
  · subst h1
    simp [ai_set, h]
  · by_cases h2 : r = p
    · subst h2
      simp [ai_set, h1]
    · simp [ai_set, h1, h2]
theorem rdq {σ : ai_S} {p x y : Int} {q : Nat} {i v : Int} (h : q ≠ 34) : ai_set (RD σ p x y) q i v = RD (ai_set σ q i v) p x y := by
  unfold RD
  rw [set_pl h, set_pl h, set_pl h]
theorem rf_row_end {sc : Int × (Int → Int)} {σ : ai_S} {Q : ai_O → Prop} {p s k w r : Int} {F G : Int → Int} (hs : 0 ≤ s ∧ s < 6) (hw : σ 79 s = w) (hw5 : 0 ≤ w ∧ w ≤ 5) (hr : σ 59 29 = r) (hk : k = w) (hQ : Q (.inl (some (.inl 1)), (92, [], RP (ai_set σ 59 29 (r + 1)) p F G))) : ai_wp sc 146 12 [some (.inr (.inr 59)), some (.inl s), some (.inl k)] [] (0, 0) (92, [], RP σ p F G) Q := by
  subst hw
  subst hr
  refine rb_146_12 ⟨hs, ⟨⟨by omega, by omega⟩, (show ai_r (σ 79 s) from ⟨by omega, by omega⟩)⟩, fun _ => ⟨⟨by decide, by decide⟩, ?_⟩, fun g => absurd (show σ 79 s ≤ k by omega) g⟩
  show Q (.inl (some (.inl 1)), (92, [], ai_set (RP σ p F G) 59 29 (σ 59 29 + 1)))
  have e : ai_set (RP σ p F G) 59 29 (σ 59 29 + 1) = RP (ai_set σ 59 29 (σ 59 29 + 1)) p F G := by
    unfold RP
    rw [up_c (p := 83) (q := 59) (by decide), up_c (p := 82) (q := 59) (by decide), set_comm (i := 17) (j := 29) (by decide)]
  rw [e]
  exact hQ
theorem okc_rg {ty v : Int} (hty : 0 ≤ ty ∧ ty ≤ 3) (h : okc ty v) : rg v := by
  obtain ⟨h1, h2, h3, h4⟩ := h
  have e : ty = 0 ∨ ty = 1 ∨ ty = 2 ∨ ty = 3 := by omega
  rcases e with e | e | e | e
  · have := h1 e
    exact ⟨by omega, by omega⟩
  · have := h2 e
    exact ⟨by omega, by omega⟩
  · have := (h3 e).1
    exact ⟨by omega, by omega⟩
  · have := h4 e
    exact ⟨by omega, by omega⟩
theorem rg_set {f : Int → Int} {k v : Int} (hv : rg v) (hf : ∀ j, rg (f j)) : ∀ j, rg ((fun j => if j = k then v else f j) j) := by
  intro j
  show rg (if j = k then v else f j)
  split
  · exact hv
  · exact hf j
/-- what the class's row holds behind the columns i to w, out of what it held -/
def rowC (i w r : Int) (cf v nl ce nu ce' nu' : Int → Int) : Prop := (∀ k, (∀ j, i ≤ j → j < w → ¬ k = 5 * r + cf j) → ce' k = ce k) ∧ (∀ j, i ≤ j → j < w → ce' (5 * r + cf j) = if nl j = 0 then v j else ce (5 * r + cf j)) ∧ (∀ q, ¬ q = r → nu' q = nu q) ∧ (0 ≤ nu' r ∧ nu' r < 32) ∧ (∀ c, 0 ≤ c → c < 5 → (∀ j, i ≤ j → j < w → cf j = c → nl j = 0 → tb (nu' r) c = false) ∧ ((∀ j, i ≤ j → j < w → cf j = c → ¬ nl j = 0) → tb (nu' r) c = tb (nu r) c))
def rowR (i w r : Int) (v nl F G F' G' : Int → Int) : Prop := (∀ j, i ≤ j → j < w → F' (5 * r + j) = v j ∧ G' (5 * r + j) = nl j) ∧ ∀ k, (k < 5 * r + i ∨ 5 * r + w ≤ k) → F' k = F k ∧ G' k = G k
theorem cf_setCell_41 {sc : Int × (Int → Int)} {σ : ai_S} {p x y r c v : Int} {ce nu : Int → Int} (hr : 0 ≤ r ∧ r < 24) (hc : 0 ≤ c ∧ c < 5) : fn sc 54 [some (.inr (.inr 41)), some (.inl r), some (.inl c), some (.inr (.inl v)), none] (RD (up (up σ 48 ce) 49 nu) p x y) none (RD (up (up σ 48 (fun j => if j = 5 * r + c then v else ce j)) 49 (fun q => if q = r then ai_and (nu r) (ai_xor (ai_shl 1 c) (-1)) else nu q)) p x y) := by
  intro Q hQ
  refine rb_54_0_41 ⟨⟨by omega, by omega⟩, hr, hr, ?_⟩
  show Q (.inl none, (92, [], ai_set (ai_set (RD (up (up σ 48 ce) 49 nu) p x y) 48 ((r * 5) + c) v) 49 r (ai_and (nu r) (ai_xor (ai_shl 1 c) (-1)))))
  rw [rdq (q := 48) (by decide), rdq (q := 49) (by decide), up_c (p := 49) (q := 48) (by decide), up_s, up_s, show (r * 5) + c = 5 * r + c by omega]
  exact hQ
theorem rd_row_41 {sc : Int × (Int → Int)} {n : Int} {tx : Int → Int} {w s r : Int} {cf yf : Int → Int} (hT : TX n tx) (hw : 0 ≤ w ∧ w ≤ 5) (hs : 0 ≤ s ∧ s < 6) (hr : 0 ≤ r ∧ r < 24) (hcf : ∀ j, 0 ≤ j → j < w → 0 ≤ cf j ∧ cf j < 5) (hdi : ∀ j l, 0 ≤ j → j < w → 0 ≤ l → l < w → cf j = cf l → j = l) (hyf : ∀ j, 0 ≤ j → j < w → 0 ≤ yf j ∧ yf j ≤ 3) :
    ∀ (m : Nat) (i p : Int), 0 ≤ i → i + (m : Int) = w → (0 ≤ p ∧ p ≤ n) → ∃ a b p', ∃ (v nl : Int → Int), okQ n tx a b p' ∧ (p ≤ p' ∧ p' ≤ n) ∧ (b = 1 → ∀ j, i ≤ j → j < w → (nl j = 0 ∨ nl j = 1) ∧ (nl j = 1 → v j = 0) ∧ okc (yf j) (v j)) ∧ (0 < i → i < w → ac n tx p 44 = 0 → a = 0 ∧ b = 0 ∧ p' = p) ∧ (i = w → a = 1 ∧ b = 1 ∧ p' = p) ∧
      (∀ (σ : ai_S) (x y : Int) (ce nu : Int → Int) (z : Option ai_V), (cT σ n tx) → σ 43 s = w → (∀ j, 0 ≤ j → j < w → σ 44 (5 * s + j) = cf j) → (0 ≤ σ 42 s ∧ σ 42 s < 5) → (∀ j, 0 ≤ j → j < w → σ 5 (5 * σ 42 s + cf j) = yf j) → (0 ≤ nu r ∧ nu r < 32) → (∀ j, rg (ce j)) → ∃ x' y' ce' nu', (∀ Q : ai_O → Prop, Q (.inl (some (.inl a)), (92, [], RD (up (up σ 48 ce') 49 nu') p' x' y')) → ai_wp sc 77 12 [some (.inr (.inr 34)), some (.inr (.inr 2)), some (.inr (.inr 41)), some (.inl s), some (.inl r), some (.inl i), z] [] (0, 0) (92, [], RD (up (up σ 48 ce) 49 nu) p x y) Q) ∧ (a = 1 → b = 1 → rowC i w r cf v nl ce nu ce' nu') ∧ ∀ j, rg (ce' j)) ∧
      (∀ (σ : ai_S) (F G : Int → Int), (rT σ n tx) → σ 79 s = w → σ 59 29 = r → (∀ j, 0 ≤ j → j < w → σ 81 (5 * s + j) = cf j) → (0 ≤ σ 78 s ∧ σ 78 s < 5) → (∀ j, 0 ≤ j → j < w → σ 61 (5 * σ 78 s + cf j) = yf j) → ∃ F' G', (∀ Q : ai_O → Prop, (b = 1 → Q (.inl (some (.inl 1)), (92, [], RP (ai_set σ 59 29 (r + 1)) p' F' G'))) → (b = 0 → Q (.inl (some (.inl 0)), (92, [], RP σ p' F' G'))) → ai_wp sc 146 12 [some (.inr (.inr 59)), some (.inl s), some (.inl i)] [] (0, 0) (92, [], RP σ p F G) Q) ∧ (b = 1 → rowR i w r v nl F G F' G') ∧ gb G G') := by
  intro m
  induction m with
  | zero =>
    intro i p hi hm hp
    refine ⟨1, 1, p, fun _ => 0, fun _ => 0, ⟨Or.inr rfl, Or.inl rfl⟩, ⟨Int.le_refl p, hp.2⟩, fun _ j j1 j2 => absurd j2 (by omega), fun _ g => absurd g (by omega), fun _ => ⟨rfl, rfl, rfl⟩, fun σ x y ce nu z c1 c2 c3 c4 c5 c6 c7 => ⟨x, y, ce, nu, fun Q hQ => rh_77_12_41 (ai_ret_q (pc_56_41 hs (ai_k_in (rb_77_16_41 ⟨⟨⟨by omega, by omega⟩, (show ai_r (σ 43 s) from ⟨by omega, by omega⟩)⟩, fun _ => ⟨⟨by decide, by decide⟩, hQ⟩, fun g => absurd (show σ 43 s ≤ i by omega) g⟩)))), fun _ _ => ⟨fun _ _ => rfl, fun j j1 j2 => absurd j2 (by omega), fun _ _ => rfl, c6, fun c _ _ => ⟨fun j j1 j2 => absurd j2 (by omega), fun _ => rfl⟩⟩, c7⟩, fun σ F G c1 c2 c3 c4 c5 c6 => ⟨F, G, fun Q h1 _ => rf_row_end hs c2 hw c3 (by omega) (h1 rfl), fun _ => ⟨fun j j1 j2 => absurd j2 (by omega), fun _ _ => ⟨rfl, rfl⟩⟩, gb_id⟩⟩
  | succ m ih =>
    intro i p hi hm hp
    have hc := hcf i hi (by omega)
    have hy := hyf i hi (by omega)
    -- where the cell begins
    have hal := ac_le (tx := tx) (c := 44) hp.2
    have ha01 := ac_01 n tx p 44
    by_cases hcomma : 0 < i ∧ ac n tx p 44 = 0
    · refine ⟨0, 0, p, fun _ => 0, fun _ => 0, ⟨Or.inl rfl, Or.inl rfl⟩, ⟨Int.le_refl p, hp.2⟩, fun g => absurd g (by decide), fun _ _ _ => ⟨rfl, rfl, rfl⟩, fun g => absurd g (by omega), fun σ x y ce nu z c1 c2 c3 c4 c5 c6 c7 => ⟨x, y, ce, nu, fun Q hQ => ?_, fun g => absurd g (by decide), c7⟩, fun σ F G c1 c2 c3 c4 c5 c6 => ⟨F, G, fun Q _ h0 => ?_, fun g => absurd g (by decide), gb_id⟩⟩
      · have hac := cf_accept (sc := sc) (σ := up (up σ 48 ce) 49 nu) (x := x) (y := y) (c := 44) hT c1 hp (by decide)
        rw [hcomma.2, Int.add_zero] at hac
        exact rh_77_12_41 (ai_ret_q (pc_56_41 hs (ai_k_in (rb_77_16_41 ⟨⟨⟨by omega, by omega⟩, (show ai_r (σ 43 s) from ⟨by omega, by omega⟩)⟩, fun g => absurd (show σ 43 s ≤ i from g) (by omega), fun _ => ai_ret_q (pc_57_41 ⟨by omega, by omega⟩ (ai_k_in (rb_77_21_41 ⟨⟨by omega, by omega⟩, fun g => absurd g (by omega), fun _ => fn_ret hac (rb_77_27_41 ⟨⟨by decide, by decide⟩, fun g => absurd rfl g, fun _ => ⟨⟨by decide, by decide⟩, hQ⟩⟩)⟩)))⟩))))
      · have hsk := rf_skips (sc := sc) (F := F) (G := G) (c := 44) hT c1 hp (by decide)
        rw [hcomma.2, Int.add_zero] at hsk
        exact rb_146_12 ⟨hs, ⟨⟨by omega, by omega⟩, (show ai_r (σ 79 s) from ⟨by omega, by omega⟩)⟩, fun g => absurd (show σ 79 s ≤ i from g) (by omega), fun _ => ⟨⟨by omega, by omega⟩, fun g => absurd g (by omega), fun _ => fn_ret hsk (rb_146_23 ⟨⟨by decide, by decide⟩, fun g => absurd rfl g, fun _ => ⟨⟨by decide, by decide⟩, h0 rfl⟩⟩)⟩⟩
    · have hq : ∃ q, (p ≤ q ∧ q ≤ n) ∧ q = (if 0 < i then p + 1 else p) ∧ (0 < i → ac n tx p 44 = 1 ∧ p + 1 ≤ n) := by
        by_cases h0 : 0 < i
        · rw [if_pos h0]
          have : ac n tx p 44 = 1 := by omega
          rw [this] at hal
          exact ⟨p + 1, ⟨by omega, by omega⟩, rfl, fun _ => ⟨by omega, by omega⟩⟩
        · rw [if_neg h0]
          exact ⟨p, ⟨by omega, by omega⟩, rfl, fun g => absurd g h0⟩
      obtain ⟨q, hq1, hq2, hq3⟩ := hq
      obtain ⟨a1, b1, p1, v1, n1, k1, k2, k3, k4, k5⟩ := rd_cell (sc := sc) (p := q) (ty := yf i) hT ⟨by omega, hq1.2⟩ hy
      obtain ⟨a2, b2, p2, v2, n2, j1, j2, j3, j4, j5, j6, j7⟩ := ih (i + 1) p1 (by omega) (by omega) ⟨by omega, k2.2⟩
      have hk1 := k1.1
      have hj1 := j1.1
      -- the class, up to the cell's answer
      have cbeg : ∀ (σ : ai_S) (x y : Int) (ce nu : Int → Int) (z : Option ai_V), (cT σ n tx) → σ 43 s = w → (∀ j, 0 ≤ j → j < w → σ 44 (5 * s + j) = cf j) → (0 ≤ σ 42 s ∧ σ 42 s < 5) → (∀ j, 0 ≤ j → j < w → σ 5 (5 * σ 42 s + cf j) = yf j) → ∃ x' y', (a1 = 1 → x' = v1 ∧ y' = n1) ∧ ∀ Q : ai_O → Prop, ai_wp sc 77 38 [some (.inr (.inr 34)), some (.inr (.inr 2)), some (.inr (.inr 41)), some (.inl s), some (.inl r), some (.inl i), some (.inl (cf i))] [.inl a1] (0, 0) (92, [], RD (up (up σ 48 ce) 49 nu) p1 x' y') Q → ai_wp sc 77 12 [some (.inr (.inr 34)), some (.inr (.inr 2)), some (.inr (.inr 41)), some (.inl s), some (.inl r), some (.inl i), z] [] (0, 0) (92, [], RD (up (up σ 48 ce) 49 nu) p x y) Q := by
        intro σ x y ce nu z c1 c2 c3 c4 c5
        obtain ⟨x', y', e1, e2⟩ := k4 (up (up σ 48 ce) 49 nu) x y c1
        refine ⟨x', y', e2, fun Q hh => ?_⟩
        have ecl : σ 44 ((s * 5) + i) = cf i := by
          rw [show (s * 5) + i = 5 * s + i by omega]
          exact c3 i hi (by omega)
        have ety : σ 5 ((σ 42 s * 5) + cf i) = yf i := by
          rw [show (σ 42 s * 5) + cf i = 5 * σ 42 s + cf i by omega]
          exact c5 i hi (by omega)
        have fin : ai_wp sc 77 35 [some (.inr (.inr 34)), some (.inr (.inr 2)), some (.inr (.inr 41)), some (.inl s), some (.inl r), some (.inl i), some (.inl (cf i))] [.inl (σ 42 s), .inr (.inr 2), .inr (.inr 34)] (0, 0) (92, [], RD (up (up σ 48 ce) 49 nu) q x y) Q := by
          refine rb_77_35_41 (ai_ret_q (pc_95 ⟨by omega, by omega⟩ (ai_k_in ?_)))
          show ai_wp sc 77 37 _ [.inl (σ 5 ((σ 42 s * 5) + cf i)), .inr (.inr 34)] (0, 0) _ Q
          rw [ety]
          exact rb_77_37_41 (fn_ret e1 hh)
        refine rh_77_12_41 (ai_ret_q (pc_56_41 hs (ai_k_in (rb_77_16_41 ⟨⟨⟨by omega, by omega⟩, (show ai_r (σ 43 s) from ⟨by omega, by omega⟩)⟩, fun g => absurd (show σ 43 s ≤ i from g) (by omega), fun _ => ai_ret_q (pc_57_41 ⟨by omega, by omega⟩ (ai_k_in ?_))⟩))))
        show ai_wp sc 77 21 _ [.inl (σ 44 ((s * 5) + i))] (0, 0) _ Q
        rw [ecl]
        refine rb_77_21_41 ⟨⟨by omega, by omega⟩, fun g => ?_, fun g => ?_⟩
        · have eq : q = p := by
            rw [hq2, if_neg (by omega)]
          rw [← eq]
          exact ai_ret_q (pc_55_41 hs (ai_k_in fin))
        · have hi0 : 0 < i := by omega
          have eq : q = p + 1 := by
            rw [hq2, if_pos hi0]
          have hac := cf_accept (sc := sc) (σ := up (up σ 48 ce) 49 nu) (x := x) (y := y) (c := 44) hT c1 hp (by decide)
          rw [(hq3 hi0).1, ← eq] at hac
          exact fn_ret hac (rb_77_27_41 ⟨⟨by decide, by decide⟩, fun _ => ai_ret_q (pc_55_41 hs (ai_k_in fin)), fun g => absurd (show ¬ (1 : Int) = 0 by decide) g⟩)
      -- the reference, up to the cell's answer
      have rbeg : ∀ (σ : ai_S) (F G : Int → Int), (rT σ n tx) → σ 79 s = w → σ 59 29 = r → (∀ j, 0 ≤ j → j < w → σ 81 (5 * s + j) = cf j) → (0 ≤ σ 78 s ∧ σ 78 s < 5) → (∀ j, 0 ≤ j → j < w → σ 61 (5 * σ 78 s + cf j) = yf j) → ∃ F' G', ((b1 = 1 → F' = (fun j => if j = 5 * r + i then v1 else F j) ∧ G' = (fun j => if j = 5 * r + i then n1 else G j)) ∧ gb G G') ∧ ∀ Q : ai_O → Prop, ai_wp sc 146 52 [some (.inr (.inr 59)), some (.inl s), some (.inl i)] [.inl b1] (0, 0) (92, [], RP σ p1 F' G') Q → ai_wp sc 146 12 [some (.inr (.inr 59)), some (.inl s), some (.inl i)] [] (0, 0) (92, [], RP σ p F G) Q := by
        intro σ F G c1 c2 c3 c4 c5 c6
        obtain ⟨F', G', e1, e2⟩ := k5 σ F G (5 * r + i) c1 ⟨by omega, by omega⟩
        refine ⟨F', G', e2, fun Q hh => ?_⟩
        have ecl := c4 i hi (by omega)
        have ety := c6 i hi (by omega)
        have fin : (0 ≤ s ∧ s < 6) ∧ ((0 ≤ ((5 * s) + i) ∧ ((5 * s) + i) < 30) ∧ ((0 ≤ ((5 * (σ 78 s)) + (σ 81 ((5 * s) + i))) ∧ ((5 * (σ 78 s)) + (σ 81 ((5 * s) + i))) < 25) ∧ (ai_ret (ai_wp sc) 144 [some (.inr (.inr 59)), some (.inl ((5 * (σ 59 29)) + i)), some (.inl (σ 61 ((5 * (σ 78 s)) + (σ 81 ((5 * s) + i))))), none] (92, [], RP σ q F G) (fun v h' => ai_ck (ai_zz 92 h'.1 0) (ai_wp sc 146 52 [some (.inr (.inr 59)), some (.inl s), some (.inl i)] (v.toList ++ []) (0, 0) h' Q))))) := by
          rw [ecl, ety, c3]
          exact ⟨hs, ⟨by omega, by omega⟩, ⟨by omega, by omega⟩, fn_ret e1 hh⟩
        refine rb_146_12 ⟨hs, ⟨⟨by omega, by omega⟩, (show ai_r (σ 79 s) from ⟨by omega, by omega⟩)⟩, fun g => absurd (show σ 79 s ≤ i from g) (by omega), fun _ => ⟨⟨by omega, by omega⟩, fun g => ?_, fun g => ?_⟩⟩
        · have eq : q = p := by
            rw [hq2, if_neg (by omega)]
          rw [← eq]
          exact fin
        · have hi0 : 0 < i := by omega
          have eq : q = p + 1 := by
            rw [hq2, if_pos hi0]
          have hsk := rf_skips (sc := sc) (F := F) (G := G) (c := 44) hT c1 hp (by decide)
          rw [(hq3 hi0).1, ← eq] at hsk
          exact fn_ret hsk (rb_146_23 ⟨⟨by decide, by decide⟩, fun _ => fin, fun g => absurd (show ¬ (1 : Int) = 0 by decide) g⟩)
      have hnc : 0 < i → i < w → ac n tx p 44 = 0 → False := fun g1 g2 g3 => hcomma ⟨g1, g3⟩
      by_cases ha1 : a1 = 0
      · have hb1 : b1 = 0 := by
          rcases k1.2 with z | z <;> omega
        refine ⟨0, 0, p1, fun _ => 0, fun _ => 0, ⟨Or.inl rfl, Or.inl rfl⟩, ⟨by omega, k2.2⟩, fun g => absurd g (by decide), fun g1 g2 g3 => (hnc g1 g2 g3).elim, fun g => absurd g (by omega), fun σ x y ce nu z c1 c2 c3 c4 c5 c6 c7 => ?_, fun σ F G c1 c2 c3 c4 c5 c6 => ?_⟩
        · obtain ⟨x', y', e1, e2⟩ := cbeg σ x y ce nu z c1 c2 c3 c4 c5
          refine ⟨x', y', ce, nu, fun Q hQ => e2 Q ?_, fun g => absurd g (by decide), c7⟩
          rw [ha1]
          exact rb_77_38_41 ⟨⟨by decide, by decide⟩, fun g => absurd rfl g, fun _ => ⟨⟨by decide, by decide⟩, hQ⟩⟩
        · obtain ⟨F', G', e1, e2⟩ := rbeg σ F G c1 c2 c3 c4 c5 c6
          refine ⟨F', G', fun Q _ h0 => e2 Q ?_, fun g => absurd g (by decide), e1.2⟩
          rw [hb1]
          exact rb_146_52 ⟨⟨by decide, by decide⟩, fun g => absurd rfl g, fun _ => ⟨⟨by decide, by decide⟩, h0 rfl⟩⟩
      · have ha1' : a1 = 1 := by omega
        -- the class goes on
        have cgo : ∀ (σ : ai_S) (x y : Int) (ce nu : Int → Int) (z : Option ai_V), (cT σ n tx) → σ 43 s = w → (∀ j, 0 ≤ j → j < w → σ 44 (5 * s + j) = cf j) → (0 ≤ σ 42 s ∧ σ 42 s < 5) → (∀ j, 0 ≤ j → j < w → σ 5 (5 * σ 42 s + cf j) = yf j) → (0 ≤ nu r ∧ nu r < 32) → (∀ j, rg (ce j)) → ∃ x' y' ce' nu', (∀ Q : ai_O → Prop, Q (.inl (some (.inl a2)), (92, [], RD (up (up σ 48 ce') 49 nu') p2 x' y')) → ai_wp sc 77 12 [some (.inr (.inr 34)), some (.inr (.inr 2)), some (.inr (.inr 41)), some (.inl s), some (.inl r), some (.inl i), z] [] (0, 0) (92, [], RD (up (up σ 48 ce) 49 nu) p x y) Q) ∧ (a2 = 1 → b2 = 1 → rowC i w r cf (fun j => if j = i then v1 else v2 j) (fun j => if j = i then n1 else n2 j) ce nu ce' nu') ∧ ∀ j, rg (ce' j) := by
          intro σ x y ce nu z c1 c2 c3 c4 c5 c6 c7
          obtain ⟨x1, y1, e1, e2⟩ := cbeg σ x y ce nu z c1 c2 c3 c4 c5
          obtain ⟨ex, ey⟩ := e1 ha1'
          subst ex
          subst ey
          have hnl := (k3 ha1').1
          have hrg := okc_rg hy (k3 ha1').2.2
          have hds : ∀ j, i + 1 ≤ j → j < w → ¬ cf j = cf i := fun j jj1 jj2 e => by
            have := hdi j i (by omega) jj2 hi (by omega) e
            omega
          by_cases hn1 : y1 = 0
          · -- a value
            obtain ⟨f1, f2, f3, f4⟩ := bit_facts c6 hc
            obtain ⟨x2, y2, ce2, nu2, g1, g2, g3⟩ := j6 σ x1 y1 (fun j => if j = 5 * r + cf i then x1 else ce j) (fun q => if q = r then ai_and (nu r) (ai_xor (ai_shl 1 (cf i)) (-1)) else nu q) (some (.inl (cf i))) c1 c2 c3 c4 c5 (by rw [if_pos rfl]; exact f3) (rg_set hrg c7)
            refine ⟨x2, y2, ce2, nu2, fun Q hQ => e2 Q ?_, fun ha2 hb2 => ?_, g3⟩
            · rw [ha1']
              refine rb_77_38_41 ⟨⟨by decide, by decide⟩, fun _ => ⟨(show ai_r y1 from ⟨by omega, by omega⟩), fun g => absurd (show y1 = 0 from hn1) g, fun _ => fn_ret (cf_setCell_41 hr hc) (rb_77_50_41 (g1 Q hQ))⟩, fun g => absurd (show ¬ (1 : Int) = 0 by decide) g⟩
            · obtain ⟨r1, r2, r3, r4, r5⟩ := g2 ha2 hb2
              refine ⟨fun k hk => ?_, fun j jj1 jj2 => ?_, fun qq hqq => ?_, r4, fun c cc1 cc2 => ⟨fun j jj1 jj2 ej enl => ?_, fun hno => ?_⟩⟩
              · rw [r1 k (fun j jj1 jj2 => hk j (by omega) jj2)]
                exact if_neg (hk i (Int.le_refl i) (by omega))
              · show ce2 (5 * r + cf j) = if (if j = i then y1 else n2 j) = 0 then (if j = i then x1 else v2 j) else ce (5 * r + cf j)
                by_cases e : j = i
                · subst e
                  rw [if_pos rfl, if_pos rfl, if_pos hn1, r1 (5 * r + cf j) (fun l ll1 ll2 g => hds l ll1 ll2 (by omega))]
                  exact if_pos rfl
                · have h2 : ce2 (5 * r + cf j) = if n2 j = 0 then v2 j else (if 5 * r + cf j = 5 * r + cf i then x1 else ce (5 * r + cf j)) := r2 j (by omega) jj2
                  rw [if_neg e, if_neg e, h2]
                  have : (if 5 * r + cf j = 5 * r + cf i then x1 else ce (5 * r + cf j)) = ce (5 * r + cf j) := if_neg (fun g => hds j (by omega) jj2 (by omega))
                  rw [this]
              · rw [r3 qq hqq]
                exact if_neg hqq
              · by_cases e : j = i
                · subst e
                  have h5 := (r5 c cc1 cc2).2 (fun l ll1 ll2 el => absurd (el.trans ej.symm) (hds l ll1 ll2))
                  dsimp only at h5
                  rw [h5, if_pos rfl, (f4 c ⟨cc1, cc2⟩).2, decide_eq_true ej.symm]
                  simp
                · dsimp only at enl
                  rw [if_neg e] at enl
                  exact (r5 c cc1 cc2).1 j (by omega) jj2 ej enl
              · have hni : ¬ cf i = c := fun e => by
                  have := hno i (Int.le_refl i) (by omega) e
                  dsimp only at this
                  rw [if_pos rfl] at this
                  exact this hn1
                have h5 := (r5 c cc1 cc2).2 (fun l ll1 ll2 el => by
                  have := hno l (by omega) ll2 el
                  dsimp only at this
                  rw [if_neg (show ¬ l = i by omega)] at this
                  exact this)
                dsimp only at h5
                rw [h5, if_pos rfl, (f4 c ⟨cc1, cc2⟩).2, decide_eq_false (fun e => hni e.symm)]
                simp
          · -- null
            obtain ⟨x2, y2, ce2, nu2, g1, g2, g3⟩ := j6 σ x1 y1 ce nu (some (.inl (cf i))) c1 c2 c3 c4 c5 c6 c7
            refine ⟨x2, y2, ce2, nu2, fun Q hQ => e2 Q ?_, fun ha2 hb2 => ?_, g3⟩
            · rw [ha1']
              exact rb_77_38_41 ⟨⟨by decide, by decide⟩, fun _ => ⟨(show ai_r y1 from ⟨by omega, by omega⟩), fun _ => rb_77_50_41 (g1 Q hQ), fun g => absurd (show ¬ y1 = 0 from hn1) g⟩, fun g => absurd (show ¬ (1 : Int) = 0 by decide) g⟩
            · obtain ⟨r1, r2, r3, r4, r5⟩ := g2 ha2 hb2
              refine ⟨fun k hk => r1 k (fun j jj1 jj2 => hk j (by omega) jj2), fun j jj1 jj2 => ?_, r3, r4, fun c cc1 cc2 => ⟨fun j jj1 jj2 ej enl => ?_, fun hno => (r5 c cc1 cc2).2 (fun l ll1 ll2 el => by
                have := hno l (by omega) ll2 el
                dsimp only at this
                rw [if_neg (show ¬ l = i by omega)] at this
                exact this)⟩⟩
              · show ce2 (5 * r + cf j) = if (if j = i then y1 else n2 j) = 0 then (if j = i then x1 else v2 j) else ce (5 * r + cf j)
                by_cases e : j = i
                · subst e
                  rw [if_pos rfl, if_neg hn1, r1 (5 * r + cf j) (fun l ll1 ll2 g => hds l ll1 ll2 (by omega))]
                · rw [if_neg e, if_neg e]
                  exact r2 j (by omega) jj2
              · by_cases e : j = i
                · subst e
                  dsimp only at enl
                  rw [if_pos rfl] at enl
                  exact absurd enl hn1
                · dsimp only at enl
                  rw [if_neg e] at enl
                  exact (r5 c cc1 cc2).1 j (by omega) jj2 ej enl
        by_cases hb1 : b1 = 1
        · -- both go on
          refine ⟨a2, b2, p2, fun j => if j = i then v1 else v2 j, fun j => if j = i then n1 else n2 j, j1, ⟨by omega, j2.2⟩, fun hb j jj1 jj2 => ?_, fun g1 g2 g3 => (hnc g1 g2 g3).elim, fun g => absurd g (by omega), cgo, fun σ F G c1 c2 c3 c4 c5 c6 => ?_⟩
          · by_cases e : j = i
            · subst e
              simp only [if_pos]
              exact k3 ha1'
            · simp only [if_neg e]
              exact j3 hb j (by omega) jj2
          · obtain ⟨F1, G1, e1, e2⟩ := rbeg σ F G c1 c2 c3 c4 c5 c6
            obtain ⟨eF, eG⟩ := e1.1 hb1
            subst eF
            subst eG
            obtain ⟨F2, G2, g1, g2, g3⟩ := j7 σ (fun j => if j = 5 * r + i then v1 else F j) (fun j => if j = 5 * r + i then n1 else G j) c1 c2 c3 c4 c5 c6
            refine ⟨F2, G2, fun Q h1 h0 => e2 Q ?_, fun hb => ?_, fun h => g3 (e1.2 h)⟩
            · rw [hb1]
              exact rb_146_52 ⟨⟨by decide, by decide⟩, fun _ => g1 Q h1 h0, fun g => absurd (show ¬ (1 : Int) = 0 by decide) g⟩
            · obtain ⟨s1, s2⟩ := g2 hb
              refine ⟨fun j jj1 jj2 => ?_, fun k hk => ?_⟩
              · by_cases e : j = i
                · subst e
                  have := s2 (5 * r + j) (by omega)
                  dsimp only at this ⊢
                  rw [if_pos rfl, if_pos rfl] at this ⊢
                  exact this
                · dsimp only
                  rw [if_neg e, if_neg e]
                  exact s1 j (by omega) jj2
              · have := s2 k (by omega)
                rw [this.1, this.2]
                exact ⟨if_neg (by omega), if_neg (by omega)⟩
        · -- the quote behind eight characters
          have hq8 : b1 = 0 ∧ p1 < n ∧ tx p1 = 39 := by
            rcases k1.2 with z | z
            · omega
            · exact ⟨z.2.1, z.2.2⟩
          have hac0 : ac n tx p1 44 = 0 := if_neg (fun g => by have := g.2; omega)
          have hres : (a2 = 0 ∨ (a2 = 1 ∧ i + 1 = w)) ∧ p2 = p1 := by
            by_cases e : i + 1 = w
            · have := j5 e
              exact ⟨Or.inr ⟨this.1, e⟩, this.2.2⟩
            · have := j4 (by omega) (by omega) hac0
              exact ⟨Or.inl this.1, this.2.2⟩
          refine ⟨a2, 0, p2, fun j => if j = i then v1 else v2 j, fun j => if j = i then n1 else n2 j, ⟨hj1, ?_⟩, ⟨by omega, j2.2⟩, fun g => absurd g (by decide), fun g1 g2 g3 => (hnc g1 g2 g3).elim, fun g => absurd g (by omega), fun σ x y ce nu z c1 c2 c3 c4 c5 c6 c7 => ?_, fun σ F G c1 c2 c3 c4 c5 c6 => ?_⟩
          · rcases hres.1 with z | z
            · exact Or.inl z.symm
            · refine Or.inr ⟨z.1, rfl, ?_⟩
              rw [hres.2]
              exact hq8.2
          · obtain ⟨x', y', ce', nu', e1, e2, e3⟩ := cgo σ x y ce nu z c1 c2 c3 c4 c5 c6 c7
            exact ⟨x', y', ce', nu', e1, fun _ g => absurd g (by decide), e3⟩
          · obtain ⟨F1, G1, e1, e2⟩ := rbeg σ F G c1 c2 c3 c4 c5 c6
            refine ⟨F1, G1, fun Q _ h0 => e2 Q ?_, fun g => absurd g (by decide), e1.2⟩
            rw [hq8.1]
            refine rb_146_52 ⟨⟨by decide, by decide⟩, fun g => absurd rfl g, fun _ => ⟨⟨by decide, by decide⟩, ?_⟩⟩
            have := h0 rfl
            rw [hres.2] at this
            exact this
theorem cf_setCell_50 {sc : Int × (Int → Int)} {σ : ai_S} {p x y r c v : Int} {ce nu : Int → Int} (hr : 0 ≤ r ∧ r < 24) (hc : 0 ≤ c ∧ c < 5) : fn sc 54 [some (.inr (.inr 50)), some (.inl r), some (.inl c), some (.inr (.inl v)), none] (RD (up (up σ 57 ce) 58 nu) p x y) none (RD (up (up σ 57 (fun j => if j = 5 * r + c then v else ce j)) 58 (fun q => if q = r then ai_and (nu r) (ai_xor (ai_shl 1 c) (-1)) else nu q)) p x y) := by
  intro Q hQ
  refine rb_54_0_50 ⟨⟨by omega, by omega⟩, hr, hr, ?_⟩
  show Q (.inl none, (92, [], ai_set (ai_set (RD (up (up σ 57 ce) 58 nu) p x y) 57 ((r * 5) + c) v) 58 r (ai_and (nu r) (ai_xor (ai_shl 1 c) (-1)))))
  rw [rdq (q := 57) (by decide), rdq (q := 58) (by decide), up_c (p := 58) (q := 57) (by decide), up_s, up_s, show (r * 5) + c = 5 * r + c by omega]
  exact hQ
theorem rd_row_50 {sc : Int × (Int → Int)} {n : Int} {tx : Int → Int} {w s r : Int} {cf yf : Int → Int} (hT : TX n tx) (hw : 0 ≤ w ∧ w ≤ 5) (hs : 0 ≤ s ∧ s < 6) (hr : 0 ≤ r ∧ r < 24) (hcf : ∀ j, 0 ≤ j → j < w → 0 ≤ cf j ∧ cf j < 5) (hdi : ∀ j l, 0 ≤ j → j < w → 0 ≤ l → l < w → cf j = cf l → j = l) (hyf : ∀ j, 0 ≤ j → j < w → 0 ≤ yf j ∧ yf j ≤ 3) :
    ∀ (m : Nat) (i p : Int), 0 ≤ i → i + (m : Int) = w → (0 ≤ p ∧ p ≤ n) → ∃ a b p', ∃ (v nl : Int → Int), okQ n tx a b p' ∧ (p ≤ p' ∧ p' ≤ n) ∧ (b = 1 → ∀ j, i ≤ j → j < w → (nl j = 0 ∨ nl j = 1) ∧ (nl j = 1 → v j = 0) ∧ okc (yf j) (v j)) ∧ (0 < i → i < w → ac n tx p 44 = 0 → a = 0 ∧ b = 0 ∧ p' = p) ∧ (i = w → a = 1 ∧ b = 1 ∧ p' = p) ∧
      (∀ (σ : ai_S) (x y : Int) (ce nu : Int → Int) (z : Option ai_V), (cT σ n tx) → σ 52 s = w → (∀ j, 0 ≤ j → j < w → σ 53 (5 * s + j) = cf j) → (0 ≤ σ 51 s ∧ σ 51 s < 5) → (∀ j, 0 ≤ j → j < w → σ 5 (5 * σ 51 s + cf j) = yf j) → (0 ≤ nu r ∧ nu r < 32) → (∀ j, rg (ce j)) → ∃ x' y' ce' nu', (∀ Q : ai_O → Prop, Q (.inl (some (.inl a)), (92, [], RD (up (up σ 57 ce') 58 nu') p' x' y')) → ai_wp sc 77 12 [some (.inr (.inr 34)), some (.inr (.inr 2)), some (.inr (.inr 50)), some (.inl s), some (.inl r), some (.inl i), z] [] (0, 0) (92, [], RD (up (up σ 57 ce) 58 nu) p x y) Q) ∧ (a = 1 → b = 1 → rowC i w r cf v nl ce nu ce' nu') ∧ ∀ j, rg (ce' j)) ∧
      (∀ (σ : ai_S) (F G : Int → Int), (rT σ n tx) → σ 79 s = w → σ 59 29 = r → (∀ j, 0 ≤ j → j < w → σ 81 (5 * s + j) = cf j) → (0 ≤ σ 78 s ∧ σ 78 s < 5) → (∀ j, 0 ≤ j → j < w → σ 61 (5 * σ 78 s + cf j) = yf j) → ∃ F' G', (∀ Q : ai_O → Prop, (b = 1 → Q (.inl (some (.inl 1)), (92, [], RP (ai_set σ 59 29 (r + 1)) p' F' G'))) → (b = 0 → Q (.inl (some (.inl 0)), (92, [], RP σ p' F' G'))) → ai_wp sc 146 12 [some (.inr (.inr 59)), some (.inl s), some (.inl i)] [] (0, 0) (92, [], RP σ p F G) Q) ∧ (b = 1 → rowR i w r v nl F G F' G') ∧ gb G G') := by
  intro m
  induction m with
  | zero =>
    intro i p hi hm hp
    refine ⟨1, 1, p, fun _ => 0, fun _ => 0, ⟨Or.inr rfl, Or.inl rfl⟩, ⟨Int.le_refl p, hp.2⟩, fun _ j j1 j2 => absurd j2 (by omega), fun _ g => absurd g (by omega), fun _ => ⟨rfl, rfl, rfl⟩, fun σ x y ce nu z c1 c2 c3 c4 c5 c6 c7 => ⟨x, y, ce, nu, fun Q hQ => rh_77_12_50 (ai_ret_q (pc_56_50 hs (ai_k_in (rb_77_16_50 ⟨⟨⟨by omega, by omega⟩, (show ai_r (σ 52 s) from ⟨by omega, by omega⟩)⟩, fun _ => ⟨⟨by decide, by decide⟩, hQ⟩, fun g => absurd (show σ 52 s ≤ i by omega) g⟩)))), fun _ _ => ⟨fun _ _ => rfl, fun j j1 j2 => absurd j2 (by omega), fun _ _ => rfl, c6, fun c _ _ => ⟨fun j j1 j2 => absurd j2 (by omega), fun _ => rfl⟩⟩, c7⟩, fun σ F G c1 c2 c3 c4 c5 c6 => ⟨F, G, fun Q h1 _ => rf_row_end hs c2 hw c3 (by omega) (h1 rfl), fun _ => ⟨fun j j1 j2 => absurd j2 (by omega), fun _ _ => ⟨rfl, rfl⟩⟩, gb_id⟩⟩
  | succ m ih =>
    intro i p hi hm hp
    have hc := hcf i hi (by omega)
    have hy := hyf i hi (by omega)
    -- where the cell begins
    have hal := ac_le (tx := tx) (c := 44) hp.2
    have ha01 := ac_01 n tx p 44
    by_cases hcomma : 0 < i ∧ ac n tx p 44 = 0
    · refine ⟨0, 0, p, fun _ => 0, fun _ => 0, ⟨Or.inl rfl, Or.inl rfl⟩, ⟨Int.le_refl p, hp.2⟩, fun g => absurd g (by decide), fun _ _ _ => ⟨rfl, rfl, rfl⟩, fun g => absurd g (by omega), fun σ x y ce nu z c1 c2 c3 c4 c5 c6 c7 => ⟨x, y, ce, nu, fun Q hQ => ?_, fun g => absurd g (by decide), c7⟩, fun σ F G c1 c2 c3 c4 c5 c6 => ⟨F, G, fun Q _ h0 => ?_, fun g => absurd g (by decide), gb_id⟩⟩
      · have hac := cf_accept (sc := sc) (σ := up (up σ 57 ce) 58 nu) (x := x) (y := y) (c := 44) hT c1 hp (by decide)
        rw [hcomma.2, Int.add_zero] at hac
        exact rh_77_12_50 (ai_ret_q (pc_56_50 hs (ai_k_in (rb_77_16_50 ⟨⟨⟨by omega, by omega⟩, (show ai_r (σ 52 s) from ⟨by omega, by omega⟩)⟩, fun g => absurd (show σ 52 s ≤ i from g) (by omega), fun _ => ai_ret_q (pc_57_50 ⟨by omega, by omega⟩ (ai_k_in (rb_77_21_50 ⟨⟨by omega, by omega⟩, fun g => absurd g (by omega), fun _ => fn_ret hac (rb_77_27_50 ⟨⟨by decide, by decide⟩, fun g => absurd rfl g, fun _ => ⟨⟨by decide, by decide⟩, hQ⟩⟩)⟩)))⟩))))
      · have hsk := rf_skips (sc := sc) (F := F) (G := G) (c := 44) hT c1 hp (by decide)
        rw [hcomma.2, Int.add_zero] at hsk
        exact rb_146_12 ⟨hs, ⟨⟨by omega, by omega⟩, (show ai_r (σ 79 s) from ⟨by omega, by omega⟩)⟩, fun g => absurd (show σ 79 s ≤ i from g) (by omega), fun _ => ⟨⟨by omega, by omega⟩, fun g => absurd g (by omega), fun _ => fn_ret hsk (rb_146_23 ⟨⟨by decide, by decide⟩, fun g => absurd rfl g, fun _ => ⟨⟨by decide, by decide⟩, h0 rfl⟩⟩)⟩⟩
    · have hq : ∃ q, (p ≤ q ∧ q ≤ n) ∧ q = (if 0 < i then p + 1 else p) ∧ (0 < i → ac n tx p 44 = 1 ∧ p + 1 ≤ n) := by
        by_cases h0 : 0 < i
        · rw [if_pos h0]
          have : ac n tx p 44 = 1 := by omega
          rw [this] at hal
          exact ⟨p + 1, ⟨by omega, by omega⟩, rfl, fun _ => ⟨by omega, by omega⟩⟩
        · rw [if_neg h0]
          exact ⟨p, ⟨by omega, by omega⟩, rfl, fun g => absurd g h0⟩
      obtain ⟨q, hq1, hq2, hq3⟩ := hq
      obtain ⟨a1, b1, p1, v1, n1, k1, k2, k3, k4, k5⟩ := rd_cell (sc := sc) (p := q) (ty := yf i) hT ⟨by omega, hq1.2⟩ hy
      obtain ⟨a2, b2, p2, v2, n2, j1, j2, j3, j4, j5, j6, j7⟩ := ih (i + 1) p1 (by omega) (by omega) ⟨by omega, k2.2⟩
      have hk1 := k1.1
      have hj1 := j1.1
      -- the class, up to the cell's answer
      have cbeg : ∀ (σ : ai_S) (x y : Int) (ce nu : Int → Int) (z : Option ai_V), (cT σ n tx) → σ 52 s = w → (∀ j, 0 ≤ j → j < w → σ 53 (5 * s + j) = cf j) → (0 ≤ σ 51 s ∧ σ 51 s < 5) → (∀ j, 0 ≤ j → j < w → σ 5 (5 * σ 51 s + cf j) = yf j) → ∃ x' y', (a1 = 1 → x' = v1 ∧ y' = n1) ∧ ∀ Q : ai_O → Prop, ai_wp sc 77 38 [some (.inr (.inr 34)), some (.inr (.inr 2)), some (.inr (.inr 50)), some (.inl s), some (.inl r), some (.inl i), some (.inl (cf i))] [.inl a1] (0, 0) (92, [], RD (up (up σ 57 ce) 58 nu) p1 x' y') Q → ai_wp sc 77 12 [some (.inr (.inr 34)), some (.inr (.inr 2)), some (.inr (.inr 50)), some (.inl s), some (.inl r), some (.inl i), z] [] (0, 0) (92, [], RD (up (up σ 57 ce) 58 nu) p x y) Q := by
        intro σ x y ce nu z c1 c2 c3 c4 c5
        obtain ⟨x', y', e1, e2⟩ := k4 (up (up σ 57 ce) 58 nu) x y c1
        refine ⟨x', y', e2, fun Q hh => ?_⟩
        have ecl : σ 53 ((s * 5) + i) = cf i := by
          rw [show (s * 5) + i = 5 * s + i by omega]
          exact c3 i hi (by omega)
        have ety : σ 5 ((σ 51 s * 5) + cf i) = yf i := by
          rw [show (σ 51 s * 5) + cf i = 5 * σ 51 s + cf i by omega]
          exact c5 i hi (by omega)
        have fin : ai_wp sc 77 35 [some (.inr (.inr 34)), some (.inr (.inr 2)), some (.inr (.inr 50)), some (.inl s), some (.inl r), some (.inl i), some (.inl (cf i))] [.inl (σ 51 s), .inr (.inr 2), .inr (.inr 34)] (0, 0) (92, [], RD (up (up σ 57 ce) 58 nu) q x y) Q := by
          refine rb_77_35_50 (ai_ret_q (pc_95 ⟨by omega, by omega⟩ (ai_k_in ?_)))
          show ai_wp sc 77 37 _ [.inl (σ 5 ((σ 51 s * 5) + cf i)), .inr (.inr 34)] (0, 0) _ Q
          rw [ety]
          exact rb_77_37_50 (fn_ret e1 hh)
        refine rh_77_12_50 (ai_ret_q (pc_56_50 hs (ai_k_in (rb_77_16_50 ⟨⟨⟨by omega, by omega⟩, (show ai_r (σ 52 s) from ⟨by omega, by omega⟩)⟩, fun g => absurd (show σ 52 s ≤ i from g) (by omega), fun _ => ai_ret_q (pc_57_50 ⟨by omega, by omega⟩ (ai_k_in ?_))⟩))))
        show ai_wp sc 77 21 _ [.inl (σ 53 ((s * 5) + i))] (0, 0) _ Q
        rw [ecl]
        refine rb_77_21_50 ⟨⟨by omega, by omega⟩, fun g => ?_, fun g => ?_⟩
        · have eq : q = p := by
            rw [hq2, if_neg (by omega)]
          rw [← eq]
          exact ai_ret_q (pc_55_50 hs (ai_k_in fin))
        · have hi0 : 0 < i := by omega
          have eq : q = p + 1 := by
            rw [hq2, if_pos hi0]
          have hac := cf_accept (sc := sc) (σ := up (up σ 57 ce) 58 nu) (x := x) (y := y) (c := 44) hT c1 hp (by decide)
          rw [(hq3 hi0).1, ← eq] at hac
          exact fn_ret hac (rb_77_27_50 ⟨⟨by decide, by decide⟩, fun _ => ai_ret_q (pc_55_50 hs (ai_k_in fin)), fun g => absurd (show ¬ (1 : Int) = 0 by decide) g⟩)
      -- the reference, up to the cell's answer
      have rbeg : ∀ (σ : ai_S) (F G : Int → Int), (rT σ n tx) → σ 79 s = w → σ 59 29 = r → (∀ j, 0 ≤ j → j < w → σ 81 (5 * s + j) = cf j) → (0 ≤ σ 78 s ∧ σ 78 s < 5) → (∀ j, 0 ≤ j → j < w → σ 61 (5 * σ 78 s + cf j) = yf j) → ∃ F' G', ((b1 = 1 → F' = (fun j => if j = 5 * r + i then v1 else F j) ∧ G' = (fun j => if j = 5 * r + i then n1 else G j)) ∧ gb G G') ∧ ∀ Q : ai_O → Prop, ai_wp sc 146 52 [some (.inr (.inr 59)), some (.inl s), some (.inl i)] [.inl b1] (0, 0) (92, [], RP σ p1 F' G') Q → ai_wp sc 146 12 [some (.inr (.inr 59)), some (.inl s), some (.inl i)] [] (0, 0) (92, [], RP σ p F G) Q := by
        intro σ F G c1 c2 c3 c4 c5 c6
        obtain ⟨F', G', e1, e2⟩ := k5 σ F G (5 * r + i) c1 ⟨by omega, by omega⟩
        refine ⟨F', G', e2, fun Q hh => ?_⟩
        have ecl := c4 i hi (by omega)
        have ety := c6 i hi (by omega)
        have fin : (0 ≤ s ∧ s < 6) ∧ ((0 ≤ ((5 * s) + i) ∧ ((5 * s) + i) < 30) ∧ ((0 ≤ ((5 * (σ 78 s)) + (σ 81 ((5 * s) + i))) ∧ ((5 * (σ 78 s)) + (σ 81 ((5 * s) + i))) < 25) ∧ (ai_ret (ai_wp sc) 144 [some (.inr (.inr 59)), some (.inl ((5 * (σ 59 29)) + i)), some (.inl (σ 61 ((5 * (σ 78 s)) + (σ 81 ((5 * s) + i))))), none] (92, [], RP σ q F G) (fun v h' => ai_ck (ai_zz 92 h'.1 0) (ai_wp sc 146 52 [some (.inr (.inr 59)), some (.inl s), some (.inl i)] (v.toList ++ []) (0, 0) h' Q))))) := by
          rw [ecl, ety, c3]
          exact ⟨hs, ⟨by omega, by omega⟩, ⟨by omega, by omega⟩, fn_ret e1 hh⟩
        refine rb_146_12 ⟨hs, ⟨⟨by omega, by omega⟩, (show ai_r (σ 79 s) from ⟨by omega, by omega⟩)⟩, fun g => absurd (show σ 79 s ≤ i from g) (by omega), fun _ => ⟨⟨by omega, by omega⟩, fun g => ?_, fun g => ?_⟩⟩
        · have eq : q = p := by
            rw [hq2, if_neg (by omega)]
          rw [← eq]
          exact fin
        · have hi0 : 0 < i := by omega
          have eq : q = p + 1 := by
            rw [hq2, if_pos hi0]
          have hsk := rf_skips (sc := sc) (F := F) (G := G) (c := 44) hT c1 hp (by decide)
          rw [(hq3 hi0).1, ← eq] at hsk
          exact fn_ret hsk (rb_146_23 ⟨⟨by decide, by decide⟩, fun _ => fin, fun g => absurd (show ¬ (1 : Int) = 0 by decide) g⟩)
      have hnc : 0 < i → i < w → ac n tx p 44 = 0 → False := fun g1 g2 g3 => hcomma ⟨g1, g3⟩
      by_cases ha1 : a1 = 0
      · have hb1 : b1 = 0 := by
          rcases k1.2 with z | z <;> omega
        refine ⟨0, 0, p1, fun _ => 0, fun _ => 0, ⟨Or.inl rfl, Or.inl rfl⟩, ⟨by omega, k2.2⟩, fun g => absurd g (by decide), fun g1 g2 g3 => (hnc g1 g2 g3).elim, fun g => absurd g (by omega), fun σ x y ce nu z c1 c2 c3 c4 c5 c6 c7 => ?_, fun σ F G c1 c2 c3 c4 c5 c6 => ?_⟩
        · obtain ⟨x', y', e1, e2⟩ := cbeg σ x y ce nu z c1 c2 c3 c4 c5
          refine ⟨x', y', ce, nu, fun Q hQ => e2 Q ?_, fun g => absurd g (by decide), c7⟩
          rw [ha1]
          exact rb_77_38_50 ⟨⟨by decide, by decide⟩, fun g => absurd rfl g, fun _ => ⟨⟨by decide, by decide⟩, hQ⟩⟩
        · obtain ⟨F', G', e1, e2⟩ := rbeg σ F G c1 c2 c3 c4 c5 c6
          refine ⟨F', G', fun Q _ h0 => e2 Q ?_, fun g => absurd g (by decide), e1.2⟩
          rw [hb1]
          exact rb_146_52 ⟨⟨by decide, by decide⟩, fun g => absurd rfl g, fun _ => ⟨⟨by decide, by decide⟩, h0 rfl⟩⟩
      · have ha1' : a1 = 1 := by omega
        -- the class goes on
        have cgo : ∀ (σ : ai_S) (x y : Int) (ce nu : Int → Int) (z : Option ai_V), (cT σ n tx) → σ 52 s = w → (∀ j, 0 ≤ j → j < w → σ 53 (5 * s + j) = cf j) → (0 ≤ σ 51 s ∧ σ 51 s < 5) → (∀ j, 0 ≤ j → j < w → σ 5 (5 * σ 51 s + cf j) = yf j) → (0 ≤ nu r ∧ nu r < 32) → (∀ j, rg (ce j)) → ∃ x' y' ce' nu', (∀ Q : ai_O → Prop, Q (.inl (some (.inl a2)), (92, [], RD (up (up σ 57 ce') 58 nu') p2 x' y')) → ai_wp sc 77 12 [some (.inr (.inr 34)), some (.inr (.inr 2)), some (.inr (.inr 50)), some (.inl s), some (.inl r), some (.inl i), z] [] (0, 0) (92, [], RD (up (up σ 57 ce) 58 nu) p x y) Q) ∧ (a2 = 1 → b2 = 1 → rowC i w r cf (fun j => if j = i then v1 else v2 j) (fun j => if j = i then n1 else n2 j) ce nu ce' nu') ∧ ∀ j, rg (ce' j) := by
          intro σ x y ce nu z c1 c2 c3 c4 c5 c6 c7
          obtain ⟨x1, y1, e1, e2⟩ := cbeg σ x y ce nu z c1 c2 c3 c4 c5
          obtain ⟨ex, ey⟩ := e1 ha1'
          subst ex
          subst ey
          have hnl := (k3 ha1').1
          have hrg := okc_rg hy (k3 ha1').2.2
          have hds : ∀ j, i + 1 ≤ j → j < w → ¬ cf j = cf i := fun j jj1 jj2 e => by
            have := hdi j i (by omega) jj2 hi (by omega) e
            omega
          by_cases hn1 : y1 = 0
          · -- a value
            obtain ⟨f1, f2, f3, f4⟩ := bit_facts c6 hc
            obtain ⟨x2, y2, ce2, nu2, g1, g2, g3⟩ := j6 σ x1 y1 (fun j => if j = 5 * r + cf i then x1 else ce j) (fun q => if q = r then ai_and (nu r) (ai_xor (ai_shl 1 (cf i)) (-1)) else nu q) (some (.inl (cf i))) c1 c2 c3 c4 c5 (by rw [if_pos rfl]; exact f3) (rg_set hrg c7)
            refine ⟨x2, y2, ce2, nu2, fun Q hQ => e2 Q ?_, fun ha2 hb2 => ?_, g3⟩
            · rw [ha1']
              refine rb_77_38_50 ⟨⟨by decide, by decide⟩, fun _ => ⟨(show ai_r y1 from ⟨by omega, by omega⟩), fun g => absurd (show y1 = 0 from hn1) g, fun _ => fn_ret (cf_setCell_50 hr hc) (rb_77_50_50 (g1 Q hQ))⟩, fun g => absurd (show ¬ (1 : Int) = 0 by decide) g⟩
            · obtain ⟨r1, r2, r3, r4, r5⟩ := g2 ha2 hb2
              refine ⟨fun k hk => ?_, fun j jj1 jj2 => ?_, fun qq hqq => ?_, r4, fun c cc1 cc2 => ⟨fun j jj1 jj2 ej enl => ?_, fun hno => ?_⟩⟩
              · rw [r1 k (fun j jj1 jj2 => hk j (by omega) jj2)]
                exact if_neg (hk i (Int.le_refl i) (by omega))
              · show ce2 (5 * r + cf j) = if (if j = i then y1 else n2 j) = 0 then (if j = i then x1 else v2 j) else ce (5 * r + cf j)
                by_cases e : j = i
                · subst e
                  rw [if_pos rfl, if_pos rfl, if_pos hn1, r1 (5 * r + cf j) (fun l ll1 ll2 g => hds l ll1 ll2 (by omega))]
                  exact if_pos rfl
                · have h2 : ce2 (5 * r + cf j) = if n2 j = 0 then v2 j else (if 5 * r + cf j = 5 * r + cf i then x1 else ce (5 * r + cf j)) := r2 j (by omega) jj2
                  rw [if_neg e, if_neg e, h2]
                  have : (if 5 * r + cf j = 5 * r + cf i then x1 else ce (5 * r + cf j)) = ce (5 * r + cf j) := if_neg (fun g => hds j (by omega) jj2 (by omega))
                  rw [this]
              · rw [r3 qq hqq]
                exact if_neg hqq
              · by_cases e : j = i
                · subst e
                  have h5 := (r5 c cc1 cc2).2 (fun l ll1 ll2 el => absurd (el.trans ej.symm) (hds l ll1 ll2))
                  dsimp only at h5
                  rw [h5, if_pos rfl, (f4 c ⟨cc1, cc2⟩).2, decide_eq_true ej.symm]
                  simp
                · dsimp only at enl
                  rw [if_neg e] at enl
                  exact (r5 c cc1 cc2).1 j (by omega) jj2 ej enl
              · have hni : ¬ cf i = c := fun e => by
                  have := hno i (Int.le_refl i) (by omega) e
                  dsimp only at this
                  rw [if_pos rfl] at this
                  exact this hn1
                have h5 := (r5 c cc1 cc2).2 (fun l ll1 ll2 el => by
                  have := hno l (by omega) ll2 el
                  dsimp only at this
                  rw [if_neg (show ¬ l = i by omega)] at this
                  exact this)
                dsimp only at h5
                rw [h5, if_pos rfl, (f4 c ⟨cc1, cc2⟩).2, decide_eq_false (fun e => hni e.symm)]
                simp
          · -- null
            obtain ⟨x2, y2, ce2, nu2, g1, g2, g3⟩ := j6 σ x1 y1 ce nu (some (.inl (cf i))) c1 c2 c3 c4 c5 c6 c7
            refine ⟨x2, y2, ce2, nu2, fun Q hQ => e2 Q ?_, fun ha2 hb2 => ?_, g3⟩
            · rw [ha1']
              exact rb_77_38_50 ⟨⟨by decide, by decide⟩, fun _ => ⟨(show ai_r y1 from ⟨by omega, by omega⟩), fun _ => rb_77_50_50 (g1 Q hQ), fun g => absurd (show ¬ y1 = 0 from hn1) g⟩, fun g => absurd (show ¬ (1 : Int) = 0 by decide) g⟩
            · obtain ⟨r1, r2, r3, r4, r5⟩ := g2 ha2 hb2
              refine ⟨fun k hk => r1 k (fun j jj1 jj2 => hk j (by omega) jj2), fun j jj1 jj2 => ?_, r3, r4, fun c cc1 cc2 => ⟨fun j jj1 jj2 ej enl => ?_, fun hno => (r5 c cc1 cc2).2 (fun l ll1 ll2 el => by
                have := hno l (by omega) ll2 el
                dsimp only at this
                rw [if_neg (show ¬ l = i by omega)] at this
                exact this)⟩⟩
              · show ce2 (5 * r + cf j) = if (if j = i then y1 else n2 j) = 0 then (if j = i then x1 else v2 j) else ce (5 * r + cf j)
                by_cases e : j = i
                · subst e
                  rw [if_pos rfl, if_neg hn1, r1 (5 * r + cf j) (fun l ll1 ll2 g => hds l ll1 ll2 (by omega))]
                · rw [if_neg e, if_neg e]
                  exact r2 j (by omega) jj2
              · by_cases e : j = i
                · subst e
                  dsimp only at enl
                  rw [if_pos rfl] at enl
                  exact absurd enl hn1
                · dsimp only at enl
                  rw [if_neg e] at enl
                  exact (r5 c cc1 cc2).1 j (by omega) jj2 ej enl
        by_cases hb1 : b1 = 1
        · -- both go on
          refine ⟨a2, b2, p2, fun j => if j = i then v1 else v2 j, fun j => if j = i then n1 else n2 j, j1, ⟨by omega, j2.2⟩, fun hb j jj1 jj2 => ?_, fun g1 g2 g3 => (hnc g1 g2 g3).elim, fun g => absurd g (by omega), cgo, fun σ F G c1 c2 c3 c4 c5 c6 => ?_⟩
          · by_cases e : j = i
            · subst e
              simp only [if_pos]
              exact k3 ha1'
            · simp only [if_neg e]
              exact j3 hb j (by omega) jj2
          · obtain ⟨F1, G1, e1, e2⟩ := rbeg σ F G c1 c2 c3 c4 c5 c6
            obtain ⟨eF, eG⟩ := e1.1 hb1
            subst eF
            subst eG
            obtain ⟨F2, G2, g1, g2, g3⟩ := j7 σ (fun j => if j = 5 * r + i then v1 else F j) (fun j => if j = 5 * r + i then n1 else G j) c1 c2 c3 c4 c5 c6
            refine ⟨F2, G2, fun Q h1 h0 => e2 Q ?_, fun hb => ?_, fun h => g3 (e1.2 h)⟩
            · rw [hb1]
              exact rb_146_52 ⟨⟨by decide, by decide⟩, fun _ => g1 Q h1 h0, fun g => absurd (show ¬ (1 : Int) = 0 by decide) g⟩
            · obtain ⟨s1, s2⟩ := g2 hb
              refine ⟨fun j jj1 jj2 => ?_, fun k hk => ?_⟩
              · by_cases e : j = i
                · subst e
                  have := s2 (5 * r + j) (by omega)
                  dsimp only at this ⊢
                  rw [if_pos rfl, if_pos rfl] at this ⊢
                  exact this
                · dsimp only
                  rw [if_neg e, if_neg e]
                  exact s1 j (by omega) jj2
              · have := s2 k (by omega)
                rw [this.1, this.2]
                exact ⟨if_neg (by omega), if_neg (by omega)⟩
        · -- the quote behind eight characters
          have hq8 : b1 = 0 ∧ p1 < n ∧ tx p1 = 39 := by
            rcases k1.2 with z | z
            · omega
            · exact ⟨z.2.1, z.2.2⟩
          have hac0 : ac n tx p1 44 = 0 := if_neg (fun g => by have := g.2; omega)
          have hres : (a2 = 0 ∨ (a2 = 1 ∧ i + 1 = w)) ∧ p2 = p1 := by
            by_cases e : i + 1 = w
            · have := j5 e
              exact ⟨Or.inr ⟨this.1, e⟩, this.2.2⟩
            · have := j4 (by omega) (by omega) hac0
              exact ⟨Or.inl this.1, this.2.2⟩
          refine ⟨a2, 0, p2, fun j => if j = i then v1 else v2 j, fun j => if j = i then n1 else n2 j, ⟨hj1, ?_⟩, ⟨by omega, j2.2⟩, fun g => absurd g (by decide), fun g1 g2 g3 => (hnc g1 g2 g3).elim, fun g => absurd g (by omega), fun σ x y ce nu z c1 c2 c3 c4 c5 c6 c7 => ?_, fun σ F G c1 c2 c3 c4 c5 c6 => ?_⟩
          · rcases hres.1 with z | z
            · exact Or.inl z.symm
            · refine Or.inr ⟨z.1, rfl, ?_⟩
              rw [hres.2]
              exact hq8.2
          · obtain ⟨x', y', ce', nu', e1, e2, e3⟩ := cgo σ x y ce nu z c1 c2 c3 c4 c5 c6 c7
            exact ⟨x', y', ce', nu', e1, fun _ g => absurd g (by decide), e3⟩
          · obtain ⟨F1, G1, e1, e2⟩ := rbeg σ F G c1 c2 c3 c4 c5 c6
            refine ⟨F1, G1, fun Q _ h0 => e2 Q ?_, fun g => absurd g (by decide), e1.2⟩
            rw [hq8.1]
            refine rb_146_52 ⟨⟨by decide, by decide⟩, fun g => absurd rfl g, fun _ => ⟨⟨by decide, by decide⟩, ?_⟩⟩
            have := h0 rfl
            rw [hres.2] at this
            exact this
