/-! READ: what a section and a row add; the ties. -/
theorem at1_at {f : Int → Int} {s v : Int} : at1 f s v s = v := if_pos rfl
theorem at1_ne {f : Int → Int} {s v j : Int} (h : ¬ j = s) : at1 f s v j = f j := if_neg h
theorem cln_ne {f cf : Int → Int} {s i k j : Int} (h : ¬ (5 * s + i ≤ j ∧ j < 5 * s + k)) : cln f cf s i k j = f j := if_neg h
theorem cln_at {f cf : Int → Int} {s k j : Int} (h : 0 ≤ j ∧ j < k) : cln f cf s 0 k (5 * s + j) = cf j := by
  unfold cln
  rw [if_pos (by omega), show 5 * s + j - 5 * s = j by omega]
theorem DS_0 {T : Int} {w ty ta wd cl nm fr rs ce nu st sw sf sl xc xn : Int → Int} (hr : ∀ j, rg (ce j)) (h0 : sf 0 = 0) : DS T w ty 0 0 ta wd cl nm fr rs ce nu 0 0 st sw sf sl xc xn := ⟨⟨rfl, rfl, ⟨by decide, by decide⟩, ⟨by decide, by decide⟩, h0, h0⟩, hr, fun r r1 r2 => absurd r2 (by omega), fun s s1 s2 => absurd s2 (by omega)⟩
theorem DS_sec {T : Int} {w ty : Int → Int} {S N : Int} {ta wd cl nm fr rs ce nu st sw sf sl xc xn : Int → Int} (h : DS T w ty S N ta wd cl nm fr rs ce nu S N st sw sf sl xc xn) {t k b : Int} {cf : Int → Int} (hw : ∀ t, 0 ≤ w t ∧ w t ≤ 5) (hS : S < 6) (ht : 0 ≤ t ∧ t < T) (hk : 1 ≤ k ∧ k ≤ w t) (hb : 0 ≤ b ∧ b < 32) (hcf : ∀ j, 0 ≤ j → j < k → 0 ≤ cf j ∧ cf j < w t) (hdi : ∀ j l, 0 ≤ j → j < k → 0 ≤ l → l < k → cf j = cf l → j = l) (hnm : ∀ c, 0 ≤ c → c < 5 → (tb b c = true ↔ ∃ j, 0 ≤ j ∧ j < k ∧ cf j = c)) :
    DS T w ty (S + 1) N (at1 ta S t) (at1 wd S k) (cln cl cf S 0 k) (at1 nm S b) (at1 fr S N) rs ce nu (S + 1) N (at1 st S t) (at1 sw S k) (at1 sf (S + 1) N) (cln sl cf S 0 k) xc xn := by
  obtain ⟨⟨_, _, a3, a4, a5, a6⟩, a7, a8, a9⟩ := h
  refine ⟨⟨rfl, rfl, ⟨by omega, by omega⟩, a4, at1_at, ?_⟩, a7, fun r r1 r2 => ?_, fun s s1 s2 => ?_⟩
  · rw [at1_ne (by omega)]
    exact a6
  · obtain ⟨x1, x2, x3⟩ := a8 r r1 r2
    refine ⟨⟨x1.1, by omega⟩, ?_, ?_⟩
    · rw [at1_ne (by omega)]
      exact x2
    · rw [at1_ne (by omega)]
      exact x3
  · by_cases e : s = S
    · subst e
      have hwt := hw t
      rw [at1_at, at1_at, at1_at, at1_at, at1_at, at1_at, at1_ne (show ¬ s = s + 1 by omega), at1_at]
      refine ⟨⟨rfl, ht⟩, ⟨rfl, hk⟩, ⟨a5, by omega, by omega, Int.le_refl N⟩, hb, fun j j1 j2 => ?_, fun j l j1 j2 l1 l2 q => ?_, fun c c1 c2 => ?_, fun r r1 r2 => absurd r2 (by omega)⟩
      · rw [cln_at ⟨j1, j2⟩, cln_at ⟨j1, j2⟩]
        exact ⟨rfl, hcf j j1 j2⟩
      · rw [cln_at ⟨j1, j2⟩, cln_at ⟨l1, l2⟩] at q
        exact hdi j l j1 j2 l1 l2 q
      · rw [hnm c c1 c2]
        constructor
        · rintro ⟨j, j1, j2, j3⟩
          exact ⟨j, j1, j2, (cln_at ⟨j1, j2⟩).trans j3⟩
        · rintro ⟨j, j1, j2, j3⟩
          exact ⟨j, j1, j2, (cln_at ⟨j1, j2⟩).symm.trans j3⟩
    · have s3 : s < S := by omega
      obtain ⟨g1, g2, g3, g4, g5, g6, g7, g8⟩ := a9 s s1 s3
      have hwt := hw (ta s)
      have ec : ∀ f : Int → Int, ∀ j, 0 ≤ j → j < wd s → cln f cf S 0 k (5 * s + j) = f (5 * s + j) := fun f j j1 j2 => cln_ne (by omega)
      rw [at1_ne e, at1_ne e, at1_ne e, at1_ne e, at1_ne e, at1_ne e, at1_ne (show ¬ s = S + 1 by omega), at1_ne (show ¬ s + 1 = S + 1 by omega)]
      refine ⟨g1, g2, g3, g4, fun j j1 j2 => ?_, fun j l j1 j2 l1 l2 q => ?_, fun c c1 c2 => ?_, fun r r1 r2 => ?_⟩
      · rw [ec sl j j1 j2, ec cl j j1 j2]
        exact g5 j j1 j2
      · rw [ec cl j j1 j2, ec cl l l1 l2] at q
        exact g6 j l j1 j2 l1 l2 q
      · rw [g7 c c1 c2]
        constructor
        · rintro ⟨j, j1, j2, j3⟩
          exact ⟨j, j1, j2, (ec cl j j1 j2).trans j3⟩
        · rintro ⟨j, j1, j2, j3⟩
          exact ⟨j, j1, j2, (ec cl j j1 j2).symm.trans j3⟩
      · obtain ⟨f1, f2, f3, f4, f5, f6⟩ := g8 r r1 r2
        refine ⟨f1, f2, fun j j1 j2 => ?_, f4, f5, f6⟩
        rw [ec cl j j1 j2]
        exact f3 j j1 j2
theorem DS_row {T : Int} {w ty : Int → Int} {s N : Int} {ta wd cl nm fr rs ce nu st sw sf sl xc xn ce' nu' xc' xn' : Int → Int} (h : DS T w ty (s + 1) N ta wd cl nm fr rs ce nu (s + 1) N st sw (at1 sf (s + 1) N) sl xc xn) (hw : ∀ t, 0 ≤ w t ∧ w t ≤ 5) (hs : 0 ≤ s) (hN : N < 24) (hr : ∀ j, rg (ce' j)) (he : ∀ j, j < 5 * N → ce' j = ce j) (hn : ∀ q, ¬ q = N → nu' q = nu q) (hx : ∀ j, j < 5 * N → xc' j = xc j ∧ xn' j = xn j)
    (n1 : 0 ≤ nu' N ∧ nu' N < 32) (n2 : ∀ k, 0 ≤ k → k < wd s → xc' (5 * N + k) = ce' (5 * N + cl (5 * s + k)) ∧ xn' (5 * N + k) = bi (tb (nu' N) (cl (5 * s + k)) = true)) (n3 : ∀ c, 0 ≤ c → c < 5 → tb (nm s) c = false → tb (nu' N) c = true) (n4 : ∀ c, 0 ≤ c → c < 5 → tb (nu' N) c = true → ce' (5 * N + c) = 0) (n5 : ∀ c, 0 ≤ c → c < w (ta s) → okc (ty (5 * ta s + c)) (ce' (5 * N + c))) :
    DS T w ty (s + 1) (N + 1) ta wd cl nm fr (at1 rs N s) ce' nu' (s + 1) (N + 1) st sw (at1 sf (s + 1) (N + 1)) sl xc' xn' := by
  obtain ⟨⟨_, _, a3, a4, a5, a6⟩, a7, a8, a9⟩ := h
  have sfs : ∀ j, ¬ j = s + 1 → at1 sf (s + 1) (N + 1) j = at1 sf (s + 1) N j := fun j hj => (at1_ne hj).trans (at1_ne hj).symm
  refine ⟨⟨rfl, rfl, a3, ⟨by omega, by omega⟩, at1_at, ?_⟩, hr, fun r r1 r2 => ?_, fun q q1 q2 => ?_⟩
  · rw [sfs 0 (by omega)]
    exact a6
  · by_cases e : r = N
    · subst e
      rw [at1_at, at1_at, sfs s (by omega)]
      have g3 := (a9 s hs (by omega)).2.2.1
      rw [at1_at] at g3
      exact ⟨⟨hs, by omega⟩, by omega, by omega⟩
    · obtain ⟨x1, x2, x3⟩ := a8 r r1 (by omega)
      rw [at1_ne e]
      refine ⟨x1, ?_, ?_⟩
      · rw [sfs _ (by omega)]
        exact x2
      · by_cases z : rs r + 1 = s + 1
        · rw [z, at1_at]
          omega
        · rw [sfs _ z]
          exact x3
  · obtain ⟨g1, g2, g3, g4, g5, g6, g7, g8⟩ := a9 q q1 q2
    have hwt := hw (ta q)
    rw [sfs q (by omega)]
    refine ⟨g1, g2, ⟨g3.1, g3.2.1, ?_, ?_⟩, g4, g5, g6, g7, fun r r1 r2 => ?_⟩
    · by_cases z : q + 1 = s + 1
      · rw [z, at1_at]
        have := g3.2.2.1
        rw [z, at1_at] at this
        omega
      · rw [sfs _ z]
        exact g3.2.2.1
    · by_cases z : q + 1 = s + 1
      · rw [z, at1_at]
        omega
      · rw [sfs _ z]
        have := g3.2.2.2
        omega
    · by_cases e : r = N
      · -- the new row
        have eq : q = s := by
          by_cases z : q + 1 = s + 1
          · omega
          · rw [sfs _ z] at r2
            have := g3.2.2.2
            omega
        subst eq
        subst e
        rw [at1_at]
        exact ⟨rfl, n1, n2, n3, n4, n5⟩
      · have rN : r < N := by
          by_cases z : q + 1 = s + 1
          · rw [z, at1_at] at r2
            omega
          · rw [sfs _ z] at r2
            have := g3.2.2.2
            omega
        have r3 : r < at1 sf (s + 1) N (q + 1) := by
          by_cases z : q + 1 = s + 1
          · rw [z, at1_at]
            exact rN
          · rw [sfs _ z] at r2
            exact r2
        obtain ⟨f1, f2, f3, f4, f5, f6⟩ := g8 r r1 r3
        have b1 := hn r e
        rw [at1_ne e, b1]
        refine ⟨f1, f2, fun k k1 k2 => ?_, f4, fun c c1 c2 c3 => ?_, fun c c1 c2 => ?_⟩
        · have := (g5 k k1 k2).2
          rw [(hx (5 * r + k) (by omega)).1, (hx (5 * r + k) (by omega)).2, he _ (by omega)]
          exact f3 k k1 k2
        · rw [he _ (by omega)]
          exact f5 c c1 c2 c3
        · rw [he _ (by omega)]
          exact f6 c c1 c2
theorem rd_id {σ : ai_S} {p : Int} (h : σ 34 1 = p) : RD σ p (σ 34 3) (σ 34 4) = σ := by
  subst h
  unfold RD
  funext q j
  by_cases e : q = 34
  · subst e
    by_cases e4 : j = 4
    · subst e4
      simp [ai_set]
    · by_cases e3 : j = 3
      · subst e3
        simp [ai_set]
      · by_cases e1 : j = 1
        · subst e1
          simp [ai_set]
        · simp [ai_set, e4, e3, e1]
  · simp [ai_set, e]
theorem rd_ne {σ : ai_S} {p x y : Int} {q : Nat} (h : ¬ q = 34) : RD σ p x y q = σ q := (set_ne h).trans ((set_ne h).trans (set_ne h))
theorem rd_0 {σ : ai_S} {p x y : Int} : RD σ p x y 34 0 = σ 34 0 := rfl
theorem rp_id {σ : ai_S} {p : Int} (h : σ 59 17 = p) : RP σ p (σ 82) (σ 83) = σ := by
  subst h
  have e : ai_set σ 59 17 (σ 59 17) = σ := by
    funext q j
    by_cases e : q = 59
    · subst e
      by_cases e1 : j = 17
      · subst e1
        simp [ai_set]
      · simp [ai_set, e1]
    · simp [ai_set, e]
  have e2 : up σ 82 (σ 82) = σ := up_id
  unfold RP
  rw [e, e2, up_id]
theorem rp_ne {σ : ai_S} {p : Int} {F G : Int → Int} {q : Nat} (h : ¬ (q = 59 ∨ q = 82 ∨ q = 83)) : RP σ p F G q = σ q := (up_ne (by omega)).trans ((up_ne (by omega)).trans (set_ne (by omega)))
theorem rp_59 {σ : ai_S} {p : Int} {F G : Int → Int} {j : Int} (h : ¬ j = 17) : RP σ p F G 59 j = σ 59 j := by
  show ai_set σ 59 17 p 59 j = σ 59 j
  exact st_ix h
def CK (d : Nat) (τ : ai_S) (S N p : Int) (ta wd cl nm fr rs ce nu : Int → Int) (σ : ai_S) : Prop := (∀ q : Nat, ¬ (q = 34 ∨ (d ≤ q ∧ q ≤ d + 8)) → σ q = τ q) ∧ σ 34 0 = τ 34 0 ∧ σ 34 1 = p ∧ (σ d 0 = S ∧ σ d 1 = N) ∧ σ (d + 1) = ta ∧ σ (d + 2) = wd ∧ σ (d + 3) = cl ∧ σ (d + 4) = nm ∧ σ (d + 5) = fr ∧ σ (d + 6) = rs ∧ σ (d + 7) = ce ∧ σ (d + 8) = nu
def CE (d : Nat) (τ : ai_S) (p : Int) (σ : ai_S) : Prop := (∀ q : Nat, ¬ (q = 34 ∨ (d ≤ q ∧ q ≤ d + 8)) → σ q = τ q) ∧ σ 34 0 = τ 34 0 ∧ σ 34 1 = p ∧ ∀ j, rg (σ (d + 7) j)
def RK (τ : ai_S) (S N p : Int) (st sw sf sl xc xn : Int → Int) (σ : ai_S) : Prop := (∀ q : Nat, ¬ (q = 59 ∨ (78 ≤ q ∧ q ≤ 83)) → σ q = τ q) ∧ (∀ j, ¬ (j = 17 ∨ j = 28 ∨ j = 29) → σ 59 j = τ 59 j) ∧ σ 59 17 = p ∧ (σ 59 28 = S ∧ σ 59 29 = N) ∧ σ 78 = st ∧ σ 79 = sw ∧ σ 80 = sf ∧ σ 81 = sl ∧ σ 82 = xc ∧ σ 83 = xn
def RE (τ : ai_S) (p : Int) (σ : ai_S) : Prop := (∀ q : Nat, ¬ (q = 59 ∨ (78 ≤ q ∧ q ≤ 83)) → σ q = τ q) ∧ (∀ j, ¬ (j = 17 ∨ j = 28 ∨ j = 29) → σ 59 j = τ 59 j) ∧ σ 59 17 = p ∧ ∀ j, 0 ≤ σ 83 j ∧ σ 83 j ≤ 1
theorem CK_E {d : Nat} {τ σ : ai_S} {S N p : Int} {ta wd cl nm fr rs ce nu : Int → Int} (h : CK d τ S N p ta wd cl nm fr rs ce nu σ) (hr : ∀ j, rg (ce j)) : CE d τ p σ := ⟨h.1, h.2.1, h.2.2.1, by rw [h.2.2.2.2.2.2.2.2.2.2.1]; exact hr⟩
theorem RK_E {τ σ : ai_S} {S N p : Int} {st sw sf sl xc xn : Int → Int} (h : RK τ S N p st sw sf sl xc xn σ) (hb : ∀ j, 0 ≤ xn j ∧ xn j ≤ 1) : RE τ p σ := ⟨h.1, h.2.1, h.2.2.1, by rw [h.2.2.2.2.2.2.2.2.2]; exact hb⟩
theorem ck_rd_41 {τ σ : ai_S} {S N p q x y : Int} {ta wd cl nm fr rs ce nu : Int → Int} (h : CK 41 τ S N p ta wd cl nm fr rs ce nu σ) : CK 41 τ S N q ta wd cl nm fr rs ce nu (RD σ q x y) := by
  obtain ⟨h1, h2, h3, h4⟩ := h
  exact ⟨fun k hk => (rd_ne (by omega)).trans (h1 k hk), h2, rfl, h4⟩
theorem cf_addRow_41 {sc : Int × (Int → Int)} {τ σ : ai_S} {S N p : Int} {ta wd cl nm fr rs ce nu : Int → Int} (h : CK 41 τ S N p ta wd cl nm fr rs ce nu σ) (hN : 0 ≤ N ∧ N < 24) : ∃ σ', fn sc 53 [some (.inr (.inr 41)), none] σ none σ' ∧ CK 41 τ S (N + 1) p ta wd cl nm fr (at1 rs N (S - 1)) (fun j => if 5 * N ≤ j ∧ j < 5 * N + 5 then 0 else ce j) (at1 nu N 31) σ' := by
  obtain ⟨h1, h2, h3, ⟨h4, h5⟩, k1, k2, k3, k4, k5, k6, k7, k8⟩ := h
  refine ⟨ai_set (ai_set (ai_set (ai_set (ai_set (ai_set (ai_set (ai_set σ 47 N (S - 1)) 48 (N * 5 + 0) 0) 48 (N * 5 + (0 + 1)) 0) 48 (N * 5 + (0 + 1 + 1)) 0) 48 (N * 5 + (0 + 1 + 1 + 1)) 0) 48 (N * 5 + (0 + 1 + 1 + 1 + 1)) 0) 49 N 31) 41 1 (N + 1), fun Q hQ => ?_, ?_⟩
  · subst h4
    subst h5
    have i5 : ai_r 5 := ⟨by decide, by decide⟩
    refine rb_53_0_41 ⟨hN, ?_⟩
    refine rb_53_11_41 ⟨⟨⟨by decide, by decide⟩, i5⟩, fun g => absurd g (by decide), fun _ => ⟨(show 0 ≤ σ 41 1 * 5 + 0 ∧ σ 41 1 * 5 + 0 < 120 by omega), ?_⟩⟩
    refine rb_53_11_41 ⟨⟨⟨by decide, by decide⟩, i5⟩, fun g => absurd g (by decide), fun _ => ⟨(show 0 ≤ σ 41 1 * 5 + (0 + 1) ∧ σ 41 1 * 5 + (0 + 1) < 120 by omega), ?_⟩⟩
    refine rb_53_11_41 ⟨⟨⟨by decide, by decide⟩, i5⟩, fun g => absurd g (by decide), fun _ => ⟨(show 0 ≤ σ 41 1 * 5 + (0 + 1 + 1) ∧ σ 41 1 * 5 + (0 + 1 + 1) < 120 by omega), ?_⟩⟩
    refine rb_53_11_41 ⟨⟨⟨by decide, by decide⟩, i5⟩, fun g => absurd g (by decide), fun _ => ⟨(show 0 ≤ σ 41 1 * 5 + (0 + 1 + 1 + 1) ∧ σ 41 1 * 5 + (0 + 1 + 1 + 1) < 120 by omega), ?_⟩⟩
    refine rb_53_11_41 ⟨⟨⟨by decide, by decide⟩, i5⟩, fun g => absurd g (by decide), fun _ => ⟨(show 0 ≤ σ 41 1 * 5 + (0 + 1 + 1 + 1 + 1) ∧ σ 41 1 * 5 + (0 + 1 + 1 + 1 + 1) < 120 by omega), ?_⟩⟩
    exact rb_53_11_41 ⟨⟨⟨by decide, by decide⟩, i5⟩, fun _ => ⟨hN, hQ⟩, fun g => absurd (show (5 : Int) ≤ 0 + 1 + 1 + 1 + 1 + 1 by decide) g⟩
  · refine ⟨fun q hq => ?_, h2, h3, ⟨h4, rfl⟩, k1, k2, k3, k4, k5, ?_, ?_, ?_⟩
    · rw [set_ne (by omega), set_ne (by omega), set_ne (by omega), set_ne (by omega), set_ne (by omega), set_ne (by omega), set_ne (by omega), set_ne (by omega)]
      exact h1 q hq
    · show (fun j => if j = N then S - 1 else σ 47 j) = at1 rs N (S - 1)
      rw [k6]
      rfl
    · funext j
      show (if j = N * 5 + (0 + 1 + 1 + 1 + 1) then 0 else if j = N * 5 + (0 + 1 + 1 + 1) then 0 else if j = N * 5 + (0 + 1 + 1) then 0 else if j = N * 5 + (0 + 1) then 0 else if j = N * 5 + 0 then 0 else σ 48 j) = if 5 * N ≤ j ∧ j < 5 * N + 5 then 0 else ce j
      rw [k7]
      by_cases z : 5 * N ≤ j ∧ j < 5 * N + 5
      · rw [if_pos z]
        repeat' split
        all_goals first | rfl | omega
      · rw [if_neg z, if_neg (by omega), if_neg (by omega), if_neg (by omega), if_neg (by omega), if_neg (by omega)]
    · show (fun j => if j = N then 31 else σ 49 j) = at1 nu N 31
      rw [k8]
      rfl
theorem ck_rd_50 {τ σ : ai_S} {S N p q x y : Int} {ta wd cl nm fr rs ce nu : Int → Int} (h : CK 50 τ S N p ta wd cl nm fr rs ce nu σ) : CK 50 τ S N q ta wd cl nm fr rs ce nu (RD σ q x y) := by
  obtain ⟨h1, h2, h3, h4⟩ := h
  exact ⟨fun k hk => (rd_ne (by omega)).trans (h1 k hk), h2, rfl, h4⟩
theorem cf_addRow_50 {sc : Int × (Int → Int)} {τ σ : ai_S} {S N p : Int} {ta wd cl nm fr rs ce nu : Int → Int} (h : CK 50 τ S N p ta wd cl nm fr rs ce nu σ) (hN : 0 ≤ N ∧ N < 24) : ∃ σ', fn sc 53 [some (.inr (.inr 50)), none] σ none σ' ∧ CK 50 τ S (N + 1) p ta wd cl nm fr (at1 rs N (S - 1)) (fun j => if 5 * N ≤ j ∧ j < 5 * N + 5 then 0 else ce j) (at1 nu N 31) σ' := by
  obtain ⟨h1, h2, h3, ⟨h4, h5⟩, k1, k2, k3, k4, k5, k6, k7, k8⟩ := h
  refine ⟨ai_set (ai_set (ai_set (ai_set (ai_set (ai_set (ai_set (ai_set σ 56 N (S - 1)) 57 (N * 5 + 0) 0) 57 (N * 5 + (0 + 1)) 0) 57 (N * 5 + (0 + 1 + 1)) 0) 57 (N * 5 + (0 + 1 + 1 + 1)) 0) 57 (N * 5 + (0 + 1 + 1 + 1 + 1)) 0) 58 N 31) 50 1 (N + 1), fun Q hQ => ?_, ?_⟩
  · subst h4
    subst h5
    have i5 : ai_r 5 := ⟨by decide, by decide⟩
    refine rb_53_0_50 ⟨hN, ?_⟩
    refine rb_53_11_50 ⟨⟨⟨by decide, by decide⟩, i5⟩, fun g => absurd g (by decide), fun _ => ⟨(show 0 ≤ σ 50 1 * 5 + 0 ∧ σ 50 1 * 5 + 0 < 120 by omega), ?_⟩⟩
    refine rb_53_11_50 ⟨⟨⟨by decide, by decide⟩, i5⟩, fun g => absurd g (by decide), fun _ => ⟨(show 0 ≤ σ 50 1 * 5 + (0 + 1) ∧ σ 50 1 * 5 + (0 + 1) < 120 by omega), ?_⟩⟩
    refine rb_53_11_50 ⟨⟨⟨by decide, by decide⟩, i5⟩, fun g => absurd g (by decide), fun _ => ⟨(show 0 ≤ σ 50 1 * 5 + (0 + 1 + 1) ∧ σ 50 1 * 5 + (0 + 1 + 1) < 120 by omega), ?_⟩⟩
    refine rb_53_11_50 ⟨⟨⟨by decide, by decide⟩, i5⟩, fun g => absurd g (by decide), fun _ => ⟨(show 0 ≤ σ 50 1 * 5 + (0 + 1 + 1 + 1) ∧ σ 50 1 * 5 + (0 + 1 + 1 + 1) < 120 by omega), ?_⟩⟩
    refine rb_53_11_50 ⟨⟨⟨by decide, by decide⟩, i5⟩, fun g => absurd g (by decide), fun _ => ⟨(show 0 ≤ σ 50 1 * 5 + (0 + 1 + 1 + 1 + 1) ∧ σ 50 1 * 5 + (0 + 1 + 1 + 1 + 1) < 120 by omega), ?_⟩⟩
    exact rb_53_11_50 ⟨⟨⟨by decide, by decide⟩, i5⟩, fun _ => ⟨hN, hQ⟩, fun g => absurd (show (5 : Int) ≤ 0 + 1 + 1 + 1 + 1 + 1 by decide) g⟩
  · refine ⟨fun q hq => ?_, h2, h3, ⟨h4, rfl⟩, k1, k2, k3, k4, k5, ?_, ?_, ?_⟩
    · rw [set_ne (by omega), set_ne (by omega), set_ne (by omega), set_ne (by omega), set_ne (by omega), set_ne (by omega), set_ne (by omega), set_ne (by omega)]
      exact h1 q hq
    · show (fun j => if j = N then S - 1 else σ 56 j) = at1 rs N (S - 1)
      rw [k6]
      rfl
    · funext j
      show (if j = N * 5 + (0 + 1 + 1 + 1 + 1) then 0 else if j = N * 5 + (0 + 1 + 1 + 1) then 0 else if j = N * 5 + (0 + 1 + 1) then 0 else if j = N * 5 + (0 + 1) then 0 else if j = N * 5 + 0 then 0 else σ 57 j) = if 5 * N ≤ j ∧ j < 5 * N + 5 then 0 else ce j
      rw [k7]
      by_cases z : 5 * N ≤ j ∧ j < 5 * N + 5
      · rw [if_pos z]
        repeat' split
        all_goals first | rfl | omega
      · rw [if_neg z, if_neg (by omega), if_neg (by omega), if_neg (by omega), if_neg (by omega), if_neg (by omega)]
    · show (fun j => if j = N then 31 else σ 58 j) = at1 nu N 31
      rw [k8]
      rfl
