/-! APPLY: a row is loaded, class and reference in step. -/
theorem bits_all : (List.range 32).all (fun n => (List.range 32).all (fun m => decide ((∀ c ∈ List.range 5, tb (Int.ofNat n) (Int.ofNat c) = tb (Int.ofNat m) (Int.ofNat c)) → n = m))) = true := by decide +kernel
theorem bits_inj {x y : Int} (hx : 0 ≤ x ∧ x < 32) (hy : 0 ≤ y ∧ y < 32) (h : ∀ c, 0 ≤ c → c < 5 → tb x c = tb y c) : x = y := by
  have h1 := List.all_eq_true.mp bits_all x.toNat (List.mem_range.mpr (by omega))
  have h2 := of_decide_eq_true (List.all_eq_true.mp h1 y.toNat (List.mem_range.mpr (by omega)))
  have ex : Int.ofNat x.toNat = x := Int.toNat_of_nonneg hx.1
  have ey : Int.ofNat y.toNat = y := Int.toNat_of_nonneg hy.1
  rw [ex, ey] at h2
  have h3 := h2 (fun c hc => h (Int.ofNat c) (Int.natCast_nonneg c) (by have := List.mem_range.mp hc; show (c : Int) < 5; omega))
  omega
theorem bits_ex (f : Int → Bool) : ∃ x, (0 ≤ x ∧ x < 32) ∧ ∀ c, 0 ≤ c → c < 5 → tb x c = f c := by
  have h : ∀ n : Nat, n ≤ 5 → ∃ x, (0 ≤ x ∧ x < 32) ∧ ∀ c, 0 ≤ c → c < (n : Int) → tb x c = f c := by
    intro n
    induction n with
    | zero => exact fun _ => ⟨0, ⟨by decide, by decide⟩, fun c c1 c2 => absurd c2 (by omega)⟩
    | succ n ih =>
      intro hn
      obtain ⟨x, x1, x2⟩ := ih (by omega)
      obtain ⟨p1, p2⟩ := pt_facts (b := if f (n : Int) = true then 1 else 0) x1 (c := (n : Int)) ⟨by omega, by omega⟩
      refine ⟨_, p1, fun c c1 c2 => ?_⟩
      rw [p2 c c1 (by omega)]
      by_cases e : c = (n : Int)
      · rw [if_pos e, e]
        by_cases g : f (n : Int) = true
        · simp [g]
        · simp [g]
      · rw [if_neg e]
        exact x2 c c1 (by omega)
  exact h 5 (by decide)
theorem cpf_congr {f g g' : Int → Int} {a : Int} (h : ∀ c, 0 ≤ c → c < 5 → g c = g' c) : cpf f g a 5 = cpf f g' a 5 := by
  funext j
  unfold cpf
  split
  · exact h (j - a) (by omega) (by omega)
  · rfl
theorem rf_keyOf_fn {sc : Int × (Int → Int)} {σ : ai_S} {s k : Int} (hs : 0 ≤ s ∧ s < 6) (hw : 0 ≤ σ 73 s ∧ σ 73 s ≤ 5) (hc : ∀ k, 0 ≤ k → k < σ 73 s → ai_r (σ 75 (5 * s + k))) (hdi : ∀ k l, 0 ≤ k → k < σ 73 s → 0 ≤ l → l < σ 73 s → σ 75 (5 * s + k) = σ 75 (5 * s + l) → k = l) (hk : (k = -1 ∧ ∀ j, 0 ≤ j → j < σ 73 s → ¬ σ 75 (5 * s + j) = 0) ∨ (0 ≤ k ∧ k < σ 73 s ∧ σ 75 (5 * s + k) = 0)) : fn sc 166 [some (.inr (.inr 59)), some (.inl s), none, none] σ (some (.inl k)) σ := by
  intro Q hQ
  refine rf_keyOf hs hw hc (fun l hl => ?_)
  have e : l = k := by
    rcases hk with ⟨k1, k2⟩ | ⟨k1, k2, k3⟩
    · rcases hl with ⟨l1, l2⟩ | ⟨l1, l2, l3⟩
      · omega
      · exact absurd l3 (k2 l l1 l2)
    · rcases hl with ⟨l1, l2⟩ | ⟨l1, l2, l3⟩
      · exact absurd k3 (l2 k k1 k2)
      · exact hdi l k l1 l2 k1 k2 (l3.trans k3.symm)
  rw [e]
  exact hQ
def SmC (sc : Int × (Int → Int)) (τ : ai_S) (m : Nat) (a : ai_L) (cn ce nu y : Int → Int) (md ch b : Int) (cn' ce' nu' y' : Int → Int) (md' ch' : Int) : Prop := ∀ σ, CT τ cn ce nu y md ch σ → ∃ σ', fn sc m a σ (some (.inl b)) σ' ∧ CT τ cn' ce' nu' y' md' ch' σ' ∧ kpC σ σ'
def SmR (sc : Int × (Int → Int)) (τ : ai_S) (m : Nat) (a : ai_L) (cn ce nu y : Int → Int) (md ch b : Int) (cn' ce' nu' y' : Int → Int) (md' ch' : Int) : Prop := ∀ σ, RT τ cn ce nu y md ch σ → ∃ σ', fn sc m a σ (some (.inl b)) σ' ∧ RT τ cn' ce' nu' y' md' ch' σ' ∧ kpR σ σ'
def okO (τ : ai_S) (k b : Int) (cn' ce' nu' y' : Int → Int) (md md' ch' : Int) : Prop := (b = 0 ∨ b = 1) ∧ GS (τ 2 0) (τ 4) (τ 5) (τ 6) cn' ce' nu' ∧ (∀ j, ai_r (y' j)) ∧ (0 < τ 12 0 → 0 ≤ ch' ∧ ch' ≤ 200) ∧ (md ≤ md' ∧ md' ≤ md + k)
theorem rg8 {x : Int} (h : rg x) : ai_r8 x := by
  obtain ⟨h1, h2⟩ := h
  exact ⟨by omega, by omega⟩
/-- the reference's none of what class holds as bits -/
theorem no01 {cn ce nu mn vl no : Int → Int} (h : EqS cn ce nu mn vl no) : ∀ j, 0 ≤ j → j < 300 → 0 ≤ no j ∧ no j ≤ 1 := by
  intro j j1 j2
  have e := h.2.2 (j / 5) (j % 5) (by omega) (by omega) (by omega) (by omega)
  rw [show 5 * (j / 5) + j % 5 = j by omega] at e
  rw [e]
  exact bi_01 _
theorem ld_row_41 {sc : Int × (Int → Int)} {τ : ai_S} (hS : RSch (τ 2 0) (τ 59 1) (τ 4) (τ 60) (τ 5) (τ 61) (τ 7) (τ 62) (τ 6) (τ 63) (τ 3) (τ 84)) (hD : DS (τ 2 0) (τ 4) (τ 5) (τ 41 0) (τ 41 1) (τ 42) (τ 43) (τ 44) (τ 45) (τ 46) (τ 47) (τ 48) (τ 49) (τ 59 20) (τ 59 21) (τ 72) (τ 73) (τ 74) (τ 75) (τ 76) (τ 77)) (hO : τ 59 13 = τ 12 0) (hO3 : 0 ≤ τ 12 0 ∧ τ 12 0 ≤ 3) {op r : Int} (hop : 0 ≤ op ∧ op ≤ 3) (hr : 0 ≤ r ∧ r < τ 41 1) {cn ce nu y : Int → Int} {md ch : Int} (hG : GS (τ 2 0) (τ 4) (τ 5) (τ 6) cn ce nu) (hy : ∀ j, ai_r (y j)) (hch : 0 < τ 12 0 → 0 ≤ ch ∧ ch ≤ 200) :
    ∃ b cn' ce' nu' y' md' ch', okO τ 1 b cn' ce' nu' y' md md' ch' ∧ SmC sc τ 40 [some (.inr (.inr 1)), some (.inl op), some (.inr (.inr 41)), some (.inl r), none, none] cn ce nu y md ch b cn' ce' nu' y' md' ch' ∧ SmR sc τ 167 [some (.inr (.inr 59)), some (.inl op), some (.inl (τ 42 (τ 47 r))), some (.inl (τ 47 r)), some (.inl r), none, none] cn ce nu y md ch b cn' ce' nu' y' md' ch' := by
  obtain ⟨s1, s2, s3, s4, s5, s6, s7, s8, s9, s10, s11, s12⟩ := hS
  obtain ⟨⟨d1, d2, d3, d4, d5, d6⟩, d7, d8, d9⟩ := hD
  obtain ⟨e1, e2, e3⟩ := d8 r hr.1 hr.2
  obtain ⟨s, hs⟩ : ∃ s, s = τ 47 r := ⟨_, rfl⟩
  rw [← hs] at e1 e2 e3
  obtain ⟨⟨g1a, g1b, g1c⟩, ⟨g2a, g2b, g2c⟩, g3, g4, g5, g6, g7, g8⟩ := d9 s e1.1 e1.2
  obtain ⟨f1, f2, f3, f4, f5, f6⟩ := g8 r e2 e3
  obtain ⟨t, ht⟩ : ∃ t, t = τ 42 s := ⟨_, rfl⟩
  rw [← ht] at g1a g1b g1c g2c g5 f6
  have hs6 : 0 ≤ s ∧ s < 6 := ⟨e1.1, by omega⟩
  have hr24 : 0 ≤ r ∧ r < 24 := ⟨hr.1, by omega⟩
  have ht5 : 0 ≤ t ∧ t < 5 := ⟨g1b, by omega⟩
  have hw5 := s8 t
  obtain ⟨k1, k2, k3, k4, k5, k6, k7, k8⟩ := id hG
  have h8 : ∀ j, ai_r8 (ce j) := fun j => rg8 (k4 j)
  have hcl : ∀ k, 0 ≤ k → k < τ 43 s → 0 ≤ τ 44 (5 * s + k) ∧ τ 44 (5 * s + k) < 5 := fun k x1 x2 => ⟨(g5 k x1 x2).2.1, by have := (g5 k x1 x2).2.2; omega⟩
  have hwd : 0 ≤ τ 43 s ∧ τ 43 s ≤ 5 := ⟨by omega, by omega⟩
  have rt : ai_r t := ⟨by omega, by omega⟩
  have rr : ai_r r := ⟨by omega, by omega⟩
  -- what the two hold at a state
  have fC : ∀ σ, CT τ cn ce nu y md ch σ → σ 42 (σ 47 r) = t ∧ σ 47 r = s ∧ σ 49 = τ 49 ∧ σ 48 = τ 48 ∧ σ 45 = τ 45 := fun σ h => by
    have a1 := h.1.1 42 (by omega)
    have a2 := h.1.1 47 (by omega)
    refine ⟨?_, ?_, h.1.1 49 (by omega), h.1.1 48 (by omega), h.1.1 45 (by omega)⟩
    · rw [a1, a2, ← hs]
      exact ht.symm
    · rw [a2]
      exact hs.symm
  have keyR : ∀ σ, RT τ cn ce nu y md ch σ → ∀ k, ((k = -1 ∧ ∀ j, 0 ≤ j → j < τ 43 s → ¬ τ 44 (5 * s + j) = 0) ∨ (0 ≤ k ∧ k < τ 43 s ∧ τ 44 (5 * s + k) = 0)) → fn sc 166 [some (.inr (.inr 59)), some (.inl s), none, none] σ (some (.inl k)) σ := fun σ h k hk => by
    have a1 := h.1.1 73 (by omega)
    have a2 := h.1.1 75 (by omega)
    have eq : ∀ j, 0 ≤ j → j < σ 73 s → σ 75 (5 * s + j) = τ 44 (5 * s + j) := fun j j1 j2 => by
      rw [a2]
      rw [a1, g2a] at j2
      exact (g5 j j1 j2).1
    have ew : σ 73 s = τ 43 s := by rw [a1, g2a]
    refine rf_keyOf_fn hs6 (by omega) (fun j j1 j2 => ?_) (fun j l j1 j2 l1 l2 e => ?_) ?_
    · rw [eq j j1 j2]
      have := hcl j j1 (by omega)
      exact ⟨by omega, by omega⟩
    · rw [eq j j1 j2, eq l l1 l2] at e
      exact g6 j l j1 (by omega) l1 (by omega) e
    · rcases hk with ⟨x1, x2⟩ | ⟨x1, x2, x3⟩
      · refine Or.inl ⟨x1, fun j j1 j2 => ?_⟩
        rw [eq j j1 j2]
        exact x2 j j1 (by omega)
      · refine Or.inr ⟨x1, by omega, ?_⟩
        rw [eq k x1 (by omega)]
        exact x3
  have okF : ∀ a b, ai_r a → ai_r b → okO τ 1 0 cn ce nu (wy y a t r b) md md ch := fun a b ha hb => ⟨Or.inl rfl, hG, wy_r hy ha rt rr hb, hch, Int.le_refl md, by omega⟩
  rw [show τ 42 (τ 47 r) = t by rw [← hs]; exact ht.symm, ← hs]
  by_cases hk0 : tb (τ 49 r) 0 = true
  · -- no key
    refine ⟨0, cn, ce, nu, wy y 1 t r 0, md, ch, okF 1 0 rr1 rr0, fun σ h => ?_, fun σ h => ?_⟩
    · obtain ⟨c1, c2, c3, c4, c5⟩ := fC σ h
      obtain ⟨q1, q2⟩ := ct_fail (a := 1) (b := t) (c := r) (d := 0) h
      exact ⟨_, cl_null_41 hr24 (by rw [c2]; exact hs6) c1 (by rw [c3]; exact f2) (by rw [c3]; exact hk0), q1, q2⟩
    · obtain ⟨q1, q2⟩ := rt_fail (a := 1) (b := t) (c := r) (d := 0) h
      have a77 := h.1.1 77 (by omega)
      by_cases hm : tb (τ 45 s) 0 = true
      · obtain ⟨k, x1, x2, x3⟩ := (g7 0 (by decide) (by decide)).mp hm
        have e := (f3 k x1 x2).2
        rw [x3, hk0] at e
        exact ⟨_, rl_null hr24 (keyR σ h k (Or.inr ⟨x1, x2, x3⟩)) (Or.inr ⟨⟨x1, by omega⟩, by rw [a77]; exact e.trans (bi_eq1.mpr rfl)⟩), q1, q2⟩
      · exact ⟨_, rl_null hr24 (keyR σ h (-1) (Or.inl ⟨rfl, fun j j1 j2 e => hm ((g7 0 (by decide) (by decide)).mpr ⟨j, j1, j2, e⟩)⟩)) (Or.inl rfl), q1, q2⟩
  · have hkf : tb (τ 49 r) 0 = false := by simpa using hk0
    have hm : tb (τ 45 s) 0 = true := by
      by_cases z : tb (τ 45 s) 0 = true
      · exact z
      · exact absurd (f4 0 (by decide) (by decide) (by simpa using z)) hk0
    obtain ⟨k, x1, x2, x3⟩ := (g7 0 (by decide) (by decide)).mp hm
    obtain ⟨x4, x5⟩ := f3 k x1 x2
    rw [x3] at x4 x5
    rw [hkf] at x5
    have x6 : τ 77 (5 * r + k) = 0 := x5.trans (bi_eq0.mpr (by decide))
    have x7 : τ 76 (5 * r + k) = τ 48 (r * 5 + 0) := by rw [x4, show 5 * r + 0 = r * 5 + 0 by omega]
    obtain ⟨v, hv⟩ : ∃ v, v = τ 48 (r * 5 + 0) := ⟨_, rfl⟩
    rw [← hv] at x7
    have hv8 : ai_r8 v := by rw [hv]; exact rg8 (d7 _)
    obtain ⟨o, ho⟩ := isRow_total (cn t) v (fun q => ce (60 * t + 5 * q))
    obtain ⟨ro, ho12⟩ := isRow_rng ho (k1 t).2
    have hasc := fun a b => k5 t a b ht5.1 ht5.2
    have CL : ∀ σ, CT τ cn ce nu y md ch σ → ∀ Q : ai_O → Prop, (op = 3 → o = -1 → Q (.inl (some (.inl 1)), (92, [], σ))) → (op = 3 → ¬ o = -1 → ∃ b σ', (b = 0 ∨ b = 1) ∧ fn sc 41 [some (.inr (.inr 1)), some (.inl t), some (.inl o), some (.inl r), none] σ (some (.inl b)) σ' ∧ Q (.inl (some (.inl b)), (92, [], σ'))) → (op = 0 → ¬ o = -1 → Q (.inl (some (.inl 0)), (92, [], up σ 27 (wy (σ 27) 2 t r (-1))))) → (op = 1 → o = -1 → Q (.inl (some (.inl 0)), (92, [], up σ 27 (wy (σ 27) 5 t r (-1))))) → (¬ op = 3 → ¬ (op = 0 ∧ ¬ o = -1) → ¬ (op = 1 ∧ o = -1) → ∃ b σ1 σ', (b = 0 ∨ b = 1) ∧ fn sc 42 [some (.inr (.inr 1)), some (.inr (.inr 41)), some (.inl r), some (.inl o), none, none] σ none σ1 ∧ fn sc 43 [some (.inr (.inr 1)), some (.inl t), some (.inl o), some (.inl r), none] σ1 (some (.inl b)) σ' ∧ Q (.inl (some (.inl b)), (92, [], σ'))) → ai_wp sc 40 0 [some (.inr (.inr 1)), some (.inl op), some (.inr (.inr 41)), some (.inl r), none, none] [] (0, 0) (92, [], σ) Q := by
      intro σ h Q hN hR h2 h5 hF
      obtain ⟨c1, c2, c3, c4, c5⟩ := fC σ h
      have c9 := h.2.1.1
      have c10 := h.2.1.2.1
      refine cl_load_41 hop ro hr24 (by rw [c2]; exact hs6) c1 (by rw [c3]; exact f2) (by rw [c3]; exact hkf) ?_ hN hR h2 h5 hF
      rw [c4, ← hv]
      exact cf_find_fn ht5 (by rw [c9]; exact k1 t) (by rw [c10]; exact h8) hv8 (by rw [c9, c10]; exact hasc) (by rw [c9, c10]; exact ho)
    have fR : ∀ σ, RT τ cn ce nu y md ch σ → σ 64 = cn ∧ σ 65 = ce ∧ σ 59 13 = τ 12 0 := fun σ h => ⟨h.2.1.1, h.2.1.2.1, h.1.2.2.1.trans hO⟩
    have RL : ∀ σ, RT τ cn ce nu y md ch σ → ∀ Q : ai_O → Prop, (op = 3 → o = -1 → Q (.inl (some (.inl 1)), (92, [], σ))) → (op = 3 → ¬ o = -1 → ai_wp sc 161 0 [some (.inr (.inr 59)), some (.inl t), some (.inl o), none, none, none, none, none, none, none] [] (0, 0) (92, [], σ) (ai_k (fun v h' => ai_ck (ai_zz 92 h'.1 0) (ai_wp sc 167 72 [some (.inr (.inr 59)), some (.inl op), some (.inl t), some (.inl s), some (.inl r), some (.inl k), some (.inl o)] (v.toList ++ []) (0, 0) h' Q)))) → (op = 0 → ¬ o = -1 → Q (.inl (some (.inl 0)), (92, [], up σ 85 (wy (σ 85) 2 t r (-1))))) → (op = 1 → o = -1 → Q (.inl (some (.inl 0)), (92, [], up σ 85 (wy (σ 85) 5 t r (-1))))) → (¬ op = 3 → ¬ (op = 0 ∧ ¬ o = -1) → ¬ (op = 1 ∧ o = -1) → ∃ σ1, fn sc 164 [some (.inr (.inr 59)), some (.inl t), some (.inl s), some (.inl r), some (.inl o), none, none] σ none σ1 ∧ ai_wp sc 165 0 [some (.inr (.inr 59)), some (.inl t), some (.inl r), none, none] [] (0, 0) (92, [], σ1) (ai_k (fun v h' => ai_ck (ai_zz 92 h'.1 0) (ai_wp sc 167 107 [some (.inr (.inr 59)), some (.inl op), some (.inl t), some (.inl s), some (.inl r), some (.inl k), some (.inl o)] (v.toList ++ []) (0, 0) h' Q)))) → ai_wp sc 167 0 [some (.inr (.inr 59)), some (.inl op), some (.inl t), some (.inl s), some (.inl r), none, none] [] (0, 0) (92, [], σ) Q := by
      intro σ h Q hN hR h2 h5 hF
      obtain ⟨c9, c10, _⟩ := fR σ h
      have a77 := h.1.1 77 (by omega)
      have a76 := h.1.1 76 (by omega)
      refine rl_load hop ro hr24 (keyR σ h k (Or.inr ⟨x1, x2, x3⟩)) ⟨⟨x1, by omega⟩, by rw [a77]; exact x6⟩ ?_ hN hR h2 h5 hF
      rw [a76, x7]
      exact rf_find_fn ht5 (by rw [c9]; exact k1 t) (by rw [c10]; exact h8) hv8 (by rw [c9, c10]; exact hasc) (by rw [c9, c10]; exact ho)
    by_cases b1 : op = 3
    · by_cases b2 : o = -1
      · -- nothing to delete
        exact ⟨1, cn, ce, nu, y, md, ch, ⟨Or.inr rfl, hG, hy, hch, Int.le_refl md, by omega⟩, fun σ h => ⟨σ, fun Q hQ => CL σ h Q (fun _ _ => hQ) (fun _ q => absurd b2 q) (fun q => absurd q (by omega)) (fun q => absurd q (by omega)) (fun q => absurd b1 q), h, kpC_rfl⟩, fun σ h => ⟨σ, fun Q hQ => RL σ h Q (fun _ _ => hQ) (fun _ q => absurd b2 q) (fun q => absurd q (by omega)) (fun q => absurd q (by omega)) (fun q => absurd b1 q), h, kpR_rfl⟩⟩
      · have ho2 : 0 ≤ o ∧ o < 12 := ho12.resolve_left b2
        have ho3 : o < cn t := by
          rcases ho with ⟨z, _⟩ | ⟨_, z, _⟩
          · exact absurd z b2
          · exact z
        -- the class's way to removeRow, for an end that is known
        have CR : ∀ σ, CT τ cn ce nu y md ch σ → ∀ (b : Int) (σ' : ai_S), (b = 0 ∨ b = 1) → fn sc 41 [some (.inr (.inr 1)), some (.inl t), some (.inl o), some (.inl r), none] σ (some (.inl b)) σ' → fn sc 40 [some (.inr (.inr 1)), some (.inl op), some (.inr (.inr 41)), some (.inl r), none, none] σ (some (.inl b)) σ' := fun σ h b σ' hb hf Q hQ => CL σ h Q (fun _ q => absurd q b2) (fun _ _ => ⟨b, σ', hb, hf, hQ⟩) (fun q => absurd q (by omega)) (fun q => absurd q (by omega)) (fun q => absurd b1 q)
        have cR : ∀ σ, CT τ cn ce nu y md ch σ → ∀ Q : ai_O → Prop, (ARp (τ 2 0) (τ 4) (τ 6) cn ce nu t o → Q (.inl (some (.inl 0)), (92, [], up σ 27 (wy (σ 27) 4 t r (-1))))) → (¬ ARp (τ 2 0) (τ 4) (τ 6) cn ce nu t o → 0 < τ 12 0 → 200 < ch + 1 → Q (.inl (some (.inl 0)), (92, [], up σ 27 (wy (σ 27) 7 t r (-1))))) → (¬ ARp (τ 2 0) (τ 4) (τ 6) cn ce nu t o → (0 < τ 12 0 → ch + 1 ≤ 200) → ∃ σ1 σ2, fn sc 112 [some (.inr (.inr 8)), some (.inl t), some (.inl o), none] σ none σ1 ∧ fn sc 46 [some (.inr (.inr 1)), some (.inl 1)] σ1 none σ2 ∧ Q (.inl (some (.inl 1)), (92, [], σ2))) → ai_wp sc 41 0 [some (.inr (.inr 1)), some (.inl t), some (.inl o), some (.inl r), none] [] (0, 0) (92, [], σ) Q := by
          intro σ h Q q4 q7 qy
          have c2 := h.1.1 2 (by omega)
          have c4 := h.1.1 4 (by omega)
          have c6 := h.1.1 6 (by omega)
          obtain ⟨c9, c10, c11, c27⟩ := h.2.1
          have c12 := h.1.2
          have cch := h.2.2.2.1
          refine cf_rem ht5 ho2 (by rw [c2]; exact s2) (by rw [c4]; exact s8) (by rw [c6]; exact s11) (by rw [c9]; exact k1) (by rw [c10]; exact h8) (by rw [c12]; exact hO3) (fun q => by rw [c12] at q; rw [cch q]; exact hch q) (fun q => q4 ?_) (fun q z1 z2 => q7 (fun z => q ?_) (by rw [c12] at z1; exact z1) (by rw [c12] at z1; rw [cch z1] at z2; exact z2)) (fun q z => qy (fun z2 => q ?_) (fun z2 => by have z3 := z (by rw [c12]; exact z2); rw [cch z2] at z3; exact z3))
          · rw [c2, c4, c6, c9, c10, c11] at q
            exact q
          · rw [c2, c4, c6, c9, c10, c11]
            exact z
          · rw [c2, c4, c6, c9, c10, c11]
            exact z2
        have rR : ∀ σ, RT τ cn ce nu y md ch σ → ∀ Q : ai_O → Prop, (ARp (τ 2 0) (τ 4) (τ 6) cn ce nu t o → Q (.inl (some (.inl 0)), (92, [], up σ 85 (wy (σ 85) 4 t r (-1))))) → (¬ ARp (τ 2 0) (τ 4) (τ 6) cn ce nu t o → 0 < τ 12 0 → 200 < ch + 1 → Q (.inl (some (.inl 0)), (92, [], up σ 85 (wy (σ 85) 7 t r (-1))))) → (¬ ARp (τ 2 0) (τ 4) (τ 6) cn ce nu t o → (0 < τ 12 0 → ch + 1 ≤ 200) → ∃ σ1, fn sc 162 [some (.inr (.inr 59)), some (.inl t), some (.inl o), none] (ai_set (ai_set σ 59 14 (σ 59 14 + 1)) 59 37 (σ 59 37 + 1)) none σ1 ∧ Q (.inl (some (.inl 1)), (92, [], σ1))) → ai_wp sc 167 0 [some (.inr (.inr 59)), some (.inl op), some (.inl t), some (.inl s), some (.inl r), none, none] [] (0, 0) (92, [], σ) Q := by
          intro σ h Q q4 q7 qy
          obtain ⟨c9, c10, c13⟩ := fR σ h
          have c1 := h.1.2.1
          have c60 := (h.1.1 60 (by omega)).trans s3
          have c63 := (h.1.1 63 (by omega)).trans s6
          have cch := h.2.2.2.2
          refine RL σ h Q (fun _ q => absurd q b2) (fun _ _ => rf_referred ht5 ho2 (by rw [c1, s1]; exact s2) (by rw [c60]; exact s8) (by rw [c63]; exact s11) (by rw [c9]; exact k1) (by rw [c10]; exact h8) (fun j j1 j2 => by have := no01 h.2.1 j j1 j2; exact ⟨by omega, by omega⟩) (fun b hb hbi => ai_k_in ?_)) (fun q => absurd q (by omega)) (fun q => absurd q (by omega)) (fun q => absurd b1 q)
          have hAR := ar_same (T := τ 2 0) (w := τ 4) (pa := τ 6) (t := t) (r := o) h.2.1 k3 k1 s8 s2.2 ho2.1
          rw [c1, s1, c60, c63] at hbi
          refine r72 hb (by rw [c13]; exact hO3) (fun q => by rw [c13] at q; rw [cch q]; exact hch q) (fun e => q4 (hAR.mpr (hbi.mp e))) (fun e z1 z2 => q7 (fun z => ?_) (by rw [c13] at z1; exact z1) (by rw [c13] at z1; rw [cch z1] at z2; exact z2)) (fun e z => qy (fun z2 => ?_) (fun z2 => by have z3 := z (by rw [c13]; exact z2); rw [cch z2] at z3; exact z3))
          · have := hbi.mpr (hAR.mp z)
            omega
          · have := hbi.mpr (hAR.mp z2)
            omega
        by_cases hA : ARp (τ 2 0) (τ 4) (τ 6) cn ce nu t o
        · refine ⟨0, cn, ce, nu, wy y 4 t r (-1), md, ch, okF 4 (-1) ⟨by decide, by decide⟩ rm1, fun σ h => ?_, fun σ h => ?_⟩
          · obtain ⟨q1, q2⟩ := ct_fail (a := 4) (b := t) (c := r) (d := -1) h
            exact ⟨_, CR σ h 0 _ (Or.inl rfl) (fun Q hQ => cR σ h Q (fun _ => hQ) (fun q => absurd hA q) (fun q => absurd hA q)), q1, q2⟩
          · obtain ⟨q1, q2⟩ := rt_fail (a := 4) (b := t) (c := r) (d := -1) h
            exact ⟨_, fun Q hQ => rR σ h Q (fun _ => hQ) (fun q => absurd hA q) (fun q => absurd hA q), q1, q2⟩
        · by_cases hL : 0 < τ 12 0 ∧ 200 < ch + 1
          · refine ⟨0, cn, ce, nu, wy y 7 t r (-1), md, ch, okF 7 (-1) ⟨by decide, by decide⟩ rm1, fun σ h => ?_, fun σ h => ?_⟩
            · obtain ⟨q1, q2⟩ := ct_fail (a := 7) (b := t) (c := r) (d := -1) h
              exact ⟨_, CR σ h 0 _ (Or.inl rfl) (fun Q hQ => cR σ h Q (fun q => absurd q hA) (fun _ _ _ => hQ) (fun _ q => absurd (q hL.1) (by omega))), q1, q2⟩
            · obtain ⟨q1, q2⟩ := rt_fail (a := 7) (b := t) (c := r) (d := -1) h
              exact ⟨_, fun Q hQ => rR σ h Q (fun q => absurd q hA) (fun _ _ _ => hQ) (fun _ q => absurd (q hL.1) (by omega)), q1, q2⟩
          · refine ⟨1, _, _, _, y, md + 1, ch + 1, ⟨Or.inr rfl, GS_out hG s11 s8 s2.2 ⟨g1b, g1c⟩ ⟨ho2.1, ho3⟩ hA, hy, fun q => by have := hch q; omega, by omega, by omega⟩, fun σ h => ?_, fun σ h => ?_⟩
            · obtain ⟨c9, c10, c11, c27⟩ := h.2.1
              have f1 := cf_remove (sc := sc) (σ := σ) (cn := cn) (ce := ce) (nu := nu) (t := t) (r := o) ht5 (k1 t).2 ⟨ho2.1, ho3⟩
              have ei : KS σ cn ce nu = σ := by rw [← c9, ← c10, ← c11]; exact ks_id
              rw [ei] at f1
              obtain ⟨q1, q2⟩ := ct_store (cn' := fun k => if k = t then cn t - 1 else cn k) (ce' := del ce (60 * t + 5 * o) (60 * t + 5 * (cn t - 1))) (nu' := dln nu (12 * t + o) (12 * t + (cn t - 1))) h
              obtain ⟨q3, q4⟩ := ct_note (n := 1) hO3.1 q1
              exact ⟨_, CR σ h 1 _ (Or.inr rfl) (fun Q hQ => cR σ h Q (fun q => absurd q hA) (fun _ z1 z2 => absurd ⟨z1, z2⟩ hL) (fun _ _ => ⟨_, _, f1, cf_note (by rw [q1.1.2]; exact hO3), hQ⟩)), q3, kpC_trans q2 q4⟩
            · obtain ⟨q1, q2⟩ := rt_log (n := 1) h
              have f1 := rf_remove (sc := sc) (σ := ai_set (ai_set σ 59 14 (σ 59 14 + 1)) 59 37 (σ 59 37 + 1)) (mn := σ 64) (vl := σ 65) (no := σ 66) (t := t) (r := o) ht5 (by rw [h.2.1.1]; exact (k1 t).2) (by rw [h.2.1.1]; exact ⟨ho2.1, ho3⟩) (no01 h.2.1)
              have ei : ZS (ai_set (ai_set σ 59 14 (σ 59 14 + 1)) 59 37 (σ 59 37 + 1)) (σ 64) (σ 65) (σ 66) = ai_set (ai_set σ 59 14 (σ 59 14 + 1)) 59 37 (σ 59 37 + 1) := zs_id (σ := ai_set (ai_set σ 59 14 (σ 59 14 + 1)) 59 37 (σ 59 37 + 1))
              rw [ei] at f1
              have he : EqS (fun k => if k = t then cn t - 1 else cn k) (del ce (60 * t + 5 * o) (60 * t + 5 * (cn t - 1))) (dln nu (12 * t + o) (12 * t + (cn t - 1))) (fun k => if k = t then σ 64 t - 1 else σ 64 k) (del (σ 65) (60 * t + 5 * o) (60 * t + 5 * (σ 64 t - 1))) (del (σ 66) (60 * t + 5 * o) (60 * t + 5 * (σ 64 t - 1))) := by
                rw [h.2.1.1, h.2.1.2.1]
                exact ⟨rfl, rfl, no_del ht5 ⟨ho2.1, ho3⟩ (k1 t).2 h.2.1.2.2⟩
              obtain ⟨q3, q4⟩ := rt_store q1 he
              exact ⟨_, fun Q hQ => rR σ h Q (fun q => absurd q hA) (fun _ z1 z2 => absurd ⟨z1, z2⟩ hL) (fun _ _ => ⟨_, f1, hQ⟩), q3, kpR_trans q2 q4⟩
    · by_cases b2 : op = 0 ∧ ¬ o = -1
      · refine ⟨0, cn, ce, nu, wy y 2 t r (-1), md, ch, okF 2 (-1) ⟨by decide, by decide⟩ rm1, fun σ h => ?_, fun σ h => ?_⟩
        · obtain ⟨q1, q2⟩ := ct_fail (a := 2) (b := t) (c := r) (d := -1) h
          exact ⟨_, fun Q hQ => CL σ h Q (fun q => absurd q b1) (fun q => absurd q b1) (fun _ _ => hQ) (fun _ q => absurd q b2.2) (fun _ q => absurd b2 q), q1, q2⟩
        · obtain ⟨q1, q2⟩ := rt_fail (a := 2) (b := t) (c := r) (d := -1) h
          exact ⟨_, fun Q hQ => RL σ h Q (fun q => absurd q b1) (fun q => absurd q b1) (fun _ _ => hQ) (fun _ q => absurd q b2.2) (fun _ q => absurd b2 q), q1, q2⟩
      · by_cases b3 : op = 1 ∧ o = -1
        · refine ⟨0, cn, ce, nu, wy y 5 t r (-1), md, ch, okF 5 (-1) ⟨by decide, by decide⟩ rm1, fun σ h => ?_, fun σ h => ?_⟩
          · obtain ⟨q1, q2⟩ := ct_fail (a := 5) (b := t) (c := r) (d := -1) h
            exact ⟨_, fun Q hQ => CL σ h Q (fun q => absurd q b1) (fun q => absurd q b1) (fun z1 z2 => absurd ⟨z1, z2⟩ b2) (fun _ _ => hQ) (fun _ _ q => absurd b3 q), q1, q2⟩
          · obtain ⟨q1, q2⟩ := rt_fail (a := 5) (b := t) (c := r) (d := -1) h
            exact ⟨_, fun Q hQ => RL σ h Q (fun q => absurd q b1) (fun q => absurd q b1) (fun z1 z2 => absurd ⟨z1, z2⟩ b2) (fun _ _ => hQ) (fun _ _ q => absurd b3 q), q1, q2⟩
        · -- the row as it would be
          obtain ⟨fA, hfA⟩ : ∃ fA : Int → Int, fA = selV o (τ 45 s) (fun j => τ 48 (5 * r + j)) (fun j => ce (60 * t + 5 * o + j)) := ⟨_, rfl⟩
          obtain ⟨xA, hxA, hxB⟩ := bits_ex (selB o (τ 45 s) (τ 49 r) (nu (12 * t + o)))
          have hoc : ¬ o = -1 → (0 ≤ o ∧ o < cn t) ∧ ce (60 * t + 5 * o) = v := fun q => by
            rcases ho with ⟨z, _⟩ | ⟨z1, z2, z3⟩
            · exact absurd z q
            · exact ⟨⟨z1, z2⟩, z3⟩
          have fA0 : fA 0 = v := by
            rw [hfA, hv]
            show (if o = -1 ∨ tb (τ 45 s) 0 = true then τ 48 (5 * r + 0) else ce (60 * t + 5 * o + 0)) = τ 48 (r * 5 + 0)
            rw [if_pos (Or.inr hm), show 5 * r + 0 = r * 5 + 0 by omega]
          have fAat : ∀ c, fA c = if o = -1 ∨ tb (τ 45 s) c = true then τ 48 (5 * r + c) else ce (60 * t + 5 * o + c) := fun c => by
            rw [hfA]
            rfl
          have xAat : ∀ c, 0 ≤ c → c < 5 → tb xA c = if o = -1 ∨ tb (τ 45 s) c = true then tb (τ 49 r) c else tb (nu (12 * t + o)) c := fun c c1 c2 => hxB c c1 c2
          have hok : rowOK (τ 4) (τ 5) t fA xA := by
            refine ⟨hxA, fun c c1 c2 => ?_, fun c c1 c2 c3 => ?_, fun c c1 c2 => ?_⟩
            · rw [fAat]
              split
              · exact d7 _
              · exact k4 _
            · rw [fAat]
              rw [xAat c c1 c2] at c3
              by_cases z : o = -1 ∨ tb (τ 45 s) c = true
              · rw [if_pos z] at c3 ⊢
                exact f5 c c1 c2 c3
              · rw [if_neg z] at c3 ⊢
                have z2 := (hoc (fun q => z (Or.inl q))).1
                exact k6 t o c ht5.1 ht5.2 z2.1 z2.2 c1 c2 c3
            · rw [fAat]
              by_cases z : o = -1 ∨ tb (τ 45 s) c = true
              · rw [if_pos z]
                exact f6 c c1 c2
              · rw [if_neg z]
                have z2 := (hoc (fun q => z (Or.inl q))).1
                exact k8 t o c g1b g1c z2.1 z2.2 c1 c2
          have hfA8 : ∀ c, 0 ≤ c → c < 5 → ai_r8 (fA c) := fun c c1 c2 => rg8 (hok.2.1 c c1 c2)
          obtain ⟨m, hmi⟩ := isFst_total (τ 4 t) (Mis (τ 7) t xA)
          obtain ⟨n, hni⟩ := isFst_total (τ 4 t) (Orp (τ 6) cn ce t xA fA)
          have hm5 := isFst_rng hmi hw5.2
          have hn5 := isFst_rng hni hw5.2
          -- the class
          have CF : ∀ σ, CT τ cn ce nu y md ch σ → ∃ f', (∀ c, 0 ≤ c → c < 5 → f' c = fA c) ∧ fn sc 42 [some (.inr (.inr 1)), some (.inr (.inr 41)), some (.inl r), some (.inl o), none, none] σ none (CD σ f' xA) ∧ fn sc 44 [some (.inr (.inr 1)), some (.inl t), none] (CD σ f' xA) (some (.inl m)) (CD σ f' xA) ∧ fn sc 45 [some (.inr (.inr 1)), some (.inl t), none, none, none, none, none] (CD σ f' xA) (some (.inl n)) (CD σ f' xA) := by
            intro σ h
            obtain ⟨c1, c2, c3, c4, c5⟩ := fC σ h
            obtain ⟨c9, c10, c11, c27⟩ := h.2.1
            have c40 := h.1.1 4 (by omega)
            have c60 := h.1.1 6 (by omega)
            have c70 := h.1.1 7 (by omega)
            obtain ⟨f', x', i1, i2, i3⟩ := cf_fill_41 (sc := sc) (σ := σ) (r := r) (o := o) hr24 (by rw [c2]; exact hs6) (by rw [c1]; exact ht5) ho12 (by rw [c2, c5]; exact g4) (by rw [c3]; exact f2) (by rw [c11]; exact k3) h.2.2.2.2
            rw [c1, c2, c3, c4, c5, c10, c11] at i2
            have ex : x' = xA := bits_inj i1 hxA (fun c y1 y2 => (i2 c y1 y2).2.trans (hxB c y1 y2).symm)
            have ef : ∀ c, 0 ≤ c → c < 5 → f' c = fA c := fun c y1 y2 => (i2 c y1 y2).1.trans (congrFun hfA c).symm
            rw [ex] at i3
            refine ⟨f', ef, i3, cf_missing ht5 (show 0 ≤ σ 4 t ∧ σ 4 t ≤ 5 by rw [c40]; exact hw5) (show ∀ j, 0 ≤ σ 7 j ∧ σ 7 j ≤ 1 by rw [c70]; exact s10) hxA (show isFst (σ 4 t) (Mis (σ 7) t xA) m by rw [c40, c70]; exact hmi), cf_orphan ht5 (show 0 ≤ σ 4 t ∧ σ 4 t ≤ 5 by rw [c40]; exact hw5) (show ∀ j, -1 ≤ σ 6 j ∧ σ 6 j < 5 by rw [c60]; exact s11) hxA (show ∀ u, 0 ≤ σ 9 u ∧ σ 9 u ≤ 12 by rw [c9]; exact k1) (show ∀ j, ai_r8 (σ 10 j) by rw [c10]; exact h8) (fun c y1 y2 => (show ai_r8 (f' c) by rw [ef c y1 y2]; exact hfA8 c y1 y2)) (show isFst (σ 4 t) (Orp (σ 6) (σ 9) (σ 10) t xA f') n from ?_)⟩
            rw [c40, c60, c9, c10]
            refine isFst_congr hni (fun c y1 y2 => ?_)
            unfold Orp
            rw [ef c y1 (by omega), ef 0 (by decide) (by decide)]
          have CP : ∀ σ, CT τ cn ce nu y md ch σ → ∃ f', (∀ c, 0 ≤ c → c < 5 → f' c = fA c) ∧ ∀ (b : Int) (σ' : ai_S), (b = 0 ∨ b = 1) → fn sc 43 [some (.inr (.inr 1)), some (.inl t), some (.inl o), some (.inl r), none] (CD σ f' xA) (some (.inl b)) σ' → fn sc 40 [some (.inr (.inr 1)), some (.inl op), some (.inr (.inr 41)), some (.inl r), none, none] σ (some (.inl b)) σ' := by
            intro σ h
            obtain ⟨f', i1, i2, i3, i4⟩ := CF σ h
            exact ⟨f', i1, fun b σ' hb hf Q hQ => CL σ h Q (fun q => absurd q b1) (fun q => absurd q b1) (fun z1 z2 => absurd ⟨z1, z2⟩ b2) (fun z1 z2 => absurd ⟨z1, z2⟩ b3) (fun _ _ _ => ⟨b, _, σ', hb, i2, hf, hQ⟩)⟩
          have cP : ∀ σ, CT τ cn ce nu y md ch σ → ∃ f', (∀ c, 0 ≤ c → c < 5 → f' c = fA c) ∧ (∀ (b : Int) (σ' : ai_S), (b = 0 ∨ b = 1) → fn sc 43 [some (.inr (.inr 1)), some (.inl t), some (.inl o), some (.inl r), none] (CD σ f' xA) (some (.inl b)) σ' → fn sc 40 [some (.inr (.inr 1)), some (.inl op), some (.inr (.inr 41)), some (.inl r), none, none] σ (some (.inl b)) σ') ∧ ∀ Q : ai_O → Prop, (¬ m = -1 → Q (.inl (some (.inl 0)), (92, [], up (CD σ f' xA) 27 (wy ((CD σ f' xA) 27) 1 t r m)))) → (m = -1 → ¬ n = -1 → Q (.inl (some (.inl 0)), (92, [], up (CD σ f' xA) 27 (wy ((CD σ f' xA) 27) 3 t r n)))) → (m = -1 → n = -1 → o = -1 → cn t = 12 → Q (.inl (some (.inl 0)), (92, [], up (CD σ f' xA) 27 (wy ((CD σ f' xA) 27) 6 t r (-1))))) → (m = -1 → n = -1 → ¬ (o = -1 ∧ cn t = 12) → 0 < τ 12 0 → 200 < ch + 1 → Q (.inl (some (.inl 0)), (92, [], up (CD σ f' xA) 27 (wy ((CD σ f' xA) 27) 7 t r (-1))))) → (m = -1 → n = -1 → o = -1 → ¬ cn t = 12 → (0 < τ 12 0 → ch + 1 ≤ 200) → ∃ σ1 σ2, fn sc 110 [some (.inr (.inr 8)), some (.inl t), some (.inr (.inr 32)), none] (CD σ f' xA) none σ1 ∧ fn sc 46 [some (.inr (.inr 1)), some (.inl 1)] σ1 none σ2 ∧ Q (.inl (some (.inl 1)), (92, [], σ2))) → (m = -1 → n = -1 → ¬ o = -1 → (0 < τ 12 0 → ch + 1 ≤ 200) → ∃ σ1 σ2, fn sc 111 [some (.inr (.inr 8)), some (.inl t), some (.inl o), some (.inr (.inr 32)), none] (CD σ f' xA) none σ1 ∧ fn sc 46 [some (.inr (.inr 1)), some (.inl 1)] σ1 none σ2 ∧ Q (.inl (some (.inl 1)), (92, [], σ2))) → ai_wp sc 43 0 [some (.inr (.inr 1)), some (.inl t), some (.inl o), some (.inl r), none] [] (0, 0) (92, [], CD σ f' xA) Q := by
            intro σ h
            obtain ⟨f', i1, i2, i3, i4⟩ := CF σ h
            obtain ⟨c9, c10, c11, c27⟩ := h.2.1
            have c12 := h.1.2
            have cch := h.2.2.2.1
            refine ⟨f', i1, fun b σ' hb hf Q hQ => CL σ h Q (fun q => absurd q b1) (fun q => absurd q b1) (fun z1 z2 => absurd ⟨z1, z2⟩ b2) (fun z1 z2 => absurd ⟨z1, z2⟩ b3) (fun _ _ _ => ⟨b, _, σ', hb, i2, hf, hQ⟩), fun Q q1 q3 q6 q7 qi qo => ?_⟩
            refine cf_putc ht5 ho12 i3 i4 hm5 hn5 (show 0 ≤ σ 9 t ∧ σ 9 t ≤ 12 by rw [c9]; exact k1 t) (show 0 ≤ σ 12 0 ∧ σ 12 0 ≤ 3 by rw [c12]; exact hO3) (fun q => (show 0 ≤ σ 12 1 ∧ σ 12 1 ≤ 200 by have q2 : 0 < σ 12 0 := q; rw [c12] at q2; rw [cch q2]; exact hch q2)) q1 q3 (fun z1 z2 z3 z4 => q6 z1 z2 z3 (by have z5 : σ 9 t = 12 := z4; rw [c9] at z5; exact z5)) (fun z1 z2 z3 z4 z5 => q7 z1 z2 (fun z => z3 ⟨z.1, (show σ 9 t = 12 by rw [c9]; exact z.2)⟩) (by have z6 : 0 < σ 12 0 := z4; rw [c12] at z6; exact z6) (by have z6 : 0 < σ 12 0 := z4; have z7 : 200 < σ 12 1 + 1 := z5; rw [c12] at z6; rw [cch z6] at z7; exact z7)) (fun z1 z2 z3 z4 z5 => qi z1 z2 z3 (fun z => z4 (show σ 9 t = 12 by rw [c9]; exact z)) (fun z => by have z6 : σ 12 1 + 1 ≤ 200 := z5 (show 0 < σ 12 0 by rw [c12]; exact z); rw [cch z] at z6; exact z6)) (fun z1 z2 z3 z4 => qo z1 z2 z3 (fun z => by have z6 : σ 12 1 + 1 ≤ 200 := z4 (show 0 < σ 12 0 by rw [c12]; exact z); rw [cch z] at z6; exact z6))
          -- the reference
          have rP : ∀ σ, RT τ cn ce nu y md ch σ → ∃ g k', (∀ c, 0 ≤ c → c < 5 → g c = fA c) ∧ (∀ c, 0 ≤ c → c < 5 → k' c = bi (tb xA c = true)) ∧ ∀ Q : ai_O → Prop, (¬ m = -1 → Q (.inl (some (.inl 0)), (92, [], up (BD σ g k') 85 (wy ((BD σ g k') 85) 1 t r m)))) → (m = -1 → ¬ n = -1 → Q (.inl (some (.inl 0)), (92, [], up (BD σ g k') 85 (wy ((BD σ g k') 85) 3 t r n)))) → (m = -1 → n = -1 → o = -1 → cn t = 12 → Q (.inl (some (.inl 0)), (92, [], up (BD σ g k') 85 (wy ((BD σ g k') 85) 6 t r (-1))))) → (m = -1 → n = -1 → ¬ (o = -1 ∧ cn t = 12) → 0 < τ 12 0 → 200 < ch + 1 → Q (.inl (some (.inl 0)), (92, [], up (BD σ g k') 85 (wy ((BD σ g k') 85) 7 t r (-1))))) → (m = -1 → n = -1 → ¬ (o = -1 ∧ cn t = 12) → (0 < τ 12 0 → ch + 1 ≤ 200) → ∃ σ1, fn sc 163 [some (.inr (.inr 59)), some (.inl t), some (.inl o), none, none] (ai_set (ai_set (BD σ g k') 59 14 (σ 59 14 + 1)) 59 37 (σ 59 37 + 1)) none σ1 ∧ Q (.inl (some (.inl 1)), (92, [], σ1))) → ai_wp sc 167 0 [some (.inr (.inr 59)), some (.inl op), some (.inl t), some (.inl s), some (.inl r), none, none] [] (0, 0) (92, [], σ) Q := by
            intro σ h
            obtain ⟨c9, c10, c13⟩ := fR σ h
            have a73 := h.1.1 73 (by omega)
            have a75 := h.1.1 75 (by omega)
            have a76 := h.1.1 76 (by omega)
            have a77 := h.1.1 77 (by omega)
            have a60 := (h.1.1 60 (by omega)).trans s3
            have a62 := (h.1.1 62 (by omega)).trans s5
            have a63 := (h.1.1 63 (by omega)).trans s6
            have cch := h.2.2.2.2
            have ew : σ 73 s = τ 43 s := by rw [a73, g2a]
            have ecl : ∀ j, 0 ≤ j → j < τ 43 s → σ 75 (5 * s + j) = τ 44 (5 * s + j) := fun j j1 j2 => by
              rw [a75]
              exact (g5 j j1 j2).1
            obtain ⟨g, k', i1, i2, i3⟩ := rf_build (sc := sc) (σ := σ) (t := t) (s := s) (r := r) (o := o) ht5 hs6 hr24 ho12 (no01 h.2.1) (by omega) (fun j j1 j2 => by rw [ecl j j1 (by omega)]; exact hcl j j1 (by omega)) (fun j l j1 j2 l1 l2 e => by rw [ecl j j1 (by omega), ecl l l1 (by omega)] at e; exact g6 j l j1 (by omega) l1 (by omega) e) (fun j j1 j2 => by rw [a77, (f3 j j1 (by omega)).2]; exact bi_01 _)
            rw [ew] at i1 i2
            have hrow : ∀ c, 0 ≤ c → c < 5 → g c = fA c ∧ k' c = bi (tb xA c = true) := by
              refine row_same (cl := τ 44) (xc := τ 76) (xn := τ 77) (dc := τ 48) (ec := ce) (vl := σ 65) (no := σ 66) (x := τ 49 r) (y := nu (12 * t + o)) (w := τ 43 s) ht5 ho12 g7 hcl f3 f4 f5 (fun c y1 y2 => by rw [c10]) (fun q c y1 y2 => ?_) (fun c y1 y2 q => i1 c y1 y2 (fun l l1 l2 => by rw [ecl l l1 l2]; exact q l l1 l2)) (fun l l1 l2 => ?_) (fun j j1 j2 => ⟨congrFun hfA j, hxB j j1 j2⟩)
              · have z := (hoc q).1
                have := (k1 t).2
                have e := h.2.1.2.2 (12 * t + o) c (by omega) (by omega) y1 y2
                rw [show 5 * (12 * t + o) + c = 60 * t + 5 * o + c by omega] at e
                exact e
              · have e := i2 l l1 l2
                rw [ecl l l1 l2, a76, a77] at e
                exact e
            refine ⟨g, k', fun c y1 y2 => (hrow c y1 y2).1, fun c y1 y2 => (hrow c y1 y2).2, fun Q q1 q3 q6 q7 qy => ?_⟩
            refine RL σ h Q (fun q => absurd q b1) (fun q => absurd q b1) (fun z1 z2 => absurd ⟨z1, z2⟩ b2) (fun z1 z2 => absurd ⟨z1, z2⟩ b3) (fun _ _ _ => ⟨_, i3, ?_⟩)
            refine rf_check (m := m) (n := n) (x := xA) ht5 (show 0 ≤ σ 60 t ∧ σ 60 t ≤ 5 by rw [a60]; exact hw5) (show ∀ j, 0 ≤ σ 62 j ∧ σ 62 j ≤ 1 by rw [a62]; exact s10) (show ∀ j, -1 ≤ σ 63 j ∧ σ 63 j < 5 by rw [a63]; exact s11) hxA (fun c y1 y2 => (hrow c y1 y2).2) (show ∀ u, 0 ≤ σ 64 u ∧ σ 64 u ≤ 12 by rw [c9]; exact k1) (show ∀ j, ai_r8 (σ 65 j) by rw [c10]; exact h8) (fun c y1 y2 => (show ai_r8 (g c) by rw [(hrow c y1 y2).1]; exact hfA8 c y1 y2)) (show isFst (σ 60 t) (Mis (σ 62) t xA) m by rw [a60, a62]; exact hmi) (show isFst (σ 60 t) (Orp (σ 63) (σ 64) (σ 65) t xA g) n from ?_) (fun z => ai_k_in (r107_0 (q1 z))) (fun z1 z2 => ai_k_in (r107_0 (q3 z1 z2))) (fun z1 z2 => ai_k_in (r107 ht5 ro (show 0 ≤ σ 64 t ∧ σ 64 t ≤ 12 by rw [c9]; exact k1 t) (show 0 ≤ σ 59 13 ∧ σ 59 13 ≤ 3 by rw [c13]; exact hO3) (fun q => (show 0 ≤ σ 59 14 ∧ σ 59 14 ≤ 200 by have q2 : 0 < σ 59 13 := q; rw [c13] at q2; rw [cch q2]; exact hch q2)) (fun z3 z4 => q6 z1 z2 z3 (by have z5 : σ 64 t = 12 := z4; rw [c9] at z5; exact z5)) (fun z3 z4 z5 => q7 z1 z2 (fun z => z3 ⟨z.1, (show σ 64 t = 12 by rw [c9]; exact z.2)⟩) (by have z6 : 0 < σ 59 13 := z4; rw [c13] at z6; exact z6) (by have z6 : 0 < σ 59 13 := z4; have z7 : 200 < σ 59 14 + 1 := z5; rw [c13] at z6; rw [cch z6] at z7; exact z7)) (fun z3 z5 => qy z1 z2 (fun z => z3 ⟨z.1, (show σ 64 t = 12 by rw [c9]; exact z.2)⟩) (fun z => by have z6 : σ 59 14 + 1 ≤ 200 := z5 (show 0 < σ 59 13 by rw [c13]; exact z); rw [cch z] at z6; exact z6))))
            rw [a60, a63, c9, c10]
            refine isFst_congr hni (fun c y1 y2 => ?_)
            unfold Orp
            rw [(hrow c y1 (by omega)).1, (hrow 0 (by decide) (by decide)).1]
          -- a check that does not hold
          have FL : ∀ a q : Int, ai_r a → ai_r q → (∀ σ, CT τ cn ce nu y md ch σ → ∀ f', (∀ Q : ai_O → Prop, (¬ m = -1 → Q (.inl (some (.inl 0)), (92, [], up (CD σ f' xA) 27 (wy ((CD σ f' xA) 27) 1 t r m)))) → (m = -1 → ¬ n = -1 → Q (.inl (some (.inl 0)), (92, [], up (CD σ f' xA) 27 (wy ((CD σ f' xA) 27) 3 t r n)))) → (m = -1 → n = -1 → o = -1 → cn t = 12 → Q (.inl (some (.inl 0)), (92, [], up (CD σ f' xA) 27 (wy ((CD σ f' xA) 27) 6 t r (-1))))) → (m = -1 → n = -1 → ¬ (o = -1 ∧ cn t = 12) → 0 < τ 12 0 → 200 < ch + 1 → Q (.inl (some (.inl 0)), (92, [], up (CD σ f' xA) 27 (wy ((CD σ f' xA) 27) 7 t r (-1))))) → (m = -1 → n = -1 → o = -1 → ¬ cn t = 12 → (0 < τ 12 0 → ch + 1 ≤ 200) → ∃ σ1 σ2, fn sc 110 [some (.inr (.inr 8)), some (.inl t), some (.inr (.inr 32)), none] (CD σ f' xA) none σ1 ∧ fn sc 46 [some (.inr (.inr 1)), some (.inl 1)] σ1 none σ2 ∧ Q (.inl (some (.inl 1)), (92, [], σ2))) → (m = -1 → n = -1 → ¬ o = -1 → (0 < τ 12 0 → ch + 1 ≤ 200) → ∃ σ1 σ2, fn sc 111 [some (.inr (.inr 8)), some (.inl t), some (.inl o), some (.inr (.inr 32)), none] (CD σ f' xA) none σ1 ∧ fn sc 46 [some (.inr (.inr 1)), some (.inl 1)] σ1 none σ2 ∧ Q (.inl (some (.inl 1)), (92, [], σ2))) → ai_wp sc 43 0 [some (.inr (.inr 1)), some (.inl t), some (.inl o), some (.inl r), none] [] (0, 0) (92, [], CD σ f' xA) Q) → fn sc 43 [some (.inr (.inr 1)), some (.inl t), some (.inl o), some (.inl r), none] (CD σ f' xA) (some (.inl 0)) (up (CD σ f' xA) 27 (wy ((CD σ f' xA) 27) a t r q))) → (∀ σ, RT τ cn ce nu y md ch σ → ∀ g k', (∀ Q : ai_O → Prop, (¬ m = -1 → Q (.inl (some (.inl 0)), (92, [], up (BD σ g k') 85 (wy ((BD σ g k') 85) 1 t r m)))) → (m = -1 → ¬ n = -1 → Q (.inl (some (.inl 0)), (92, [], up (BD σ g k') 85 (wy ((BD σ g k') 85) 3 t r n)))) → (m = -1 → n = -1 → o = -1 → cn t = 12 → Q (.inl (some (.inl 0)), (92, [], up (BD σ g k') 85 (wy ((BD σ g k') 85) 6 t r (-1))))) → (m = -1 → n = -1 → ¬ (o = -1 ∧ cn t = 12) → 0 < τ 12 0 → 200 < ch + 1 → Q (.inl (some (.inl 0)), (92, [], up (BD σ g k') 85 (wy ((BD σ g k') 85) 7 t r (-1))))) → (m = -1 → n = -1 → ¬ (o = -1 ∧ cn t = 12) → (0 < τ 12 0 → ch + 1 ≤ 200) → ∃ σ1, fn sc 163 [some (.inr (.inr 59)), some (.inl t), some (.inl o), none, none] (ai_set (ai_set (BD σ g k') 59 14 (σ 59 14 + 1)) 59 37 (σ 59 37 + 1)) none σ1 ∧ Q (.inl (some (.inl 1)), (92, [], σ1))) → ai_wp sc 167 0 [some (.inr (.inr 59)), some (.inl op), some (.inl t), some (.inl s), some (.inl r), none, none] [] (0, 0) (92, [], σ) Q) → fn sc 167 [some (.inr (.inr 59)), some (.inl op), some (.inl t), some (.inl s), some (.inl r), none, none] σ (some (.inl 0)) (up (BD σ g k') 85 (wy ((BD σ g k') 85) a t r q))) → ∃ b cn' ce' nu' y' md' ch', okO τ 1 b cn' ce' nu' y' md md' ch' ∧ SmC sc τ 40 [some (.inr (.inr 1)), some (.inl op), some (.inr (.inr 41)), some (.inl r), none, none] cn ce nu y md ch b cn' ce' nu' y' md' ch' ∧ SmR sc τ 167 [some (.inr (.inr 59)), some (.inl op), some (.inl t), some (.inl s), some (.inl r), none, none] cn ce nu y md ch b cn' ce' nu' y' md' ch' := by
            intro a q ha hq hc1 hr1
            refine ⟨0, cn, ce, nu, wy y a t r q, md, ch, okF a q ha hq, fun σ h => ?_, fun σ h => ?_⟩
            · obtain ⟨f', i1, i2, i3⟩ := cP σ h
              obtain ⟨u1, u2⟩ := ct_cd (f := f') (x := xA) h hxA
              obtain ⟨u3, u4⟩ := ct_fail (a := a) (b := t) (c := r) (d := q) u1
              exact ⟨_, i2 0 _ (Or.inl rfl) (hc1 σ h f' i3), u3, kpC_trans u2 u4⟩
            · obtain ⟨g, k', i1, i2, i3⟩ := rP σ h
              obtain ⟨u1, u2⟩ := rt_bd (g := g) (k := k') h
              obtain ⟨u3, u4⟩ := rt_fail (a := a) (b := t) (c := r) (d := q) u1
              exact ⟨_, hr1 σ h g k' i3, u3, kpR_trans u2 u4⟩
          by_cases hm1 : m = -1
          · by_cases hn1 : n = -1
            · by_cases hfull : o = -1 ∧ cn t = 12
              · exact FL 6 (-1) ⟨by decide, by decide⟩ rm1 (fun σ h f' H Q hQ => H Q (fun z => absurd hm1 z) (fun _ z => absurd hn1 z) (fun _ _ _ _ => hQ) (fun _ _ z => absurd hfull z) (fun _ _ _ z => absurd hfull.2 z) (fun _ _ z => absurd hfull.1 z)) (fun σ h g k' H Q hQ => H Q (fun z => absurd hm1 z) (fun _ z => absurd hn1 z) (fun _ _ _ _ => hQ) (fun _ _ z => absurd hfull z) (fun _ _ z => absurd hfull z))
              · by_cases hL : 0 < τ 12 0 ∧ 200 < ch + 1
                · exact FL 7 (-1) ⟨by decide, by decide⟩ rm1 (fun σ h f' H Q hQ => H Q (fun z => absurd hm1 z) (fun _ z => absurd hn1 z) (fun _ _ z1 z2 => absurd ⟨z1, z2⟩ hfull) (fun _ _ _ _ _ => hQ) (fun _ _ _ _ z => absurd (z hL.1) (by omega)) (fun _ _ _ z => absurd (z hL.1) (by omega))) (fun σ h g k' H Q hQ => H Q (fun z => absurd hm1 z) (fun _ z => absurd hn1 z) (fun _ _ z1 z2 => absurd ⟨z1, z2⟩ hfull) (fun _ _ _ _ _ => hQ) (fun _ _ _ z => absurd (z hL.1) (by omega)))
                · have href : rowRef (τ 4) (τ 6) cn ce t fA xA := by
                    intro c c1 c2 c3 c4
                    have z : ¬ Orp (τ 6) cn ce t xA fA c := by
                      rcases hni with ⟨_, z⟩ | ⟨z, _⟩
                      · exact z c c1 c2
                      · omega
                    rcases Classical.em (τ 6 (5 * t + c) = t ∧ fA c = fA 0) with y1 | y1
                    · exact Or.inl y1
                    · rcases Classical.em (kin cn ce (τ 6 (5 * t + c)) (fA c)) with y2 | y2
                      · exact Or.inr y2
                      · exact absurd ⟨c3, c4, y1, y2⟩ z
                  have hch1 : 0 < τ 12 0 → 0 ≤ ch + 1 ∧ ch + 1 ≤ 200 := fun q => by
                    have := hch q
                    omega
                  by_cases ho1 : o = -1
                  · -- a new row
                    have hn12 : cn t < 12 := by
                      have := (k1 t).2
                      have : ¬ cn t = 12 := fun z => hfull ⟨ho1, z⟩
                      omega
                    obtain ⟨p, hp⟩ := isPos_total (n := cn t) (key := fun q => ce (60 * t + 5 * q)) (x := fA 0) (k1 t).1
                    have hnew : ∀ q, 0 ≤ q → q < cn t → ¬ ce (60 * t + 5 * q) = fA 0 := fun q y1 y2 => by
                      rw [fA0]
                      rcases ho with ⟨_, z⟩ | ⟨z, _⟩
                      · exact z q y1 y2
                      · omega
                    have hpr := hp.1
                    refine ⟨1, _, _, _, y, md + 1, ch + 1, ⟨Or.inr rfl, GS_in hG s11 s8 s2.2 ⟨g1b, g1c⟩ hn12 hp hnew hok href, hy, hch1, by omega, by omega⟩, fun σ h => ?_, fun σ h => ?_⟩
                    · obtain ⟨f', i1, i2, i3⟩ := cP σ h
                      obtain ⟨c9, c10, c11, c27⟩ := h.2.1
                      obtain ⟨u1, u2⟩ := ct_cd (f := f') (x := xA) h hxA
                      have ei : KS (CD σ f' xA) cn ce nu = CD σ f' xA := by rw [← c9, ← c10, ← c11]; exact ks_id (σ := CD σ f' xA)
                      have e0 : f' 0 = fA 0 := i1 0 (by decide) (by decide)
                      have w1 := cf_insert (sc := sc) (σ := CD σ f' xA) (cn := cn) (ce := ce) (nu := nu) (t := t) (r := p) ht5 ⟨(k1 t).1, hn12⟩ h8 (show ai_r8 (f' 0) by rw [e0]; exact hfA8 0 (by decide) (by decide)) (show isPos (cn t) (fun q => ce (60 * t + 5 * q)) (f' 0) p by rw [e0]; exact hp)
                      rw [ei, show (CD σ f' xA) 33 = f' from rfl, show (CD σ f' xA) 32 1 = xA from rfl, cpf_congr i1] at w1
                      obtain ⟨u3, u4⟩ := ct_store (cn' := fun k => if k = t then cn t + 1 else cn k) (ce' := cpf (shf ce (60 * t) p (cn t)) fA (60 * t + 5 * p) 5) (nu' := fun q => if q = 12 * t + p then xA else shn nu (12 * t) p (cn t) q) u1
                      obtain ⟨u5, u6⟩ := ct_note (n := 1) hO3.1 u3
                      exact ⟨_, i2 1 _ (Or.inr rfl) (fun Q hQ => i3 Q (fun z => absurd hm1 z) (fun _ z => absurd hn1 z) (fun _ _ z1 z2 => absurd ⟨z1, z2⟩ hfull) (fun _ _ _ z1 z2 => absurd ⟨z1, z2⟩ hL) (fun _ _ _ _ _ => ⟨_, _, w1, cf_note (by rw [u3.1.2]; exact hO3), hQ⟩) (fun _ _ z => absurd ho1 z)), u5, kpC_trans (kpC_trans u2 u4) u6⟩
                    · obtain ⟨g, k', i1, i2, i3⟩ := rP σ h
                      obtain ⟨c9, c10, _⟩ := fR σ h
                      obtain ⟨u1, u2⟩ := rt_bd (g := g) (k := k') h
                      obtain ⟨u3, u4⟩ := rt_log (n := 1) u1
                      have e0 : g 0 = fA 0 := i1 0 (by decide) (by decide)
                      have w1 := rf_insert (sc := sc) (σ := ai_set (ai_set (BD σ g k') 59 14 (σ 59 14 + 1)) 59 37 (σ 59 37 + 1)) (mn := σ 64) (vl := σ 65) (no := σ 66) (t := t) (r := p) ht5 (by rw [c9]; exact ⟨(k1 t).1, hn12⟩) (by rw [c10]; exact h8) (show ai_r8 (g 0) by rw [e0]; exact hfA8 0 (by decide) (by decide)) (fun c y1 y2 => (show 0 ≤ k' c ∧ k' c ≤ 1 by rw [i2 c y1 y2]; exact bi_01 _)) (no01 h.2.1) (show isPos (σ 64 t) (fun q => σ 65 (60 * t + 5 * q)) (g 0) p by rw [c9, c10, e0]; exact hp)
                      have ei : ZS (ai_set (ai_set (BD σ g k') 59 14 (σ 59 14 + 1)) 59 37 (σ 59 37 + 1)) (σ 64) (σ 65) (σ 66) = ai_set (ai_set (BD σ g k') 59 14 (σ 59 14 + 1)) 59 37 (σ 59 37 + 1) := zs_id (σ := ai_set (ai_set (BD σ g k') 59 14 (σ 59 14 + 1)) 59 37 (σ 59 37 + 1))
                      rw [ei, show (ai_set (ai_set (BD σ g k') 59 14 (σ 59 14 + 1)) 59 37 (σ 59 37 + 1)) 86 = g from rfl, show (ai_set (ai_set (BD σ g k') 59 14 (σ 59 14 + 1)) 59 37 (σ 59 37 + 1)) 87 = k' from rfl] at w1
                      have he : EqS (fun k => if k = t then cn t + 1 else cn k) (cpf (shf ce (60 * t) p (cn t)) fA (60 * t + 5 * p) 5) (fun q => if q = 12 * t + p then xA else shn nu (12 * t) p (cn t) q) (fun k => if k = t then σ 64 t + 1 else σ 64 k) (cpf (shf (σ 65) (60 * t) p (σ 64 t)) g (60 * t + 5 * p) 5) (cpf (shf (σ 66) (60 * t) p (σ 64 t)) k' (60 * t + 5 * p) 5) := by
                        rw [c9, c10, cpf_congr i1]
                        exact ⟨rfl, rfl, no_shift ht5 hpr hn12 h.2.1.2.2 i2⟩
                      obtain ⟨u5, u6⟩ := rt_store u3 he
                      refine ⟨_, fun Q hQ => i3 Q (fun z => absurd hm1 z) (fun _ z => absurd hn1 z) (fun _ _ z1 z2 => absurd ⟨z1, z2⟩ hfull) (fun _ _ _ z1 z2 => absurd ⟨z1, z2⟩ hL) (fun _ _ _ _ => ⟨_, ?_, hQ⟩), u5, kpR_trans (kpR_trans u2 u4) u6⟩
                      rw [ho1]
                      exact w1
                  · -- over the row that is there
                    obtain ⟨z1, z2⟩ := hoc ho1
                    refine ⟨1, cn, _, _, y, md + 1, ch + 1, ⟨Or.inr rfl, GS_over hG s11 s8 s2.2 ⟨g1b, g1c⟩ z1 (fA0.trans z2.symm) hok href, hy, hch1, by omega, by omega⟩, fun σ h => ?_, fun σ h => ?_⟩
                    · obtain ⟨f', i1, i2, i3⟩ := cP σ h
                      obtain ⟨c9, c10, c11, c27⟩ := h.2.1
                      obtain ⟨u1, u2⟩ := ct_cd (f := f') (x := xA) h hxA
                      have ei : KS (CD σ f' xA) cn ce nu = CD σ f' xA := by rw [← c9, ← c10, ← c11]; exact ks_id (σ := CD σ f' xA)
                      have w1 := cf_replace (sc := sc) (σ := CD σ f' xA) (cn := cn) (ce := ce) (nu := nu) (t := t) (i := o) ht5 (ho12.resolve_left ho1)
                      rw [ei, show (CD σ f' xA) 33 = f' from rfl, show (CD σ f' xA) 32 1 = xA from rfl, cpf_congr i1] at w1
                      obtain ⟨u3, u4⟩ := ct_store (cn' := cn) (ce' := cpf ce fA (60 * t + 5 * o) 5) (nu' := fun q => if q = 12 * t + o then xA else nu q) u1
                      obtain ⟨u5, u6⟩ := ct_note (n := 1) hO3.1 u3
                      exact ⟨_, i2 1 _ (Or.inr rfl) (fun Q hQ => i3 Q (fun z => absurd hm1 z) (fun _ z => absurd hn1 z) (fun _ _ z => absurd z ho1) (fun _ _ _ z1 z2 => absurd ⟨z1, z2⟩ hL) (fun _ _ z => absurd z ho1) (fun _ _ _ _ => ⟨_, _, w1, cf_note (by rw [u3.1.2]; exact hO3), hQ⟩)), u5, kpC_trans (kpC_trans u2 u4) u6⟩
                    · obtain ⟨g, k', i1, i2, i3⟩ := rP σ h
                      obtain ⟨c9, c10, _⟩ := fR σ h
                      obtain ⟨u1, u2⟩ := rt_bd (g := g) (k := k') h
                      obtain ⟨u3, u4⟩ := rt_log (n := 1) u1
                      have w1 := rf_over (sc := sc) (σ := ai_set (ai_set (BD σ g k') 59 14 (σ 59 14 + 1)) 59 37 (σ 59 37 + 1)) (mn := σ 64) (vl := σ 65) (no := σ 66) (t := t) (r := o) ht5 (ho12.resolve_left ho1) (fun c y1 y2 => (show 0 ≤ k' c ∧ k' c ≤ 1 by rw [i2 c y1 y2]; exact bi_01 _))
                      have ei : ZS (ai_set (ai_set (BD σ g k') 59 14 (σ 59 14 + 1)) 59 37 (σ 59 37 + 1)) (σ 64) (σ 65) (σ 66) = ai_set (ai_set (BD σ g k') 59 14 (σ 59 14 + 1)) 59 37 (σ 59 37 + 1) := zs_id (σ := ai_set (ai_set (BD σ g k') 59 14 (σ 59 14 + 1)) 59 37 (σ 59 37 + 1))
                      rw [ei, show (ai_set (ai_set (BD σ g k') 59 14 (σ 59 14 + 1)) 59 37 (σ 59 37 + 1)) 86 = g from rfl, show (ai_set (ai_set (BD σ g k') 59 14 (σ 59 14 + 1)) 59 37 (σ 59 37 + 1)) 87 = k' from rfl] at w1
                      have he : EqS cn (cpf ce fA (60 * t + 5 * o) 5) (fun q => if q = 12 * t + o then xA else nu q) (σ 64) (cpf (σ 65) g (60 * t + 5 * o) 5) (cpf (σ 66) k' (60 * t + 5 * o) 5) := by
                        rw [c10, cpf_congr i1]
                        exact ⟨c9, rfl, no_over ht5 (ho12.resolve_left ho1) h.2.1.2.2 i2⟩
                      obtain ⟨u5, u6⟩ := rt_store u3 he
                      exact ⟨_, fun Q hQ => i3 Q (fun z => absurd hm1 z) (fun _ z => absurd hn1 z) (fun _ _ z => absurd z ho1) (fun _ _ _ z1 z2 => absurd ⟨z1, z2⟩ hL) (fun _ _ _ _ => ⟨_, w1, hQ⟩), u5, kpR_trans (kpR_trans u2 u4) u6⟩
            · exact FL 3 n ⟨by decide, by decide⟩ ⟨by omega, by omega⟩ (fun σ h f' H Q hQ => H Q (fun z => absurd hm1 z) (fun _ _ => hQ) (fun _ z => absurd z hn1) (fun _ z => absurd z hn1) (fun _ z => absurd z hn1) (fun _ z => absurd z hn1)) (fun σ h g k' H Q hQ => H Q (fun z => absurd hm1 z) (fun _ _ => hQ) (fun _ z => absurd z hn1) (fun _ z => absurd z hn1) (fun _ z => absurd z hn1))
          · exact FL 1 m ⟨by decide, by decide⟩ ⟨by omega, by omega⟩ (fun σ h f' H Q hQ => H Q (fun _ => hQ) (fun z => absurd z hm1) (fun z => absurd z hm1) (fun z => absurd z hm1) (fun z => absurd z hm1) (fun z => absurd z hm1)) (fun σ h g k' H Q hQ => H Q (fun _ => hQ) (fun z => absurd z hm1) (fun z => absurd z hm1) (fun z => absurd z hm1) (fun z => absurd z hm1))
theorem ld_row_50 {sc : Int × (Int → Int)} {τ : ai_S} (hS : RSch (τ 2 0) (τ 59 1) (τ 4) (τ 60) (τ 5) (τ 61) (τ 7) (τ 62) (τ 6) (τ 63) (τ 3) (τ 84)) (hD : DS (τ 2 0) (τ 4) (τ 5) (τ 50 0) (τ 50 1) (τ 51) (τ 52) (τ 53) (τ 54) (τ 55) (τ 56) (τ 57) (τ 58) (τ 59 20) (τ 59 21) (τ 72) (τ 73) (τ 74) (τ 75) (τ 76) (τ 77)) (hO : τ 59 13 = τ 12 0) (hO3 : 0 ≤ τ 12 0 ∧ τ 12 0 ≤ 3) {op r : Int} (hop : 0 ≤ op ∧ op ≤ 3) (hr : 0 ≤ r ∧ r < τ 50 1) {cn ce nu y : Int → Int} {md ch : Int} (hG : GS (τ 2 0) (τ 4) (τ 5) (τ 6) cn ce nu) (hy : ∀ j, ai_r (y j)) (hch : 0 < τ 12 0 → 0 ≤ ch ∧ ch ≤ 200) :
    ∃ b cn' ce' nu' y' md' ch', okO τ 1 b cn' ce' nu' y' md md' ch' ∧ SmC sc τ 40 [some (.inr (.inr 1)), some (.inl op), some (.inr (.inr 50)), some (.inl r), none, none] cn ce nu y md ch b cn' ce' nu' y' md' ch' ∧ SmR sc τ 167 [some (.inr (.inr 59)), some (.inl op), some (.inl (τ 51 (τ 56 r))), some (.inl (τ 56 r)), some (.inl r), none, none] cn ce nu y md ch b cn' ce' nu' y' md' ch' := by
  obtain ⟨s1, s2, s3, s4, s5, s6, s7, s8, s9, s10, s11, s12⟩ := hS
  obtain ⟨⟨d1, d2, d3, d4, d5, d6⟩, d7, d8, d9⟩ := hD
  obtain ⟨e1, e2, e3⟩ := d8 r hr.1 hr.2
  obtain ⟨s, hs⟩ : ∃ s, s = τ 56 r := ⟨_, rfl⟩
  rw [← hs] at e1 e2 e3
  obtain ⟨⟨g1a, g1b, g1c⟩, ⟨g2a, g2b, g2c⟩, g3, g4, g5, g6, g7, g8⟩ := d9 s e1.1 e1.2
  obtain ⟨f1, f2, f3, f4, f5, f6⟩ := g8 r e2 e3
  obtain ⟨t, ht⟩ : ∃ t, t = τ 51 s := ⟨_, rfl⟩
  rw [← ht] at g1a g1b g1c g2c g5 f6
  have hs6 : 0 ≤ s ∧ s < 6 := ⟨e1.1, by omega⟩
  have hr24 : 0 ≤ r ∧ r < 24 := ⟨hr.1, by omega⟩
  have ht5 : 0 ≤ t ∧ t < 5 := ⟨g1b, by omega⟩
  have hw5 := s8 t
  obtain ⟨k1, k2, k3, k4, k5, k6, k7, k8⟩ := id hG
  have h8 : ∀ j, ai_r8 (ce j) := fun j => rg8 (k4 j)
  have hcl : ∀ k, 0 ≤ k → k < τ 52 s → 0 ≤ τ 53 (5 * s + k) ∧ τ 53 (5 * s + k) < 5 := fun k x1 x2 => ⟨(g5 k x1 x2).2.1, by have := (g5 k x1 x2).2.2; omega⟩
  have hwd : 0 ≤ τ 52 s ∧ τ 52 s ≤ 5 := ⟨by omega, by omega⟩
  have rt : ai_r t := ⟨by omega, by omega⟩
  have rr : ai_r r := ⟨by omega, by omega⟩
  -- what the two hold at a state
  have fC : ∀ σ, CT τ cn ce nu y md ch σ → σ 51 (σ 56 r) = t ∧ σ 56 r = s ∧ σ 58 = τ 58 ∧ σ 57 = τ 57 ∧ σ 54 = τ 54 := fun σ h => by
    have a1 := h.1.1 51 (by omega)
    have a2 := h.1.1 56 (by omega)
    refine ⟨?_, ?_, h.1.1 58 (by omega), h.1.1 57 (by omega), h.1.1 54 (by omega)⟩
    · rw [a1, a2, ← hs]
      exact ht.symm
    · rw [a2]
      exact hs.symm
  have keyR : ∀ σ, RT τ cn ce nu y md ch σ → ∀ k, ((k = -1 ∧ ∀ j, 0 ≤ j → j < τ 52 s → ¬ τ 53 (5 * s + j) = 0) ∨ (0 ≤ k ∧ k < τ 52 s ∧ τ 53 (5 * s + k) = 0)) → fn sc 166 [some (.inr (.inr 59)), some (.inl s), none, none] σ (some (.inl k)) σ := fun σ h k hk => by
    have a1 := h.1.1 73 (by omega)
    have a2 := h.1.1 75 (by omega)
    have eq : ∀ j, 0 ≤ j → j < σ 73 s → σ 75 (5 * s + j) = τ 53 (5 * s + j) := fun j j1 j2 => by
      rw [a2]
      rw [a1, g2a] at j2
      exact (g5 j j1 j2).1
    have ew : σ 73 s = τ 52 s := by rw [a1, g2a]
    refine rf_keyOf_fn hs6 (by omega) (fun j j1 j2 => ?_) (fun j l j1 j2 l1 l2 e => ?_) ?_
    · rw [eq j j1 j2]
      have := hcl j j1 (by omega)
      exact ⟨by omega, by omega⟩
    · rw [eq j j1 j2, eq l l1 l2] at e
      exact g6 j l j1 (by omega) l1 (by omega) e
    · rcases hk with ⟨x1, x2⟩ | ⟨x1, x2, x3⟩
      · refine Or.inl ⟨x1, fun j j1 j2 => ?_⟩
        rw [eq j j1 j2]
        exact x2 j j1 (by omega)
      · refine Or.inr ⟨x1, by omega, ?_⟩
        rw [eq k x1 (by omega)]
        exact x3
  have okF : ∀ a b, ai_r a → ai_r b → okO τ 1 0 cn ce nu (wy y a t r b) md md ch := fun a b ha hb => ⟨Or.inl rfl, hG, wy_r hy ha rt rr hb, hch, Int.le_refl md, by omega⟩
  rw [show τ 51 (τ 56 r) = t by rw [← hs]; exact ht.symm, ← hs]
  by_cases hk0 : tb (τ 58 r) 0 = true
  · -- no key
    refine ⟨0, cn, ce, nu, wy y 1 t r 0, md, ch, okF 1 0 rr1 rr0, fun σ h => ?_, fun σ h => ?_⟩
    · obtain ⟨c1, c2, c3, c4, c5⟩ := fC σ h
      obtain ⟨q1, q2⟩ := ct_fail (a := 1) (b := t) (c := r) (d := 0) h
      exact ⟨_, cl_null_50 hr24 (by rw [c2]; exact hs6) c1 (by rw [c3]; exact f2) (by rw [c3]; exact hk0), q1, q2⟩
    · obtain ⟨q1, q2⟩ := rt_fail (a := 1) (b := t) (c := r) (d := 0) h
      have a77 := h.1.1 77 (by omega)
      by_cases hm : tb (τ 54 s) 0 = true
      · obtain ⟨k, x1, x2, x3⟩ := (g7 0 (by decide) (by decide)).mp hm
        have e := (f3 k x1 x2).2
        rw [x3, hk0] at e
        exact ⟨_, rl_null hr24 (keyR σ h k (Or.inr ⟨x1, x2, x3⟩)) (Or.inr ⟨⟨x1, by omega⟩, by rw [a77]; exact e.trans (bi_eq1.mpr rfl)⟩), q1, q2⟩
      · exact ⟨_, rl_null hr24 (keyR σ h (-1) (Or.inl ⟨rfl, fun j j1 j2 e => hm ((g7 0 (by decide) (by decide)).mpr ⟨j, j1, j2, e⟩)⟩)) (Or.inl rfl), q1, q2⟩
  · have hkf : tb (τ 58 r) 0 = false := by simpa using hk0
    have hm : tb (τ 54 s) 0 = true := by
      by_cases z : tb (τ 54 s) 0 = true
      · exact z
      · exact absurd (f4 0 (by decide) (by decide) (by simpa using z)) hk0
    obtain ⟨k, x1, x2, x3⟩ := (g7 0 (by decide) (by decide)).mp hm
    obtain ⟨x4, x5⟩ := f3 k x1 x2
    rw [x3] at x4 x5
    rw [hkf] at x5
    have x6 : τ 77 (5 * r + k) = 0 := x5.trans (bi_eq0.mpr (by decide))
    have x7 : τ 76 (5 * r + k) = τ 57 (r * 5 + 0) := by rw [x4, show 5 * r + 0 = r * 5 + 0 by omega]
    obtain ⟨v, hv⟩ : ∃ v, v = τ 57 (r * 5 + 0) := ⟨_, rfl⟩
    rw [← hv] at x7
    have hv8 : ai_r8 v := by rw [hv]; exact rg8 (d7 _)
    obtain ⟨o, ho⟩ := isRow_total (cn t) v (fun q => ce (60 * t + 5 * q))
    obtain ⟨ro, ho12⟩ := isRow_rng ho (k1 t).2
    have hasc := fun a b => k5 t a b ht5.1 ht5.2
    have CL : ∀ σ, CT τ cn ce nu y md ch σ → ∀ Q : ai_O → Prop, (op = 3 → o = -1 → Q (.inl (some (.inl 1)), (92, [], σ))) → (op = 3 → ¬ o = -1 → ∃ b σ', (b = 0 ∨ b = 1) ∧ fn sc 41 [some (.inr (.inr 1)), some (.inl t), some (.inl o), some (.inl r), none] σ (some (.inl b)) σ' ∧ Q (.inl (some (.inl b)), (92, [], σ'))) → (op = 0 → ¬ o = -1 → Q (.inl (some (.inl 0)), (92, [], up σ 27 (wy (σ 27) 2 t r (-1))))) → (op = 1 → o = -1 → Q (.inl (some (.inl 0)), (92, [], up σ 27 (wy (σ 27) 5 t r (-1))))) → (¬ op = 3 → ¬ (op = 0 ∧ ¬ o = -1) → ¬ (op = 1 ∧ o = -1) → ∃ b σ1 σ', (b = 0 ∨ b = 1) ∧ fn sc 42 [some (.inr (.inr 1)), some (.inr (.inr 50)), some (.inl r), some (.inl o), none, none] σ none σ1 ∧ fn sc 43 [some (.inr (.inr 1)), some (.inl t), some (.inl o), some (.inl r), none] σ1 (some (.inl b)) σ' ∧ Q (.inl (some (.inl b)), (92, [], σ'))) → ai_wp sc 40 0 [some (.inr (.inr 1)), some (.inl op), some (.inr (.inr 50)), some (.inl r), none, none] [] (0, 0) (92, [], σ) Q := by
      intro σ h Q hN hR h2 h5 hF
      obtain ⟨c1, c2, c3, c4, c5⟩ := fC σ h
      have c9 := h.2.1.1
      have c10 := h.2.1.2.1
      refine cl_load_50 hop ro hr24 (by rw [c2]; exact hs6) c1 (by rw [c3]; exact f2) (by rw [c3]; exact hkf) ?_ hN hR h2 h5 hF
      rw [c4, ← hv]
      exact cf_find_fn ht5 (by rw [c9]; exact k1 t) (by rw [c10]; exact h8) hv8 (by rw [c9, c10]; exact hasc) (by rw [c9, c10]; exact ho)
    have fR : ∀ σ, RT τ cn ce nu y md ch σ → σ 64 = cn ∧ σ 65 = ce ∧ σ 59 13 = τ 12 0 := fun σ h => ⟨h.2.1.1, h.2.1.2.1, h.1.2.2.1.trans hO⟩
    have RL : ∀ σ, RT τ cn ce nu y md ch σ → ∀ Q : ai_O → Prop, (op = 3 → o = -1 → Q (.inl (some (.inl 1)), (92, [], σ))) → (op = 3 → ¬ o = -1 → ai_wp sc 161 0 [some (.inr (.inr 59)), some (.inl t), some (.inl o), none, none, none, none, none, none, none] [] (0, 0) (92, [], σ) (ai_k (fun v h' => ai_ck (ai_zz 92 h'.1 0) (ai_wp sc 167 72 [some (.inr (.inr 59)), some (.inl op), some (.inl t), some (.inl s), some (.inl r), some (.inl k), some (.inl o)] (v.toList ++ []) (0, 0) h' Q)))) → (op = 0 → ¬ o = -1 → Q (.inl (some (.inl 0)), (92, [], up σ 85 (wy (σ 85) 2 t r (-1))))) → (op = 1 → o = -1 → Q (.inl (some (.inl 0)), (92, [], up σ 85 (wy (σ 85) 5 t r (-1))))) → (¬ op = 3 → ¬ (op = 0 ∧ ¬ o = -1) → ¬ (op = 1 ∧ o = -1) → ∃ σ1, fn sc 164 [some (.inr (.inr 59)), some (.inl t), some (.inl s), some (.inl r), some (.inl o), none, none] σ none σ1 ∧ ai_wp sc 165 0 [some (.inr (.inr 59)), some (.inl t), some (.inl r), none, none] [] (0, 0) (92, [], σ1) (ai_k (fun v h' => ai_ck (ai_zz 92 h'.1 0) (ai_wp sc 167 107 [some (.inr (.inr 59)), some (.inl op), some (.inl t), some (.inl s), some (.inl r), some (.inl k), some (.inl o)] (v.toList ++ []) (0, 0) h' Q)))) → ai_wp sc 167 0 [some (.inr (.inr 59)), some (.inl op), some (.inl t), some (.inl s), some (.inl r), none, none] [] (0, 0) (92, [], σ) Q := by
      intro σ h Q hN hR h2 h5 hF
      obtain ⟨c9, c10, _⟩ := fR σ h
      have a77 := h.1.1 77 (by omega)
      have a76 := h.1.1 76 (by omega)
      refine rl_load hop ro hr24 (keyR σ h k (Or.inr ⟨x1, x2, x3⟩)) ⟨⟨x1, by omega⟩, by rw [a77]; exact x6⟩ ?_ hN hR h2 h5 hF
      rw [a76, x7]
      exact rf_find_fn ht5 (by rw [c9]; exact k1 t) (by rw [c10]; exact h8) hv8 (by rw [c9, c10]; exact hasc) (by rw [c9, c10]; exact ho)
    by_cases b1 : op = 3
    · by_cases b2 : o = -1
      · -- nothing to delete
        exact ⟨1, cn, ce, nu, y, md, ch, ⟨Or.inr rfl, hG, hy, hch, Int.le_refl md, by omega⟩, fun σ h => ⟨σ, fun Q hQ => CL σ h Q (fun _ _ => hQ) (fun _ q => absurd b2 q) (fun q => absurd q (by omega)) (fun q => absurd q (by omega)) (fun q => absurd b1 q), h, kpC_rfl⟩, fun σ h => ⟨σ, fun Q hQ => RL σ h Q (fun _ _ => hQ) (fun _ q => absurd b2 q) (fun q => absurd q (by omega)) (fun q => absurd q (by omega)) (fun q => absurd b1 q), h, kpR_rfl⟩⟩
      · have ho2 : 0 ≤ o ∧ o < 12 := ho12.resolve_left b2
        have ho3 : o < cn t := by
          rcases ho with ⟨z, _⟩ | ⟨_, z, _⟩
          · exact absurd z b2
          · exact z
        -- the class's way to removeRow, for an end that is known
        have CR : ∀ σ, CT τ cn ce nu y md ch σ → ∀ (b : Int) (σ' : ai_S), (b = 0 ∨ b = 1) → fn sc 41 [some (.inr (.inr 1)), some (.inl t), some (.inl o), some (.inl r), none] σ (some (.inl b)) σ' → fn sc 40 [some (.inr (.inr 1)), some (.inl op), some (.inr (.inr 50)), some (.inl r), none, none] σ (some (.inl b)) σ' := fun σ h b σ' hb hf Q hQ => CL σ h Q (fun _ q => absurd q b2) (fun _ _ => ⟨b, σ', hb, hf, hQ⟩) (fun q => absurd q (by omega)) (fun q => absurd q (by omega)) (fun q => absurd b1 q)
        have cR : ∀ σ, CT τ cn ce nu y md ch σ → ∀ Q : ai_O → Prop, (ARp (τ 2 0) (τ 4) (τ 6) cn ce nu t o → Q (.inl (some (.inl 0)), (92, [], up σ 27 (wy (σ 27) 4 t r (-1))))) → (¬ ARp (τ 2 0) (τ 4) (τ 6) cn ce nu t o → 0 < τ 12 0 → 200 < ch + 1 → Q (.inl (some (.inl 0)), (92, [], up σ 27 (wy (σ 27) 7 t r (-1))))) → (¬ ARp (τ 2 0) (τ 4) (τ 6) cn ce nu t o → (0 < τ 12 0 → ch + 1 ≤ 200) → ∃ σ1 σ2, fn sc 112 [some (.inr (.inr 8)), some (.inl t), some (.inl o), none] σ none σ1 ∧ fn sc 46 [some (.inr (.inr 1)), some (.inl 1)] σ1 none σ2 ∧ Q (.inl (some (.inl 1)), (92, [], σ2))) → ai_wp sc 41 0 [some (.inr (.inr 1)), some (.inl t), some (.inl o), some (.inl r), none] [] (0, 0) (92, [], σ) Q := by
          intro σ h Q q4 q7 qy
          have c2 := h.1.1 2 (by omega)
          have c4 := h.1.1 4 (by omega)
          have c6 := h.1.1 6 (by omega)
          obtain ⟨c9, c10, c11, c27⟩ := h.2.1
          have c12 := h.1.2
          have cch := h.2.2.2.1
          refine cf_rem ht5 ho2 (by rw [c2]; exact s2) (by rw [c4]; exact s8) (by rw [c6]; exact s11) (by rw [c9]; exact k1) (by rw [c10]; exact h8) (by rw [c12]; exact hO3) (fun q => by rw [c12] at q; rw [cch q]; exact hch q) (fun q => q4 ?_) (fun q z1 z2 => q7 (fun z => q ?_) (by rw [c12] at z1; exact z1) (by rw [c12] at z1; rw [cch z1] at z2; exact z2)) (fun q z => qy (fun z2 => q ?_) (fun z2 => by have z3 := z (by rw [c12]; exact z2); rw [cch z2] at z3; exact z3))
          · rw [c2, c4, c6, c9, c10, c11] at q
            exact q
          · rw [c2, c4, c6, c9, c10, c11]
            exact z
          · rw [c2, c4, c6, c9, c10, c11]
            exact z2
        have rR : ∀ σ, RT τ cn ce nu y md ch σ → ∀ Q : ai_O → Prop, (ARp (τ 2 0) (τ 4) (τ 6) cn ce nu t o → Q (.inl (some (.inl 0)), (92, [], up σ 85 (wy (σ 85) 4 t r (-1))))) → (¬ ARp (τ 2 0) (τ 4) (τ 6) cn ce nu t o → 0 < τ 12 0 → 200 < ch + 1 → Q (.inl (some (.inl 0)), (92, [], up σ 85 (wy (σ 85) 7 t r (-1))))) → (¬ ARp (τ 2 0) (τ 4) (τ 6) cn ce nu t o → (0 < τ 12 0 → ch + 1 ≤ 200) → ∃ σ1, fn sc 162 [some (.inr (.inr 59)), some (.inl t), some (.inl o), none] (ai_set (ai_set σ 59 14 (σ 59 14 + 1)) 59 37 (σ 59 37 + 1)) none σ1 ∧ Q (.inl (some (.inl 1)), (92, [], σ1))) → ai_wp sc 167 0 [some (.inr (.inr 59)), some (.inl op), some (.inl t), some (.inl s), some (.inl r), none, none] [] (0, 0) (92, [], σ) Q := by
          intro σ h Q q4 q7 qy
          obtain ⟨c9, c10, c13⟩ := fR σ h
          have c1 := h.1.2.1
          have c60 := (h.1.1 60 (by omega)).trans s3
          have c63 := (h.1.1 63 (by omega)).trans s6
          have cch := h.2.2.2.2
          refine RL σ h Q (fun _ q => absurd q b2) (fun _ _ => rf_referred ht5 ho2 (by rw [c1, s1]; exact s2) (by rw [c60]; exact s8) (by rw [c63]; exact s11) (by rw [c9]; exact k1) (by rw [c10]; exact h8) (fun j j1 j2 => by have := no01 h.2.1 j j1 j2; exact ⟨by omega, by omega⟩) (fun b hb hbi => ai_k_in ?_)) (fun q => absurd q (by omega)) (fun q => absurd q (by omega)) (fun q => absurd b1 q)
          have hAR := ar_same (T := τ 2 0) (w := τ 4) (pa := τ 6) (t := t) (r := o) h.2.1 k3 k1 s8 s2.2 ho2.1
          rw [c1, s1, c60, c63] at hbi
          refine r72 hb (by rw [c13]; exact hO3) (fun q => by rw [c13] at q; rw [cch q]; exact hch q) (fun e => q4 (hAR.mpr (hbi.mp e))) (fun e z1 z2 => q7 (fun z => ?_) (by rw [c13] at z1; exact z1) (by rw [c13] at z1; rw [cch z1] at z2; exact z2)) (fun e z => qy (fun z2 => ?_) (fun z2 => by have z3 := z (by rw [c13]; exact z2); rw [cch z2] at z3; exact z3))
          · have := hbi.mpr (hAR.mp z)
            omega
          · have := hbi.mpr (hAR.mp z2)
            omega
        by_cases hA : ARp (τ 2 0) (τ 4) (τ 6) cn ce nu t o
        · refine ⟨0, cn, ce, nu, wy y 4 t r (-1), md, ch, okF 4 (-1) ⟨by decide, by decide⟩ rm1, fun σ h => ?_, fun σ h => ?_⟩
          · obtain ⟨q1, q2⟩ := ct_fail (a := 4) (b := t) (c := r) (d := -1) h
            exact ⟨_, CR σ h 0 _ (Or.inl rfl) (fun Q hQ => cR σ h Q (fun _ => hQ) (fun q => absurd hA q) (fun q => absurd hA q)), q1, q2⟩
          · obtain ⟨q1, q2⟩ := rt_fail (a := 4) (b := t) (c := r) (d := -1) h
            exact ⟨_, fun Q hQ => rR σ h Q (fun _ => hQ) (fun q => absurd hA q) (fun q => absurd hA q), q1, q2⟩
        · by_cases hL : 0 < τ 12 0 ∧ 200 < ch + 1
          · refine ⟨0, cn, ce, nu, wy y 7 t r (-1), md, ch, okF 7 (-1) ⟨by decide, by decide⟩ rm1, fun σ h => ?_, fun σ h => ?_⟩
            · obtain ⟨q1, q2⟩ := ct_fail (a := 7) (b := t) (c := r) (d := -1) h
              exact ⟨_, CR σ h 0 _ (Or.inl rfl) (fun Q hQ => cR σ h Q (fun q => absurd q hA) (fun _ _ _ => hQ) (fun _ q => absurd (q hL.1) (by omega))), q1, q2⟩
            · obtain ⟨q1, q2⟩ := rt_fail (a := 7) (b := t) (c := r) (d := -1) h
              exact ⟨_, fun Q hQ => rR σ h Q (fun q => absurd q hA) (fun _ _ _ => hQ) (fun _ q => absurd (q hL.1) (by omega)), q1, q2⟩
          · refine ⟨1, _, _, _, y, md + 1, ch + 1, ⟨Or.inr rfl, GS_out hG s11 s8 s2.2 ⟨g1b, g1c⟩ ⟨ho2.1, ho3⟩ hA, hy, fun q => by have := hch q; omega, by omega, by omega⟩, fun σ h => ?_, fun σ h => ?_⟩
            · obtain ⟨c9, c10, c11, c27⟩ := h.2.1
              have f1 := cf_remove (sc := sc) (σ := σ) (cn := cn) (ce := ce) (nu := nu) (t := t) (r := o) ht5 (k1 t).2 ⟨ho2.1, ho3⟩
              have ei : KS σ cn ce nu = σ := by rw [← c9, ← c10, ← c11]; exact ks_id
              rw [ei] at f1
              obtain ⟨q1, q2⟩ := ct_store (cn' := fun k => if k = t then cn t - 1 else cn k) (ce' := del ce (60 * t + 5 * o) (60 * t + 5 * (cn t - 1))) (nu' := dln nu (12 * t + o) (12 * t + (cn t - 1))) h
              obtain ⟨q3, q4⟩ := ct_note (n := 1) hO3.1 q1
              exact ⟨_, CR σ h 1 _ (Or.inr rfl) (fun Q hQ => cR σ h Q (fun q => absurd q hA) (fun _ z1 z2 => absurd ⟨z1, z2⟩ hL) (fun _ _ => ⟨_, _, f1, cf_note (by rw [q1.1.2]; exact hO3), hQ⟩)), q3, kpC_trans q2 q4⟩
            · obtain ⟨q1, q2⟩ := rt_log (n := 1) h
              have f1 := rf_remove (sc := sc) (σ := ai_set (ai_set σ 59 14 (σ 59 14 + 1)) 59 37 (σ 59 37 + 1)) (mn := σ 64) (vl := σ 65) (no := σ 66) (t := t) (r := o) ht5 (by rw [h.2.1.1]; exact (k1 t).2) (by rw [h.2.1.1]; exact ⟨ho2.1, ho3⟩) (no01 h.2.1)
              have ei : ZS (ai_set (ai_set σ 59 14 (σ 59 14 + 1)) 59 37 (σ 59 37 + 1)) (σ 64) (σ 65) (σ 66) = ai_set (ai_set σ 59 14 (σ 59 14 + 1)) 59 37 (σ 59 37 + 1) := zs_id (σ := ai_set (ai_set σ 59 14 (σ 59 14 + 1)) 59 37 (σ 59 37 + 1))
              rw [ei] at f1
              have he : EqS (fun k => if k = t then cn t - 1 else cn k) (del ce (60 * t + 5 * o) (60 * t + 5 * (cn t - 1))) (dln nu (12 * t + o) (12 * t + (cn t - 1))) (fun k => if k = t then σ 64 t - 1 else σ 64 k) (del (σ 65) (60 * t + 5 * o) (60 * t + 5 * (σ 64 t - 1))) (del (σ 66) (60 * t + 5 * o) (60 * t + 5 * (σ 64 t - 1))) := by
                rw [h.2.1.1, h.2.1.2.1]
                exact ⟨rfl, rfl, no_del ht5 ⟨ho2.1, ho3⟩ (k1 t).2 h.2.1.2.2⟩
              obtain ⟨q3, q4⟩ := rt_store q1 he
              exact ⟨_, fun Q hQ => rR σ h Q (fun q => absurd q hA) (fun _ z1 z2 => absurd ⟨z1, z2⟩ hL) (fun _ _ => ⟨_, f1, hQ⟩), q3, kpR_trans q2 q4⟩
    · by_cases b2 : op = 0 ∧ ¬ o = -1
      · refine ⟨0, cn, ce, nu, wy y 2 t r (-1), md, ch, okF 2 (-1) ⟨by decide, by decide⟩ rm1, fun σ h => ?_, fun σ h => ?_⟩
        · obtain ⟨q1, q2⟩ := ct_fail (a := 2) (b := t) (c := r) (d := -1) h
          exact ⟨_, fun Q hQ => CL σ h Q (fun q => absurd q b1) (fun q => absurd q b1) (fun _ _ => hQ) (fun _ q => absurd q b2.2) (fun _ q => absurd b2 q), q1, q2⟩
        · obtain ⟨q1, q2⟩ := rt_fail (a := 2) (b := t) (c := r) (d := -1) h
          exact ⟨_, fun Q hQ => RL σ h Q (fun q => absurd q b1) (fun q => absurd q b1) (fun _ _ => hQ) (fun _ q => absurd q b2.2) (fun _ q => absurd b2 q), q1, q2⟩
      · by_cases b3 : op = 1 ∧ o = -1
        · refine ⟨0, cn, ce, nu, wy y 5 t r (-1), md, ch, okF 5 (-1) ⟨by decide, by decide⟩ rm1, fun σ h => ?_, fun σ h => ?_⟩
          · obtain ⟨q1, q2⟩ := ct_fail (a := 5) (b := t) (c := r) (d := -1) h
            exact ⟨_, fun Q hQ => CL σ h Q (fun q => absurd q b1) (fun q => absurd q b1) (fun z1 z2 => absurd ⟨z1, z2⟩ b2) (fun _ _ => hQ) (fun _ _ q => absurd b3 q), q1, q2⟩
          · obtain ⟨q1, q2⟩ := rt_fail (a := 5) (b := t) (c := r) (d := -1) h
            exact ⟨_, fun Q hQ => RL σ h Q (fun q => absurd q b1) (fun q => absurd q b1) (fun z1 z2 => absurd ⟨z1, z2⟩ b2) (fun _ _ => hQ) (fun _ _ q => absurd b3 q), q1, q2⟩
        · -- the row as it would be
          obtain ⟨fA, hfA⟩ : ∃ fA : Int → Int, fA = selV o (τ 54 s) (fun j => τ 57 (5 * r + j)) (fun j => ce (60 * t + 5 * o + j)) := ⟨_, rfl⟩
          obtain ⟨xA, hxA, hxB⟩ := bits_ex (selB o (τ 54 s) (τ 58 r) (nu (12 * t + o)))
          have hoc : ¬ o = -1 → (0 ≤ o ∧ o < cn t) ∧ ce (60 * t + 5 * o) = v := fun q => by
            rcases ho with ⟨z, _⟩ | ⟨z1, z2, z3⟩
            · exact absurd z q
            · exact ⟨⟨z1, z2⟩, z3⟩
          have fA0 : fA 0 = v := by
            rw [hfA, hv]
            show (if o = -1 ∨ tb (τ 54 s) 0 = true then τ 57 (5 * r + 0) else ce (60 * t + 5 * o + 0)) = τ 57 (r * 5 + 0)
            rw [if_pos (Or.inr hm), show 5 * r + 0 = r * 5 + 0 by omega]
          have fAat : ∀ c, fA c = if o = -1 ∨ tb (τ 54 s) c = true then τ 57 (5 * r + c) else ce (60 * t + 5 * o + c) := fun c => by
            rw [hfA]
            rfl
          have xAat : ∀ c, 0 ≤ c → c < 5 → tb xA c = if o = -1 ∨ tb (τ 54 s) c = true then tb (τ 58 r) c else tb (nu (12 * t + o)) c := fun c c1 c2 => hxB c c1 c2
          have hok : rowOK (τ 4) (τ 5) t fA xA := by
            refine ⟨hxA, fun c c1 c2 => ?_, fun c c1 c2 c3 => ?_, fun c c1 c2 => ?_⟩
            · rw [fAat]
              split
              · exact d7 _
              · exact k4 _
            · rw [fAat]
              rw [xAat c c1 c2] at c3
              by_cases z : o = -1 ∨ tb (τ 54 s) c = true
              · rw [if_pos z] at c3 ⊢
                exact f5 c c1 c2 c3
              · rw [if_neg z] at c3 ⊢
                have z2 := (hoc (fun q => z (Or.inl q))).1
                exact k6 t o c ht5.1 ht5.2 z2.1 z2.2 c1 c2 c3
            · rw [fAat]
              by_cases z : o = -1 ∨ tb (τ 54 s) c = true
              · rw [if_pos z]
                exact f6 c c1 c2
              · rw [if_neg z]
                have z2 := (hoc (fun q => z (Or.inl q))).1
                exact k8 t o c g1b g1c z2.1 z2.2 c1 c2
          have hfA8 : ∀ c, 0 ≤ c → c < 5 → ai_r8 (fA c) := fun c c1 c2 => rg8 (hok.2.1 c c1 c2)
          obtain ⟨m, hmi⟩ := isFst_total (τ 4 t) (Mis (τ 7) t xA)
          obtain ⟨n, hni⟩ := isFst_total (τ 4 t) (Orp (τ 6) cn ce t xA fA)
          have hm5 := isFst_rng hmi hw5.2
          have hn5 := isFst_rng hni hw5.2
          -- the class
          have CF : ∀ σ, CT τ cn ce nu y md ch σ → ∃ f', (∀ c, 0 ≤ c → c < 5 → f' c = fA c) ∧ fn sc 42 [some (.inr (.inr 1)), some (.inr (.inr 50)), some (.inl r), some (.inl o), none, none] σ none (CD σ f' xA) ∧ fn sc 44 [some (.inr (.inr 1)), some (.inl t), none] (CD σ f' xA) (some (.inl m)) (CD σ f' xA) ∧ fn sc 45 [some (.inr (.inr 1)), some (.inl t), none, none, none, none, none] (CD σ f' xA) (some (.inl n)) (CD σ f' xA) := by
            intro σ h
            obtain ⟨c1, c2, c3, c4, c5⟩ := fC σ h
            obtain ⟨c9, c10, c11, c27⟩ := h.2.1
            have c40 := h.1.1 4 (by omega)
            have c60 := h.1.1 6 (by omega)
            have c70 := h.1.1 7 (by omega)
            obtain ⟨f', x', i1, i2, i3⟩ := cf_fill_50 (sc := sc) (σ := σ) (r := r) (o := o) hr24 (by rw [c2]; exact hs6) (by rw [c1]; exact ht5) ho12 (by rw [c2, c5]; exact g4) (by rw [c3]; exact f2) (by rw [c11]; exact k3) h.2.2.2.2
            rw [c1, c2, c3, c4, c5, c10, c11] at i2
            have ex : x' = xA := bits_inj i1 hxA (fun c y1 y2 => (i2 c y1 y2).2.trans (hxB c y1 y2).symm)
            have ef : ∀ c, 0 ≤ c → c < 5 → f' c = fA c := fun c y1 y2 => (i2 c y1 y2).1.trans (congrFun hfA c).symm
            rw [ex] at i3
            refine ⟨f', ef, i3, cf_missing ht5 (show 0 ≤ σ 4 t ∧ σ 4 t ≤ 5 by rw [c40]; exact hw5) (show ∀ j, 0 ≤ σ 7 j ∧ σ 7 j ≤ 1 by rw [c70]; exact s10) hxA (show isFst (σ 4 t) (Mis (σ 7) t xA) m by rw [c40, c70]; exact hmi), cf_orphan ht5 (show 0 ≤ σ 4 t ∧ σ 4 t ≤ 5 by rw [c40]; exact hw5) (show ∀ j, -1 ≤ σ 6 j ∧ σ 6 j < 5 by rw [c60]; exact s11) hxA (show ∀ u, 0 ≤ σ 9 u ∧ σ 9 u ≤ 12 by rw [c9]; exact k1) (show ∀ j, ai_r8 (σ 10 j) by rw [c10]; exact h8) (fun c y1 y2 => (show ai_r8 (f' c) by rw [ef c y1 y2]; exact hfA8 c y1 y2)) (show isFst (σ 4 t) (Orp (σ 6) (σ 9) (σ 10) t xA f') n from ?_)⟩
            rw [c40, c60, c9, c10]
            refine isFst_congr hni (fun c y1 y2 => ?_)
            unfold Orp
            rw [ef c y1 (by omega), ef 0 (by decide) (by decide)]
          have CP : ∀ σ, CT τ cn ce nu y md ch σ → ∃ f', (∀ c, 0 ≤ c → c < 5 → f' c = fA c) ∧ ∀ (b : Int) (σ' : ai_S), (b = 0 ∨ b = 1) → fn sc 43 [some (.inr (.inr 1)), some (.inl t), some (.inl o), some (.inl r), none] (CD σ f' xA) (some (.inl b)) σ' → fn sc 40 [some (.inr (.inr 1)), some (.inl op), some (.inr (.inr 50)), some (.inl r), none, none] σ (some (.inl b)) σ' := by
            intro σ h
            obtain ⟨f', i1, i2, i3, i4⟩ := CF σ h
            exact ⟨f', i1, fun b σ' hb hf Q hQ => CL σ h Q (fun q => absurd q b1) (fun q => absurd q b1) (fun z1 z2 => absurd ⟨z1, z2⟩ b2) (fun z1 z2 => absurd ⟨z1, z2⟩ b3) (fun _ _ _ => ⟨b, _, σ', hb, i2, hf, hQ⟩)⟩
          have cP : ∀ σ, CT τ cn ce nu y md ch σ → ∃ f', (∀ c, 0 ≤ c → c < 5 → f' c = fA c) ∧ (∀ (b : Int) (σ' : ai_S), (b = 0 ∨ b = 1) → fn sc 43 [some (.inr (.inr 1)), some (.inl t), some (.inl o), some (.inl r), none] (CD σ f' xA) (some (.inl b)) σ' → fn sc 40 [some (.inr (.inr 1)), some (.inl op), some (.inr (.inr 50)), some (.inl r), none, none] σ (some (.inl b)) σ') ∧ ∀ Q : ai_O → Prop, (¬ m = -1 → Q (.inl (some (.inl 0)), (92, [], up (CD σ f' xA) 27 (wy ((CD σ f' xA) 27) 1 t r m)))) → (m = -1 → ¬ n = -1 → Q (.inl (some (.inl 0)), (92, [], up (CD σ f' xA) 27 (wy ((CD σ f' xA) 27) 3 t r n)))) → (m = -1 → n = -1 → o = -1 → cn t = 12 → Q (.inl (some (.inl 0)), (92, [], up (CD σ f' xA) 27 (wy ((CD σ f' xA) 27) 6 t r (-1))))) → (m = -1 → n = -1 → ¬ (o = -1 ∧ cn t = 12) → 0 < τ 12 0 → 200 < ch + 1 → Q (.inl (some (.inl 0)), (92, [], up (CD σ f' xA) 27 (wy ((CD σ f' xA) 27) 7 t r (-1))))) → (m = -1 → n = -1 → o = -1 → ¬ cn t = 12 → (0 < τ 12 0 → ch + 1 ≤ 200) → ∃ σ1 σ2, fn sc 110 [some (.inr (.inr 8)), some (.inl t), some (.inr (.inr 32)), none] (CD σ f' xA) none σ1 ∧ fn sc 46 [some (.inr (.inr 1)), some (.inl 1)] σ1 none σ2 ∧ Q (.inl (some (.inl 1)), (92, [], σ2))) → (m = -1 → n = -1 → ¬ o = -1 → (0 < τ 12 0 → ch + 1 ≤ 200) → ∃ σ1 σ2, fn sc 111 [some (.inr (.inr 8)), some (.inl t), some (.inl o), some (.inr (.inr 32)), none] (CD σ f' xA) none σ1 ∧ fn sc 46 [some (.inr (.inr 1)), some (.inl 1)] σ1 none σ2 ∧ Q (.inl (some (.inl 1)), (92, [], σ2))) → ai_wp sc 43 0 [some (.inr (.inr 1)), some (.inl t), some (.inl o), some (.inl r), none] [] (0, 0) (92, [], CD σ f' xA) Q := by
            intro σ h
            obtain ⟨f', i1, i2, i3, i4⟩ := CF σ h
            obtain ⟨c9, c10, c11, c27⟩ := h.2.1
            have c12 := h.1.2
            have cch := h.2.2.2.1
            refine ⟨f', i1, fun b σ' hb hf Q hQ => CL σ h Q (fun q => absurd q b1) (fun q => absurd q b1) (fun z1 z2 => absurd ⟨z1, z2⟩ b2) (fun z1 z2 => absurd ⟨z1, z2⟩ b3) (fun _ _ _ => ⟨b, _, σ', hb, i2, hf, hQ⟩), fun Q q1 q3 q6 q7 qi qo => ?_⟩
            refine cf_putc ht5 ho12 i3 i4 hm5 hn5 (show 0 ≤ σ 9 t ∧ σ 9 t ≤ 12 by rw [c9]; exact k1 t) (show 0 ≤ σ 12 0 ∧ σ 12 0 ≤ 3 by rw [c12]; exact hO3) (fun q => (show 0 ≤ σ 12 1 ∧ σ 12 1 ≤ 200 by have q2 : 0 < σ 12 0 := q; rw [c12] at q2; rw [cch q2]; exact hch q2)) q1 q3 (fun z1 z2 z3 z4 => q6 z1 z2 z3 (by have z5 : σ 9 t = 12 := z4; rw [c9] at z5; exact z5)) (fun z1 z2 z3 z4 z5 => q7 z1 z2 (fun z => z3 ⟨z.1, (show σ 9 t = 12 by rw [c9]; exact z.2)⟩) (by have z6 : 0 < σ 12 0 := z4; rw [c12] at z6; exact z6) (by have z6 : 0 < σ 12 0 := z4; have z7 : 200 < σ 12 1 + 1 := z5; rw [c12] at z6; rw [cch z6] at z7; exact z7)) (fun z1 z2 z3 z4 z5 => qi z1 z2 z3 (fun z => z4 (show σ 9 t = 12 by rw [c9]; exact z)) (fun z => by have z6 : σ 12 1 + 1 ≤ 200 := z5 (show 0 < σ 12 0 by rw [c12]; exact z); rw [cch z] at z6; exact z6)) (fun z1 z2 z3 z4 => qo z1 z2 z3 (fun z => by have z6 : σ 12 1 + 1 ≤ 200 := z4 (show 0 < σ 12 0 by rw [c12]; exact z); rw [cch z] at z6; exact z6))
          -- the reference
          have rP : ∀ σ, RT τ cn ce nu y md ch σ → ∃ g k', (∀ c, 0 ≤ c → c < 5 → g c = fA c) ∧ (∀ c, 0 ≤ c → c < 5 → k' c = bi (tb xA c = true)) ∧ ∀ Q : ai_O → Prop, (¬ m = -1 → Q (.inl (some (.inl 0)), (92, [], up (BD σ g k') 85 (wy ((BD σ g k') 85) 1 t r m)))) → (m = -1 → ¬ n = -1 → Q (.inl (some (.inl 0)), (92, [], up (BD σ g k') 85 (wy ((BD σ g k') 85) 3 t r n)))) → (m = -1 → n = -1 → o = -1 → cn t = 12 → Q (.inl (some (.inl 0)), (92, [], up (BD σ g k') 85 (wy ((BD σ g k') 85) 6 t r (-1))))) → (m = -1 → n = -1 → ¬ (o = -1 ∧ cn t = 12) → 0 < τ 12 0 → 200 < ch + 1 → Q (.inl (some (.inl 0)), (92, [], up (BD σ g k') 85 (wy ((BD σ g k') 85) 7 t r (-1))))) → (m = -1 → n = -1 → ¬ (o = -1 ∧ cn t = 12) → (0 < τ 12 0 → ch + 1 ≤ 200) → ∃ σ1, fn sc 163 [some (.inr (.inr 59)), some (.inl t), some (.inl o), none, none] (ai_set (ai_set (BD σ g k') 59 14 (σ 59 14 + 1)) 59 37 (σ 59 37 + 1)) none σ1 ∧ Q (.inl (some (.inl 1)), (92, [], σ1))) → ai_wp sc 167 0 [some (.inr (.inr 59)), some (.inl op), some (.inl t), some (.inl s), some (.inl r), none, none] [] (0, 0) (92, [], σ) Q := by
            intro σ h
            obtain ⟨c9, c10, c13⟩ := fR σ h
            have a73 := h.1.1 73 (by omega)
            have a75 := h.1.1 75 (by omega)
            have a76 := h.1.1 76 (by omega)
            have a77 := h.1.1 77 (by omega)
            have a60 := (h.1.1 60 (by omega)).trans s3
            have a62 := (h.1.1 62 (by omega)).trans s5
            have a63 := (h.1.1 63 (by omega)).trans s6
            have cch := h.2.2.2.2
            have ew : σ 73 s = τ 52 s := by rw [a73, g2a]
            have ecl : ∀ j, 0 ≤ j → j < τ 52 s → σ 75 (5 * s + j) = τ 53 (5 * s + j) := fun j j1 j2 => by
              rw [a75]
              exact (g5 j j1 j2).1
            obtain ⟨g, k', i1, i2, i3⟩ := rf_build (sc := sc) (σ := σ) (t := t) (s := s) (r := r) (o := o) ht5 hs6 hr24 ho12 (no01 h.2.1) (by omega) (fun j j1 j2 => by rw [ecl j j1 (by omega)]; exact hcl j j1 (by omega)) (fun j l j1 j2 l1 l2 e => by rw [ecl j j1 (by omega), ecl l l1 (by omega)] at e; exact g6 j l j1 (by omega) l1 (by omega) e) (fun j j1 j2 => by rw [a77, (f3 j j1 (by omega)).2]; exact bi_01 _)
            rw [ew] at i1 i2
            have hrow : ∀ c, 0 ≤ c → c < 5 → g c = fA c ∧ k' c = bi (tb xA c = true) := by
              refine row_same (cl := τ 53) (xc := τ 76) (xn := τ 77) (dc := τ 57) (ec := ce) (vl := σ 65) (no := σ 66) (x := τ 58 r) (y := nu (12 * t + o)) (w := τ 52 s) ht5 ho12 g7 hcl f3 f4 f5 (fun c y1 y2 => by rw [c10]) (fun q c y1 y2 => ?_) (fun c y1 y2 q => i1 c y1 y2 (fun l l1 l2 => by rw [ecl l l1 l2]; exact q l l1 l2)) (fun l l1 l2 => ?_) (fun j j1 j2 => ⟨congrFun hfA j, hxB j j1 j2⟩)
              · have z := (hoc q).1
                have := (k1 t).2
                have e := h.2.1.2.2 (12 * t + o) c (by omega) (by omega) y1 y2
                rw [show 5 * (12 * t + o) + c = 60 * t + 5 * o + c by omega] at e
                exact e
              · have e := i2 l l1 l2
                rw [ecl l l1 l2, a76, a77] at e
                exact e
            refine ⟨g, k', fun c y1 y2 => (hrow c y1 y2).1, fun c y1 y2 => (hrow c y1 y2).2, fun Q q1 q3 q6 q7 qy => ?_⟩
            refine RL σ h Q (fun q => absurd q b1) (fun q => absurd q b1) (fun z1 z2 => absurd ⟨z1, z2⟩ b2) (fun z1 z2 => absurd ⟨z1, z2⟩ b3) (fun _ _ _ => ⟨_, i3, ?_⟩)
            refine rf_check (m := m) (n := n) (x := xA) ht5 (show 0 ≤ σ 60 t ∧ σ 60 t ≤ 5 by rw [a60]; exact hw5) (show ∀ j, 0 ≤ σ 62 j ∧ σ 62 j ≤ 1 by rw [a62]; exact s10) (show ∀ j, -1 ≤ σ 63 j ∧ σ 63 j < 5 by rw [a63]; exact s11) hxA (fun c y1 y2 => (hrow c y1 y2).2) (show ∀ u, 0 ≤ σ 64 u ∧ σ 64 u ≤ 12 by rw [c9]; exact k1) (show ∀ j, ai_r8 (σ 65 j) by rw [c10]; exact h8) (fun c y1 y2 => (show ai_r8 (g c) by rw [(hrow c y1 y2).1]; exact hfA8 c y1 y2)) (show isFst (σ 60 t) (Mis (σ 62) t xA) m by rw [a60, a62]; exact hmi) (show isFst (σ 60 t) (Orp (σ 63) (σ 64) (σ 65) t xA g) n from ?_) (fun z => ai_k_in (r107_0 (q1 z))) (fun z1 z2 => ai_k_in (r107_0 (q3 z1 z2))) (fun z1 z2 => ai_k_in (r107 ht5 ro (show 0 ≤ σ 64 t ∧ σ 64 t ≤ 12 by rw [c9]; exact k1 t) (show 0 ≤ σ 59 13 ∧ σ 59 13 ≤ 3 by rw [c13]; exact hO3) (fun q => (show 0 ≤ σ 59 14 ∧ σ 59 14 ≤ 200 by have q2 : 0 < σ 59 13 := q; rw [c13] at q2; rw [cch q2]; exact hch q2)) (fun z3 z4 => q6 z1 z2 z3 (by have z5 : σ 64 t = 12 := z4; rw [c9] at z5; exact z5)) (fun z3 z4 z5 => q7 z1 z2 (fun z => z3 ⟨z.1, (show σ 64 t = 12 by rw [c9]; exact z.2)⟩) (by have z6 : 0 < σ 59 13 := z4; rw [c13] at z6; exact z6) (by have z6 : 0 < σ 59 13 := z4; have z7 : 200 < σ 59 14 + 1 := z5; rw [c13] at z6; rw [cch z6] at z7; exact z7)) (fun z3 z5 => qy z1 z2 (fun z => z3 ⟨z.1, (show σ 64 t = 12 by rw [c9]; exact z.2)⟩) (fun z => by have z6 : σ 59 14 + 1 ≤ 200 := z5 (show 0 < σ 59 13 by rw [c13]; exact z); rw [cch z] at z6; exact z6))))
            rw [a60, a63, c9, c10]
            refine isFst_congr hni (fun c y1 y2 => ?_)
            unfold Orp
            rw [(hrow c y1 (by omega)).1, (hrow 0 (by decide) (by decide)).1]
          -- a check that does not hold
          have FL : ∀ a q : Int, ai_r a → ai_r q → (∀ σ, CT τ cn ce nu y md ch σ → ∀ f', (∀ Q : ai_O → Prop, (¬ m = -1 → Q (.inl (some (.inl 0)), (92, [], up (CD σ f' xA) 27 (wy ((CD σ f' xA) 27) 1 t r m)))) → (m = -1 → ¬ n = -1 → Q (.inl (some (.inl 0)), (92, [], up (CD σ f' xA) 27 (wy ((CD σ f' xA) 27) 3 t r n)))) → (m = -1 → n = -1 → o = -1 → cn t = 12 → Q (.inl (some (.inl 0)), (92, [], up (CD σ f' xA) 27 (wy ((CD σ f' xA) 27) 6 t r (-1))))) → (m = -1 → n = -1 → ¬ (o = -1 ∧ cn t = 12) → 0 < τ 12 0 → 200 < ch + 1 → Q (.inl (some (.inl 0)), (92, [], up (CD σ f' xA) 27 (wy ((CD σ f' xA) 27) 7 t r (-1))))) → (m = -1 → n = -1 → o = -1 → ¬ cn t = 12 → (0 < τ 12 0 → ch + 1 ≤ 200) → ∃ σ1 σ2, fn sc 110 [some (.inr (.inr 8)), some (.inl t), some (.inr (.inr 32)), none] (CD σ f' xA) none σ1 ∧ fn sc 46 [some (.inr (.inr 1)), some (.inl 1)] σ1 none σ2 ∧ Q (.inl (some (.inl 1)), (92, [], σ2))) → (m = -1 → n = -1 → ¬ o = -1 → (0 < τ 12 0 → ch + 1 ≤ 200) → ∃ σ1 σ2, fn sc 111 [some (.inr (.inr 8)), some (.inl t), some (.inl o), some (.inr (.inr 32)), none] (CD σ f' xA) none σ1 ∧ fn sc 46 [some (.inr (.inr 1)), some (.inl 1)] σ1 none σ2 ∧ Q (.inl (some (.inl 1)), (92, [], σ2))) → ai_wp sc 43 0 [some (.inr (.inr 1)), some (.inl t), some (.inl o), some (.inl r), none] [] (0, 0) (92, [], CD σ f' xA) Q) → fn sc 43 [some (.inr (.inr 1)), some (.inl t), some (.inl o), some (.inl r), none] (CD σ f' xA) (some (.inl 0)) (up (CD σ f' xA) 27 (wy ((CD σ f' xA) 27) a t r q))) → (∀ σ, RT τ cn ce nu y md ch σ → ∀ g k', (∀ Q : ai_O → Prop, (¬ m = -1 → Q (.inl (some (.inl 0)), (92, [], up (BD σ g k') 85 (wy ((BD σ g k') 85) 1 t r m)))) → (m = -1 → ¬ n = -1 → Q (.inl (some (.inl 0)), (92, [], up (BD σ g k') 85 (wy ((BD σ g k') 85) 3 t r n)))) → (m = -1 → n = -1 → o = -1 → cn t = 12 → Q (.inl (some (.inl 0)), (92, [], up (BD σ g k') 85 (wy ((BD σ g k') 85) 6 t r (-1))))) → (m = -1 → n = -1 → ¬ (o = -1 ∧ cn t = 12) → 0 < τ 12 0 → 200 < ch + 1 → Q (.inl (some (.inl 0)), (92, [], up (BD σ g k') 85 (wy ((BD σ g k') 85) 7 t r (-1))))) → (m = -1 → n = -1 → ¬ (o = -1 ∧ cn t = 12) → (0 < τ 12 0 → ch + 1 ≤ 200) → ∃ σ1, fn sc 163 [some (.inr (.inr 59)), some (.inl t), some (.inl o), none, none] (ai_set (ai_set (BD σ g k') 59 14 (σ 59 14 + 1)) 59 37 (σ 59 37 + 1)) none σ1 ∧ Q (.inl (some (.inl 1)), (92, [], σ1))) → ai_wp sc 167 0 [some (.inr (.inr 59)), some (.inl op), some (.inl t), some (.inl s), some (.inl r), none, none] [] (0, 0) (92, [], σ) Q) → fn sc 167 [some (.inr (.inr 59)), some (.inl op), some (.inl t), some (.inl s), some (.inl r), none, none] σ (some (.inl 0)) (up (BD σ g k') 85 (wy ((BD σ g k') 85) a t r q))) → ∃ b cn' ce' nu' y' md' ch', okO τ 1 b cn' ce' nu' y' md md' ch' ∧ SmC sc τ 40 [some (.inr (.inr 1)), some (.inl op), some (.inr (.inr 50)), some (.inl r), none, none] cn ce nu y md ch b cn' ce' nu' y' md' ch' ∧ SmR sc τ 167 [some (.inr (.inr 59)), some (.inl op), some (.inl t), some (.inl s), some (.inl r), none, none] cn ce nu y md ch b cn' ce' nu' y' md' ch' := by
            intro a q ha hq hc1 hr1
            refine ⟨0, cn, ce, nu, wy y a t r q, md, ch, okF a q ha hq, fun σ h => ?_, fun σ h => ?_⟩
            · obtain ⟨f', i1, i2, i3⟩ := cP σ h
              obtain ⟨u1, u2⟩ := ct_cd (f := f') (x := xA) h hxA
              obtain ⟨u3, u4⟩ := ct_fail (a := a) (b := t) (c := r) (d := q) u1
              exact ⟨_, i2 0 _ (Or.inl rfl) (hc1 σ h f' i3), u3, kpC_trans u2 u4⟩
            · obtain ⟨g, k', i1, i2, i3⟩ := rP σ h
              obtain ⟨u1, u2⟩ := rt_bd (g := g) (k := k') h
              obtain ⟨u3, u4⟩ := rt_fail (a := a) (b := t) (c := r) (d := q) u1
              exact ⟨_, hr1 σ h g k' i3, u3, kpR_trans u2 u4⟩
          by_cases hm1 : m = -1
          · by_cases hn1 : n = -1
            · by_cases hfull : o = -1 ∧ cn t = 12
              · exact FL 6 (-1) ⟨by decide, by decide⟩ rm1 (fun σ h f' H Q hQ => H Q (fun z => absurd hm1 z) (fun _ z => absurd hn1 z) (fun _ _ _ _ => hQ) (fun _ _ z => absurd hfull z) (fun _ _ _ z => absurd hfull.2 z) (fun _ _ z => absurd hfull.1 z)) (fun σ h g k' H Q hQ => H Q (fun z => absurd hm1 z) (fun _ z => absurd hn1 z) (fun _ _ _ _ => hQ) (fun _ _ z => absurd hfull z) (fun _ _ z => absurd hfull z))
              · by_cases hL : 0 < τ 12 0 ∧ 200 < ch + 1
                · exact FL 7 (-1) ⟨by decide, by decide⟩ rm1 (fun σ h f' H Q hQ => H Q (fun z => absurd hm1 z) (fun _ z => absurd hn1 z) (fun _ _ z1 z2 => absurd ⟨z1, z2⟩ hfull) (fun _ _ _ _ _ => hQ) (fun _ _ _ _ z => absurd (z hL.1) (by omega)) (fun _ _ _ z => absurd (z hL.1) (by omega))) (fun σ h g k' H Q hQ => H Q (fun z => absurd hm1 z) (fun _ z => absurd hn1 z) (fun _ _ z1 z2 => absurd ⟨z1, z2⟩ hfull) (fun _ _ _ _ _ => hQ) (fun _ _ _ z => absurd (z hL.1) (by omega)))
                · have href : rowRef (τ 4) (τ 6) cn ce t fA xA := by
                    intro c c1 c2 c3 c4
                    have z : ¬ Orp (τ 6) cn ce t xA fA c := by
                      rcases hni with ⟨_, z⟩ | ⟨z, _⟩
                      · exact z c c1 c2
                      · omega
                    rcases Classical.em (τ 6 (5 * t + c) = t ∧ fA c = fA 0) with y1 | y1
                    · exact Or.inl y1
                    · rcases Classical.em (kin cn ce (τ 6 (5 * t + c)) (fA c)) with y2 | y2
                      · exact Or.inr y2
                      · exact absurd ⟨c3, c4, y1, y2⟩ z
                  have hch1 : 0 < τ 12 0 → 0 ≤ ch + 1 ∧ ch + 1 ≤ 200 := fun q => by
                    have := hch q
                    omega
                  by_cases ho1 : o = -1
                  · -- a new row
                    have hn12 : cn t < 12 := by
                      have := (k1 t).2
                      have : ¬ cn t = 12 := fun z => hfull ⟨ho1, z⟩
                      omega
                    obtain ⟨p, hp⟩ := isPos_total (n := cn t) (key := fun q => ce (60 * t + 5 * q)) (x := fA 0) (k1 t).1
                    have hnew : ∀ q, 0 ≤ q → q < cn t → ¬ ce (60 * t + 5 * q) = fA 0 := fun q y1 y2 => by
                      rw [fA0]
                      rcases ho with ⟨_, z⟩ | ⟨z, _⟩
                      · exact z q y1 y2
                      · omega
                    have hpr := hp.1
                    refine ⟨1, _, _, _, y, md + 1, ch + 1, ⟨Or.inr rfl, GS_in hG s11 s8 s2.2 ⟨g1b, g1c⟩ hn12 hp hnew hok href, hy, hch1, by omega, by omega⟩, fun σ h => ?_, fun σ h => ?_⟩
                    · obtain ⟨f', i1, i2, i3⟩ := cP σ h
                      obtain ⟨c9, c10, c11, c27⟩ := h.2.1
                      obtain ⟨u1, u2⟩ := ct_cd (f := f') (x := xA) h hxA
                      have ei : KS (CD σ f' xA) cn ce nu = CD σ f' xA := by rw [← c9, ← c10, ← c11]; exact ks_id (σ := CD σ f' xA)
                      have e0 : f' 0 = fA 0 := i1 0 (by decide) (by decide)
                      have w1 := cf_insert (sc := sc) (σ := CD σ f' xA) (cn := cn) (ce := ce) (nu := nu) (t := t) (r := p) ht5 ⟨(k1 t).1, hn12⟩ h8 (show ai_r8 (f' 0) by rw [e0]; exact hfA8 0 (by decide) (by decide)) (show isPos (cn t) (fun q => ce (60 * t + 5 * q)) (f' 0) p by rw [e0]; exact hp)
                      rw [ei, show (CD σ f' xA) 33 = f' from rfl, show (CD σ f' xA) 32 1 = xA from rfl, cpf_congr i1] at w1
                      obtain ⟨u3, u4⟩ := ct_store (cn' := fun k => if k = t then cn t + 1 else cn k) (ce' := cpf (shf ce (60 * t) p (cn t)) fA (60 * t + 5 * p) 5) (nu' := fun q => if q = 12 * t + p then xA else shn nu (12 * t) p (cn t) q) u1
                      obtain ⟨u5, u6⟩ := ct_note (n := 1) hO3.1 u3
                      exact ⟨_, i2 1 _ (Or.inr rfl) (fun Q hQ => i3 Q (fun z => absurd hm1 z) (fun _ z => absurd hn1 z) (fun _ _ z1 z2 => absurd ⟨z1, z2⟩ hfull) (fun _ _ _ z1 z2 => absurd ⟨z1, z2⟩ hL) (fun _ _ _ _ _ => ⟨_, _, w1, cf_note (by rw [u3.1.2]; exact hO3), hQ⟩) (fun _ _ z => absurd ho1 z)), u5, kpC_trans (kpC_trans u2 u4) u6⟩
                    · obtain ⟨g, k', i1, i2, i3⟩ := rP σ h
                      obtain ⟨c9, c10, _⟩ := fR σ h
                      obtain ⟨u1, u2⟩ := rt_bd (g := g) (k := k') h
                      obtain ⟨u3, u4⟩ := rt_log (n := 1) u1
                      have e0 : g 0 = fA 0 := i1 0 (by decide) (by decide)
                      have w1 := rf_insert (sc := sc) (σ := ai_set (ai_set (BD σ g k') 59 14 (σ 59 14 + 1)) 59 37 (σ 59 37 + 1)) (mn := σ 64) (vl := σ 65) (no := σ 66) (t := t) (r := p) ht5 (by rw [c9]; exact ⟨(k1 t).1, hn12⟩) (by rw [c10]; exact h8) (show ai_r8 (g 0) by rw [e0]; exact hfA8 0 (by decide) (by decide)) (fun c y1 y2 => (show 0 ≤ k' c ∧ k' c ≤ 1 by rw [i2 c y1 y2]; exact bi_01 _)) (no01 h.2.1) (show isPos (σ 64 t) (fun q => σ 65 (60 * t + 5 * q)) (g 0) p by rw [c9, c10, e0]; exact hp)
                      have ei : ZS (ai_set (ai_set (BD σ g k') 59 14 (σ 59 14 + 1)) 59 37 (σ 59 37 + 1)) (σ 64) (σ 65) (σ 66) = ai_set (ai_set (BD σ g k') 59 14 (σ 59 14 + 1)) 59 37 (σ 59 37 + 1) := zs_id (σ := ai_set (ai_set (BD σ g k') 59 14 (σ 59 14 + 1)) 59 37 (σ 59 37 + 1))
                      rw [ei, show (ai_set (ai_set (BD σ g k') 59 14 (σ 59 14 + 1)) 59 37 (σ 59 37 + 1)) 86 = g from rfl, show (ai_set (ai_set (BD σ g k') 59 14 (σ 59 14 + 1)) 59 37 (σ 59 37 + 1)) 87 = k' from rfl] at w1
                      have he : EqS (fun k => if k = t then cn t + 1 else cn k) (cpf (shf ce (60 * t) p (cn t)) fA (60 * t + 5 * p) 5) (fun q => if q = 12 * t + p then xA else shn nu (12 * t) p (cn t) q) (fun k => if k = t then σ 64 t + 1 else σ 64 k) (cpf (shf (σ 65) (60 * t) p (σ 64 t)) g (60 * t + 5 * p) 5) (cpf (shf (σ 66) (60 * t) p (σ 64 t)) k' (60 * t + 5 * p) 5) := by
                        rw [c9, c10, cpf_congr i1]
                        exact ⟨rfl, rfl, no_shift ht5 hpr hn12 h.2.1.2.2 i2⟩
                      obtain ⟨u5, u6⟩ := rt_store u3 he
                      refine ⟨_, fun Q hQ => i3 Q (fun z => absurd hm1 z) (fun _ z => absurd hn1 z) (fun _ _ z1 z2 => absurd ⟨z1, z2⟩ hfull) (fun _ _ _ z1 z2 => absurd ⟨z1, z2⟩ hL) (fun _ _ _ _ => ⟨_, ?_, hQ⟩), u5, kpR_trans (kpR_trans u2 u4) u6⟩
                      rw [ho1]
                      exact w1
                  · -- over the row that is there
                    obtain ⟨z1, z2⟩ := hoc ho1
                    refine ⟨1, cn, _, _, y, md + 1, ch + 1, ⟨Or.inr rfl, GS_over hG s11 s8 s2.2 ⟨g1b, g1c⟩ z1 (fA0.trans z2.symm) hok href, hy, hch1, by omega, by omega⟩, fun σ h => ?_, fun σ h => ?_⟩
                    · obtain ⟨f', i1, i2, i3⟩ := cP σ h
                      obtain ⟨c9, c10, c11, c27⟩ := h.2.1
                      obtain ⟨u1, u2⟩ := ct_cd (f := f') (x := xA) h hxA
                      have ei : KS (CD σ f' xA) cn ce nu = CD σ f' xA := by rw [← c9, ← c10, ← c11]; exact ks_id (σ := CD σ f' xA)
                      have w1 := cf_replace (sc := sc) (σ := CD σ f' xA) (cn := cn) (ce := ce) (nu := nu) (t := t) (i := o) ht5 (ho12.resolve_left ho1)
                      rw [ei, show (CD σ f' xA) 33 = f' from rfl, show (CD σ f' xA) 32 1 = xA from rfl, cpf_congr i1] at w1
                      obtain ⟨u3, u4⟩ := ct_store (cn' := cn) (ce' := cpf ce fA (60 * t + 5 * o) 5) (nu' := fun q => if q = 12 * t + o then xA else nu q) u1
                      obtain ⟨u5, u6⟩ := ct_note (n := 1) hO3.1 u3
                      exact ⟨_, i2 1 _ (Or.inr rfl) (fun Q hQ => i3 Q (fun z => absurd hm1 z) (fun _ z => absurd hn1 z) (fun _ _ z => absurd z ho1) (fun _ _ _ z1 z2 => absurd ⟨z1, z2⟩ hL) (fun _ _ z => absurd z ho1) (fun _ _ _ _ => ⟨_, _, w1, cf_note (by rw [u3.1.2]; exact hO3), hQ⟩)), u5, kpC_trans (kpC_trans u2 u4) u6⟩
                    · obtain ⟨g, k', i1, i2, i3⟩ := rP σ h
                      obtain ⟨c9, c10, _⟩ := fR σ h
                      obtain ⟨u1, u2⟩ := rt_bd (g := g) (k := k') h
                      obtain ⟨u3, u4⟩ := rt_log (n := 1) u1
                      have w1 := rf_over (sc := sc) (σ := ai_set (ai_set (BD σ g k') 59 14 (σ 59 14 + 1)) 59 37 (σ 59 37 + 1)) (mn := σ 64) (vl := σ 65) (no := σ 66) (t := t) (r := o) ht5 (ho12.resolve_left ho1) (fun c y1 y2 => (show 0 ≤ k' c ∧ k' c ≤ 1 by rw [i2 c y1 y2]; exact bi_01 _))
                      have ei : ZS (ai_set (ai_set (BD σ g k') 59 14 (σ 59 14 + 1)) 59 37 (σ 59 37 + 1)) (σ 64) (σ 65) (σ 66) = ai_set (ai_set (BD σ g k') 59 14 (σ 59 14 + 1)) 59 37 (σ 59 37 + 1) := zs_id (σ := ai_set (ai_set (BD σ g k') 59 14 (σ 59 14 + 1)) 59 37 (σ 59 37 + 1))
                      rw [ei, show (ai_set (ai_set (BD σ g k') 59 14 (σ 59 14 + 1)) 59 37 (σ 59 37 + 1)) 86 = g from rfl, show (ai_set (ai_set (BD σ g k') 59 14 (σ 59 14 + 1)) 59 37 (σ 59 37 + 1)) 87 = k' from rfl] at w1
                      have he : EqS cn (cpf ce fA (60 * t + 5 * o) 5) (fun q => if q = 12 * t + o then xA else nu q) (σ 64) (cpf (σ 65) g (60 * t + 5 * o) 5) (cpf (σ 66) k' (60 * t + 5 * o) 5) := by
                        rw [c10, cpf_congr i1]
                        exact ⟨c9, rfl, no_over ht5 (ho12.resolve_left ho1) h.2.1.2.2 i2⟩
                      obtain ⟨u5, u6⟩ := rt_store u3 he
                      exact ⟨_, fun Q hQ => i3 Q (fun z => absurd hm1 z) (fun _ z => absurd hn1 z) (fun _ _ z => absurd z ho1) (fun _ _ _ z1 z2 => absurd ⟨z1, z2⟩ hL) (fun _ _ _ _ => ⟨_, w1, hQ⟩), u5, kpR_trans (kpR_trans u2 u4) u6⟩
            · exact FL 3 n ⟨by decide, by decide⟩ ⟨by omega, by omega⟩ (fun σ h f' H Q hQ => H Q (fun z => absurd hm1 z) (fun _ _ => hQ) (fun _ z => absurd z hn1) (fun _ z => absurd z hn1) (fun _ z => absurd z hn1) (fun _ z => absurd z hn1)) (fun σ h g k' H Q hQ => H Q (fun z => absurd hm1 z) (fun _ _ => hQ) (fun _ z => absurd z hn1) (fun _ z => absurd z hn1) (fun _ z => absurd z hn1))
          · exact FL 1 m ⟨by decide, by decide⟩ ⟨by omega, by omega⟩ (fun σ h f' H Q hQ => H Q (fun _ => hQ) (fun z => absurd z hm1) (fun z => absurd z hm1) (fun z => absurd z hm1) (fun z => absurd z hm1) (fun z => absurd z hm1)) (fun σ h g k' H Q hQ => H Q (fun _ => hQ) (fun z => absurd z hm1) (fun z => absurd z hm1) (fun z => absurd z hm1) (fun z => absurd z hm1))
