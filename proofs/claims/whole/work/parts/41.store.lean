/-! THE STORE: rows put in, put over, taken out; class and reference. -/
theorem up_cpy {σ : ai_S} {p : Nat} {f : Int → Int} {a b n : Int} : ai_cpy (up σ p f) p p a b n = up σ p (fun j => if b ≤ j ∧ j < b + n then f (a + (j - b)) else f j) := by
  funext r j
  by_cases h : r = p
  · subst h
    simp [ai_cpy, up]
  · simp [ai_cpy, up, h]
theorem cpy_up {σ : ai_S} {p q : Nat} {f : Int → Int} {a b n : Int} (hpq : p ≠ q) : ai_cpy (up σ q f) p q a b n = up σ q (fun j => if b ≤ j ∧ j < b + n then σ p (a + (j - b)) else f j) := by
  funext r j
  by_cases h : r = q
  · subst h
    simp [ai_cpy, up, hpq]
  · simp [ai_cpy, up, h]
/-- the rows from r on stand one further -/
def shf (f : Int → Int) (a r n : Int) : Int → Int := fun j => if a + 5 * r + 5 ≤ j ∧ j < a + 5 * n + 5 then f (j - 5) else f j
def shn (f : Int → Int) (b r n : Int) : Int → Int := fun q => if b + r + 1 ≤ q ∧ q < b + n + 1 then f (q - 1) else f q
/-- where a key goes in -/
def isPos (n : Int) (key : Int → Int) (x r : Int) : Prop := (0 ≤ r ∧ r ≤ n) ∧ (∀ q, r ≤ q → q < n → x < key q) ∧ (r = 0 ∨ key (r - 1) ≤ x)
theorem isPos_unique {n : Int} {key : Int → Int} {x r s : Int} (h : isPos n key x r) (g : isPos n key x s) : r = s := by
  obtain ⟨h1, h2, h3⟩ := h
  obtain ⟨g1, g2, g3⟩ := g
  have a1 : ¬ r < s := fun q => by
    rcases g3 with z | z
    · omega
    · have := h2 (s - 1) (by omega) (by omega)
      omega
  have a2 : ¬ s < r := fun q => by
    rcases h3 with z | z
    · omega
    · have := g2 (r - 1) (by omega) (by omega)
      omega
  omega
theorem isPos_total {n : Int} {key : Int → Int} {x : Int} (hn : 0 ≤ n) : ∃ r, isPos n key x r := by
  have h : ∀ (m : Nat) (v : Int), 0 ≤ v ∧ v ≤ n → v.toNat = m → (∀ q, v ≤ q → q < n → x < key q) → ∃ r, isPos n key x r := by
    intro m
    induction m with
    | zero => exact fun v hv hm hq => ⟨v, hv, hq, Or.inl (by omega)⟩
    | succ m ih =>
      intro v hv hm hq
      by_cases hk : key (v - 1) ≤ x
      · exact ⟨v, hv, hq, Or.inr hk⟩
      · refine ih (v - 1) (by omega) (by omega) (fun q q1 q2 => ?_)
        by_cases e : q = v - 1
        · rw [e]
          omega
        · exact hq q (by omega) q2
  exact h n.toNat n ⟨hn, Int.le_refl n⟩ rfl (fun q q1 q2 => absurd q2 (by omega))
/-- the class's store, with its rows as they stand -/
def KS (σ : ai_S) (cn ce nu : Int → Int) : ai_S := up (up (up σ 9 cn) 10 ce) 11 nu
theorem cf_move {sc : Int × (Int → Int)} {σ : ai_S} {cn ce nu : Int → Int} {t i j : Int} (ht : 0 ≤ t ∧ t < 5) (hi : 0 ≤ i ∧ i < 12) (hj : 0 ≤ j ∧ j < 12) : fn sc 114 [some (.inr (.inr 8)), some (.inl t), some (.inl i), some (.inl j), none, none] (KS σ cn ce nu) none (KS σ cn (fun k => if 60 * t + 5 * j ≤ k ∧ k < 60 * t + 5 * j + 5 then ce (60 * t + 5 * i + (k - (60 * t + 5 * j))) else ce k) (fun q => if q = 12 * t + j then nu (12 * t + i) else nu q)) := by
  intro Q hQ
  refine rb_114_0 ⟨⟨by omega, by omega, by decide, by omega, by omega⟩, ⟨by omega, by omega⟩, ⟨by omega, by omega⟩, ?_⟩
  have e : ai_set (ai_cpy (KS σ cn ce nu) 10 10 (((t * 12) + i) * 5) (((t * 12) + j) * 5) 5) 11 ((t * 12) + j) (KS σ cn ce nu 11 ((t * 12) + i)) = KS σ cn (fun k => if 60 * t + 5 * j ≤ k ∧ k < 60 * t + 5 * j + 5 then ce (60 * t + 5 * i + (k - (60 * t + 5 * j))) else ce k) (fun q => if q = 12 * t + j then nu (12 * t + i) else nu q) := by
    have e1 : ((t * 12) + i) * 5 = 60 * t + 5 * i := by omega
    have e2 : ((t * 12) + j) * 5 = 60 * t + 5 * j := by omega
    have e3 : (t * 12) + j = 12 * t + j := by omega
    have e4 : (t * 12) + i = 12 * t + i := by omega
    rw [e1, e2, e3, e4]
    funext r k
    by_cases h11 : r = 11
    · subst h11
      rfl
    · by_cases h10 : r = 10
      · subst h10
        rfl
      · by_cases h9 : r = 9
        · subst h9
          rfl
        · simp [KS, up, ai_set, ai_cpy, h11, h10, h9]
  rw [e]
  exact hQ
theorem cf_replace {sc : Int × (Int → Int)} {σ : ai_S} {cn ce nu : Int → Int} {t i : Int} (ht : 0 ≤ t ∧ t < 5) (hi : 0 ≤ i ∧ i < 12) : fn sc 111 [some (.inr (.inr 8)), some (.inl t), some (.inl i), some (.inr (.inr 32)), none] (KS σ cn ce nu) none (KS σ cn (cpf ce (σ 33) (60 * t + 5 * i) 5) (fun q => if q = 12 * t + i then σ 32 1 else nu q)) := by
  intro Q hQ
  refine rb_111_0 ⟨⟨by decide, by omega, by decide, by decide, by omega⟩, ⟨by omega, by omega⟩, ?_⟩
  have e : ai_set (ai_cpy (KS σ cn ce nu) 33 10 0 (((t * 12) + i) * 5) 5) 11 ((t * 12) + i) (KS σ cn ce nu 32 1) = KS σ cn (cpf ce (σ 33) (60 * t + 5 * i) 5) (fun q => if q = 12 * t + i then σ 32 1 else nu q) := by
    have e2 : ((t * 12) + i) * 5 = 60 * t + 5 * i := by omega
    have e3 : (t * 12) + i = 12 * t + i := by omega
    rw [e2, e3]
    funext r k
    by_cases h11 : r = 11
    · subst h11
      rfl
    · by_cases h10 : r = 10
      · subst h10
        show (if 60 * t + 5 * i ≤ k ∧ k < 60 * t + 5 * i + 5 then σ 33 (0 + (k - (60 * t + 5 * i))) else ce k) = (if 60 * t + 5 * i ≤ k ∧ k < 60 * t + 5 * i + 5 then σ 33 (k - (60 * t + 5 * i)) else ce k)
        rw [Int.zero_add]
      · by_cases h9 : r = 9
        · subst h9
          rfl
        · simp [KS, up, ai_set, ai_cpy, h11, h10, h9]
  rw [e]
  exact hQ
theorem cf_insert {sc : Int × (Int → Int)} {σ : ai_S} {cn ce nu : Int → Int} {t r : Int} (ht : 0 ≤ t ∧ t < 5) (hn : 0 ≤ cn t ∧ cn t < 12) (h8 : ∀ j, ai_r8 (ce j)) (hk8 : ai_r8 (σ 33 0)) (hr : isPos (cn t) (fun q => ce (60 * t + 5 * q)) (σ 33 0) r) : fn sc 110 [some (.inr (.inr 8)), some (.inl t), some (.inr (.inr 32)), none] (KS σ cn ce nu) none (KS σ (fun k => if k = t then cn t + 1 else cn k) (cpf (shf ce (60 * t) r (cn t)) (σ 33) (60 * t + 5 * r) 5) (fun q => if q = 12 * t + r then σ 32 1 else shn nu (12 * t) r (cn t) q)) := by
  intro Q hQ
  have hset : ∀ (E N : Int → Int), ai_set (KS σ cn E N) 9 t (cn t + 1) = KS σ (fun k => if k = t then cn t + 1 else cn k) E N := by
    intro E N
    unfold KS
    rw [up_c (p := 11) (q := 9) (by decide), up_c (p := 10) (q := 9) (by decide), up_s]
  have h : ∀ (m : Nat) (v : Int), 0 ≤ v ∧ v ≤ cn t → v.toNat = m → (∀ q, v ≤ q → q < cn t → σ 33 0 < ce (60 * t + 5 * q)) → ai_wp sc 110 9 [some (.inr (.inr 8)), some (.inl t), some (.inr (.inr 32)), some (.inl v)] [] (0, 0) (92, [], KS σ cn (shf ce (60 * t) v (cn t)) (shn nu (12 * t) v (cn t))) Q := by
    intro m
    induction m with
    | zero =>
      intro v hv hm hq
      have e0 : v = 0 := by omega
      have er : r = v := isPos_unique hr ⟨hv, hq, Or.inl e0⟩
      subst er
      refine rb_110_9 ⟨⟨by omega, by omega⟩, fun _ => ⟨ht, ht, ?_⟩, fun g => absurd (show r ≤ 0 by omega) g⟩
      show ai_ret (ai_wp sc) 111 _ (92, [], ai_set (KS σ cn _ _) 9 t (cn t + 1)) _
      rw [hset]
      exact fn_ret (cf_replace ht ⟨by omega, by omega⟩) (rb_110_46 hQ)
    | succ m ih =>
      intro v hv hm hq
      have ec : shf ce (60 * t) v (cn t) ((((t * 12) + (v - 1)) * 5) + 0) = ce (60 * t + 5 * (v - 1)) := by
        rw [show (((t * 12) + (v - 1)) * 5) + 0 = 60 * t + 5 * (v - 1) by omega]
        exact if_neg (by omega)
      refine rb_110_9 ⟨⟨by omega, by omega⟩, fun g => absurd g (by omega), fun _ => ai_ret_q (pc_106 ⟨by omega, by omega⟩ (ai_k_in ?_))⟩
      show ai_wp sc 110 18 _ [.inr (.inl (shf ce (60 * t) v (cn t) ((((t * 12) + (v - 1)) * 5) + 0)))] (0, 0) _ Q
      rw [ec]
      refine rb_110_18 ⟨⟨by decide, by decide⟩, ⟨h8 _, hk8⟩, cmp_r _ _, fun g => ⟨ht, ht, ?_⟩, fun g => ?_⟩
      · have g2 := cmp_le.mp g
        have er : r = v := isPos_unique hr ⟨hv, hq, Or.inr g2⟩
        subst er
        show ai_ret (ai_wp sc) 111 _ (92, [], ai_set (KS σ cn _ _) 9 t (cn t + 1)) _
        rw [hset]
        exact fn_ret (cf_replace ht ⟨by omega, by omega⟩) (rb_110_46 hQ)
      · have g2 : ¬ ce (60 * t + 5 * (v - 1)) ≤ σ 33 0 := mt cmp_le.mpr g
        have hmv := cf_move (sc := sc) (σ := σ) (cn := cn) (ce := shf ce (60 * t) v (cn t)) (nu := shn nu (12 * t) v (cn t)) (t := t) (i := v - 1) (j := v) ht ⟨by omega, by omega⟩ ⟨by omega, by omega⟩
        have e1 : (fun k => if 60 * t + 5 * v ≤ k ∧ k < 60 * t + 5 * v + 5 then shf ce (60 * t) v (cn t) (60 * t + 5 * (v - 1) + (k - (60 * t + 5 * v))) else shf ce (60 * t) v (cn t) k) = shf ce (60 * t) (v - 1) (cn t) := by
          funext k
          unfold shf
          by_cases a1 : 60 * t + 5 * v ≤ k ∧ k < 60 * t + 5 * v + 5
          · rw [if_pos a1, if_neg (by omega), if_pos (by omega), show 60 * t + 5 * (v - 1) + (k - (60 * t + 5 * v)) = k - 5 by omega]
          · rw [if_neg a1]
            by_cases a2 : 60 * t + 5 * v + 5 ≤ k ∧ k < 60 * t + 5 * cn t + 5
            · rw [if_pos a2, if_pos (by omega)]
            · rw [if_neg a2, if_neg (by omega)]
        have e2 : (fun q => if q = 12 * t + v then shn nu (12 * t) v (cn t) (12 * t + (v - 1)) else shn nu (12 * t) v (cn t) q) = shn nu (12 * t) (v - 1) (cn t) := by
          funext q
          unfold shn
          by_cases a1 : q = 12 * t + v
          · rw [if_pos a1, if_neg (by omega), if_pos (by omega), show q - 1 = 12 * t + (v - 1) by omega]
          · rw [if_neg a1]
            by_cases a2 : 12 * t + v + 1 ≤ q ∧ q < 12 * t + cn t + 1
            · rw [if_pos a2, if_pos (by omega)]
            · rw [if_neg a2, if_neg (by omega)]
        rw [e1, e2] at hmv
        refine fn_ret hmv (rb_110_31 ?_)
        rw [show v + (-1) = v - 1 by omega]
        refine ih (v - 1) (by omega) (by omega) (fun q q1 q2 => ?_)
        by_cases e : q = v - 1
        · rw [e]
          omega
        · exact hq q (by omega) q2
  have e0 : KS σ cn ce nu = KS σ cn (shf ce (60 * t) (cn t) (cn t)) (shn nu (12 * t) (cn t) (cn t)) := by
    have a1 : shf ce (60 * t) (cn t) (cn t) = ce := by
      funext k
      exact if_neg (by omega)
    have a2 : shn nu (12 * t) (cn t) (cn t) = nu := by
      funext k
      exact if_neg (by omega)
    rw [a1, a2]
  refine rb_110_0 ⟨ht, ⟨(show ai_r (cn t) from ⟨by omega, by omega⟩), ⟨by decide, by decide⟩⟩, fun _ => ?_, fun g => absurd (show cn t < 12 from hn.2) g⟩
  show ai_wp sc 110 9 [some (.inr (.inr 8)), some (.inl t), some (.inr (.inr 32)), some (.inl (cn t))] [] (0, 0) (92, [], KS σ cn ce nu) Q
  rw [e0]
  exact h _ (cn t) ⟨hn.1, Int.le_refl _⟩ rfl (fun q q1 q2 => absurd q2 (by omega))
/-- the rows behind r stand one nearer, up to m -/
def del (f : Int → Int) (a m : Int) : Int → Int := fun j => if a ≤ j ∧ j < m then f (j + 5) else f j
def dln (f : Int → Int) (a m : Int) : Int → Int := fun j => if a ≤ j ∧ j < m then f (j + 1) else f j
theorem cf_remove {sc : Int × (Int → Int)} {σ : ai_S} {cn ce nu : Int → Int} {t r : Int} (ht : 0 ≤ t ∧ t < 5) (hn : cn t ≤ 12) (hr : 0 ≤ r ∧ r < cn t) : fn sc 112 [some (.inr (.inr 8)), some (.inl t), some (.inl r), none] (KS σ cn ce nu) none (KS σ (fun k => if k = t then cn t - 1 else cn k) (del ce (60 * t + 5 * r) (60 * t + 5 * (cn t - 1))) (dln nu (12 * t + r) (12 * t + (cn t - 1)))) := by
  intro Q hQ
  have h : ∀ (m : Nat) (v : Int) (x : Option ai_V), r + 1 ≤ v ∧ v ≤ cn t → (cn t - v).toNat = m → ai_wp sc 112 4 [some (.inr (.inr 8)), some (.inl t), x, some (.inl v)] [] (0, 0) (92, [], KS σ cn (del ce (60 * t + 5 * r) (60 * t + 5 * (v - 1))) (dln nu (12 * t + r) (12 * t + (v - 1)))) Q := by
    intro m
    induction m with
    | zero =>
      intro v x hv hm
      have ev : v = cn t := by omega
      subst ev
      refine rh_112_4 ⟨ht, ⟨⟨by omega, by omega⟩, (show ai_r (cn t) from ⟨by omega, by omega⟩)⟩, fun _ => ⟨ht, ht, ?_⟩, fun g => absurd (Int.le_refl (cn t)) g⟩
      show Q (.inl none, (92, [], ai_set (KS σ cn _ _) 9 t (cn t - 1)))
      unfold KS
      rw [up_c (p := 11) (q := 9) (by decide), up_c (p := 10) (q := 9) (by decide), up_s]
      exact hQ
    | succ m ih =>
      intro v x hv hm
      have hmv := cf_move (sc := sc) (σ := σ) (cn := cn) (ce := del ce (60 * t + 5 * r) (60 * t + 5 * (v - 1))) (nu := dln nu (12 * t + r) (12 * t + (v - 1))) (t := t) (i := v) (j := v - 1) ht ⟨by omega, by omega⟩ ⟨by omega, by omega⟩
      have e1 : (fun k => if 60 * t + 5 * (v - 1) ≤ k ∧ k < 60 * t + 5 * (v - 1) + 5 then del ce (60 * t + 5 * r) (60 * t + 5 * (v - 1)) (60 * t + 5 * v + (k - (60 * t + 5 * (v - 1)))) else del ce (60 * t + 5 * r) (60 * t + 5 * (v - 1)) k) = del ce (60 * t + 5 * r) (60 * t + 5 * (v + 1 - 1)) := by
        funext k
        unfold del
        by_cases a1 : 60 * t + 5 * (v - 1) ≤ k ∧ k < 60 * t + 5 * (v - 1) + 5
        · rw [if_pos a1, if_neg (by omega), if_pos (by omega), show 60 * t + 5 * v + (k - (60 * t + 5 * (v - 1))) = k + 5 by omega]
        · rw [if_neg a1]
          by_cases a2 : 60 * t + 5 * r ≤ k ∧ k < 60 * t + 5 * (v - 1)
          · rw [if_pos a2, if_pos (by omega)]
          · rw [if_neg a2, if_neg (by omega)]
      have e2 : (fun q => if q = 12 * t + (v - 1) then dln nu (12 * t + r) (12 * t + (v - 1)) (12 * t + v) else dln nu (12 * t + r) (12 * t + (v - 1)) q) = dln nu (12 * t + r) (12 * t + (v + 1 - 1)) := by
        funext q
        unfold dln
        by_cases a1 : q = 12 * t + (v - 1)
        · rw [if_pos a1, if_neg (by omega), if_pos (by omega), show q + 1 = 12 * t + v by omega]
        · rw [if_neg a1]
          by_cases a2 : 12 * t + r ≤ q ∧ q < 12 * t + (v - 1)
          · rw [if_pos a2, if_pos (by omega)]
          · rw [if_neg a2, if_neg (by omega)]
      rw [e1, e2] at hmv
      exact rh_112_4 ⟨ht, ⟨⟨by omega, by omega⟩, (show ai_r (cn t) from ⟨by omega, by omega⟩)⟩, fun g => absurd (show cn t ≤ v from g) (by omega), fun _ => fn_ret hmv (rb_112_17 (ih (v + 1) none (by omega) (by omega)))⟩
  have e0 : KS σ cn ce nu = KS σ cn (del ce (60 * t + 5 * r) (60 * t + 5 * (r + 1 - 1))) (dln nu (12 * t + r) (12 * t + (r + 1 - 1))) := by
    have a1 : del ce (60 * t + 5 * r) (60 * t + 5 * (r + 1 - 1)) = ce := by
      funext k
      exact if_neg (by omega)
    have a2 : dln nu (12 * t + r) (12 * t + (r + 1 - 1)) = nu := by
      funext k
      exact if_neg (by omega)
    rw [a1, a2]
  refine rb_112_0 ?_
  rw [e0]
  exact h _ (r + 1) _ ⟨Int.le_refl _, by omega⟩ rfl
/-- the reference's store, with its rows as they stand -/
def ZS (σ : ai_S) (mn vl no : Int → Int) : ai_S := up (up (up σ 64 mn) 65 vl) 66 no
theorem zs_set {σ : ai_S} {mn vl no : Int → Int} {j v b : Int} : ai_set (ai_set (ZS σ mn vl no) 65 j v) 66 j b = ZS σ mn (fun k => if k = j then v else vl k) (fun k => if k = j then b else no k) := by
  unfold ZS
  rw [up_c (p := 66) (q := 65) (by decide), up_s, up_s]
theorem zs_cnt {σ : ai_S} {mn vl no : Int → Int} {t v : Int} : ai_set (ZS σ mn vl no) 64 t v = ZS σ (fun k => if k = t then v else mn k) vl no := by
  unfold ZS
  rw [up_c (p := 66) (q := 64) (by decide), up_c (p := 65) (q := 64) (by decide), up_s]
theorem rf_rowput {sc : Int × (Int → Int)} {σ : ai_S} {Q : ai_O → Prop} {mn vl no : Int → Int} {t r : Int} (ht : 0 ≤ t ∧ t < 5) (hr : 0 ≤ r ∧ r < 12) (hb : ∀ c, 0 ≤ c → c < 5 → 0 ≤ σ 87 c ∧ σ 87 c ≤ 1) (hQ : Q (.inl none, (92, [], ZS σ mn (cpf vl (σ 86) (60 * t + 5 * r) 5) (cpf no (σ 87) (60 * t + 5 * r) 5)))) : ∀ x, ai_wp sc 163 88 [some (.inr (.inr 59)), some (.inl t), x, some (.inl r), some (.inl 0)] [] (0, 0) (92, [], ZS σ mn vl no) Q := by
  have h : ∀ (m : Nat) (c : Int) (x : Option ai_V), 0 ≤ c ∧ c ≤ 5 → (5 - c).toNat = m → ai_wp sc 163 88 [some (.inr (.inr 59)), some (.inl t), x, some (.inl r), some (.inl c)] [] (0, 0) (92, [], ZS σ mn (cpf vl (σ 86) (60 * t + 5 * r) c) (cpf no (σ 87) (60 * t + 5 * r) c)) Q := by
    intro m
    induction m with
    | zero =>
      intro c x hc hm
      have ec : c = 5 := by omega
      subst ec
      exact rh_163_88 ⟨⟨⟨by decide, by decide⟩, ⟨by decide, by decide⟩⟩, fun _ => hQ, fun g => absurd (by decide) g⟩
    | succ m ih =>
      intro c x hc hm
      refine rh_163_88 ⟨⟨⟨by omega, by omega⟩, ⟨by decide, by decide⟩⟩, fun g => absurd g (by omega), fun _ => ⟨⟨by omega, by omega⟩, ⟨by omega, by omega⟩, ⟨by omega, by omega⟩, ⟨by omega, by omega⟩, hb c hc.1 (by omega), ?_⟩⟩
      have h2 := ih (c + 1) none (by omega) (by omega)
      rw [← cpf_s hc.1, ← cpf_s hc.1] at h2
      rw [zs_set]
      exact h2
  intro x
  have h0 := h 5 0 x ⟨by decide, by decide⟩ (by decide)
  rw [cpf_0, cpf_0] at h0
  exact h0
theorem rf_over {sc : Int × (Int → Int)} {σ : ai_S} {mn vl no : Int → Int} {t r : Int} (ht : 0 ≤ t ∧ t < 5) (hr : 0 ≤ r ∧ r < 12) (hb : ∀ c, 0 ≤ c → c < 5 → 0 ≤ σ 87 c ∧ σ 87 c ≤ 1) : fn sc 163 [some (.inr (.inr 59)), some (.inl t), some (.inl r), none, none] (ZS σ mn vl no) none (ZS σ mn (cpf vl (σ 86) (60 * t + 5 * r) 5) (cpf no (σ 87) (60 * t + 5 * r) 5)) := by
  intro Q hQ
  exact rb_163_0 ⟨⟨⟨by omega, by omega⟩, ⟨by decide, by decide⟩⟩, fun _ => rf_rowput ht hr hb hQ _, fun g => absurd (show ¬ r = -1 by omega) g⟩
theorem rf_insert {sc : Int × (Int → Int)} {σ : ai_S} {mn vl no : Int → Int} {t r : Int} (ht : 0 ≤ t ∧ t < 5) (hn : 0 ≤ mn t ∧ mn t < 12) (h8 : ∀ j, ai_r8 (vl j)) (hk8 : ai_r8 (σ 86 0)) (hb : ∀ c, 0 ≤ c → c < 5 → 0 ≤ σ 87 c ∧ σ 87 c ≤ 1) (hno : ∀ j, 0 ≤ j → j < 300 → 0 ≤ no j ∧ no j ≤ 1) (hr : isPos (mn t) (fun q => vl (60 * t + 5 * q)) (σ 86 0) r) : fn sc 163 [some (.inr (.inr 59)), some (.inl t), some (.inl (-1)), none, none] (ZS σ mn vl no) none (ZS σ (fun k => if k = t then mn t + 1 else mn k) (cpf (shf vl (60 * t) r (mn t)) (σ 86) (60 * t + 5 * r) 5) (cpf (shf no (60 * t) r (mn t)) (σ 87) (60 * t + 5 * r) 5)) := by
  intro Q hQ
  have hr1 := hr.1
  -- the shift
  have hsh : ∀ (m : Nat) (v : Int), 60 * t + 5 * r + 4 ≤ v ∧ v ≤ 60 * t + 5 * mn t + 4 → (v - (60 * t + 5 * r + 4)).toNat = m → ai_wp sc 163 45 [some (.inr (.inr 59)), some (.inl t), none, some (.inl r), some (.inl v)] [] (0, 0) (92, [], ZS σ mn (fun j => if v < j ∧ j < 60 * t + 5 * mn t + 5 then vl (j - 5) else vl j) (fun j => if v < j ∧ j < 60 * t + 5 * mn t + 5 then no (j - 5) else no j)) Q := by
    intro m
    induction m with
    | zero =>
      intro v hv hm
      have ev : v = 60 * t + 5 * r + 4 := by omega
      refine rb_163_45 ⟨⟨⟨by omega, by omega⟩, ⟨by omega, by omega⟩⟩, fun _ => ⟨ht, ht, ?_⟩, fun g => absurd (show v < 60 * t + 5 * r + 5 by omega) g⟩
      show ai_wp sc 163 88 _ [] (0, 0) (92, [], ai_set (ZS σ mn _ _) 64 t (mn t + 1)) Q
      have e1 : ∀ f : Int → Int, (fun j => if v < j ∧ j < 60 * t + 5 * mn t + 5 then f (j - 5) else f j) = shf f (60 * t) r (mn t) := by
        intro f
        funext j
        unfold shf
        by_cases a1 : 60 * t + 5 * r + 5 ≤ j ∧ j < 60 * t + 5 * mn t + 5
        · rw [if_pos a1, if_pos (by omega)]
        · rw [if_neg a1, if_neg (by omega)]
      rw [zs_cnt, e1, e1]
      exact rf_rowput ht ⟨hr1.1, by omega⟩ hb hQ _
    | succ m ih =>
      intro v hv hm
      have hnv := hno (v - 5) (by omega) (by omega)
      have rd : ∀ f : Int → Int, (fun j => if v < j ∧ j < 60 * t + 5 * mn t + 5 then f (j - 5) else f j) (v - 5) = f (v - 5) := fun f => if_neg (by omega)
      have st : ∀ f : Int → Int, (fun k => if k = v then f (v - 5) else (fun j => if v < j ∧ j < 60 * t + 5 * mn t + 5 then f (j - 5) else f j) k) = (fun j => if v + (-1) < j ∧ j < 60 * t + 5 * mn t + 5 then f (j - 5) else f j) := by
        intro f
        funext k
        by_cases a1 : k = v
        · rw [if_pos a1, if_pos (by omega), a1]
        · rw [if_neg a1]
          show (if v < k ∧ k < 60 * t + 5 * mn t + 5 then f (k - 5) else f k) = _
          by_cases a2 : v < k ∧ k < 60 * t + 5 * mn t + 5
          · rw [if_pos a2, if_pos (by omega)]
          · rw [if_neg a2, if_neg (by omega)]
      refine rb_163_45 ⟨⟨⟨by omega, by omega⟩, ⟨by omega, by omega⟩⟩, fun g => absurd g (by omega), fun _ => ⟨⟨by omega, by omega⟩, ⟨by omega, by omega⟩, ⟨by omega, by omega⟩, ⟨by omega, by omega⟩, ?_, ?_⟩⟩
      · show 0 ≤ (fun j => if v < j ∧ j < 60 * t + 5 * mn t + 5 then no (j - 5) else no j) (v - 5) ∧ (fun j => if v < j ∧ j < 60 * t + 5 * mn t + 5 then no (j - 5) else no j) (v - 5) ≤ 1
        rw [rd]
        exact hnv
      · rw [zs_set]
        show ai_wp sc 163 45 _ [] (0, 0) (92, [], ZS σ mn (fun k => if k = v then (fun j => if v < j ∧ j < 60 * t + 5 * mn t + 5 then vl (j - 5) else vl j) (v - 5) else (fun j => if v < j ∧ j < 60 * t + 5 * mn t + 5 then vl (j - 5) else vl j) k) (fun k => if k = v then (fun j => if v < j ∧ j < 60 * t + 5 * mn t + 5 then no (j - 5) else no j) (v - 5) else (fun j => if v < j ∧ j < 60 * t + 5 * mn t + 5 then no (j - 5) else no j) k)) Q
        rw [rd, rd, st, st]
        exact ih (v + (-1)) (by omega) (by omega)
  have hend : ai_wp sc 163 45 [some (.inr (.inr 59)), some (.inl t), none, some (.inl r), some (.inl (((60 * t) + (5 * mn t)) + 4))] [] (0, 0) (92, [], ZS σ mn vl no) Q := by
    have e1 : ∀ f : Int → Int, f = (fun j => if ((60 * t) + (5 * mn t)) + 4 < j ∧ j < 60 * t + 5 * mn t + 5 then f (j - 5) else f j) := fun f => by
      funext j
      rw [if_neg (by omega)]
    rw [e1 vl, e1 no]
    exact hsh _ _ ⟨by omega, by omega⟩ rfl
  -- the place
  have hpos : ∀ (m : Nat) (v : Int) (x : Option ai_V), 0 ≤ v ∧ v ≤ mn t → v.toNat = m → (∀ q, v ≤ q → q < mn t → σ 86 0 < vl (60 * t + 5 * q)) → ai_wp sc 163 10 [some (.inr (.inr 59)), some (.inl t), x, some (.inl v), none] [] (0, 0) (92, [], ZS σ mn vl no) Q := by
    intro m
    induction m with
    | zero =>
      intro v x hv hm hq
      have e0 : v = 0 := by omega
      have er : r = v := isPos_unique hr ⟨hv, hq, Or.inl e0⟩
      subst er
      exact rh_163_10 ⟨⟨by omega, by omega⟩, fun _ => ⟨ht, hend⟩, fun g => absurd (show r ≤ 0 by omega) g⟩
    | succ m ih =>
      intro v x hv hm hq
      have e5 : ((60 * t) + (5 * v)) - 5 = 60 * t + 5 * (v - 1) := by omega
      refine rh_163_10 ⟨⟨by omega, by omega⟩, fun g => absurd g (by omega), fun _ => ⟨⟨by omega, by omega⟩, ⟨by decide, by decide⟩, ⟨h8 _, hk8⟩, cmp_r _ _, fun g => ⟨ht, ?_⟩, fun g => ?_⟩⟩
      · have g2 : vl (((60 * t) + (5 * v)) - 5) ≤ σ 86 0 := cmp_le.mp g
        rw [e5] at g2
        have er : r = v := isPos_unique hr ⟨hv, hq, Or.inr g2⟩
        subst er
        exact hend
      · have g2 : ¬ vl (((60 * t) + (5 * v)) - 5) ≤ σ 86 0 := mt cmp_le.mpr g
        rw [e5] at g2
        refine ih (v + (-1)) none (by omega) (by omega) (fun q q1 q2 => ?_)
        by_cases e : q = v - 1
        · rw [e]
          omega
        · exact hq q (by omega) q2
  exact rb_163_0 ⟨⟨⟨by decide, by decide⟩, ⟨by decide, by decide⟩⟩, fun g => absurd rfl g, fun _ => ⟨ht, hpos _ (mn t) _ ⟨hn.1, Int.le_refl _⟩ rfl (fun q q1 q2 => absurd q2 (by omega))⟩⟩
theorem rf_remove {sc : Int × (Int → Int)} {σ : ai_S} {mn vl no : Int → Int} {t r : Int} (ht : 0 ≤ t ∧ t < 5) (hn : mn t ≤ 12) (hr : 0 ≤ r ∧ r < mn t) (hno : ∀ j, 0 ≤ j → j < 300 → 0 ≤ no j ∧ no j ≤ 1) : fn sc 162 [some (.inr (.inr 59)), some (.inl t), some (.inl r), none] (ZS σ mn vl no) none (ZS σ (fun k => if k = t then mn t - 1 else mn k) (del vl (60 * t + 5 * r) (60 * t + 5 * (mn t - 1))) (del no (60 * t + 5 * r) (60 * t + 5 * (mn t - 1)))) := by
  intro Q hQ
  have ecnt : (fun k => if k = t then mn t - 1 else mn k) t = mn t - 1 := if_pos rfl
  have h : ∀ (m : Nat) (v : Int) (x : Option ai_V), 60 * t + 5 * r ≤ v ∧ v ≤ 60 * t + 5 * (mn t - 1) → (60 * t + 5 * (mn t - 1) - v).toNat = m → ai_wp sc 162 16 [some (.inr (.inr 59)), some (.inl t), x, some (.inl v)] [] (0, 0) (92, [], ZS σ (fun k => if k = t then mn t - 1 else mn k) (del vl (60 * t + 5 * r) v) (del no (60 * t + 5 * r) v)) Q := by
    intro m
    induction m with
    | zero =>
      intro v x hv hm
      have ev : v = 60 * t + 5 * (mn t - 1) := by omega
      refine rh_162_16 ⟨ht, ?_⟩
      show (ai_r v ∧ ai_r (60 * t + 5 * ((fun k => if k = t then mn t - 1 else mn k) t))) ∧ (60 * t + 5 * ((fun k => if k = t then mn t - 1 else mn k) t) ≤ v → _) ∧ (¬ 60 * t + 5 * ((fun k => if k = t then mn t - 1 else mn k) t) ≤ v → _)
      rw [ecnt]
      refine ⟨⟨⟨by omega, by omega⟩, ⟨by omega, by omega⟩⟩, fun _ => ?_, fun g => absurd (by omega) g⟩
      rw [ev]
      exact hQ
    | succ m ih =>
      intro v x hv hm
      have hnv := hno (v + 5) (by omega) (by omega)
      have rd : ∀ f : Int → Int, del f (60 * t + 5 * r) v (v + 5) = f (v + 5) := fun f => if_neg (by omega)
      have st : ∀ f : Int → Int, (fun k => if k = v then f (v + 5) else del f (60 * t + 5 * r) v k) = del f (60 * t + 5 * r) (v + 1) := by
        intro f
        funext k
        unfold del
        by_cases a1 : k = v
        · rw [if_pos a1, if_pos (by omega), a1]
        · rw [if_neg a1]
          by_cases a2 : 60 * t + 5 * r ≤ k ∧ k < v
          · rw [if_pos a2, if_pos (by omega)]
          · rw [if_neg a2, if_neg (by omega)]
      refine rh_162_16 ⟨ht, ?_⟩
      show (ai_r v ∧ ai_r (60 * t + 5 * ((fun k => if k = t then mn t - 1 else mn k) t))) ∧ (60 * t + 5 * ((fun k => if k = t then mn t - 1 else mn k) t) ≤ v → _) ∧ (¬ 60 * t + 5 * ((fun k => if k = t then mn t - 1 else mn k) t) ≤ v → _)
      rw [ecnt]
      refine ⟨⟨⟨by omega, by omega⟩, ⟨by omega, by omega⟩⟩, fun g => absurd g (by omega), fun _ => ⟨⟨by omega, by omega⟩, ⟨by omega, by omega⟩, ⟨by omega, by omega⟩, ⟨by omega, by omega⟩, ?_, ?_⟩⟩
      · show 0 ≤ del no (60 * t + 5 * r) v (v + 5) ∧ del no (60 * t + 5 * r) v (v + 5) ≤ 1
        rw [rd]
        exact hnv
      · rw [zs_set]
        show ai_wp sc 162 16 _ [] (0, 0) (92, [], ZS σ _ (fun k => if k = v then del vl (60 * t + 5 * r) v (v + 5) else del vl (60 * t + 5 * r) v k) (fun k => if k = v then del no (60 * t + 5 * r) v (v + 5) else del no (60 * t + 5 * r) v k)) Q
        rw [rd, rd, st, st]
        exact ih (v + 1) none (by omega) (by omega)
  have e1 : ∀ f : Int → Int, f = del f (60 * t + 5 * r) (60 * t + 5 * r) := fun f => by
    funext j
    exact (if_neg (by omega)).symm
  refine rb_162_0 ⟨ht, ht, ?_⟩
  show ai_wp sc 162 16 [some (.inr (.inr 59)), some (.inl t), some (.inl r), some (.inl ((60 * t) + (5 * r)))] [] (0, 0) (92, [], ai_set (ZS σ mn vl no) 64 t (mn t - 1)) Q
  rw [zs_cnt, e1 vl, e1 no]
  exact h _ _ _ ⟨Int.le_refl _, by omega⟩ rfl
