/-! APPLY: what class and reference hold while rows are put in. -/
def CS (τ σ : ai_S) : Prop := (∀ p : Nat, ((2 ≤ p ∧ p ≤ 7) ∨ (41 ≤ p ∧ p ≤ 58)) → σ p = τ p) ∧ σ 12 0 = τ 12 0
def RS (τ σ : ai_S) : Prop := (∀ p : Nat, ((60 ≤ p ∧ p ≤ 63) ∨ (72 ≤ p ∧ p ≤ 77) ∨ p = 84) → σ p = τ p) ∧ σ 59 1 = τ 59 1 ∧ σ 59 13 = τ 59 13 ∧ σ 59 20 = τ 59 20 ∧ σ 59 21 = τ 59 21
def CT (τ : ai_S) (cn ce nu y : Int → Int) (md ch : Int) (σ : ai_S) : Prop := CS τ σ ∧ (σ 9 = cn ∧ σ 10 = ce ∧ σ 11 = nu ∧ σ 27 = y) ∧ σ 1 4 = md ∧ (0 < τ 12 0 → σ 12 1 = ch) ∧ (0 ≤ σ 32 1 ∧ σ 32 1 < 32)
def RT (τ : ai_S) (cn ce nu y : Int → Int) (md ch : Int) (σ : ai_S) : Prop := RS τ σ ∧ EqS cn ce nu (σ 64) (σ 65) (σ 66) ∧ σ 85 = y ∧ σ 59 37 = md ∧ (0 < τ 12 0 → σ 59 14 = ch)
def kpC (σ σ' : ai_S) : Prop := (∀ p : Nat, ¬ (p = 1 ∨ p = 9 ∨ p = 10 ∨ p = 11 ∨ p = 12 ∨ p = 27 ∨ p = 32 ∨ p = 33) → σ' p = σ p) ∧ (∀ j, ¬ j = 4 → σ' 1 j = σ 1 j) ∧ (∀ j, ¬ j = 1 → σ' 12 j = σ 12 j)
def kpR (σ σ' : ai_S) : Prop := (∀ p : Nat, ¬ (p = 59 ∨ p = 64 ∨ p = 65 ∨ p = 66 ∨ p = 85 ∨ p = 86 ∨ p = 87) → σ' p = σ p) ∧ (∀ j, ¬ (j = 14 ∨ j = 37) → σ' 59 j = σ 59 j)
theorem kpC_rfl {σ : ai_S} : kpC σ σ := ⟨fun _ _ => rfl, fun _ _ => rfl, fun _ _ => rfl⟩
theorem kpR_rfl {σ : ai_S} : kpR σ σ := ⟨fun _ _ => rfl, fun _ _ => rfl⟩
theorem kpC_trans {a b c : ai_S} (h : kpC a b) (g : kpC b c) : kpC a c := ⟨fun p hp => (g.1 p hp).trans (h.1 p hp), fun j hj => (g.2.1 j hj).trans (h.2.1 j hj), fun j hj => (g.2.2 j hj).trans (h.2.2 j hj)⟩
theorem kpR_trans {a b c : ai_S} (h : kpR a b) (g : kpR b c) : kpR a c := ⟨fun p hp => (g.1 p hp).trans (h.1 p hp), fun j hj => (g.2 j hj).trans (h.2 j hj)⟩
theorem CS_kp {τ σ σ' : ai_S} (h : CS τ σ) (k : kpC σ σ') : CS τ σ' := ⟨fun p hp => (k.1 p (by omega)).trans (h.1 p hp), (k.2.2 0 (by decide)).trans h.2⟩
theorem RS_kp {τ σ σ' : ai_S} (h : RS τ σ) (k : kpR σ σ') : RS τ σ' := ⟨fun p hp => (k.1 p (by omega)).trans (h.1 p hp), (k.2 1 (by decide)).trans h.2.1, (k.2 13 (by decide)).trans h.2.2.1, (k.2 20 (by decide)).trans h.2.2.2.1, (k.2 21 (by decide)).trans h.2.2.2.2⟩
theorem set_ne {σ : ai_S} {p q : Nat} {i v : Int} (h : ¬ q = p) : ai_set σ p i v q = σ q := funext (fun _ => if_neg h)
theorem up_ne {σ : ai_S} {p q : Nat} {f : Int → Int} (h : ¬ q = p) : up σ p f q = σ q := if_neg h
theorem kpC_up {σ : ai_S} {p : Nat} {f : Int → Int} (hp : p = 9 ∨ p = 10 ∨ p = 11 ∨ p = 27 ∨ p = 33) : kpC σ (up σ p f) := ⟨fun q hq => up_ne (by omega), fun j _ => congrFun (up_ne (by omega)) j, fun j _ => congrFun (up_ne (by omega)) j⟩
theorem kpR_up {σ : ai_S} {p : Nat} {f : Int → Int} (hp : p = 64 ∨ p = 65 ∨ p = 66 ∨ p = 85 ∨ p = 86 ∨ p = 87) : kpR σ (up σ p f) := ⟨fun q hq => up_ne (by omega), fun j _ => congrFun (up_ne (by omega)) j⟩
theorem kpC_s32 {σ : ai_S} {v : Int} : kpC σ (ai_set σ 32 1 v) := ⟨fun q hq => set_ne (by omega), fun j _ => congrFun (set_ne (by decide)) j, fun j _ => congrFun (set_ne (by decide)) j⟩
theorem kpC_s1 {σ : ai_S} {v : Int} : kpC σ (ai_set σ 1 4 v) := ⟨fun q hq => set_ne (by omega), fun j hj => st_ix hj, fun j _ => congrFun (set_ne (by decide)) j⟩
theorem kpC_s12 {σ : ai_S} {v : Int} : kpC σ (ai_set σ 12 1 v) := ⟨fun q hq => set_ne (by omega), fun j _ => congrFun (set_ne (by decide)) j, fun j hj => st_ix hj⟩
theorem kpR_s {σ : ai_S} {i v : Int} (hi : i = 14 ∨ i = 37) : kpR σ (ai_set σ 59 i v) := ⟨fun q hq => set_ne (by omega), fun j hj => st_ix (by omega)⟩
theorem ct_cd {τ σ : ai_S} {cn ce nu y f : Int → Int} {md ch x : Int} (h : CT τ cn ce nu y md ch σ) (hx : 0 ≤ x ∧ x < 32) : CT τ cn ce nu y md ch (CD σ f x) ∧ kpC σ (CD σ f x) := by
  have k : kpC σ (CD σ f x) := kpC_trans (kpC_up (Or.inr (Or.inr (Or.inr (Or.inr rfl))))) kpC_s32
  exact ⟨⟨CS_kp h.1 k, h.2.1, h.2.2.1, h.2.2.2.1, hx⟩, k⟩
theorem ct_fail {τ σ : ai_S} {cn ce nu y : Int → Int} {md ch a b c d : Int} (h : CT τ cn ce nu y md ch σ) : CT τ cn ce nu (wy y a b c d) md ch (up σ 27 (wy (σ 27) a b c d)) ∧ kpC σ (up σ 27 (wy (σ 27) a b c d)) := by
  have k : kpC σ (up σ 27 (wy (σ 27) a b c d)) := kpC_up (Or.inr (Or.inr (Or.inr (Or.inl rfl))))
  refine ⟨⟨CS_kp h.1 k, ⟨h.2.1.1, h.2.1.2.1, h.2.1.2.2.1, ?_⟩, h.2.2.1, h.2.2.2.1, h.2.2.2.2⟩, k⟩
  show wy (σ 27) a b c d = wy y a b c d
  rw [h.2.1.2.2.2]
theorem ks_id {σ : ai_S} : KS σ (σ 9) (σ 10) (σ 11) = σ := by
  have e1 : up σ 9 (σ 9) = σ := up_id
  have e2 : up σ 10 (σ 10) = σ := up_id
  unfold KS
  rw [e1, e2, up_id]
theorem zs_id {σ : ai_S} : ZS σ (σ 64) (σ 65) (σ 66) = σ := by
  have e1 : up σ 64 (σ 64) = σ := up_id
  have e2 : up σ 65 (σ 65) = σ := up_id
  unfold ZS
  rw [e1, e2, up_id]
theorem ct_store {τ σ : ai_S} {cn ce nu y cn' ce' nu' : Int → Int} {md ch : Int} (h : CT τ cn ce nu y md ch σ) : CT τ cn' ce' nu' y md ch (KS σ cn' ce' nu') ∧ kpC σ (KS σ cn' ce' nu') := by
  have k : kpC σ (KS σ cn' ce' nu') := kpC_trans (kpC_trans (kpC_up (Or.inl rfl)) (kpC_up (Or.inr (Or.inl rfl)))) (kpC_up (Or.inr (Or.inr (Or.inl rfl))))
  exact ⟨⟨CS_kp h.1 k, ⟨rfl, rfl, rfl, h.2.1.2.2.2⟩, h.2.2.1, h.2.2.2.1, h.2.2.2.2⟩, k⟩
theorem ct_note {τ σ : ai_S} {cn ce nu y : Int → Int} {md ch n : Int} (ho : 0 ≤ τ 12 0) (h : CT τ cn ce nu y md ch σ) : CT τ cn ce nu y (md + n) (ch + n) (if σ 12 0 ≤ 0 then ai_set σ 1 4 (σ 1 4 + n) else ai_set (ai_set σ 1 4 (σ 1 4 + n)) 12 1 (σ 12 1 + n)) ∧ kpC σ (if σ 12 0 ≤ 0 then ai_set σ 1 4 (σ 1 4 + n) else ai_set (ai_set σ 1 4 (σ 1 4 + n)) 12 1 (σ 12 1 + n)) := by
  have e := h.1.2
  by_cases g : σ 12 0 ≤ 0
  · rw [if_pos g]
    have k : kpC σ (ai_set σ 1 4 (σ 1 4 + n)) := kpC_s1
    refine ⟨⟨CS_kp h.1 k, h.2.1, ?_, fun q => absurd q (by omega), h.2.2.2.2⟩, k⟩
    show σ 1 4 + n = md + n
    rw [h.2.2.1]
  · rw [if_neg g]
    have k : kpC σ (ai_set (ai_set σ 1 4 (σ 1 4 + n)) 12 1 (σ 12 1 + n)) := kpC_trans kpC_s1 kpC_s12
    refine ⟨⟨CS_kp h.1 k, h.2.1, ?_, fun q => ?_, h.2.2.2.2⟩, k⟩
    · show σ 1 4 + n = md + n
      rw [h.2.2.1]
    · show σ 12 1 + n = ch + n
      rw [h.2.2.2.1 q]
theorem rt_bd {τ σ : ai_S} {cn ce nu y g k : Int → Int} {md ch : Int} (h : RT τ cn ce nu y md ch σ) : RT τ cn ce nu y md ch (BD σ g k) ∧ kpR σ (BD σ g k) := by
  have q : kpR σ (BD σ g k) := kpR_trans (kpR_up (Or.inr (Or.inr (Or.inr (Or.inr (Or.inl rfl)))))) (kpR_up (Or.inr (Or.inr (Or.inr (Or.inr (Or.inr rfl))))))
  exact ⟨⟨RS_kp h.1 q, h.2⟩, q⟩
theorem rt_fail {τ σ : ai_S} {cn ce nu y : Int → Int} {md ch a b c d : Int} (h : RT τ cn ce nu y md ch σ) : RT τ cn ce nu (wy y a b c d) md ch (up σ 85 (wy (σ 85) a b c d)) ∧ kpR σ (up σ 85 (wy (σ 85) a b c d)) := by
  have k : kpR σ (up σ 85 (wy (σ 85) a b c d)) := kpR_up (Or.inr (Or.inr (Or.inr (Or.inl rfl))))
  refine ⟨⟨RS_kp h.1 k, h.2.1, ?_, h.2.2.2⟩, k⟩
  show wy (σ 85) a b c d = wy y a b c d
  rw [h.2.2.1]
theorem rt_store {τ σ : ai_S} {cn ce nu y cn' ce' nu' mn' vl' no' : Int → Int} {md ch : Int} (h : RT τ cn ce nu y md ch σ) (he : EqS cn' ce' nu' mn' vl' no') : RT τ cn' ce' nu' y md ch (ZS σ mn' vl' no') ∧ kpR σ (ZS σ mn' vl' no') := by
  have k : kpR σ (ZS σ mn' vl' no') := kpR_trans (kpR_trans (kpR_up (Or.inl rfl)) (kpR_up (Or.inr (Or.inl rfl)))) (kpR_up (Or.inr (Or.inr (Or.inl rfl))))
  exact ⟨⟨RS_kp h.1 k, he, h.2.2⟩, k⟩
theorem rt_log {τ σ : ai_S} {cn ce nu y : Int → Int} {md ch n : Int} (h : RT τ cn ce nu y md ch σ) : RT τ cn ce nu y (md + n) (ch + n) (ai_set (ai_set σ 59 14 (σ 59 14 + n)) 59 37 (σ 59 37 + n)) ∧ kpR σ (ai_set (ai_set σ 59 14 (σ 59 14 + n)) 59 37 (σ 59 37 + n)) := by
  have k : kpR σ (ai_set (ai_set σ 59 14 (σ 59 14 + n)) 59 37 (σ 59 37 + n)) := kpR_trans (kpR_s (Or.inl rfl)) (kpR_s (Or.inr rfl))
  refine ⟨⟨RS_kp h.1 k, h.2.1, h.2.2.1, ?_, fun q => ?_⟩, k⟩
  · show σ 59 37 + n = md + n
    rw [h.2.2.2.1]
  · show σ 59 14 + n = ch + n
    rw [h.2.2.2.2 q]
theorem isRow_uniq {n x r s : Int} {key : Int → Int} (ha : ∀ a b, 0 ≤ a → a < b → b < n → key a < key b) (h : isRow n key x r) (g : isRow n key x s) : r = s := by
  rcases h with ⟨h1, h2⟩ | ⟨h1, h2, h3⟩
  · rcases g with ⟨g1, _⟩ | ⟨g1, g2, g3⟩
    · omega
    · exact absurd g3 (h2 s g1 g2)
  · rcases g with ⟨g1, g2⟩ | ⟨g1, g2, g3⟩
    · exact absurd h3 (g2 r h1 h2)
    · rcases Int.lt_trichotomy r s with q | q | q
      · have := ha r s h1 q g2
        omega
      · exact q
      · have := ha s r g1 q h2
        omega
theorem isRow_total (n x : Int) (key : Int → Int) : ∃ r, isRow n key x r := by
  rcases Classical.em (∃ r, 0 ≤ r ∧ r < n ∧ key r = x) with ⟨r, h⟩ | h
  · exact ⟨r, Or.inr h⟩
  · exact ⟨-1, Or.inl ⟨rfl, fun q q1 q2 q3 => h ⟨q, q1, q2, q3⟩⟩⟩
theorem cf_find_fn {sc : Int × (Int → Int)} {σ : ai_S} {t x o : Int} (ht : 0 ≤ t ∧ t < 5) (hc : 0 ≤ σ 9 t ∧ σ 9 t ≤ 12) (hr : ∀ j, ai_r8 (σ 10 j)) (hk : ai_r8 x) (ha : ∀ a b, 0 ≤ a → a < b → b < σ 9 t → σ 10 (60 * t + 5 * a) < σ 10 (60 * t + 5 * b)) (ho : isRow (σ 9 t) (fun q => σ 10 (60 * t + 5 * q)) x o) : fn sc 108 [some (.inr (.inr 8)), some (.inl t), some (.inr (.inl x)), none, none] σ (some (.inl o)) σ := fun Q hQ => cf_find ht hc hr hk (fun r h => by
  have e := isRow_uniq (key := fun q => σ 10 (60 * t + 5 * q)) ha h ho
  rw [e]
  exact hQ)
theorem rf_find_fn {sc : Int × (Int → Int)} {σ : ai_S} {t x o : Int} (ht : 0 ≤ t ∧ t < 5) (hc : 0 ≤ σ 64 t ∧ σ 64 t ≤ 12) (hr : ∀ j, ai_r8 (σ 65 j)) (hk : ai_r8 x) (ha : ∀ a b, 0 ≤ a → a < b → b < σ 64 t → σ 65 (60 * t + 5 * a) < σ 65 (60 * t + 5 * b)) (ho : isRow (σ 64 t) (fun q => σ 65 (60 * t + 5 * q)) x o) : fn sc 159 [some (.inr (.inr 59)), some (.inl t), some (.inr (.inl x)), none, none, none] σ (some (.inl o)) σ := fun Q hQ => rf_find ht hc hr hk (fun r h => by
  have e := isRow_uniq (key := fun q => σ 65 (60 * t + 5 * q)) ha h ho
  rw [e]
  exact hQ)
