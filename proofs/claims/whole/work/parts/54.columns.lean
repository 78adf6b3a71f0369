/-! READ: a section's columns, class and reference in step. -/
def b2 (b : Bool) : Int := if b = true then 1 else 0
theorem b2_01 (b : Bool) : 0 ≤ b2 b ∧ b2 b ≤ 1 := by
  cases b <;> decide
theorem b2_t {b : Bool} (h : b2 b = 1) : b = true := by
  cases b
  · exact absurd h (by decide)
  · rfl
theorem b2_f {b : Bool} (h : b = false) : b2 b = 0 := by
  rw [h]
  rfl
/-- how many bits stand -/
def pop (n : Int) : Int := b2 (tb n 0) + b2 (tb n 1) + b2 (tb n 2) + b2 (tb n 3) + b2 (tb n 4)
theorem pop_or {n c : Int} (hn : 0 ≤ n ∧ n < 32) (hc : 0 ≤ c ∧ c < 5) (h : tb n c = false) : pop (ai_or n (ai_shl 1 c)) = pop n + 1 := by
  obtain ⟨_, _, _, f⟩ := bit_facts hn hc
  unfold pop
  rw [(f 0 (by decide)).1, (f 1 (by decide)).1, (f 2 (by decide)).1, (f 3 (by decide)).1, (f 4 (by decide)).1]
  have e : c = 0 ∨ c = 1 ∨ c = 2 ∨ c = 3 ∨ c = 4 := by omega
  rcases e with rfl | rfl | rfl | rfl | rfl
  · have h1 : b2 (tb n 0 || decide ((0 : Int) = 0)) = 1 := by simp [b2]
    have h2 : b2 (tb n 0) = 0 := b2_f h
    have h3 : ∀ d : Int, ¬ d = 0 → b2 (tb n d || decide (d = 0)) = b2 (tb n d) := fun d hd => by simp [hd]
    rw [h1, h3 1 (by decide), h3 2 (by decide), h3 3 (by decide), h3 4 (by decide)]
    omega
  · have h1 : b2 (tb n 1 || decide ((1 : Int) = 1)) = 1 := by simp [b2]
    have h2 : b2 (tb n 1) = 0 := b2_f h
    have h3 : ∀ d : Int, ¬ d = 1 → b2 (tb n d || decide (d = 1)) = b2 (tb n d) := fun d hd => by simp [hd]
    rw [h1, h3 0 (by decide), h3 2 (by decide), h3 3 (by decide), h3 4 (by decide)]
    omega
  · have h1 : b2 (tb n 2 || decide ((2 : Int) = 2)) = 1 := by simp [b2]
    have h2 : b2 (tb n 2) = 0 := b2_f h
    have h3 : ∀ d : Int, ¬ d = 2 → b2 (tb n d || decide (d = 2)) = b2 (tb n d) := fun d hd => by simp [hd]
    rw [h1, h3 0 (by decide), h3 1 (by decide), h3 3 (by decide), h3 4 (by decide)]
    omega
  · have h1 : b2 (tb n 3 || decide ((3 : Int) = 3)) = 1 := by simp [b2]
    have h2 : b2 (tb n 3) = 0 := b2_f h
    have h3 : ∀ d : Int, ¬ d = 3 → b2 (tb n d || decide (d = 3)) = b2 (tb n d) := fun d hd => by simp [hd]
    rw [h1, h3 0 (by decide), h3 1 (by decide), h3 2 (by decide), h3 4 (by decide)]
    omega
  · have h1 : b2 (tb n 4 || decide ((4 : Int) = 4)) = 1 := by simp [b2]
    have h2 : b2 (tb n 4) = 0 := b2_f h
    have h3 : ∀ d : Int, ¬ d = 4 → b2 (tb n d || decide (d = 4)) = b2 (tb n d) := fun d hd => by simp [hd]
    rw [h1, h3 0 (by decide), h3 1 (by decide), h3 2 (by decide), h3 3 (by decide)]
    omega
/-- as many bits as columns: all stand -/
theorem pop_all {n W c : Int} (hW : 0 ≤ W ∧ W ≤ 5) (hz : ∀ c, W ≤ c → c < 5 → tb n c = false) (hp : pop n = W) (hc : 0 ≤ c ∧ c < W) : tb n c = true := by
  have a0 := b2_01 (tb n 0)
  have a1 := b2_01 (tb n 1)
  have a2 := b2_01 (tb n 2)
  have a3 := b2_01 (tb n 3)
  have a4 := b2_01 (tb n 4)
  have z0 : W ≤ 0 → b2 (tb n 0) = 0 := fun q => b2_f (hz 0 q (by decide))
  have z1 : W ≤ 1 → b2 (tb n 1) = 0 := fun q => b2_f (hz 1 q (by decide))
  have z2 : W ≤ 2 → b2 (tb n 2) = 0 := fun q => b2_f (hz 2 q (by decide))
  have z3 : W ≤ 3 → b2 (tb n 3) = 0 := fun q => b2_f (hz 3 q (by decide))
  have z4 : W ≤ 4 → b2 (tb n 4) = 0 := fun q => b2_f (hz 4 q (by decide))
  unfold pop at hp
  have e : c = 0 ∨ c = 1 ∨ c = 2 ∨ c = 3 ∨ c = 4 := by omega
  rcases e with rfl | rfl | rfl | rfl | rfl
  · exact b2_t (by omega)
  · exact b2_t (by omega)
  · exact b2_t (by omega)
  · exact b2_t (by omega)
  · exact b2_t (by omega)
/-- the digit at a place -/
def dgc (n : Int) (tx : Int → Int) (p : Int) : Int := if p < n ∧ 48 ≤ tx p ∧ tx p ≤ 57 then tx p - 48 else -1
theorem cf_digit {sc : Int × (Int → Int)} {σ : ai_S} {n : Int} {tx : Int → Int} {p x y : Int} (hT : TX n tx) (hσ : cT σ n tx) (hp : 0 ≤ p ∧ p ≤ n) : fn sc 87 [some (.inr (.inr 34)), none] (RD σ p x y) (some (.inl (dgc n tx p))) (RD σ p x y) := by
  intro Q hQ
  obtain ⟨h1, h2⟩ := hσ
  have ht := hT.2 p
  have hn := hT.1
  have e : (if σ 34 0 ≤ p then (-1 : Int) else σ 35 p) = if n ≤ p then -1 else tx p := by rw [h1, h2]
  have hr : ai_r (if σ 34 0 ≤ p then (-1 : Int) else σ 35 p) := by
    rw [e]
    split
    · exact ⟨by decide, by decide⟩
    · exact ⟨by omega, by omega⟩
  refine pc_87 ⟨⟨⟨(show ai_r p from ⟨by omega, by omega⟩), (show ai_r (σ 34 0) by rw [h1]; exact ⟨by omega, by omega⟩)⟩, fun g => (show 0 ≤ p ∧ p < 120 by have g2 : ¬ σ 34 0 ≤ p := g; rw [h1] at g2; omega)⟩, hr, fun _ => hr⟩ ?_
  have e2 : (if (if σ 34 0 ≤ p then (-1 : Int) else σ 35 p) < 48 then (-1 : Int) else if 57 < (if σ 34 0 ≤ p then (-1 : Int) else σ 35 p) then -1 else (if σ 34 0 ≤ p then (-1 : Int) else σ 35 p) - 48) = dgc n tx p := by
    rw [e]
    unfold dgc
    by_cases a : n ≤ p
    · rw [if_pos a, if_pos (by decide), if_neg (by omega)]
    · rw [if_neg a]
      by_cases b : tx p < 48
      · rw [if_pos b, if_neg (by omega)]
      · rw [if_neg b]
        by_cases c : 57 < tx p
        · rw [if_pos c, if_neg (by omega)]
        · rw [if_neg c, if_pos (by omega)]
  show Q (.inl (some (.inl (if (if σ 34 0 ≤ p then (-1 : Int) else σ 35 p) < 48 then (-1 : Int) else if 57 < (if σ 34 0 ≤ p then (-1 : Int) else σ 35 p) then -1 else (if σ 34 0 ≤ p then (-1 : Int) else σ 35 p) - 48))), (92, [], RD σ p x y))
  rw [e2]
  exact hQ
theorem rf_isdig {sc : Int × (Int → Int)} {σ : ai_S} {n : Int} {tx : Int → Int} {p : Int} {F G : Int → Int} (hT : TX n tx) (hσ : rT σ n tx) (hp : 0 ≤ p ∧ p ≤ n) : fn sc 137 [some (.inr (.inr 59))] (RP σ p F G) (some (.inl (bi (¬ dgc n tx p = -1)))) (RP σ p F G) := by
  intro Q hQ
  obtain ⟨h1, h2⟩ := hσ
  have ht := hT.2 p
  have hn := hT.1
  have e : (if σ 59 15 ≤ p then (0 : Int) else σ 71 p) = if n ≤ p then 0 else tx p := by rw [h1, h2]
  have hr : ai_r (if σ 59 15 ≤ p then (0 : Int) else σ 71 p) := by
    rw [e]
    split
    · exact ⟨by decide, by decide⟩
    · exact ⟨by omega, by omega⟩
  have ha : (ai_r p ∧ ai_r (σ 59 15)) ∧ (¬ σ 59 15 ≤ p → 0 ≤ p ∧ p < 120) := ⟨⟨⟨by omega, by omega⟩, by rw [h1]; exact ⟨by omega, by omega⟩⟩, fun g => by rw [h1] at g; omega⟩
  refine pc_137 ⟨ha, hr, fun _ => ⟨ha, hr⟩⟩ ?_
  have e2 : bi ((¬ (if σ 59 15 ≤ p then (0 : Int) else σ 71 p) < 48) ∧ ¬ 57 < (if σ 59 15 ≤ p then (0 : Int) else σ 71 p)) = bi (¬ dgc n tx p = -1) := by
    apply bi_congr
    rw [e]
    unfold dgc
    by_cases a : n ≤ p
    · rw [if_pos a, if_neg (by omega)]
      omega
    · rw [if_neg a]
      by_cases b : 48 ≤ tx p ∧ tx p ≤ 57
      · rw [if_pos (by omega)]
        omega
      · rw [if_neg (by omega)]
        omega
  show Q (.inl (some (.inl (bi ((¬ (if σ 59 15 ≤ p then (0 : Int) else σ 71 p) < 48) ∧ ¬ 57 < (if σ 59 15 ≤ p then (0 : Int) else σ 71 p))))), (92, [], RP σ p F G))
  rw [e2]
  exact hQ
theorem dgc_rng {n : Int} {tx : Int → Int} {p : Int} : -1 ≤ dgc n tx p ∧ dgc n tx p ≤ 9 := by
  unfold dgc
  split <;> omega
theorem dgc_at {n : Int} {tx : Int → Int} {p : Int} (h : ¬ dgc n tx p = -1) : p < n ∧ (if n ≤ p then 0 else tx p) - 48 = dgc n tx p := by
  unfold dgc at h ⊢
  by_cases a : p < n ∧ 48 ≤ tx p ∧ tx p ≤ 57
  · rw [if_pos a] at h ⊢
    rw [if_neg (by omega)]
    exact ⟨a.1, rfl⟩
  · rw [if_neg a] at h
    exact absurd rfl h
theorem rpz {σ : ai_S} {p : Int} {F G : Int → Int} {q : Nat} {i v : Int} (h1 : q ≠ 59) (h2 : q ≠ 82) (h3 : q ≠ 83) : ai_set (RP σ p F G) q i v = RP (ai_set σ q i v) p F G := by
  unfold RP
  rw [up_c h3, up_c h2, set_pl h1]
/-- columns behind those that are there -/
def cln (f cf : Int → Int) (s i k : Int) : Int → Int := fun j => if 5 * s + i ≤ j ∧ j < 5 * s + k then cf (j - 5 * s) else f j
def at1 (f : Int → Int) (s v : Int) : Int → Int := fun j => if j = s then v else f j
theorem at1_2 {f : Int → Int} {s v w : Int} : (fun j => if j = s then w else at1 f s v j) = at1 f s w := by
  funext j
  unfold at1
  split <;> rfl
theorem at1_id {f : Int → Int} {s v : Int} (h : f s = v) : at1 f s v = f := by
  funext j
  unfold at1
  split
  · rename_i e
    rw [e, h]
  · rfl
theorem cln_0 {f cf : Int → Int} {s i : Int} : cln f cf s i i = f := by
  funext j
  unfold cln
  exact if_neg (by omega)
theorem cln_s {f cf : Int → Int} {s i k : Int} (hk : i < k) : cln (fun j => if j = 5 * s + i then cf i else f j) cf s (i + 1) k = cln f cf s i k := by
  funext j
  unfold cln
  by_cases a : 5 * s + i ≤ j ∧ j < 5 * s + k
  · rw [if_pos a]
    by_cases e : j = 5 * s + i
    · rw [if_neg (by omega)]
      show (if j = 5 * s + i then cf i else f j) = cf (j - 5 * s)
      rw [if_pos e, e, show 5 * s + i - 5 * s = i by omega]
    · rw [if_pos (by omega)]
  · rw [if_neg a, if_neg (by omega)]
    show (if j = 5 * s + i then cf i else f j) = f j
    exact if_neg (by omega)
theorem cf_addcol_41 {sc : Int × (Int → Int)} {σ : ai_S} {p x y s c i b : Int} {cl wd nm : Int → Int} (hs : 0 ≤ s ∧ s < 6) (hw : wd s = i) (hi : 0 ≤ i ∧ i < 5) (hb : nm s = b) : fn sc 52 [some (.inr (.inr 41)), some (.inl s), some (.inl c)] (RD (up (up (up σ 43 wd) 44 cl) 45 nm) p x y) none (RD (up (up (up σ 43 (at1 wd s (i + 1))) 44 (fun j => if j = 5 * s + i then c else cl j)) 45 (at1 nm s (ai_or b (ai_shl 1 c)))) p x y) := by
  intro Q hQ
  subst hw
  subst hb
  refine rb_52_0_41 ⟨hs, (show 0 ≤ s * 5 + wd s ∧ s * 5 + wd s < 30 by omega), hs, hs, hs, hs, ?_⟩
  show Q (.inl none, (92, [], ai_set (ai_set (ai_set (RD (up (up (up σ 43 wd) 44 cl) 45 nm) p x y) 44 (s * 5 + wd s) c) 43 s (wd s + 1)) 45 s (ai_or (nm s) (ai_shl 1 c))))
  rw [rdq (q := 44) (by decide), up_c (p := 45) (q := 44) (by decide), up_s, rdq (q := 43) (by decide), up_c (p := 45) (q := 43) (by decide), up_c (p := 44) (q := 43) (by decide), up_s, rdq (q := 45) (by decide), up_s, show s * 5 + wd s = 5 * s + wd s by omega]
  exact hQ
theorem rd_cols_41 {sc : Int × (Int → Int)} {n : Int} {tx : Int → Int} {W s t : Int} (hT : TX n tx) (hW : 1 ≤ W ∧ W ≤ 5) (hs : 0 ≤ s ∧ s < 6) (ht : 0 ≤ t ∧ t < 5) :
    ∀ (m : Nat) (i p b : Int), 0 ≤ i → i + (m : Int) = W → (0 ≤ p ∧ p ≤ n) → (0 ≤ b ∧ b < 32) → pop b = i → (∀ c, W ≤ c → c < 5 → tb b c = false) → ∃ k b', ∃ cf : Int → Int, (i ≤ k ∧ k ≤ W) ∧ p + (k - i) ≤ n ∧ (0 ≤ b' ∧ b' < 32) ∧ (∀ j, i ≤ j → j < k → (0 ≤ cf j ∧ cf j < W) ∧ tb b (cf j) = false) ∧ (∀ j l, i ≤ j → j < k → i ≤ l → l < k → cf j = cf l → j = l) ∧ (∀ c, 0 ≤ c → c < 5 → (tb b' c = true ↔ tb b c = true ∨ ∃ j, i ≤ j ∧ j < k ∧ cf j = c)) ∧
      (∀ (σ : ai_S) (x y : Int) (cl wd nm : Int → Int) (x1 x6 : Option ai_V), cT σ n tx → wd s = i → nm s = b → ∀ Q : ai_O → Prop, Q (.inl (some (.inl (if k ≤ 0 then 0 else 1))), (92, [], RD (up (up (up σ 43 (at1 wd s k)) 44 (cln cl cf s i k)) 45 (at1 nm s b')) (p + (k - i)) x y)) → ai_wp sc 76 13 [some (.inr (.inr 34)), x1, some (.inr (.inr 41)), some (.inl s), some (.inl W), some (.inl i), x6] [] (0, 0) (92, [], RD (up (up (up σ 43 wd) 44 cl) 45 nm) p x y) Q) ∧
      (∀ (σ : ai_S) (F G cr wr : Int → Int) (x4 : Option ai_V), rT σ n tx → σ 60 t = W → wr s = i → ∀ Q : ai_O → Prop, Q (.inl (some (.inl (if k ≤ 0 then 0 else ac n tx (p + (k - i)) 41))), (92, [], RP (up (up σ 79 (at1 wr s k)) 81 (cln cr cf s i k)) (p + (k - i) + (if k ≤ 0 then 0 else ac n tx (p + (k - i)) 41)) F G)) → ai_wp sc 145 12 [some (.inr (.inr 59)), some (.inl s), some (.inl t), some (.inl b), x4] [] (0, 0) (92, [], RP (up (up σ 79 wr) 81 cr) p F G) Q) := by
  have hn := hT.1
  -- the reference's end
  have rend : ∀ (σ : ai_S) (F G cr wr : Int → Int) (i p b : Int) (Q : ai_O → Prop), rT σ n tx → (0 ≤ p ∧ p ≤ n) → (0 ≤ i ∧ i ≤ 5) → wr s = i → Q (.inl (some (.inl (if i ≤ 0 then 0 else ac n tx p 41))), (92, [], RP (up (up σ 79 wr) 81 cr) (p + (if i ≤ 0 then 0 else ac n tx p 41)) F G)) → (0 ≤ s ∧ s < 6) ∧ ((ai_r ((RP (up (up σ 79 wr) 81 cr) p F G) 79 s)) ∧ (((RP (up (up σ 79 wr) 81 cr) p F G) 79 s ≤ 0) → ((0 ≤ (0 : Int) ∧ (0 : Int) ≤ 1) ∧ (Q (.inl (some (.inl 0)), (92, [], RP (up (up σ 79 wr) 81 cr) p F G))))) ∧ (¬ ((RP (up (up σ 79 wr) 81 cr) p F G) 79 s ≤ 0) → (ai_ret (ai_wp sc) 136 [some (.inr (.inr 59)), some (.inl 41)] (92, [], RP (up (up σ 79 wr) 81 cr) p F G) (fun v h' => ai_ck (ai_zz 92 h'.1 0) (ai_wp sc 145 79 [some (.inr (.inr 59)), some (.inl s), some (.inl t), some (.inl b), none] (v.toList ++ []) (0, 0) h' Q))))) := by
    intro σ F G cr wr i p b Q hσ hp hi hwi hQ
    subst hwi
    refine ⟨hs, (show ai_r (wr s) from ⟨by omega, by omega⟩), fun g => ⟨z01, ?_⟩, fun g => fn_ret (rf_skips (c := 41) hT hσ hp (by decide)) (rb_145_79 ⟨?_, fun e => ⟨z01, ?_⟩, fun e => ⟨z11, ?_⟩⟩)⟩
    · have g2 : wr s ≤ 0 := g
      rw [if_pos g2, Int.add_zero] at hQ
      exact hQ
    · have := ac_01 n tx p 41
      exact ⟨by omega, by omega⟩
    · have g2 : ¬ wr s ≤ 0 := g
      have e2 : ac n tx p 41 = 0 := e
      rw [if_neg g2, e2] at hQ
      rw [e2]
      exact hQ
    · have g2 : ¬ wr s ≤ 0 := g
      have e2 : ac n tx p 41 = 1 := by
        have := ac_01 n tx p 41
        have e3 : ¬ ac n tx p 41 = 0 := e
        omega
      rw [if_neg g2, e2] at hQ
      rw [e2]
      exact hQ
  intro m
  induction m with
  | zero =>
    intro i p b hi hm hp hb hpop hz
    have hi5 : 0 ≤ i ∧ i ≤ 5 := ⟨hi, by omega⟩
    refine ⟨i, b, fun _ => 0, ⟨Int.le_refl i, by omega⟩, by omega, hb, fun j j1 j2 => absurd j2 (by omega), fun j l j1 j2 => absurd j2 (by omega), fun c c1 c2 => ⟨fun q => Or.inl q, fun q => q.elim id (fun ⟨j, j1, j2, _⟩ => absurd j2 (by omega))⟩, fun σ x y cl wd nm x1 x6 hσ h1 h2 Q hQ => ?_, fun σ F G cr wr x4 hσ h60 h1 Q hQ => ?_⟩
    · rw [cln_0, at1_id h1, at1_id h2, if_neg (by omega), show p + (i - i) = p by omega] at hQ
      exact rh_76_13_41 ⟨⟨⟨by omega, by omega⟩, ⟨by omega, by omega⟩⟩, fun _ => ⟨z11, hQ⟩, fun g => absurd (show W ≤ i by omega) g⟩
    · rw [cln_0, at1_id h1, show p + (i - i) = p by omega] at hQ
      have hend := rend σ F G cr wr i p b Q hσ hp hi5 h1 hQ
      have hsg : rT (up (up σ 79 wr) 81 cr) n tx := hσ
      refine rh_145_12 (fn_ret (rf_isdig hT hsg hp) (rb_145_14 ⟨bi_r _, fun _ => hend, fun g => fn_ret (rf_peek hT hsg hp) ?_⟩))
      obtain ⟨q1, q2⟩ := dgc_at (bi_yes g)
      have q3 := @dgc_rng n tx p
      have q4 := bi_yes g
      refine rb_145_17 ⟨ht, ⟨(by rw [q2]; exact ⟨by omega, by omega⟩), (show ai_r (σ 60 t) by rw [h60]; exact ⟨by omega, by omega⟩)⟩, fun _ => hend, fun z => fn_ret (rf_peek hT hsg hp) ?_⟩
      have z2 : ¬ W ≤ dgc n tx p := by
        have z3 : ¬ σ 60 t ≤ (if n ≤ p then 0 else tx p) - 48 := z
        rw [q2, h60] at z3
        exact z3
      have hbit := pop_all (n := b) ⟨by omega, hW.2⟩ hz (by omega) (c := dgc n tx p) ⟨by omega, by omega⟩
      refine rb_145_27 ⟨(by rw [q2]; exact bit_r hb ⟨by omega, by omega⟩), fun _ => hend, fun y => absurd ?_ y⟩
      rw [q2]
      exact (bit_ne hb ⟨by omega, by omega⟩).mpr hbit
  | succ m ih =>
    intro i p b hi hm hp hb hpop hz
    have hi5 : 0 ≤ i ∧ i ≤ 5 := ⟨hi, by omega⟩
    have hr := @dgc_rng n tx p
    by_cases hgo : ¬ dgc n tx p = -1 ∧ dgc n tx p < W ∧ tb b (dgc n tx p) = false
    · -- a column
      obtain ⟨g1, g2, g3⟩ := hgo
      obtain ⟨q1, q2⟩ := dgc_at g1
      have hc5 : 0 ≤ dgc n tx p ∧ dgc n tx p < 5 := ⟨by omega, by omega⟩
      obtain ⟨f1, f2, f3, f4⟩ := bit_facts hb hc5
      obtain ⟨k, b', cf, k1, k2, k3, k4, k5, k6, k7, k8⟩ := ih (i + 1) (p + 1) (ai_or b (ai_shl 1 (dgc n tx p))) (by omega) (by omega) ⟨by omega, by omega⟩ f2 (by rw [pop_or hb hc5 g3, hpop]) (fun c c1 c2 => by
        rw [(f4 c ⟨by omega, c2⟩).1, hz c c1 c2, decide_eq_false (by omega)]
        rfl)
      have hcf : ∀ j, i + 1 ≤ j → j < k → ¬ cf j = dgc n tx p ∧ tb b (cf j) = false := fun j j1 j2 => by
        obtain ⟨a1, a2⟩ := k4 j j1 j2
        rw [(f4 (cf j) ⟨a1.1, by omega⟩).1] at a2
        rw [Bool.or_eq_false_iff] at a2
        exact ⟨of_decide_eq_false a2.2, a2.1⟩
      have ecf : ∀ j, i + 1 ≤ j → (fun j => if j = i then dgc n tx p else cf j) j = cf j := fun j j1 => if_neg (by omega)
      have ei : (fun j => if j = i then dgc n tx p else cf j) i = dgc n tx p := if_pos rfl
      have ecl : ∀ f : Int → Int, cln (fun j => if j = 5 * s + i then dgc n tx p else f j) cf s (i + 1) k = cln f (fun j => if j = i then dgc n tx p else cf j) s i k := fun f => by
        funext j
        show (if 5 * s + (i + 1) ≤ j ∧ j < 5 * s + k then cf (j - 5 * s) else (if j = 5 * s + i then dgc n tx p else f j)) = if 5 * s + i ≤ j ∧ j < 5 * s + k then (if j - 5 * s = i then dgc n tx p else cf (j - 5 * s)) else f j
        by_cases a : 5 * s + i ≤ j ∧ j < 5 * s + k
        · rw [if_pos a]
          by_cases e : j = 5 * s + i
          · rw [if_neg (show ¬ (5 * s + (i + 1) ≤ j ∧ j < 5 * s + k) by omega), if_pos e, if_pos (show j - 5 * s = i by omega)]
          · rw [if_pos (show 5 * s + (i + 1) ≤ j ∧ j < 5 * s + k by omega), if_neg (show ¬ j - 5 * s = i by omega)]
        · rw [if_neg a, if_neg (show ¬ (5 * s + (i + 1) ≤ j ∧ j < 5 * s + k) by omega), if_neg (show ¬ j = 5 * s + i by omega)]
      refine ⟨k, b', fun j => if j = i then dgc n tx p else cf j, ⟨by omega, k1.2⟩, by omega, k3, fun j j1 j2 => ?_, fun j l j1 j2 l1 l2 e => ?_, fun c c1 c2 => ?_, fun σ x y cl wd nm x1 x6 hσ h1 h2 Q hQ => ?_, fun σ F G cr wr x4 hσ h60 h1 Q hQ => ?_⟩
      · by_cases e : j = i
        · show (0 ≤ (if j = i then dgc n tx p else cf j) ∧ (if j = i then dgc n tx p else cf j) < W) ∧ tb b (if j = i then dgc n tx p else cf j) = false
          rw [if_pos e]
          exact ⟨⟨by omega, g2⟩, g3⟩
        · show (0 ≤ (if j = i then dgc n tx p else cf j) ∧ (if j = i then dgc n tx p else cf j) < W) ∧ tb b (if j = i then dgc n tx p else cf j) = false
          rw [if_neg e]
          exact ⟨(k4 j (by omega) j2).1, (hcf j (by omega) j2).2⟩
      · have e2 : (if j = i then dgc n tx p else cf j) = (if l = i then dgc n tx p else cf l) := e
        by_cases a : j = i
        · by_cases c : l = i
          · omega
          · rw [if_pos a, if_neg c] at e2
            exact absurd e2.symm (hcf l (by omega) l2).1
        · by_cases c : l = i
          · rw [if_neg a, if_pos c] at e2
            exact absurd e2 (hcf j (by omega) j2).1
          · rw [if_neg a, if_neg c] at e2
            exact k5 j l (by omega) j2 (by omega) l2 e2
      · rw [k6 c c1 c2, (f4 c ⟨c1, c2⟩).1, Bool.or_eq_true]
        constructor
        · rintro ((q | q) | ⟨j, j1, j2, j3⟩)
          · exact Or.inl q
          · exact Or.inr ⟨i, Int.le_refl i, by omega, (if_pos rfl).trans (of_decide_eq_true q).symm⟩
          · exact Or.inr ⟨j, by omega, j2, (if_neg (show ¬ j = i by omega)).trans j3⟩
        · rintro (q | ⟨j, j1, j2, j3⟩)
          · exact Or.inl (Or.inl q)
          · have j4 : (if j = i then dgc n tx p else cf j) = c := j3
            by_cases e : j = i
            · refine Or.inl (Or.inr (decide_eq_true ?_))
              rw [if_pos e] at j4
              exact j4.symm
            · rw [if_neg e] at j4
              exact Or.inr ⟨j, by omega, j2, j4⟩
      · refine rh_76_13_41 ⟨⟨⟨by omega, by omega⟩, ⟨by omega, by omega⟩⟩, fun g => absurd g (by omega), fun _ => fn_ret (cf_digit (σ := up (up (up σ 43 wd) 44 cl) 45 nm) hT hσ hp) (rb_76_18_41 ⟨⟨⟨by omega, by omega⟩, rm1⟩, fun z => absurd z g1, fun _ => ⟨⟨⟨by omega, by omega⟩, ⟨by omega, by omega⟩⟩, fun z => absurd z (by omega), fun _ => ai_ret_q (pc_58_41 hs (ai_k_in (rb_76_29_41 ⟨bi_r _, fun _ => fn_ret (cf_addcol_41 hs h1 ⟨hi, by omega⟩ h2) (rb_76_40_41 ?_), fun z => absurd (bi_yes z) ?_⟩)))⟩⟩)⟩
        · show ai_wp sc 76 13 _ [] (0, 0) (92, [], ai_set (RD (up (up (up σ 43 (at1 wd s (i + 1))) 44 (fun j => if j = 5 * s + i then dgc n tx p else cl j)) 45 (at1 nm s (ai_or b (ai_shl 1 (dgc n tx p))))) p x y) 34 1 (p + 1)) Q
          rw [rd1]
          refine k7 σ x y (fun j => if j = 5 * s + i then dgc n tx p else cl j) (at1 wd s (i + 1)) (at1 nm s (ai_or b (ai_shl 1 (dgc n tx p)))) _ _ hσ (if_pos rfl) (if_pos rfl) Q ?_
          have u1 : at1 (at1 wd s (i + 1)) s k = at1 wd s k := at1_2
          have u2 : at1 (at1 nm s (ai_or b (ai_shl 1 (dgc n tx p)))) s b' = at1 nm s b' := at1_2
          rw [ecl, u1, u2, show p + 1 + (k - (i + 1)) = p + (k - i) by omega]
          exact hQ
        · show ¬ ¬ ai_and (ai_shr (nm s) (dgc n tx p)) 1 = 0
          rw [h2]
          exact fun q => q ((bit_eq hb hc5).mpr g3)
      · have hsg : rT (up (up σ 79 wr) 81 cr) n tx := hσ
        refine rh_145_12 (fn_ret (rf_isdig hT hsg hp) (rb_145_14 ⟨bi_r _, fun z => absurd g1 (bi_no z), fun _ => fn_ret (rf_peek hT hsg hp) (rb_145_17 ⟨ht, ⟨(by rw [q2]; exact ⟨by omega, by omega⟩), (show ai_r (σ 60 t) by rw [h60]; exact ⟨by omega, by omega⟩)⟩, fun z => absurd z (show ¬ σ 60 t ≤ (if n ≤ p then 0 else tx p) - 48 by rw [q2, h60]; omega), fun _ => fn_ret (rf_peek hT hsg hp) (rb_145_27 ⟨(by rw [q2]; exact bit_r hb hc5), fun z => absurd (show ai_and (ai_shr b ((if n ≤ p then 0 else tx p) - 48)) 1 = 0 by rw [q2]; exact (bit_eq hb hc5).mpr g3) z, fun _ => fn_ret (rf_peek hT hsg hp) (rb_145_35 ⟨hs, (show 0 ≤ 5 * s + wr s ∧ 5 * s + wr s < 30 by omega), hs, hs, ?_⟩)⟩)⟩)⟩))
        rw [q2]
        show ai_wp sc 145 12 _ [] (0, 0) (92, [], ai_set (ai_set (ai_set (RP (up (up σ 79 wr) 81 cr) p F G) 81 (5 * s + wr s) (dgc n tx p)) 79 s (wr s + 1)) 59 17 (p + 1)) Q
        rw [rpz (q := 81) (by decide) (by decide) (by decide), up_s, rpz (q := 79) (by decide) (by decide) (by decide), up_c (p := 81) (q := 79) (by decide), up_s, rpq1, h1]
        have hw2 : (fun j => if j = s then i + 1 else wr j) s = i + 1 := if_pos rfl
        refine k8 σ F G _ _ _ hσ h60 hw2 Q ?_
        have u1 : at1 (fun j => if j = s then i + 1 else wr j) s k = at1 wr s k := at1_2
        rw [ecl, u1, show p + 1 + (k - (i + 1)) = p + (k - i) by omega]
        exact hQ
    · -- no more
      refine ⟨i, b, fun _ => 0, ⟨Int.le_refl i, by omega⟩, by omega, hb, fun j j1 j2 => absurd j2 (by omega), fun j l j1 j2 => absurd j2 (by omega), fun c c1 c2 => ⟨fun q => Or.inl q, fun q => q.elim id (fun ⟨j, j1, j2, _⟩ => absurd j2 (by omega))⟩, fun σ x y cl wd nm x1 x6 hσ h1 h2 Q hQ => ?_, fun σ F G cr wr x4 hσ h60 h1 Q hQ => ?_⟩
      · rw [cln_0, at1_id h1, at1_id h2, show p + (i - i) = p by omega] at hQ
        have stop : (ai_r i) ∧ ((i ≤ 0) → ((0 ≤ (0 : Int) ∧ (0 : Int) ≤ 1) ∧ (Q (.inl (some (.inl 0)), (92, [], RD (up (up (up σ 43 wd) 44 cl) 45 nm) p x y))))) ∧ (¬ (i ≤ 0) → ((0 ≤ (1 : Int) ∧ (1 : Int) ≤ 1) ∧ (Q (.inl (some (.inl 1)), (92, [], RD (up (up (up σ 43 wd) 44 cl) 45 nm) p x y))))) := ⟨⟨by omega, by omega⟩, fun g => ⟨z01, by rw [if_pos g] at hQ; exact hQ⟩, fun g => ⟨z11, by rw [if_neg g] at hQ; exact hQ⟩⟩
        refine rh_76_13_41 ⟨⟨⟨by omega, by omega⟩, ⟨by omega, by omega⟩⟩, fun g => absurd g (by omega), fun _ => fn_ret (cf_digit (σ := up (up (up σ 43 wd) 44 cl) 45 nm) hT hσ hp) (rb_76_18_41 ⟨⟨⟨by omega, by omega⟩, rm1⟩, fun _ => stop, fun z => ⟨⟨⟨by omega, by omega⟩, ⟨by omega, by omega⟩⟩, fun _ => stop, fun z2 => ai_ret_q (pc_58_41 hs (ai_k_in (rb_76_29_41 ⟨bi_r _, fun z3 => absurd ⟨z, (show dgc n tx p < W by omega), ?_⟩ hgo, fun _ => stop⟩)))⟩⟩)⟩
        have z4 : ¬ ¬ ai_and (ai_shr (nm s) (dgc n tx p)) 1 = 0 := bi_no z3
        rw [h2] at z4
        exact (bit_eq hb ⟨by omega, by omega⟩).mp (Decidable.not_not.mp z4)
      · rw [cln_0, at1_id h1, show p + (i - i) = p by omega] at hQ
        have hend := rend σ F G cr wr i p b Q hσ hp hi5 h1 hQ
        have hsg : rT (up (up σ 79 wr) 81 cr) n tx := hσ
        refine rh_145_12 (fn_ret (rf_isdig hT hsg hp) (rb_145_14 ⟨bi_r _, fun _ => hend, fun g => fn_ret (rf_peek hT hsg hp) ?_⟩))
        obtain ⟨q1, q2⟩ := dgc_at (bi_yes g)
        have q4 := bi_yes g
        refine rb_145_17 ⟨ht, ⟨(by rw [q2]; exact ⟨by omega, by omega⟩), (show ai_r (σ 60 t) by rw [h60]; exact ⟨by omega, by omega⟩)⟩, fun _ => hend, fun z => fn_ret (rf_peek hT hsg hp) ?_⟩
        have z2 : ¬ W ≤ dgc n tx p := by
          have z3 : ¬ σ 60 t ≤ (if n ≤ p then 0 else tx p) - 48 := z
          rw [q2, h60] at z3
          exact z3
        refine rb_145_27 ⟨(by rw [q2]; exact bit_r hb ⟨by omega, by omega⟩), fun _ => hend, fun z5 => absurd ⟨q4, (show dgc n tx p < W by omega), ?_⟩ hgo⟩
        have z6 : ¬ ¬ ai_and (ai_shr b ((if n ≤ p then 0 else tx p) - 48)) 1 = 0 := z5
        rw [q2] at z6
        exact (bit_eq hb ⟨by omega, by omega⟩).mp (Decidable.not_not.mp z6)
theorem cf_addcol_50 {sc : Int × (Int → Int)} {σ : ai_S} {p x y s c i b : Int} {cl wd nm : Int → Int} (hs : 0 ≤ s ∧ s < 6) (hw : wd s = i) (hi : 0 ≤ i ∧ i < 5) (hb : nm s = b) : fn sc 52 [some (.inr (.inr 50)), some (.inl s), some (.inl c)] (RD (up (up (up σ 52 wd) 53 cl) 54 nm) p x y) none (RD (up (up (up σ 52 (at1 wd s (i + 1))) 53 (fun j => if j = 5 * s + i then c else cl j)) 54 (at1 nm s (ai_or b (ai_shl 1 c)))) p x y) := by
  intro Q hQ
  subst hw
  subst hb
  refine rb_52_0_50 ⟨hs, (show 0 ≤ s * 5 + wd s ∧ s * 5 + wd s < 30 by omega), hs, hs, hs, hs, ?_⟩
  show Q (.inl none, (92, [], ai_set (ai_set (ai_set (RD (up (up (up σ 52 wd) 53 cl) 54 nm) p x y) 53 (s * 5 + wd s) c) 52 s (wd s + 1)) 54 s (ai_or (nm s) (ai_shl 1 c))))
  rw [rdq (q := 53) (by decide), up_c (p := 54) (q := 53) (by decide), up_s, rdq (q := 52) (by decide), up_c (p := 54) (q := 52) (by decide), up_c (p := 53) (q := 52) (by decide), up_s, rdq (q := 54) (by decide), up_s, show s * 5 + wd s = 5 * s + wd s by omega]
  exact hQ
theorem rd_cols_50 {sc : Int × (Int → Int)} {n : Int} {tx : Int → Int} {W s t : Int} (hT : TX n tx) (hW : 1 ≤ W ∧ W ≤ 5) (hs : 0 ≤ s ∧ s < 6) (ht : 0 ≤ t ∧ t < 5) :
    ∀ (m : Nat) (i p b : Int), 0 ≤ i → i + (m : Int) = W → (0 ≤ p ∧ p ≤ n) → (0 ≤ b ∧ b < 32) → pop b = i → (∀ c, W ≤ c → c < 5 → tb b c = false) → ∃ k b', ∃ cf : Int → Int, (i ≤ k ∧ k ≤ W) ∧ p + (k - i) ≤ n ∧ (0 ≤ b' ∧ b' < 32) ∧ (∀ j, i ≤ j → j < k → (0 ≤ cf j ∧ cf j < W) ∧ tb b (cf j) = false) ∧ (∀ j l, i ≤ j → j < k → i ≤ l → l < k → cf j = cf l → j = l) ∧ (∀ c, 0 ≤ c → c < 5 → (tb b' c = true ↔ tb b c = true ∨ ∃ j, i ≤ j ∧ j < k ∧ cf j = c)) ∧
      (∀ (σ : ai_S) (x y : Int) (cl wd nm : Int → Int) (x1 x6 : Option ai_V), cT σ n tx → wd s = i → nm s = b → ∀ Q : ai_O → Prop, Q (.inl (some (.inl (if k ≤ 0 then 0 else 1))), (92, [], RD (up (up (up σ 52 (at1 wd s k)) 53 (cln cl cf s i k)) 54 (at1 nm s b')) (p + (k - i)) x y)) → ai_wp sc 76 13 [some (.inr (.inr 34)), x1, some (.inr (.inr 50)), some (.inl s), some (.inl W), some (.inl i), x6] [] (0, 0) (92, [], RD (up (up (up σ 52 wd) 53 cl) 54 nm) p x y) Q) ∧
      (∀ (σ : ai_S) (F G cr wr : Int → Int) (x4 : Option ai_V), rT σ n tx → σ 60 t = W → wr s = i → ∀ Q : ai_O → Prop, Q (.inl (some (.inl (if k ≤ 0 then 0 else ac n tx (p + (k - i)) 41))), (92, [], RP (up (up σ 79 (at1 wr s k)) 81 (cln cr cf s i k)) (p + (k - i) + (if k ≤ 0 then 0 else ac n tx (p + (k - i)) 41)) F G)) → ai_wp sc 145 12 [some (.inr (.inr 59)), some (.inl s), some (.inl t), some (.inl b), x4] [] (0, 0) (92, [], RP (up (up σ 79 wr) 81 cr) p F G) Q) := by
  have hn := hT.1
  -- the reference's end
  have rend : ∀ (σ : ai_S) (F G cr wr : Int → Int) (i p b : Int) (Q : ai_O → Prop), rT σ n tx → (0 ≤ p ∧ p ≤ n) → (0 ≤ i ∧ i ≤ 5) → wr s = i → Q (.inl (some (.inl (if i ≤ 0 then 0 else ac n tx p 41))), (92, [], RP (up (up σ 79 wr) 81 cr) (p + (if i ≤ 0 then 0 else ac n tx p 41)) F G)) → (0 ≤ s ∧ s < 6) ∧ ((ai_r ((RP (up (up σ 79 wr) 81 cr) p F G) 79 s)) ∧ (((RP (up (up σ 79 wr) 81 cr) p F G) 79 s ≤ 0) → ((0 ≤ (0 : Int) ∧ (0 : Int) ≤ 1) ∧ (Q (.inl (some (.inl 0)), (92, [], RP (up (up σ 79 wr) 81 cr) p F G))))) ∧ (¬ ((RP (up (up σ 79 wr) 81 cr) p F G) 79 s ≤ 0) → (ai_ret (ai_wp sc) 136 [some (.inr (.inr 59)), some (.inl 41)] (92, [], RP (up (up σ 79 wr) 81 cr) p F G) (fun v h' => ai_ck (ai_zz 92 h'.1 0) (ai_wp sc 145 79 [some (.inr (.inr 59)), some (.inl s), some (.inl t), some (.inl b), none] (v.toList ++ []) (0, 0) h' Q))))) := by
    intro σ F G cr wr i p b Q hσ hp hi hwi hQ
    subst hwi
    refine ⟨hs, (show ai_r (wr s) from ⟨by omega, by omega⟩), fun g => ⟨z01, ?_⟩, fun g => fn_ret (rf_skips (c := 41) hT hσ hp (by decide)) (rb_145_79 ⟨?_, fun e => ⟨z01, ?_⟩, fun e => ⟨z11, ?_⟩⟩)⟩
    · have g2 : wr s ≤ 0 := g
      rw [if_pos g2, Int.add_zero] at hQ
      exact hQ
    · have := ac_01 n tx p 41
      exact ⟨by omega, by omega⟩
    · have g2 : ¬ wr s ≤ 0 := g
      have e2 : ac n tx p 41 = 0 := e
      rw [if_neg g2, e2] at hQ
      rw [e2]
      exact hQ
    · have g2 : ¬ wr s ≤ 0 := g
      have e2 : ac n tx p 41 = 1 := by
        have := ac_01 n tx p 41
        have e3 : ¬ ac n tx p 41 = 0 := e
        omega
      rw [if_neg g2, e2] at hQ
      rw [e2]
      exact hQ
  intro m
  induction m with
  | zero =>
    intro i p b hi hm hp hb hpop hz
    have hi5 : 0 ≤ i ∧ i ≤ 5 := ⟨hi, by omega⟩
    refine ⟨i, b, fun _ => 0, ⟨Int.le_refl i, by omega⟩, by omega, hb, fun j j1 j2 => absurd j2 (by omega), fun j l j1 j2 => absurd j2 (by omega), fun c c1 c2 => ⟨fun q => Or.inl q, fun q => q.elim id (fun ⟨j, j1, j2, _⟩ => absurd j2 (by omega))⟩, fun σ x y cl wd nm x1 x6 hσ h1 h2 Q hQ => ?_, fun σ F G cr wr x4 hσ h60 h1 Q hQ => ?_⟩
    · rw [cln_0, at1_id h1, at1_id h2, if_neg (by omega), show p + (i - i) = p by omega] at hQ
      exact rh_76_13_50 ⟨⟨⟨by omega, by omega⟩, ⟨by omega, by omega⟩⟩, fun _ => ⟨z11, hQ⟩, fun g => absurd (show W ≤ i by omega) g⟩
    · rw [cln_0, at1_id h1, show p + (i - i) = p by omega] at hQ
      have hend := rend σ F G cr wr i p b Q hσ hp hi5 h1 hQ
      have hsg : rT (up (up σ 79 wr) 81 cr) n tx := hσ
      refine rh_145_12 (fn_ret (rf_isdig hT hsg hp) (rb_145_14 ⟨bi_r _, fun _ => hend, fun g => fn_ret (rf_peek hT hsg hp) ?_⟩))
      obtain ⟨q1, q2⟩ := dgc_at (bi_yes g)
      have q3 := @dgc_rng n tx p
      have q4 := bi_yes g
      refine rb_145_17 ⟨ht, ⟨(by rw [q2]; exact ⟨by omega, by omega⟩), (show ai_r (σ 60 t) by rw [h60]; exact ⟨by omega, by omega⟩)⟩, fun _ => hend, fun z => fn_ret (rf_peek hT hsg hp) ?_⟩
      have z2 : ¬ W ≤ dgc n tx p := by
        have z3 : ¬ σ 60 t ≤ (if n ≤ p then 0 else tx p) - 48 := z
        rw [q2, h60] at z3
        exact z3
      have hbit := pop_all (n := b) ⟨by omega, hW.2⟩ hz (by omega) (c := dgc n tx p) ⟨by omega, by omega⟩
      refine rb_145_27 ⟨(by rw [q2]; exact bit_r hb ⟨by omega, by omega⟩), fun _ => hend, fun y => absurd ?_ y⟩
      rw [q2]
      exact (bit_ne hb ⟨by omega, by omega⟩).mpr hbit
  | succ m ih =>
    intro i p b hi hm hp hb hpop hz
    have hi5 : 0 ≤ i ∧ i ≤ 5 := ⟨hi, by omega⟩
    have hr := @dgc_rng n tx p
    by_cases hgo : ¬ dgc n tx p = -1 ∧ dgc n tx p < W ∧ tb b (dgc n tx p) = false
    · -- a column
      obtain ⟨g1, g2, g3⟩ := hgo
      obtain ⟨q1, q2⟩ := dgc_at g1
      have hc5 : 0 ≤ dgc n tx p ∧ dgc n tx p < 5 := ⟨by omega, by omega⟩
      obtain ⟨f1, f2, f3, f4⟩ := bit_facts hb hc5
      obtain ⟨k, b', cf, k1, k2, k3, k4, k5, k6, k7, k8⟩ := ih (i + 1) (p + 1) (ai_or b (ai_shl 1 (dgc n tx p))) (by omega) (by omega) ⟨by omega, by omega⟩ f2 (by rw [pop_or hb hc5 g3, hpop]) (fun c c1 c2 => by
        rw [(f4 c ⟨by omega, c2⟩).1, hz c c1 c2, decide_eq_false (by omega)]
        rfl)
      have hcf : ∀ j, i + 1 ≤ j → j < k → ¬ cf j = dgc n tx p ∧ tb b (cf j) = false := fun j j1 j2 => by
        obtain ⟨a1, a2⟩ := k4 j j1 j2
        rw [(f4 (cf j) ⟨a1.1, by omega⟩).1] at a2
        rw [Bool.or_eq_false_iff] at a2
        exact ⟨of_decide_eq_false a2.2, a2.1⟩
      have ecf : ∀ j, i + 1 ≤ j → (fun j => if j = i then dgc n tx p else cf j) j = cf j := fun j j1 => if_neg (by omega)
      have ei : (fun j => if j = i then dgc n tx p else cf j) i = dgc n tx p := if_pos rfl
      have ecl : ∀ f : Int → Int, cln (fun j => if j = 5 * s + i then dgc n tx p else f j) cf s (i + 1) k = cln f (fun j => if j = i then dgc n tx p else cf j) s i k := fun f => by
        funext j
        show (if 5 * s + (i + 1) ≤ j ∧ j < 5 * s + k then cf (j - 5 * s) else (if j = 5 * s + i then dgc n tx p else f j)) = if 5 * s + i ≤ j ∧ j < 5 * s + k then (if j - 5 * s = i then dgc n tx p else cf (j - 5 * s)) else f j
        by_cases a : 5 * s + i ≤ j ∧ j < 5 * s + k
        · rw [if_pos a]
          by_cases e : j = 5 * s + i
          · rw [if_neg (show ¬ (5 * s + (i + 1) ≤ j ∧ j < 5 * s + k) by omega), if_pos e, if_pos (show j - 5 * s = i by omega)]
          · rw [if_pos (show 5 * s + (i + 1) ≤ j ∧ j < 5 * s + k by omega), if_neg (show ¬ j - 5 * s = i by omega)]
        · rw [if_neg a, if_neg (show ¬ (5 * s + (i + 1) ≤ j ∧ j < 5 * s + k) by omega), if_neg (show ¬ j = 5 * s + i by omega)]
      refine ⟨k, b', fun j => if j = i then dgc n tx p else cf j, ⟨by omega, k1.2⟩, by omega, k3, fun j j1 j2 => ?_, fun j l j1 j2 l1 l2 e => ?_, fun c c1 c2 => ?_, fun σ x y cl wd nm x1 x6 hσ h1 h2 Q hQ => ?_, fun σ F G cr wr x4 hσ h60 h1 Q hQ => ?_⟩
      · by_cases e : j = i
        · show (0 ≤ (if j = i then dgc n tx p else cf j) ∧ (if j = i then dgc n tx p else cf j) < W) ∧ tb b (if j = i then dgc n tx p else cf j) = false
          rw [if_pos e]
          exact ⟨⟨by omega, g2⟩, g3⟩
        · show (0 ≤ (if j = i then dgc n tx p else cf j) ∧ (if j = i then dgc n tx p else cf j) < W) ∧ tb b (if j = i then dgc n tx p else cf j) = false
          rw [if_neg e]
          exact ⟨(k4 j (by omega) j2).1, (hcf j (by omega) j2).2⟩
      · have e2 : (if j = i then dgc n tx p else cf j) = (if l = i then dgc n tx p else cf l) := e
        by_cases a : j = i
        · by_cases c : l = i
          · omega
          · rw [if_pos a, if_neg c] at e2
            exact absurd e2.symm (hcf l (by omega) l2).1
        · by_cases c : l = i
          · rw [if_neg a, if_pos c] at e2
            exact absurd e2 (hcf j (by omega) j2).1
          · rw [if_neg a, if_neg c] at e2
            exact k5 j l (by omega) j2 (by omega) l2 e2
      · rw [k6 c c1 c2, (f4 c ⟨c1, c2⟩).1, Bool.or_eq_true]
        constructor
        · rintro ((q | q) | ⟨j, j1, j2, j3⟩)
          · exact Or.inl q
          · exact Or.inr ⟨i, Int.le_refl i, by omega, (if_pos rfl).trans (of_decide_eq_true q).symm⟩
          · exact Or.inr ⟨j, by omega, j2, (if_neg (show ¬ j = i by omega)).trans j3⟩
        · rintro (q | ⟨j, j1, j2, j3⟩)
          · exact Or.inl (Or.inl q)
          · have j4 : (if j = i then dgc n tx p else cf j) = c := j3
            by_cases e : j = i
            · refine Or.inl (Or.inr (decide_eq_true ?_))
              rw [if_pos e] at j4
              exact j4.symm
            · rw [if_neg e] at j4
              exact Or.inr ⟨j, by omega, j2, j4⟩
      · refine rh_76_13_50 ⟨⟨⟨by omega, by omega⟩, ⟨by omega, by omega⟩⟩, fun g => absurd g (by omega), fun _ => fn_ret (cf_digit (σ := up (up (up σ 52 wd) 53 cl) 54 nm) hT hσ hp) (rb_76_18_50 ⟨⟨⟨by omega, by omega⟩, rm1⟩, fun z => absurd z g1, fun _ => ⟨⟨⟨by omega, by omega⟩, ⟨by omega, by omega⟩⟩, fun z => absurd z (by omega), fun _ => ai_ret_q (pc_58_50 hs (ai_k_in (rb_76_29_50 ⟨bi_r _, fun _ => fn_ret (cf_addcol_50 hs h1 ⟨hi, by omega⟩ h2) (rb_76_40_50 ?_), fun z => absurd (bi_yes z) ?_⟩)))⟩⟩)⟩
        · show ai_wp sc 76 13 _ [] (0, 0) (92, [], ai_set (RD (up (up (up σ 52 (at1 wd s (i + 1))) 53 (fun j => if j = 5 * s + i then dgc n tx p else cl j)) 54 (at1 nm s (ai_or b (ai_shl 1 (dgc n tx p))))) p x y) 34 1 (p + 1)) Q
          rw [rd1]
          refine k7 σ x y (fun j => if j = 5 * s + i then dgc n tx p else cl j) (at1 wd s (i + 1)) (at1 nm s (ai_or b (ai_shl 1 (dgc n tx p)))) _ _ hσ (if_pos rfl) (if_pos rfl) Q ?_
          have u1 : at1 (at1 wd s (i + 1)) s k = at1 wd s k := at1_2
          have u2 : at1 (at1 nm s (ai_or b (ai_shl 1 (dgc n tx p)))) s b' = at1 nm s b' := at1_2
          rw [ecl, u1, u2, show p + 1 + (k - (i + 1)) = p + (k - i) by omega]
          exact hQ
        · show ¬ ¬ ai_and (ai_shr (nm s) (dgc n tx p)) 1 = 0
          rw [h2]
          exact fun q => q ((bit_eq hb hc5).mpr g3)
      · have hsg : rT (up (up σ 79 wr) 81 cr) n tx := hσ
        refine rh_145_12 (fn_ret (rf_isdig hT hsg hp) (rb_145_14 ⟨bi_r _, fun z => absurd g1 (bi_no z), fun _ => fn_ret (rf_peek hT hsg hp) (rb_145_17 ⟨ht, ⟨(by rw [q2]; exact ⟨by omega, by omega⟩), (show ai_r (σ 60 t) by rw [h60]; exact ⟨by omega, by omega⟩)⟩, fun z => absurd z (show ¬ σ 60 t ≤ (if n ≤ p then 0 else tx p) - 48 by rw [q2, h60]; omega), fun _ => fn_ret (rf_peek hT hsg hp) (rb_145_27 ⟨(by rw [q2]; exact bit_r hb hc5), fun z => absurd (show ai_and (ai_shr b ((if n ≤ p then 0 else tx p) - 48)) 1 = 0 by rw [q2]; exact (bit_eq hb hc5).mpr g3) z, fun _ => fn_ret (rf_peek hT hsg hp) (rb_145_35 ⟨hs, (show 0 ≤ 5 * s + wr s ∧ 5 * s + wr s < 30 by omega), hs, hs, ?_⟩)⟩)⟩)⟩))
        rw [q2]
        show ai_wp sc 145 12 _ [] (0, 0) (92, [], ai_set (ai_set (ai_set (RP (up (up σ 79 wr) 81 cr) p F G) 81 (5 * s + wr s) (dgc n tx p)) 79 s (wr s + 1)) 59 17 (p + 1)) Q
        rw [rpz (q := 81) (by decide) (by decide) (by decide), up_s, rpz (q := 79) (by decide) (by decide) (by decide), up_c (p := 81) (q := 79) (by decide), up_s, rpq1, h1]
        have hw2 : (fun j => if j = s then i + 1 else wr j) s = i + 1 := if_pos rfl
        refine k8 σ F G _ _ _ hσ h60 hw2 Q ?_
        have u1 : at1 (fun j => if j = s then i + 1 else wr j) s k = at1 wr s k := at1_2
        rw [ecl, u1, show p + 1 + (k - (i + 1)) = p + (k - i) by omega]
        exact hQ
    · -- no more
      refine ⟨i, b, fun _ => 0, ⟨Int.le_refl i, by omega⟩, by omega, hb, fun j j1 j2 => absurd j2 (by omega), fun j l j1 j2 => absurd j2 (by omega), fun c c1 c2 => ⟨fun q => Or.inl q, fun q => q.elim id (fun ⟨j, j1, j2, _⟩ => absurd j2 (by omega))⟩, fun σ x y cl wd nm x1 x6 hσ h1 h2 Q hQ => ?_, fun σ F G cr wr x4 hσ h60 h1 Q hQ => ?_⟩
      · rw [cln_0, at1_id h1, at1_id h2, show p + (i - i) = p by omega] at hQ
        have stop : (ai_r i) ∧ ((i ≤ 0) → ((0 ≤ (0 : Int) ∧ (0 : Int) ≤ 1) ∧ (Q (.inl (some (.inl 0)), (92, [], RD (up (up (up σ 52 wd) 53 cl) 54 nm) p x y))))) ∧ (¬ (i ≤ 0) → ((0 ≤ (1 : Int) ∧ (1 : Int) ≤ 1) ∧ (Q (.inl (some (.inl 1)), (92, [], RD (up (up (up σ 52 wd) 53 cl) 54 nm) p x y))))) := ⟨⟨by omega, by omega⟩, fun g => ⟨z01, by rw [if_pos g] at hQ; exact hQ⟩, fun g => ⟨z11, by rw [if_neg g] at hQ; exact hQ⟩⟩
        refine rh_76_13_50 ⟨⟨⟨by omega, by omega⟩, ⟨by omega, by omega⟩⟩, fun g => absurd g (by omega), fun _ => fn_ret (cf_digit (σ := up (up (up σ 52 wd) 53 cl) 54 nm) hT hσ hp) (rb_76_18_50 ⟨⟨⟨by omega, by omega⟩, rm1⟩, fun _ => stop, fun z => ⟨⟨⟨by omega, by omega⟩, ⟨by omega, by omega⟩⟩, fun _ => stop, fun z2 => ai_ret_q (pc_58_50 hs (ai_k_in (rb_76_29_50 ⟨bi_r _, fun z3 => absurd ⟨z, (show dgc n tx p < W by omega), ?_⟩ hgo, fun _ => stop⟩)))⟩⟩)⟩
        have z4 : ¬ ¬ ai_and (ai_shr (nm s) (dgc n tx p)) 1 = 0 := bi_no z3
        rw [h2] at z4
        exact (bit_eq hb ⟨by omega, by omega⟩).mp (Decidable.not_not.mp z4)
      · rw [cln_0, at1_id h1, show p + (i - i) = p by omega] at hQ
        have hend := rend σ F G cr wr i p b Q hσ hp hi5 h1 hQ
        have hsg : rT (up (up σ 79 wr) 81 cr) n tx := hσ
        refine rh_145_12 (fn_ret (rf_isdig hT hsg hp) (rb_145_14 ⟨bi_r _, fun _ => hend, fun g => fn_ret (rf_peek hT hsg hp) ?_⟩))
        obtain ⟨q1, q2⟩ := dgc_at (bi_yes g)
        have q4 := bi_yes g
        refine rb_145_17 ⟨ht, ⟨(by rw [q2]; exact ⟨by omega, by omega⟩), (show ai_r (σ 60 t) by rw [h60]; exact ⟨by omega, by omega⟩)⟩, fun _ => hend, fun z => fn_ret (rf_peek hT hsg hp) ?_⟩
        have z2 : ¬ W ≤ dgc n tx p := by
          have z3 : ¬ σ 60 t ≤ (if n ≤ p then 0 else tx p) - 48 := z
          rw [q2, h60] at z3
          exact z3
        refine rb_145_27 ⟨(by rw [q2]; exact bit_r hb ⟨by omega, by omega⟩), fun _ => hend, fun z5 => absurd ⟨q4, (show dgc n tx p < W by omega), ?_⟩ hgo⟩
        have z6 : ¬ ¬ ai_and (ai_shr b ((if n ≤ p then 0 else tx p) - 48)) 1 = 0 := z5
        rw [q2] at z6
        exact (bit_eq hb ⟨by omega, by omega⟩).mp (Decidable.not_not.mp z6)
