/-! READ: the rows of a section, class and reference in step. -/
theorem tb31 {c : Int} (h : 0 ≤ c ∧ c < 5) : tb 31 c = true := by
  have e : c = 0 ∨ c = 1 ∨ c = 2 ∨ c = 3 ∨ c = 4 := by omega
  rcases e with rfl | rfl | rfl | rfl | rfl <;> decide
theorem okc_0 {ty : Int} : okc ty 0 := ⟨fun _ => by decide, fun _ => by decide, fun _ => ⟨by decide, fun i _ _ _ => by
  have e : chr 0 (i + 1) = 0 := by
    have := okT_0.2.2 (i + 1) (by omega) (by omega)
    exact this
  exact e⟩, fun _ => Or.inl rfl⟩
theorem ac_yes {n : Int} {tx : Int → Int} {p c : Int} (h : p < n ∧ tx p = c) : ac n tx p c = 1 := if_pos h
theorem ac_no {n : Int} {tx : Int → Int} {p c : Int} (h : ¬ (p < n ∧ tx p = c)) : ac n tx p c = 0 := if_neg h
theorem rk_rp {τ σ : ai_S} {S N p q : Int} {st sw sf sl xc xn F G : Int → Int} (h : RK τ S N p st sw sf sl xc xn σ) : RK τ S N q st sw sf sl F G (RP σ q F G) := by
  obtain ⟨h1, h2, h3, ⟨h4, h5⟩, k1, k2, k3, k4, k5, k6⟩ := h
  exact ⟨fun k hk => (rp_ne (by omega)).trans (h1 k hk), fun j hj => (rp_59 (by omega)).trans (h2 j hj), rfl, ⟨h4, h5⟩, k1, k2, k3, k4, rfl, rfl⟩
theorem rk_T {τ σ : ai_S} {n : Int} {tx : Int → Int} {S N p : Int} {st sw sf sl xc xn : Int → Int} (hT : rT τ n tx) (h : RK τ S N p st sw sf sl xc xn σ) : rT σ n tx := ⟨(h.2.1 15 (by decide)).trans hT.1, (h.1 71 (by omega)).trans hT.2⟩
theorem rk_peek {sc : Int × (Int → Int)} {τ σ : ai_S} {n : Int} {tx : Int → Int} {S N p : Int} {st sw sf sl xc xn : Int → Int} (hX : TX n tx) (hT : rT τ n tx) (hp : 0 ≤ p ∧ p ≤ n) (h : RK τ S N p st sw sf sl xc xn σ) : fn sc 135 [some (.inr (.inr 59))] σ (some (.inl (if n ≤ p then 0 else tx p))) σ := by
  have e := rf_peek (sc := sc) (F := σ 82) (G := σ 83) hX (rk_T hT h) hp
  rw [rp_id h.2.2.1] at e
  exact e
theorem rk_isdig {sc : Int × (Int → Int)} {τ σ : ai_S} {n : Int} {tx : Int → Int} {S N p : Int} {st sw sf sl xc xn : Int → Int} (hX : TX n tx) (hT : rT τ n tx) (hp : 0 ≤ p ∧ p ≤ n) (h : RK τ S N p st sw sf sl xc xn σ) : fn sc 137 [some (.inr (.inr 59))] σ (some (.inl (bi (¬ dgc n tx p = -1)))) σ := by
  have e := rf_isdig (sc := sc) (F := σ 82) (G := σ 83) hX (rk_T hT h) hp
  rw [rp_id h.2.2.1] at e
  exact e
theorem rk_skip {sc : Int × (Int → Int)} {τ σ : ai_S} {n : Int} {tx : Int → Int} {S N p c : Int} {st sw sf sl xc xn : Int → Int} (hX : TX n tx) (hT : rT τ n tx) (hp : 0 ≤ p ∧ p ≤ n) (hc : 0 < c ∧ c ≤ 65535) (h : RK τ S N p st sw sf sl xc xn σ) : fn sc 136 [some (.inr (.inr 59)), some (.inl c)] σ (some (.inl (ac n tx p c))) (RP σ (p + ac n tx p c) (σ 82) (σ 83)) := by
  have e := rf_skips (sc := sc) (F := σ 82) (G := σ 83) hX (rk_T hT h) hp hc
  rw [rp_id h.2.2.1] at e
  exact e
theorem rk_skip0 {sc : Int × (Int → Int)} {τ σ : ai_S} {n : Int} {tx : Int → Int} {S N p c : Int} {st sw sf sl xc xn : Int → Int} (hX : TX n tx) (hT : rT τ n tx) (hp : 0 ≤ p ∧ p ≤ n) (hc : 0 < c ∧ c ≤ 65535) (h : RK τ S N p st sw sf sl xc xn σ) (h0 : ac n tx p c = 0) : fn sc 136 [some (.inr (.inr 59)), some (.inl c)] σ (some (.inl 0)) σ := by
  have e := rk_skip (sc := sc) hX hT hp hc h
  rw [h0, Int.add_zero, rp_id h.2.2.1] at e
  exact e
theorem rk_skip1 {sc : Int × (Int → Int)} {τ σ : ai_S} {n : Int} {tx : Int → Int} {S N p c : Int} {st sw sf sl xc xn : Int → Int} (hX : TX n tx) (hT : rT τ n tx) (hp : 0 ≤ p ∧ p ≤ n) (hc : 0 < c ∧ c ≤ 65535) (h : RK τ S N p st sw sf sl xc xn σ) (h1 : ac n tx p c = 1) : fn sc 136 [some (.inr (.inr 59)), some (.inl c)] σ (some (.inl 1)) (RP σ (p + 1) (σ 82) (σ 83)) ∧ RK τ S N (p + 1) st sw sf sl xc xn (RP σ (p + 1) (σ 82) (σ 83)) := by
  have e := rk_skip (sc := sc) hX hT hp hc h
  rw [h1] at e
  refine ⟨e, ?_⟩
  have k := rk_rp (q := p + 1) (F := σ 82) (G := σ 83) h
  have e82 := h.2.2.2.2.2.2.2.2.1
  have e83 := h.2.2.2.2.2.2.2.2.2
  rw [e82, e83] at k ⊢
  exact k
theorem ck_T_41 {τ σ : ai_S} {n : Int} {tx : Int → Int} {S N p : Int} {ta wd cl nm fr rs ce nu : Int → Int} (hT : cT τ n tx) (h : CK 41 τ S N p ta wd cl nm fr rs ce nu σ) : cT σ n tx := ⟨h.2.1.trans hT.1, (h.1 35 (by omega)).trans hT.2⟩
theorem ck_acc_41 {sc : Int × (Int → Int)} {τ σ : ai_S} {n : Int} {tx : Int → Int} {S N p c : Int} {ta wd cl nm fr rs ce nu : Int → Int} (hX : TX n tx) (hT : cT τ n tx) (hp : 0 ≤ p ∧ p ≤ n) (hc : 0 ≤ c ∧ c ≤ 65535) (h : CK 41 τ S N p ta wd cl nm fr rs ce nu σ) : fn sc 86 [some (.inr (.inr 34)), some (.inl c)] σ (some (.inl (ac n tx p c))) (RD σ (p + ac n tx p c) (σ 34 3) (σ 34 4)) := by
  have e := cf_accept (sc := sc) (x := σ 34 3) (y := σ 34 4) hX (ck_T_41 hT h) hp hc
  rw [rd_id h.2.2.1] at e
  exact e
theorem ck_acc0_41 {sc : Int × (Int → Int)} {τ σ : ai_S} {n : Int} {tx : Int → Int} {S N p c : Int} {ta wd cl nm fr rs ce nu : Int → Int} (hX : TX n tx) (hT : cT τ n tx) (hp : 0 ≤ p ∧ p ≤ n) (hc : 0 ≤ c ∧ c ≤ 65535) (h : CK 41 τ S N p ta wd cl nm fr rs ce nu σ) (h0 : ac n tx p c = 0) : fn sc 86 [some (.inr (.inr 34)), some (.inl c)] σ (some (.inl 0)) σ := by
  have e := ck_acc_41 (sc := sc) hX hT hp hc h
  rw [h0, Int.add_zero, rd_id h.2.2.1] at e
  exact e
theorem ck_acc1_41 {sc : Int × (Int → Int)} {τ σ : ai_S} {n : Int} {tx : Int → Int} {S N p c : Int} {ta wd cl nm fr rs ce nu : Int → Int} (hX : TX n tx) (hT : cT τ n tx) (hp : 0 ≤ p ∧ p ≤ n) (hc : 0 ≤ c ∧ c ≤ 65535) (h : CK 41 τ S N p ta wd cl nm fr rs ce nu σ) (h1 : ac n tx p c = 1) : fn sc 86 [some (.inr (.inr 34)), some (.inl c)] σ (some (.inl 1)) (RD σ (p + 1) (σ 34 3) (σ 34 4)) := by
  have e := ck_acc_41 (sc := sc) hX hT hp hc h
  rw [h1] at e
  exact e
/-- where no further row begins -/
theorem ck_end_41 {sc : Int × (Int → Int)} {τ σ σ2 : ai_S} {n : Int} {tx : Int → Int} {S N p v : Int} {x3 : Option ai_V} {ta wd cl nm fr rs ce nu : Int → Int} (hX : TX n tx) (hT : cT τ n tx) (hp : 0 ≤ p ∧ p ≤ n) (hN : 0 ≤ N ∧ N ≤ 24) (h : CK 41 τ S N p ta wd cl nm fr rs ce nu σ) (h0 : N = 24 ∨ ac n tx p 58 = 0) (hv : v = 0 ∨ v = 1) (hf : fn sc 86 [some (.inr (.inr 34)), some (.inl 59)] σ (some (.inl v)) σ2) {Q : ai_O → Prop} (hQ : Q (.inl (some (.inl v)), (92, [], σ2))) : ai_wp sc 75 40 [some (.inr (.inr 34)), some (.inr (.inr 2)), some (.inr (.inr 41)), x3, some (.inl N)] [] (0, 0) (92, [], σ) Q := by
  have r24 : ai_r 24 := ⟨by decide, by decide⟩
  have rN : ai_r N := ⟨by omega, by omega⟩
  refine rh_75_40_41 ⟨⟨rN, r24⟩, fun _ => fn_ret hf (rb_75_61_41 ⟨by omega, hQ⟩), fun z => ?_⟩
  have h1 : ac n tx p 58 = 0 := h0.resolve_left (fun q => z (by omega))
  exact fn_ret (ck_acc0_41 hX hT hp (by decide) h h1) (rb_75_46_41 ⟨rr0, fun _ => fn_ret hf (rb_75_61_41 ⟨by omega, hQ⟩), fun q => absurd rfl q⟩)
theorem rd_loop_41 {sc : Int × (Int → Int)} {n : Int} {tx : Int → Int} {T : Int} {w ty : Int → Int} {τ : ai_S} {s : Int} {ta wd cl nm fr st sw sf sl : Int → Int} (hX : TX n tx) (hT : cT τ n tx) (hTT : 0 ≤ T ∧ T ≤ 5) (hw : ∀ t, 0 ≤ w t ∧ w t ≤ 5) (hty : ∀ j, 0 ≤ ty j ∧ ty j ≤ 3) (c5 : τ 5 = ty) (hs : 0 ≤ s ∧ s < 6) :
    ∀ (m : Nat) (N p : Int) (rs ce nu xc xn : Int → Int) (σ : ai_S) (x3 : Option ai_V), N + (m : Int) = 24 → 0 ≤ N → (0 ≤ p ∧ p ≤ n) → CK 41 τ (s + 1) N p ta wd cl nm fr rs ce nu σ → DS T w ty (s + 1) N ta wd cl nm fr rs ce nu (s + 1) N st sw (at1 sf (s + 1) N) sl xc xn → (∀ j, 0 ≤ xn j ∧ xn j ≤ 1) →
      ∃ b p' N' rs' ce' nu' xc' xn' σ', (b = 0 ∨ b = 1) ∧ (p ≤ p' ∧ p' ≤ n) ∧ (∀ Q : ai_O → Prop, Q (.inl (some (.inl b)), (92, [], σ')) → ai_wp sc 75 40 [some (.inr (.inr 34)), some (.inr (.inr 2)), some (.inr (.inr 41)), x3, some (.inl N)] [] (0, 0) (92, [], σ) Q) ∧ CE 41 τ p' σ' ∧ (b = 1 → CK 41 τ (s + 1) N' p' ta wd cl nm fr rs' ce' nu' σ' ∧ DS T w ty (s + 1) N' ta wd cl nm fr rs' ce' nu' (s + 1) N' st sw (at1 sf (s + 1) N') sl xc' xn' ∧ ∀ j, 0 ≤ xn' j ∧ xn' j ≤ 1) ∧
        (∀ (υ ρ : ai_S) (x1 : Option ai_V), rT υ n tx → υ 61 = ty → RK υ s N p st sw sf sl xc xn ρ → ∃ ρ', (∀ Q : ai_O → Prop, Q (.inl (some (.inl b)), (92, [], ρ')) → ai_wp sc 147 55 [some (.inr (.inr 59)), x1, some (.inl s), some (.inl 1)] [] (0, 0) (92, [], ρ) Q) ∧ RE υ p' ρ' ∧ (b = 1 → RK υ (s + 1) N' p' st sw (at1 sf (s + 1) N') sl xc' xn' ρ')) := by
  have hn := hX.1
  have semi : ∀ (N p : Int) (rs ce nu xc xn : Int → Int) (σ : ai_S) (x3 : Option ai_V), (0 ≤ N ∧ N ≤ 24) → (0 ≤ p ∧ p ≤ n) → CK 41 τ (s + 1) N p ta wd cl nm fr rs ce nu σ → DS T w ty (s + 1) N ta wd cl nm fr rs ce nu (s + 1) N st sw (at1 sf (s + 1) N) sl xc xn → (∀ j, 0 ≤ xn j ∧ xn j ≤ 1) → (p < n ∧ tx p = 59) → ∃ b p' N' rs' ce' nu' xc' xn' σ', (b = 0 ∨ b = 1) ∧ (p ≤ p' ∧ p' ≤ n) ∧ (∀ Q : ai_O → Prop, Q (.inl (some (.inl b)), (92, [], σ')) → ai_wp sc 75 40 [some (.inr (.inr 34)), some (.inr (.inr 2)), some (.inr (.inr 41)), x3, some (.inl N)] [] (0, 0) (92, [], σ) Q) ∧ CE 41 τ p' σ' ∧ (b = 1 → CK 41 τ (s + 1) N' p' ta wd cl nm fr rs' ce' nu' σ' ∧ DS T w ty (s + 1) N' ta wd cl nm fr rs' ce' nu' (s + 1) N' st sw (at1 sf (s + 1) N') sl xc' xn' ∧ ∀ j, 0 ≤ xn' j ∧ xn' j ≤ 1) ∧ (∀ (υ ρ : ai_S) (x1 : Option ai_V), rT υ n tx → υ 61 = ty → RK υ s N p st sw sf sl xc xn ρ → ∃ ρ', (∀ Q : ai_O → Prop, Q (.inl (some (.inl b)), (92, [], ρ')) → ai_wp sc 147 55 [some (.inr (.inr 59)), x1, some (.inl s), some (.inl 1)] [] (0, 0) (92, [], ρ) Q) ∧ RE υ p' ρ' ∧ (b = 1 → RK υ (s + 1) N' p' st sw (at1 sf (s + 1) N') sl xc' xn' ρ')) := by
    intro N p rs ce nu xc xn σ x3 hN24 hp hK hD hB h59
    have hrg : ∀ j, rg (ce j) := hD.2.1
    have kk := ck_rd_41 (q := p + 1) (x := σ 34 3) (y := σ 34 4) hK
    refine ⟨1, p + 1, N, rs, ce, nu, xc, xn, RD σ (p + 1) (σ 34 3) (σ 34 4), Or.inr rfl, ⟨by omega, by omega⟩, fun Q hQ => ck_end_41 hX hT hp hN24 hK (Or.inr (ac_no (fun q => by omega))) (Or.inr rfl) (ck_acc1_41 hX hT hp (by decide) hK (ac_yes h59)) hQ, CK_E kk hrg, fun _ => ⟨kk, hD, hB⟩, fun υ ρ x1 hυ _ hR => ?_⟩
    obtain ⟨u1, u2, u3, ⟨u4, u5⟩, v1, v2, v3, v4, v5, v6⟩ := id hR
    have kr : RK υ (s + 1) N (p + 1) st sw (at1 sf (s + 1) N) sl xc xn (ai_set (ai_set (ai_set ρ 59 17 (ρ 59 17 + 1)) 59 28 (ρ 59 28 + 1)) 80 (ρ 59 28 + 1) (ρ 59 29)) := by
      refine ⟨fun k hk => ?_, fun j hj => ?_, ?_, ⟨?_, u5⟩, v1, v2, ?_, v4, v5, v6⟩
      · rw [set_ne (by omega), set_ne (by omega), set_ne (by omega)]
        exact u1 k hk
      · rw [st_pl (by decide), st_ix (by omega), st_ix (by omega)]
        exact u2 j hj
      · show ρ 59 17 + 1 = p + 1
        rw [u3]
      · show ρ 59 28 + 1 = s + 1
        rw [u4]
      · show (fun j => if j = ρ 59 28 + 1 then ρ 59 29 else ρ 80 j) = at1 sf (s + 1) N
        rw [u4, u5, v3]
        rfl
    refine ⟨_, fun Q hQ => rh_147_55 ⟨rr1, fun z => absurd z (by decide), fun _ => fn_ret (rk_peek hX hυ hp hR) (rb_147_59 ⟨⟨?_, ⟨by decide, by decide⟩⟩, fun _ => ⟨rr1, fun _ => ⟨(by rw [u4]; exact ⟨by omega, by omega⟩), z11, hQ⟩, fun z => absurd (show ¬ (1 : Int) = 0 by decide) z⟩, fun z => absurd ?_ z⟩)⟩, RK_E kr hB, fun _ => kr⟩
    · rw [if_neg (by omega)]
      exact ⟨by omega, by omega⟩
    · rw [if_neg (by omega)]
      exact h59.2
  have stop : ∀ (N p : Int) (rs ce nu xc xn : Int → Int) (σ : ai_S) (x3 : Option ai_V), (0 ≤ N ∧ N ≤ 24) → (0 ≤ p ∧ p ≤ n) → CK 41 τ (s + 1) N p ta wd cl nm fr rs ce nu σ → DS T w ty (s + 1) N ta wd cl nm fr rs ce nu (s + 1) N st sw (at1 sf (s + 1) N) sl xc xn → (∀ j, 0 ≤ xn j ∧ xn j ≤ 1) → ¬ (p < n ∧ tx p = 59) → (N = 24 ∨ ac n tx p 58 = 0) → ∃ b p' N' rs' ce' nu' xc' xn' σ', (b = 0 ∨ b = 1) ∧ (p ≤ p' ∧ p' ≤ n) ∧ (∀ Q : ai_O → Prop, Q (.inl (some (.inl b)), (92, [], σ')) → ai_wp sc 75 40 [some (.inr (.inr 34)), some (.inr (.inr 2)), some (.inr (.inr 41)), x3, some (.inl N)] [] (0, 0) (92, [], σ) Q) ∧ CE 41 τ p' σ' ∧ (b = 1 → CK 41 τ (s + 1) N' p' ta wd cl nm fr rs' ce' nu' σ' ∧ DS T w ty (s + 1) N' ta wd cl nm fr rs' ce' nu' (s + 1) N' st sw (at1 sf (s + 1) N') sl xc' xn' ∧ ∀ j, 0 ≤ xn' j ∧ xn' j ≤ 1) ∧ (∀ (υ ρ : ai_S) (x1 : Option ai_V), rT υ n tx → υ 61 = ty → RK υ s N p st sw sf sl xc xn ρ → ∃ ρ', (∀ Q : ai_O → Prop, Q (.inl (some (.inl b)), (92, [], ρ')) → ai_wp sc 147 55 [some (.inr (.inr 59)), x1, some (.inl s), some (.inl 1)] [] (0, 0) (92, [], ρ) Q) ∧ RE υ p' ρ' ∧ (b = 1 → RK υ (s + 1) N' p' st sw (at1 sf (s + 1) N') sl xc' xn' ρ')) := by
    intro N p rs ce nu xc xn σ x3 hN24 hp hK hD hB h59 hend
    have hrg : ∀ j, rg (ce j) := hD.2.1
    refine ⟨0, p, N, rs, ce, nu, xc, xn, σ, Or.inl rfl, ⟨Int.le_refl p, hp.2⟩, fun Q hQ => ck_end_41 hX hT hp hN24 hK hend (Or.inl rfl) (ck_acc0_41 hX hT hp (by decide) hK (ac_no h59)) hQ, CK_E hK hrg, fun z => absurd z (by decide), fun υ ρ x1 hυ _ hR => ⟨ρ, fun Q hQ => ?_, RK_E hR hB, fun z => absurd z (by decide)⟩⟩
    have htx := hX.2 p
    have hpk : ai_r (if n ≤ p then 0 else tx p) := by
      split
      · exact rr0
      · exact ⟨by omega, by omega⟩
    have u5 := hR.2.2.2.1.2
    refine rh_147_55 ⟨rr1, fun z => absurd z (by decide), fun _ => fn_ret (rk_peek hX hυ hp hR) (rb_147_59 ⟨⟨hpk, ⟨by decide, by decide⟩⟩, fun z => absurd ?_ h59, fun _ => ai_ret_q (rb_146_0 ⟨⟨(by rw [u5]; exact ⟨by omega, by omega⟩), ⟨by decide, by decide⟩⟩, fun _ => ⟨z01, ai_k_in (rb_147_64 (rh_147_55 ⟨rr0, fun _ => ⟨rr0, fun z => absurd rfl z, fun _ => ⟨z01, hQ⟩⟩, fun z => absurd rfl z⟩))⟩, fun z => fn_ret (rk_skip0 hX hυ hp (by decide) hR (hend.resolve_left (fun q => z (by rw [u5]; exact q)))) (rb_146_7 ⟨rr0, fun z => absurd rfl z, fun _ => ⟨z01, ai_k_in (rb_147_64 (rh_147_55 ⟨rr0, fun _ => ⟨rr0, fun z => absurd rfl z, fun _ => ⟨z01, hQ⟩⟩, fun z => absurd rfl z⟩))⟩⟩)⟩)⟩)⟩
    have z2 : (if n ≤ p then 0 else tx p) = 59 := z
    by_cases e : n ≤ p
    · rw [if_pos e] at z2
      exact absurd z2 (by decide)
    · rw [if_neg e] at z2
      exact ⟨by omega, z2⟩
  intro m
  induction m with
  | zero =>
    intro N p rs ce nu xc xn σ x3 hm hN0 hp hK hD hB
    have hN24 : 0 ≤ N ∧ N ≤ 24 := ⟨hN0, by omega⟩
    by_cases h59 : p < n ∧ tx p = 59
    · exact semi N p rs ce nu xc xn σ x3 hN24 hp hK hD hB h59
    · exact stop N p rs ce nu xc xn σ x3 hN24 hp hK hD hB h59 (Or.inl (by omega))
  | succ m ih =>
    intro N p rs ce nu xc xn σ x3 hm hN0 hp hK hD hB
    have hrg : ∀ j, rg (ce j) := hD.2.1
    have hN24 : 0 ≤ N ∧ N ≤ 24 := ⟨hN0, by omega⟩
    by_cases h59 : p < n ∧ tx p = 59
    · exact semi N p rs ce nu xc xn σ x3 hN24 hp hK hD hB h59
    · by_cases h58 : p < n ∧ tx p = 58
      · -- a row
        obtain ⟨⟨g1a, g1b, g1c⟩, ⟨g2a, g2b, g2c⟩, g3, g4, g5, g6, g7, g8⟩ := hD.2.2.2 s hs.1 (by omega)
        have hwt := hw (ta s)
        have hp1 : 0 ≤ p + 1 ∧ p + 1 ≤ n := ⟨by omega, by omega⟩
        have hcf : ∀ j, 0 ≤ j → j < wd s → 0 ≤ cl (5 * s + j) ∧ cl (5 * s + j) < 5 := fun j j1 j2 => ⟨(g5 j j1 j2).2.1, by have := (g5 j j1 j2).2.2; omega⟩
        obtain ⟨a, b1, p1, v, nl, oq, hq, hv, _, _, rc, rr⟩ := rd_row_41 (sc := sc) (n := n) (tx := tx) (w := wd s) (s := s) (r := N) (cf := fun j => cl (5 * s + j)) (yf := fun j => ty (5 * ta s + cl (5 * s + j))) hX ⟨by omega, by omega⟩ hs ⟨hN0, by omega⟩ hcf g6 (fun j _ _ => hty _) (wd s).toNat 0 (p + 1) (Int.le_refl 0) (by omega) hp1
        have k1 := ck_rd_41 (q := p + 1) (x := σ 34 3) (y := σ 34 4) hK
        obtain ⟨σ2, ar, k2⟩ := cf_addRow_41 (sc := sc) k1 ⟨hN0, by omega⟩
        rw [show s + 1 - 1 = s by omega] at k2
        obtain ⟨w1, w2, w3, ⟨w4, w5⟩, t1, t2, t3, t4, t5, t6, t7, t8⟩ := id k2
        have hn31 : σ2 49 N = 31 := by
          rw [t8]
          exact at1_at
        have hrg2 : ∀ j, rg (σ2 48 j) := by
          rw [t7]
          intro j
          show rg (if 5 * N ≤ j ∧ j < 5 * N + 5 then 0 else ce j)
          split
          · exact ⟨by decide, by decide⟩
          · exact hrg j
        obtain ⟨x', y', ce', nu', hrow, hrc, hrg3⟩ := rc σ2 (σ2 34 3) (σ2 34 4) (σ2 48) (σ2 49) none (ck_T_41 hT k2) (by rw [t2]) (fun j _ _ => by rw [t3]) (by rw [t1]; exact ⟨g1b, by omega⟩) (fun j _ _ => by rw [t1, w1 5 (by omega), c5]) (by rw [hn31]; exact ⟨by decide, by decide⟩) hrg2
        have e2 : RD (up (up σ2 48 (σ2 48)) 49 (σ2 49)) (p + 1) (σ2 34 3) (σ2 34 4) = σ2 := by
          have e3 : up σ2 48 (σ2 48) = σ2 := up_id
          rw [e3, up_id]
          exact rd_id w3
        rw [e2] at hrow
        have f77 : fn sc 77 [some (.inr (.inr 34)), some (.inr (.inr 2)), some (.inr (.inr 41)), none, none, none, none] σ2 (some (.inl a)) (RD (up (up σ2 48 ce') 49 nu') p1 x' y') := fun Q hQ => by
          refine rb_77_0_41 ?_
          rw [show σ2 41 0 - 1 = s by omega, show σ2 41 1 - 1 = N by omega]
          exact hrow Q hQ
        have k3 : CK 41 τ (s + 1) (N + 1) p1 ta wd cl nm fr (at1 rs N s) ce' nu' (RD (up (up σ2 48 ce') 49 nu') p1 x' y') := ⟨fun q hh => (rd_ne (by omega)).trans ((up_ne (by omega)).trans ((up_ne (by omega)).trans (w1 q hh))), w2, rfl, ⟨w4, w5⟩, t1, t2, t3, t4, t5, t6, rfl, rfl⟩
        have c58 : ac n tx p 58 = 1 := ac_yes h58
        have r24 : ai_r 24 := ⟨by decide, by decide⟩
        have ra : ai_r a := by
          have := oq.1
          exact ⟨by omega, by omega⟩
        have cgo : ∀ Q : ai_O → Prop, (a = 0 → Q (.inl (some (.inl 0)), (92, [], RD (up (up σ2 48 ce') 49 nu') p1 x' y'))) → (a = 1 → ai_wp sc 75 40 [some (.inr (.inr 34)), some (.inr (.inr 2)), some (.inr (.inr 41)), none, some (.inl (N + 1))] [] (0, 0) (92, [], RD (up (up σ2 48 ce') 49 nu') p1 x' y') Q) → ai_wp sc 75 40 [some (.inr (.inr 34)), some (.inr (.inr 2)), some (.inr (.inr 41)), x3, some (.inl N)] [] (0, 0) (92, [], σ) Q := fun Q h0 h1 => rh_75_40_41 ⟨⟨⟨by omega, by omega⟩, r24⟩, fun z => absurd z (by omega), fun _ => fn_ret (ck_acc1_41 hX hT hp (by decide) hK c58) (rb_75_46_41 ⟨rr1, fun z => absurd z (by decide), fun _ => fn_ret ar (rb_75_49_41 (fn_ret f77 (rb_75_53_41 ⟨ra, fun z => h1 (by have := oq.1; omega), fun z => ⟨z01, h0 (Decidable.not_not.mp z)⟩⟩)))⟩)⟩
        -- the reference
        have rgo : ∀ (υ ρ : ai_S) (x1 : Option ai_V), rT υ n tx → υ 61 = ty → RK υ s N p st sw sf sl xc xn ρ → ∃ F' G', (b1 = 1 → rowR 0 (wd s) N v nl xc xn F' G') ∧ gb xn G' ∧ RK υ s N p1 st sw sf sl F' G' (RP (RP ρ (p + 1) (ρ 82) (ρ 83)) p1 F' G') ∧ (b1 = 1 → RK υ s (N + 1) p1 st sw sf sl F' G' (RP (ai_set (RP ρ (p + 1) (ρ 82) (ρ 83)) 59 29 (N + 1)) p1 F' G')) ∧ ∀ Q : ai_O → Prop, (b1 = 1 → ai_wp sc 147 55 [some (.inr (.inr 59)), none, some (.inl s), some (.inl 1)] [] (0, 0) (92, [], RP (ai_set (RP ρ (p + 1) (ρ 82) (ρ 83)) 59 29 (N + 1)) p1 F' G') Q) → (b1 = 0 → Q (.inl (some (.inl 0)), (92, [], RP (RP ρ (p + 1) (ρ 82) (ρ 83)) p1 F' G'))) → ai_wp sc 147 55 [some (.inr (.inr 59)), x1, some (.inl s), some (.inl 1)] [] (0, 0) (92, [], ρ) Q := by
          intro υ ρ x1 hυ h61 hR
          obtain ⟨sk, kk⟩ := rk_skip1 (sc := sc) (c := 58) hX hυ hp (by decide) hR c58
          obtain ⟨u1, u2, u3, ⟨u4, u5⟩, v1, v2, v3, v4, v5, v6⟩ := id kk
          obtain ⟨F', G', hro, hrr, hgb⟩ := rr (RP ρ (p + 1) (ρ 82) (ρ 83)) (ρ 82) (ρ 83) (rk_T hυ kk) (by rw [v2]; exact g2a) u5 (fun j j1 j2 => by rw [v4]; exact (g5 j j1 j2).1) (by rw [v1, g1a]; exact ⟨g1b, by omega⟩) (fun j j1 j2 => by rw [v1, g1a, u1 61 (by omega), h61])
          have e82 : ρ 82 = xc := hR.2.2.2.2.2.2.2.2.1
          have e83 : ρ 83 = xn := hR.2.2.2.2.2.2.2.2.2
          have e3 : RP (RP ρ (p + 1) (ρ 82) (ρ 83)) (p + 1) (ρ 82) (ρ 83) = RP ρ (p + 1) (ρ 82) (ρ 83) := rp_id (σ := RP ρ (p + 1) (ρ 82) (ρ 83)) rfl
          rw [e3] at hro
          rw [e82, e83] at hrr
          rw [e83] at hgb
          have htx := hX.2 p
          refine ⟨F', G', hrr, hgb, rk_rp kk, fun _ => ?_, fun Q q1 q0 => ?_⟩
          · refine ⟨fun k hk => ?_, fun j hj => ?_, rfl, ⟨?_, rfl⟩, v1, v2, v3, v4, rfl, rfl⟩
            · rw [rp_ne (by omega), set_ne (by omega)]
              exact u1 k hk
            · rw [rp_59 (by omega), st_ix (by omega)]
              exact u2 j hj
            · exact u4
          · refine rh_147_55 ⟨rr1, fun z => absurd z (by decide), fun _ => fn_ret (rk_peek hX hυ hp hR) (rb_147_59 ⟨⟨?_, ⟨by decide, by decide⟩⟩, fun z => absurd ?_ h59, fun _ => ai_ret_q (rb_146_0 ⟨⟨(by rw [hR.2.2.2.1.2]; exact ⟨by omega, by omega⟩), r24⟩, fun z => absurd (show ρ 59 29 = 24 from z) (by rw [hR.2.2.2.1.2]; omega), fun _ => fn_ret sk (rb_146_7 ⟨rr1, fun _ => hro _ (fun e => ai_k_in (rb_147_64 (q1 e))) (fun e => ai_k_in (rb_147_64 (rh_147_55 ⟨rr0, fun _ => ⟨rr0, fun z => absurd rfl z, fun _ => ⟨z01, q0 e⟩⟩, fun z => absurd rfl z⟩))), fun z => absurd (show ¬ (1 : Int) = 0 by decide) z⟩)⟩)⟩)⟩
            · rw [if_neg (by omega)]
              exact ⟨by omega, by omega⟩
            · have z2 : (if n ≤ p then 0 else tx p) = 59 := z
              rw [if_neg (by omega)] at z2
              exact ⟨h58.1, z2⟩
        by_cases ha : a = 0
        · have hb1 : b1 = 0 := by
            rcases oq.2 with z | z <;> omega
          refine ⟨0, p1, N, rs, ce, nu, xc, xn, RD (up (up σ2 48 ce') 49 nu') p1 x' y', Or.inl rfl, ⟨by omega, hq.2⟩, fun Q hQ => cgo Q (fun _ => hQ) (fun z => absurd z (by omega)), CK_E k3 hrg3, fun z => absurd z (by decide), fun υ ρ x1 hυ h61 hR => ?_⟩
          obtain ⟨F', G', r1, r2, r3, r4, r5⟩ := rgo υ ρ x1 hυ h61 hR
          exact ⟨_, fun Q hQ => r5 Q (fun z => absurd z (by omega)) (fun _ => hQ), RK_E r3 (r2 hB), fun z => absurd z (by decide)⟩
        · have ha1 : a = 1 := by
            have := oq.1
            omega
          by_cases hb1 : b1 = 1
          · -- the row is there
            obtain ⟨q1, q2, q3, q4, q5⟩ := hrc ha1 hb1
            have hnu31 : ∀ c, 0 ≤ c → c < 5 → tb (σ2 49 N) c = true := fun c c1 c2 => by
              rw [hn31]
              exact tb31 ⟨c1, c2⟩
            have hce2 : ∀ c, 0 ≤ c → c < 5 → σ2 48 (5 * N + c) = 0 := fun c c1 c2 => by
              rw [t7]
              exact if_pos ⟨by omega, by omega⟩
            have hvv := hv hb1
            -- a column that is not named
            have hun : ∀ c, 0 ≤ c → c < 5 → (∀ j, 0 ≤ j → j < wd s → ¬ cl (5 * s + j) = c) → tb (nu' N) c = true ∧ ce' (5 * N + c) = 0 := fun c c1 c2 hc => by
              refine ⟨((q5 c c1 c2).2 (fun j j1 j2 e => absurd e (hc j j1 j2))).trans (hnu31 c c1 c2), ?_⟩
              rw [q1 (5 * N + c) (fun j j1 j2 e => hc j j1 j2 (by have e2 : 5 * N + c = 5 * N + cl (5 * s + j) := e; omega))]
              exact hce2 c c1 c2
            have hna : ∀ k, 0 ≤ k → k < wd s → (nl k = 0 → tb (nu' N) (cl (5 * s + k)) = false ∧ ce' (5 * N + cl (5 * s + k)) = v k) ∧ (¬ nl k = 0 → tb (nu' N) (cl (5 * s + k)) = true ∧ ce' (5 * N + cl (5 * s + k)) = 0) := fun k y1 y2 => by
              have hc := hcf k y1 y2
              have e1 : ce' (5 * N + cl (5 * s + k)) = if nl k = 0 then v k else σ2 48 (5 * N + cl (5 * s + k)) := q2 k y1 y2
              refine ⟨fun z => ⟨(q5 _ hc.1 hc.2).1 k y1 y2 rfl z, by rw [e1, if_pos z]⟩, fun z => ⟨?_, by rw [e1, if_neg z]; exact hce2 _ hc.1 hc.2⟩⟩
              refine ((q5 _ hc.1 hc.2).2 (fun j j1 j2 e => ?_)).trans (hnu31 _ hc.1 hc.2)
              have := g6 j k j1 j2 y1 y2 e
              rw [this]
              exact z
            have hD2 : DS T w ty (s + 1) (N + 1) ta wd cl nm fr (at1 rs N s) ce' nu' (s + 1) (N + 1) st sw (at1 sf (s + 1) (N + 1)) sl (fun k => if 5 * N ≤ k ∧ k < 5 * N + wd s then v (k - 5 * N) else xc k) (fun k => if 5 * N ≤ k ∧ k < 5 * N + wd s then nl (k - 5 * N) else xn k) := by
              refine DS_row hD hw hs.1 (by omega) hrg3 (fun j hj => ?_) (fun q hqq => ?_) (fun j hj => ⟨if_neg (by omega), if_neg (by omega)⟩) q4 (fun k y1 y2 => ⟨?_, ?_⟩) (fun c c1 c2 c3 => ?_) (fun c c1 c2 c3 => ?_) (fun c c1 c2 => ?_)
              · rw [q1 j (fun l l1 l2 e => by have := hcf l l1 l2; have e2 : j = 5 * N + cl (5 * s + l) := e; omega), t7]
                exact if_neg (by omega)
              · rw [q3 q hqq, t8]
                exact at1_ne hqq
              · show (if 5 * N ≤ 5 * N + k ∧ 5 * N + k < 5 * N + wd s then v (5 * N + k - 5 * N) else xc (5 * N + k)) = _
                rw [if_pos (by omega), show 5 * N + k - 5 * N = k by omega]
                by_cases z : nl k = 0
                · exact ((hna k y1 y2).1 z).2.symm
                · rw [((hna k y1 y2).2 z).2]
                  exact (hvv k y1 y2).2.1 (by have := (hvv k y1 y2).1; omega)
              · show (if 5 * N ≤ 5 * N + k ∧ 5 * N + k < 5 * N + wd s then nl (5 * N + k - 5 * N) else xn (5 * N + k)) = _
                rw [if_pos (by omega), show 5 * N + k - 5 * N = k by omega]
                by_cases z : nl k = 0
                · rw [((hna k y1 y2).1 z).1, z]
                  rfl
                · rw [((hna k y1 y2).2 z).1]
                  have : nl k = 1 := by
                    have := (hvv k y1 y2).1
                    omega
                  rw [this]
                  rfl
              · refine (hun c c1 c2 (fun j j1 j2 e => ?_)).1
                rw [(g7 c c1 c2).mpr ⟨j, j1, j2, e⟩] at c3
                exact absurd c3 (by decide)
              · rcases Classical.em (∃ j, 0 ≤ j ∧ j < wd s ∧ cl (5 * s + j) = c) with ⟨j, j1, j2, j3⟩ | z
                · subst j3
                  by_cases z : nl j = 0
                  · rw [((hna j j1 j2).1 z).1] at c3
                    exact absurd c3 (by decide)
                  · exact ((hna j j1 j2).2 z).2
                · exact (hun c c1 c2 (fun j j1 j2 e => z ⟨j, j1, j2, e⟩)).2
              · rcases Classical.em (∃ j, 0 ≤ j ∧ j < wd s ∧ cl (5 * s + j) = c) with ⟨j, j1, j2, j3⟩ | z
                · subst j3
                  by_cases z : nl j = 0
                  · rw [((hna j j1 j2).1 z).2]
                    exact (hvv j j1 j2).2.2
                  · rw [((hna j j1 j2).2 z).2]
                    exact okc_0
                · rw [(hun c c1 (by omega) (fun j j1 j2 e => z ⟨j, j1, j2, e⟩)).2]
                  exact okc_0
            have hB2 : ∀ j, 0 ≤ (fun k => if 5 * N ≤ k ∧ k < 5 * N + wd s then nl (k - 5 * N) else xn k) j ∧ (fun k => if 5 * N ≤ k ∧ k < 5 * N + wd s then nl (k - 5 * N) else xn k) j ≤ 1 := fun j => by
              show 0 ≤ (if 5 * N ≤ j ∧ j < 5 * N + wd s then nl (j - 5 * N) else xn j) ∧ (if 5 * N ≤ j ∧ j < 5 * N + wd s then nl (j - 5 * N) else xn j) ≤ 1
              by_cases z : 5 * N ≤ j ∧ j < 5 * N + wd s
              · rw [if_pos z]
                have := (hvv (j - 5 * N) (by omega) (by omega)).1
                omega
              · rw [if_neg z]
                exact hB j
            obtain ⟨b, p', N', rs', ce2, nu2, xc2, xn2, σ', i1, i2, i3, i4, i5, i6⟩ := ih (N + 1) p1 (at1 rs N s) ce' nu' _ _ _ none (by omega) (by omega) ⟨by omega, hq.2⟩ k3 hD2 hB2
            refine ⟨b, p', N', rs', ce2, nu2, xc2, xn2, σ', i1, ⟨by omega, i2.2⟩, fun Q hQ => cgo Q (fun z => absurd z (by omega)) (fun _ => i3 Q hQ), i4, i5, fun υ ρ x1 hυ h61 hR => ?_⟩
            obtain ⟨F', G', r1, r2, r3, r4, r5⟩ := rgo υ ρ x1 hυ h61 hR
            obtain ⟨y1, y2⟩ := r1 hb1
            have eF : F' = fun k => if 5 * N ≤ k ∧ k < 5 * N + wd s then v (k - 5 * N) else xc k := by
              funext k
              show F' k = if 5 * N ≤ k ∧ k < 5 * N + wd s then v (k - 5 * N) else xc k
              by_cases z : 5 * N ≤ k ∧ k < 5 * N + wd s
              · rw [if_pos z]
                have := (y1 (k - 5 * N) (by omega) (by omega)).1
                rw [show 5 * N + (k - 5 * N) = k by omega] at this
                exact this
              · rw [if_neg z]
                exact (y2 k (by omega)).1
            have eG : G' = fun k => if 5 * N ≤ k ∧ k < 5 * N + wd s then nl (k - 5 * N) else xn k := by
              funext k
              show G' k = if 5 * N ≤ k ∧ k < 5 * N + wd s then nl (k - 5 * N) else xn k
              by_cases z : 5 * N ≤ k ∧ k < 5 * N + wd s
              · rw [if_pos z]
                have := (y1 (k - 5 * N) (by omega) (by omega)).2
                rw [show 5 * N + (k - 5 * N) = k by omega] at this
                exact this
              · rw [if_neg z]
                exact (y2 k (by omega)).2
            subst eF
            subst eG
            obtain ⟨ρ', j1, j2, j3⟩ := i6 υ _ none hυ h61 (r4 hb1)
            exact ⟨ρ', fun Q hQ => r5 Q (fun _ => j1 Q hQ) (fun z => absurd z (by omega)), j2, j3⟩
          · -- the quote behind eight characters
            have hz : b1 = 0 ∧ p1 < n ∧ tx p1 = 39 := by
              rcases oq.2 with z | z
              · omega
              · exact z.2
            have h01 : ac n tx p1 58 = 0 := ac_no (fun q => by omega)
            have h02 : ac n tx p1 59 = 0 := ac_no (fun q => by omega)
            refine ⟨0, p1, N, rs, ce, nu, xc, xn, RD (up (up σ2 48 ce') 49 nu') p1 x' y', Or.inl rfl, ⟨by omega, hq.2⟩, fun Q hQ => cgo Q (fun z => absurd z ha) (fun _ => ck_end_41 hX hT ⟨by omega, hq.2⟩ ⟨by omega, by omega⟩ k3 (Or.inr h01) (Or.inl rfl) (ck_acc0_41 hX hT ⟨by omega, hq.2⟩ (by decide) k3 h02) hQ), CK_E k3 hrg3, fun z => absurd z (by decide), fun υ ρ x1 hυ h61 hR => ?_⟩
            obtain ⟨F', G', r1, r2, r3, r4, r5⟩ := rgo υ ρ x1 hυ h61 hR
            exact ⟨_, fun Q hQ => r5 Q (fun z => absurd z hb1) (fun _ => hQ), RK_E r3 (r2 hB), fun z => absurd z (by decide)⟩
      · exact stop N p rs ce nu xc xn σ x3 hN24 hp hK hD hB h59 (Or.inr (ac_no h58))
theorem ck_T_50 {τ σ : ai_S} {n : Int} {tx : Int → Int} {S N p : Int} {ta wd cl nm fr rs ce nu : Int → Int} (hT : cT τ n tx) (h : CK 50 τ S N p ta wd cl nm fr rs ce nu σ) : cT σ n tx := ⟨h.2.1.trans hT.1, (h.1 35 (by omega)).trans hT.2⟩
theorem ck_acc_50 {sc : Int × (Int → Int)} {τ σ : ai_S} {n : Int} {tx : Int → Int} {S N p c : Int} {ta wd cl nm fr rs ce nu : Int → Int} (hX : TX n tx) (hT : cT τ n tx) (hp : 0 ≤ p ∧ p ≤ n) (hc : 0 ≤ c ∧ c ≤ 65535) (h : CK 50 τ S N p ta wd cl nm fr rs ce nu σ) : fn sc 86 [some (.inr (.inr 34)), some (.inl c)] σ (some (.inl (ac n tx p c))) (RD σ (p + ac n tx p c) (σ 34 3) (σ 34 4)) := by
  have e := cf_accept (sc := sc) (x := σ 34 3) (y := σ 34 4) hX (ck_T_50 hT h) hp hc
  rw [rd_id h.2.2.1] at e
  exact e
theorem ck_acc0_50 {sc : Int × (Int → Int)} {τ σ : ai_S} {n : Int} {tx : Int → Int} {S N p c : Int} {ta wd cl nm fr rs ce nu : Int → Int} (hX : TX n tx) (hT : cT τ n tx) (hp : 0 ≤ p ∧ p ≤ n) (hc : 0 ≤ c ∧ c ≤ 65535) (h : CK 50 τ S N p ta wd cl nm fr rs ce nu σ) (h0 : ac n tx p c = 0) : fn sc 86 [some (.inr (.inr 34)), some (.inl c)] σ (some (.inl 0)) σ := by
  have e := ck_acc_50 (sc := sc) hX hT hp hc h
  rw [h0, Int.add_zero, rd_id h.2.2.1] at e
  exact e
theorem ck_acc1_50 {sc : Int × (Int → Int)} {τ σ : ai_S} {n : Int} {tx : Int → Int} {S N p c : Int} {ta wd cl nm fr rs ce nu : Int → Int} (hX : TX n tx) (hT : cT τ n tx) (hp : 0 ≤ p ∧ p ≤ n) (hc : 0 ≤ c ∧ c ≤ 65535) (h : CK 50 τ S N p ta wd cl nm fr rs ce nu σ) (h1 : ac n tx p c = 1) : fn sc 86 [some (.inr (.inr 34)), some (.inl c)] σ (some (.inl 1)) (RD σ (p + 1) (σ 34 3) (σ 34 4)) := by
  have e := ck_acc_50 (sc := sc) hX hT hp hc h
  rw [h1] at e
  exact e
/-- where no further row begins -/
theorem ck_end_50 {sc : Int × (Int → Int)} {τ σ σ2 : ai_S} {n : Int} {tx : Int → Int} {S N p v : Int} {x3 : Option ai_V} {ta wd cl nm fr rs ce nu : Int → Int} (hX : TX n tx) (hT : cT τ n tx) (hp : 0 ≤ p ∧ p ≤ n) (hN : 0 ≤ N ∧ N ≤ 24) (h : CK 50 τ S N p ta wd cl nm fr rs ce nu σ) (h0 : N = 24 ∨ ac n tx p 58 = 0) (hv : v = 0 ∨ v = 1) (hf : fn sc 86 [some (.inr (.inr 34)), some (.inl 59)] σ (some (.inl v)) σ2) {Q : ai_O → Prop} (hQ : Q (.inl (some (.inl v)), (92, [], σ2))) : ai_wp sc 75 40 [some (.inr (.inr 34)), some (.inr (.inr 2)), some (.inr (.inr 50)), x3, some (.inl N)] [] (0, 0) (92, [], σ) Q := by
  have r24 : ai_r 24 := ⟨by decide, by decide⟩
  have rN : ai_r N := ⟨by omega, by omega⟩
  refine rh_75_40_50 ⟨⟨rN, r24⟩, fun _ => fn_ret hf (rb_75_61_50 ⟨by omega, hQ⟩), fun z => ?_⟩
  have h1 : ac n tx p 58 = 0 := h0.resolve_left (fun q => z (by omega))
  exact fn_ret (ck_acc0_50 hX hT hp (by decide) h h1) (rb_75_46_50 ⟨rr0, fun _ => fn_ret hf (rb_75_61_50 ⟨by omega, hQ⟩), fun q => absurd rfl q⟩)
theorem rd_loop_50 {sc : Int × (Int → Int)} {n : Int} {tx : Int → Int} {T : Int} {w ty : Int → Int} {τ : ai_S} {s : Int} {ta wd cl nm fr st sw sf sl : Int → Int} (hX : TX n tx) (hT : cT τ n tx) (hTT : 0 ≤ T ∧ T ≤ 5) (hw : ∀ t, 0 ≤ w t ∧ w t ≤ 5) (hty : ∀ j, 0 ≤ ty j ∧ ty j ≤ 3) (c5 : τ 5 = ty) (hs : 0 ≤ s ∧ s < 6) :
    ∀ (m : Nat) (N p : Int) (rs ce nu xc xn : Int → Int) (σ : ai_S) (x3 : Option ai_V), N + (m : Int) = 24 → 0 ≤ N → (0 ≤ p ∧ p ≤ n) → CK 50 τ (s + 1) N p ta wd cl nm fr rs ce nu σ → DS T w ty (s + 1) N ta wd cl nm fr rs ce nu (s + 1) N st sw (at1 sf (s + 1) N) sl xc xn → (∀ j, 0 ≤ xn j ∧ xn j ≤ 1) →
      ∃ b p' N' rs' ce' nu' xc' xn' σ', (b = 0 ∨ b = 1) ∧ (p ≤ p' ∧ p' ≤ n) ∧ (∀ Q : ai_O → Prop, Q (.inl (some (.inl b)), (92, [], σ')) → ai_wp sc 75 40 [some (.inr (.inr 34)), some (.inr (.inr 2)), some (.inr (.inr 50)), x3, some (.inl N)] [] (0, 0) (92, [], σ) Q) ∧ CE 50 τ p' σ' ∧ (b = 1 → CK 50 τ (s + 1) N' p' ta wd cl nm fr rs' ce' nu' σ' ∧ DS T w ty (s + 1) N' ta wd cl nm fr rs' ce' nu' (s + 1) N' st sw (at1 sf (s + 1) N') sl xc' xn' ∧ ∀ j, 0 ≤ xn' j ∧ xn' j ≤ 1) ∧
        (∀ (υ ρ : ai_S) (x1 : Option ai_V), rT υ n tx → υ 61 = ty → RK υ s N p st sw sf sl xc xn ρ → ∃ ρ', (∀ Q : ai_O → Prop, Q (.inl (some (.inl b)), (92, [], ρ')) → ai_wp sc 147 55 [some (.inr (.inr 59)), x1, some (.inl s), some (.inl 1)] [] (0, 0) (92, [], ρ) Q) ∧ RE υ p' ρ' ∧ (b = 1 → RK υ (s + 1) N' p' st sw (at1 sf (s + 1) N') sl xc' xn' ρ')) := by
  have hn := hX.1
  have semi : ∀ (N p : Int) (rs ce nu xc xn : Int → Int) (σ : ai_S) (x3 : Option ai_V), (0 ≤ N ∧ N ≤ 24) → (0 ≤ p ∧ p ≤ n) → CK 50 τ (s + 1) N p ta wd cl nm fr rs ce nu σ → DS T w ty (s + 1) N ta wd cl nm fr rs ce nu (s + 1) N st sw (at1 sf (s + 1) N) sl xc xn → (∀ j, 0 ≤ xn j ∧ xn j ≤ 1) → (p < n ∧ tx p = 59) → ∃ b p' N' rs' ce' nu' xc' xn' σ', (b = 0 ∨ b = 1) ∧ (p ≤ p' ∧ p' ≤ n) ∧ (∀ Q : ai_O → Prop, Q (.inl (some (.inl b)), (92, [], σ')) → ai_wp sc 75 40 [some (.inr (.inr 34)), some (.inr (.inr 2)), some (.inr (.inr 50)), x3, some (.inl N)] [] (0, 0) (92, [], σ) Q) ∧ CE 50 τ p' σ' ∧ (b = 1 → CK 50 τ (s + 1) N' p' ta wd cl nm fr rs' ce' nu' σ' ∧ DS T w ty (s + 1) N' ta wd cl nm fr rs' ce' nu' (s + 1) N' st sw (at1 sf (s + 1) N') sl xc' xn' ∧ ∀ j, 0 ≤ xn' j ∧ xn' j ≤ 1) ∧ (∀ (υ ρ : ai_S) (x1 : Option ai_V), rT υ n tx → υ 61 = ty → RK υ s N p st sw sf sl xc xn ρ → ∃ ρ', (∀ Q : ai_O → Prop, Q (.inl (some (.inl b)), (92, [], ρ')) → ai_wp sc 147 55 [some (.inr (.inr 59)), x1, some (.inl s), some (.inl 1)] [] (0, 0) (92, [], ρ) Q) ∧ RE υ p' ρ' ∧ (b = 1 → RK υ (s + 1) N' p' st sw (at1 sf (s + 1) N') sl xc' xn' ρ')) := by
    intro N p rs ce nu xc xn σ x3 hN24 hp hK hD hB h59
    have hrg : ∀ j, rg (ce j) := hD.2.1
    have kk := ck_rd_50 (q := p + 1) (x := σ 34 3) (y := σ 34 4) hK
    refine ⟨1, p + 1, N, rs, ce, nu, xc, xn, RD σ (p + 1) (σ 34 3) (σ 34 4), Or.inr rfl, ⟨by omega, by omega⟩, fun Q hQ => ck_end_50 hX hT hp hN24 hK (Or.inr (ac_no (fun q => by omega))) (Or.inr rfl) (ck_acc1_50 hX hT hp (by decide) hK (ac_yes h59)) hQ, CK_E kk hrg, fun _ => ⟨kk, hD, hB⟩, fun υ ρ x1 hυ _ hR => ?_⟩
    obtain ⟨u1, u2, u3, ⟨u4, u5⟩, v1, v2, v3, v4, v5, v6⟩ := id hR
    have kr : RK υ (s + 1) N (p + 1) st sw (at1 sf (s + 1) N) sl xc xn (ai_set (ai_set (ai_set ρ 59 17 (ρ 59 17 + 1)) 59 28 (ρ 59 28 + 1)) 80 (ρ 59 28 + 1) (ρ 59 29)) := by
      refine ⟨fun k hk => ?_, fun j hj => ?_, ?_, ⟨?_, u5⟩, v1, v2, ?_, v4, v5, v6⟩
      · rw [set_ne (by omega), set_ne (by omega), set_ne (by omega)]
        exact u1 k hk
      · rw [st_pl (by decide), st_ix (by omega), st_ix (by omega)]
        exact u2 j hj
      · show ρ 59 17 + 1 = p + 1
        rw [u3]
      · show ρ 59 28 + 1 = s + 1
        rw [u4]
      · show (fun j => if j = ρ 59 28 + 1 then ρ 59 29 else ρ 80 j) = at1 sf (s + 1) N
        rw [u4, u5, v3]
        rfl
    refine ⟨_, fun Q hQ => rh_147_55 ⟨rr1, fun z => absurd z (by decide), fun _ => fn_ret (rk_peek hX hυ hp hR) (rb_147_59 ⟨⟨?_, ⟨by decide, by decide⟩⟩, fun _ => ⟨rr1, fun _ => ⟨(by rw [u4]; exact ⟨by omega, by omega⟩), z11, hQ⟩, fun z => absurd (show ¬ (1 : Int) = 0 by decide) z⟩, fun z => absurd ?_ z⟩)⟩, RK_E kr hB, fun _ => kr⟩
    · rw [if_neg (by omega)]
      exact ⟨by omega, by omega⟩
    · rw [if_neg (by omega)]
      exact h59.2
  have stop : ∀ (N p : Int) (rs ce nu xc xn : Int → Int) (σ : ai_S) (x3 : Option ai_V), (0 ≤ N ∧ N ≤ 24) → (0 ≤ p ∧ p ≤ n) → CK 50 τ (s + 1) N p ta wd cl nm fr rs ce nu σ → DS T w ty (s + 1) N ta wd cl nm fr rs ce nu (s + 1) N st sw (at1 sf (s + 1) N) sl xc xn → (∀ j, 0 ≤ xn j ∧ xn j ≤ 1) → ¬ (p < n ∧ tx p = 59) → (N = 24 ∨ ac n tx p 58 = 0) → ∃ b p' N' rs' ce' nu' xc' xn' σ', (b = 0 ∨ b = 1) ∧ (p ≤ p' ∧ p' ≤ n) ∧ (∀ Q : ai_O → Prop, Q (.inl (some (.inl b)), (92, [], σ')) → ai_wp sc 75 40 [some (.inr (.inr 34)), some (.inr (.inr 2)), some (.inr (.inr 50)), x3, some (.inl N)] [] (0, 0) (92, [], σ) Q) ∧ CE 50 τ p' σ' ∧ (b = 1 → CK 50 τ (s + 1) N' p' ta wd cl nm fr rs' ce' nu' σ' ∧ DS T w ty (s + 1) N' ta wd cl nm fr rs' ce' nu' (s + 1) N' st sw (at1 sf (s + 1) N') sl xc' xn' ∧ ∀ j, 0 ≤ xn' j ∧ xn' j ≤ 1) ∧ (∀ (υ ρ : ai_S) (x1 : Option ai_V), rT υ n tx → υ 61 = ty → RK υ s N p st sw sf sl xc xn ρ → ∃ ρ', (∀ Q : ai_O → Prop, Q (.inl (some (.inl b)), (92, [], ρ')) → ai_wp sc 147 55 [some (.inr (.inr 59)), x1, some (.inl s), some (.inl 1)] [] (0, 0) (92, [], ρ) Q) ∧ RE υ p' ρ' ∧ (b = 1 → RK υ (s + 1) N' p' st sw (at1 sf (s + 1) N') sl xc' xn' ρ')) := by
    intro N p rs ce nu xc xn σ x3 hN24 hp hK hD hB h59 hend
    have hrg : ∀ j, rg (ce j) := hD.2.1
    refine ⟨0, p, N, rs, ce, nu, xc, xn, σ, Or.inl rfl, ⟨Int.le_refl p, hp.2⟩, fun Q hQ => ck_end_50 hX hT hp hN24 hK hend (Or.inl rfl) (ck_acc0_50 hX hT hp (by decide) hK (ac_no h59)) hQ, CK_E hK hrg, fun z => absurd z (by decide), fun υ ρ x1 hυ _ hR => ⟨ρ, fun Q hQ => ?_, RK_E hR hB, fun z => absurd z (by decide)⟩⟩
    have htx := hX.2 p
    have hpk : ai_r (if n ≤ p then 0 else tx p) := by
      split
      · exact rr0
      · exact ⟨by omega, by omega⟩
    have u5 := hR.2.2.2.1.2
    refine rh_147_55 ⟨rr1, fun z => absurd z (by decide), fun _ => fn_ret (rk_peek hX hυ hp hR) (rb_147_59 ⟨⟨hpk, ⟨by decide, by decide⟩⟩, fun z => absurd ?_ h59, fun _ => ai_ret_q (rb_146_0 ⟨⟨(by rw [u5]; exact ⟨by omega, by omega⟩), ⟨by decide, by decide⟩⟩, fun _ => ⟨z01, ai_k_in (rb_147_64 (rh_147_55 ⟨rr0, fun _ => ⟨rr0, fun z => absurd rfl z, fun _ => ⟨z01, hQ⟩⟩, fun z => absurd rfl z⟩))⟩, fun z => fn_ret (rk_skip0 hX hυ hp (by decide) hR (hend.resolve_left (fun q => z (by rw [u5]; exact q)))) (rb_146_7 ⟨rr0, fun z => absurd rfl z, fun _ => ⟨z01, ai_k_in (rb_147_64 (rh_147_55 ⟨rr0, fun _ => ⟨rr0, fun z => absurd rfl z, fun _ => ⟨z01, hQ⟩⟩, fun z => absurd rfl z⟩))⟩⟩)⟩)⟩)⟩
    have z2 : (if n ≤ p then 0 else tx p) = 59 := z
    by_cases e : n ≤ p
    · rw [if_pos e] at z2
      exact absurd z2 (by decide)
    · rw [if_neg e] at z2
      exact ⟨by omega, z2⟩
  intro m
  induction m with
  | zero =>
    intro N p rs ce nu xc xn σ x3 hm hN0 hp hK hD hB
    have hN24 : 0 ≤ N ∧ N ≤ 24 := ⟨hN0, by omega⟩
    by_cases h59 : p < n ∧ tx p = 59
    · exact semi N p rs ce nu xc xn σ x3 hN24 hp hK hD hB h59
    · exact stop N p rs ce nu xc xn σ x3 hN24 hp hK hD hB h59 (Or.inl (by omega))
  | succ m ih =>
    intro N p rs ce nu xc xn σ x3 hm hN0 hp hK hD hB
    have hrg : ∀ j, rg (ce j) := hD.2.1
    have hN24 : 0 ≤ N ∧ N ≤ 24 := ⟨hN0, by omega⟩
    by_cases h59 : p < n ∧ tx p = 59
    · exact semi N p rs ce nu xc xn σ x3 hN24 hp hK hD hB h59
    · by_cases h58 : p < n ∧ tx p = 58
      · -- a row
        obtain ⟨⟨g1a, g1b, g1c⟩, ⟨g2a, g2b, g2c⟩, g3, g4, g5, g6, g7, g8⟩ := hD.2.2.2 s hs.1 (by omega)
        have hwt := hw (ta s)
        have hp1 : 0 ≤ p + 1 ∧ p + 1 ≤ n := ⟨by omega, by omega⟩
        have hcf : ∀ j, 0 ≤ j → j < wd s → 0 ≤ cl (5 * s + j) ∧ cl (5 * s + j) < 5 := fun j j1 j2 => ⟨(g5 j j1 j2).2.1, by have := (g5 j j1 j2).2.2; omega⟩
        obtain ⟨a, b1, p1, v, nl, oq, hq, hv, _, _, rc, rr⟩ := rd_row_50 (sc := sc) (n := n) (tx := tx) (w := wd s) (s := s) (r := N) (cf := fun j => cl (5 * s + j)) (yf := fun j => ty (5 * ta s + cl (5 * s + j))) hX ⟨by omega, by omega⟩ hs ⟨hN0, by omega⟩ hcf g6 (fun j _ _ => hty _) (wd s).toNat 0 (p + 1) (Int.le_refl 0) (by omega) hp1
        have k1 := ck_rd_50 (q := p + 1) (x := σ 34 3) (y := σ 34 4) hK
        obtain ⟨σ2, ar, k2⟩ := cf_addRow_50 (sc := sc) k1 ⟨hN0, by omega⟩
        rw [show s + 1 - 1 = s by omega] at k2
        obtain ⟨w1, w2, w3, ⟨w4, w5⟩, t1, t2, t3, t4, t5, t6, t7, t8⟩ := id k2
        have hn31 : σ2 58 N = 31 := by
          rw [t8]
          exact at1_at
        have hrg2 : ∀ j, rg (σ2 57 j) := by
          rw [t7]
          intro j
          show rg (if 5 * N ≤ j ∧ j < 5 * N + 5 then 0 else ce j)
          split
          · exact ⟨by decide, by decide⟩
          · exact hrg j
        obtain ⟨x', y', ce', nu', hrow, hrc, hrg3⟩ := rc σ2 (σ2 34 3) (σ2 34 4) (σ2 57) (σ2 58) none (ck_T_50 hT k2) (by rw [t2]) (fun j _ _ => by rw [t3]) (by rw [t1]; exact ⟨g1b, by omega⟩) (fun j _ _ => by rw [t1, w1 5 (by omega), c5]) (by rw [hn31]; exact ⟨by decide, by decide⟩) hrg2
        have e2 : RD (up (up σ2 57 (σ2 57)) 58 (σ2 58)) (p + 1) (σ2 34 3) (σ2 34 4) = σ2 := by
          have e3 : up σ2 57 (σ2 57) = σ2 := up_id
          rw [e3, up_id]
          exact rd_id w3
        rw [e2] at hrow
        have f77 : fn sc 77 [some (.inr (.inr 34)), some (.inr (.inr 2)), some (.inr (.inr 50)), none, none, none, none] σ2 (some (.inl a)) (RD (up (up σ2 57 ce') 58 nu') p1 x' y') := fun Q hQ => by
          refine rb_77_0_50 ?_
          rw [show σ2 50 0 - 1 = s by omega, show σ2 50 1 - 1 = N by omega]
          exact hrow Q hQ
        have k3 : CK 50 τ (s + 1) (N + 1) p1 ta wd cl nm fr (at1 rs N s) ce' nu' (RD (up (up σ2 57 ce') 58 nu') p1 x' y') := ⟨fun q hh => (rd_ne (by omega)).trans ((up_ne (by omega)).trans ((up_ne (by omega)).trans (w1 q hh))), w2, rfl, ⟨w4, w5⟩, t1, t2, t3, t4, t5, t6, rfl, rfl⟩
        have c58 : ac n tx p 58 = 1 := ac_yes h58
        have r24 : ai_r 24 := ⟨by decide, by decide⟩
        have ra : ai_r a := by
          have := oq.1
          exact ⟨by omega, by omega⟩
        have cgo : ∀ Q : ai_O → Prop, (a = 0 → Q (.inl (some (.inl 0)), (92, [], RD (up (up σ2 57 ce') 58 nu') p1 x' y'))) → (a = 1 → ai_wp sc 75 40 [some (.inr (.inr 34)), some (.inr (.inr 2)), some (.inr (.inr 50)), none, some (.inl (N + 1))] [] (0, 0) (92, [], RD (up (up σ2 57 ce') 58 nu') p1 x' y') Q) → ai_wp sc 75 40 [some (.inr (.inr 34)), some (.inr (.inr 2)), some (.inr (.inr 50)), x3, some (.inl N)] [] (0, 0) (92, [], σ) Q := fun Q h0 h1 => rh_75_40_50 ⟨⟨⟨by omega, by omega⟩, r24⟩, fun z => absurd z (by omega), fun _ => fn_ret (ck_acc1_50 hX hT hp (by decide) hK c58) (rb_75_46_50 ⟨rr1, fun z => absurd z (by decide), fun _ => fn_ret ar (rb_75_49_50 (fn_ret f77 (rb_75_53_50 ⟨ra, fun z => h1 (by have := oq.1; omega), fun z => ⟨z01, h0 (Decidable.not_not.mp z)⟩⟩)))⟩)⟩
        -- the reference
        have rgo : ∀ (υ ρ : ai_S) (x1 : Option ai_V), rT υ n tx → υ 61 = ty → RK υ s N p st sw sf sl xc xn ρ → ∃ F' G', (b1 = 1 → rowR 0 (wd s) N v nl xc xn F' G') ∧ gb xn G' ∧ RK υ s N p1 st sw sf sl F' G' (RP (RP ρ (p + 1) (ρ 82) (ρ 83)) p1 F' G') ∧ (b1 = 1 → RK υ s (N + 1) p1 st sw sf sl F' G' (RP (ai_set (RP ρ (p + 1) (ρ 82) (ρ 83)) 59 29 (N + 1)) p1 F' G')) ∧ ∀ Q : ai_O → Prop, (b1 = 1 → ai_wp sc 147 55 [some (.inr (.inr 59)), none, some (.inl s), some (.inl 1)] [] (0, 0) (92, [], RP (ai_set (RP ρ (p + 1) (ρ 82) (ρ 83)) 59 29 (N + 1)) p1 F' G') Q) → (b1 = 0 → Q (.inl (some (.inl 0)), (92, [], RP (RP ρ (p + 1) (ρ 82) (ρ 83)) p1 F' G'))) → ai_wp sc 147 55 [some (.inr (.inr 59)), x1, some (.inl s), some (.inl 1)] [] (0, 0) (92, [], ρ) Q := by
          intro υ ρ x1 hυ h61 hR
          obtain ⟨sk, kk⟩ := rk_skip1 (sc := sc) (c := 58) hX hυ hp (by decide) hR c58
          obtain ⟨u1, u2, u3, ⟨u4, u5⟩, v1, v2, v3, v4, v5, v6⟩ := id kk
          obtain ⟨F', G', hro, hrr, hgb⟩ := rr (RP ρ (p + 1) (ρ 82) (ρ 83)) (ρ 82) (ρ 83) (rk_T hυ kk) (by rw [v2]; exact g2a) u5 (fun j j1 j2 => by rw [v4]; exact (g5 j j1 j2).1) (by rw [v1, g1a]; exact ⟨g1b, by omega⟩) (fun j j1 j2 => by rw [v1, g1a, u1 61 (by omega), h61])
          have e82 : ρ 82 = xc := hR.2.2.2.2.2.2.2.2.1
          have e83 : ρ 83 = xn := hR.2.2.2.2.2.2.2.2.2
          have e3 : RP (RP ρ (p + 1) (ρ 82) (ρ 83)) (p + 1) (ρ 82) (ρ 83) = RP ρ (p + 1) (ρ 82) (ρ 83) := rp_id (σ := RP ρ (p + 1) (ρ 82) (ρ 83)) rfl
          rw [e3] at hro
          rw [e82, e83] at hrr
          rw [e83] at hgb
          have htx := hX.2 p
          refine ⟨F', G', hrr, hgb, rk_rp kk, fun _ => ?_, fun Q q1 q0 => ?_⟩
          · refine ⟨fun k hk => ?_, fun j hj => ?_, rfl, ⟨?_, rfl⟩, v1, v2, v3, v4, rfl, rfl⟩
            · rw [rp_ne (by omega), set_ne (by omega)]
              exact u1 k hk
            · rw [rp_59 (by omega), st_ix (by omega)]
              exact u2 j hj
            · exact u4
          · refine rh_147_55 ⟨rr1, fun z => absurd z (by decide), fun _ => fn_ret (rk_peek hX hυ hp hR) (rb_147_59 ⟨⟨?_, ⟨by decide, by decide⟩⟩, fun z => absurd ?_ h59, fun _ => ai_ret_q (rb_146_0 ⟨⟨(by rw [hR.2.2.2.1.2]; exact ⟨by omega, by omega⟩), r24⟩, fun z => absurd (show ρ 59 29 = 24 from z) (by rw [hR.2.2.2.1.2]; omega), fun _ => fn_ret sk (rb_146_7 ⟨rr1, fun _ => hro _ (fun e => ai_k_in (rb_147_64 (q1 e))) (fun e => ai_k_in (rb_147_64 (rh_147_55 ⟨rr0, fun _ => ⟨rr0, fun z => absurd rfl z, fun _ => ⟨z01, q0 e⟩⟩, fun z => absurd rfl z⟩))), fun z => absurd (show ¬ (1 : Int) = 0 by decide) z⟩)⟩)⟩)⟩
            · rw [if_neg (by omega)]
              exact ⟨by omega, by omega⟩
            · have z2 : (if n ≤ p then 0 else tx p) = 59 := z
              rw [if_neg (by omega)] at z2
              exact ⟨h58.1, z2⟩
        by_cases ha : a = 0
        · have hb1 : b1 = 0 := by
            rcases oq.2 with z | z <;> omega
          refine ⟨0, p1, N, rs, ce, nu, xc, xn, RD (up (up σ2 57 ce') 58 nu') p1 x' y', Or.inl rfl, ⟨by omega, hq.2⟩, fun Q hQ => cgo Q (fun _ => hQ) (fun z => absurd z (by omega)), CK_E k3 hrg3, fun z => absurd z (by decide), fun υ ρ x1 hυ h61 hR => ?_⟩
          obtain ⟨F', G', r1, r2, r3, r4, r5⟩ := rgo υ ρ x1 hυ h61 hR
          exact ⟨_, fun Q hQ => r5 Q (fun z => absurd z (by omega)) (fun _ => hQ), RK_E r3 (r2 hB), fun z => absurd z (by decide)⟩
        · have ha1 : a = 1 := by
            have := oq.1
            omega
          by_cases hb1 : b1 = 1
          · -- the row is there
            obtain ⟨q1, q2, q3, q4, q5⟩ := hrc ha1 hb1
            have hnu31 : ∀ c, 0 ≤ c → c < 5 → tb (σ2 58 N) c = true := fun c c1 c2 => by
              rw [hn31]
              exact tb31 ⟨c1, c2⟩
            have hce2 : ∀ c, 0 ≤ c → c < 5 → σ2 57 (5 * N + c) = 0 := fun c c1 c2 => by
              rw [t7]
              exact if_pos ⟨by omega, by omega⟩
            have hvv := hv hb1
            -- a column that is not named
            have hun : ∀ c, 0 ≤ c → c < 5 → (∀ j, 0 ≤ j → j < wd s → ¬ cl (5 * s + j) = c) → tb (nu' N) c = true ∧ ce' (5 * N + c) = 0 := fun c c1 c2 hc => by
              refine ⟨((q5 c c1 c2).2 (fun j j1 j2 e => absurd e (hc j j1 j2))).trans (hnu31 c c1 c2), ?_⟩
              rw [q1 (5 * N + c) (fun j j1 j2 e => hc j j1 j2 (by have e2 : 5 * N + c = 5 * N + cl (5 * s + j) := e; omega))]
              exact hce2 c c1 c2
            have hna : ∀ k, 0 ≤ k → k < wd s → (nl k = 0 → tb (nu' N) (cl (5 * s + k)) = false ∧ ce' (5 * N + cl (5 * s + k)) = v k) ∧ (¬ nl k = 0 → tb (nu' N) (cl (5 * s + k)) = true ∧ ce' (5 * N + cl (5 * s + k)) = 0) := fun k y1 y2 => by
              have hc := hcf k y1 y2
              have e1 : ce' (5 * N + cl (5 * s + k)) = if nl k = 0 then v k else σ2 57 (5 * N + cl (5 * s + k)) := q2 k y1 y2
              refine ⟨fun z => ⟨(q5 _ hc.1 hc.2).1 k y1 y2 rfl z, by rw [e1, if_pos z]⟩, fun z => ⟨?_, by rw [e1, if_neg z]; exact hce2 _ hc.1 hc.2⟩⟩
              refine ((q5 _ hc.1 hc.2).2 (fun j j1 j2 e => ?_)).trans (hnu31 _ hc.1 hc.2)
              have := g6 j k j1 j2 y1 y2 e
              rw [this]
              exact z
            have hD2 : DS T w ty (s + 1) (N + 1) ta wd cl nm fr (at1 rs N s) ce' nu' (s + 1) (N + 1) st sw (at1 sf (s + 1) (N + 1)) sl (fun k => if 5 * N ≤ k ∧ k < 5 * N + wd s then v (k - 5 * N) else xc k) (fun k => if 5 * N ≤ k ∧ k < 5 * N + wd s then nl (k - 5 * N) else xn k) := by
              refine DS_row hD hw hs.1 (by omega) hrg3 (fun j hj => ?_) (fun q hqq => ?_) (fun j hj => ⟨if_neg (by omega), if_neg (by omega)⟩) q4 (fun k y1 y2 => ⟨?_, ?_⟩) (fun c c1 c2 c3 => ?_) (fun c c1 c2 c3 => ?_) (fun c c1 c2 => ?_)
              · rw [q1 j (fun l l1 l2 e => by have := hcf l l1 l2; have e2 : j = 5 * N + cl (5 * s + l) := e; omega), t7]
                exact if_neg (by omega)
              · rw [q3 q hqq, t8]
                exact at1_ne hqq
              · show (if 5 * N ≤ 5 * N + k ∧ 5 * N + k < 5 * N + wd s then v (5 * N + k - 5 * N) else xc (5 * N + k)) = _
                rw [if_pos (by omega), show 5 * N + k - 5 * N = k by omega]
                by_cases z : nl k = 0
                · exact ((hna k y1 y2).1 z).2.symm
                · rw [((hna k y1 y2).2 z).2]
                  exact (hvv k y1 y2).2.1 (by have := (hvv k y1 y2).1; omega)
              · show (if 5 * N ≤ 5 * N + k ∧ 5 * N + k < 5 * N + wd s then nl (5 * N + k - 5 * N) else xn (5 * N + k)) = _
                rw [if_pos (by omega), show 5 * N + k - 5 * N = k by omega]
                by_cases z : nl k = 0
                · rw [((hna k y1 y2).1 z).1, z]
                  rfl
                · rw [((hna k y1 y2).2 z).1]
                  have : nl k = 1 := by
                    have := (hvv k y1 y2).1
                    omega
                  rw [this]
                  rfl
              · refine (hun c c1 c2 (fun j j1 j2 e => ?_)).1
                rw [(g7 c c1 c2).mpr ⟨j, j1, j2, e⟩] at c3
                exact absurd c3 (by decide)
              · rcases Classical.em (∃ j, 0 ≤ j ∧ j < wd s ∧ cl (5 * s + j) = c) with ⟨j, j1, j2, j3⟩ | z
                · subst j3
                  by_cases z : nl j = 0
                  · rw [((hna j j1 j2).1 z).1] at c3
                    exact absurd c3 (by decide)
                  · exact ((hna j j1 j2).2 z).2
                · exact (hun c c1 c2 (fun j j1 j2 e => z ⟨j, j1, j2, e⟩)).2
              · rcases Classical.em (∃ j, 0 ≤ j ∧ j < wd s ∧ cl (5 * s + j) = c) with ⟨j, j1, j2, j3⟩ | z
                · subst j3
                  by_cases z : nl j = 0
                  · rw [((hna j j1 j2).1 z).2]
                    exact (hvv j j1 j2).2.2
                  · rw [((hna j j1 j2).2 z).2]
                    exact okc_0
                · rw [(hun c c1 (by omega) (fun j j1 j2 e => z ⟨j, j1, j2, e⟩)).2]
                  exact okc_0
            have hB2 : ∀ j, 0 ≤ (fun k => if 5 * N ≤ k ∧ k < 5 * N + wd s then nl (k - 5 * N) else xn k) j ∧ (fun k => if 5 * N ≤ k ∧ k < 5 * N + wd s then nl (k - 5 * N) else xn k) j ≤ 1 := fun j => by
              show 0 ≤ (if 5 * N ≤ j ∧ j < 5 * N + wd s then nl (j - 5 * N) else xn j) ∧ (if 5 * N ≤ j ∧ j < 5 * N + wd s then nl (j - 5 * N) else xn j) ≤ 1
              by_cases z : 5 * N ≤ j ∧ j < 5 * N + wd s
              · rw [if_pos z]
                have := (hvv (j - 5 * N) (by omega) (by omega)).1
                omega
              · rw [if_neg z]
                exact hB j
            obtain ⟨b, p', N', rs', ce2, nu2, xc2, xn2, σ', i1, i2, i3, i4, i5, i6⟩ := ih (N + 1) p1 (at1 rs N s) ce' nu' _ _ _ none (by omega) (by omega) ⟨by omega, hq.2⟩ k3 hD2 hB2
            refine ⟨b, p', N', rs', ce2, nu2, xc2, xn2, σ', i1, ⟨by omega, i2.2⟩, fun Q hQ => cgo Q (fun z => absurd z (by omega)) (fun _ => i3 Q hQ), i4, i5, fun υ ρ x1 hυ h61 hR => ?_⟩
            obtain ⟨F', G', r1, r2, r3, r4, r5⟩ := rgo υ ρ x1 hυ h61 hR
            obtain ⟨y1, y2⟩ := r1 hb1
            have eF : F' = fun k => if 5 * N ≤ k ∧ k < 5 * N + wd s then v (k - 5 * N) else xc k := by
              funext k
              show F' k = if 5 * N ≤ k ∧ k < 5 * N + wd s then v (k - 5 * N) else xc k
              by_cases z : 5 * N ≤ k ∧ k < 5 * N + wd s
              · rw [if_pos z]
                have := (y1 (k - 5 * N) (by omega) (by omega)).1
                rw [show 5 * N + (k - 5 * N) = k by omega] at this
                exact this
              · rw [if_neg z]
                exact (y2 k (by omega)).1
            have eG : G' = fun k => if 5 * N ≤ k ∧ k < 5 * N + wd s then nl (k - 5 * N) else xn k := by
              funext k
              show G' k = if 5 * N ≤ k ∧ k < 5 * N + wd s then nl (k - 5 * N) else xn k
              by_cases z : 5 * N ≤ k ∧ k < 5 * N + wd s
              · rw [if_pos z]
                have := (y1 (k - 5 * N) (by omega) (by omega)).2
                rw [show 5 * N + (k - 5 * N) = k by omega] at this
                exact this
              · rw [if_neg z]
                exact (y2 k (by omega)).2
            subst eF
            subst eG
            obtain ⟨ρ', j1, j2, j3⟩ := i6 υ _ none hυ h61 (r4 hb1)
            exact ⟨ρ', fun Q hQ => r5 Q (fun _ => j1 Q hQ) (fun z => absurd z (by omega)), j2, j3⟩
          · -- the quote behind eight characters
            have hz : b1 = 0 ∧ p1 < n ∧ tx p1 = 39 := by
              rcases oq.2 with z | z
              · omega
              · exact z.2
            have h01 : ac n tx p1 58 = 0 := ac_no (fun q => by omega)
            have h02 : ac n tx p1 59 = 0 := ac_no (fun q => by omega)
            refine ⟨0, p1, N, rs, ce, nu, xc, xn, RD (up (up σ2 57 ce') 58 nu') p1 x' y', Or.inl rfl, ⟨by omega, hq.2⟩, fun Q hQ => cgo Q (fun z => absurd z ha) (fun _ => ck_end_50 hX hT ⟨by omega, hq.2⟩ ⟨by omega, by omega⟩ k3 (Or.inr h01) (Or.inl rfl) (ck_acc0_50 hX hT ⟨by omega, hq.2⟩ (by decide) k3 h02) hQ), CK_E k3 hrg3, fun z => absurd z (by decide), fun υ ρ x1 hυ h61 hR => ?_⟩
            obtain ⟨F', G', r1, r2, r3, r4, r5⟩ := rgo υ ρ x1 hυ h61 hR
            exact ⟨_, fun Q hQ => r5 Q (fun z => absurd z hb1) (fun _ => hQ), RK_E r3 (r2 hB), fun z => absurd z (by decide)⟩
      · exact stop N p rs ce nu xc xn σ x3 hN24 hp hK hD hB h59 (Or.inr (ac_no h58))
