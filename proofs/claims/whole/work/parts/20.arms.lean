/-! THE ARMS OF THE LAW'S SWITCH: one call of the class, one of the reference, their answers compared. -/
theorem ai_ck_in {b : Bool} {P : Prop} (hb : b = true) (h : P) : ai_ck b P := by
  subst hb
  exact h
theorem room_in {a b c d : Nat} (h : a + c ≤ 601024 ∧ b + d ≤ 7293034) : (Nat.ble (a + c) 601024 && Nat.ble (b + d) 7293034) = true := by
  simp only [Bool.and_eq_true]
  exact ⟨Nat.ble_eq_true_of_le h.1, Nat.ble_eq_true_of_le h.2⟩
def lwL (v : Int) (x5 x6 x7 : Option ai_V) : ai_L := [some (.inr (.inr 100)), some (.inr (.inr 0)), some (.inr (.inr 59)), some (.inr (.inr 91)), some (.inl v), x5, x6, x7]
set_option maxRecDepth 100000 in
/-- behind an arm: the next turn -/
theorem arm_next {sc : Int × (Int → Int)} {σ : ai_S} {Q : ai_O → Prop} {a b : Nat} {v4 : Int} {x5 x6 x7 : Option ai_V} (hh : ∀ x5 x6 x7, ai_wp sc 206 13 (lwL (v4 + 5) x5 x6 x7) [] (a, b) (92, [], σ) Q) : ai_wp sc 206 672 [some (.inr (.inr 100)), some (.inr (.inr 0)), some (.inr (.inr 59)), some (.inr (.inr 91)), some (.inl v4), x5, x6, x7] [] (a, b) (92, [], σ) Q := ai_blk sc 206 ct_206 2 (hh x5 x6 x7)
theorem arm_table {sc : Int × (Int → Int)} {σ : ai_S} {Q : ai_O → Prop} {a b : Nat} {v4 : Int} (hab : a + 1 ≤ 601024 ∧ b + 6 ≤ 7293034) (hT : σ 59 1 = σ 2 0) (hr : 0 ≤ σ 2 0 ∧ σ 2 0 ≤ 5)
    (K1 : σ 2 0 < 5 → ∀ x5 x6 x7, ai_wp sc 206 13 (lwL (v4 + 5) x5 x6 x7) [] (a + 1, b + 6) (92, [], ai_set (ai_set (ai_set (ai_set (ai_set (ai_set (ai_set σ 4 (σ 2 0) 0) 2 0 (σ 2 0 + 1)) 91 0 (σ 2 0 + 1 - 1)) 59 0 0) 60 (σ 59 1) 0) 64 (σ 59 1) 0) 59 1 (σ 59 1 + 1)) Q)
    (K2 : σ 2 0 = 5 → ∀ x5 x6 x7, ai_wp sc 206 13 (lwL (v4 + 5) x5 x6 x7) [] (a + 1, b + 6) (92, [], ai_set σ 59 0 1) Q) : ai_wp sc 206 25 (lwL v4 none none none) [] (a, b) (92, [], σ) Q := by
  refine lb_25 (ai_ck_in (room_in hab) ?_)
  by_cases h5 : σ 2 0 = 5
  · refine ai_ret_q (rx_191_0 ⟨fun o => o = (.inr 0, (92, [], σ)), rb_1_0 ⟨⟨⟨by omega, by omega⟩, by decide, by decide⟩, fun h => absurd h5 h, fun _ => rfl⟩, fun o ho => ⟨σ, ho, rb_191_8 (ai_k_in ?_)⟩⟩)
    refine lb_28 (ai_ck_in (room_in ⟨hab.1, hab.2⟩) (ai_ret_q (rb_130_0 ⟨⟨⟨by omega, by omega⟩, by decide, by decide⟩, fun h => absurd (hT.trans h5) h, fun _ => ⟨⟨by decide, by decide⟩, fun h => absurd h (by decide), fun _ => ai_k_in ?_⟩⟩)))
    refine lb_31 (ai_ck_in (room_in ⟨hab.1, hab.2⟩) (ai_ret_q (rb_127_0 (ai_k_in ?_))))
    exact lb_34 ⟨⟨(show ai_r 1 from ⟨by decide, by decide⟩), by decide, by decide⟩, fun _ => ⟨⟨by decide, by decide⟩, fun _ => arm_next (K2 h5), fun h => absurd (by decide) h⟩, fun h => absurd rfl h⟩
  · refine ai_ret_q (rt_191 (ai_ret_q (rb_1_0 ⟨⟨⟨by omega, by omega⟩, by decide, by decide⟩, fun _ => ai_ret_q (rb_99_0 ⟨⟨by omega, by omega⟩, ai_k_in (rb_1_15 (ai_k_in (rb_191_4 ⟨⟨by omega, by omega⟩, ⟨by decide, by decide⟩, ai_k_in ?_⟩)))⟩), fun h => absurd h5 h⟩)))
    have h6 : ¬ σ 59 1 = 5 := fun q => h5 (hT.symm.trans q)
    refine lb_28 (ai_ck_in (room_in ⟨hab.1, hab.2⟩) (ai_ret_q (rb_130_0 ⟨⟨(show ai_r (σ 59 1) from ⟨by omega, by omega⟩), by decide, by decide⟩, fun _ => ⟨⟨by decide, by decide⟩, fun _ => ⟨(show 0 ≤ σ 59 1 ∧ σ 59 1 < 5 from ⟨by omega, by omega⟩), (show 0 ≤ σ 59 1 ∧ σ 59 1 < 5 from ⟨by omega, by omega⟩), ai_k_in ?_⟩, fun h => absurd (by decide) h⟩, fun h => absurd (show ¬ σ 59 1 = 5 from h6) h⟩)))
    refine lb_31 (ai_ck_in (room_in ⟨hab.1, hab.2⟩) (ai_ret_q (rb_127_0 (ai_k_in ?_))))
    have h7 : σ 2 0 + 1 - 1 = σ 59 1 + 1 - 1 := by omega
    exact lb_34 ⟨⟨(show ai_r 0 from ⟨by decide, by decide⟩), by decide, by decide⟩, fun _ => ⟨⟨by decide, by decide⟩, fun h => absurd rfl h, fun _ => ⟨⟨by decide, by decide⟩, (show ai_r (σ 59 1 + 1 - 1) from ⟨by omega, by omega⟩), ⟨(show ai_r8 (σ 2 0 + 1 - 1) from ⟨by omega, by omega⟩), (show ai_r8 (σ 59 1 + 1 - 1) from ⟨by omega, by omega⟩)⟩, cmp_r _ _, fun _ => arm_next (K1 (by omega)), fun h => absurd (cmp_eq.mpr h7) h⟩⟩, fun h => absurd rfl h⟩
theorem arm_wipe {sc : Int × (Int → Int)} {σ : ai_S} {Q : ai_O → Prop} {a b : Nat} {v4 : Int} (hab : a ≤ 601024 ∧ b ≤ 7293034)
    (K : ∀ x5 x6 x7, ai_wp sc 206 13 (lwL (v4 + 5) x5 x6 x7) [] (a, b) (92, [], ai_set (ai_set (ai_set σ 34 0 0) 59 0 0) 59 15 0) Q) : ai_wp sc 206 142 (lwL v4 none none none) [] (a, b) (92, [], σ) Q := by
  refine lb_142 (ai_ck_in (room_in hab) (ai_ret_q (rb_4_0 (ai_k_in ?_))))
  refine lb_144 (ai_ck_in (room_in hab) (ai_ret_q (rb_134_0 (ai_k_in ?_))))
  exact lb_146 (arm_next K)
theorem arm_fault {sc : Int × (Int → Int)} {σ : ai_S} {Q : ai_O → Prop} {a b : Nat} {v4 : Int} (hab : a ≤ 601024 ∧ b ≤ 7293034) (h : σ 0 7 = σ 59 18) (hr : ai_r (σ 0 7))
    (K : ∀ x5 x6 x7, ai_wp sc 206 13 (lwL (v4 + 5) x5 x6 x7) [] (a, b) (92, [], ai_set σ 59 0 0) Q) : ai_wp sc 206 172 (lwL v4 none none none) [] (a, b) (92, [], σ) Q := by
  refine lb_172 (ai_ck_in (room_in hab) (ai_ret_q (rb_6_0 (ai_k_in ?_))))
  refine lb_174 (ai_ck_in (room_in hab) (ai_ret_q (rb_149_0 (ai_k_in ?_))))
  exact lb_176 ⟨⟨hr, h ▸ hr⟩, fun _ => arm_next K, fun q => absurd h q⟩
set_option maxRecDepth 100000 in
/-- the head of the law's loop -/
theorem arm_head {sc : Int × (Int → Int)} {σ : ai_S} {Q : ai_O → Prop} {a b : Nat} {v4 : Int} {x5 x6 x7 : Option ai_V} (hab : a ≤ 601024 ∧ b ≤ 7293034) (h4 : 0 ≤ v4 ∧ v4 ≤ 2147483647) (hs : 0 ≤ sc.1 ∧ sc.1 ≤ 2560) (hQ : sc.1 - 5 < v4 → Q (.inl (some (.inl 1)), (92, [], σ)))
    (K : v4 ≤ sc.1 - 5 → ai_wp sc 206 24 (lwL v4 none none none) [.inl (ai_and (sc.2 v4) 31)] (a, b) (92, [], σ) Q) : ai_wp sc 206 13 (lwL v4 x5 x6 x7) [] (a, b) (92, [], σ) Q :=
  ai_blk sc 206 ct_206 11 (show (ai_r v4 ∧ ai_r (sc.1 - 5)) ∧ (((sc.1 - 5) < v4) → (ai_ck (Nat.ble a 601024 && Nat.ble b 7293034) ((0 ≤ (1 : Int) ∧ (1 : Int) ≤ 1) ∧ Q (.inl (some (.inl 1)), (92, [], σ))))) ∧ (¬ ((sc.1 - 5) < v4) → ((0 ≤ v4 ∧ v4 < sc.1) ∧ (ai_wp sc 206 24 (lwL v4 none none none) [.inl (ai_and (sc.2 v4) 31)] (a, b) (92, [], σ) Q))) from
    ⟨⟨⟨by omega, by omega⟩, ⟨by omega, by omega⟩⟩, fun h => ai_ck_in (by simp only [Bool.and_eq_true]; exact ⟨Nat.ble_eq_true_of_le hab.1, Nat.ble_eq_true_of_le hab.2⟩) ⟨by decide, hQ h⟩, fun h => ⟨⟨by omega, by omega⟩, K (by omega)⟩⟩)
theorem arm_failure {sc : Int × (Int → Int)} {σ : ai_S} {Q : ai_O → Prop} {a b : Nat} {v4 : Int} (hab : a ≤ 601024 ∧ b ≤ 7293034) (hv : 0 ≤ v4 ∧ v4 ≤ sc.1 - 5) (hs : ∀ j, -2147483648 ≤ sc.2 j ∧ sc.2 j ≤ 2147483647) (hF : ∀ j, 0 ≤ j → j < 4 → σ 85 j = σ 27 j ∧ ai_r (σ 27 j))
    (K : ∀ x5 x6 x7, ai_wp sc 206 13 (lwL (v4 + 5) x5 x6 x7) [] (a, b) (92, [], ai_set σ 59 0 0) Q) : ai_wp sc 206 249 (lwL v4 none none none) [] (a, b) (92, [], σ) Q := by
  have hj := hs (v4 + 1)
  refine lb_249 ⟨⟨by omega, by omega⟩, ai_ck_in (room_in hab) (ai_ret_q (rb_9_0 ⟨hj, fun h => ai_k_in ?_, fun h => ⟨⟨hj, by decide, by decide⟩, fun h2 => ⟨⟨by omega, by omega⟩, ai_k_in ?_⟩, fun h2 => ai_k_in ?_⟩⟩))⟩
  · refine lb_256 ⟨⟨by omega, by omega⟩, ai_ck_in (room_in hab) (ai_ret_q (rb_173_0 ⟨hj, fun _ => ai_k_in ?_, fun q => absurd h q⟩))⟩
    exact lb_263 ⟨⟨⟨by decide, by decide⟩, by decide, by decide⟩, fun _ => arm_next K, fun q => absurd rfl q⟩
  · obtain ⟨e, r⟩ := hF (sc.2 (v4 + 1)) (by omega) h2
    refine lb_256 ⟨⟨by omega, by omega⟩, ai_ck_in (room_in hab) (ai_ret_q (rb_173_0 ⟨hj, fun q => absurd q h, fun _ => ⟨⟨hj, by decide, by decide⟩, fun _ => ⟨⟨by omega, by omega⟩, ai_k_in ?_⟩, fun q => absurd (show sc.2 (v4 + 1) ≤ 3 by omega) q⟩⟩))⟩
    exact lb_263 ⟨⟨r, e ▸ r⟩, fun _ => arm_next K, fun q => absurd e.symm q⟩
  · refine lb_256 ⟨⟨by omega, by omega⟩, ai_ck_in (room_in hab) (ai_ret_q (rb_173_0 ⟨hj, fun q => absurd q h, fun _ => ⟨⟨hj, by decide, by decide⟩, fun q => absurd q (by omega), fun _ => ai_k_in ?_⟩⟩))⟩
    exact lb_263 ⟨⟨⟨by decide, by decide⟩, by decide, by decide⟩, fun _ => arm_next K, fun q => absurd rfl q⟩
theorem arm_commit {sc : Int × (Int → Int)} {σ : ai_S} {Q : ai_O → Prop} {a b : Nat} {v4 : Int} (hab : a + 1 ≤ 601024 ∧ b + 6 ≤ 7293034) (hT : σ 59 13 = σ 12 0) (hr : 0 ≤ σ 12 0 ∧ σ 12 0 ≤ 3)
    (K1 : 0 < σ 12 0 → ∀ x5 x6 x7, ai_wp sc 206 13 (lwL (v4 + 5) x5 x6 x7) [] (a + 1, b + 6) (92, [], ai_set (ai_set (ai_set (ai_set σ 12 0 (σ 12 0 - 1)) 91 0 (σ 12 0 - 1)) 59 0 0) 59 13 (σ 59 13 - 1)) Q)
    (K2 : σ 12 0 = 0 → ∀ x5 x6 x7, ai_wp sc 206 13 (lwL (v4 + 5) x5 x6 x7) [] (a + 1, b + 6) (92, [], ai_set σ 59 0 1) Q) : ai_wp sc 206 438 (lwL v4 none none none) [] (a, b) (92, [], σ) Q := by
  refine lb_438 (ai_ck_in (room_in hab) ?_)
  by_cases h5 : σ 12 0 = 0
  · refine ai_ret_q (rx_200_0 ⟨fun o => o = (.inr 0, (92, [], σ)), rb_14_0 ⟨⟨by omega, by omega⟩, fun h => absurd h5 h, fun _ => rfl⟩, fun o ho => ⟨σ, ho, rb_200_8 (ai_k_in ?_)⟩⟩)
    refine lb_441 (ai_ck_in (room_in ⟨hab.1, hab.2⟩) (ai_ret_q (rb_156_0 ⟨⟨by omega, by omega⟩, fun h => absurd (hT.trans h5) h, fun _ => ⟨⟨by decide, by decide⟩, fun h => absurd h (by decide), fun _ => ai_k_in ?_⟩⟩)))
    refine lb_444 (ai_ck_in (room_in ⟨hab.1, hab.2⟩) (ai_ret_q (rb_127_0 (ai_k_in ?_))))
    exact lb_447 ⟨⟨(show ai_r 1 from ⟨by decide, by decide⟩), by decide, by decide⟩, fun _ => ⟨⟨by decide, by decide⟩, fun _ => arm_next (K2 h5), fun h => absurd (by decide) h⟩, fun h => absurd rfl h⟩
  · refine ai_ret_q (rt_200 (ai_ret_q (rb_14_0 ⟨⟨by omega, by omega⟩, fun _ => ai_ret_q (rb_70_0 (ai_k_in (rb_14_14 (ai_k_in (rb_200_4 ⟨(show ai_r (σ 12 0 - 1) from ⟨by omega, by omega⟩), ⟨by decide, by decide⟩, ai_k_in ?_⟩))))), fun h => absurd h5 h⟩)))
    have h6 : ¬ σ 59 13 = 0 := fun q => h5 (hT.symm.trans q)
    refine lb_441 (ai_ck_in (room_in ⟨hab.1, hab.2⟩) (ai_ret_q (rb_156_0 ⟨(show ai_r (σ 59 13) from ⟨by omega, by omega⟩), fun _ => ⟨⟨by decide, by decide⟩, fun _ => ai_k_in ?_, fun h => absurd (by decide) h⟩, fun h => absurd (show ¬ σ 59 13 = 0 from h6) h⟩)))
    refine lb_444 (ai_ck_in (room_in ⟨hab.1, hab.2⟩) (ai_ret_q (rb_127_0 (ai_k_in ?_))))
    have h7 : σ 12 0 - 1 = σ 59 13 - 1 := by omega
    exact lb_447 ⟨⟨(show ai_r 0 from ⟨by decide, by decide⟩), by decide, by decide⟩, fun _ => ⟨⟨by decide, by decide⟩, fun h => absurd rfl h, fun _ => ⟨⟨by decide, by decide⟩, (show ai_r (σ 59 13 - 1) from ⟨by omega, by omega⟩), ⟨(show ai_r8 (σ 12 0 - 1) from ⟨by omega, by omega⟩), (show ai_r8 (σ 59 13 - 1) from ⟨by omega, by omega⟩)⟩, cmp_r _ _, fun _ => arm_next (K1 (by omega)), fun h => absurd (cmp_eq.mpr h7) h⟩⟩, fun h => absurd rfl h⟩
theorem arm_rows {sc : Int × (Int → Int)} {σ : ai_S} {Q : ai_O → Prop} {a b : Nat} {v4 : Int} (hab : a + 1 ≤ 601024 ∧ b + 6 ≤ 7293034) (hv : 0 ≤ v4 ∧ v4 ≤ sc.1 - 5) (hs : ∀ j, -2147483648 ≤ sc.2 j ∧ sc.2 j ≤ 2147483647) (hT : σ 59 1 = σ 2 0) (hr : 0 ≤ σ 2 0 ∧ σ 2 0 ≤ 5) (hC : ∀ t, 0 ≤ t → t < σ 2 0 → σ 64 t = σ 9 t ∧ 0 ≤ σ 9 t ∧ σ 9 t ≤ 12)
    (K1 : ∀ x5 x6 x7, ai_wp sc 206 13 (lwL (v4 + 5) x5 x6 x7) [] (a + 1, b + 6) (92, [], ai_set (ai_set σ 91 0 (σ 9 (sc.2 (v4 + 1)))) 59 0 0) Q)
    (K2 : ∀ x5 x6 x7, ai_wp sc 206 13 (lwL (v4 + 5) x5 x6 x7) [] (a + 1, b + 6) (92, [], ai_set σ 59 0 1) Q) : ai_wp sc 206 266 (lwL v4 none none none) [] (a, b) (92, [], σ) Q := by
  have hj := hs (v4 + 1)
  have hn : ai_r (σ 2 0) := ⟨by omega, by omega⟩
  have hm : ai_r (σ 59 1) := ⟨by omega, by omega⟩
  refine lb_266 ⟨⟨by omega, by omega⟩, ai_ck_in (room_in hab) ?_⟩
  by_cases ht : 0 ≤ sc.2 (v4 + 1) ∧ sc.2 (v4 + 1) < σ 2 0
  · obtain ⟨e, e0, e1⟩ := hC _ ht.1 ht.2
    refine ai_ret_q (rt_196 (ai_ret_q (rb_10_0 (ai_ret_q (pc_93 ⟨hj, fun _ => ⟨hj, hn⟩⟩ (ai_k_in (rb_10_5 ⟨bi_r _, fun _ => ai_ret_q (pc_105 ⟨by omega, by omega⟩ (ai_k_in (rb_10_16 (ai_k_in (rb_196_5 ⟨⟨by omega, by omega⟩, ⟨by decide, by decide⟩, ai_k_in ?_⟩))))), fun h => absurd (show _ ∧ _ from ⟨by omega, by omega⟩) (bi_no2 h)⟩)))))))
    refine lb_274 ⟨⟨by omega, by omega⟩, ai_ck_in (room_in ⟨hab.1, hab.2⟩) (ai_ret_q (rb_174_0 (ai_ret_q (pc_129 ⟨hj, fun _ => ⟨hj, hm⟩⟩ (ai_k_in (rb_174_4 ⟨bi_r _, fun h => absurd (show _ ∧ _ from ⟨?_, ?_⟩) (bi_no h), fun _ => ⟨⟨by decide, by decide⟩, fun _ => ⟨⟨by omega, by omega⟩, ai_k_in ?_⟩, fun h => absurd (by decide) h⟩⟩))))))⟩
    · omega
    · show ¬ σ 59 1 ≤ sc.2 (v4 + 1)
      omega
    · refine lb_282 (ai_ck_in (room_in ⟨hab.1, hab.2⟩) (ai_ret_q (rb_127_0 (ai_k_in ?_))))
      exact lb_285 ⟨⟨(show ai_r 0 from ⟨by decide, by decide⟩), by decide, by decide⟩, fun _ => ⟨⟨by decide, by decide⟩, fun h => absurd rfl h, fun _ => ⟨⟨by decide, by decide⟩, (show ai_r (σ 64 (sc.2 (v4 + 1))) from ⟨by omega, by omega⟩), ⟨(show ai_r8 (σ 9 (sc.2 (v4 + 1))) from ⟨by omega, by omega⟩), (show ai_r8 (σ 64 (sc.2 (v4 + 1))) from ⟨by omega, by omega⟩)⟩, cmp_r _ _, fun _ => arm_next K1, fun h => absurd (cmp_eq.mpr e.symm) h⟩⟩, fun h => absurd rfl h⟩
  · refine ai_ret_q (rx_196_3 ⟨fun o => o = (.inr 3, (92, [], σ)), rb_10_0 (ai_ret_q (pc_93 ⟨hj, fun _ => ⟨hj, hn⟩⟩ (ai_k_in (rb_10_5 ⟨bi_r _, fun h => absurd (bi_yes h) (fun q => ht ⟨by omega, by omega⟩), fun _ => rfl⟩)))), fun o ho => ⟨σ, ho, rb_196_9 (ai_k_in ?_)⟩⟩)
    refine lb_274 ⟨⟨by omega, by omega⟩, ai_ck_in (room_in ⟨hab.1, hab.2⟩) (ai_ret_q (rb_174_0 (ai_ret_q (pc_129 ⟨hj, fun _ => ⟨hj, hm⟩⟩ (ai_k_in (rb_174_4 ⟨bi_r _, fun _ => ⟨⟨by decide, by decide⟩, fun h => absurd h (by decide), fun _ => ai_k_in ?_⟩, fun h => absurd (bi_yes h) (fun q => ht ⟨by omega, by omega⟩)⟩))))))⟩
    refine lb_282 (ai_ck_in (room_in ⟨hab.1, hab.2⟩) (ai_ret_q (rb_127_0 (ai_k_in ?_))))
    exact lb_285 ⟨⟨(show ai_r 1 from ⟨by decide, by decide⟩), by decide, by decide⟩, fun _ => ⟨⟨by decide, by decide⟩, fun _ => arm_next K2, fun h => absurd (by decide) h⟩, fun h => absurd rfl h⟩
theorem arm_type {sc : Int × (Int → Int)} {σ : ai_S} {Q : ai_O → Prop} {a b : Nat} {v4 : Int} (hab : a ≤ 601024 ∧ b ≤ 7293034) (hv : 0 ≤ v4 ∧ v4 ≤ sc.1 - 5) (hc : 0 ≤ ai_i2c (sc.2 (v4 + 1)) ∧ ai_i2c (sc.2 (v4 + 1)) ≤ 65535) (hT : σ 59 15 = σ 34 0) (hr : 0 ≤ σ 34 0 ∧ σ 34 0 ≤ 120)
    (K1 : σ 34 0 < 120 → ∀ x5 x6 x7, ai_wp sc 206 13 (lwL (v4 + 5) x5 x6 x7) [] (a, b) (92, [], ai_set (ai_set (ai_set (ai_set (ai_set σ 35 (σ 34 0) (ai_i2c (sc.2 (v4 + 1)))) 34 0 (σ 34 0 + 1)) 59 0 0) 71 (σ 59 15) (ai_i2c (sc.2 (v4 + 1)))) 59 15 (σ 59 15 + 1)) Q)
    (K2 : σ 34 0 = 120 → ∀ x5 x6 x7, ai_wp sc 206 13 (lwL (v4 + 5) x5 x6 x7) [] (a, b) (92, [], ai_set σ 59 0 0) Q) : ai_wp sc 206 123 (lwL v4 none none none) [] (a, b) (92, [], σ) Q := by
  have hm : ai_r (σ 59 15) := ⟨by omega, by omega⟩
  refine lb_123 ⟨⟨by omega, by omega⟩, ai_ck_in (room_in hab) (ai_ret_q (rb_3_0 (ai_ret_q (rb_73_0 ⟨⟨⟨by omega, by omega⟩, by decide, by decide⟩, fun h => ⟨⟨by omega, by omega⟩, hc, by decide, ai_k_in (rb_3_4 ⟨by decide, ai_k_in ?_⟩)⟩, fun h => ⟨by decide, ai_k_in (rb_3_4 ⟨by decide, ai_k_in ?_⟩)⟩⟩))))⟩
  · refine lb_131 ⟨⟨by omega, by omega⟩, ai_ck_in (room_in hab) (ai_ret_q (rb_133_0 ⟨⟨hm, by decide, by decide⟩, fun _ => ⟨(show 0 ≤ σ 59 15 ∧ σ 59 15 < 120 from ⟨by omega, by omega⟩), by decide, ai_k_in ?_⟩, fun q => absurd (show ¬ σ 59 15 = 120 by omega) q⟩))⟩
    exact lb_139 ⟨⟨⟨by decide, by decide⟩, by decide, by decide⟩, fun _ => arm_next (K1 h), fun q => absurd rfl q⟩
  · refine lb_131 ⟨⟨by omega, by omega⟩, ai_ck_in (room_in hab) (ai_ret_q (rb_133_0 ⟨⟨hm, by decide, by decide⟩, fun q => absurd (show σ 59 15 = 120 by omega) q, fun _ => ⟨by decide, ai_k_in ?_⟩⟩))⟩
    exact lb_139 ⟨⟨⟨by decide, by decide⟩, by decide, by decide⟩, fun _ => arm_next (K2 (by omega)), fun q => absurd rfl q⟩
theorem i2c_rng (x : Int) : 0 ≤ ai_i2c x ∧ ai_i2c x ≤ 65535 := by
  unfold ai_i2c
  generalize (Int32.ofInt x).toUInt32 = u
  have h : (u % 65536).toNat < 65536 := by
    rw [UInt32.toNat_mod]
    exact Nat.mod_lt _ (by decide)
  have e : (u % 65536).toInt32.toInt = Int.ofNat (u % 65536).toNat := by
    show BitVec.toInt (u % 65536).toBitVec = _
    rw [BitVec.toInt_eq_toNat_of_lt]
    · rfl
    · show 2 * (u % 65536).toNat < 2 ^ 32
      omega
  rw [e]
  simp only [Int.ofNat_eq_natCast]
  omega
