/-! TURNS: wrappers and arms from what class and reference answer. -/
def fn (sc : Int × (Int → Int)) (m : Nat) (args : ai_L) (σ : ai_S) (r : Option ai_V) (σ' : ai_S) : Prop := ∀ Q : ai_O → Prop, Q (.inl r, (92, [], σ')) → ai_wp sc m 0 args [] (0, 0) (92, [], σ) Q
def th (sc : Int × (Int → Int)) (m : Nat) (args : ai_L) (σ : ai_S) (c : Nat) (σ' : ai_S) : Prop := ∀ Q : ai_O → Prop, Q (.inr c, (92, [], σ')) → ai_wp sc m 0 args [] (0, 0) (92, [], σ) Q
theorem fn_ret {sc : Int × (Int → Int)} {m : Nat} {args : ai_L} {σ σ' : ai_S} {r : Option ai_V} {K : Option ai_V → ai_H → Prop} (h : fn sc m args σ r σ') (hK : K r (92, [], σ')) : ai_ret (ai_wp sc) m args (92, [], σ) K := ai_ret_q (h _ (ai_k_in hK))
theorem r8_of {x : Int} (h : ai_r x) : ai_r8 x := by
  obtain ⟨h1, h2⟩ := h
  exact ⟨by omega, by omega⟩
theorem wv_192 {sc : Int × (Int → Int)} {σ σ1 : ai_S} {v1 v2 v3 v4 : Int} {v : Int} (h : fn sc 2 [some (.inr (.inr 0)), some (.inl v1), some (.inl v2), some (.inl v3), some (.inl v4), none] σ (some (.inl v)) σ1) (hv : ai_r v) : fn sc 192 [some (.inr (.inr 0)), some (.inl v1), some (.inl v2), some (.inl v3), some (.inl v4), some (.inr (.inr 91)), none] σ (some (.inl 0)) (ai_set σ1 91 0 v) := fun _ hQ => rt_192 (fn_ret h (rb_192_8 ⟨hv, ⟨by decide, by decide⟩, hQ⟩))
theorem wx_192_1 {sc : Int × (Int → Int)} {σ σ1 : ai_S} {v1 v2 v3 v4 : Int} (h : th sc 2 [some (.inr (.inr 0)), some (.inl v1), some (.inl v2), some (.inl v3), some (.inl v4), none] σ 1 σ1) : fn sc 192 [some (.inr (.inr 0)), some (.inl v1), some (.inl v2), some (.inl v3), some (.inl v4), some (.inr (.inr 91)), none] σ (some (.inl 1)) σ1 := fun _ hQ => rx_192_1 ⟨fun o => o = (.inr 1, (92, [], σ1)), h _ rfl, fun o ho => ⟨σ1, ho, rb_192_12 hQ⟩⟩
theorem wx_192_0 {sc : Int × (Int → Int)} {σ σ1 : ai_S} {v1 v2 v3 v4 : Int} (h : th sc 2 [some (.inr (.inr 0)), some (.inl v1), some (.inl v2), some (.inl v3), some (.inl v4), none] σ 0 σ1) : fn sc 192 [some (.inr (.inr 0)), some (.inl v1), some (.inl v2), some (.inl v3), some (.inl v4), some (.inr (.inr 91)), none] σ (some (.inl 2)) σ1 := fun _ hQ => rx_192_0 ⟨fun o => o = (.inr 0, (92, [], σ1)), h _ rfl, fun o ho => ⟨σ1, ho, rb_192_15 hQ⟩⟩
theorem ar_column {sc : Int × (Int → Int)} {σ σ1 σ2 : ai_S} {Q : ai_O → Prop} {a b : Nat} {v4 k r : Int} (hab : a + 1 ≤ 601024 ∧ b + 6 ≤ 7293034) (hv : 0 ≤ v4 ∧ v4 ≤ sc.1 - 5) (hs : ∀ j, -2147483648 ≤ sc.2 j ∧ sc.2 j ≤ 2147483647)
    (hw : fn sc 192 [some (.inr (.inr 0)), some (.inl (sc.2 (v4 + 1))), some (.inl (sc.2 (v4 + 2))), some (.inl (if sc.2 (v4 + 3) = 0 then 0 else 1)), some (.inl (sc.2 (v4 + 4))), some (.inr (.inr 91)), none] σ (some (.inl k)) σ1) (hm : fn sc 132 [some (.inr (.inr 59)), some (.inl (sc.2 (v4 + 1))), some (.inl (sc.2 (v4 + 2))), some (.inl (if sc.2 (v4 + 3) = 0 then 0 else 1)), some (.inl (sc.2 (v4 + 4))), none] σ1 (some (.inl r)) σ2) (hk : σ2 59 0 = k) (hkr : 0 ≤ k ∧ k ≤ 3) (hr : ai_r r) (ho : k = 0 → σ2 91 0 = r)
    (K : ∀ x5 x6 x7, ai_wp sc 206 13 (lwL (v4 + 5) x5 x6 x7) [] (a + 1, b + 6) (92, [], σ2) Q) : ai_wp sc 206 50 (lwL v4 none none none) [] (a, b) (92, [], σ) Q := by
  have hk1 : ai_r k := ⟨by omega, by omega⟩
  have hk2 : ai_r (σ2 59 0) := by
    rw [hk]
    exact hk1
  have hab2 : a + 1 + 0 ≤ 601024 ∧ b + 6 + 0 ≤ 7293034 := ⟨hab.1, hab.2⟩
  by_cases h3 : sc.2 (v4 + 3) = 0
  · rw [if_pos h3] at hw hm
    refine lb_50 ⟨⟨by omega, by omega⟩, ⟨by omega, by omega⟩, ⟨by omega, by omega⟩, hs _, fun _ => ⟨⟨by omega, by omega⟩, ai_ck_in (room_in hab) (fn_ret hw ?_)⟩, fun h => absurd h3 h⟩
    refine lb_77 ⟨⟨by omega, by omega⟩, ⟨by omega, by omega⟩, ⟨by omega, by omega⟩, hs _, fun _ => ⟨⟨by omega, by omega⟩, ai_ck_in (room_in hab2) (fn_ret hm ?_)⟩, fun h => absurd h3 h⟩
    refine lb_104 (ai_ck_in (room_in hab2) (ai_ret_q (rb_127_0 (ai_k_in ?_))))
    refine lb_107 ⟨⟨hk2, hk1⟩, fun _ => ⟨hk1, fun _ => arm_next K, fun h => ?_⟩, fun h => absurd hk h⟩
    have e := ho (Decidable.not_not.mp h)
    exact ⟨⟨by decide, by decide⟩, hr, ⟨e ▸ r8_of hr, r8_of hr⟩, cmp_r _ _, fun _ => arm_next K, fun q => absurd (cmp_eq.mpr e) q⟩
  · rw [if_neg h3] at hw hm
    refine lb_50 ⟨⟨by omega, by omega⟩, ⟨by omega, by omega⟩, ⟨by omega, by omega⟩, hs _, fun h => absurd h h3, fun _ => ⟨⟨by omega, by omega⟩, ai_ck_in (room_in hab) (fn_ret hw ?_)⟩⟩
    refine lb_77 ⟨⟨by omega, by omega⟩, ⟨by omega, by omega⟩, ⟨by omega, by omega⟩, hs _, fun h => absurd h h3, fun _ => ⟨⟨by omega, by omega⟩, ai_ck_in (room_in hab2) (fn_ret hm ?_)⟩⟩
    refine lb_104 (ai_ck_in (room_in hab2) (ai_ret_q (rb_127_0 (ai_k_in ?_))))
    refine lb_107 ⟨⟨hk2, hk1⟩, fun _ => ⟨hk1, fun _ => arm_next K, fun h => ?_⟩, fun h => absurd hk h⟩
    have e := ho (Decidable.not_not.mp h)
    exact ⟨⟨by decide, by decide⟩, hr, ⟨e ▸ r8_of hr, r8_of hr⟩, cmp_r _ _, fun _ => arm_next K, fun q => absurd (cmp_eq.mpr e) q⟩
theorem wv_193 {sc : Int × (Int → Int)} {σ σ1 : ai_S} {v : Int} (h : fn sc 5 [some (.inr (.inr 0)), none] σ (some (.inl v)) σ1) (hv : ai_r v) : fn sc 193 [some (.inr (.inr 0)), some (.inr (.inr 91)), none] σ (some (.inl 0)) (ai_set σ1 91 0 v) := fun _ hQ => rt_193 (fn_ret h (rb_193_4 ⟨hv, ⟨by decide, by decide⟩, hQ⟩))
theorem wx_193_1 {sc : Int × (Int → Int)} {σ σ1 : ai_S} (h : th sc 5 [some (.inr (.inr 0)), none] σ 1 σ1) : fn sc 193 [some (.inr (.inr 0)), some (.inr (.inr 91)), none] σ (some (.inl 1)) σ1 := fun _ hQ => rx_193_1 ⟨fun o => o = (.inr 1, (92, [], σ1)), h _ rfl, fun o ho => ⟨σ1, ho, rb_193_8 hQ⟩⟩
theorem ar_read {sc : Int × (Int → Int)} {σ σ1 σ2 : ai_S} {Q : ai_O → Prop} {a b : Nat} {v4 k r : Int} (hab : a + 1 ≤ 601024 ∧ b + 6 ≤ 7293034) (hv : 0 ≤ v4 ∧ v4 ≤ sc.1 - 5) (hs : ∀ j, -2147483648 ≤ sc.2 j ∧ sc.2 j ≤ 2147483647)
    (hw : fn sc 193 [some (.inr (.inr 0)), some (.inr (.inr 91)), none] σ (some (.inl k)) σ1) (hm : fn sc 148 [some (.inr (.inr 59)), none] σ1 (some (.inl r)) σ2) (hk : σ2 59 0 = k) (hkr : 0 ≤ k ∧ k ≤ 3) (hr : ai_r r) (ho : k = 0 → σ2 91 0 = r)
    (K : ∀ x5 x6 x7, ai_wp sc 206 13 (lwL (v4 + 5) x5 x6 x7) [] (a + 1, b + 6) (92, [], σ2) Q) : ai_wp sc 206 147 (lwL v4 none none none) [] (a, b) (92, [], σ) Q := by
  have hk1 : ai_r k := ⟨by omega, by omega⟩
  have hk2 : ai_r (σ2 59 0) := by
    rw [hk]
    exact hk1
  have hab2 : a + 1 + 0 ≤ 601024 ∧ b + 6 + 0 ≤ 7293034 := ⟨hab.1, hab.2⟩
  refine lb_147 (ai_ck_in (room_in hab) (fn_ret hw ?_))
  refine lb_150 (ai_ck_in (room_in hab2) (fn_ret hm ?_))
  refine lb_153 (ai_ck_in (room_in hab2) (ai_ret_q (rb_127_0 (ai_k_in ?_))))
  refine lb_156 ⟨⟨hk2, hk1⟩, fun _ => ⟨hk1, fun _ => arm_next K, fun h => ?_⟩, fun h => absurd hk h⟩
  have e := ho (Decidable.not_not.mp h)
  exact ⟨⟨by decide, by decide⟩, hr, ⟨e ▸ r8_of hr, r8_of hr⟩, cmp_r _ _, fun _ => arm_next K, fun q => absurd (cmp_eq.mpr e) q⟩
theorem wv_194 {sc : Int × (Int → Int)} {σ σ1 : ai_S} {v1 : Int} {v : Int} (h : fn sc 7 [some (.inr (.inr 0)), some (.inl v1)] σ (some (.inl v)) σ1) (hv : ai_r v) : fn sc 194 [some (.inr (.inr 0)), some (.inl v1), some (.inr (.inr 91)), none] σ (some (.inl 0)) (ai_set σ1 91 0 v) := fun _ hQ => rt_194 (fn_ret h (rb_194_5 ⟨hv, ⟨by decide, by decide⟩, hQ⟩))
theorem wx_194_1 {sc : Int × (Int → Int)} {σ σ1 : ai_S} {v1 : Int} (h : th sc 7 [some (.inr (.inr 0)), some (.inl v1)] σ 1 σ1) : fn sc 194 [some (.inr (.inr 0)), some (.inl v1), some (.inr (.inr 91)), none] σ (some (.inl 1)) σ1 := fun _ hQ => rx_194_1 ⟨fun o => o = (.inr 1, (92, [], σ1)), h _ rfl, fun o ho => ⟨σ1, ho, rb_194_9 hQ⟩⟩
theorem wx_194_2 {sc : Int × (Int → Int)} {σ σ1 : ai_S} {v1 : Int} (h : th sc 7 [some (.inr (.inr 0)), some (.inl v1)] σ 2 σ1) : fn sc 194 [some (.inr (.inr 0)), some (.inl v1), some (.inr (.inr 91)), none] σ (some (.inl 2)) σ1 := fun _ hQ => rx_194_2 ⟨fun o => o = (.inr 2, (92, [], σ1)), h _ rfl, fun o ho => ⟨σ1, ho, rb_194_12 hQ⟩⟩
theorem ar_order {sc : Int × (Int → Int)} {σ σ1 σ2 : ai_S} {Q : ai_O → Prop} {a b : Nat} {v4 k r : Int} (hab : a + 1 ≤ 601024 ∧ b + 6 ≤ 7293034) (hv : 0 ≤ v4 ∧ v4 ≤ sc.1 - 5) (hs : ∀ j, -2147483648 ≤ sc.2 j ∧ sc.2 j ≤ 2147483647)
    (hw : fn sc 194 [some (.inr (.inr 0)), some (.inl (sc.2 (v4 + 1))), some (.inr (.inr 91)), none] σ (some (.inl k)) σ1) (hm : fn sc 152 [some (.inr (.inr 59)), some (.inl (sc.2 (v4 + 1)))] σ1 (some (.inl r)) σ2) (hk : σ2 59 0 = k) (hkr : 0 ≤ k ∧ k ≤ 3) (hr : ai_r r) (ho : k = 0 → σ2 91 0 = r)
    (K : ∀ x5 x6 x7, ai_wp sc 206 13 (lwL (v4 + 5) x5 x6 x7) [] (a + 1, b + 6) (92, [], σ2) Q) : ai_wp sc 206 179 (lwL v4 none none none) [] (a, b) (92, [], σ) Q := by
  have hk1 : ai_r k := ⟨by omega, by omega⟩
  have hk2 : ai_r (σ2 59 0) := by
    rw [hk]
    exact hk1
  have hab2 : a + 1 + 0 ≤ 601024 ∧ b + 6 + 0 ≤ 7293034 := ⟨hab.1, hab.2⟩
  refine lb_179 ⟨⟨by omega, by omega⟩, ai_ck_in (room_in hab) (fn_ret hw ?_)⟩
  refine lb_187 ⟨⟨by omega, by omega⟩, ai_ck_in (room_in hab2) (fn_ret hm ?_)⟩
  refine lb_195 (ai_ck_in (room_in hab2) (ai_ret_q (rb_127_0 (ai_k_in ?_))))
  refine lb_198 ⟨⟨hk2, hk1⟩, fun _ => ⟨hk1, fun _ => arm_next K, fun h => ?_⟩, fun h => absurd hk h⟩
  have e := ho (Decidable.not_not.mp h)
  exact ⟨⟨by decide, by decide⟩, hr, ⟨e ▸ r8_of hr, r8_of hr⟩, cmp_r _ _, fun _ => arm_next K, fun q => absurd (cmp_eq.mpr e) q⟩
theorem wv_195 {sc : Int × (Int → Int)} {σ σ1 : ai_S} {v1 : Int} {v : Int} (h : fn sc 8 [some (.inr (.inr 0)), some (.inl v1)] σ (some (.inl v)) σ1) (hv : ai_r v) : fn sc 195 [some (.inr (.inr 0)), some (.inl v1), some (.inr (.inr 91)), none] σ (some (.inl 0)) (ai_set σ1 91 0 v) := fun _ hQ => rt_195 (fn_ret h (rb_195_5 ⟨hv, ⟨by decide, by decide⟩, hQ⟩))
theorem wx_195_1 {sc : Int × (Int → Int)} {σ σ1 : ai_S} {v1 : Int} (h : th sc 8 [some (.inr (.inr 0)), some (.inl v1)] σ 1 σ1) : fn sc 195 [some (.inr (.inr 0)), some (.inl v1), some (.inr (.inr 91)), none] σ (some (.inl 1)) σ1 := fun _ hQ => rx_195_1 ⟨fun o => o = (.inr 1, (92, [], σ1)), h _ rfl, fun o ho => ⟨σ1, ho, rb_195_9 hQ⟩⟩
theorem wx_195_2 {sc : Int × (Int → Int)} {σ σ1 : ai_S} {v1 : Int} (h : th sc 8 [some (.inr (.inr 0)), some (.inl v1)] σ 2 σ1) : fn sc 195 [some (.inr (.inr 0)), some (.inl v1), some (.inr (.inr 91)), none] σ (some (.inl 2)) σ1 := fun _ hQ => rx_195_2 ⟨fun o => o = (.inr 2, (92, [], σ1)), h _ rfl, fun o ho => ⟨σ1, ho, rb_195_12 hQ⟩⟩
theorem wx_195_0 {sc : Int × (Int → Int)} {σ σ1 : ai_S} {v1 : Int} (h : th sc 8 [some (.inr (.inr 0)), some (.inl v1)] σ 0 σ1) : fn sc 195 [some (.inr (.inr 0)), some (.inl v1), some (.inr (.inr 91)), none] σ (some (.inl 3)) σ1 := fun _ hQ => rx_195_0 ⟨fun o => o = (.inr 0, (92, [], σ1)), h _ rfl, fun o ho => ⟨σ1, ho, rb_195_15 hQ⟩⟩
theorem ar_apply {sc : Int × (Int → Int)} {σ σ1 σ2 : ai_S} {Q : ai_O → Prop} {a b : Nat} {v4 k r : Int} (hab : a + 1 ≤ 601024 ∧ b + 6 ≤ 7293034) (hv : 0 ≤ v4 ∧ v4 ≤ sc.1 - 5) (hs : ∀ j, -2147483648 ≤ sc.2 j ∧ sc.2 j ≤ 2147483647)
    (hw : fn sc 195 [some (.inr (.inr 0)), some (.inl (sc.2 (v4 + 1))), some (.inr (.inr 91)), none] σ (some (.inl k)) σ1) (hm : fn sc 172 [some (.inr (.inr 59)), some (.inl (sc.2 (v4 + 1))), none] σ1 (some (.inl r)) σ2) (hk : σ2 59 0 = k) (hkr : 0 ≤ k ∧ k ≤ 3) (hr : ai_r r) (ho : k = 0 → σ2 91 0 = r)
    (K : ∀ x5 x6 x7, ai_wp sc 206 13 (lwL (v4 + 5) x5 x6 x7) [] (a + 1, b + 6) (92, [], σ2) Q) : ai_wp sc 206 214 (lwL v4 none none none) [] (a, b) (92, [], σ) Q := by
  have hk1 : ai_r k := ⟨by omega, by omega⟩
  have hk2 : ai_r (σ2 59 0) := by
    rw [hk]
    exact hk1
  have hab2 : a + 1 + 0 ≤ 601024 ∧ b + 6 + 0 ≤ 7293034 := ⟨hab.1, hab.2⟩
  refine lb_214 ⟨⟨by omega, by omega⟩, ai_ck_in (room_in hab) (fn_ret hw ?_)⟩
  refine lb_222 ⟨⟨by omega, by omega⟩, ai_ck_in (room_in hab2) (fn_ret hm ?_)⟩
  refine lb_230 (ai_ck_in (room_in hab2) (ai_ret_q (rb_127_0 (ai_k_in ?_))))
  refine lb_233 ⟨⟨hk2, hk1⟩, fun _ => ⟨hk1, fun _ => arm_next K, fun h => ?_⟩, fun h => absurd hk h⟩
  have e := ho (Decidable.not_not.mp h)
  exact ⟨⟨by decide, by decide⟩, hr, ⟨e ▸ r8_of hr, r8_of hr⟩, cmp_r _ _, fun _ => arm_next K, fun q => absurd (cmp_eq.mpr e) q⟩
theorem wv_197 {sc : Int × (Int → Int)} {σ σ1 : ai_S} {v1 v2 v3 : Int} {v : Int} (h : fn sc 11 [some (.inr (.inr 0)), some (.inl v1), some (.inl v2), some (.inl v3)] σ (some (.inr (.inl v))) σ1) : fn sc 197 [some (.inr (.inr 0)), some (.inl v1), some (.inl v2), some (.inl v3), some (.inr (.inr 91)), none] σ (some (.inl 0)) (ai_set σ1 91 0 v) := fun _ hQ => rt_197 (fn_ret h (rb_197_7 ⟨⟨by decide, by decide⟩, hQ⟩))
theorem wx_197_3 {sc : Int × (Int → Int)} {σ σ1 : ai_S} {v1 v2 v3 : Int} (h : th sc 11 [some (.inr (.inr 0)), some (.inl v1), some (.inl v2), some (.inl v3)] σ 3 σ1) : fn sc 197 [some (.inr (.inr 0)), some (.inl v1), some (.inl v2), some (.inl v3), some (.inr (.inr 91)), none] σ (some (.inl 1)) σ1 := fun _ hQ => rx_197_3 ⟨fun o => o = (.inr 3, (92, [], σ1)), h _ rfl, fun o ho => ⟨σ1, ho, rb_197_10 hQ⟩⟩
theorem ar_value {sc : Int × (Int → Int)} {σ σ1 σ2 : ai_S} {Q : ai_O → Prop} {a b : Nat} {v4 k r : Int} (hab : a + 1 ≤ 601024 ∧ b + 6 ≤ 7293034) (hv : 0 ≤ v4 ∧ v4 ≤ sc.1 - 5) (hs : ∀ j, -2147483648 ≤ sc.2 j ∧ sc.2 j ≤ 2147483647)
    (hw : fn sc 197 [some (.inr (.inr 0)), some (.inl (sc.2 (v4 + 1))), some (.inl (sc.2 (v4 + 2))), some (.inl (sc.2 (v4 + 3))), some (.inr (.inr 91)), none] σ (some (.inl k)) σ1) (hm : fn sc 176 [some (.inr (.inr 59)), some (.inl (sc.2 (v4 + 1))), some (.inl (sc.2 (v4 + 2))), some (.inl (sc.2 (v4 + 3))), none] σ1 (some (.inr (.inl r))) σ2) (hk : σ2 59 0 = k) (hkr : 0 ≤ k ∧ k ≤ 3) (hr : ai_r8 r) (ho : k = 0 → σ2 91 0 = r)
    (K : ∀ x5 x6 x7, ai_wp sc 206 13 (lwL (v4 + 5) x5 x6 x7) [] (a + 1, b + 6) (92, [], σ2) Q) : ai_wp sc 206 301 (lwL v4 none none none) [] (a, b) (92, [], σ) Q := by
  have hk1 : ai_r k := ⟨by omega, by omega⟩
  have hk2 : ai_r (σ2 59 0) := by
    rw [hk]
    exact hk1
  have hab2 : a + 1 + 0 ≤ 601024 ∧ b + 6 + 0 ≤ 7293034 := ⟨hab.1, hab.2⟩
  refine lb_301 ⟨⟨by omega, by omega⟩, ⟨by omega, by omega⟩, ⟨by omega, by omega⟩, ai_ck_in (room_in hab) (fn_ret hw ?_)⟩
  refine lb_319 ⟨⟨by omega, by omega⟩, ⟨by omega, by omega⟩, ⟨by omega, by omega⟩, ai_ck_in (room_in hab2) (fn_ret hm ?_)⟩
  refine lb_337 (ai_ck_in (room_in hab2) (ai_ret_q (rb_127_0 (ai_k_in ?_))))
  refine lb_340 ⟨⟨hk2, hk1⟩, fun _ => ⟨hk1, fun _ => arm_next K, fun h => ?_⟩, fun h => absurd hk h⟩
  have e := ho (Decidable.not_not.mp h)
  exact ⟨⟨by decide, by decide⟩, ⟨e ▸ hr, hr⟩, cmp_r _ _, fun _ => arm_next K, fun q => absurd (cmp_eq.mpr e) q⟩
theorem wv_198 {sc : Int × (Int → Int)} {σ σ1 : ai_S} {v1 v2 v3 : Int} {v : Int} (h : fn sc 12 [some (.inr (.inr 0)), some (.inl v1), some (.inl v2), some (.inl v3)] σ (some (.inl v)) σ1) (hv : v = 0 ∨ v = 1) : fn sc 198 [some (.inr (.inr 0)), some (.inl v1), some (.inl v2), some (.inl v3), some (.inr (.inr 91)), none] σ (some (.inl 0)) (ai_set σ1 91 0 v) := by
  rcases hv with rfl | rfl
  · exact fun _ hQ => rt_198 (fn_ret h (rb_198_7 ⟨⟨by decide, by decide⟩, fun _ => ⟨⟨by decide, by decide⟩, hQ⟩, fun q => absurd rfl q⟩))
  · exact fun _ hQ => rt_198 (fn_ret h (rb_198_7 ⟨⟨by decide, by decide⟩, fun q => absurd q (by decide), fun _ => ⟨⟨by decide, by decide⟩, hQ⟩⟩))
theorem wx_198_3 {sc : Int × (Int → Int)} {σ σ1 : ai_S} {v1 v2 v3 : Int} (h : th sc 12 [some (.inr (.inr 0)), some (.inl v1), some (.inl v2), some (.inl v3)] σ 3 σ1) : fn sc 198 [some (.inr (.inr 0)), some (.inl v1), some (.inl v2), some (.inl v3), some (.inr (.inr 91)), none] σ (some (.inl 1)) σ1 := fun _ hQ => rx_198_3 ⟨fun o => o = (.inr 3, (92, [], σ1)), h _ rfl, fun o ho => ⟨σ1, ho, rb_198_14 hQ⟩⟩
theorem ar_isNull {sc : Int × (Int → Int)} {σ σ1 σ2 : ai_S} {Q : ai_O → Prop} {a b : Nat} {v4 k r : Int} (hab : a + 1 ≤ 601024 ∧ b + 6 ≤ 7293034) (hv : 0 ≤ v4 ∧ v4 ≤ sc.1 - 5) (hs : ∀ j, -2147483648 ≤ sc.2 j ∧ sc.2 j ≤ 2147483647)
    (hw : fn sc 198 [some (.inr (.inr 0)), some (.inl (sc.2 (v4 + 1))), some (.inl (sc.2 (v4 + 2))), some (.inl (sc.2 (v4 + 3))), some (.inr (.inr 91)), none] σ (some (.inl k)) σ1) (hm : fn sc 177 [some (.inr (.inr 59)), some (.inl (sc.2 (v4 + 1))), some (.inl (sc.2 (v4 + 2))), some (.inl (sc.2 (v4 + 3))), none] σ1 (some (.inl r)) σ2) (hk : σ2 59 0 = k) (hkr : 0 ≤ k ∧ k ≤ 3) (hr : r = 0 ∨ r = 1) (ho : k = 0 → σ2 91 0 = r)
    (K : ∀ x5 x6 x7, ai_wp sc 206 13 (lwL (v4 + 5) x5 x6 x7) [] (a + 1, b + 6) (92, [], σ2) Q) : ai_wp sc 206 355 (lwL v4 none none none) [] (a, b) (92, [], σ) Q := by
  have hk1 : ai_r k := ⟨by omega, by omega⟩
  have hk2 : ai_r (σ2 59 0) := by
    rw [hk]
    exact hk1
  have hab2 : a + 1 + 0 ≤ 601024 ∧ b + 6 + 0 ≤ 7293034 := ⟨hab.1, hab.2⟩
  refine lb_355 ⟨⟨by omega, by omega⟩, ⟨by omega, by omega⟩, ⟨by omega, by omega⟩, ai_ck_in (room_in hab) (fn_ret hw ?_)⟩
  refine lb_373 ⟨⟨by omega, by omega⟩, ⟨by omega, by omega⟩, ⟨by omega, by omega⟩, ai_ck_in (room_in hab2) (fn_ret hm ?_)⟩
  refine lb_391 (ai_ck_in (room_in hab2) (ai_ret_q (rb_127_0 (ai_k_in ?_))))
  refine lb_394 ⟨⟨hk2, hk1⟩, fun _ => ⟨hk1, fun _ => arm_next K, fun h => ?_⟩, fun h => absurd hk h⟩
  have e := ho (Decidable.not_not.mp h)
  rcases hr with rfl | rfl
  · exact ⟨⟨by decide, by decide⟩, ⟨by decide, by decide⟩, fun _ => ⟨⟨(show ai_r8 (σ2 91 0) from ⟨by omega, by omega⟩), ⟨by decide, by decide⟩⟩, cmp_r _ _, fun _ => arm_next K, fun q => absurd (cmp_eq.mpr e) q⟩, fun q => absurd rfl q⟩
  · exact ⟨⟨by decide, by decide⟩, ⟨by decide, by decide⟩, fun q => absurd q (by decide), fun _ => ⟨⟨(show ai_r8 (σ2 91 0) from ⟨by omega, by omega⟩), ⟨by decide, by decide⟩⟩, cmp_r _ _, fun _ => arm_next K, fun q => absurd (cmp_eq.mpr e) q⟩⟩
theorem wv_199 {sc : Int × (Int → Int)} {σ σ1 : ai_S} {v : Int} (h : fn sc 13 [some (.inr (.inr 0))] σ (some (.inl v)) σ1) (hv : ai_r v) : fn sc 199 [some (.inr (.inr 0)), some (.inr (.inr 91)), none] σ (some (.inl 0)) (ai_set σ1 91 0 v) := fun _ hQ => rt_199 (fn_ret h (rb_199_4 ⟨hv, ⟨by decide, by decide⟩, hQ⟩))
theorem wx_199_0 {sc : Int × (Int → Int)} {σ σ1 : ai_S} (h : th sc 13 [some (.inr (.inr 0))] σ 0 σ1) : fn sc 199 [some (.inr (.inr 0)), some (.inr (.inr 91)), none] σ (some (.inl 1)) σ1 := fun _ hQ => rx_199_0 ⟨fun o => o = (.inr 0, (92, [], σ1)), h _ rfl, fun o ho => ⟨σ1, ho, rb_199_8 hQ⟩⟩
theorem ar_begin {sc : Int × (Int → Int)} {σ σ1 σ2 : ai_S} {Q : ai_O → Prop} {a b : Nat} {v4 k r : Int} (hab : a + 1 ≤ 601024 ∧ b + 6 ≤ 7293034) (hv : 0 ≤ v4 ∧ v4 ≤ sc.1 - 5) (hs : ∀ j, -2147483648 ≤ sc.2 j ∧ sc.2 j ≤ 2147483647)
    (hw : fn sc 199 [some (.inr (.inr 0)), some (.inr (.inr 91)), none] σ (some (.inl k)) σ1) (hm : fn sc 155 [some (.inr (.inr 59))] σ1 (some (.inl r)) σ2) (hk : σ2 59 0 = k) (hkr : 0 ≤ k ∧ k ≤ 3) (hr : ai_r r) (ho : k = 0 → σ2 91 0 = r)
    (K : ∀ x5 x6 x7, ai_wp sc 206 13 (lwL (v4 + 5) x5 x6 x7) [] (a + 1, b + 6) (92, [], σ2) Q) : ai_wp sc 206 413 (lwL v4 none none none) [] (a, b) (92, [], σ) Q := by
  have hk1 : ai_r k := ⟨by omega, by omega⟩
  have hk2 : ai_r (σ2 59 0) := by
    rw [hk]
    exact hk1
  have hab2 : a + 1 + 0 ≤ 601024 ∧ b + 6 + 0 ≤ 7293034 := ⟨hab.1, hab.2⟩
  refine lb_413 (ai_ck_in (room_in hab) (fn_ret hw ?_))
  refine lb_416 (ai_ck_in (room_in hab2) (fn_ret hm ?_))
  refine lb_419 (ai_ck_in (room_in hab2) (ai_ret_q (rb_127_0 (ai_k_in ?_))))
  refine lb_422 ⟨⟨hk2, hk1⟩, fun _ => ⟨hk1, fun _ => arm_next K, fun h => ?_⟩, fun h => absurd hk h⟩
  have e := ho (Decidable.not_not.mp h)
  exact ⟨⟨by decide, by decide⟩, hr, ⟨e ▸ r8_of hr, r8_of hr⟩, cmp_r _ _, fun _ => arm_next K, fun q => absurd (cmp_eq.mpr e) q⟩
theorem wv_201 {sc : Int × (Int → Int)} {σ σ1 : ai_S} {v : Int} (h : fn sc 15 [some (.inr (.inr 0))] σ (some (.inl v)) σ1) (hv : ai_r v) : fn sc 201 [some (.inr (.inr 0)), some (.inr (.inr 91)), none] σ (some (.inl 0)) (ai_set σ1 91 0 v) := fun _ hQ => rt_201 (fn_ret h (rb_201_4 ⟨hv, ⟨by decide, by decide⟩, hQ⟩))
theorem wx_201_0 {sc : Int × (Int → Int)} {σ σ1 : ai_S} (h : th sc 15 [some (.inr (.inr 0))] σ 0 σ1) : fn sc 201 [some (.inr (.inr 0)), some (.inr (.inr 91)), none] σ (some (.inl 1)) σ1 := fun _ hQ => rx_201_0 ⟨fun o => o = (.inr 0, (92, [], σ1)), h _ rfl, fun o ho => ⟨σ1, ho, rb_201_8 hQ⟩⟩
theorem ar_rollback {sc : Int × (Int → Int)} {σ σ1 σ2 : ai_S} {Q : ai_O → Prop} {a b : Nat} {v4 k r : Int} (hab : a + 1 ≤ 601024 ∧ b + 6 ≤ 7293034) (hv : 0 ≤ v4 ∧ v4 ≤ sc.1 - 5) (hs : ∀ j, -2147483648 ≤ sc.2 j ∧ sc.2 j ≤ 2147483647)
    (hw : fn sc 201 [some (.inr (.inr 0)), some (.inr (.inr 91)), none] σ (some (.inl k)) σ1) (hm : fn sc 157 [some (.inr (.inr 59))] σ1 (some (.inl r)) σ2) (hk : σ2 59 0 = k) (hkr : 0 ≤ k ∧ k ≤ 3) (hr : ai_r r) (ho : k = 0 → σ2 91 0 = r)
    (K : ∀ x5 x6 x7, ai_wp sc 206 13 (lwL (v4 + 5) x5 x6 x7) [] (a + 1, b + 6) (92, [], σ2) Q) : ai_wp sc 206 463 (lwL v4 none none none) [] (a, b) (92, [], σ) Q := by
  have hk1 : ai_r k := ⟨by omega, by omega⟩
  have hk2 : ai_r (σ2 59 0) := by
    rw [hk]
    exact hk1
  have hab2 : a + 1 + 0 ≤ 601024 ∧ b + 6 + 0 ≤ 7293034 := ⟨hab.1, hab.2⟩
  refine lb_463 (ai_ck_in (room_in hab) (fn_ret hw ?_))
  refine lb_466 (ai_ck_in (room_in hab2) (fn_ret hm ?_))
  refine lb_469 (ai_ck_in (room_in hab2) (ai_ret_q (rb_127_0 (ai_k_in ?_))))
  refine lb_472 ⟨⟨hk2, hk1⟩, fun _ => ⟨hk1, fun _ => arm_next K, fun h => ?_⟩, fun h => absurd hk h⟩
  have e := ho (Decidable.not_not.mp h)
  exact ⟨⟨by decide, by decide⟩, hr, ⟨e ▸ r8_of hr, r8_of hr⟩, cmp_r _ _, fun _ => arm_next K, fun q => absurd (cmp_eq.mpr e) q⟩
theorem wv_202 {sc : Int × (Int → Int)} {σ σ1 : ai_S} {v1 v3 : Int} {v : Int} (h : fn sc 16 [some (.inr (.inr 0)), some (.inr (.inl v1)), none, some (.inl v3)] σ (some (.inl v)) σ1) (hv : ai_r v) : fn sc 202 [some (.inr (.inr 0)), some (.inr (.inl v1)), none, some (.inl v3), some (.inr (.inr 91)), none] σ (some (.inl 0)) (ai_set σ1 91 0 v) := fun _ hQ => rt_202 (fn_ret h (rb_202_6 ⟨hv, ⟨by decide, by decide⟩, hQ⟩))
theorem wx_202_1 {sc : Int × (Int → Int)} {σ σ1 : ai_S} {v1 v3 : Int} (h : th sc 16 [some (.inr (.inr 0)), some (.inr (.inl v1)), none, some (.inl v3)] σ 1 σ1) : fn sc 202 [some (.inr (.inr 0)), some (.inr (.inl v1)), none, some (.inl v3), some (.inr (.inr 91)), none] σ (some (.inl 1)) σ1 := fun _ hQ => rx_202_1 ⟨fun o => o = (.inr 1, (92, [], σ1)), h _ rfl, fun o ho => ⟨σ1, ho, rb_202_10 hQ⟩⟩
theorem wx_202_0 {sc : Int × (Int → Int)} {σ σ1 : ai_S} {v1 v3 : Int} (h : th sc 16 [some (.inr (.inr 0)), some (.inr (.inl v1)), none, some (.inl v3)] σ 0 σ1) : fn sc 202 [some (.inr (.inr 0)), some (.inr (.inl v1)), none, some (.inl v3), some (.inr (.inr 91)), none] σ (some (.inl 2)) σ1 := fun _ hQ => rx_202_0 ⟨fun o => o = (.inr 0, (92, [], σ1)), h _ rfl, fun o ho => ⟨σ1, ho, rb_202_13 hQ⟩⟩
theorem ar_compare {sc : Int × (Int → Int)} {σ σ1 σ2 : ai_S} {Q : ai_O → Prop} {a b : Nat} {v4 k r : Int} (hab : a + 1 ≤ 601024 ∧ b + 6 ≤ 7293034) (hv : 0 ≤ v4 ∧ v4 ≤ sc.1 - 5) (hs : ∀ j, -2147483648 ≤ sc.2 j ∧ sc.2 j ≤ 2147483647)
    (hw : fn sc 202 [some (.inr (.inr 0)), some (.inr (.inl (ai_lor (ai_lshl (sc.2 (v4 + 1)) 32) (ai_land (sc.2 (v4 + 2)) 4294967295)))), none, some (.inl (sc.2 (v4 + 3))), some (.inr (.inr 91)), none] σ (some (.inl k)) σ1) (hm : fn sc 183 [some (.inr (.inr 59)), some (.inr (.inl (ai_lor (ai_lshl (sc.2 (v4 + 1)) 32) (ai_land (sc.2 (v4 + 2)) 4294967295)))), none, some (.inl (sc.2 (v4 + 3))), none] σ1 (some (.inl r)) σ2) (hk : σ2 59 0 = k) (hkr : 0 ≤ k ∧ k ≤ 3) (hr : ai_r r) (ho : k = 0 → σ2 91 0 = r)
    (K : ∀ x5 x6 x7, ai_wp sc 206 13 (lwL (v4 + 5) x5 x6 x7) [] (a + 1, b + 6) (92, [], σ2) Q) : ai_wp sc 206 488 (lwL v4 none none none) [] (a, b) (92, [], σ) Q := by
  have hk1 : ai_r k := ⟨by omega, by omega⟩
  have hk2 : ai_r (σ2 59 0) := by
    rw [hk]
    exact hk1
  have hab2 : a + 1 + 0 ≤ 601024 ∧ b + 6 + 0 ≤ 7293034 := ⟨hab.1, hab.2⟩
  refine lb_488 ⟨⟨by omega, by omega⟩, hs _, ⟨by omega, by omega⟩, hs _, ⟨by omega, by omega⟩, ai_ck_in (room_in hab) (fn_ret hw ?_)⟩
  refine lb_513 ⟨⟨by omega, by omega⟩, hs _, ⟨by omega, by omega⟩, hs _, ⟨by omega, by omega⟩, ai_ck_in (room_in hab2) (fn_ret hm ?_)⟩
  refine lb_538 (ai_ck_in (room_in hab2) (ai_ret_q (rb_127_0 (ai_k_in ?_))))
  refine lb_541 ⟨⟨hk2, hk1⟩, fun _ => ⟨hk1, fun _ => arm_next K, fun h => ?_⟩, fun h => absurd hk h⟩
  have e := ho (Decidable.not_not.mp h)
  exact ⟨⟨by decide, by decide⟩, hr, ⟨e ▸ r8_of hr, r8_of hr⟩, cmp_r _ _, fun _ => arm_next K, fun q => absurd (cmp_eq.mpr e) q⟩
theorem wv_203 {sc : Int × (Int → Int)} {σ σ1 : ai_S} {v1 v2 : Int} {v : Int} (h : fn sc 17 [some (.inr (.inr 0)), some (.inl v1), some (.inl v2)] σ (some (.inl v)) σ1) (hv : ai_r v) : fn sc 203 [some (.inr (.inr 0)), some (.inl v1), some (.inl v2), some (.inr (.inr 91)), none] σ (some (.inl 0)) (ai_set σ1 91 0 v) := fun _ hQ => rt_203 (fn_ret h (rb_203_6 ⟨hv, ⟨by decide, by decide⟩, hQ⟩))
theorem wx_203_3 {sc : Int × (Int → Int)} {σ σ1 : ai_S} {v1 v2 : Int} (h : th sc 17 [some (.inr (.inr 0)), some (.inl v1), some (.inl v2)] σ 3 σ1) : fn sc 203 [some (.inr (.inr 0)), some (.inl v1), some (.inl v2), some (.inr (.inr 91)), none] σ (some (.inl 1)) σ1 := fun _ hQ => rx_203_3 ⟨fun o => o = (.inr 3, (92, [], σ1)), h _ rfl, fun o ho => ⟨σ1, ho, rb_203_10 hQ⟩⟩
theorem wx_203_1 {sc : Int × (Int → Int)} {σ σ1 : ai_S} {v1 v2 : Int} (h : th sc 17 [some (.inr (.inr 0)), some (.inl v1), some (.inl v2)] σ 1 σ1) : fn sc 203 [some (.inr (.inr 0)), some (.inl v1), some (.inl v2), some (.inr (.inr 91)), none] σ (some (.inl 2)) σ1 := fun _ hQ => rx_203_1 ⟨fun o => o = (.inr 1, (92, [], σ1)), h _ rfl, fun o ho => ⟨σ1, ho, rb_203_13 hQ⟩⟩
theorem ar_difference {sc : Int × (Int → Int)} {σ σ1 σ2 : ai_S} {Q : ai_O → Prop} {a b : Nat} {v4 k r : Int} (hab : a + 1 ≤ 601024 ∧ b + 6 ≤ 7293034) (hv : 0 ≤ v4 ∧ v4 ≤ sc.1 - 5) (hs : ∀ j, -2147483648 ≤ sc.2 j ∧ sc.2 j ≤ 2147483647)
    (hw : fn sc 203 [some (.inr (.inr 0)), some (.inl (sc.2 (v4 + 1))), some (.inl (sc.2 (v4 + 2))), some (.inr (.inr 91)), none] σ (some (.inl k)) σ1) (hm : fn sc 184 [some (.inr (.inr 59)), some (.inl (sc.2 (v4 + 1))), some (.inl (sc.2 (v4 + 2)))] σ1 (some (.inl r)) σ2) (hk : σ2 59 0 = k) (hkr : 0 ≤ k ∧ k ≤ 3) (hr : ai_r r) (ho : k = 0 → σ2 91 0 = r)
    (K : ∀ x5 x6 x7, ai_wp sc 206 13 (lwL (v4 + 5) x5 x6 x7) [] (a + 1, b + 6) (92, [], σ2) Q) : ai_wp sc 206 557 (lwL v4 none none none) [] (a, b) (92, [], σ) Q := by
  have hk1 : ai_r k := ⟨by omega, by omega⟩
  have hk2 : ai_r (σ2 59 0) := by
    rw [hk]
    exact hk1
  have hab2 : a + 1 + 0 ≤ 601024 ∧ b + 6 + 0 ≤ 7293034 := ⟨hab.1, hab.2⟩
  refine lb_557 ⟨⟨by omega, by omega⟩, ⟨by omega, by omega⟩, ai_ck_in (room_in hab) (fn_ret hw ?_)⟩
  refine lb_570 ⟨⟨by omega, by omega⟩, ⟨by omega, by omega⟩, ai_ck_in (room_in hab2) (fn_ret hm ?_)⟩
  refine lb_583 (ai_ck_in (room_in hab2) (ai_ret_q (rb_127_0 (ai_k_in ?_))))
  refine lb_586 ⟨⟨hk2, hk1⟩, fun _ => ⟨hk1, fun _ => arm_next K, fun h => ?_⟩, fun h => absurd hk h⟩
  have e := ho (Decidable.not_not.mp h)
  exact ⟨⟨by decide, by decide⟩, hr, ⟨e ▸ r8_of hr, r8_of hr⟩, cmp_r _ _, fun _ => arm_next K, fun q => absurd (cmp_eq.mpr e) q⟩
theorem wv_204 {sc : Int × (Int → Int)} {σ σ1 : ai_S} {v1 : Int} {v : Int} (h : fn sc 18 [some (.inr (.inr 0)), some (.inl v1)] σ (some (.inl v)) σ1) (hv : ai_r v) : fn sc 204 [some (.inr (.inr 0)), some (.inl v1), some (.inr (.inr 91)), none] σ (some (.inl 0)) (ai_set σ1 91 0 v) := fun _ hQ => rt_204 (fn_ret h (rb_204_5 ⟨hv, ⟨by decide, by decide⟩, hQ⟩))
theorem wx_204_3 {sc : Int × (Int → Int)} {σ σ1 : ai_S} {v1 : Int} (h : th sc 18 [some (.inr (.inr 0)), some (.inl v1)] σ 3 σ1) : fn sc 204 [some (.inr (.inr 0)), some (.inl v1), some (.inr (.inr 91)), none] σ (some (.inl 1)) σ1 := fun _ hQ => rx_204_3 ⟨fun o => o = (.inr 3, (92, [], σ1)), h _ rfl, fun o ho => ⟨σ1, ho, rb_204_9 hQ⟩⟩
theorem wx_204_0 {sc : Int × (Int → Int)} {σ σ1 : ai_S} {v1 : Int} (h : th sc 18 [some (.inr (.inr 0)), some (.inl v1)] σ 0 σ1) : fn sc 204 [some (.inr (.inr 0)), some (.inl v1), some (.inr (.inr 91)), none] σ (some (.inl 2)) σ1 := fun _ hQ => rx_204_0 ⟨fun o => o = (.inr 0, (92, [], σ1)), h _ rfl, fun o ho => ⟨σ1, ho, rb_204_12 hQ⟩⟩
theorem ar_write {sc : Int × (Int → Int)} {σ σ1 σ2 : ai_S} {Q : ai_O → Prop} {a b : Nat} {v4 k r : Int} (hab : a + 1 ≤ 601024 ∧ b + 6 ≤ 7293034) (hv : 0 ≤ v4 ∧ v4 ≤ sc.1 - 5) (hs : ∀ j, -2147483648 ≤ sc.2 j ∧ sc.2 j ≤ 2147483647)
    (hw : fn sc 204 [some (.inr (.inr 0)), some (.inl (sc.2 (v4 + 1))), some (.inr (.inr 91)), none] σ (some (.inl k)) σ1) (hm : fn sc 189 [some (.inr (.inr 59)), some (.inl (sc.2 (v4 + 1))), none, none] σ1 (some (.inl r)) σ2) (hk : σ2 59 0 = k) (hkr : 0 ≤ k ∧ k ≤ 3) (hr : ai_r r) (ho : k = 0 → σ2 91 0 = r)
    (K : ∀ x5 x6 x7, ai_wp sc 206 13 (lwL (v4 + 5) x5 x6 x7) [] (a + 1, b + 6) (92, [], σ2) Q) : ai_wp sc 206 602 (lwL v4 none none none) [] (a, b) (92, [], σ) Q := by
  have hk1 : ai_r k := ⟨by omega, by omega⟩
  have hk2 : ai_r (σ2 59 0) := by
    rw [hk]
    exact hk1
  have hab2 : a + 1 + 0 ≤ 601024 ∧ b + 6 + 0 ≤ 7293034 := ⟨hab.1, hab.2⟩
  refine lb_602 ⟨⟨by omega, by omega⟩, ai_ck_in (room_in hab) (fn_ret hw ?_)⟩
  refine lb_610 ⟨⟨by omega, by omega⟩, ai_ck_in (room_in hab2) (fn_ret hm ?_)⟩
  refine lb_618 (ai_ck_in (room_in hab2) (ai_ret_q (rb_127_0 (ai_k_in ?_))))
  refine lb_621 ⟨⟨hk2, hk1⟩, fun _ => ⟨hk1, fun _ => arm_next K, fun h => ?_⟩, fun h => absurd hk h⟩
  have e := ho (Decidable.not_not.mp h)
  exact ⟨⟨by decide, by decide⟩, hr, ⟨e ▸ r8_of hr, r8_of hr⟩, cmp_r _ _, fun _ => arm_next K, fun q => absurd (cmp_eq.mpr e) q⟩
theorem wv_205 {sc : Int × (Int → Int)} {σ σ1 : ai_S} {v1 : Int} {v : Int} (h : fn sc 19 [some (.inr (.inr 0)), some (.inl v1)] σ (some (.inl v)) σ1) (hv : ai_r v) : fn sc 205 [some (.inr (.inr 0)), some (.inl v1), some (.inr (.inr 91)), none] σ (some (.inl 0)) (ai_set σ1 91 0 v) := fun _ hQ => rt_205 (fn_ret h (rb_205_5 ⟨hv, ⟨by decide, by decide⟩, hQ⟩))
theorem wx_205_3 {sc : Int × (Int → Int)} {σ σ1 : ai_S} {v1 : Int} (h : th sc 19 [some (.inr (.inr 0)), some (.inl v1)] σ 3 σ1) : fn sc 205 [some (.inr (.inr 0)), some (.inl v1), some (.inr (.inr 91)), none] σ (some (.inl 1)) σ1 := fun _ hQ => rx_205_3 ⟨fun o => o = (.inr 3, (92, [], σ1)), h _ rfl, fun o ho => ⟨σ1, ho, rb_205_9 hQ⟩⟩
theorem ar_written {sc : Int × (Int → Int)} {σ σ1 σ2 : ai_S} {Q : ai_O → Prop} {a b : Nat} {v4 k r : Int} (hab : a + 1 ≤ 601024 ∧ b + 6 ≤ 7293034) (hv : 0 ≤ v4 ∧ v4 ≤ sc.1 - 5) (hs : ∀ j, -2147483648 ≤ sc.2 j ∧ sc.2 j ≤ 2147483647)
    (hw : fn sc 205 [some (.inr (.inr 0)), some (.inl (sc.2 (v4 + 1))), some (.inr (.inr 91)), none] σ (some (.inl k)) σ1) (hm : fn sc 190 [some (.inr (.inr 59)), some (.inl (sc.2 (v4 + 1)))] σ1 (some (.inl r)) σ2) (hk : σ2 59 0 = k) (hkr : 0 ≤ k ∧ k ≤ 3) (hr : ai_r r) (ho : k = 0 → σ2 91 0 = r)
    (K : ∀ x5 x6 x7, ai_wp sc 206 13 (lwL (v4 + 5) x5 x6 x7) [] (a + 1, b + 6) (92, [], σ2) Q) : ai_wp sc 206 637 (lwL v4 none none none) [] (a, b) (92, [], σ) Q := by
  have hk1 : ai_r k := ⟨by omega, by omega⟩
  have hk2 : ai_r (σ2 59 0) := by
    rw [hk]
    exact hk1
  have hab2 : a + 1 + 0 ≤ 601024 ∧ b + 6 + 0 ≤ 7293034 := ⟨hab.1, hab.2⟩
  refine lb_637 ⟨⟨by omega, by omega⟩, ai_ck_in (room_in hab) (fn_ret hw ?_)⟩
  refine lb_645 ⟨⟨by omega, by omega⟩, ai_ck_in (room_in hab2) (fn_ret hm ?_)⟩
  refine lb_653 (ai_ck_in (room_in hab2) (ai_ret_q (rb_127_0 (ai_k_in ?_))))
  refine lb_656 ⟨⟨hk2, hk1⟩, fun _ => ⟨hk1, fun _ => arm_next K, fun h => ?_⟩, fun h => absurd hk h⟩
  have e := ho (Decidable.not_not.mp h)
  exact ⟨⟨by decide, by decide⟩, hr, ⟨e ▸ r8_of hr, r8_of hr⟩, cmp_r _ _, fun _ => arm_next K, fun q => absurd (cmp_eq.mpr e) q⟩
