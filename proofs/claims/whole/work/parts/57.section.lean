/-! READ: a section, and all sections, class and reference in step. -/
theorem at1_1 {f : Int → Int} {s v w : Int} : at1 (at1 f s v) s w = at1 f s w := at1_2
theorem set_up {σ : ai_S} {p : Nat} {i v : Int} : ai_set σ p i v p = at1 (σ p) i v := by
  funext j
  show (if p = p then (if j = i then v else σ p j) else σ p j) = at1 (σ p) i v j
  rw [if_pos rfl]
  rfl
theorem rd_sec_41 {sc : Int × (Int → Int)} {n : Int} {tx : Int → Int} {T : Int} {w ty : Int → Int} {τ σ : ai_S} {S N p : Int} {ta wd cl nm fr rs ce nu st sw sf sl xc xn : Int → Int} (hX : TX n tx) (hT : cT τ n tx) (hTT : 0 ≤ T ∧ T ≤ 5) (hw : ∀ t, 0 ≤ w t ∧ w t ≤ 5) (hty : ∀ j, 0 ≤ ty j ∧ ty j ≤ 3) (c2 : τ 2 0 = T) (c4 : τ 4 = w) (c5 : τ 5 = ty) (hS : S < 6) (hp : 0 ≤ p ∧ p < n) (hK : CK 41 τ S N p ta wd cl nm fr rs ce nu σ) (hD : DS T w ty S N ta wd cl nm fr rs ce nu S N st sw sf sl xc xn) (hB : ∀ j, 0 ≤ xn j ∧ xn j ≤ 1) : ∃ b p' N', ∃ (ta' wd' cl' nm' fr' rs' ce' nu' st' sw' sf' sl' xc' xn' : Int → Int) (σ' : ai_S), (b = 0 ∨ b = 1) ∧ (p ≤ p' ∧ p' ≤ n) ∧ fn sc 75 [some (.inr (.inr 34)), some (.inr (.inr 2)), some (.inr (.inr 41)), none, none] σ (some (.inl b)) σ' ∧ CE 41 τ p' σ' ∧ (b = 1 → CK 41 τ (S + 1) N' p' ta' wd' cl' nm' fr' rs' ce' nu' σ' ∧ DS T w ty (S + 1) N' ta' wd' cl' nm' fr' rs' ce' nu' (S + 1) N' st' sw' sf' sl' xc' xn' ∧ ∀ j, 0 ≤ xn' j ∧ xn' j ≤ 1) ∧ (∀ υ ρ : ai_S, rT υ n tx → υ 61 = ty → υ 60 = w → υ 59 1 = T → RK υ S N p st sw sf sl xc xn ρ → ∃ ρ', fn sc 147 [some (.inr (.inr 59)), none, none, none] ρ (some (.inl b)) ρ' ∧ RE υ p' ρ' ∧ (b = 1 → RK υ (S + 1) N' p' st' sw' sf' sl' xc' xn' ρ')) := by
  have hn := hX.1
  have hrg : ∀ j, rg (ce j) := hD.2.1
  obtain ⟨a1, a2, a3, a4, a5, a6⟩ := hD.1
  have hs : 0 ≤ S ∧ S < 6 := ⟨a3.1, hS⟩
  have hpn : 0 ≤ p ∧ p ≤ n := ⟨hp.1, by omega⟩
  have hdr := @dgc_rng n tx p
  have rd : ai_r (dgc n tx p) := ⟨by omega, by omega⟩
  have htx := hX.2 p
  obtain ⟨w1, w2, w3, ⟨w4, w5⟩, t1, t2, t3, t4, t5, t6, t7, t8⟩ := id hK
  have σ2 : σ 2 0 = T := (congrFun (w1 2 (by omega)) 0).trans c2
  have σ4 : σ 4 = w := (w1 4 (by omega)).trans c4
  have fdig : fn sc 87 [some (.inr (.inr 34)), none] σ (some (.inl (dgc n tx p))) σ := by
    have e := cf_digit (sc := sc) (x := σ 34 3) (y := σ 34 4) hX (ck_T_41 hT hK) hpn
    rw [rd_id w3] at e
    exact e
  have rpk : ai_r ((if n ≤ p then 0 else tx p) - 48) := by
    rw [if_neg (by omega)]
    exact ⟨by omega, by omega⟩
  have r6 : ai_r 6 := ⟨by decide, by decide⟩
  -- the class's way up to the table's number
  have cbeg : ∀ Q : ai_O → Prop, (¬ (0 ≤ dgc n tx p ∧ dgc n tx p < T) → Q (.inl (some (.inl 0)), (92, [], σ))) → (0 ≤ dgc n tx p ∧ dgc n tx p < T → w (dgc n tx p) = 0 → Q (.inl (some (.inl 0)), (92, [], σ))) → (0 ≤ dgc n tx p ∧ dgc n tx p < T → ¬ w (dgc n tx p) = 0 → ai_ret (ai_wp sc) 51 [some (.inr (.inr 41)), some (.inl (dgc n tx p))] (92, [], ai_set σ 34 1 (σ 34 1 + 1)) (fun v h' => ai_ck (ai_zz 92 h'.1 0) (ai_wp sc 75 22 [some (.inr (.inr 34)), some (.inr (.inr 2)), some (.inr (.inr 41)), some (.inl (dgc n tx p)), none] (v.toList ++ []) (0, 0) h' Q))) → ai_wp sc 75 0 [some (.inr (.inr 34)), some (.inr (.inr 2)), some (.inr (.inr 41)), none, none] [] (0, 0) (92, [], σ) Q := by
    intro Q q1 q2 q3
    refine rb_75_0_41 (fn_ret fdig (rb_75_2_41 (ai_ret_q (pc_93 ⟨rd, fun _ => ⟨rd, (by rw [σ2]; exact ⟨by omega, by omega⟩)⟩⟩ (ai_k_in (rb_75_6_41 ⟨bi_r _, fun z => ⟨z01, q1 ?_⟩, fun z => ?_⟩))))))
    · have z2 := bi_no z
      rw [σ2] at z2
      omega
    · have z2 := bi_yes z
      rw [σ2] at z2
      have z3 : 0 ≤ dgc n tx p ∧ dgc n tx p < T := by omega
      have hwd := hw (dgc n tx p)
      refine ai_ret_q (pc_94 ⟨z3.1, by omega⟩ (ai_k_in ?_))
      rw [σ4]
      exact rb_75_10_41 ⟨⟨by omega, by omega⟩, fun y => q3 z3 y, fun y => ⟨z01, q2 z3 (Decidable.not_not.mp y)⟩⟩
  have rbeg : ∀ υ ρ : ai_S, rT υ n tx → υ 60 = w → υ 59 1 = T → RK υ S N p st sw sf sl xc xn ρ → ∀ Q : ai_O → Prop, (¬ (0 ≤ dgc n tx p ∧ dgc n tx p < T) → Q (.inl (some (.inl 0)), (92, [], ρ))) → (0 ≤ dgc n tx p ∧ dgc n tx p < T → w (dgc n tx p) = 0 → Q (.inl (some (.inl 0)), (92, [], ρ))) → (0 ≤ dgc n tx p ∧ dgc n tx p < T → ¬ w (dgc n tx p) = 0 → ai_ret (ai_wp sc) 136 [some (.inr (.inr 59)), some (.inl 40)] (92, [], ai_set (ai_set (ai_set ρ 59 17 (ρ 59 17 + 1)) 78 (ρ 59 28) (dgc n tx p)) 80 (ρ 59 28) (ρ 59 29)) (fun v h' => ai_ck (ai_zz 92 h'.1 0) (ai_wp sc 147 46 [some (.inr (.inr 59)), some (.inl (dgc n tx p)), some (.inl (ρ 59 28)), none] (v.toList ++ []) (0, 0) h' Q))) → ai_wp sc 147 0 [some (.inr (.inr 59)), none, none, none] [] (0, 0) (92, [], ρ) Q := by
    intro υ ρ hυ h60 h1 hR Q q1 q2 q3
    have u28 : ρ 59 28 = S := hR.2.2.2.1.1
    have u1 : ρ 59 1 = T := (hR.2.1 1 (by decide)).trans h1
    have u60 : ρ 60 = w := (hR.1 60 (by omega)).trans h60
    refine rb_147_0 (fn_ret (rk_peek hX hυ hpn hR) (rb_147_2 ⟨⟨(by rw [u28]; exact ⟨by omega, by omega⟩), r6⟩, fun z => absurd z (by rw [u28]; omega), fun _ => fn_ret (rk_isdig hX hυ hpn hR) (rb_147_11 ⟨bi_r _, fun z => ⟨z01, q1 ?_⟩, fun z => ?_⟩)⟩))
    · have z2 := bi_no z
      omega
    · obtain ⟨y1, y2⟩ := dgc_at (bi_yes z)
      rw [y2]
      refine ai_ret_q (pc_129 ⟨rd, fun _ => ⟨rd, (by rw [u1]; exact ⟨by omega, by omega⟩)⟩⟩ (ai_k_in (rb_147_15 ⟨bi_r _, fun y => ⟨z01, q1 ?_⟩, fun y => ?_⟩)))
      · have z2 := bi_no y
        rw [u1] at z2
        omega
      · have z2 := bi_yes y
        rw [u1] at z2
        have z3 : 0 ≤ dgc n tx p ∧ dgc n tx p < T := by omega
        have hwd := hw (dgc n tx p)
        refine ⟨⟨z3.1, by omega⟩, (by rw [u60]; exact ⟨by omega, by omega⟩), fun x => ⟨(by rw [u28]; exact hs), (by rw [u28]; exact ⟨hs.1, by omega⟩), q3 z3 (by rw [u60] at x; exact x)⟩, fun x => ⟨z01, q2 z3 (by rw [u60] at x; exact Decidable.not_not.mp x)⟩⟩
  by_cases hok : (0 ≤ dgc n tx p ∧ dgc n tx p < T) ∧ ¬ w (dgc n tx p) = 0
  · obtain ⟨ht, hwn⟩ := hok
    obtain ⟨t, htd⟩ : ∃ t, t = dgc n tx p := ⟨_, rfl⟩
    rw [← htd] at ht hwn cbeg rbeg
    have hwt := hw t
    have ht5 : 0 ≤ t ∧ t < 5 := ⟨ht.1, by omega⟩
    -- the class, the section added
    obtain ⟨σa, hσa⟩ : ∃ σa, σa = ai_set (ai_set (ai_set (ai_set (ai_set (ai_set σ 34 1 (p + 1)) 42 S t) 43 S 0) 45 S 0) 46 S N) 41 0 (S + 1) := ⟨_, rfl⟩
    have ka : CK 41 τ (S + 1) N (p + 1) (at1 ta S t) (at1 wd S 0) cl (at1 nm S 0) (at1 fr S N) rs ce nu σa := by
      rw [hσa]
      refine ⟨fun q hq => ?_, w2, rfl, ⟨rfl, w5⟩, ?_, ?_, t3, ?_, ?_, t6, t7, t8⟩
      · rw [set_ne (by omega), set_ne (by omega), set_ne (by omega), set_ne (by omega), set_ne (by omega), set_ne (by omega)]
        exact w1 q hq
      · rw [← t1]
        rfl
      · rw [← t2]
        rfl
      · rw [← t4]
        rfl
      · rw [← t5]
        rfl
    have cadd : ∀ Q : ai_O → Prop, ai_wp sc 75 22 [some (.inr (.inr 34)), some (.inr (.inr 2)), some (.inr (.inr 41)), some (.inl t), none] [] (0, 0) (92, [], σa) Q → ai_wp sc 75 0 [some (.inr (.inr 34)), some (.inr (.inr 2)), some (.inr (.inr 41)), none, none] [] (0, 0) (92, [], σ) Q := by
      intro Q hQ
      refine cbeg Q (fun z => absurd ht z) (fun _ z => absurd z hwn) (fun _ _ => ?_)
      rw [w3]
      have h40 : (ai_set σ 34 1 (p + 1)) 41 0 = S := w4
      have h41 : (ai_set σ 34 1 (p + 1)) 41 1 = N := w5
      refine ai_ret_q (rb_51_0_41 ⟨(by rw [h40]; exact hs), (by rw [h40]; exact hs), (by rw [h40]; exact hs), (by rw [h40]; exact hs), ai_k_in ?_⟩)
      rw [h40, h41, ← hσa]
      exact hQ
    have hp1 : 0 ≤ p + 1 ∧ p + 1 ≤ n := ⟨by omega, by omega⟩
    -- the reference, the section begun
    have radd : ∀ υ ρ : ai_S, rT υ n tx → υ 60 = w → υ 59 1 = T → RK υ S N p st sw sf sl xc xn ρ → ∃ ρa, RK υ S N (p + 1) (at1 st S t) sw sf sl xc xn ρa ∧ ∀ Q : ai_O → Prop, ai_ret (ai_wp sc) 136 [some (.inr (.inr 59)), some (.inl 40)] (92, [], ρa) (fun v h' => ai_ck (ai_zz 92 h'.1 0) (ai_wp sc 147 46 [some (.inr (.inr 59)), some (.inl t), some (.inl S), none] (v.toList ++ []) (0, 0) h' Q)) → ai_wp sc 147 0 [some (.inr (.inr 59)), none, none, none] [] (0, 0) (92, [], ρ) Q := by
      intro υ ρ hυ h60 h1 hR
      obtain ⟨u1, u2, u3, ⟨u4, u5⟩, v1, v2, v3, v4, v5, v6⟩ := id hR
      refine ⟨ai_set (ai_set (ai_set ρ 59 17 (p + 1)) 78 S t) 80 S N, ⟨fun q hq => ?_, fun j hj => ?_, rfl, ⟨u4, u5⟩, ?_, v2, ?_, v4, v5, v6⟩, fun Q hQ => rbeg υ ρ hυ h60 h1 hR Q (fun z => absurd ht z) (fun _ z => absurd z hwn) (fun _ _ => ?_)⟩
      · rw [set_ne (by omega), set_ne (by omega), set_ne (by omega)]
        exact u1 q hq
      · rw [st_pl (by decide), st_pl (by decide), st_ix (by omega)]
        exact u2 j hj
      · rw [← v1]
        rfl
      · rw [← v3]
        show at1 (ρ 80) S N = ρ 80
        rw [v3]
        exact at1_id a5
      · rw [u3, u4, u5]
        exact hQ
    by_cases h40 : p + 1 < n ∧ tx (p + 1) = 40
    · -- the columns
      have hp2 : 0 ≤ p + 1 + 1 ∧ p + 1 + 1 ≤ n := ⟨by omega, by omega⟩
      have z32 : (0 : Int) ≤ 0 ∧ (0 : Int) < 32 := ⟨by decide, by decide⟩
      obtain ⟨k, b', cf, x1, x2, x3, x4, x5, x6, x7, x8⟩ := rd_cols_41 (sc := sc) (n := n) (tx := tx) (W := w t) (s := S) (t := t) hX ⟨by omega, hwt.2⟩ hs ht5 (w t).toNat 0 (p + 1 + 1) 0 (Int.le_refl 0) (by omega) hp2 z32 (by decide) (fun c c1 c2 => tb0 c ⟨by omega, c2⟩)
      rw [show p + 1 + 1 + (k - 0) = p + 1 + 1 + k by omega] at x2 x7 x8
      have kb := ck_rd_41 (q := p + 1 + 1) (x := σa 34 3) (y := σa 34 4) ka
      obtain ⟨σb, hσb⟩ : ∃ σb, σb = RD σa (p + 1 + 1) (σa 34 3) (σa 34 4) := ⟨_, rfl⟩
      rw [← hσb] at kb
      obtain ⟨b1, b2, b3, ⟨b4, b5⟩, e1, e2, e3, e4, e5, e6, e7, e8⟩ := id kb
      have xw : (σb 43) S = 0 := by
        rw [e2]
        exact at1_at
      have xn0 : (σb 45) S = 0 := by
        rw [e4]
        exact at1_at
      have eid : RD (up (up (up σb 43 (σb 43)) 44 (σb 44)) 45 (σb 45)) (p + 1 + 1) (σb 34 3) (σb 34 4) = σb := by
        have i1 : up σb 43 (σb 43) = σb := up_id
        have i2 : up σb 44 (σb 44) = σb := up_id
        rw [i1, i2, up_id]
        exact rd_id b3
      have cc := fun Q hQ => x7 σb (σb 34 3) (σb 34 4) (σb 44) (σb 43) (σb 45) (some (.inr (.inr 2))) none (ck_T_41 hT kb) xw xn0 Q hQ
      rw [eid] at cc
      obtain ⟨σc, hσc⟩ : ∃ σc, σc = RD (up (up (up σb 43 (at1 (σb 43) S k)) 44 (cln (σb 44) cf S 0 k)) 45 (at1 (σb 45) S b')) (p + 1 + 1 + k) (σb 34 3) (σb 34 4) := ⟨_, rfl⟩
      rw [← hσc] at cc
      have kc : CK 41 τ (S + 1) N (p + 1 + 1 + k) (at1 ta S t) (at1 wd S k) (cln cl cf S 0 k) (at1 nm S b') (at1 fr S N) rs ce nu σc := by
        rw [hσc]
        refine ⟨fun q hq => ?_, b2, rfl, ⟨b4, b5⟩, e1, ?_, ?_, ?_, e5, e6, e7, e8⟩
        · rw [rd_ne (by omega), up_ne (by omega), up_ne (by omega), up_ne (by omega)]
          exact b1 q hq
        · show at1 (σb 43) S k = at1 wd S k
          rw [e2, at1_1]
        · show cln (σb 44) cf S 0 k = cln cl cf S 0 k
          rw [e3]
        · show at1 (σb 45) S b' = at1 nm S b'
          rw [e4, at1_1]
      have f76 : fn sc 76 [some (.inr (.inr 34)), some (.inr (.inr 2)), some (.inr (.inr 41)), none, none, none, none] σb (some (.inl (if k ≤ 0 then 0 else 1))) σc := by
        intro Q hQ
        refine rb_76_0_41 ?_
        rw [show σb 41 0 - 1 = S by omega]
        refine ai_ret_q (pc_55_41 hs (ai_k_in ?_))
        rw [e1, at1_at]
        refine rb_76_9_41 (ai_ret_q (pc_94 ht5 (ai_k_in ?_)))
        rw [(b1 4 (by omega)).trans c4]
        exact rb_76_10_41 (cc Q hQ)
      have ccol : ∀ Q : ai_O → Prop, (k ≤ 0 → Q (.inl (some (.inl 0)), (92, [], σc))) → (¬ k ≤ 0 → ai_ret (ai_wp sc) 86 [some (.inr (.inr 34)), some (.inl 41)] (92, [], σc) (fun v h' => ai_ck (ai_zz 92 h'.1 0) (ai_wp sc 75 34 [some (.inr (.inr 34)), some (.inr (.inr 2)), some (.inr (.inr 41)), some (.inl t), none] (v.toList ++ []) (0, 0) h' Q))) → ai_wp sc 75 0 [some (.inr (.inr 34)), some (.inr (.inr 2)), some (.inr (.inr 41)), none, none] [] (0, 0) (92, [], σ) Q := by
        intro Q q0 q1
        refine cadd Q (rb_75_22_41 (fn_ret (ck_acc1_41 hX hT hp1 (by decide) ka (ac_yes h40)) (rb_75_25_41 ⟨rr1, fun z => absurd z (by decide), fun _ => ?_⟩)))
        rw [← hσb]
        refine fn_ret f76 ?_
        by_cases z : k ≤ 0
        · rw [if_pos z]
          exact rb_75_30_41 ⟨rr0, fun _ => ⟨z01, q0 z⟩, fun y => absurd rfl y⟩
        · rw [if_neg z]
          exact rb_75_30_41 ⟨rr1, fun y => absurd y (by decide), fun _ => q1 z⟩
      have rcol : ∀ υ ρ : ai_S, rT υ n tx → υ 60 = w → υ 59 1 = T → RK υ S N p st sw sf sl xc xn ρ → ∃ ρc, RK υ S N (p + 1 + 1 + k + (if k ≤ 0 then 0 else ac n tx (p + 1 + 1 + k) 41)) (at1 st S t) (at1 sw S k) sf (cln sl cf S 0 k) xc xn ρc ∧ ∀ Q : ai_O → Prop, ai_wp sc 147 50 [some (.inr (.inr 59)), some (.inl t), some (.inl S), none] [.inl (if k ≤ 0 then 0 else ac n tx (p + 1 + 1 + k) 41)] (0, 0) (92, [], ρc) Q → ai_wp sc 147 0 [some (.inr (.inr 59)), none, none, none] [] (0, 0) (92, [], ρ) Q := by
        intro υ ρ hυ h60 h1 hR
        obtain ⟨ρa, ra1, ra2⟩ := radd υ ρ hυ h60 h1 hR
        obtain ⟨sk, rb⟩ := rk_skip1 (sc := sc) (c := 40) hX hυ hp1 (by decide) ra1 (ac_yes h40)
        obtain ⟨ρb, hρb⟩ : ∃ ρb, ρb = RP ρa (p + 1 + 1) (ρa 82) (ρa 83) := ⟨_, rfl⟩
        rw [← hρb] at sk rb
        obtain ⟨u1, u2, u3, ⟨u4, u5⟩, v1, v2, v3, v4, v5, v6⟩ := id rb
        obtain ⟨ρz, hρz⟩ : ∃ ρz, ρz = ai_set ρb 79 S 0 := ⟨_, rfl⟩
        have z79 : ρz 79 = at1 sw S 0 := by
          rw [hρz, ← v2]
          rfl
        have z81 : ρz 81 = sl := by
          rw [hρz]
          exact v4
        have zT : rT ρz n tx := by
          rw [hρz]
          exact (show rT ρb n tx from rk_T hυ rb)
        have z17 : ρz 59 17 = p + 1 + 1 := by
          rw [hρz]
          exact u3
        have z60 : ρz 60 t = w t := by
          rw [hρz]
          show ρb 60 t = w t
          rw [u1 60 (by omega), h60]
        have zid : RP (up (up ρz 79 (ρz 79)) 81 (ρz 81)) (p + 1 + 1) (ρz 82) (ρz 83) = ρz := by
          have i1 : up ρz 79 (ρz 79) = ρz := up_id
          rw [i1, up_id]
          exact rp_id z17
        have rcc := fun Q hQ => x8 ρz (ρz 82) (ρz 83) (ρz 81) (ρz 79) none zT z60 (by rw [z79]; exact at1_at) Q hQ
        rw [zid] at rcc
        refine ⟨RP (up (up ρz 79 (at1 (ρz 79) S k)) 81 (cln (ρz 81) cf S 0 k)) (p + 1 + 1 + k + (if k ≤ 0 then 0 else ac n tx (p + 1 + 1 + k) 41)) (ρz 82) (ρz 83), ⟨fun q hq => ?_, fun j hj => ?_, rfl, ⟨?_, ?_⟩, ?_, ?_, ?_, ?_, ?_, ?_⟩, fun Q hQ => ra2 Q (fn_ret sk (rb_147_46 ⟨rr1, fun z => absurd z (by decide), fun _ => ai_ret_q (rb_145_0 ⟨hs, hs, ?_⟩)⟩))⟩
        · rw [rp_ne (by omega), up_ne (by omega), up_ne (by omega), hρz, set_ne (by omega)]
          exact u1 q hq
        · rw [rp_59 (by omega), hρz]
          show ρb 59 j = υ 59 j
          exact u2 j hj
        · rw [hρz]
          exact u4
        · rw [hρz]
          exact u5
        · rw [hρz]
          exact v1
        · show at1 (ρz 79) S k = at1 sw S k
          rw [z79, at1_1]
        · rw [hρz]
          exact v3
        · show cln (ρz 81) cf S 0 k = cln sl cf S 0 k
          rw [z81]
        · rw [hρz]
          exact v5
        · rw [hρz]
          exact v6
        · rw [v1, at1_at, ← hρz]
          exact rcc _ (ai_k_in hQ)
      have hp3 : 0 ≤ p + 1 + 1 + k ∧ p + 1 + 1 + k ≤ n := ⟨by omega, x2⟩
      by_cases hk0 : k ≤ 0
      · -- no columns
        refine ⟨0, p + 1 + 1 + k, N, ta, wd, cl, nm, fr, rs, ce, nu, st, sw, sf, sl, xc, xn, σc, Or.inl rfl, ⟨by omega, x2⟩, fun Q hQ => ccol Q (fun _ => hQ) (fun z => absurd hk0 z), CK_E kc hrg, fun z => absurd z (by decide), fun υ ρ hυ _ h60 h1 hR => ?_⟩
        obtain ⟨ρc, r1, r2⟩ := rcol υ ρ hυ h60 h1 hR
        rw [if_pos hk0, Int.add_zero] at r1
        rw [if_pos hk0] at r2
        exact ⟨ρc, fun Q hQ => r2 Q (rb_147_50 ⟨rr0, fun z => absurd rfl z, fun _ => ⟨z01, hQ⟩⟩), RK_E r1 hB, fun z => absurd z (by decide)⟩
      · by_cases h41 : p + 1 + 1 + k < n ∧ tx (p + 1 + 1 + k) = 41
        · -- the rows
          have hac := ac_yes h41
          have hD2 := DS_sec (t := t) (k := k) (b := b') (cf := cf) hD hw hS ht ⟨by omega, x1.2⟩ x3 (fun j j1 j2 => (x4 j j1 j2).1) x5 (fun c c1 c2 => by
            rw [x6 c c1 c2, tb0 c ⟨c1, c2⟩]
            exact ⟨fun q => q.elim (fun z => absurd z (by decide)) id, Or.inr⟩)
          have kd := ck_rd_41 (q := p + 1 + 1 + k + 1) (x := σc 34 3) (y := σc 34 4) kc
          have h5 : (RD σc (p + 1 + 1 + k + 1) (σc 34 3) (σc 34 4)) 41 1 = N := kd.2.2.2.1.2
          obtain ⟨b, p', N', rs', ce', nu', xc', xn', σ', i1, i2, i3, i4, i5, i6⟩ := rd_loop_41 (sc := sc) hX hT hTT hw hty c5 hs (24 - N).toNat N (p + 1 + 1 + k + 1) rs ce nu xc xn _ (some (.inl t)) (by omega) a4.1 ⟨by omega, by omega⟩ kd hD2 hB
          refine ⟨b, p', N', _, _, _, _, _, rs', ce', nu', _, _, _, _, xc', xn', σ', i1, ⟨by omega, i2.2⟩, fun Q hQ => ccol Q (fun z => absurd z hk0) (fun _ => fn_ret (ck_acc1_41 hX hT hp3 (by decide) kc hac) (rb_75_34_41 ⟨rr1, fun _ => ?_, fun z => absurd (show ¬ (1 : Int) = 0 by decide) z⟩)), i4, i5, fun υ ρ hυ h61 h60 h1 hR => ?_⟩
          · rw [h5]
            exact i3 Q hQ
          · obtain ⟨ρc, r1, r2⟩ := rcol υ ρ hυ h60 h1 hR
            rw [if_neg hk0, hac] at r1 r2
            obtain ⟨ρ', j1, j2, j3⟩ := i6 υ ρc (some (.inl t)) hυ h61 r1
            exact ⟨ρ', fun Q hQ => r2 Q (rb_147_50 ⟨rr1, fun _ => j1 Q hQ, fun z => absurd (show ¬ (1 : Int) = 0 by decide) z⟩), j2, j3⟩
        · -- no bracket
          have hac := ac_no h41
          refine ⟨0, p + 1 + 1 + k, N, ta, wd, cl, nm, fr, rs, ce, nu, st, sw, sf, sl, xc, xn, σc, Or.inl rfl, ⟨by omega, x2⟩, fun Q hQ => ccol Q (fun z => absurd z hk0) (fun _ => fn_ret (ck_acc0_41 hX hT hp3 (by decide) kc hac) (rb_75_34_41 ⟨rr0, fun z => absurd rfl z, fun _ => ⟨z01, hQ⟩⟩)), CK_E kc hrg, fun z => absurd z (by decide), fun υ ρ hυ _ h60 h1 hR => ?_⟩
          obtain ⟨ρc, r1, r2⟩ := rcol υ ρ hυ h60 h1 hR
          rw [if_neg hk0, hac] at r1 r2
          rw [Int.add_zero] at r1
          exact ⟨ρc, fun Q hQ => r2 Q (rb_147_50 ⟨rr0, fun z => absurd rfl z, fun _ => ⟨z01, hQ⟩⟩), RK_E r1 hB, fun z => absurd z (by decide)⟩
    · -- no opening bracket
      have hac := ac_no h40
      refine ⟨0, p + 1, N, ta, wd, cl, nm, fr, rs, ce, nu, st, sw, sf, sl, xc, xn, σa, Or.inl rfl, ⟨by omega, hp1.2⟩, fun Q hQ => cadd Q (rb_75_22_41 (fn_ret (ck_acc0_41 hX hT hp1 (by decide) ka hac) (rb_75_25_41 ⟨rr0, fun _ => ⟨z01, hQ⟩, fun z => absurd rfl z⟩))), CK_E ka hrg, fun z => absurd z (by decide), fun υ ρ hυ _ h60 h1 hR => ?_⟩
      obtain ⟨ρa, ra1, ra2⟩ := radd υ ρ hυ h60 h1 hR
      exact ⟨ρa, fun Q hQ => ra2 Q (fn_ret (rk_skip0 hX hυ hp1 (by decide) ra1 hac) (rb_147_46 ⟨rr0, fun _ => ⟨z01, hQ⟩, fun z => absurd rfl z⟩)), RK_E ra1 hB, fun z => absurd z (by decide)⟩
  · -- no such table
    have hz : 0 ≤ dgc n tx p ∧ dgc n tx p < T → w (dgc n tx p) = 0 := fun q => Decidable.not_not.mp (fun z => hok ⟨q, z⟩)
    exact ⟨0, p, N, ta, wd, cl, nm, fr, rs, ce, nu, st, sw, sf, sl, xc, xn, σ, Or.inl rfl, ⟨Int.le_refl p, hpn.2⟩, fun Q hQ => cbeg Q (fun _ => hQ) (fun _ _ => hQ) (fun q z => absurd (hz q) z), CK_E hK hrg, fun z => absurd z (by decide), fun υ ρ hυ _ h60 h1 hR => ⟨ρ, fun Q hQ => rbeg υ ρ hυ h60 h1 hR Q (fun _ => hQ) (fun _ _ => hQ) (fun q z => absurd (hz q) z), RK_E hR hB, fun z => absurd z (by decide)⟩⟩
theorem rd_all_41 {sc : Int × (Int → Int)} {n : Int} {tx : Int → Int} {T : Int} {w ty : Int → Int} {τ : ai_S} (hX : TX n tx) (hT : cT τ n tx) (hTT : 0 ≤ T ∧ T ≤ 5) (hw : ∀ t, 0 ≤ w t ∧ w t ≤ 5) (hty : ∀ j, 0 ≤ ty j ∧ ty j ≤ 3) (c2 : τ 2 0 = T) (c4 : τ 4 = w) (c5 : τ 5 = ty) :
    ∀ (m : Nat) (S N p : Int) (ta wd cl nm fr rs ce nu st sw sf sl xc xn : Int → Int) (σ : ai_S), S + (m : Int) = 6 → (0 ≤ p ∧ p ≤ n) → CK 41 τ S N p ta wd cl nm fr rs ce nu σ → DS T w ty S N ta wd cl nm fr rs ce nu S N st sw sf sl xc xn → (∀ j, 0 ≤ xn j ∧ xn j ≤ 1) →
      ∃ b p' S' N', ∃ (ta' wd' cl' nm' fr' rs' ce' nu' st' sw' sf' sl' xc' xn' : Int → Int) (σ' : ai_S), (b = 0 ∨ b = 1) ∧ (0 ≤ p' ∧ p' ≤ n) ∧ (∀ Q : ai_O → Prop, Q (.inl (some (.inl b)), (92, [], σ')) → ai_wp sc 74 7 [some (.inr (.inr 34)), some (.inr (.inr 2)), some (.inr (.inr 41)), some (.inl S)] [] (0, 0) (92, [], σ) Q) ∧ CE 41 τ p' σ' ∧ (b = 1 → CK 41 τ S' N' p' ta' wd' cl' nm' fr' rs' ce' nu' σ' ∧ DS T w ty S' N' ta' wd' cl' nm' fr' rs' ce' nu' S' N' st' sw' sf' sl' xc' xn' ∧ ∀ j, 0 ≤ xn' j ∧ xn' j ≤ 1) ∧
        (∀ υ ρ : ai_S, rT υ n tx → υ 61 = ty → υ 60 = w → υ 59 1 = T → υ 59 18 = -1 → RK υ S N p st sw sf sl xc xn ρ → ∃ ρ', RE υ p' ρ' ∧ (b = 1 → RK υ S' N' p' st' sw' sf' sl' xc' xn' ρ') ∧ ∀ Q : ai_O → Prop, (b = 1 → ai_wp sc 148 61 [some (.inr (.inr 59)), some (.inl 0)] [] (0, 0) (92, [], ai_set (ai_set (ai_set (ai_set ρ' 59 19 1) 59 42 0) 59 20 (ρ' 59 28)) 59 21 (ρ' 59 29)) Q) → (b = 0 → Q (.inl (some (.inl 0)), (92, [], ai_set (ai_set ρ' 59 18 p') 59 0 1))) → ai_wp sc 148 20 [some (.inr (.inr 59)), none] [] (0, 0) (92, [], ρ) Q) := by
  have hn := hX.1
  have r6 : ai_r 6 := ⟨by decide, by decide⟩
  -- the text ends
  have fin : ∀ (S N p : Int) (ta wd cl nm fr rs ce nu st sw sf sl xc xn : Int → Int) (σ : ai_S), (0 ≤ S ∧ S ≤ 6) → p = n → CK 41 τ S N p ta wd cl nm fr rs ce nu σ → (∀ Q : ai_O → Prop, Q (.inl (some (.inl 1)), (92, [], σ)) → ai_wp sc 74 7 [some (.inr (.inr 34)), some (.inr (.inr 2)), some (.inr (.inr 41)), some (.inl S)] [] (0, 0) (92, [], σ) Q) := by
    intro S N p ta wd cl nm fr rs ce nu st sw sf sl xc xn σ hS hpn hK Q hQ
    have e0 : σ 34 0 = n := hK.2.1.trans hT.1
    have e1 : σ 34 1 = p := hK.2.2.1
    have rr : ai_r (σ 34 1) ∧ ai_r (σ 34 0) := by
      rw [e0, e1, hpn]
      exact ⟨⟨by omega, by omega⟩, ⟨by omega, by omega⟩⟩
    have ee : σ 34 1 = σ 34 0 := by rw [e0, e1, hpn]
    exact rb_74_7_41 ⟨⟨⟨by omega, by omega⟩, r6⟩, fun _ => ⟨rr, fun z => absurd ee z, fun _ => ⟨z11, hQ⟩⟩, fun _ => ⟨rr, fun _ => ⟨rr, fun z => absurd ee z, fun _ => ⟨z11, hQ⟩⟩, fun z => absurd (show σ 34 0 ≤ σ 34 1 by omega) z⟩⟩
  have finR : ∀ (S N p : Int) (st sw sf sl xc xn : Int → Int) (υ ρ : ai_S), (0 ≤ p ∧ p ≤ n) → p = n → rT υ n tx → υ 59 18 = -1 → RK υ S N p st sw sf sl xc xn ρ → ∀ Q : ai_O → Prop, ai_wp sc 148 61 [some (.inr (.inr 59)), some (.inl 0)] [] (0, 0) (92, [], ai_set (ai_set (ai_set (ai_set ρ 59 19 1) 59 42 0) 59 20 (ρ 59 28)) 59 21 (ρ 59 29)) Q → ai_wp sc 148 20 [some (.inr (.inr 59)), none] [] (0, 0) (92, [], ρ) Q := by
    intro S N p st sw sf sl xc xn υ ρ hp hpn hυ h18 hR Q hQ
    have e17 : ρ 59 17 = p := hR.2.2.1
    have e15 : ρ 59 15 = n := (rk_T hυ hR).1
    have e18 : ρ 59 18 = -1 := (hR.2.1 18 (by decide)).trans h18
    exact rb_148_20 ⟨⟨(by rw [e17]; exact ⟨by omega, by omega⟩), (by rw [e15]; exact ⟨by omega, by omega⟩)⟩, fun _ => ⟨⟨(by rw [e18]; exact rm1), rm1⟩, fun _ => ⟨z11, z01, hQ⟩, fun z => absurd e18 z⟩, fun z => absurd (show ρ 59 15 ≤ ρ 59 17 by rw [e15, e17]; omega) z⟩
  -- the fault is told
  have bad : ∀ (p : Int) (ρ : ai_S) (Q : ai_O → Prop), (0 ≤ p ∧ p ≤ n) → ρ 59 15 = n → Q (.inl (some (.inl 0)), (92, [], ai_set (ai_set ρ 59 18 p) 59 0 1)) → ρ 59 17 = p → ai_wp sc 148 20 [some (.inr (.inr 59)), none] [] (0, 0) (92, [], ai_set ρ 59 18 p) Q := by
    intro p ρ Q hp e15 hQ e17
    have r17 : ai_r ((ai_set ρ 59 18 p) 59 17) := by
      show ai_r (ρ 59 17)
      rw [e17]
      exact ⟨by omega, by omega⟩
    have r15 : ai_r ((ai_set ρ 59 18 p) 59 15) := by
      show ai_r (ρ 59 15)
      rw [e15]
      exact ⟨by omega, by omega⟩
    have r18 : ai_r ((ai_set ρ 59 18 p) 59 18) := (show ai_r p from ⟨by omega, by omega⟩)
    have n18 : ¬ (ai_set ρ 59 18 p) 59 18 = -1 := (show ¬ p = -1 by omega)
    have tell : ai_ret (ai_wp sc) 128 [some (.inr (.inr 59)), some (.inl 1)] (92, [], ai_set ρ 59 18 p) (fun v h' => ai_ck (ai_zz 92 h'.1 0) (ai_wp sc 148 44 [some (.inr (.inr 59)), none] (v.toList ++ []) (0, 0) h' Q)) := ai_ret_q (rb_128_0 (ai_k_in (rb_148_44 hQ)))
    exact rb_148_20 ⟨⟨r17, r15⟩, fun _ => ⟨⟨r18, rm1⟩, fun z => absurd z n18, fun _ => tell⟩, fun _ => ⟨⟨r18, rm1⟩, fun _ => ⟨⟨r18, rm1⟩, fun z => absurd z n18, fun _ => tell⟩, fun z => absurd n18 z⟩⟩
  intro m
  induction m with
  | zero =>
    intro S N p ta wd cl nm fr rs ce nu st sw sf sl xc xn σ hm hp hK hD hB
    have hrg : ∀ j, rg (ce j) := hD.2.1
    have hS : S = 6 := by omega
    by_cases hpn : p = n
    · exact ⟨1, p, S, N, ta, wd, cl, nm, fr, rs, ce, nu, st, sw, sf, sl, xc, xn, σ, Or.inr rfl, hp, fun Q hQ => fin S N p ta wd cl nm fr rs ce nu st sw sf sl xc xn σ ⟨by omega, by omega⟩ hpn hK Q hQ, CK_E hK hrg, fun _ => ⟨hK, hD, hB⟩, fun υ ρ hυ h61 h60 h1 h18 hR => ⟨ρ, RK_E hR hB, fun _ => hR, fun Q q1 _ => finR S N p st sw sf sl xc xn υ ρ hp hpn hυ h18 hR Q (q1 rfl)⟩⟩
    · -- a seventh section
      have e0 : σ 34 0 = n := hK.2.1.trans hT.1
      have e1 : σ 34 1 = p := hK.2.2.1
      have rr : ai_r (σ 34 1) ∧ ai_r (σ 34 0) := by
        rw [e0, e1]
        exact ⟨⟨by omega, by omega⟩, ⟨by omega, by omega⟩⟩
      refine ⟨0, p, S, N, ta, wd, cl, nm, fr, rs, ce, nu, st, sw, sf, sl, xc, xn, σ, Or.inl rfl, hp, fun Q hQ => rb_74_7_41 ⟨⟨⟨by omega, by omega⟩, r6⟩, fun _ => ⟨rr, fun _ => ⟨z01, hQ⟩, fun z => absurd (show ¬ σ 34 1 = σ 34 0 by omega) z⟩, fun z => absurd (show 6 ≤ S by omega) z⟩, CK_E hK hrg, fun z => absurd z (by decide), fun υ ρ hυ h61 h60 h1 h18 hR => ⟨ρ, RK_E hR hB, fun z => absurd z (by decide), fun Q _ q0 => ?_⟩⟩
      have e17 : ρ 59 17 = p := hR.2.2.1
      have e15 : ρ 59 15 = n := (rk_T hυ hR).1
      have e18 : ρ 59 18 = -1 := (hR.2.1 18 (by decide)).trans h18
      have e28 : ρ 59 28 = 6 := hR.2.2.2.1.1.trans hS
      refine rb_148_20 ⟨⟨(by rw [e17]; exact ⟨by omega, by omega⟩), (by rw [e15]; exact ⟨by omega, by omega⟩)⟩, fun z => absurd z (by rw [e15, e17]; omega), fun _ => ⟨⟨(by rw [e18]; exact rm1), rm1⟩, fun z => absurd e18 z, fun _ => ai_ret_q (rb_147_0 (fn_ret (rk_peek hX hυ hp hR) (rb_147_2 ⟨⟨(by rw [e28]; exact r6), r6⟩, fun _ => ⟨z01, ai_k_in (rb_148_31 ⟨rr0, fun z => absurd rfl z, fun _ => ?_⟩)⟩, fun z => absurd e28 z⟩)))⟩⟩
      rw [e17]
      exact bad p ρ Q hp e15 (q0 rfl) e17
  | succ m ih =>
    intro S N p ta wd cl nm fr rs ce nu st sw sf sl xc xn σ hm hp hK hD hB
    have hrg : ∀ j, rg (ce j) := hD.2.1
    have hS0 : 0 ≤ S := hD.1.2.2.1.1
    by_cases hpn : p = n
    · exact ⟨1, p, S, N, ta, wd, cl, nm, fr, rs, ce, nu, st, sw, sf, sl, xc, xn, σ, Or.inr rfl, hp, fun Q hQ => fin S N p ta wd cl nm fr rs ce nu st sw sf sl xc xn σ ⟨by omega, by omega⟩ hpn hK Q hQ, CK_E hK hrg, fun _ => ⟨hK, hD, hB⟩, fun υ ρ hυ h61 h60 h1 h18 hR => ⟨ρ, RK_E hR hB, fun _ => hR, fun Q q1 _ => finR S N p st sw sf sl xc xn υ ρ hp hpn hυ h18 hR Q (q1 rfl)⟩⟩
    · obtain ⟨b1, p1, N1, ta1, wd1, cl1, nm1, fr1, rs1, ce1, nu1, st1, sw1, sf1, sl1, xc1, xn1, σ1, i1, i2, i3, i4, i5, i6⟩ := rd_sec_41 (sc := sc) hX hT hTT hw hty c2 c4 c5 (show S < 6 by omega) ⟨hp.1, by omega⟩ hK hD hB
      have e0 : σ 34 0 = n := hK.2.1.trans hT.1
      have e1 : σ 34 1 = p := hK.2.2.1
      have rr : ai_r (σ 34 1) ∧ ai_r (σ 34 0) := by
        rw [e0, e1]
        exact ⟨⟨by omega, by omega⟩, ⟨by omega, by omega⟩⟩
      have cgo : ∀ Q : ai_O → Prop, (b1 = 0 → Q (.inl (some (.inl 0)), (92, [], σ1))) → (b1 = 1 → ai_wp sc 74 7 [some (.inr (.inr 34)), some (.inr (.inr 2)), some (.inr (.inr 41)), some (.inl (S + 1))] [] (0, 0) (92, [], σ1) Q) → ai_wp sc 74 7 [some (.inr (.inr 34)), some (.inr (.inr 2)), some (.inr (.inr 41)), some (.inl S)] [] (0, 0) (92, [], σ) Q := fun Q q0 q1 => rb_74_7_41 ⟨⟨⟨by omega, by omega⟩, r6⟩, fun z => absurd z (by omega), fun _ => ⟨rr, fun z => absurd z (by omega), fun _ => fn_ret i3 (rb_74_19_41 ⟨⟨by omega, by omega⟩, fun z => q1 (by omega), fun z => ⟨z01, q0 (Decidable.not_not.mp z)⟩⟩)⟩⟩
      have rgo : ∀ υ ρ : ai_S, rT υ n tx → υ 61 = ty → υ 60 = w → υ 59 1 = T → υ 59 18 = -1 → RK υ S N p st sw sf sl xc xn ρ → ∃ ρ1, RE υ p1 ρ1 ∧ (b1 = 1 → RK υ (S + 1) N1 p1 st1 sw1 sf1 sl1 xc1 xn1 ρ1) ∧ ∀ Q : ai_O → Prop, (b1 = 1 → ai_wp sc 148 20 [some (.inr (.inr 59)), none] [] (0, 0) (92, [], ρ1) Q) → (b1 = 0 → Q (.inl (some (.inl 0)), (92, [], ai_set (ai_set ρ1 59 18 p1) 59 0 1))) → ai_wp sc 148 20 [some (.inr (.inr 59)), none] [] (0, 0) (92, [], ρ) Q := by
        intro υ ρ hυ h61 h60 h1 h18 hR
        obtain ⟨ρ1, j1, j2, j3⟩ := i6 υ ρ hυ h61 h60 h1 hR
        refine ⟨ρ1, j2, j3, fun Q q1 q0 => ?_⟩
        have e17 : ρ 59 17 = p := hR.2.2.1
        have e15 : ρ 59 15 = n := (rk_T hυ hR).1
        have e18 : ρ 59 18 = -1 := (hR.2.1 18 (by decide)).trans h18
        have f17 : ρ1 59 17 = p1 := j2.2.2.1
        have f15 : ρ1 59 15 = n := (j2.2.1 15 (by decide)).trans hυ.1
        refine rb_148_20 ⟨⟨(by rw [e17]; exact ⟨by omega, by omega⟩), (by rw [e15]; exact ⟨by omega, by omega⟩)⟩, fun z => absurd z (by rw [e15, e17]; omega), fun _ => ⟨⟨(by rw [e18]; exact rm1), rm1⟩, fun z => absurd e18 z, fun _ => fn_ret j1 (rb_148_31 ⟨⟨by omega, by omega⟩, fun z => q1 (by omega), fun z => ?_⟩)⟩⟩
        rw [f17]
        exact bad p1 ρ1 Q ⟨by omega, i2.2⟩ f15 (q0 (Decidable.not_not.mp z)) f17
      by_cases hb : b1 = 1
      · obtain ⟨k1, k2, k3⟩ := i5 hb
        obtain ⟨b, p', S', N', ta2, wd2, cl2, nm2, fr2, rs2, ce2, nu2, st2, sw2, sf2, sl2, xc2, xn2, σ2, y1, y2, y3, y4, y5, y6⟩ := ih (S + 1) N1 p1 ta1 wd1 cl1 nm1 fr1 rs1 ce1 nu1 st1 sw1 sf1 sl1 xc1 xn1 σ1 (by omega) ⟨by omega, i2.2⟩ k1 k2 k3
        refine ⟨b, p', S', N', ta2, wd2, cl2, nm2, fr2, rs2, ce2, nu2, st2, sw2, sf2, sl2, xc2, xn2, σ2, y1, y2, fun Q hQ => cgo Q (fun z => absurd z (by omega)) (fun _ => y3 Q hQ), y4, y5, fun υ ρ hυ h61 h60 h1 h18 hR => ?_⟩
        obtain ⟨ρ1, j1, j2, j3⟩ := rgo υ ρ hυ h61 h60 h1 h18 hR
        obtain ⟨ρ', l1, l2, l3⟩ := y6 υ ρ1 hυ h61 h60 h1 h18 (j2 hb)
        exact ⟨ρ', l1, l2, fun Q q1 q0 => j3 Q (fun _ => l3 Q q1 q0) (fun z => absurd z (by omega))⟩
      · have hb0 : b1 = 0 := by omega
        refine ⟨0, p1, S, N, ta, wd, cl, nm, fr, rs, ce, nu, st, sw, sf, sl, xc, xn, σ1, Or.inl rfl, ⟨by omega, i2.2⟩, fun Q hQ => cgo Q (fun _ => hQ) (fun z => absurd z hb), i4, fun z => absurd z (by decide), fun υ ρ hυ h61 h60 h1 h18 hR => ?_⟩
        obtain ⟨ρ1, j1, j2, j3⟩ := rgo υ ρ hυ h61 h60 h1 h18 hR
        exact ⟨ρ1, j1, fun z => absurd z (by decide), fun Q _ q0 => j3 Q (fun z => absurd z hb) (fun _ => q0 rfl)⟩
theorem rd_sec_50 {sc : Int × (Int → Int)} {n : Int} {tx : Int → Int} {T : Int} {w ty : Int → Int} {τ σ : ai_S} {S N p : Int} {ta wd cl nm fr rs ce nu st sw sf sl xc xn : Int → Int} (hX : TX n tx) (hT : cT τ n tx) (hTT : 0 ≤ T ∧ T ≤ 5) (hw : ∀ t, 0 ≤ w t ∧ w t ≤ 5) (hty : ∀ j, 0 ≤ ty j ∧ ty j ≤ 3) (c2 : τ 2 0 = T) (c4 : τ 4 = w) (c5 : τ 5 = ty) (hS : S < 6) (hp : 0 ≤ p ∧ p < n) (hK : CK 50 τ S N p ta wd cl nm fr rs ce nu σ) (hD : DS T w ty S N ta wd cl nm fr rs ce nu S N st sw sf sl xc xn) (hB : ∀ j, 0 ≤ xn j ∧ xn j ≤ 1) : ∃ b p' N', ∃ (ta' wd' cl' nm' fr' rs' ce' nu' st' sw' sf' sl' xc' xn' : Int → Int) (σ' : ai_S), (b = 0 ∨ b = 1) ∧ (p ≤ p' ∧ p' ≤ n) ∧ fn sc 75 [some (.inr (.inr 34)), some (.inr (.inr 2)), some (.inr (.inr 50)), none, none] σ (some (.inl b)) σ' ∧ CE 50 τ p' σ' ∧ (b = 1 → CK 50 τ (S + 1) N' p' ta' wd' cl' nm' fr' rs' ce' nu' σ' ∧ DS T w ty (S + 1) N' ta' wd' cl' nm' fr' rs' ce' nu' (S + 1) N' st' sw' sf' sl' xc' xn' ∧ ∀ j, 0 ≤ xn' j ∧ xn' j ≤ 1) ∧ (∀ υ ρ : ai_S, rT υ n tx → υ 61 = ty → υ 60 = w → υ 59 1 = T → RK υ S N p st sw sf sl xc xn ρ → ∃ ρ', fn sc 147 [some (.inr (.inr 59)), none, none, none] ρ (some (.inl b)) ρ' ∧ RE υ p' ρ' ∧ (b = 1 → RK υ (S + 1) N' p' st' sw' sf' sl' xc' xn' ρ')) := by
  have hn := hX.1
  have hrg : ∀ j, rg (ce j) := hD.2.1
  obtain ⟨a1, a2, a3, a4, a5, a6⟩ := hD.1
  have hs : 0 ≤ S ∧ S < 6 := ⟨a3.1, hS⟩
  have hpn : 0 ≤ p ∧ p ≤ n := ⟨hp.1, by omega⟩
  have hdr := @dgc_rng n tx p
  have rd : ai_r (dgc n tx p) := ⟨by omega, by omega⟩
  have htx := hX.2 p
  obtain ⟨w1, w2, w3, ⟨w4, w5⟩, t1, t2, t3, t4, t5, t6, t7, t8⟩ := id hK
  have σ2 : σ 2 0 = T := (congrFun (w1 2 (by omega)) 0).trans c2
  have σ4 : σ 4 = w := (w1 4 (by omega)).trans c4
  have fdig : fn sc 87 [some (.inr (.inr 34)), none] σ (some (.inl (dgc n tx p))) σ := by
    have e := cf_digit (sc := sc) (x := σ 34 3) (y := σ 34 4) hX (ck_T_50 hT hK) hpn
    rw [rd_id w3] at e
    exact e
  have rpk : ai_r ((if n ≤ p then 0 else tx p) - 48) := by
    rw [if_neg (by omega)]
    exact ⟨by omega, by omega⟩
  have r6 : ai_r 6 := ⟨by decide, by decide⟩
  -- the class's way up to the table's number
  have cbeg : ∀ Q : ai_O → Prop, (¬ (0 ≤ dgc n tx p ∧ dgc n tx p < T) → Q (.inl (some (.inl 0)), (92, [], σ))) → (0 ≤ dgc n tx p ∧ dgc n tx p < T → w (dgc n tx p) = 0 → Q (.inl (some (.inl 0)), (92, [], σ))) → (0 ≤ dgc n tx p ∧ dgc n tx p < T → ¬ w (dgc n tx p) = 0 → ai_ret (ai_wp sc) 51 [some (.inr (.inr 50)), some (.inl (dgc n tx p))] (92, [], ai_set σ 34 1 (σ 34 1 + 1)) (fun v h' => ai_ck (ai_zz 92 h'.1 0) (ai_wp sc 75 22 [some (.inr (.inr 34)), some (.inr (.inr 2)), some (.inr (.inr 50)), some (.inl (dgc n tx p)), none] (v.toList ++ []) (0, 0) h' Q))) → ai_wp sc 75 0 [some (.inr (.inr 34)), some (.inr (.inr 2)), some (.inr (.inr 50)), none, none] [] (0, 0) (92, [], σ) Q := by
    intro Q q1 q2 q3
    refine rb_75_0_50 (fn_ret fdig (rb_75_2_50 (ai_ret_q (pc_93 ⟨rd, fun _ => ⟨rd, (by rw [σ2]; exact ⟨by omega, by omega⟩)⟩⟩ (ai_k_in (rb_75_6_50 ⟨bi_r _, fun z => ⟨z01, q1 ?_⟩, fun z => ?_⟩))))))
    · have z2 := bi_no z
      rw [σ2] at z2
      omega
    · have z2 := bi_yes z
      rw [σ2] at z2
      have z3 : 0 ≤ dgc n tx p ∧ dgc n tx p < T := by omega
      have hwd := hw (dgc n tx p)
      refine ai_ret_q (pc_94 ⟨z3.1, by omega⟩ (ai_k_in ?_))
      rw [σ4]
      exact rb_75_10_50 ⟨⟨by omega, by omega⟩, fun y => q3 z3 y, fun y => ⟨z01, q2 z3 (Decidable.not_not.mp y)⟩⟩
  have rbeg : ∀ υ ρ : ai_S, rT υ n tx → υ 60 = w → υ 59 1 = T → RK υ S N p st sw sf sl xc xn ρ → ∀ Q : ai_O → Prop, (¬ (0 ≤ dgc n tx p ∧ dgc n tx p < T) → Q (.inl (some (.inl 0)), (92, [], ρ))) → (0 ≤ dgc n tx p ∧ dgc n tx p < T → w (dgc n tx p) = 0 → Q (.inl (some (.inl 0)), (92, [], ρ))) → (0 ≤ dgc n tx p ∧ dgc n tx p < T → ¬ w (dgc n tx p) = 0 → ai_ret (ai_wp sc) 136 [some (.inr (.inr 59)), some (.inl 40)] (92, [], ai_set (ai_set (ai_set ρ 59 17 (ρ 59 17 + 1)) 78 (ρ 59 28) (dgc n tx p)) 80 (ρ 59 28) (ρ 59 29)) (fun v h' => ai_ck (ai_zz 92 h'.1 0) (ai_wp sc 147 46 [some (.inr (.inr 59)), some (.inl (dgc n tx p)), some (.inl (ρ 59 28)), none] (v.toList ++ []) (0, 0) h' Q))) → ai_wp sc 147 0 [some (.inr (.inr 59)), none, none, none] [] (0, 0) (92, [], ρ) Q := by
    intro υ ρ hυ h60 h1 hR Q q1 q2 q3
    have u28 : ρ 59 28 = S := hR.2.2.2.1.1
    have u1 : ρ 59 1 = T := (hR.2.1 1 (by decide)).trans h1
    have u60 : ρ 60 = w := (hR.1 60 (by omega)).trans h60
    refine rb_147_0 (fn_ret (rk_peek hX hυ hpn hR) (rb_147_2 ⟨⟨(by rw [u28]; exact ⟨by omega, by omega⟩), r6⟩, fun z => absurd z (by rw [u28]; omega), fun _ => fn_ret (rk_isdig hX hυ hpn hR) (rb_147_11 ⟨bi_r _, fun z => ⟨z01, q1 ?_⟩, fun z => ?_⟩)⟩))
    · have z2 := bi_no z
      omega
    · obtain ⟨y1, y2⟩ := dgc_at (bi_yes z)
      rw [y2]
      refine ai_ret_q (pc_129 ⟨rd, fun _ => ⟨rd, (by rw [u1]; exact ⟨by omega, by omega⟩)⟩⟩ (ai_k_in (rb_147_15 ⟨bi_r _, fun y => ⟨z01, q1 ?_⟩, fun y => ?_⟩)))
      · have z2 := bi_no y
        rw [u1] at z2
        omega
      · have z2 := bi_yes y
        rw [u1] at z2
        have z3 : 0 ≤ dgc n tx p ∧ dgc n tx p < T := by omega
        have hwd := hw (dgc n tx p)
        refine ⟨⟨z3.1, by omega⟩, (by rw [u60]; exact ⟨by omega, by omega⟩), fun x => ⟨(by rw [u28]; exact hs), (by rw [u28]; exact ⟨hs.1, by omega⟩), q3 z3 (by rw [u60] at x; exact x)⟩, fun x => ⟨z01, q2 z3 (by rw [u60] at x; exact Decidable.not_not.mp x)⟩⟩
  by_cases hok : (0 ≤ dgc n tx p ∧ dgc n tx p < T) ∧ ¬ w (dgc n tx p) = 0
  · obtain ⟨ht, hwn⟩ := hok
    obtain ⟨t, htd⟩ : ∃ t, t = dgc n tx p := ⟨_, rfl⟩
    rw [← htd] at ht hwn cbeg rbeg
    have hwt := hw t
    have ht5 : 0 ≤ t ∧ t < 5 := ⟨ht.1, by omega⟩
    -- the class, the section added
    obtain ⟨σa, hσa⟩ : ∃ σa, σa = ai_set (ai_set (ai_set (ai_set (ai_set (ai_set σ 34 1 (p + 1)) 51 S t) 52 S 0) 54 S 0) 55 S N) 50 0 (S + 1) := ⟨_, rfl⟩
    have ka : CK 50 τ (S + 1) N (p + 1) (at1 ta S t) (at1 wd S 0) cl (at1 nm S 0) (at1 fr S N) rs ce nu σa := by
      rw [hσa]
      refine ⟨fun q hq => ?_, w2, rfl, ⟨rfl, w5⟩, ?_, ?_, t3, ?_, ?_, t6, t7, t8⟩
      · rw [set_ne (by omega), set_ne (by omega), set_ne (by omega), set_ne (by omega), set_ne (by omega), set_ne (by omega)]
        exact w1 q hq
      · rw [← t1]
        rfl
      · rw [← t2]
        rfl
      · rw [← t4]
        rfl
      · rw [← t5]
        rfl
    have cadd : ∀ Q : ai_O → Prop, ai_wp sc 75 22 [some (.inr (.inr 34)), some (.inr (.inr 2)), some (.inr (.inr 50)), some (.inl t), none] [] (0, 0) (92, [], σa) Q → ai_wp sc 75 0 [some (.inr (.inr 34)), some (.inr (.inr 2)), some (.inr (.inr 50)), none, none] [] (0, 0) (92, [], σ) Q := by
      intro Q hQ
      refine cbeg Q (fun z => absurd ht z) (fun _ z => absurd z hwn) (fun _ _ => ?_)
      rw [w3]
      have h40 : (ai_set σ 34 1 (p + 1)) 50 0 = S := w4
      have h41 : (ai_set σ 34 1 (p + 1)) 50 1 = N := w5
      refine ai_ret_q (rb_51_0_50 ⟨(by rw [h40]; exact hs), (by rw [h40]; exact hs), (by rw [h40]; exact hs), (by rw [h40]; exact hs), ai_k_in ?_⟩)
      rw [h40, h41, ← hσa]
      exact hQ
    have hp1 : 0 ≤ p + 1 ∧ p + 1 ≤ n := ⟨by omega, by omega⟩
    -- the reference, the section begun
    have radd : ∀ υ ρ : ai_S, rT υ n tx → υ 60 = w → υ 59 1 = T → RK υ S N p st sw sf sl xc xn ρ → ∃ ρa, RK υ S N (p + 1) (at1 st S t) sw sf sl xc xn ρa ∧ ∀ Q : ai_O → Prop, ai_ret (ai_wp sc) 136 [some (.inr (.inr 59)), some (.inl 40)] (92, [], ρa) (fun v h' => ai_ck (ai_zz 92 h'.1 0) (ai_wp sc 147 46 [some (.inr (.inr 59)), some (.inl t), some (.inl S), none] (v.toList ++ []) (0, 0) h' Q)) → ai_wp sc 147 0 [some (.inr (.inr 59)), none, none, none] [] (0, 0) (92, [], ρ) Q := by
      intro υ ρ hυ h60 h1 hR
      obtain ⟨u1, u2, u3, ⟨u4, u5⟩, v1, v2, v3, v4, v5, v6⟩ := id hR
      refine ⟨ai_set (ai_set (ai_set ρ 59 17 (p + 1)) 78 S t) 80 S N, ⟨fun q hq => ?_, fun j hj => ?_, rfl, ⟨u4, u5⟩, ?_, v2, ?_, v4, v5, v6⟩, fun Q hQ => rbeg υ ρ hυ h60 h1 hR Q (fun z => absurd ht z) (fun _ z => absurd z hwn) (fun _ _ => ?_)⟩
      · rw [set_ne (by omega), set_ne (by omega), set_ne (by omega)]
        exact u1 q hq
      · rw [st_pl (by decide), st_pl (by decide), st_ix (by omega)]
        exact u2 j hj
      · rw [← v1]
        rfl
      · rw [← v3]
        show at1 (ρ 80) S N = ρ 80
        rw [v3]
        exact at1_id a5
      · rw [u3, u4, u5]
        exact hQ
    by_cases h40 : p + 1 < n ∧ tx (p + 1) = 40
    · -- the columns
      have hp2 : 0 ≤ p + 1 + 1 ∧ p + 1 + 1 ≤ n := ⟨by omega, by omega⟩
      have z32 : (0 : Int) ≤ 0 ∧ (0 : Int) < 32 := ⟨by decide, by decide⟩
      obtain ⟨k, b', cf, x1, x2, x3, x4, x5, x6, x7, x8⟩ := rd_cols_50 (sc := sc) (n := n) (tx := tx) (W := w t) (s := S) (t := t) hX ⟨by omega, hwt.2⟩ hs ht5 (w t).toNat 0 (p + 1 + 1) 0 (Int.le_refl 0) (by omega) hp2 z32 (by decide) (fun c c1 c2 => tb0 c ⟨by omega, c2⟩)
      rw [show p + 1 + 1 + (k - 0) = p + 1 + 1 + k by omega] at x2 x7 x8
      have kb := ck_rd_50 (q := p + 1 + 1) (x := σa 34 3) (y := σa 34 4) ka
      obtain ⟨σb, hσb⟩ : ∃ σb, σb = RD σa (p + 1 + 1) (σa 34 3) (σa 34 4) := ⟨_, rfl⟩
      rw [← hσb] at kb
      obtain ⟨b1, b2, b3, ⟨b4, b5⟩, e1, e2, e3, e4, e5, e6, e7, e8⟩ := id kb
      have xw : (σb 52) S = 0 := by
        rw [e2]
        exact at1_at
      have xn0 : (σb 54) S = 0 := by
        rw [e4]
        exact at1_at
      have eid : RD (up (up (up σb 52 (σb 52)) 53 (σb 53)) 54 (σb 54)) (p + 1 + 1) (σb 34 3) (σb 34 4) = σb := by
        have i1 : up σb 52 (σb 52) = σb := up_id
        have i2 : up σb 53 (σb 53) = σb := up_id
        rw [i1, i2, up_id]
        exact rd_id b3
      have cc := fun Q hQ => x7 σb (σb 34 3) (σb 34 4) (σb 53) (σb 52) (σb 54) (some (.inr (.inr 2))) none (ck_T_50 hT kb) xw xn0 Q hQ
      rw [eid] at cc
      obtain ⟨σc, hσc⟩ : ∃ σc, σc = RD (up (up (up σb 52 (at1 (σb 52) S k)) 53 (cln (σb 53) cf S 0 k)) 54 (at1 (σb 54) S b')) (p + 1 + 1 + k) (σb 34 3) (σb 34 4) := ⟨_, rfl⟩
      rw [← hσc] at cc
      have kc : CK 50 τ (S + 1) N (p + 1 + 1 + k) (at1 ta S t) (at1 wd S k) (cln cl cf S 0 k) (at1 nm S b') (at1 fr S N) rs ce nu σc := by
        rw [hσc]
        refine ⟨fun q hq => ?_, b2, rfl, ⟨b4, b5⟩, e1, ?_, ?_, ?_, e5, e6, e7, e8⟩
        · rw [rd_ne (by omega), up_ne (by omega), up_ne (by omega), up_ne (by omega)]
          exact b1 q hq
        · show at1 (σb 52) S k = at1 wd S k
          rw [e2, at1_1]
        · show cln (σb 53) cf S 0 k = cln cl cf S 0 k
          rw [e3]
        · show at1 (σb 54) S b' = at1 nm S b'
          rw [e4, at1_1]
      have f76 : fn sc 76 [some (.inr (.inr 34)), some (.inr (.inr 2)), some (.inr (.inr 50)), none, none, none, none] σb (some (.inl (if k ≤ 0 then 0 else 1))) σc := by
        intro Q hQ
        refine rb_76_0_50 ?_
        rw [show σb 50 0 - 1 = S by omega]
        refine ai_ret_q (pc_55_50 hs (ai_k_in ?_))
        rw [e1, at1_at]
        refine rb_76_9_50 (ai_ret_q (pc_94 ht5 (ai_k_in ?_)))
        rw [(b1 4 (by omega)).trans c4]
        exact rb_76_10_50 (cc Q hQ)
      have ccol : ∀ Q : ai_O → Prop, (k ≤ 0 → Q (.inl (some (.inl 0)), (92, [], σc))) → (¬ k ≤ 0 → ai_ret (ai_wp sc) 86 [some (.inr (.inr 34)), some (.inl 41)] (92, [], σc) (fun v h' => ai_ck (ai_zz 92 h'.1 0) (ai_wp sc 75 34 [some (.inr (.inr 34)), some (.inr (.inr 2)), some (.inr (.inr 50)), some (.inl t), none] (v.toList ++ []) (0, 0) h' Q))) → ai_wp sc 75 0 [some (.inr (.inr 34)), some (.inr (.inr 2)), some (.inr (.inr 50)), none, none] [] (0, 0) (92, [], σ) Q := by
        intro Q q0 q1
        refine cadd Q (rb_75_22_50 (fn_ret (ck_acc1_50 hX hT hp1 (by decide) ka (ac_yes h40)) (rb_75_25_50 ⟨rr1, fun z => absurd z (by decide), fun _ => ?_⟩)))
        rw [← hσb]
        refine fn_ret f76 ?_
        by_cases z : k ≤ 0
        · rw [if_pos z]
          exact rb_75_30_50 ⟨rr0, fun _ => ⟨z01, q0 z⟩, fun y => absurd rfl y⟩
        · rw [if_neg z]
          exact rb_75_30_50 ⟨rr1, fun y => absurd y (by decide), fun _ => q1 z⟩
      have rcol : ∀ υ ρ : ai_S, rT υ n tx → υ 60 = w → υ 59 1 = T → RK υ S N p st sw sf sl xc xn ρ → ∃ ρc, RK υ S N (p + 1 + 1 + k + (if k ≤ 0 then 0 else ac n tx (p + 1 + 1 + k) 41)) (at1 st S t) (at1 sw S k) sf (cln sl cf S 0 k) xc xn ρc ∧ ∀ Q : ai_O → Prop, ai_wp sc 147 50 [some (.inr (.inr 59)), some (.inl t), some (.inl S), none] [.inl (if k ≤ 0 then 0 else ac n tx (p + 1 + 1 + k) 41)] (0, 0) (92, [], ρc) Q → ai_wp sc 147 0 [some (.inr (.inr 59)), none, none, none] [] (0, 0) (92, [], ρ) Q := by
        intro υ ρ hυ h60 h1 hR
        obtain ⟨ρa, ra1, ra2⟩ := radd υ ρ hυ h60 h1 hR
        obtain ⟨sk, rb⟩ := rk_skip1 (sc := sc) (c := 40) hX hυ hp1 (by decide) ra1 (ac_yes h40)
        obtain ⟨ρb, hρb⟩ : ∃ ρb, ρb = RP ρa (p + 1 + 1) (ρa 82) (ρa 83) := ⟨_, rfl⟩
        rw [← hρb] at sk rb
        obtain ⟨u1, u2, u3, ⟨u4, u5⟩, v1, v2, v3, v4, v5, v6⟩ := id rb
        obtain ⟨ρz, hρz⟩ : ∃ ρz, ρz = ai_set ρb 79 S 0 := ⟨_, rfl⟩
        have z79 : ρz 79 = at1 sw S 0 := by
          rw [hρz, ← v2]
          rfl
        have z81 : ρz 81 = sl := by
          rw [hρz]
          exact v4
        have zT : rT ρz n tx := by
          rw [hρz]
          exact (show rT ρb n tx from rk_T hυ rb)
        have z17 : ρz 59 17 = p + 1 + 1 := by
          rw [hρz]
          exact u3
        have z60 : ρz 60 t = w t := by
          rw [hρz]
          show ρb 60 t = w t
          rw [u1 60 (by omega), h60]
        have zid : RP (up (up ρz 79 (ρz 79)) 81 (ρz 81)) (p + 1 + 1) (ρz 82) (ρz 83) = ρz := by
          have i1 : up ρz 79 (ρz 79) = ρz := up_id
          rw [i1, up_id]
          exact rp_id z17
        have rcc := fun Q hQ => x8 ρz (ρz 82) (ρz 83) (ρz 81) (ρz 79) none zT z60 (by rw [z79]; exact at1_at) Q hQ
        rw [zid] at rcc
        refine ⟨RP (up (up ρz 79 (at1 (ρz 79) S k)) 81 (cln (ρz 81) cf S 0 k)) (p + 1 + 1 + k + (if k ≤ 0 then 0 else ac n tx (p + 1 + 1 + k) 41)) (ρz 82) (ρz 83), ⟨fun q hq => ?_, fun j hj => ?_, rfl, ⟨?_, ?_⟩, ?_, ?_, ?_, ?_, ?_, ?_⟩, fun Q hQ => ra2 Q (fn_ret sk (rb_147_46 ⟨rr1, fun z => absurd z (by decide), fun _ => ai_ret_q (rb_145_0 ⟨hs, hs, ?_⟩)⟩))⟩
        · rw [rp_ne (by omega), up_ne (by omega), up_ne (by omega), hρz, set_ne (by omega)]
          exact u1 q hq
        · rw [rp_59 (by omega), hρz]
          show ρb 59 j = υ 59 j
          exact u2 j hj
        · rw [hρz]
          exact u4
        · rw [hρz]
          exact u5
        · rw [hρz]
          exact v1
        · show at1 (ρz 79) S k = at1 sw S k
          rw [z79, at1_1]
        · rw [hρz]
          exact v3
        · show cln (ρz 81) cf S 0 k = cln sl cf S 0 k
          rw [z81]
        · rw [hρz]
          exact v5
        · rw [hρz]
          exact v6
        · rw [v1, at1_at, ← hρz]
          exact rcc _ (ai_k_in hQ)
      have hp3 : 0 ≤ p + 1 + 1 + k ∧ p + 1 + 1 + k ≤ n := ⟨by omega, x2⟩
      by_cases hk0 : k ≤ 0
      · -- no columns
        refine ⟨0, p + 1 + 1 + k, N, ta, wd, cl, nm, fr, rs, ce, nu, st, sw, sf, sl, xc, xn, σc, Or.inl rfl, ⟨by omega, x2⟩, fun Q hQ => ccol Q (fun _ => hQ) (fun z => absurd hk0 z), CK_E kc hrg, fun z => absurd z (by decide), fun υ ρ hυ _ h60 h1 hR => ?_⟩
        obtain ⟨ρc, r1, r2⟩ := rcol υ ρ hυ h60 h1 hR
        rw [if_pos hk0, Int.add_zero] at r1
        rw [if_pos hk0] at r2
        exact ⟨ρc, fun Q hQ => r2 Q (rb_147_50 ⟨rr0, fun z => absurd rfl z, fun _ => ⟨z01, hQ⟩⟩), RK_E r1 hB, fun z => absurd z (by decide)⟩
      · by_cases h41 : p + 1 + 1 + k < n ∧ tx (p + 1 + 1 + k) = 41
        · -- the rows
          have hac := ac_yes h41
          have hD2 := DS_sec (t := t) (k := k) (b := b') (cf := cf) hD hw hS ht ⟨by omega, x1.2⟩ x3 (fun j j1 j2 => (x4 j j1 j2).1) x5 (fun c c1 c2 => by
            rw [x6 c c1 c2, tb0 c ⟨c1, c2⟩]
            exact ⟨fun q => q.elim (fun z => absurd z (by decide)) id, Or.inr⟩)
          have kd := ck_rd_50 (q := p + 1 + 1 + k + 1) (x := σc 34 3) (y := σc 34 4) kc
          have h5 : (RD σc (p + 1 + 1 + k + 1) (σc 34 3) (σc 34 4)) 50 1 = N := kd.2.2.2.1.2
          obtain ⟨b, p', N', rs', ce', nu', xc', xn', σ', i1, i2, i3, i4, i5, i6⟩ := rd_loop_50 (sc := sc) hX hT hTT hw hty c5 hs (24 - N).toNat N (p + 1 + 1 + k + 1) rs ce nu xc xn _ (some (.inl t)) (by omega) a4.1 ⟨by omega, by omega⟩ kd hD2 hB
          refine ⟨b, p', N', _, _, _, _, _, rs', ce', nu', _, _, _, _, xc', xn', σ', i1, ⟨by omega, i2.2⟩, fun Q hQ => ccol Q (fun z => absurd z hk0) (fun _ => fn_ret (ck_acc1_50 hX hT hp3 (by decide) kc hac) (rb_75_34_50 ⟨rr1, fun _ => ?_, fun z => absurd (show ¬ (1 : Int) = 0 by decide) z⟩)), i4, i5, fun υ ρ hυ h61 h60 h1 hR => ?_⟩
          · rw [h5]
            exact i3 Q hQ
          · obtain ⟨ρc, r1, r2⟩ := rcol υ ρ hυ h60 h1 hR
            rw [if_neg hk0, hac] at r1 r2
            obtain ⟨ρ', j1, j2, j3⟩ := i6 υ ρc (some (.inl t)) hυ h61 r1
            exact ⟨ρ', fun Q hQ => r2 Q (rb_147_50 ⟨rr1, fun _ => j1 Q hQ, fun z => absurd (show ¬ (1 : Int) = 0 by decide) z⟩), j2, j3⟩
        · -- no bracket
          have hac := ac_no h41
          refine ⟨0, p + 1 + 1 + k, N, ta, wd, cl, nm, fr, rs, ce, nu, st, sw, sf, sl, xc, xn, σc, Or.inl rfl, ⟨by omega, x2⟩, fun Q hQ => ccol Q (fun z => absurd z hk0) (fun _ => fn_ret (ck_acc0_50 hX hT hp3 (by decide) kc hac) (rb_75_34_50 ⟨rr0, fun z => absurd rfl z, fun _ => ⟨z01, hQ⟩⟩)), CK_E kc hrg, fun z => absurd z (by decide), fun υ ρ hυ _ h60 h1 hR => ?_⟩
          obtain ⟨ρc, r1, r2⟩ := rcol υ ρ hυ h60 h1 hR
          rw [if_neg hk0, hac] at r1 r2
          rw [Int.add_zero] at r1
          exact ⟨ρc, fun Q hQ => r2 Q (rb_147_50 ⟨rr0, fun z => absurd rfl z, fun _ => ⟨z01, hQ⟩⟩), RK_E r1 hB, fun z => absurd z (by decide)⟩
    · -- no opening bracket
      have hac := ac_no h40
      refine ⟨0, p + 1, N, ta, wd, cl, nm, fr, rs, ce, nu, st, sw, sf, sl, xc, xn, σa, Or.inl rfl, ⟨by omega, hp1.2⟩, fun Q hQ => cadd Q (rb_75_22_50 (fn_ret (ck_acc0_50 hX hT hp1 (by decide) ka hac) (rb_75_25_50 ⟨rr0, fun _ => ⟨z01, hQ⟩, fun z => absurd rfl z⟩))), CK_E ka hrg, fun z => absurd z (by decide), fun υ ρ hυ _ h60 h1 hR => ?_⟩
      obtain ⟨ρa, ra1, ra2⟩ := radd υ ρ hυ h60 h1 hR
      exact ⟨ρa, fun Q hQ => ra2 Q (fn_ret (rk_skip0 hX hυ hp1 (by decide) ra1 hac) (rb_147_46 ⟨rr0, fun _ => ⟨z01, hQ⟩, fun z => absurd rfl z⟩)), RK_E ra1 hB, fun z => absurd z (by decide)⟩
  · -- no such table
    have hz : 0 ≤ dgc n tx p ∧ dgc n tx p < T → w (dgc n tx p) = 0 := fun q => Decidable.not_not.mp (fun z => hok ⟨q, z⟩)
    exact ⟨0, p, N, ta, wd, cl, nm, fr, rs, ce, nu, st, sw, sf, sl, xc, xn, σ, Or.inl rfl, ⟨Int.le_refl p, hpn.2⟩, fun Q hQ => cbeg Q (fun _ => hQ) (fun _ _ => hQ) (fun q z => absurd (hz q) z), CK_E hK hrg, fun z => absurd z (by decide), fun υ ρ hυ _ h60 h1 hR => ⟨ρ, fun Q hQ => rbeg υ ρ hυ h60 h1 hR Q (fun _ => hQ) (fun _ _ => hQ) (fun q z => absurd (hz q) z), RK_E hR hB, fun z => absurd z (by decide)⟩⟩
theorem rd_all_50 {sc : Int × (Int → Int)} {n : Int} {tx : Int → Int} {T : Int} {w ty : Int → Int} {τ : ai_S} (hX : TX n tx) (hT : cT τ n tx) (hTT : 0 ≤ T ∧ T ≤ 5) (hw : ∀ t, 0 ≤ w t ∧ w t ≤ 5) (hty : ∀ j, 0 ≤ ty j ∧ ty j ≤ 3) (c2 : τ 2 0 = T) (c4 : τ 4 = w) (c5 : τ 5 = ty) :
    ∀ (m : Nat) (S N p : Int) (ta wd cl nm fr rs ce nu st sw sf sl xc xn : Int → Int) (σ : ai_S), S + (m : Int) = 6 → (0 ≤ p ∧ p ≤ n) → CK 50 τ S N p ta wd cl nm fr rs ce nu σ → DS T w ty S N ta wd cl nm fr rs ce nu S N st sw sf sl xc xn → (∀ j, 0 ≤ xn j ∧ xn j ≤ 1) →
      ∃ b p' S' N', ∃ (ta' wd' cl' nm' fr' rs' ce' nu' st' sw' sf' sl' xc' xn' : Int → Int) (σ' : ai_S), (b = 0 ∨ b = 1) ∧ (0 ≤ p' ∧ p' ≤ n) ∧ (∀ Q : ai_O → Prop, Q (.inl (some (.inl b)), (92, [], σ')) → ai_wp sc 74 7 [some (.inr (.inr 34)), some (.inr (.inr 2)), some (.inr (.inr 50)), some (.inl S)] [] (0, 0) (92, [], σ) Q) ∧ CE 50 τ p' σ' ∧ (b = 1 → CK 50 τ S' N' p' ta' wd' cl' nm' fr' rs' ce' nu' σ' ∧ DS T w ty S' N' ta' wd' cl' nm' fr' rs' ce' nu' S' N' st' sw' sf' sl' xc' xn' ∧ ∀ j, 0 ≤ xn' j ∧ xn' j ≤ 1) ∧
        (∀ υ ρ : ai_S, rT υ n tx → υ 61 = ty → υ 60 = w → υ 59 1 = T → υ 59 18 = -1 → RK υ S N p st sw sf sl xc xn ρ → ∃ ρ', RE υ p' ρ' ∧ (b = 1 → RK υ S' N' p' st' sw' sf' sl' xc' xn' ρ') ∧ ∀ Q : ai_O → Prop, (b = 1 → ai_wp sc 148 61 [some (.inr (.inr 59)), some (.inl 0)] [] (0, 0) (92, [], ai_set (ai_set (ai_set (ai_set ρ' 59 19 1) 59 42 0) 59 20 (ρ' 59 28)) 59 21 (ρ' 59 29)) Q) → (b = 0 → Q (.inl (some (.inl 0)), (92, [], ai_set (ai_set ρ' 59 18 p') 59 0 1))) → ai_wp sc 148 20 [some (.inr (.inr 59)), none] [] (0, 0) (92, [], ρ) Q) := by
  have hn := hX.1
  have r6 : ai_r 6 := ⟨by decide, by decide⟩
  -- the text ends
  have fin : ∀ (S N p : Int) (ta wd cl nm fr rs ce nu st sw sf sl xc xn : Int → Int) (σ : ai_S), (0 ≤ S ∧ S ≤ 6) → p = n → CK 50 τ S N p ta wd cl nm fr rs ce nu σ → (∀ Q : ai_O → Prop, Q (.inl (some (.inl 1)), (92, [], σ)) → ai_wp sc 74 7 [some (.inr (.inr 34)), some (.inr (.inr 2)), some (.inr (.inr 50)), some (.inl S)] [] (0, 0) (92, [], σ) Q) := by
    intro S N p ta wd cl nm fr rs ce nu st sw sf sl xc xn σ hS hpn hK Q hQ
    have e0 : σ 34 0 = n := hK.2.1.trans hT.1
    have e1 : σ 34 1 = p := hK.2.2.1
    have rr : ai_r (σ 34 1) ∧ ai_r (σ 34 0) := by
      rw [e0, e1, hpn]
      exact ⟨⟨by omega, by omega⟩, ⟨by omega, by omega⟩⟩
    have ee : σ 34 1 = σ 34 0 := by rw [e0, e1, hpn]
    exact rb_74_7_50 ⟨⟨⟨by omega, by omega⟩, r6⟩, fun _ => ⟨rr, fun z => absurd ee z, fun _ => ⟨z11, hQ⟩⟩, fun _ => ⟨rr, fun _ => ⟨rr, fun z => absurd ee z, fun _ => ⟨z11, hQ⟩⟩, fun z => absurd (show σ 34 0 ≤ σ 34 1 by omega) z⟩⟩
  have finR : ∀ (S N p : Int) (st sw sf sl xc xn : Int → Int) (υ ρ : ai_S), (0 ≤ p ∧ p ≤ n) → p = n → rT υ n tx → υ 59 18 = -1 → RK υ S N p st sw sf sl xc xn ρ → ∀ Q : ai_O → Prop, ai_wp sc 148 61 [some (.inr (.inr 59)), some (.inl 0)] [] (0, 0) (92, [], ai_set (ai_set (ai_set (ai_set ρ 59 19 1) 59 42 0) 59 20 (ρ 59 28)) 59 21 (ρ 59 29)) Q → ai_wp sc 148 20 [some (.inr (.inr 59)), none] [] (0, 0) (92, [], ρ) Q := by
    intro S N p st sw sf sl xc xn υ ρ hp hpn hυ h18 hR Q hQ
    have e17 : ρ 59 17 = p := hR.2.2.1
    have e15 : ρ 59 15 = n := (rk_T hυ hR).1
    have e18 : ρ 59 18 = -1 := (hR.2.1 18 (by decide)).trans h18
    exact rb_148_20 ⟨⟨(by rw [e17]; exact ⟨by omega, by omega⟩), (by rw [e15]; exact ⟨by omega, by omega⟩)⟩, fun _ => ⟨⟨(by rw [e18]; exact rm1), rm1⟩, fun _ => ⟨z11, z01, hQ⟩, fun z => absurd e18 z⟩, fun z => absurd (show ρ 59 15 ≤ ρ 59 17 by rw [e15, e17]; omega) z⟩
  -- the fault is told
  have bad : ∀ (p : Int) (ρ : ai_S) (Q : ai_O → Prop), (0 ≤ p ∧ p ≤ n) → ρ 59 15 = n → Q (.inl (some (.inl 0)), (92, [], ai_set (ai_set ρ 59 18 p) 59 0 1)) → ρ 59 17 = p → ai_wp sc 148 20 [some (.inr (.inr 59)), none] [] (0, 0) (92, [], ai_set ρ 59 18 p) Q := by
    intro p ρ Q hp e15 hQ e17
    have r17 : ai_r ((ai_set ρ 59 18 p) 59 17) := by
      show ai_r (ρ 59 17)
      rw [e17]
      exact ⟨by omega, by omega⟩
    have r15 : ai_r ((ai_set ρ 59 18 p) 59 15) := by
      show ai_r (ρ 59 15)
      rw [e15]
      exact ⟨by omega, by omega⟩
    have r18 : ai_r ((ai_set ρ 59 18 p) 59 18) := (show ai_r p from ⟨by omega, by omega⟩)
    have n18 : ¬ (ai_set ρ 59 18 p) 59 18 = -1 := (show ¬ p = -1 by omega)
    have tell : ai_ret (ai_wp sc) 128 [some (.inr (.inr 59)), some (.inl 1)] (92, [], ai_set ρ 59 18 p) (fun v h' => ai_ck (ai_zz 92 h'.1 0) (ai_wp sc 148 44 [some (.inr (.inr 59)), none] (v.toList ++ []) (0, 0) h' Q)) := ai_ret_q (rb_128_0 (ai_k_in (rb_148_44 hQ)))
    exact rb_148_20 ⟨⟨r17, r15⟩, fun _ => ⟨⟨r18, rm1⟩, fun z => absurd z n18, fun _ => tell⟩, fun _ => ⟨⟨r18, rm1⟩, fun _ => ⟨⟨r18, rm1⟩, fun z => absurd z n18, fun _ => tell⟩, fun z => absurd n18 z⟩⟩
  intro m
  induction m with
  | zero =>
    intro S N p ta wd cl nm fr rs ce nu st sw sf sl xc xn σ hm hp hK hD hB
    have hrg : ∀ j, rg (ce j) := hD.2.1
    have hS : S = 6 := by omega
    by_cases hpn : p = n
    · exact ⟨1, p, S, N, ta, wd, cl, nm, fr, rs, ce, nu, st, sw, sf, sl, xc, xn, σ, Or.inr rfl, hp, fun Q hQ => fin S N p ta wd cl nm fr rs ce nu st sw sf sl xc xn σ ⟨by omega, by omega⟩ hpn hK Q hQ, CK_E hK hrg, fun _ => ⟨hK, hD, hB⟩, fun υ ρ hυ h61 h60 h1 h18 hR => ⟨ρ, RK_E hR hB, fun _ => hR, fun Q q1 _ => finR S N p st sw sf sl xc xn υ ρ hp hpn hυ h18 hR Q (q1 rfl)⟩⟩
    · -- a seventh section
      have e0 : σ 34 0 = n := hK.2.1.trans hT.1
      have e1 : σ 34 1 = p := hK.2.2.1
      have rr : ai_r (σ 34 1) ∧ ai_r (σ 34 0) := by
        rw [e0, e1]
        exact ⟨⟨by omega, by omega⟩, ⟨by omega, by omega⟩⟩
      refine ⟨0, p, S, N, ta, wd, cl, nm, fr, rs, ce, nu, st, sw, sf, sl, xc, xn, σ, Or.inl rfl, hp, fun Q hQ => rb_74_7_50 ⟨⟨⟨by omega, by omega⟩, r6⟩, fun _ => ⟨rr, fun _ => ⟨z01, hQ⟩, fun z => absurd (show ¬ σ 34 1 = σ 34 0 by omega) z⟩, fun z => absurd (show 6 ≤ S by omega) z⟩, CK_E hK hrg, fun z => absurd z (by decide), fun υ ρ hυ h61 h60 h1 h18 hR => ⟨ρ, RK_E hR hB, fun z => absurd z (by decide), fun Q _ q0 => ?_⟩⟩
      have e17 : ρ 59 17 = p := hR.2.2.1
      have e15 : ρ 59 15 = n := (rk_T hυ hR).1
      have e18 : ρ 59 18 = -1 := (hR.2.1 18 (by decide)).trans h18
      have e28 : ρ 59 28 = 6 := hR.2.2.2.1.1.trans hS
      refine rb_148_20 ⟨⟨(by rw [e17]; exact ⟨by omega, by omega⟩), (by rw [e15]; exact ⟨by omega, by omega⟩)⟩, fun z => absurd z (by rw [e15, e17]; omega), fun _ => ⟨⟨(by rw [e18]; exact rm1), rm1⟩, fun z => absurd e18 z, fun _ => ai_ret_q (rb_147_0 (fn_ret (rk_peek hX hυ hp hR) (rb_147_2 ⟨⟨(by rw [e28]; exact r6), r6⟩, fun _ => ⟨z01, ai_k_in (rb_148_31 ⟨rr0, fun z => absurd rfl z, fun _ => ?_⟩)⟩, fun z => absurd e28 z⟩)))⟩⟩
      rw [e17]
      exact bad p ρ Q hp e15 (q0 rfl) e17
  | succ m ih =>
    intro S N p ta wd cl nm fr rs ce nu st sw sf sl xc xn σ hm hp hK hD hB
    have hrg : ∀ j, rg (ce j) := hD.2.1
    have hS0 : 0 ≤ S := hD.1.2.2.1.1
    by_cases hpn : p = n
    · exact ⟨1, p, S, N, ta, wd, cl, nm, fr, rs, ce, nu, st, sw, sf, sl, xc, xn, σ, Or.inr rfl, hp, fun Q hQ => fin S N p ta wd cl nm fr rs ce nu st sw sf sl xc xn σ ⟨by omega, by omega⟩ hpn hK Q hQ, CK_E hK hrg, fun _ => ⟨hK, hD, hB⟩, fun υ ρ hυ h61 h60 h1 h18 hR => ⟨ρ, RK_E hR hB, fun _ => hR, fun Q q1 _ => finR S N p st sw sf sl xc xn υ ρ hp hpn hυ h18 hR Q (q1 rfl)⟩⟩
    · obtain ⟨b1, p1, N1, ta1, wd1, cl1, nm1, fr1, rs1, ce1, nu1, st1, sw1, sf1, sl1, xc1, xn1, σ1, i1, i2, i3, i4, i5, i6⟩ := rd_sec_50 (sc := sc) hX hT hTT hw hty c2 c4 c5 (show S < 6 by omega) ⟨hp.1, by omega⟩ hK hD hB
      have e0 : σ 34 0 = n := hK.2.1.trans hT.1
      have e1 : σ 34 1 = p := hK.2.2.1
      have rr : ai_r (σ 34 1) ∧ ai_r (σ 34 0) := by
        rw [e0, e1]
        exact ⟨⟨by omega, by omega⟩, ⟨by omega, by omega⟩⟩
      have cgo : ∀ Q : ai_O → Prop, (b1 = 0 → Q (.inl (some (.inl 0)), (92, [], σ1))) → (b1 = 1 → ai_wp sc 74 7 [some (.inr (.inr 34)), some (.inr (.inr 2)), some (.inr (.inr 50)), some (.inl (S + 1))] [] (0, 0) (92, [], σ1) Q) → ai_wp sc 74 7 [some (.inr (.inr 34)), some (.inr (.inr 2)), some (.inr (.inr 50)), some (.inl S)] [] (0, 0) (92, [], σ) Q := fun Q q0 q1 => rb_74_7_50 ⟨⟨⟨by omega, by omega⟩, r6⟩, fun z => absurd z (by omega), fun _ => ⟨rr, fun z => absurd z (by omega), fun _ => fn_ret i3 (rb_74_19_50 ⟨⟨by omega, by omega⟩, fun z => q1 (by omega), fun z => ⟨z01, q0 (Decidable.not_not.mp z)⟩⟩)⟩⟩
      have rgo : ∀ υ ρ : ai_S, rT υ n tx → υ 61 = ty → υ 60 = w → υ 59 1 = T → υ 59 18 = -1 → RK υ S N p st sw sf sl xc xn ρ → ∃ ρ1, RE υ p1 ρ1 ∧ (b1 = 1 → RK υ (S + 1) N1 p1 st1 sw1 sf1 sl1 xc1 xn1 ρ1) ∧ ∀ Q : ai_O → Prop, (b1 = 1 → ai_wp sc 148 20 [some (.inr (.inr 59)), none] [] (0, 0) (92, [], ρ1) Q) → (b1 = 0 → Q (.inl (some (.inl 0)), (92, [], ai_set (ai_set ρ1 59 18 p1) 59 0 1))) → ai_wp sc 148 20 [some (.inr (.inr 59)), none] [] (0, 0) (92, [], ρ) Q := by
        intro υ ρ hυ h61 h60 h1 h18 hR
        obtain ⟨ρ1, j1, j2, j3⟩ := i6 υ ρ hυ h61 h60 h1 hR
        refine ⟨ρ1, j2, j3, fun Q q1 q0 => ?_⟩
        have e17 : ρ 59 17 = p := hR.2.2.1
        have e15 : ρ 59 15 = n := (rk_T hυ hR).1
        have e18 : ρ 59 18 = -1 := (hR.2.1 18 (by decide)).trans h18
        have f17 : ρ1 59 17 = p1 := j2.2.2.1
        have f15 : ρ1 59 15 = n := (j2.2.1 15 (by decide)).trans hυ.1
        refine rb_148_20 ⟨⟨(by rw [e17]; exact ⟨by omega, by omega⟩), (by rw [e15]; exact ⟨by omega, by omega⟩)⟩, fun z => absurd z (by rw [e15, e17]; omega), fun _ => ⟨⟨(by rw [e18]; exact rm1), rm1⟩, fun z => absurd e18 z, fun _ => fn_ret j1 (rb_148_31 ⟨⟨by omega, by omega⟩, fun z => q1 (by omega), fun z => ?_⟩)⟩⟩
        rw [f17]
        exact bad p1 ρ1 Q ⟨by omega, i2.2⟩ f15 (q0 (Decidable.not_not.mp z)) f17
      by_cases hb : b1 = 1
      · obtain ⟨k1, k2, k3⟩ := i5 hb
        obtain ⟨b, p', S', N', ta2, wd2, cl2, nm2, fr2, rs2, ce2, nu2, st2, sw2, sf2, sl2, xc2, xn2, σ2, y1, y2, y3, y4, y5, y6⟩ := ih (S + 1) N1 p1 ta1 wd1 cl1 nm1 fr1 rs1 ce1 nu1 st1 sw1 sf1 sl1 xc1 xn1 σ1 (by omega) ⟨by omega, i2.2⟩ k1 k2 k3
        refine ⟨b, p', S', N', ta2, wd2, cl2, nm2, fr2, rs2, ce2, nu2, st2, sw2, sf2, sl2, xc2, xn2, σ2, y1, y2, fun Q hQ => cgo Q (fun z => absurd z (by omega)) (fun _ => y3 Q hQ), y4, y5, fun υ ρ hυ h61 h60 h1 h18 hR => ?_⟩
        obtain ⟨ρ1, j1, j2, j3⟩ := rgo υ ρ hυ h61 h60 h1 h18 hR
        obtain ⟨ρ', l1, l2, l3⟩ := y6 υ ρ1 hυ h61 h60 h1 h18 (j2 hb)
        exact ⟨ρ', l1, l2, fun Q q1 q0 => j3 Q (fun _ => l3 Q q1 q0) (fun z => absurd z (by omega))⟩
      · have hb0 : b1 = 0 := by omega
        refine ⟨0, p1, S, N, ta, wd, cl, nm, fr, rs, ce, nu, st, sw, sf, sl, xc, xn, σ1, Or.inl rfl, ⟨by omega, i2.2⟩, fun Q hQ => cgo Q (fun _ => hQ) (fun z => absurd z hb), i4, fun z => absurd z (by decide), fun υ ρ hυ h61 h60 h1 h18 hR => ?_⟩
        obtain ⟨ρ1, j1, j2, j3⟩ := rgo υ ρ hυ h61 h60 h1 h18 hR
        exact ⟨ρ1, j1, fun z => absurd z (by decide), fun Q _ q0 => j3 Q (fun z => absurd z hb) (fun _ => q0 rfl)⟩
