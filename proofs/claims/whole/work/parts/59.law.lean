/-! THE LAW'S LOOP, and the claim. -/
/-- every arm of the switch -/
theorem lo_arm {sc : Int × (Int → Int)} {σ : ai_S} {Q : ai_O → Prop} {a b : Nat} {v4 : Int} (hab : a + 1 ≤ 601024 ∧ b + 6 ≤ 7293034) (hv : 0 ≤ v4 ∧ v4 ≤ sc.1 - 5) (hs : ∀ j, -2147483648 ≤ sc.2 j ∧ sc.2 j ≤ 2147483647) (hR : Rel σ) (K : Nxt sc Q v4 a b) : ∀ (j s : Nat), ai_nth ai_swt j = some s → ai_wp sc 206 s (lwL v4 none none none) [] (a, b) (92, [], σ) Q := by
  intro j s hj
  rcases j with _ | _ | _ | _ | _ | _ | _ | _ | _ | _ | _ | _ | _ | _ | _ | _ | _ | _ | _ | j
  · have e : s = 25 := (Option.some.inj hj).symm
    subst e
    exact st_table hab hv hs hR K
  · have e : s = 50 := (Option.some.inj hj).symm
    subst e
    exact st_column hab hv hs hR K
  · have e : s = 123 := (Option.some.inj hj).symm
    subst e
    exact st_type hab hv hs hR K
  · have e : s = 142 := (Option.some.inj hj).symm
    subst e
    exact st_wipe hab hv hs hR K
  · have e : s = 147 := (Option.some.inj hj).symm
    subst e
    exact st_read hab hv hs hR K
  · have e : s = 172 := (Option.some.inj hj).symm
    subst e
    exact st_fault hab hv hs hR K
  · have e : s = 179 := (Option.some.inj hj).symm
    subst e
    exact st_order hab hv hs hR K
  · have e : s = 214 := (Option.some.inj hj).symm
    subst e
    exact st_apply hab hv hs hR K
  · have e : s = 249 := (Option.some.inj hj).symm
    subst e
    exact st_failure hab hv hs hR K
  · have e : s = 266 := (Option.some.inj hj).symm
    subst e
    exact st_rows hab hv hs hR K
  · have e : s = 301 := (Option.some.inj hj).symm
    subst e
    exact st_value hab hv hs hR K
  · have e : s = 355 := (Option.some.inj hj).symm
    subst e
    exact st_isNull hab hv hs hR K
  · have e : s = 413 := (Option.some.inj hj).symm
    subst e
    exact st_begin hab hv hs hR K
  · have e : s = 438 := (Option.some.inj hj).symm
    subst e
    exact st_commit hab hv hs hR K
  · have e : s = 463 := (Option.some.inj hj).symm
    subst e
    exact st_rollback hab hv hs hR K
  · have e : s = 488 := (Option.some.inj hj).symm
    subst e
    exact st_compare hab hv hs hR K
  · have e : s = 557 := (Option.some.inj hj).symm
    subst e
    exact st_difference hab hv hs hR K
  · have e : s = 602 := (Option.some.inj hj).symm
    subst e
    exact st_write hab hv hs hR K
  · have e : s = 637 := (Option.some.inj hj).symm
    subst e
    exact st_written hab hv hs hR K
  · exact absurd (show (none : Option Nat) = some s from hj) (by simp)
/-- the loop: n turns are left at most -/
theorem lo_loop {sc : Int × (Int → Int)} {Q : ai_O → Prop} (h0 : 0 ≤ sc.1) (h1 : sc.1 ≤ 2560) (hs : ∀ j, -2147483648 ≤ sc.2 j ∧ sc.2 j ≤ 2147483647) (hQ : ∀ σ, Q (.inl (some (.inl 1)), (92, [], σ))) :
    ∀ (n : Nat) (a b : Nat) (v4 : Int) (σ : ai_S), sc.1 - 5 < v4 + 5 * (n : Int) → 0 ≤ v4 → v4 ≤ 2600 → a + n ≤ 601024 → b + 6 * n ≤ 7293034 → Rel σ → ∀ x5 x6 x7, ai_wp sc 206 13 (lwL v4 x5 x6 x7) [] (a, b) (92, [], σ) Q := by
  intro n
  induction n with
  | zero =>
    intro a b v4 σ hn hv hw ha hb hR x5 x6 x7
    exact arm_head ⟨by omega, by omega⟩ ⟨hv, by omega⟩ ⟨h0, h1⟩ (fun _ => hQ σ) (fun h => absurd h (by omega))
  | succ n ih =>
    intro a b v4 σ hn hv hw ha hb hR x5 x6 x7
    refine arm_head ⟨by omega, by omega⟩ ⟨hv, by omega⟩ ⟨h0, h1⟩ (fun _ => hQ σ) (fun h => ?_)
    have K : Nxt sc Q v4 a b := fun a' b' σ' q1 q2 q3 y5 y6 y7 => ih a' b' (v4 + 5) σ' (by omega) (by omega) (by omega) (by omega) (by omega) q3 y5 y6 y7
    refine lb_24 ⟨r32 _, fun j s hj _ => lo_arm ⟨by omega, by omega⟩ ⟨hv, h⟩ hs hR K j s hj, fun _ => arm_next (K a b σ (by omega) (by omega) hR)⟩
theorem lo_goal : ai_goal := by
  intro sc h0 h1 hs
  exact ai_boot (lo_loop h0 h1 hs (fun σ => ⟨_, rfl⟩) 512 92 9053 0 _ (by omega) (by omega) (by omega) (by omega) (by omega) rel_boot none none none)
theorem i_vc : Claimed_1_1 ∧ Claimed_1_2 := lw_end lo_goal
