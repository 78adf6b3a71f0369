/-! APPLY: the row as it would be. -/
def CD (σ : ai_S) (f : Int → Int) (x : Int) : ai_S := ai_set (up σ 33 f) 32 1 x
theorem cd_set {σ : ai_S} {f : Int → Int} {x c v y : Int} : ai_set (ai_set (CD σ f x) 33 c v) 32 1 y = CD σ (fun j => if j = c then v else f j) y := by
  unfold CD
  rw [set_pl (p := 32) (q := 33) (by decide), up_s, set_set]
theorem cd_id {σ : ai_S} : CD σ (σ 33) (σ 32 1) = σ := by
  unfold CD
  rw [up_id]
  funext p j
  by_cases h : p = 32
  · subst h
    by_cases g : j = 1
    · subst g
      simp [ai_set]
    · simp [ai_set, g]
  · simp [ai_set, h]
def pt (x c b : Int) : Int := if b = 0 then ai_and x (ai_xor (ai_shl 1 c) (-1)) else ai_or x (ai_shl 1 c)
theorem pt_facts {x c b : Int} (hx : 0 ≤ x ∧ x < 32) (hc : 0 ≤ c ∧ c < 5) : (0 ≤ pt x c b ∧ pt x c b < 32) ∧ ∀ j, 0 ≤ j → j < 5 → tb (pt x c b) j = if j = c then decide (¬ b = 0) else tb x j := by
  obtain ⟨_, h2, h3, h4⟩ := bit_facts hx hc
  unfold pt
  by_cases hb : b = 0
  · rw [if_pos hb]
    refine ⟨h3, fun j j1 j2 => ?_⟩
    rw [(h4 j ⟨j1, j2⟩).2]
    by_cases e : j = c
    · simp [e, hb]
    · simp [e]
  · rw [if_neg hb]
    refine ⟨h2, fun j j1 j2 => ?_⟩
    rw [(h4 j ⟨j1, j2⟩).1]
    by_cases e : j = c
    · simp [e, hb]
    · simp [e]
theorem cf_put {sc : Int × (Int → Int)} {σ : ai_S} {f : Int → Int} {x c v b : Int} (hc : 0 ≤ c ∧ c < 5) (hb : ai_r b) : fn sc 91 [some (.inr (.inr 32)), some (.inl c), some (.inr (.inl v)), none, some (.inl b)] (CD σ f x) none (CD σ (fun j => if j = c then v else f j) (pt x c b)) := by
  intro Q hQ
  refine rb_91_0 ⟨hc, hb, fun h => ?_, fun h => ?_⟩
  · show Q (.inl none, (92, [], ai_set (ai_set (CD σ f x) 33 c v) 32 1 (ai_and x (ai_xor (ai_shl 1 c) (-1)))))
    rw [cd_set]
    unfold pt at hQ
    rw [if_pos h] at hQ
    exact hQ
  · show Q (.inl none, (92, [], ai_set (ai_set (CD σ f x) 33 c v) 32 1 (ai_or x (ai_shl 1 c))))
    rw [cd_set]
    unfold pt at hQ
    rw [if_neg h] at hQ
    exact hQ
/-- what the class's candidate holds -/
def selV (o nm : Int) (dc ec : Int → Int) (j : Int) : Int := if o = -1 ∨ tb nm j = true then dc j else ec j
def selB (o nm x y : Int) (j : Int) : Bool := if o = -1 ∨ tb nm j = true then tb x j else tb y j
theorem bi_dec {p : Prop} [Decidable p] : decide (¬ bi p = 0) = decide p := by
  unfold bi
  by_cases h : p
  · simp [h]
  · simp [h]
theorem bit_dec {n c : Int} (hn : 0 ≤ n ∧ n < 32) (hc : 0 ≤ c ∧ c < 5) : decide (¬ bi (¬ ai_and (ai_shr n c) 1 = 0) = 0) = tb n c := by
  rw [bi_dec]
  by_cases h : tb n c = true
  · rw [h]
    exact decide_eq_true ((bit_ne hn hc).mpr h)
  · have h2 : tb n c = false := by simpa using h
    rw [h2]
    exact decide_eq_false (fun q => h ((bit_ne hn hc).mp q))
theorem cf_fill_at_41 {sc : Int × (Int → Int)} {σ : ai_S} {r o t : Int} (hr : 0 ≤ r ∧ r < 24) (hs : 0 ≤ σ 47 r ∧ σ 47 r < 6) (ht : 0 ≤ t ∧ t < 5) (ho : o = -1 ∨ (0 ≤ o ∧ o < 12)) (hnm : 0 ≤ σ 45 (σ 47 r) ∧ σ 45 (σ 47 r) < 32) (hnu : 0 ≤ σ 49 r ∧ σ 49 r < 32) (h11 : ∀ q, 0 ≤ σ 11 q ∧ σ 11 q < 32) :
    ∀ (n : Nat) (c : Int) (f : Int → Int) (x : Int), 0 ≤ c → c + (n : Int) = 5 → (0 ≤ x ∧ x < 32) → ∃ f' x', (0 ≤ x' ∧ x' < 32) ∧ (∀ j, 0 ≤ j → j < c → f' j = f j ∧ tb x' j = tb x j) ∧ (∀ j, c ≤ j → j < 5 → f' j = selV o (σ 45 (σ 47 r)) (fun j => σ 48 (5 * r + j)) (fun j => σ 10 (60 * t + 5 * o + j)) j ∧ tb x' j = selB o (σ 45 (σ 47 r)) (σ 49 r) (σ 11 (12 * t + o)) j) ∧ ∀ Q : ai_O → Prop, Q (.inl none, (92, [], CD σ f' x')) → ai_wp sc 42 6 [some (.inr (.inr 1)), some (.inr (.inr 41)), some (.inl r), some (.inl o), some (.inl t), some (.inl c)] [] (0, 0) (92, [], CD σ f x) Q := by
  intro n
  induction n with
  | zero =>
    intro c f x hc hn hx
    exact ⟨f, x, hx, fun j _ _ => ⟨rfl, rfl⟩, fun j j1 j2 => absurd j2 (by omega), fun Q hQ => rb_42_6_41 ⟨⟨⟨by omega, by omega⟩, ⟨by decide, by decide⟩⟩, fun _ => hQ, fun g => absurd (show (5 : Int) ≤ c by omega) g⟩⟩
  | succ n ih =>
    intro c f x hc hn hx
    have hc5 : 0 ≤ c ∧ c < 5 := ⟨hc, by omega⟩
    have step : ∀ v b : Int, v = selV o (σ 45 (σ 47 r)) (fun j => σ 48 (5 * r + j)) (fun j => σ 10 (60 * t + 5 * o + j)) c → decide (¬ b = 0) = selB o (σ 45 (σ 47 r)) (σ 49 r) (σ 11 (12 * t + o)) c → (∀ Q : ai_O → Prop, ai_wp sc 42 6 [some (.inr (.inr 1)), some (.inr (.inr 41)), some (.inl r), some (.inl o), some (.inl t), some (.inl (c + 1))] [] (0, 0) (92, [], CD σ (fun j => if j = c then v else f j) (pt x c b)) Q → ai_wp sc 42 6 [some (.inr (.inr 1)), some (.inr (.inr 41)), some (.inl r), some (.inl o), some (.inl t), some (.inl c)] [] (0, 0) (92, [], CD σ f x) Q) → ∃ f' x', (0 ≤ x' ∧ x' < 32) ∧ (∀ j, 0 ≤ j → j < c → f' j = f j ∧ tb x' j = tb x j) ∧ (∀ j, c ≤ j → j < 5 → f' j = selV o (σ 45 (σ 47 r)) (fun j => σ 48 (5 * r + j)) (fun j => σ 10 (60 * t + 5 * o + j)) j ∧ tb x' j = selB o (σ 45 (σ 47 r)) (σ 49 r) (σ 11 (12 * t + o)) j) ∧ ∀ Q : ai_O → Prop, Q (.inl none, (92, [], CD σ f' x')) → ai_wp sc 42 6 [some (.inr (.inr 1)), some (.inr (.inr 41)), some (.inl r), some (.inl o), some (.inl t), some (.inl c)] [] (0, 0) (92, [], CD σ f x) Q := by
      intro v b hv hb hw
      obtain ⟨p1, p2⟩ := pt_facts (b := b) hx hc5
      obtain ⟨f', x', i1, i2, i3, i4⟩ := ih (c + 1) (fun j => if j = c then v else f j) (pt x c b) (by omega) (by omega) p1
      refine ⟨f', x', i1, fun j j1 j2 => ?_, fun j j1 j2 => ?_, fun Q hQ => hw Q (i4 Q hQ)⟩
      · obtain ⟨e1, e2⟩ := i2 j j1 (by omega)
        have e3 : ¬ j = c := by omega
        rw [p2 j j1 (by omega), if_neg e3] at e2
        refine ⟨e1.trans ?_, e2⟩
        exact if_neg e3
      · by_cases e : j = c
        · subst e
          obtain ⟨e1, e2⟩ := i2 j hc (by omega)
          rw [p2 j hc (by omega), if_pos rfl] at e2
          refine ⟨e1.trans ((if_pos rfl).trans hv), e2.trans hb⟩
        · exact i3 j (by omega) j2
    have rc : ai_r c := ⟨by omega, by omega⟩
    have r5 : ai_r 5 := ⟨by decide, by decide⟩
    have ro : ai_r o := by
      rcases ho with h | h
      · subst h
        exact ⟨by decide, by decide⟩
      · exact ⟨by omega, by omega⟩
    have rm : ai_r (-1) := ⟨by decide, by decide⟩
    have ec : r * 5 + c = 5 * r + c := by omega
    have hin : 0 ≤ r * 5 + c ∧ r * 5 + c < 120 := ⟨by omega, by omega⟩
    have fromD : ∀ Q : ai_O → Prop, ai_wp sc 42 6 [some (.inr (.inr 1)), some (.inr (.inr 41)), some (.inl r), some (.inl o), some (.inl t), some (.inl (c + 1))] [] (0, 0) (92, [], CD σ (fun j => if j = c then σ 48 (r * 5 + c) else f j) (pt x c (bi (¬ ai_and (ai_shr (σ 49 r) c) 1 = 0)))) Q → ai_wp sc 42 26 [some (.inr (.inr 1)), some (.inr (.inr 41)), some (.inl r), some (.inl o), some (.inl t), some (.inl c)] [.inr (.inl (σ 48 (r * 5 + c))), .inl c, .inr (.inr 32)] (0, 0) (92, [], CD σ f x) Q := by
      intro Q hK
      exact rb_42_26_41 (ai_ret_q (pc_65_41 hr (ai_k_in (rb_42_30_41 (fn_ret (cf_put hc5 (bi_r _)) (rb_42_31_41 (rb_42_48_41 hK)))))))
    by_cases ho1 : o = -1
    · refine step (σ 48 (r * 5 + c)) (bi (¬ ai_and (ai_shr (σ 49 r) c) 1 = 0)) ?_ ?_ ?_
      · rw [ec]
        exact (if_pos (Or.inl ho1)).symm
      · rw [bit_dec hnu hc5]
        exact (if_pos (Or.inl ho1)).symm
      · intro Q hK
        exact rb_42_6_41 ⟨⟨rc, r5⟩, fun g => absurd g (by omega), fun _ => ⟨⟨ro, rm⟩, fun _ => ai_ret_q (pc_64_41 hin (ai_k_in (fromD Q hK))), fun g => absurd ho1 g⟩⟩
    · have hoo : 0 ≤ o ∧ o < 12 := by
        rcases ho with h | h
        · exact absurd h ho1
        · exact h
      have eo : (t * 12 + o) * 5 + c = 60 * t + 5 * o + c := by omega
      have en : t * 12 + o = 12 * t + o := by omega
      have hino : 0 ≤ (t * 12 + o) * 5 + c ∧ (t * 12 + o) * 5 + c < 300 := ⟨by omega, by omega⟩
      have hinn : 0 ≤ t * 12 + o ∧ t * 12 + o < 60 := ⟨by omega, by omega⟩
      by_cases hm : tb (σ 45 (σ 47 r)) c = true
      · refine step (σ 48 (r * 5 + c)) (bi (¬ ai_and (ai_shr (σ 49 r) c) 1 = 0)) ?_ ?_ ?_
        · rw [ec]
          exact (if_pos (Or.inr hm)).symm
        · rw [bit_dec hnu hc5]
          exact (if_pos (Or.inr hm)).symm
        · intro Q hK
          exact rb_42_6_41 ⟨⟨rc, r5⟩, fun g => absurd g (by omega), fun _ => ⟨⟨ro, rm⟩, fun g => absurd g ho1, fun _ => ai_ret_q (pc_62_41 hr (ai_k_in (rb_42_16_41 (ai_ret_q (pc_58_41 hs (ai_k_in (rb_42_18_41 ⟨bi_r _, fun g => absurd ((bit_ne hnm hc5).mpr hm) (bi_no g), fun _ => ai_ret_q (pc_64_41 hin (ai_k_in (fromD Q hK)))⟩)))))))⟩⟩
      · have hsel : ¬ (o = -1 ∨ tb (σ 45 (σ 47 r)) c = true) := fun q => q.elim ho1 hm
        refine step (σ 10 ((t * 12 + o) * 5 + c)) (bi (¬ ai_and (ai_shr (σ 11 (t * 12 + o)) c) 1 = 0)) ?_ ?_ ?_
        · rw [eo]
          exact (if_neg hsel).symm
        · rw [bit_dec (h11 _) hc5, en]
          exact (if_neg hsel).symm
        · intro Q hK
          exact rb_42_6_41 ⟨⟨rc, r5⟩, fun g => absurd g (by omega), fun _ => ⟨⟨ro, rm⟩, fun g => absurd g ho1, fun _ => ai_ret_q (pc_62_41 hr (ai_k_in (rb_42_16_41 (ai_ret_q (pc_58_41 hs (ai_k_in (rb_42_18_41 ⟨bi_r _, fun _ => ai_ret_q (pc_106 hino (ai_k_in (rb_42_41_41 (ai_ret_q (pc_107 hinn (ai_k_in (rb_42_47_41 (fn_ret (cf_put hc5 (bi_r _)) (rb_42_48_41 hK))))))))), fun g => absurd ((bit_ne hnm hc5).mp (bi_yes g)) hm⟩)))))))⟩⟩
theorem cf_fill_41 {sc : Int × (Int → Int)} {σ : ai_S} {r o : Int} (hr : 0 ≤ r ∧ r < 24) (hs : 0 ≤ σ 47 r ∧ σ 47 r < 6) (ht : 0 ≤ σ 42 (σ 47 r) ∧ σ 42 (σ 47 r) < 5) (ho : o = -1 ∨ (0 ≤ o ∧ o < 12)) (hnm : 0 ≤ σ 45 (σ 47 r) ∧ σ 45 (σ 47 r) < 32) (hnu : 0 ≤ σ 49 r ∧ σ 49 r < 32) (h11 : ∀ q, 0 ≤ σ 11 q ∧ σ 11 q < 32) (hx : 0 ≤ σ 32 1 ∧ σ 32 1 < 32) :
    ∃ f' x', (0 ≤ x' ∧ x' < 32) ∧ (∀ j, 0 ≤ j → j < 5 → f' j = selV o (σ 45 (σ 47 r)) (fun j => σ 48 (5 * r + j)) (fun j => σ 10 (60 * σ 42 (σ 47 r) + 5 * o + j)) j ∧ tb x' j = selB o (σ 45 (σ 47 r)) (σ 49 r) (σ 11 (12 * σ 42 (σ 47 r) + o)) j) ∧ fn sc 42 [some (.inr (.inr 1)), some (.inr (.inr 41)), some (.inl r), some (.inl o), none, none] σ none (CD σ f' x') := by
  obtain ⟨f', x', i1, _, i3, i4⟩ := cf_fill_at_41 (sc := sc) hr hs ht ho hnm hnu h11 5 0 (σ 33) (σ 32 1) (by omega) (by omega) hx
  refine ⟨f', x', i1, fun j j1 j2 => i3 j j1 j2, fun Q hQ => ?_⟩
  have h := i4 Q hQ
  rw [cd_id] at h
  exact rb_42_0_41 (ai_ret_q (pc_63_41 ⟨hr, hs⟩ (ai_k_in (rb_42_3_41 h))))
theorem cf_fill_at_50 {sc : Int × (Int → Int)} {σ : ai_S} {r o t : Int} (hr : 0 ≤ r ∧ r < 24) (hs : 0 ≤ σ 56 r ∧ σ 56 r < 6) (ht : 0 ≤ t ∧ t < 5) (ho : o = -1 ∨ (0 ≤ o ∧ o < 12)) (hnm : 0 ≤ σ 54 (σ 56 r) ∧ σ 54 (σ 56 r) < 32) (hnu : 0 ≤ σ 58 r ∧ σ 58 r < 32) (h11 : ∀ q, 0 ≤ σ 11 q ∧ σ 11 q < 32) :
    ∀ (n : Nat) (c : Int) (f : Int → Int) (x : Int), 0 ≤ c → c + (n : Int) = 5 → (0 ≤ x ∧ x < 32) → ∃ f' x', (0 ≤ x' ∧ x' < 32) ∧ (∀ j, 0 ≤ j → j < c → f' j = f j ∧ tb x' j = tb x j) ∧ (∀ j, c ≤ j → j < 5 → f' j = selV o (σ 54 (σ 56 r)) (fun j => σ 57 (5 * r + j)) (fun j => σ 10 (60 * t + 5 * o + j)) j ∧ tb x' j = selB o (σ 54 (σ 56 r)) (σ 58 r) (σ 11 (12 * t + o)) j) ∧ ∀ Q : ai_O → Prop, Q (.inl none, (92, [], CD σ f' x')) → ai_wp sc 42 6 [some (.inr (.inr 1)), some (.inr (.inr 50)), some (.inl r), some (.inl o), some (.inl t), some (.inl c)] [] (0, 0) (92, [], CD σ f x) Q := by
  intro n
  induction n with
  | zero =>
    intro c f x hc hn hx
    exact ⟨f, x, hx, fun j _ _ => ⟨rfl, rfl⟩, fun j j1 j2 => absurd j2 (by omega), fun Q hQ => rb_42_6_50 ⟨⟨⟨by omega, by omega⟩, ⟨by decide, by decide⟩⟩, fun _ => hQ, fun g => absurd (show (5 : Int) ≤ c by omega) g⟩⟩
  | succ n ih =>
    intro c f x hc hn hx
    have hc5 : 0 ≤ c ∧ c < 5 := ⟨hc, by omega⟩
    have step : ∀ v b : Int, v = selV o (σ 54 (σ 56 r)) (fun j => σ 57 (5 * r + j)) (fun j => σ 10 (60 * t + 5 * o + j)) c → decide (¬ b = 0) = selB o (σ 54 (σ 56 r)) (σ 58 r) (σ 11 (12 * t + o)) c → (∀ Q : ai_O → Prop, ai_wp sc 42 6 [some (.inr (.inr 1)), some (.inr (.inr 50)), some (.inl r), some (.inl o), some (.inl t), some (.inl (c + 1))] [] (0, 0) (92, [], CD σ (fun j => if j = c then v else f j) (pt x c b)) Q → ai_wp sc 42 6 [some (.inr (.inr 1)), some (.inr (.inr 50)), some (.inl r), some (.inl o), some (.inl t), some (.inl c)] [] (0, 0) (92, [], CD σ f x) Q) → ∃ f' x', (0 ≤ x' ∧ x' < 32) ∧ (∀ j, 0 ≤ j → j < c → f' j = f j ∧ tb x' j = tb x j) ∧ (∀ j, c ≤ j → j < 5 → f' j = selV o (σ 54 (σ 56 r)) (fun j => σ 57 (5 * r + j)) (fun j => σ 10 (60 * t + 5 * o + j)) j ∧ tb x' j = selB o (σ 54 (σ 56 r)) (σ 58 r) (σ 11 (12 * t + o)) j) ∧ ∀ Q : ai_O → Prop, Q (.inl none, (92, [], CD σ f' x')) → ai_wp sc 42 6 [some (.inr (.inr 1)), some (.inr (.inr 50)), some (.inl r), some (.inl o), some (.inl t), some (.inl c)] [] (0, 0) (92, [], CD σ f x) Q := by
      intro v b hv hb hw
      obtain ⟨p1, p2⟩ := pt_facts (b := b) hx hc5
      obtain ⟨f', x', i1, i2, i3, i4⟩ := ih (c + 1) (fun j => if j = c then v else f j) (pt x c b) (by omega) (by omega) p1
      refine ⟨f', x', i1, fun j j1 j2 => ?_, fun j j1 j2 => ?_, fun Q hQ => hw Q (i4 Q hQ)⟩
      · obtain ⟨e1, e2⟩ := i2 j j1 (by omega)
        have e3 : ¬ j = c := by omega
        rw [p2 j j1 (by omega), if_neg e3] at e2
        refine ⟨e1.trans ?_, e2⟩
        exact if_neg e3
      · by_cases e : j = c
        · subst e
          obtain ⟨e1, e2⟩ := i2 j hc (by omega)
          rw [p2 j hc (by omega), if_pos rfl] at e2
          refine ⟨e1.trans ((if_pos rfl).trans hv), e2.trans hb⟩
        · exact i3 j (by omega) j2
    have rc : ai_r c := ⟨by omega, by omega⟩
    have r5 : ai_r 5 := ⟨by decide, by decide⟩
    have ro : ai_r o := by
      rcases ho with h | h
      · subst h
        exact ⟨by decide, by decide⟩
      · exact ⟨by omega, by omega⟩
    have rm : ai_r (-1) := ⟨by decide, by decide⟩
    have ec : r * 5 + c = 5 * r + c := by omega
    have hin : 0 ≤ r * 5 + c ∧ r * 5 + c < 120 := ⟨by omega, by omega⟩
    have fromD : ∀ Q : ai_O → Prop, ai_wp sc 42 6 [some (.inr (.inr 1)), some (.inr (.inr 50)), some (.inl r), some (.inl o), some (.inl t), some (.inl (c + 1))] [] (0, 0) (92, [], CD σ (fun j => if j = c then σ 57 (r * 5 + c) else f j) (pt x c (bi (¬ ai_and (ai_shr (σ 58 r) c) 1 = 0)))) Q → ai_wp sc 42 26 [some (.inr (.inr 1)), some (.inr (.inr 50)), some (.inl r), some (.inl o), some (.inl t), some (.inl c)] [.inr (.inl (σ 57 (r * 5 + c))), .inl c, .inr (.inr 32)] (0, 0) (92, [], CD σ f x) Q := by
      intro Q hK
      exact rb_42_26_50 (ai_ret_q (pc_65_50 hr (ai_k_in (rb_42_30_50 (fn_ret (cf_put hc5 (bi_r _)) (rb_42_31_50 (rb_42_48_50 hK)))))))
    by_cases ho1 : o = -1
    · refine step (σ 57 (r * 5 + c)) (bi (¬ ai_and (ai_shr (σ 58 r) c) 1 = 0)) ?_ ?_ ?_
      · rw [ec]
        exact (if_pos (Or.inl ho1)).symm
      · rw [bit_dec hnu hc5]
        exact (if_pos (Or.inl ho1)).symm
      · intro Q hK
        exact rb_42_6_50 ⟨⟨rc, r5⟩, fun g => absurd g (by omega), fun _ => ⟨⟨ro, rm⟩, fun _ => ai_ret_q (pc_64_50 hin (ai_k_in (fromD Q hK))), fun g => absurd ho1 g⟩⟩
    · have hoo : 0 ≤ o ∧ o < 12 := by
        rcases ho with h | h
        · exact absurd h ho1
        · exact h
      have eo : (t * 12 + o) * 5 + c = 60 * t + 5 * o + c := by omega
      have en : t * 12 + o = 12 * t + o := by omega
      have hino : 0 ≤ (t * 12 + o) * 5 + c ∧ (t * 12 + o) * 5 + c < 300 := ⟨by omega, by omega⟩
      have hinn : 0 ≤ t * 12 + o ∧ t * 12 + o < 60 := ⟨by omega, by omega⟩
      by_cases hm : tb (σ 54 (σ 56 r)) c = true
      · refine step (σ 57 (r * 5 + c)) (bi (¬ ai_and (ai_shr (σ 58 r) c) 1 = 0)) ?_ ?_ ?_
        · rw [ec]
          exact (if_pos (Or.inr hm)).symm
        · rw [bit_dec hnu hc5]
          exact (if_pos (Or.inr hm)).symm
        · intro Q hK
          exact rb_42_6_50 ⟨⟨rc, r5⟩, fun g => absurd g (by omega), fun _ => ⟨⟨ro, rm⟩, fun g => absurd g ho1, fun _ => ai_ret_q (pc_62_50 hr (ai_k_in (rb_42_16_50 (ai_ret_q (pc_58_50 hs (ai_k_in (rb_42_18_50 ⟨bi_r _, fun g => absurd ((bit_ne hnm hc5).mpr hm) (bi_no g), fun _ => ai_ret_q (pc_64_50 hin (ai_k_in (fromD Q hK)))⟩)))))))⟩⟩
      · have hsel : ¬ (o = -1 ∨ tb (σ 54 (σ 56 r)) c = true) := fun q => q.elim ho1 hm
        refine step (σ 10 ((t * 12 + o) * 5 + c)) (bi (¬ ai_and (ai_shr (σ 11 (t * 12 + o)) c) 1 = 0)) ?_ ?_ ?_
        · rw [eo]
          exact (if_neg hsel).symm
        · rw [bit_dec (h11 _) hc5, en]
          exact (if_neg hsel).symm
        · intro Q hK
          exact rb_42_6_50 ⟨⟨rc, r5⟩, fun g => absurd g (by omega), fun _ => ⟨⟨ro, rm⟩, fun g => absurd g ho1, fun _ => ai_ret_q (pc_62_50 hr (ai_k_in (rb_42_16_50 (ai_ret_q (pc_58_50 hs (ai_k_in (rb_42_18_50 ⟨bi_r _, fun _ => ai_ret_q (pc_106 hino (ai_k_in (rb_42_41_50 (ai_ret_q (pc_107 hinn (ai_k_in (rb_42_47_50 (fn_ret (cf_put hc5 (bi_r _)) (rb_42_48_50 hK))))))))), fun g => absurd ((bit_ne hnm hc5).mp (bi_yes g)) hm⟩)))))))⟩⟩
theorem cf_fill_50 {sc : Int × (Int → Int)} {σ : ai_S} {r o : Int} (hr : 0 ≤ r ∧ r < 24) (hs : 0 ≤ σ 56 r ∧ σ 56 r < 6) (ht : 0 ≤ σ 51 (σ 56 r) ∧ σ 51 (σ 56 r) < 5) (ho : o = -1 ∨ (0 ≤ o ∧ o < 12)) (hnm : 0 ≤ σ 54 (σ 56 r) ∧ σ 54 (σ 56 r) < 32) (hnu : 0 ≤ σ 58 r ∧ σ 58 r < 32) (h11 : ∀ q, 0 ≤ σ 11 q ∧ σ 11 q < 32) (hx : 0 ≤ σ 32 1 ∧ σ 32 1 < 32) :
    ∃ f' x', (0 ≤ x' ∧ x' < 32) ∧ (∀ j, 0 ≤ j → j < 5 → f' j = selV o (σ 54 (σ 56 r)) (fun j => σ 57 (5 * r + j)) (fun j => σ 10 (60 * σ 51 (σ 56 r) + 5 * o + j)) j ∧ tb x' j = selB o (σ 54 (σ 56 r)) (σ 58 r) (σ 11 (12 * σ 51 (σ 56 r) + o)) j) ∧ fn sc 42 [some (.inr (.inr 1)), some (.inr (.inr 50)), some (.inl r), some (.inl o), none, none] σ none (CD σ f' x') := by
  obtain ⟨f', x', i1, _, i3, i4⟩ := cf_fill_at_50 (sc := sc) hr hs ht ho hnm hnu h11 5 0 (σ 33) (σ 32 1) (by omega) (by omega) hx
  refine ⟨f', x', i1, fun j j1 j2 => i3 j j1 j2, fun Q hQ => ?_⟩
  have h := i4 Q hQ
  rw [cd_id] at h
  exact rb_42_0_50 (ai_ret_q (pc_63_50 ⟨hr, hs⟩ (ai_k_in (rb_42_3_50 h))))
def BD (σ : ai_S) (g h : Int → Int) : ai_S := up (up σ 86 g) 87 h
theorem bd_set {σ : ai_S} {g h : Int → Int} {c v b : Int} : ai_set (ai_set (BD σ g h) 86 c v) 87 c b = BD σ (fun j => if j = c then v else g j) (fun j => if j = c then b else h j) := by
  unfold BD
  rw [up_c (p := 87) (q := 86) (by decide), up_s, up_s]
theorem bd_id {σ : ai_S} : BD σ (σ 86) (σ 87) = σ := by
  have e : up σ 86 (σ 86) = σ := up_id
  unfold BD
  rw [e, up_id]
/-- the second loop: the section's cells -/
theorem rf_build_2 {sc : Int × (Int → Int)} {σ : ai_S} {s r : Int} (hs : 0 ≤ s ∧ s < 6) (hr : 0 ≤ r ∧ r < 24) (hw : 0 ≤ σ 73 s ∧ σ 73 s ≤ 5) (hcl : ∀ k, 0 ≤ k → k < σ 73 s → 0 ≤ σ 75 (5 * s + k) ∧ σ 75 (5 * s + k) < 5) (hdi : ∀ k l, 0 ≤ k → k < σ 73 s → 0 ≤ l → l < σ 73 s → σ 75 (5 * s + k) = σ 75 (5 * s + l) → k = l) (hxn : ∀ k, 0 ≤ k → k < σ 73 s → 0 ≤ σ 77 (5 * r + k) ∧ σ 77 (5 * r + k) ≤ 1) :
    ∀ (n : Nat) (k : Int) (g h : Int → Int), 0 ≤ k → k + (n : Int) = σ 73 s → ∃ g' h', (∀ c, (∀ l, k ≤ l → l < σ 73 s → ¬ σ 75 (5 * s + l) = c) → g' c = g c ∧ h' c = h c) ∧ (∀ l, k ≤ l → l < σ 73 s → g' (σ 75 (5 * s + l)) = σ 76 (5 * r + l) ∧ h' (σ 75 (5 * s + l)) = σ 77 (5 * r + l)) ∧ ∀ (Q : ai_O → Prop) (x1 x4 x6 : Option ai_V), Q (.inl none, (92, [], BD σ g' h')) → ai_wp sc 164 53 [some (.inr (.inr 59)), x1, some (.inl s), some (.inl r), x4, some (.inl k), x6] [] (0, 0) (92, [], BD σ g h) Q := by
  intro n
  induction n with
  | zero =>
    intro k g h hk hn
    exact ⟨g, h, fun _ _ => ⟨rfl, rfl⟩, fun l l1 l2 => absurd l2 (by omega), fun Q x1 x4 x6 hQ => rh_164_53 ⟨hs, ⟨⟨by omega, by omega⟩, (show ai_r (σ 73 s) from ⟨by omega, by omega⟩)⟩, fun _ => hQ, fun q => absurd (show σ 73 s ≤ k by omega) q⟩⟩
  | succ n ih =>
    intro k g h hk hn
    have hc := hcl k hk (by omega)
    have hx := hxn k hk (by omega)
    obtain ⟨g', h', i1, i2, i3⟩ := ih (k + 1) (fun j => if j = σ 75 (5 * s + k) then σ 76 (5 * r + k) else g j) (fun j => if j = σ 75 (5 * s + k) then σ 77 (5 * r + k) else h j) (by omega) (by omega)
    refine ⟨g', h', fun c q => ?_, fun l l1 l2 => ?_, fun Q x1 x4 x6 hQ => ?_⟩
    · obtain ⟨e1, e2⟩ := i1 c (fun l l1 l2 => q l (by omega) l2)
      have e3 : ¬ c = σ 75 (5 * s + k) := fun e => q k (Int.le_refl k) (by omega) e.symm
      exact ⟨e1.trans (if_neg e3), e2.trans (if_neg e3)⟩
    · by_cases e : l = k
      · subst e
        obtain ⟨e1, e2⟩ := i1 (σ 75 (5 * s + l)) (fun m m1 m2 q => absurd (hdi m l (by omega) m2 hk (by omega) q) (by omega))
        exact ⟨e1.trans (if_pos rfl), e2.trans (if_pos rfl)⟩
      · exact i2 l (by omega) l2
    · refine rh_164_53 ⟨hs, ⟨⟨by omega, by omega⟩, (show ai_r (σ 73 s) from ⟨by omega, by omega⟩)⟩, fun q => absurd (show σ 73 s ≤ k from q) (by omega), fun _ => ⟨⟨by omega, by omega⟩, ⟨by omega, by omega⟩, hc, ⟨by omega, by omega⟩, hc, hx, ?_⟩⟩
      show ai_wp sc 164 53 [some (.inr (.inr 59)), none, some (.inl s), some (.inl r), none, some (.inl (k + 1)), some (.inl (σ 75 (5 * s + k)))] [] (0, 0) (92, [], ai_set (ai_set (BD σ g h) 86 (σ 75 (5 * s + k)) (σ 76 (5 * r + k))) 87 (σ 75 (5 * s + k)) (σ 77 (5 * r + k))) Q
      rw [bd_set]
      exact i3 Q _ _ _ hQ
/-- the first loop: the row that is there, or nothing -/
theorem rf_build_1 {sc : Int × (Int → Int)} {σ : ai_S} {t s r o : Int} (ht : 0 ≤ t ∧ t < 5) (ho : o = -1 ∨ (0 ≤ o ∧ o < 12)) (hno : ∀ j, 0 ≤ j → j < 300 → 0 ≤ σ 66 j ∧ σ 66 j ≤ 1) :
    ∀ (n : Nat) (c : Int) (g h : Int → Int), 0 ≤ c → c + (n : Int) = 5 → ∃ g' h', (∀ j, 0 ≤ j → j < c → g' j = g j ∧ h' j = h j) ∧ (∀ j, c ≤ j → j < 5 → g' j = (if o = -1 then 0 else σ 65 (60 * t + 5 * o + j)) ∧ h' j = (if o = -1 then 1 else σ 66 (60 * t + 5 * o + j))) ∧ ∀ Q : ai_O → Prop, ai_wp sc 164 53 [some (.inr (.inr 59)), some (.inl t), some (.inl s), some (.inl r), some (.inl o), some (.inl 0), none] [] (0, 0) (92, [], BD σ g' h') Q → ai_wp sc 164 2 [some (.inr (.inr 59)), some (.inl t), some (.inl s), some (.inl r), some (.inl o), some (.inl c), none] [] (0, 0) (92, [], BD σ g h) Q := by
  intro n
  induction n with
  | zero =>
    intro c g h hc hn
    exact ⟨g, h, fun _ _ _ => ⟨rfl, rfl⟩, fun j j1 j2 => absurd j2 (by omega), fun Q hQ => rb_164_2 ⟨⟨⟨by omega, by omega⟩, ⟨by decide, by decide⟩⟩, fun _ => hQ, fun q => absurd (show (5 : Int) ≤ c by omega) q⟩⟩
  | succ n ih =>
    intro c g h hc hn
    have hc5 : 0 ≤ c ∧ c < 5 := ⟨hc, by omega⟩
    have rc : ai_r c := ⟨by omega, by omega⟩
    have r5 : ai_r 5 := ⟨by decide, by decide⟩
    have rm : ai_r (-1) := ⟨by decide, by decide⟩
    have z0 : (0 : Int) ≤ 0 ∧ (0 : Int) ≤ 1 := ⟨by decide, by decide⟩
    have z1 : (0 : Int) ≤ 1 ∧ (1 : Int) ≤ 1 := ⟨by decide, by decide⟩
    have step : ∀ v b : Int, v = (if o = -1 then 0 else σ 65 (60 * t + 5 * o + c)) → b = (if o = -1 then 1 else σ 66 (60 * t + 5 * o + c)) → (∀ Q : ai_O → Prop, ai_wp sc 164 2 [some (.inr (.inr 59)), some (.inl t), some (.inl s), some (.inl r), some (.inl o), some (.inl (c + 1)), none] [] (0, 0) (92, [], ai_set (ai_set (BD σ g h) 86 c v) 87 c b) Q → ai_wp sc 164 2 [some (.inr (.inr 59)), some (.inl t), some (.inl s), some (.inl r), some (.inl o), some (.inl c), none] [] (0, 0) (92, [], BD σ g h) Q) → ∃ g' h', (∀ j, 0 ≤ j → j < c → g' j = g j ∧ h' j = h j) ∧ (∀ j, c ≤ j → j < 5 → g' j = (if o = -1 then 0 else σ 65 (60 * t + 5 * o + j)) ∧ h' j = (if o = -1 then 1 else σ 66 (60 * t + 5 * o + j))) ∧ ∀ Q : ai_O → Prop, ai_wp sc 164 53 [some (.inr (.inr 59)), some (.inl t), some (.inl s), some (.inl r), some (.inl o), some (.inl 0), none] [] (0, 0) (92, [], BD σ g' h') Q → ai_wp sc 164 2 [some (.inr (.inr 59)), some (.inl t), some (.inl s), some (.inl r), some (.inl o), some (.inl c), none] [] (0, 0) (92, [], BD σ g h) Q := by
      intro v b hv hb hw
      obtain ⟨g', h', i1, i2, i3⟩ := ih (c + 1) (fun j => if j = c then v else g j) (fun j => if j = c then b else h j) (by omega) (by omega)
      refine ⟨g', h', fun j j1 j2 => ?_, fun j j1 j2 => ?_, fun Q hQ => hw Q ?_⟩
      · obtain ⟨e1, e2⟩ := i1 j j1 (by omega)
        have e3 : ¬ j = c := by omega
        exact ⟨e1.trans (if_neg e3), e2.trans (if_neg e3)⟩
      · by_cases e : j = c
        · subst e
          obtain ⟨e1, e2⟩ := i1 j hc (by omega)
          exact ⟨(e1.trans (if_pos rfl)).trans hv, (e2.trans (if_pos rfl)).trans hb⟩
        · exact i2 j (by omega) j2
      · rw [bd_set]
        exact i3 Q hQ
    by_cases ho1 : o = -1
    · subst ho1
      refine step 0 1 (if_pos rfl).symm (if_pos rfl).symm (fun Q hK => ?_)
      exact rb_164_2 ⟨⟨rc, r5⟩, fun q => absurd q (by omega), fun _ => ⟨⟨rm, rm⟩, fun q => absurd rfl q, fun _ => ⟨hc5, ⟨rm, rm⟩, fun _ => ⟨hc5, z1, hK⟩, fun q => absurd rfl q⟩⟩⟩
    · have hoo : 0 ≤ o ∧ o < 12 := by
        rcases ho with q | q
        · exact absurd q ho1
        · exact q
      have ro : ai_r o := ⟨by omega, by omega⟩
      have hin : 0 ≤ 60 * t + 5 * o + c ∧ 60 * t + 5 * o + c < 300 := ⟨by omega, by omega⟩
      have h01 := hno _ hin.1 hin.2
      have rno : ai_r (σ 66 (60 * t + 5 * o + c)) := ⟨by omega, by omega⟩
      refine step (σ 65 (60 * t + 5 * o + c)) (σ 66 (60 * t + 5 * o + c)) (if_neg ho1).symm (if_neg ho1).symm (fun Q hK => ?_)
      refine rb_164_2 ⟨⟨rc, r5⟩, fun q => absurd q (by omega), fun _ => ⟨⟨ro, rm⟩, fun _ => ⟨hin, hc5, ⟨ro, rm⟩, fun q => absurd q ho1, fun _ => ⟨hin, rno, fun e0 => ⟨hc5, z0, ?_⟩, fun e1 => ⟨hc5, z1, ?_⟩⟩⟩, fun q => absurd ho1 q⟩⟩
      · have e : σ 66 (60 * t + 5 * o + c) = 0 := e0
        rw [e] at hK
        exact hK
      · have e : σ 66 (60 * t + 5 * o + c) = 1 := by
          have e2 : ¬ σ 66 (60 * t + 5 * o + c) = 0 := e1
          omega
        rw [e] at hK
        exact hK
theorem rf_build {sc : Int × (Int → Int)} {σ : ai_S} {t s r o : Int} (ht : 0 ≤ t ∧ t < 5) (hs : 0 ≤ s ∧ s < 6) (hr : 0 ≤ r ∧ r < 24) (ho : o = -1 ∨ (0 ≤ o ∧ o < 12)) (hno : ∀ j, 0 ≤ j → j < 300 → 0 ≤ σ 66 j ∧ σ 66 j ≤ 1) (hw : 0 ≤ σ 73 s ∧ σ 73 s ≤ 5) (hcl : ∀ k, 0 ≤ k → k < σ 73 s → 0 ≤ σ 75 (5 * s + k) ∧ σ 75 (5 * s + k) < 5) (hdi : ∀ k l, 0 ≤ k → k < σ 73 s → 0 ≤ l → l < σ 73 s → σ 75 (5 * s + k) = σ 75 (5 * s + l) → k = l) (hxn : ∀ k, 0 ≤ k → k < σ 73 s → 0 ≤ σ 77 (5 * r + k) ∧ σ 77 (5 * r + k) ≤ 1) :
    ∃ g h, (∀ c, 0 ≤ c → c < 5 → (∀ l, 0 ≤ l → l < σ 73 s → ¬ σ 75 (5 * s + l) = c) → g c = (if o = -1 then 0 else σ 65 (60 * t + 5 * o + c)) ∧ h c = (if o = -1 then 1 else σ 66 (60 * t + 5 * o + c))) ∧ (∀ l, 0 ≤ l → l < σ 73 s → g (σ 75 (5 * s + l)) = σ 76 (5 * r + l) ∧ h (σ 75 (5 * s + l)) = σ 77 (5 * r + l)) ∧ fn sc 164 [some (.inr (.inr 59)), some (.inl t), some (.inl s), some (.inl r), some (.inl o), none, none] σ none (BD σ g h) := by
  obtain ⟨g1, h1, _, a2, a3⟩ := rf_build_1 (sc := sc) (s := s) (r := r) ht ho hno 5 0 (σ 86) (σ 87) (by omega) (by omega)
  obtain ⟨g2, h2, b1, b2, b3⟩ := rf_build_2 (sc := sc) hs hr hw hcl hdi hxn (σ 73 s).toNat 0 g1 h1 (by omega) (by omega)
  refine ⟨g2, h2, fun c c1 c2 q => ?_, b2, fun Q hQ => ?_⟩
  · obtain ⟨e1, e2⟩ := b1 c q
    obtain ⟨e3, e4⟩ := a2 c c1 c2
    exact ⟨e1.trans e3, e2.trans e4⟩
  · have h := a3 Q (b3 Q _ _ _ hQ)
    rw [bd_id] at h
    exact rb_164_0 h
/-- the two rows are one -/
theorem row_same {o s r t w : Int} {nm x y : Int} {cl xc xn dc ec vl no g h f : Int → Int} {x' : Int} (ht : 0 ≤ t ∧ t < 5) (ho : o = -1 ∨ (0 ≤ o ∧ o < 12)) (hnm : ∀ c, 0 ≤ c → c < 5 → (tb nm c = true ↔ ∃ k, 0 ≤ k ∧ k < w ∧ cl (5 * s + k) = c)) (hcl : ∀ k, 0 ≤ k → k < w → 0 ≤ cl (5 * s + k) ∧ cl (5 * s + k) < 5)
    (hx : ∀ k, 0 ≤ k → k < w → xc (5 * r + k) = dc (5 * r + cl (5 * s + k)) ∧ xn (5 * r + k) = bi (tb x (cl (5 * s + k)) = true)) (hn : ∀ c, 0 ≤ c → c < 5 → tb nm c = false → tb x c = true) (hz : ∀ c, 0 ≤ c → c < 5 → tb x c = true → dc (5 * r + c) = 0)
    (hv : ∀ c, 0 ≤ c → c < 5 → vl (60 * t + 5 * o + c) = ec (60 * t + 5 * o + c)) (hy : ¬ o = -1 → ∀ c, 0 ≤ c → c < 5 → no (60 * t + 5 * o + c) = bi (tb y c = true))
    (hg : ∀ c, 0 ≤ c → c < 5 → (∀ l, 0 ≤ l → l < w → ¬ cl (5 * s + l) = c) → g c = (if o = -1 then 0 else vl (60 * t + 5 * o + c)) ∧ h c = (if o = -1 then 1 else no (60 * t + 5 * o + c))) (hg2 : ∀ l, 0 ≤ l → l < w → g (cl (5 * s + l)) = xc (5 * r + l) ∧ h (cl (5 * s + l)) = xn (5 * r + l))
    (hf : ∀ j, 0 ≤ j → j < 5 → f j = selV o nm (fun j => dc (5 * r + j)) (fun j => ec (60 * t + 5 * o + j)) j ∧ tb x' j = selB o nm x y j) : ∀ c, 0 ≤ c → c < 5 → g c = f c ∧ h c = bi (tb x' c = true) := by
  intro c c1 c2
  obtain ⟨f1, f2⟩ := hf c c1 c2
  by_cases hm : tb nm c = true
  · obtain ⟨k, k1, k2, k3⟩ := (hnm c c1 c2).mp hm
    obtain ⟨g1, g2⟩ := hg2 k k1 k2
    obtain ⟨x1, x2⟩ := hx k k1 k2
    rw [k3] at g1 g2 x1 x2
    have s1 : selV o nm (fun j => dc (5 * r + j)) (fun j => ec (60 * t + 5 * o + j)) c = dc (5 * r + c) := if_pos (Or.inr hm)
    have s2 : selB o nm x y c = tb x c := if_pos (Or.inr hm)
    refine ⟨(g1.trans x1).trans (f1.trans s1).symm, ?_⟩
    rw [f2, s2]
    exact g2.trans x2
  · have hm2 : tb nm c = false := by simpa using hm
    have hno : ∀ l, 0 ≤ l → l < w → ¬ cl (5 * s + l) = c := fun l l1 l2 e => hm ((hnm c c1 c2).mpr ⟨l, l1, l2, e⟩)
    obtain ⟨g1, g2⟩ := hg c c1 c2 hno
    by_cases ho1 : o = -1
    · have s1 : selV o nm (fun j => dc (5 * r + j)) (fun j => ec (60 * t + 5 * o + j)) c = dc (5 * r + c) := if_pos (Or.inl ho1)
      have s2 : selB o nm x y c = tb x c := if_pos (Or.inl ho1)
      have hxc := hn c c1 c2 hm2
      rw [if_pos ho1] at g1 g2
      refine ⟨?_, ?_⟩
      · rw [g1, f1, s1]
        exact (hz c c1 c2 hxc).symm
      · rw [g2, f2, s2, hxc]
        exact (bi_eq1.mpr rfl).symm
    · have hsel : ¬ (o = -1 ∨ tb nm c = true) := fun q => q.elim ho1 hm
      have s1 : selV o nm (fun j => dc (5 * r + j)) (fun j => ec (60 * t + 5 * o + j)) c = ec (60 * t + 5 * o + c) := if_neg hsel
      have s2 : selB o nm x y c = tb y c := if_neg hsel
      rw [if_neg ho1] at g1 g2
      refine ⟨?_, ?_⟩
      · rw [g1, f1, s1]
        exact hv c c1 c2
      · rw [g2, f2, s2]
        exact hy ho1 c c1 c2
