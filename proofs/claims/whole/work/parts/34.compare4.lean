/-! THE TURN OF COMPARE. -/
theorem set_comm {σ : ai_S} {p : Nat} {i j v w : Int} (h : ¬ i = j) : ai_set (ai_set σ p i v) p j w = ai_set (ai_set σ p j w) p i v := by
  funext q k
  unfold ai_set
  by_cases hq : q = p
  · simp only [if_pos hq]
    by_cases hk : k = j
    · rw [if_pos hk, if_neg (fun e => h (e.symm.trans hk)), if_pos hk]
    · rw [if_neg hk]
      by_cases hi : k = i
      · rw [if_pos hi, if_pos hi]
      · rw [if_neg hi, if_neg hi, if_neg hk]
  · simp only [if_neg hq]
theorem r64 (x : Int64) : ai_r8 x.toInt := ⟨Int64.le_toInt x, Int64.toInt_le x⟩
theorem DN_congr {A B A' B' ty u v dl : Int} (ha : A = 0 ↔ A' = 0) (hb : B = 0 ↔ B' = 0) : DN A B ty u v dl ↔ DN A' B' ty u v dl := by
  unfold DN
  rw [ha, hb]
def hgt (S N : Int) (fr : Int → Int) (s : Int) : Int := if S ≤ s + 1 then N - fr s else fr (s + 1) - fr s
noncomputable def cmpL (nm nu ce : Int → Int) (s x y : Int) : Bool := pb ((¬ ai_and (ai_shr (nm s) 0) 1 = 0) ∧ KLA nu ce x y)
noncomputable def cmpD (nu ce n11 c10 ty B : Int → Int) (t dl ig r c : Int) : Bool := pb (ai_and (ai_shr ig c) 1 = 0 ∧ DN (ai_and (ai_shr (nu (B r)) c) 1) (ai_and (ai_shr (n11 ((t * 12) + r)) c) 1) (ty ((t * 5) + c)) (ce (((B r) * 5) + c)) (c10 ((((t * 12) + r) * 5) + c)) dl)
noncomputable def cmpB (S N : Int) (nm fr ce nu : Int → Int) (s : Int) (A : Int → Int) : Int → Int := srt (cmpL nm nu ce s) (fr s) (hgt S N fr s).toNat 0 A
noncomputable def cmpf (S N : Int) (ta wd cl nm fr ce nu cn c10 n11 ty : Int → Int) (dl ig s : Int) (A : Int → Int) : List (Int × Int × Int) × (Int → Int) := (secT s (hgt S N fr s) (cn (ta s)) cl (cmpD nu ce n11 c10 ty (cmpB S N nm fr ce nu s A) (ta s) dl ig) (wd s).toNat (if cn (ta s) < hgt S N fr s then cn (ta s) else hgt S N fr s).toNat, cmpB S N nm fr ce nu s A)
theorem hgt_sf {T : Int} {w ty : Int → Int} {S N : Int} {ta wd cl nm fr rs ce nu : Int → Int} {S' N' : Int} {st sw sf sl xc xn : Int → Int} (h : DS T w ty S N ta wd cl nm fr rs ce nu S' N' st sw sf sl xc xn) {s : Int} (h0 : 0 ≤ s) (h1 : s < S) : hgt S N fr s = sf (s + 1) - sf s ∧ fr s = sf s ∧ 0 ≤ sf s ∧ sf s ≤ sf (s + 1) ∧ sf (s + 1) ≤ 24 := by
  obtain ⟨⟨d1, d2, d3, d4, d5, d6⟩, d7, d8, d9⟩ := h
  have g := (d9 s h0 h1).2.2.1
  unfold hgt
  refine ⟨?_, g.1.symm, g.2.1, g.2.2.1, by omega⟩
  by_cases e : S ≤ s + 1
  · rw [if_pos e]
    have es : S = s + 1 := by omega
    rw [← es, d5]
    omega
  · rw [if_neg e]
    have g2 := (d9 (s + 1) (by omega) (by omega)).2.2.1
    omega
theorem cl_compare_41 {sc : Int × (Int → Int)} {σ : ai_S} {dl ig : Int} (hR : Rel σ) (h4 : σ 0 4 = 41) (hk : ¬ σ 0 6 = 0) (hd : DS (σ 2 0) (σ 4) (σ 5) (σ 41 0) (σ 41 1) (σ 42) (σ 43) (σ 44) (σ 45) (σ 46) (σ 47) (σ 48) (σ 49) (σ 59 20) (σ 59 21) (σ 72) (σ 73) (σ 74) (σ 75) (σ 76) (σ 77)) (hdl : 0 ≤ dl ∧ dl ≤ 9223372036854775807) : fn sc 16 [some (.inr (.inr 0)), some (.inr (.inl dl)), none, some (.inl ig)] σ (some (.inl ((runT (cmpf (σ 41 0) (σ 41 1) (σ 42) (σ 43) (σ 44) (σ 45) (σ 46) (σ 48) (σ 49) (σ 9) (σ 10) (σ 11) (σ 5) dl ig) (σ 41 0).toNat 0 (σ 38)).1.length : Int))) (X3 σ ((runT (cmpf (σ 41 0) (σ 41 1) (σ 42) (σ 43) (σ 44) (σ 45) (σ 46) (σ 48) (σ 49) (σ 9) (σ 10) (σ 11) (σ 5) dl ig) (σ 41 0).toNat 0 (σ 38)).1.length : Int) (dl3 (runT (cmpf (σ 41 0) (σ 41 1) (σ 42) (σ 43) (σ 44) (σ 45) (σ 46) (σ 48) (σ 49) (σ 9) (σ 10) (σ 11) (σ 5) dl ig) (σ 41 0).toNat 0 (σ 38)).1 0 (σ 37)) (runT (cmpf (σ 41 0) (σ 41 1) (σ 42) (σ 43) (σ 44) (σ 45) (σ 46) (σ 48) (σ 49) (σ 9) (σ 10) (σ 11) (σ 5) dl ig) (σ 41 0).toNat 0 (σ 38)).2) := by
  obtain ⟨⟨s1, s2, s3, s4, s5, s6, s7, s8, s9, s10, s11, s12⟩, ⟨⟨t1, t2, t3⟩, t4⟩, hL, n0, n1, n2, hX, hF, ⟨q1, q2, q3, q4⟩, hC, hW⟩ := hR
  obtain ⟨⟨d1, d2, d3, d4, d5, d6⟩, d7, d8, d9⟩ := id hd
  intro Q hQ
  have e4 : (σ 0 4).toNat = 41 := by
    rw [h4]
    rfl
  have e6 : ai_r (σ 0 6) := ⟨by omega, by omega⟩
  refine rb_16_0 ⟨⟨⟨by omega, by omega⟩, ⟨by decide, by decide⟩⟩, cmp_r _ _, fun _ => ⟨e6, fun _ => ?_, fun q => absurd hk q⟩, fun q => absurd (cmp_ge.mpr hdl.1) q⟩
  rw [e4]
  have e : up (up σ 37 (σ 37)) 38 (σ 38) = σ := by
    rw [up_id (p := 37)]
    exact up_id
  have hr := cf_run_41 (sc := sc) (σ := σ) (f := (cmpf (σ 41 0) (σ 41 1) (σ 42) (σ 43) (σ 44) (σ 45) (σ 46) (σ 48) (σ 49) (σ 9) (σ 10) (σ 11) (σ 5) dl ig)) (dl := dl) (ig := ig) (A := σ 38) (P := σ 37) d3 (fun s A x1 x2 => ?_) (fun s A x1 x2 => ?_)
  · rw [e] at hr
    exact rb_16_23_41 (fn_ret hr (rb_16_26_41 hQ))
  · have gw := (d9 s x1 x2).2.1
    have gt := (d9 s x1 x2).1
    have h4w := s8 (σ 42 s)
    have h9 := t4.1 (σ 42 s)
    refine secT_len (by omega) ?_
    split <;> omega
  · have gw := (d9 s x1 x2).2.1
    have gt := (d9 s x1 x2).1
    have gc := (d9 s x1 x2).2.2.2.2.1
    have h4w := s8 (σ 42 s)
    obtain ⟨k1, k2, k3, k4, k5⟩ := hgt_sf hd x1 x2
    exact cf_sec_41 (L := cmpL (σ 45) (σ 49) (σ 48) s) (D := cmpD (σ 49) (σ 48) (σ 11) (σ 10) (σ 5) (cmpB (σ 41 0) (σ 41 1) (σ 45) (σ 46) (σ 48) (σ 49) s A) (σ 42 s) dl ig) (h := hgt (σ 41 0) (σ 41 1) (σ 46) s) (cnt := σ 9 (σ 42 s)) ⟨x1, x2⟩ d3.2 ⟨by omega, by omega⟩ ⟨by omega, by omega⟩ (fun k y1 y2 => ⟨(gc k y1 y2).2.1, by have := (gc k y1 y2).2.2; omega⟩) rfl (by omega) ⟨by omega, by omega⟩ rfl (t4.1 _) d7 t4.2.2.2.1 s9 hdl (fun x y _ _ _ _ => pb_iff) (fun e x y => pb_no (fun q => q.1 e)) (fun r c _ _ _ _ _ => pb_iff)
theorem rf_compare_41 {sc : Int × (Int → Int)} {σ : ai_S} {dl ig : Int} {A0 P0 : Int → Int} (hA0 : σ 89 = A0) (hP0 : σ 88 = P0) (hRS : RSch (σ 2 0) (σ 59 1) (σ 4) (σ 60) (σ 5) (σ 61) (σ 7) (σ 62) (σ 6) (σ 63) (σ 3) (σ 84)) (hRT : EqS (σ 9) (σ 10) (σ 11) (σ 64) (σ 65) (σ 66) ∧ GS (σ 2 0) (σ 4) (σ 5) (σ 6) (σ 9) (σ 10) (σ 11)) (hk1 : σ 59 19 = 1) (hd : DS (σ 2 0) (σ 4) (σ 5) (σ 41 0) (σ 41 1) (σ 42) (σ 43) (σ 44) (σ 45) (σ 46) (σ 47) (σ 48) (σ 49) (σ 59 20) (σ 59 21) (σ 72) (σ 73) (σ 74) (σ 75) (σ 76) (σ 77)) (hdl : 0 ≤ dl ∧ dl ≤ 9223372036854775807) : fn sc 183 [some (.inr (.inr 59)), some (.inr (.inl dl)), none, some (.inl ig), none] σ (some (.inl ((runT (cmpf (σ 41 0) (σ 41 1) (σ 42) (σ 43) (σ 44) (σ 45) (σ 46) (σ 48) (σ 49) (σ 9) (σ 10) (σ 11) (σ 5) dl ig) (σ 41 0).toNat 0 A0).1.length : Int))) (Y3 (ai_set (ai_set σ 59 0 0) 59 42 1) ((runT (cmpf (σ 41 0) (σ 41 1) (σ 42) (σ 43) (σ 44) (σ 45) (σ 46) (σ 48) (σ 49) (σ 9) (σ 10) (σ 11) (σ 5) dl ig) (σ 41 0).toNat 0 A0).1.length : Int) (dl3 (runT (cmpf (σ 41 0) (σ 41 1) (σ 42) (σ 43) (σ 44) (σ 45) (σ 46) (σ 48) (σ 49) (σ 9) (σ 10) (σ 11) (σ 5) dl ig) (σ 41 0).toNat 0 A0).1 0 P0) (runT (cmpf (σ 41 0) (σ 41 1) (σ 42) (σ 43) (σ 44) (σ 45) (σ 46) (σ 48) (σ 49) (σ 9) (σ 10) (σ 11) (σ 5) dl ig) (σ 41 0).toNat 0 A0).2) := by
  subst hA0
  subst hP0
  obtain ⟨s1, s2, s3, s4, s5, s6, s7, s8, s9, s10, s11, s12⟩ := hRS
  obtain ⟨⟨t1, t2, t3⟩, t4⟩ := hRT
  have hk : ¬ σ 59 19 = 0 := by omega
  obtain ⟨⟨d1, d2, d3, d4, d5, d6⟩, d7, d8, d9⟩ := id hd
  intro Q hQ
  have e6 : ai_r (σ 59 19) := ⟨by omega, by omega⟩
  refine rb_183_0 ⟨⟨⟨by omega, by omega⟩, ⟨by decide, by decide⟩⟩, cmp_r _ _, fun _ => ⟨e6, fun q => absurd q hk, fun _ => ⟨⟨by decide, by decide⟩, fun _ => ⟨⟨by decide, by decide⟩, ?_⟩, fun q => absurd (by decide) q⟩⟩, fun q => absurd (cmp_ge.mpr hdl.1) q⟩
  have e : ai_set (ai_set (ai_set σ 59 0 0) 59 41 0) 59 42 1 = Y3 (ai_set (ai_set σ 59 0 0) 59 42 1) 0 (σ 88) (σ 89) := by
    rw [set_comm (σ := ai_set σ 59 0 0) (i := 41) (j := 42) (by decide)]
    unfold Y3
    rw [up_e (f := σ 88) (p := 88) (σ := ai_set (ai_set (ai_set σ 59 0 0) 59 42 1) 59 41 0) rfl, up_e (f := σ 89) (p := 89) (σ := ai_set (ai_set (ai_set σ 59 0 0) 59 42 1) 59 41 0) rfl]
  rw [e]
  have h66 : ∀ j, 0 ≤ j → j < 300 → σ 66 j = 0 ∨ σ 66 j = 1 := by
    intro j y1 y2
    have e := t3 (j / 5) (j % 5) (by omega) (by omega) (by omega) (by omega)
    rw [show 5 * (j / 5) + j % 5 = j by omega] at e
    rw [e]
    exact bi_or _
  have eS : (σ 59 20).toNat = (σ 41 0).toNat := by rw [d1]
  refine rf_run (σ := ai_set (ai_set σ 59 0 0) 59 42 1) (f := (cmpf (σ 41 0) (σ 41 1) (σ 42) (σ 43) (σ 44) (σ 45) (σ 46) (σ 48) (σ 49) (σ 9) (σ 10) (σ 11) (σ 5) dl ig)) (show 0 ≤ σ 59 20 ∧ σ 59 20 ≤ 6 by omega) (fun s A x1 x2 => ?_) (fun s A x1 x2 => ?_) Q (by
    show Q (.inl (some (.inl ((runT (cmpf (σ 41 0) (σ 41 1) (σ 42) (σ 43) (σ 44) (σ 45) (σ 46) (σ 48) (σ 49) (σ 9) (σ 10) (σ 11) (σ 5) dl ig) (σ 59 20).toNat 0 (σ 89)).1.length : Int))), (92, [], Y3 (ai_set (ai_set σ 59 0 0) 59 42 1) ((runT (cmpf (σ 41 0) (σ 41 1) (σ 42) (σ 43) (σ 44) (σ 45) (σ 46) (σ 48) (σ 49) (σ 9) (σ 10) (σ 11) (σ 5) dl ig) (σ 59 20).toNat 0 (σ 89)).1.length : Int) (dl3 (runT (cmpf (σ 41 0) (σ 41 1) (σ 42) (σ 43) (σ 44) (σ 45) (σ 46) (σ 48) (σ 49) (σ 9) (σ 10) (σ 11) (σ 5) dl ig) (σ 59 20).toNat 0 (σ 89)).1 0 (σ 88)) (runT (cmpf (σ 41 0) (σ 41 1) (σ 42) (σ 43) (σ 44) (σ 45) (σ 46) (σ 48) (σ 49) (σ 9) (σ 10) (σ 11) (σ 5) dl ig) (σ 59 20).toNat 0 (σ 89)).2))
    rw [eS]
    exact hQ)
  · have x3 : s < σ 41 0 := by
      have x4 : s < σ 59 20 := x2
      omega
    have gw := (d9 s x1 x3).2.1
    have h4w := s8 (σ 42 s)
    have h9 := t4.1 (σ 42 s)
    refine secT_len (by omega) ?_
    split <;> omega
  · have x3 : s < σ 41 0 := by
      have x4 : s < σ 59 20 := x2
      omega
    obtain ⟨gt, gw, gf, gn, gc, gi, gm, gr⟩ := d9 s x1 x3
    have h4w := s8 (σ 42 s)
    obtain ⟨k1, k2, k3, k4, k5⟩ := hgt_sf hd x1 x3
    have z72 : σ 72 s = σ 42 s := gt.1
    have z73 : σ 73 s = σ 43 s := gw.1
    have h12 := t4.1 (σ 42 s)
    have rowF : ∀ y k, σ 74 s ≤ y → y < σ 74 s + hgt (σ 41 0) (σ 41 1) (σ 46) s → 0 ≤ k → k < σ 73 s → σ 76 (5 * y + k) = σ 48 (5 * y + σ 44 (5 * s + k)) ∧ σ 77 (5 * y + k) = bi (tb (σ 49 y) (σ 44 (5 * s + k)) = true) ∧ (0 ≤ σ 49 y ∧ σ 49 y < 32) := by
      intro y k y1 y2 y3 y4
      obtain ⟨f1, f2, f3, f4, f5, f6⟩ := gr y y1 (by omega)
      exact ⟨(f3 k y3 (by omega)).1, (f3 k y3 (by omega)).2, f2⟩
    have g75 : ∀ k, 0 ≤ k → k < σ 73 s → σ 75 (5 * s + k) = σ 44 (5 * s + k) ∧ 0 ≤ σ 44 (5 * s + k) ∧ σ 44 (5 * s + k) < 5 := by
      intro k y1 y2
      have := gc k y1 (by omega)
      exact ⟨this.1, this.2.1, by omega⟩
    have hsec : ∀ D', secT s (hgt (σ 41 0) (σ 41 1) (σ 46) s) (σ 9 (σ 42 s)) (σ 75) D' (σ 43 s).toNat (if σ 9 (σ 42 s) < hgt (σ 41 0) (σ 41 1) (σ 46) s then σ 9 (σ 42 s) else hgt (σ 41 0) (σ 41 1) (σ 46) s).toNat = secT s (hgt (σ 41 0) (σ 41 1) (σ 46) s) (σ 9 (σ 42 s)) (σ 44) D' (σ 43 s).toNat (if σ 9 (σ 42 s) < hgt (σ 41 0) (σ 41 1) (σ 46) s then σ 9 (σ 42 s) else hgt (σ 41 0) (σ 41 1) (σ 46) s).toNat := by
      intro D'
      have hc : ∀ (r : Int) (n : Nat) (k : Int), 0 ≤ k → k + (n : Int) ≤ σ 43 s → catT (fun k => colT s (σ 75) D' r k) n k = catT (fun k => colT s (σ 44) D' r k) n k := by
        intro r n
        induction n with
        | zero => exact fun _ _ _ => rfl
        | succ n ih =>
          intro k y1 y2
          show colT s (σ 75) D' r k ++ catT (fun k => colT s (σ 75) D' r k) n (k + 1) = colT s (σ 44) D' r k ++ catT (fun k => colT s (σ 44) D' r k) n (k + 1)
          rw [ih (k + 1) (by omega) (by omega)]
          unfold colT
          rw [(g75 k y1 (by omega)).1]
      have hr : (fun r => rwT s (σ 75) D' (σ 43 s).toNat r) = (fun r => rwT s (σ 44) D' (σ 43 s).toNat r) := by
        funext r
        exact hc r _ 0 (Int.le_refl 0) (by omega)
      unfold secT
      rw [hr]
    have hh := rf_sec (sc := sc) (σ := ai_set (ai_set σ 59 0 0) 59 42 1) (L := cmpL (σ 45) (σ 49) (σ 48) s) (D := cmpD (σ 49) (σ 48) (σ 11) (σ 10) (σ 5) (cmpB (σ 41 0) (σ 41 1) (σ 45) (σ 46) (σ 48) (σ 49) s A) (σ 42 s) dl ig) (s := s) (h := hgt (σ 41 0) (σ 41 1) (σ 46) s) (cnt := σ 9 (σ 42 s)) (dl := dl) (ig := ig) (A := A) ⟨x1, by omega⟩ (show 0 ≤ σ 72 s ∧ σ 72 s < 5 by omega) (show 0 ≤ σ 73 s ∧ σ 73 s ≤ 5 by omega) (fun k y1 y2 => ?_) (show _ = σ 74 (s + 1) - σ 74 s from k1) (show 0 ≤ σ 74 s from k3) (show _ ∧ σ 74 s + _ ≤ 24 by omega) ?_ h12 (fun y k y1 y2 y3 y4 => ?_) h66 (fun y k y1 y2 y3 y4 => ?_) ?_ ?_ hdl (fun k hk x y x1' x2' y1' y2' => ?_) (fun r k y1 y2 y3 y4 y5 => ?_)
    · have eB : srt (cmpL (σ 45) (σ 49) (σ 48) s) (σ 74 s) (hgt (σ 41 0) (σ 41 1) (σ 46) s).toNat 0 A = cmpB (σ 41 0) (σ 41 1) (σ 45) (σ 46) (σ 48) (σ 49) s A := by
        unfold cmpB
        rw [k2]
      have hh2 := hh
      rw [show (ai_set (ai_set σ 59 0 0) 59 42 1) 73 s = σ 43 s from z73, show (ai_set (ai_set σ 59 0 0) 59 42 1) 75 = σ 75 from rfl, show (ai_set (ai_set σ 59 0 0) 59 42 1) 74 s = σ 74 s from rfl, hsec, eB] at hh2
      exact hh2
    · have := g75 k y1 y2
      show 0 ≤ σ 75 (5 * s + k) ∧ σ 75 (5 * s + k) < 5
      omega
    · show σ 9 (σ 42 s) = σ 64 (σ 72 s)
      rw [t1, z72]
    · have := (rowF y k y1 y2 y3 y4).2.1
      show σ 77 (5 * y + k) = 0 ∨ σ 77 (5 * y + k) = 1
      rw [this]
      exact bi_or _
    · show rg (σ 76 (5 * y + k))
      rw [(rowF y k y1 y2 y3 y4).1]
      exact d7 _
    · show ∀ j, rg (σ 65 j)
      rw [t2]
      exact t4.2.2.2.1
    · show ∀ j, 0 ≤ σ 61 j ∧ σ 61 j ≤ 3
      rw [s4]
      exact s9
    · show cmpL (σ 45) (σ 49) (σ 48) s x y = true ↔ ¬ k = -1 ∧ (((¬ σ 77 (5 * x + k) = 0) ∧ σ 77 (5 * y + k) = 0) ∨ (σ 77 (5 * x + k) = 0 ∧ σ 77 (5 * y + k) = 0 ∧ σ 76 (5 * x + k) < σ 76 (5 * y + k)))
      have hk' : (k = -1 ∧ ∀ j, 0 ≤ j → j < σ 73 s → ¬ σ 75 (5 * s + j) = 0) ∨ (0 ≤ k ∧ k < σ 73 s ∧ σ 75 (5 * s + k) = 0) := hk
      unfold cmpL
      rw [pb_iff]
      have hnm := bit_ne gn (c := 0) ⟨by decide, by decide⟩
      rcases hk' with ⟨e1, e2⟩ | ⟨e1, e2, e3⟩
      · refine ⟨fun q => ?_, fun q => absurd e1 q.1⟩
        obtain ⟨j, j1, j2, j3⟩ := (gm 0 (by decide) (by decide)).mp (hnm.mp q.1)
        exact absurd ((g75 j j1 (by omega)).1.trans j3) (e2 j j1 (by omega))
      · have ec : σ 44 (5 * s + k) = 0 := (g75 k e1 e2).1.symm.trans e3
        have nz : ¬ ai_and (ai_shr (σ 45 s) 0) 1 = 0 := hnm.mpr ((gm 0 (by decide) (by decide)).mpr ⟨k, e1, by omega, ec⟩)
        obtain ⟨a1, a2, a3⟩ := rowF x k x1' x2' e1 e2
        obtain ⟨b1, b2, b3⟩ := rowF y k y1' y2' e1 e2
        rw [ec] at a1 a2 b1 b2
        have ax : ai_and (ai_shr (σ 49 x) 0) 1 = 0 ↔ σ 77 (5 * x + k) = 0 := by
          rw [a2, bi_eq0, bit_eq a3 ⟨by decide, by decide⟩]
          cases tb (σ 49 x) 0 <;> simp
        have ay : ai_and (ai_shr (σ 49 y) 0) 1 = 0 ↔ σ 77 (5 * y + k) = 0 := by
          rw [b2, bi_eq0, bit_eq b3 ⟨by decide, by decide⟩]
          cases tb (σ 49 y) 0 <;> simp
        unfold KLA
        rw [ax, ay, a1, b1, show (x * 5) + 0 = 5 * x + 0 by omega, show (y * 5) + 0 = 5 * y + 0 by omega]
        exact ⟨fun q => ⟨by omega, q.2⟩, fun q => ⟨nz, q.2⟩⟩
    · have hB := srt_rng (p := fun z => σ 74 s ≤ z ∧ z < σ 74 s + hgt (σ 41 0) (σ 41 1) (σ 46) s) (L := cmpL (σ 45) (σ 49) (σ 48) s) (f := σ 74 s) (hgt (σ 41 0) (σ 41 1) (σ 46) s).toNat 0 A (Int.le_refl 0) (fun k k1 k2 => ⟨by omega, by omega⟩) (fun j j1 j2 => absurd j2 (by omega)) r y1 (by omega)
      have eB : srt (cmpL (σ 45) (σ 49) (σ 48) s) (σ 74 s) (hgt (σ 41 0) (σ 41 1) (σ 46) s).toNat 0 A = cmpB (σ 41 0) (σ 41 1) (σ 45) (σ 46) (σ 48) (σ 49) s A := by
        unfold cmpB
        rw [k2]
      show cmpD (σ 49) (σ 48) (σ 11) (σ 10) (σ 5) (cmpB (σ 41 0) (σ 41 1) (σ 45) (σ 46) (σ 48) (σ 49) s A) (σ 42 s) dl ig r (σ 75 (5 * s + k)) = true ↔ ai_and (ai_shr ig (σ 75 (5 * s + k))) 1 = 0 ∧ DN (σ 77 (5 * (srt (cmpL (σ 45) (σ 49) (σ 48) s) (σ 74 s) (hgt (σ 41 0) (σ 41 1) (σ 46) s).toNat 0 A r) + k)) (σ 66 (((60 * (σ 72 s)) + (5 * r)) + (σ 75 (5 * s + k)))) (σ 61 ((5 * (σ 72 s)) + (σ 75 (5 * s + k)))) (σ 76 (5 * (srt (cmpL (σ 45) (σ 49) (σ 48) s) (σ 74 s) (hgt (σ 41 0) (σ 41 1) (σ 46) s).toNat 0 A r) + k)) (σ 65 (((60 * (σ 72 s)) + (5 * r)) + (σ 75 (5 * s + k)))) dl
      rw [eB] at hB ⊢
      generalize cmpB (σ 41 0) (σ 41 1) (σ 45) (σ 46) (σ 48) (σ 49) s A = B at hB ⊢
      have hBr := hB
      obtain ⟨a1, a2, a3⟩ := rowF (B r) k hBr.1 hBr.2 y4 y5
      have g := g75 k y4 y5
      rw [g.1, z72, a1, a2, s4, t2]
      generalize σ 44 (5 * s + k) = c at g a1 a2 ⊢
      have ent := t3 (12 * σ 42 s + r) c (by omega) (by omega) g.2.1 g.2.2
      rw [show 5 * (12 * σ 42 s + r) + c = 60 * σ 42 s + 5 * r + c by omega] at ent
      unfold cmpD
      rw [pb_iff, ent]
      have i1 : ai_and (ai_shr (σ 49 (B r)) c) 1 = 0 ↔ bi (tb (σ 49 (B r)) c = true) = 0 := by
        rw [bi_eq0, bit_eq a3 g.2]
        cases tb (σ 49 (B r)) c <;> simp
      have i2 : ai_and (ai_shr (σ 11 ((σ 42 s * 12) + r)) c) 1 = 0 ↔ bi (tb (σ 11 (12 * σ 42 s + r)) c = true) = 0 := by
        rw [show (σ 42 s * 12) + r = 12 * σ 42 s + r by omega, bi_eq0, bit_eq (t4.2.2.1 _) g.2]
        cases tb (σ 11 (12 * σ 42 s + r)) c <;> simp
      rw [DN_congr i1 i2, show (σ 42 s * 5) + c = 5 * σ 42 s + c by omega, show (B r * 5) + c = 5 * B r + c by omega, show (((σ 42 s * 12) + r) * 5) + c = 60 * σ 42 s + 5 * r + c by omega]
theorem cl_compare_50 {sc : Int × (Int → Int)} {σ : ai_S} {dl ig : Int} (hR : Rel σ) (h4 : σ 0 4 = 50) (hk : ¬ σ 0 6 = 0) (hd : DS (σ 2 0) (σ 4) (σ 5) (σ 50 0) (σ 50 1) (σ 51) (σ 52) (σ 53) (σ 54) (σ 55) (σ 56) (σ 57) (σ 58) (σ 59 20) (σ 59 21) (σ 72) (σ 73) (σ 74) (σ 75) (σ 76) (σ 77)) (hdl : 0 ≤ dl ∧ dl ≤ 9223372036854775807) : fn sc 16 [some (.inr (.inr 0)), some (.inr (.inl dl)), none, some (.inl ig)] σ (some (.inl ((runT (cmpf (σ 50 0) (σ 50 1) (σ 51) (σ 52) (σ 53) (σ 54) (σ 55) (σ 57) (σ 58) (σ 9) (σ 10) (σ 11) (σ 5) dl ig) (σ 50 0).toNat 0 (σ 38)).1.length : Int))) (X3 σ ((runT (cmpf (σ 50 0) (σ 50 1) (σ 51) (σ 52) (σ 53) (σ 54) (σ 55) (σ 57) (σ 58) (σ 9) (σ 10) (σ 11) (σ 5) dl ig) (σ 50 0).toNat 0 (σ 38)).1.length : Int) (dl3 (runT (cmpf (σ 50 0) (σ 50 1) (σ 51) (σ 52) (σ 53) (σ 54) (σ 55) (σ 57) (σ 58) (σ 9) (σ 10) (σ 11) (σ 5) dl ig) (σ 50 0).toNat 0 (σ 38)).1 0 (σ 37)) (runT (cmpf (σ 50 0) (σ 50 1) (σ 51) (σ 52) (σ 53) (σ 54) (σ 55) (σ 57) (σ 58) (σ 9) (σ 10) (σ 11) (σ 5) dl ig) (σ 50 0).toNat 0 (σ 38)).2) := by
  obtain ⟨⟨s1, s2, s3, s4, s5, s6, s7, s8, s9, s10, s11, s12⟩, ⟨⟨t1, t2, t3⟩, t4⟩, hL, n0, n1, n2, hX, hF, ⟨q1, q2, q3, q4⟩, hC, hW⟩ := hR
  obtain ⟨⟨d1, d2, d3, d4, d5, d6⟩, d7, d8, d9⟩ := id hd
  intro Q hQ
  have e4 : (σ 0 4).toNat = 50 := by
    rw [h4]
    rfl
  have e6 : ai_r (σ 0 6) := ⟨by omega, by omega⟩
  refine rb_16_0 ⟨⟨⟨by omega, by omega⟩, ⟨by decide, by decide⟩⟩, cmp_r _ _, fun _ => ⟨e6, fun _ => ?_, fun q => absurd hk q⟩, fun q => absurd (cmp_ge.mpr hdl.1) q⟩
  rw [e4]
  have e : up (up σ 37 (σ 37)) 38 (σ 38) = σ := by
    rw [up_id (p := 37)]
    exact up_id
  have hr := cf_run_50 (sc := sc) (σ := σ) (f := (cmpf (σ 50 0) (σ 50 1) (σ 51) (σ 52) (σ 53) (σ 54) (σ 55) (σ 57) (σ 58) (σ 9) (σ 10) (σ 11) (σ 5) dl ig)) (dl := dl) (ig := ig) (A := σ 38) (P := σ 37) d3 (fun s A x1 x2 => ?_) (fun s A x1 x2 => ?_)
  · rw [e] at hr
    exact rb_16_23_50 (fn_ret hr (rb_16_26_50 hQ))
  · have gw := (d9 s x1 x2).2.1
    have gt := (d9 s x1 x2).1
    have h4w := s8 (σ 51 s)
    have h9 := t4.1 (σ 51 s)
    refine secT_len (by omega) ?_
    split <;> omega
  · have gw := (d9 s x1 x2).2.1
    have gt := (d9 s x1 x2).1
    have gc := (d9 s x1 x2).2.2.2.2.1
    have h4w := s8 (σ 51 s)
    obtain ⟨k1, k2, k3, k4, k5⟩ := hgt_sf hd x1 x2
    exact cf_sec_50 (L := cmpL (σ 54) (σ 58) (σ 57) s) (D := cmpD (σ 58) (σ 57) (σ 11) (σ 10) (σ 5) (cmpB (σ 50 0) (σ 50 1) (σ 54) (σ 55) (σ 57) (σ 58) s A) (σ 51 s) dl ig) (h := hgt (σ 50 0) (σ 50 1) (σ 55) s) (cnt := σ 9 (σ 51 s)) ⟨x1, x2⟩ d3.2 ⟨by omega, by omega⟩ ⟨by omega, by omega⟩ (fun k y1 y2 => ⟨(gc k y1 y2).2.1, by have := (gc k y1 y2).2.2; omega⟩) rfl (by omega) ⟨by omega, by omega⟩ rfl (t4.1 _) d7 t4.2.2.2.1 s9 hdl (fun x y _ _ _ _ => pb_iff) (fun e x y => pb_no (fun q => q.1 e)) (fun r c _ _ _ _ _ => pb_iff)
theorem rf_compare_50 {sc : Int × (Int → Int)} {σ : ai_S} {dl ig : Int} {A0 P0 : Int → Int} (hA0 : σ 89 = A0) (hP0 : σ 88 = P0) (hRS : RSch (σ 2 0) (σ 59 1) (σ 4) (σ 60) (σ 5) (σ 61) (σ 7) (σ 62) (σ 6) (σ 63) (σ 3) (σ 84)) (hRT : EqS (σ 9) (σ 10) (σ 11) (σ 64) (σ 65) (σ 66) ∧ GS (σ 2 0) (σ 4) (σ 5) (σ 6) (σ 9) (σ 10) (σ 11)) (hk1 : σ 59 19 = 1) (hd : DS (σ 2 0) (σ 4) (σ 5) (σ 50 0) (σ 50 1) (σ 51) (σ 52) (σ 53) (σ 54) (σ 55) (σ 56) (σ 57) (σ 58) (σ 59 20) (σ 59 21) (σ 72) (σ 73) (σ 74) (σ 75) (σ 76) (σ 77)) (hdl : 0 ≤ dl ∧ dl ≤ 9223372036854775807) : fn sc 183 [some (.inr (.inr 59)), some (.inr (.inl dl)), none, some (.inl ig), none] σ (some (.inl ((runT (cmpf (σ 50 0) (σ 50 1) (σ 51) (σ 52) (σ 53) (σ 54) (σ 55) (σ 57) (σ 58) (σ 9) (σ 10) (σ 11) (σ 5) dl ig) (σ 50 0).toNat 0 A0).1.length : Int))) (Y3 (ai_set (ai_set σ 59 0 0) 59 42 1) ((runT (cmpf (σ 50 0) (σ 50 1) (σ 51) (σ 52) (σ 53) (σ 54) (σ 55) (σ 57) (σ 58) (σ 9) (σ 10) (σ 11) (σ 5) dl ig) (σ 50 0).toNat 0 A0).1.length : Int) (dl3 (runT (cmpf (σ 50 0) (σ 50 1) (σ 51) (σ 52) (σ 53) (σ 54) (σ 55) (σ 57) (σ 58) (σ 9) (σ 10) (σ 11) (σ 5) dl ig) (σ 50 0).toNat 0 A0).1 0 P0) (runT (cmpf (σ 50 0) (σ 50 1) (σ 51) (σ 52) (σ 53) (σ 54) (σ 55) (σ 57) (σ 58) (σ 9) (σ 10) (σ 11) (σ 5) dl ig) (σ 50 0).toNat 0 A0).2) := by
  subst hA0
  subst hP0
  obtain ⟨s1, s2, s3, s4, s5, s6, s7, s8, s9, s10, s11, s12⟩ := hRS
  obtain ⟨⟨t1, t2, t3⟩, t4⟩ := hRT
  have hk : ¬ σ 59 19 = 0 := by omega
  obtain ⟨⟨d1, d2, d3, d4, d5, d6⟩, d7, d8, d9⟩ := id hd
  intro Q hQ
  have e6 : ai_r (σ 59 19) := ⟨by omega, by omega⟩
  refine rb_183_0 ⟨⟨⟨by omega, by omega⟩, ⟨by decide, by decide⟩⟩, cmp_r _ _, fun _ => ⟨e6, fun q => absurd q hk, fun _ => ⟨⟨by decide, by decide⟩, fun _ => ⟨⟨by decide, by decide⟩, ?_⟩, fun q => absurd (by decide) q⟩⟩, fun q => absurd (cmp_ge.mpr hdl.1) q⟩
  have e : ai_set (ai_set (ai_set σ 59 0 0) 59 41 0) 59 42 1 = Y3 (ai_set (ai_set σ 59 0 0) 59 42 1) 0 (σ 88) (σ 89) := by
    rw [set_comm (σ := ai_set σ 59 0 0) (i := 41) (j := 42) (by decide)]
    unfold Y3
    rw [up_e (f := σ 88) (p := 88) (σ := ai_set (ai_set (ai_set σ 59 0 0) 59 42 1) 59 41 0) rfl, up_e (f := σ 89) (p := 89) (σ := ai_set (ai_set (ai_set σ 59 0 0) 59 42 1) 59 41 0) rfl]
  rw [e]
  have h66 : ∀ j, 0 ≤ j → j < 300 → σ 66 j = 0 ∨ σ 66 j = 1 := by
    intro j y1 y2
    have e := t3 (j / 5) (j % 5) (by omega) (by omega) (by omega) (by omega)
    rw [show 5 * (j / 5) + j % 5 = j by omega] at e
    rw [e]
    exact bi_or _
  have eS : (σ 59 20).toNat = (σ 50 0).toNat := by rw [d1]
  refine rf_run (σ := ai_set (ai_set σ 59 0 0) 59 42 1) (f := (cmpf (σ 50 0) (σ 50 1) (σ 51) (σ 52) (σ 53) (σ 54) (σ 55) (σ 57) (σ 58) (σ 9) (σ 10) (σ 11) (σ 5) dl ig)) (show 0 ≤ σ 59 20 ∧ σ 59 20 ≤ 6 by omega) (fun s A x1 x2 => ?_) (fun s A x1 x2 => ?_) Q (by
    show Q (.inl (some (.inl ((runT (cmpf (σ 50 0) (σ 50 1) (σ 51) (σ 52) (σ 53) (σ 54) (σ 55) (σ 57) (σ 58) (σ 9) (σ 10) (σ 11) (σ 5) dl ig) (σ 59 20).toNat 0 (σ 89)).1.length : Int))), (92, [], Y3 (ai_set (ai_set σ 59 0 0) 59 42 1) ((runT (cmpf (σ 50 0) (σ 50 1) (σ 51) (σ 52) (σ 53) (σ 54) (σ 55) (σ 57) (σ 58) (σ 9) (σ 10) (σ 11) (σ 5) dl ig) (σ 59 20).toNat 0 (σ 89)).1.length : Int) (dl3 (runT (cmpf (σ 50 0) (σ 50 1) (σ 51) (σ 52) (σ 53) (σ 54) (σ 55) (σ 57) (σ 58) (σ 9) (σ 10) (σ 11) (σ 5) dl ig) (σ 59 20).toNat 0 (σ 89)).1 0 (σ 88)) (runT (cmpf (σ 50 0) (σ 50 1) (σ 51) (σ 52) (σ 53) (σ 54) (σ 55) (σ 57) (σ 58) (σ 9) (σ 10) (σ 11) (σ 5) dl ig) (σ 59 20).toNat 0 (σ 89)).2))
    rw [eS]
    exact hQ)
  · have x3 : s < σ 50 0 := by
      have x4 : s < σ 59 20 := x2
      omega
    have gw := (d9 s x1 x3).2.1
    have h4w := s8 (σ 51 s)
    have h9 := t4.1 (σ 51 s)
    refine secT_len (by omega) ?_
    split <;> omega
  · have x3 : s < σ 50 0 := by
      have x4 : s < σ 59 20 := x2
      omega
    obtain ⟨gt, gw, gf, gn, gc, gi, gm, gr⟩ := d9 s x1 x3
    have h4w := s8 (σ 51 s)
    obtain ⟨k1, k2, k3, k4, k5⟩ := hgt_sf hd x1 x3
    have z72 : σ 72 s = σ 51 s := gt.1
    have z73 : σ 73 s = σ 52 s := gw.1
    have h12 := t4.1 (σ 51 s)
    have rowF : ∀ y k, σ 74 s ≤ y → y < σ 74 s + hgt (σ 50 0) (σ 50 1) (σ 55) s → 0 ≤ k → k < σ 73 s → σ 76 (5 * y + k) = σ 57 (5 * y + σ 53 (5 * s + k)) ∧ σ 77 (5 * y + k) = bi (tb (σ 58 y) (σ 53 (5 * s + k)) = true) ∧ (0 ≤ σ 58 y ∧ σ 58 y < 32) := by
      intro y k y1 y2 y3 y4
      obtain ⟨f1, f2, f3, f4, f5, f6⟩ := gr y y1 (by omega)
      exact ⟨(f3 k y3 (by omega)).1, (f3 k y3 (by omega)).2, f2⟩
    have g75 : ∀ k, 0 ≤ k → k < σ 73 s → σ 75 (5 * s + k) = σ 53 (5 * s + k) ∧ 0 ≤ σ 53 (5 * s + k) ∧ σ 53 (5 * s + k) < 5 := by
      intro k y1 y2
      have := gc k y1 (by omega)
      exact ⟨this.1, this.2.1, by omega⟩
    have hsec : ∀ D', secT s (hgt (σ 50 0) (σ 50 1) (σ 55) s) (σ 9 (σ 51 s)) (σ 75) D' (σ 52 s).toNat (if σ 9 (σ 51 s) < hgt (σ 50 0) (σ 50 1) (σ 55) s then σ 9 (σ 51 s) else hgt (σ 50 0) (σ 50 1) (σ 55) s).toNat = secT s (hgt (σ 50 0) (σ 50 1) (σ 55) s) (σ 9 (σ 51 s)) (σ 53) D' (σ 52 s).toNat (if σ 9 (σ 51 s) < hgt (σ 50 0) (σ 50 1) (σ 55) s then σ 9 (σ 51 s) else hgt (σ 50 0) (σ 50 1) (σ 55) s).toNat := by
      intro D'
      have hc : ∀ (r : Int) (n : Nat) (k : Int), 0 ≤ k → k + (n : Int) ≤ σ 52 s → catT (fun k => colT s (σ 75) D' r k) n k = catT (fun k => colT s (σ 53) D' r k) n k := by
        intro r n
        induction n with
        | zero => exact fun _ _ _ => rfl
        | succ n ih =>
          intro k y1 y2
          show colT s (σ 75) D' r k ++ catT (fun k => colT s (σ 75) D' r k) n (k + 1) = colT s (σ 53) D' r k ++ catT (fun k => colT s (σ 53) D' r k) n (k + 1)
          rw [ih (k + 1) (by omega) (by omega)]
          unfold colT
          rw [(g75 k y1 (by omega)).1]
      have hr : (fun r => rwT s (σ 75) D' (σ 52 s).toNat r) = (fun r => rwT s (σ 53) D' (σ 52 s).toNat r) := by
        funext r
        exact hc r _ 0 (Int.le_refl 0) (by omega)
      unfold secT
      rw [hr]
    have hh := rf_sec (sc := sc) (σ := ai_set (ai_set σ 59 0 0) 59 42 1) (L := cmpL (σ 54) (σ 58) (σ 57) s) (D := cmpD (σ 58) (σ 57) (σ 11) (σ 10) (σ 5) (cmpB (σ 50 0) (σ 50 1) (σ 54) (σ 55) (σ 57) (σ 58) s A) (σ 51 s) dl ig) (s := s) (h := hgt (σ 50 0) (σ 50 1) (σ 55) s) (cnt := σ 9 (σ 51 s)) (dl := dl) (ig := ig) (A := A) ⟨x1, by omega⟩ (show 0 ≤ σ 72 s ∧ σ 72 s < 5 by omega) (show 0 ≤ σ 73 s ∧ σ 73 s ≤ 5 by omega) (fun k y1 y2 => ?_) (show _ = σ 74 (s + 1) - σ 74 s from k1) (show 0 ≤ σ 74 s from k3) (show _ ∧ σ 74 s + _ ≤ 24 by omega) ?_ h12 (fun y k y1 y2 y3 y4 => ?_) h66 (fun y k y1 y2 y3 y4 => ?_) ?_ ?_ hdl (fun k hk x y x1' x2' y1' y2' => ?_) (fun r k y1 y2 y3 y4 y5 => ?_)
    · have eB : srt (cmpL (σ 54) (σ 58) (σ 57) s) (σ 74 s) (hgt (σ 50 0) (σ 50 1) (σ 55) s).toNat 0 A = cmpB (σ 50 0) (σ 50 1) (σ 54) (σ 55) (σ 57) (σ 58) s A := by
        unfold cmpB
        rw [k2]
      have hh2 := hh
      rw [show (ai_set (ai_set σ 59 0 0) 59 42 1) 73 s = σ 52 s from z73, show (ai_set (ai_set σ 59 0 0) 59 42 1) 75 = σ 75 from rfl, show (ai_set (ai_set σ 59 0 0) 59 42 1) 74 s = σ 74 s from rfl, hsec, eB] at hh2
      exact hh2
    · have := g75 k y1 y2
      show 0 ≤ σ 75 (5 * s + k) ∧ σ 75 (5 * s + k) < 5
      omega
    · show σ 9 (σ 51 s) = σ 64 (σ 72 s)
      rw [t1, z72]
    · have := (rowF y k y1 y2 y3 y4).2.1
      show σ 77 (5 * y + k) = 0 ∨ σ 77 (5 * y + k) = 1
      rw [this]
      exact bi_or _
    · show rg (σ 76 (5 * y + k))
      rw [(rowF y k y1 y2 y3 y4).1]
      exact d7 _
    · show ∀ j, rg (σ 65 j)
      rw [t2]
      exact t4.2.2.2.1
    · show ∀ j, 0 ≤ σ 61 j ∧ σ 61 j ≤ 3
      rw [s4]
      exact s9
    · show cmpL (σ 54) (σ 58) (σ 57) s x y = true ↔ ¬ k = -1 ∧ (((¬ σ 77 (5 * x + k) = 0) ∧ σ 77 (5 * y + k) = 0) ∨ (σ 77 (5 * x + k) = 0 ∧ σ 77 (5 * y + k) = 0 ∧ σ 76 (5 * x + k) < σ 76 (5 * y + k)))
      have hk' : (k = -1 ∧ ∀ j, 0 ≤ j → j < σ 73 s → ¬ σ 75 (5 * s + j) = 0) ∨ (0 ≤ k ∧ k < σ 73 s ∧ σ 75 (5 * s + k) = 0) := hk
      unfold cmpL
      rw [pb_iff]
      have hnm := bit_ne gn (c := 0) ⟨by decide, by decide⟩
      rcases hk' with ⟨e1, e2⟩ | ⟨e1, e2, e3⟩
      · refine ⟨fun q => ?_, fun q => absurd e1 q.1⟩
        obtain ⟨j, j1, j2, j3⟩ := (gm 0 (by decide) (by decide)).mp (hnm.mp q.1)
        exact absurd ((g75 j j1 (by omega)).1.trans j3) (e2 j j1 (by omega))
      · have ec : σ 53 (5 * s + k) = 0 := (g75 k e1 e2).1.symm.trans e3
        have nz : ¬ ai_and (ai_shr (σ 54 s) 0) 1 = 0 := hnm.mpr ((gm 0 (by decide) (by decide)).mpr ⟨k, e1, by omega, ec⟩)
        obtain ⟨a1, a2, a3⟩ := rowF x k x1' x2' e1 e2
        obtain ⟨b1, b2, b3⟩ := rowF y k y1' y2' e1 e2
        rw [ec] at a1 a2 b1 b2
        have ax : ai_and (ai_shr (σ 58 x) 0) 1 = 0 ↔ σ 77 (5 * x + k) = 0 := by
          rw [a2, bi_eq0, bit_eq a3 ⟨by decide, by decide⟩]
          cases tb (σ 58 x) 0 <;> simp
        have ay : ai_and (ai_shr (σ 58 y) 0) 1 = 0 ↔ σ 77 (5 * y + k) = 0 := by
          rw [b2, bi_eq0, bit_eq b3 ⟨by decide, by decide⟩]
          cases tb (σ 58 y) 0 <;> simp
        unfold KLA
        rw [ax, ay, a1, b1, show (x * 5) + 0 = 5 * x + 0 by omega, show (y * 5) + 0 = 5 * y + 0 by omega]
        exact ⟨fun q => ⟨by omega, q.2⟩, fun q => ⟨nz, q.2⟩⟩
    · have hB := srt_rng (p := fun z => σ 74 s ≤ z ∧ z < σ 74 s + hgt (σ 50 0) (σ 50 1) (σ 55) s) (L := cmpL (σ 54) (σ 58) (σ 57) s) (f := σ 74 s) (hgt (σ 50 0) (σ 50 1) (σ 55) s).toNat 0 A (Int.le_refl 0) (fun k k1 k2 => ⟨by omega, by omega⟩) (fun j j1 j2 => absurd j2 (by omega)) r y1 (by omega)
      have eB : srt (cmpL (σ 54) (σ 58) (σ 57) s) (σ 74 s) (hgt (σ 50 0) (σ 50 1) (σ 55) s).toNat 0 A = cmpB (σ 50 0) (σ 50 1) (σ 54) (σ 55) (σ 57) (σ 58) s A := by
        unfold cmpB
        rw [k2]
      show cmpD (σ 58) (σ 57) (σ 11) (σ 10) (σ 5) (cmpB (σ 50 0) (σ 50 1) (σ 54) (σ 55) (σ 57) (σ 58) s A) (σ 51 s) dl ig r (σ 75 (5 * s + k)) = true ↔ ai_and (ai_shr ig (σ 75 (5 * s + k))) 1 = 0 ∧ DN (σ 77 (5 * (srt (cmpL (σ 54) (σ 58) (σ 57) s) (σ 74 s) (hgt (σ 50 0) (σ 50 1) (σ 55) s).toNat 0 A r) + k)) (σ 66 (((60 * (σ 72 s)) + (5 * r)) + (σ 75 (5 * s + k)))) (σ 61 ((5 * (σ 72 s)) + (σ 75 (5 * s + k)))) (σ 76 (5 * (srt (cmpL (σ 54) (σ 58) (σ 57) s) (σ 74 s) (hgt (σ 50 0) (σ 50 1) (σ 55) s).toNat 0 A r) + k)) (σ 65 (((60 * (σ 72 s)) + (5 * r)) + (σ 75 (5 * s + k)))) dl
      rw [eB] at hB ⊢
      generalize cmpB (σ 50 0) (σ 50 1) (σ 54) (σ 55) (σ 57) (σ 58) s A = B at hB ⊢
      have hBr := hB
      obtain ⟨a1, a2, a3⟩ := rowF (B r) k hBr.1 hBr.2 y4 y5
      have g := g75 k y4 y5
      rw [g.1, z72, a1, a2, s4, t2]
      generalize σ 53 (5 * s + k) = c at g a1 a2 ⊢
      have ent := t3 (12 * σ 51 s + r) c (by omega) (by omega) g.2.1 g.2.2
      rw [show 5 * (12 * σ 51 s + r) + c = 60 * σ 51 s + 5 * r + c by omega] at ent
      unfold cmpD
      rw [pb_iff, ent]
      have i1 : ai_and (ai_shr (σ 58 (B r)) c) 1 = 0 ↔ bi (tb (σ 58 (B r)) c = true) = 0 := by
        rw [bi_eq0, bit_eq a3 g.2]
        cases tb (σ 58 (B r)) c <;> simp
      have i2 : ai_and (ai_shr (σ 11 ((σ 51 s * 12) + r)) c) 1 = 0 ↔ bi (tb (σ 11 (12 * σ 51 s + r)) c = true) = 0 := by
        rw [show (σ 51 s * 12) + r = 12 * σ 51 s + r by omega, bi_eq0, bit_eq (t4.2.2.1 _) g.2]
        cases tb (σ 11 (12 * σ 51 s + r)) c <;> simp
      rw [DN_congr i1 i2, show (σ 51 s * 5) + c = 5 * σ 51 s + c by omega, show (B r * 5) + c = 5 * B r + c by omega, show (((σ 51 s * 12) + r) * 5) + c = 60 * σ 51 s + 5 * r + c by omega]
theorem cl_compare_1 {sc : Int × (Int → Int)} {σ : ai_S} {dl ig : Int} (h8 : ai_r8 dl) (hg : dl < 0) : th sc 16 [some (.inr (.inr 0)), some (.inr (.inl dl)), none, some (.inl ig)] σ 1 σ := by
  intro Q hQ
  exact rb_16_0 ⟨⟨h8, ⟨by decide, by decide⟩⟩, cmp_r _ _, fun q => absurd (cmp_ge.mp q) (by omega), fun _ => hQ⟩
theorem cl_compare_0 {sc : Int × (Int → Int)} {σ : ai_S} {dl ig : Int} (h8 : ai_r8 dl) (hg : ¬ dl < 0) (hk : σ 0 6 = 0) : th sc 16 [some (.inr (.inr 0)), some (.inr (.inl dl)), none, some (.inl ig)] σ 0 σ := by
  intro Q hQ
  exact rb_16_0 ⟨⟨h8, ⟨by decide, by decide⟩⟩, cmp_r _ _, fun _ => ⟨⟨by omega, by omega⟩, fun q => absurd hk q, fun _ => hQ⟩, fun q => absurd (cmp_ge.mpr (by omega)) q⟩
theorem rf_compare_1 {sc : Int × (Int → Int)} {σ : ai_S} {dl ig : Int} (h8 : ai_r8 dl) (hg : dl < 0) : fn sc 183 [some (.inr (.inr 59)), some (.inr (.inl dl)), none, some (.inl ig), none] σ (some (.inl 0)) (ai_set σ 59 0 1) := by
  intro Q hQ
  exact rb_183_0 ⟨⟨h8, ⟨by decide, by decide⟩⟩, cmp_r _ _, fun q => absurd (cmp_ge.mp q) (by omega), fun _ => ⟨⟨by decide, by decide⟩, fun q => absurd q (by decide), fun _ => hQ⟩⟩
theorem rf_compare_2 {sc : Int × (Int → Int)} {σ : ai_S} {dl ig : Int} (h8 : ai_r8 dl) (hg : ¬ dl < 0) (hk : σ 59 19 = 0) : fn sc 183 [some (.inr (.inr 59)), some (.inr (.inl dl)), none, some (.inl ig), none] σ (some (.inl 0)) (ai_set σ 59 0 2) := by
  intro Q hQ
  exact rb_183_0 ⟨⟨h8, ⟨by decide, by decide⟩⟩, cmp_r _ _, fun _ => ⟨⟨by omega, by omega⟩, fun _ => ⟨⟨by decide, by decide⟩, fun q => absurd q (by decide), fun _ => hQ⟩, fun q => absurd hk q⟩, fun q => absurd (cmp_ge.mpr (by omega)) q⟩
theorem tn_compare {sc : Int × (Int → Int)} {σ : ai_S} (hR : Rel σ) {dl ig : Int} (h8 : ai_r8 dl) : ∃ k x σ1 σ2, fn sc 202 [some (.inr (.inr 0)), some (.inr (.inl dl)), none, some (.inl ig), some (.inr (.inr 91)), none] σ (some (.inl k)) σ1 ∧ fn sc 183 [some (.inr (.inr 59)), some (.inr (.inl dl)), none, some (.inl ig), none] σ1 (some (.inl x)) σ2 ∧ σ2 59 0 = k ∧ (0 ≤ k ∧ k ≤ 3) ∧ ai_r x ∧ (k = 0 → σ2 91 0 = x) ∧ Rel σ2 := by
  obtain ⟨⟨s1, s2, s3, s4, s5, s6, s7, s8, s9, s10, s11, s12⟩, ⟨⟨t1, t2, t3⟩, t4⟩, hL, n0, n1, n2, hX, hF, ⟨q1, q2, q3, q4⟩, ⟨c1, c2, c3, c4, c5, c6⟩, hW⟩ := id hR
  by_cases hg : dl < 0
  · exact ⟨1, _, _, _, wx_202_1 (cl_compare_1 h8 hg), rf_compare_1 h8 hg, rfl, ⟨by decide, by decide⟩, ⟨by decide, by decide⟩, fun h => absurd h (by decide), rel_code hR⟩
  by_cases hk : σ 0 6 = 0
  · exact ⟨2, _, _, _, wx_202_0 (cl_compare_0 h8 hg hk), rf_compare_2 h8 hg (q2.trans hk), rfl, ⟨by decide, by decide⟩, ⟨by decide, by decide⟩, fun h => absurd h (by decide), rel_code hR⟩
  have hk1 : σ 0 6 = 1 := by omega
  have hdl : 0 ≤ dl ∧ dl ≤ 9223372036854775807 := ⟨by omega, h8.2⟩
  have hk9 : ¬ σ 59 19 = 0 := by omega
  rcases q1 with ⟨e4, e5⟩ | ⟨e4, e5⟩
  · have hd := (q4 hk1).1 e4
    obtain ⟨⟨d1, d2, d3, d4, d5, d6⟩, d7, d8, d9⟩ := id hd
    have hcl := cl_compare_41 (sc := sc) (ig := ig) hR e4 hk hd hdl
    have hlen : (runT (cmpf (σ 41 0) (σ 41 1) (σ 42) (σ 43) (σ 44) (σ 45) (σ 46) (σ 48) (σ 49) (σ 9) (σ 10) (σ 11) (σ 5) dl ig) (σ 41 0).toNat 0 (σ 38)).1.length ≤ 366 := by
      have h1 : ∀ (n : Nat) (s : Int) (A : Int → Int), 0 ≤ s → s + (n : Int) ≤ σ 41 0 → (runT (cmpf (σ 41 0) (σ 41 1) (σ 42) (σ 43) (σ 44) (σ 45) (σ 46) (σ 48) (σ 49) (σ 9) (σ 10) (σ 11) (σ 5) dl ig) n s A).1.length ≤ n * 61 := by
        intro n
        induction n with
        | zero => exact fun _ _ _ _ => Nat.zero_le _
        | succ n ih =>
          intro s A x1 x2
          have x3 : s < σ 41 0 := by omega
          have gw := (d9 s x1 x3).2.1
          have h4w := s8 (σ 42 s)
          have h9 := t4.1 (σ 42 s)
          have hl : ((cmpf (σ 41 0) (σ 41 1) (σ 42) (σ 43) (σ 44) (σ 45) (σ 46) (σ 48) (σ 49) (σ 9) (σ 10) (σ 11) (σ 5) dl ig) s A).1.length ≤ 61 := by
            refine secT_len (by omega) ?_
            split <;> omega
          have h2 := ih (s + 1) ((cmpf (σ 41 0) (σ 41 1) (σ 42) (σ 43) (σ 44) (σ 45) (σ 46) (σ 48) (σ 49) (σ 9) (σ 10) (σ 11) (σ 5) dl ig) s A).2 (by omega) (by omega)
          show (((cmpf (σ 41 0) (σ 41 1) (σ 42) (σ 43) (σ 44) (σ 45) (σ 46) (σ 48) (σ 49) (σ 9) (σ 10) (σ 11) (σ 5) dl ig) s A).1 ++ (runT (cmpf (σ 41 0) (σ 41 1) (σ 42) (σ 43) (σ 44) (σ 45) (σ 46) (σ 48) (σ 49) (σ 9) (σ 10) (σ 11) (σ 5) dl ig) n (s + 1) ((cmpf (σ 41 0) (σ 41 1) (σ 42) (σ 43) (σ 44) (σ 45) (σ 46) (σ 48) (σ 49) (σ 9) (σ 10) (σ 11) (σ 5) dl ig) s A).2).1).length ≤ (n + 1) * 61
          rw [List.length_append]
          omega
      have := h1 (σ 41 0).toNat 0 (σ 38) (Int.le_refl 0) (by omega)
      omega
    have hok := runT_ok (f := (cmpf (σ 41 0) (σ 41 1) (σ 42) (σ 43) (σ 44) (σ 45) (σ 46) (σ 48) (σ 49) (σ 9) (σ 10) (σ 11) (σ 5) dl ig)) (S := σ 41 0) (fun s A x1 x2 => secT_ok ⟨x1, by omega⟩ (by
      have h9 := t4.1 (σ 42 s)
      split <;> omega) (fun k y1 y2 => by
      have gw := (d9 s x1 x2).2.1
      have gc := (d9 s x1 x2).2.2.2.2.1 k y1 (by omega)
      have h4w := s8 (σ 42 s)
      omega)) (σ 41 0).toNat 0 (σ 38) (Int.le_refl 0) (by omega)
    have hall := runT_all (f := (cmpf (σ 41 0) (σ 41 1) (σ 42) (σ 43) (σ 44) (σ 45) (σ 46) (σ 48) (σ 49) (σ 9) (σ 10) (σ 11) (σ 5) dl ig)) (S := σ 41 0) (p := fun z => 0 ≤ z ∧ z < 24) (fun s A x1 x2 hA => by
      obtain ⟨k1, k2, k3, k4, k5⟩ := hgt_sf hd x1 x2
      refine srt_all (p := fun z => 0 ≤ z ∧ z < 24) _ _ _ (fun k y1 y2 => ⟨?_, ?_⟩) hA <;> first | omega | (dsimp only; omega)) (σ 41 0).toNat 0 (σ 38) (Int.le_refl 0) (by omega) c6
    refine ⟨0, _, _, _, wv_202 hcl ⟨by omega, by omega⟩, rf_compare_41 (σ := ai_set (X3 σ ((runT (cmpf (σ 41 0) (σ 41 1) (σ 42) (σ 43) (σ 44) (σ 45) (σ 46) (σ 48) (σ 49) (σ 9) (σ 10) (σ 11) (σ 5) dl ig) (σ 41 0).toNat 0 (σ 38)).1.length : Int) (dl3 (runT (cmpf (σ 41 0) (σ 41 1) (σ 42) (σ 43) (σ 44) (σ 45) (σ 46) (σ 48) (σ 49) (σ 9) (σ 10) (σ 11) (σ 5) dl ig) (σ 41 0).toNat 0 (σ 38)).1 0 (σ 37)) (runT (cmpf (σ 41 0) (σ 41 1) (σ 42) (σ 43) (σ 44) (σ 45) (σ 46) (σ 48) (σ 49) (σ 9) (σ 10) (σ 11) (σ 5) dl ig) (σ 41 0).toNat 0 (σ 38)).2) 91 0 ((runT (cmpf (σ 41 0) (σ 41 1) (σ 42) (σ 43) (σ 44) (σ 45) (σ 46) (σ 48) (σ 49) (σ 9) (σ 10) (σ 11) (σ 5) dl ig) (σ 41 0).toNat 0 (σ 38)).1.length : Int)) (A0 := σ 38) (P0 := σ 37) c5 c3 ⟨s1, s2, s3, s4, s5, s6, s7, s8, s9, s10, s11, s12⟩ ⟨⟨t1, t2, t3⟩, t4⟩ (q2.trans hk1) hd hdl, rfl, ⟨by decide, by decide⟩, (show ai_r ((runT (cmpf (σ 41 0) (σ 41 1) (σ 42) (σ 43) (σ 44) (σ 45) (σ 46) (σ 48) (σ 49) (σ 9) (σ 10) (σ 11) (σ 5) dl ig) (σ 41 0).toNat 0 (σ 38)).1.length : Int) from ⟨by omega, by omega⟩), fun _ => rfl, ?_⟩
    exact ⟨⟨s1, s2, s3, s4, s5, s6, s7, s8, s9, s10, s11, s12⟩, ⟨⟨t1, t2, t3⟩, t4⟩, hL, n0, n1, n2, hX, hF, ⟨Or.inl ⟨e4, e5⟩, q2, q3, q4⟩, ⟨⟨(show 0 ≤ ((runT (cmpf (σ 41 0) (σ 41 1) (σ 42) (σ 43) (σ 44) (σ 45) (σ 46) (σ 48) (σ 49) (σ 9) (σ 10) (σ 11) (σ 5) dl ig) (σ 41 0).toNat 0 (σ 38)).1.length : Int) by omega), (show ((runT (cmpf (σ 41 0) (σ 41 1) (σ 42) (σ 43) (σ 44) (σ 45) (σ 46) (σ 48) (σ 49) (σ 9) (σ 10) (σ 11) (σ 5) dl ig) (σ 41 0).toNat 0 (σ 38)).1.length : Int) ≤ 1000 by omega)⟩, Or.inr ⟨rfl, rfl⟩, rfl, dl3_rng hok c4, rfl, hall⟩, hW⟩
  · have hd := (q4 hk1).2 e4
    obtain ⟨⟨d1, d2, d3, d4, d5, d6⟩, d7, d8, d9⟩ := id hd
    have hcl := cl_compare_50 (sc := sc) (ig := ig) hR e4 hk hd hdl
    have hlen : (runT (cmpf (σ 50 0) (σ 50 1) (σ 51) (σ 52) (σ 53) (σ 54) (σ 55) (σ 57) (σ 58) (σ 9) (σ 10) (σ 11) (σ 5) dl ig) (σ 50 0).toNat 0 (σ 38)).1.length ≤ 366 := by
      have h1 : ∀ (n : Nat) (s : Int) (A : Int → Int), 0 ≤ s → s + (n : Int) ≤ σ 50 0 → (runT (cmpf (σ 50 0) (σ 50 1) (σ 51) (σ 52) (σ 53) (σ 54) (σ 55) (σ 57) (σ 58) (σ 9) (σ 10) (σ 11) (σ 5) dl ig) n s A).1.length ≤ n * 61 := by
        intro n
        induction n with
        | zero => exact fun _ _ _ _ => Nat.zero_le _
        | succ n ih =>
          intro s A x1 x2
          have x3 : s < σ 50 0 := by omega
          have gw := (d9 s x1 x3).2.1
          have h4w := s8 (σ 51 s)
          have h9 := t4.1 (σ 51 s)
          have hl : ((cmpf (σ 50 0) (σ 50 1) (σ 51) (σ 52) (σ 53) (σ 54) (σ 55) (σ 57) (σ 58) (σ 9) (σ 10) (σ 11) (σ 5) dl ig) s A).1.length ≤ 61 := by
            refine secT_len (by omega) ?_
            split <;> omega
          have h2 := ih (s + 1) ((cmpf (σ 50 0) (σ 50 1) (σ 51) (σ 52) (σ 53) (σ 54) (σ 55) (σ 57) (σ 58) (σ 9) (σ 10) (σ 11) (σ 5) dl ig) s A).2 (by omega) (by omega)
          show (((cmpf (σ 50 0) (σ 50 1) (σ 51) (σ 52) (σ 53) (σ 54) (σ 55) (σ 57) (σ 58) (σ 9) (σ 10) (σ 11) (σ 5) dl ig) s A).1 ++ (runT (cmpf (σ 50 0) (σ 50 1) (σ 51) (σ 52) (σ 53) (σ 54) (σ 55) (σ 57) (σ 58) (σ 9) (σ 10) (σ 11) (σ 5) dl ig) n (s + 1) ((cmpf (σ 50 0) (σ 50 1) (σ 51) (σ 52) (σ 53) (σ 54) (σ 55) (σ 57) (σ 58) (σ 9) (σ 10) (σ 11) (σ 5) dl ig) s A).2).1).length ≤ (n + 1) * 61
          rw [List.length_append]
          omega
      have := h1 (σ 50 0).toNat 0 (σ 38) (Int.le_refl 0) (by omega)
      omega
    have hok := runT_ok (f := (cmpf (σ 50 0) (σ 50 1) (σ 51) (σ 52) (σ 53) (σ 54) (σ 55) (σ 57) (σ 58) (σ 9) (σ 10) (σ 11) (σ 5) dl ig)) (S := σ 50 0) (fun s A x1 x2 => secT_ok ⟨x1, by omega⟩ (by
      have h9 := t4.1 (σ 51 s)
      split <;> omega) (fun k y1 y2 => by
      have gw := (d9 s x1 x2).2.1
      have gc := (d9 s x1 x2).2.2.2.2.1 k y1 (by omega)
      have h4w := s8 (σ 51 s)
      omega)) (σ 50 0).toNat 0 (σ 38) (Int.le_refl 0) (by omega)
    have hall := runT_all (f := (cmpf (σ 50 0) (σ 50 1) (σ 51) (σ 52) (σ 53) (σ 54) (σ 55) (σ 57) (σ 58) (σ 9) (σ 10) (σ 11) (σ 5) dl ig)) (S := σ 50 0) (p := fun z => 0 ≤ z ∧ z < 24) (fun s A x1 x2 hA => by
      obtain ⟨k1, k2, k3, k4, k5⟩ := hgt_sf hd x1 x2
      refine srt_all (p := fun z => 0 ≤ z ∧ z < 24) _ _ _ (fun k y1 y2 => ⟨?_, ?_⟩) hA <;> first | omega | (dsimp only; omega)) (σ 50 0).toNat 0 (σ 38) (Int.le_refl 0) (by omega) c6
    refine ⟨0, _, _, _, wv_202 hcl ⟨by omega, by omega⟩, rf_compare_50 (σ := ai_set (X3 σ ((runT (cmpf (σ 50 0) (σ 50 1) (σ 51) (σ 52) (σ 53) (σ 54) (σ 55) (σ 57) (σ 58) (σ 9) (σ 10) (σ 11) (σ 5) dl ig) (σ 50 0).toNat 0 (σ 38)).1.length : Int) (dl3 (runT (cmpf (σ 50 0) (σ 50 1) (σ 51) (σ 52) (σ 53) (σ 54) (σ 55) (σ 57) (σ 58) (σ 9) (σ 10) (σ 11) (σ 5) dl ig) (σ 50 0).toNat 0 (σ 38)).1 0 (σ 37)) (runT (cmpf (σ 50 0) (σ 50 1) (σ 51) (σ 52) (σ 53) (σ 54) (σ 55) (σ 57) (σ 58) (σ 9) (σ 10) (σ 11) (σ 5) dl ig) (σ 50 0).toNat 0 (σ 38)).2) 91 0 ((runT (cmpf (σ 50 0) (σ 50 1) (σ 51) (σ 52) (σ 53) (σ 54) (σ 55) (σ 57) (σ 58) (σ 9) (σ 10) (σ 11) (σ 5) dl ig) (σ 50 0).toNat 0 (σ 38)).1.length : Int)) (A0 := σ 38) (P0 := σ 37) c5 c3 ⟨s1, s2, s3, s4, s5, s6, s7, s8, s9, s10, s11, s12⟩ ⟨⟨t1, t2, t3⟩, t4⟩ (q2.trans hk1) hd hdl, rfl, ⟨by decide, by decide⟩, (show ai_r ((runT (cmpf (σ 50 0) (σ 50 1) (σ 51) (σ 52) (σ 53) (σ 54) (σ 55) (σ 57) (σ 58) (σ 9) (σ 10) (σ 11) (σ 5) dl ig) (σ 50 0).toNat 0 (σ 38)).1.length : Int) from ⟨by omega, by omega⟩), fun _ => rfl, ?_⟩
    exact ⟨⟨s1, s2, s3, s4, s5, s6, s7, s8, s9, s10, s11, s12⟩, ⟨⟨t1, t2, t3⟩, t4⟩, hL, n0, n1, n2, hX, hF, ⟨Or.inr ⟨e4, e5⟩, q2, q3, q4⟩, ⟨⟨(show 0 ≤ ((runT (cmpf (σ 50 0) (σ 50 1) (σ 51) (σ 52) (σ 53) (σ 54) (σ 55) (σ 57) (σ 58) (σ 9) (σ 10) (σ 11) (σ 5) dl ig) (σ 50 0).toNat 0 (σ 38)).1.length : Int) by omega), (show ((runT (cmpf (σ 50 0) (σ 50 1) (σ 51) (σ 52) (σ 53) (σ 54) (σ 55) (σ 57) (σ 58) (σ 9) (σ 10) (σ 11) (σ 5) dl ig) (σ 50 0).toNat 0 (σ 38)).1.length : Int) ≤ 1000 by omega)⟩, Or.inr ⟨rfl, rfl⟩, rfl, dl3_rng hok c4, rfl, hall⟩, hW⟩
theorem st_compare {sc : Int × (Int → Int)} {σ : ai_S} {Q : ai_O → Prop} {a b : Nat} {v4 : Int} (hab : a + 1 ≤ 601024 ∧ b + 6 ≤ 7293034) (hv : 0 ≤ v4 ∧ v4 ≤ sc.1 - 5) (hs : ∀ j, -2147483648 ≤ sc.2 j ∧ sc.2 j ≤ 2147483647) (hR : Rel σ) (K : Nxt sc Q v4 a b) : ai_wp sc 206 488 (lwL v4 none none none) [] (a, b) (92, [], σ) Q := by
  have h8 : ai_r8 (ai_lor (ai_lshl (sc.2 (v4 + 1)) 32) (ai_land (sc.2 (v4 + 2)) 4294967295)) := r64 _
  obtain ⟨k, x, σ1, σ2, hw, hm, hk, hkr, hx, ho, hR2⟩ := tn_compare (sc := sc) (ig := sc.2 (v4 + 3)) hR h8
  exact ar_compare hab hv hs hw hm hk hkr hx ho (K _ _ _ (Nat.le_refl _) (Nat.le_refl _) hR2)
