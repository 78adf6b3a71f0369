/-! THE RELATION that the law's loop keeps between the class's places and the reference's. -/
def RSch (T T' : Int) (w w' ty ty' rq rq' pa pa' sq sq' : Int → Int) : Prop := T' = T ∧ (0 ≤ T ∧ T ≤ 5) ∧ w' = w ∧ ty' = ty ∧ rq' = rq ∧ pa' = pa ∧ sq' = sq ∧ (∀ t, 0 ≤ w t ∧ w t ≤ 5) ∧ (∀ j, 0 ≤ ty j ∧ ty j ≤ 3) ∧ (∀ j, 0 ≤ rq j ∧ rq j ≤ 1) ∧ (∀ j, -1 ≤ pa j ∧ pa j < 5) ∧ (∀ k, 0 ≤ sq k ∧ sq k < 5)
def chr (v i : Int) : Int := ai_and (ai_lshr v (7 * (7 - i))) 127
def okc (ty v : Int) : Prop := (ty = 0 → -1000000000 < v ∧ v < 1000000000) ∧ (ty = 1 → -100000000 < v ∧ v < 100000000) ∧ (ty = 2 → (0 ≤ v ∧ v < 72057594037927936) ∧ ∀ i, 0 ≤ i → i < 7 → chr v i = 0 → chr v (i + 1) = 0) ∧ (ty = 3 → v = 0 ∨ v = 1)
def rg (x : Int) : Prop := -72057594037927936 ≤ x ∧ x ≤ 72057594037927936
def GS (T : Int) (w ty pa cn ce nu : Int → Int) : Prop :=
  (∀ t, 0 ≤ cn t ∧ cn t ≤ 12) ∧ (∀ t, T ≤ t → t < 5 → cn t = 0) ∧ (∀ q, 0 ≤ nu q ∧ nu q < 32) ∧ (∀ j, rg (ce j)) ∧
  (∀ t r q, 0 ≤ t → t < 5 → 0 ≤ r → r < q → q < cn t → ce (60 * t + 5 * r) < ce (60 * t + 5 * q)) ∧
  (∀ t r c, 0 ≤ t → t < 5 → 0 ≤ r → r < cn t → 0 ≤ c → c < 5 → tb (nu (12 * t + r)) c = true → ce (60 * t + 5 * r + c) = 0) ∧
  (∀ t r c, 0 ≤ t → t < T → 0 ≤ r → r < cn t → 0 ≤ c → c < w t → ¬ pa (5 * t + c) = -1 → tb (nu (12 * t + r)) c = false → ∃ q, 0 ≤ q ∧ q < cn (pa (5 * t + c)) ∧ ce (60 * pa (5 * t + c) + 5 * q) = ce (60 * t + 5 * r + c)) ∧
  (∀ t r c, 0 ≤ t → t < T → 0 ≤ r → r < cn t → 0 ≤ c → c < w t → okc (ty (5 * t + c)) (ce (60 * t + 5 * r + c)))
def EqS (cn ce nu mn vl no : Int → Int) : Prop := mn = cn ∧ vl = ce ∧ ∀ q c, 0 ≤ q → q < 60 → 0 ≤ c → c < 5 → no (5 * q + c) = bi (tb (nu q) c = true)
def EqN (i : Int) (cn ce nu om ov on : Int → Int) : Prop := (∀ t, 0 ≤ t → t < 5 → om (5 * i + t) = cn t) ∧ (∀ j, 0 ≤ j → j < 300 → ov (300 * i + j) = ce j) ∧ ∀ q c, 0 ≤ q → q < 60 → 0 ≤ c → c < 5 → on (300 * i + (5 * q + c)) = bi (tb (nu q) c = true)
def RLog (o o' ch ch' : Int) : Prop := o' = o ∧ (0 ≤ o ∧ o ≤ 3) ∧ (0 < o → ch' = ch ∧ 0 ≤ ch ∧ ch ≤ 200)
def RBn (cn ce nu : Int → Int) : Prop := (∀ t, 0 ≤ cn t ∧ cn t ≤ 12) ∧ (∀ q, 0 ≤ nu q ∧ nu q < 32) ∧ ∀ j, rg (ce j)
def RSn (i o T : Int) (w ty pa cn ce nu om ov on sg ol : Int → Int) : Prop := RBn cn ce nu ∧ (i < o → EqN i cn ce nu om ov on ∧ GS T w ty pa cn ce nu ∧ ol i = sg i ∧ 0 ≤ sg i ∧ sg i ≤ 200)
def RTxt (m n n' : Int) (x x' : Int → Int) : Prop := n' = n ∧ (0 ≤ n ∧ n ≤ m) ∧ x' = x ∧ ∀ j, 0 ≤ x j ∧ x j ≤ 65535
def RFai (x : Int) (z1 z2 z3 : Int → Int) (f f' : Int) (y y' : Int → Int) : Prop := f' = f ∧ ai_r f ∧ y' = y ∧ (∀ j, ai_r (y j)) ∧ (0 ≤ x ∧ x < 32) ∧ (∀ j, rg (z1 j)) ∧ (∀ j, rg (z2 j)) ∧ ∀ j, 0 ≤ z3 j ∧ z3 j ≤ 1
def RCmp (n n' b : Int) (p p' s s' : Int → Int) : Prop := (0 ≤ n ∧ n ≤ 1000) ∧ (b = 0 ∧ n = 0 ∨ b = 1 ∧ n' = n) ∧ p' = p ∧ (∀ j, ai_r (p j)) ∧ s' = s ∧ ∀ j, 0 ≤ s j ∧ s j < 24
def DS (T : Int) (w ty : Int → Int) (S N : Int) (ta wd cl nm fr rs ce nu : Int → Int) (S' N' : Int) (st sw sf sl xc xn : Int → Int) : Prop :=
  (S' = S ∧ N' = N ∧ (0 ≤ S ∧ S ≤ 6) ∧ (0 ≤ N ∧ N ≤ 24) ∧ sf S = N ∧ sf 0 = 0) ∧ (∀ j, rg (ce j)) ∧ (∀ r, 0 ≤ r → r < N → (0 ≤ rs r ∧ rs r < S) ∧ sf (rs r) ≤ r ∧ r < sf (rs r + 1)) ∧
  ∀ s, 0 ≤ s → s < S → (st s = ta s ∧ 0 ≤ ta s ∧ ta s < T) ∧ (sw s = wd s ∧ 1 ≤ wd s ∧ wd s ≤ w (ta s)) ∧ (sf s = fr s ∧ 0 ≤ sf s ∧ sf s ≤ sf (s + 1) ∧ sf (s + 1) ≤ N) ∧ (0 ≤ nm s ∧ nm s < 32) ∧
    (∀ k, 0 ≤ k → k < wd s → sl (5 * s + k) = cl (5 * s + k) ∧ 0 ≤ cl (5 * s + k) ∧ cl (5 * s + k) < w (ta s)) ∧
    (∀ k l, 0 ≤ k → k < wd s → 0 ≤ l → l < wd s → cl (5 * s + k) = cl (5 * s + l) → k = l) ∧
    (∀ c, 0 ≤ c → c < 5 → (tb (nm s) c = true ↔ ∃ k, 0 ≤ k ∧ k < wd s ∧ cl (5 * s + k) = c)) ∧
    (∀ r, sf s ≤ r → r < sf (s + 1) → rs r = s ∧ (0 ≤ nu r ∧ nu r < 32) ∧
      (∀ k, 0 ≤ k → k < wd s → xc (5 * r + k) = ce (5 * r + cl (5 * s + k)) ∧ xn (5 * r + k) = bi (tb (nu r) (cl (5 * s + k)) = true)) ∧
      (∀ c, 0 ≤ c → c < 5 → tb (nm s) c = false → tb (nu r) c = true) ∧
      (∀ c, 0 ≤ c → c < 5 → tb (nu r) c = true → ce (5 * r + c) = 0) ∧
      (∀ c, 0 ≤ c → c < w (ta s) → okc (ty (5 * ta s + c)) (ce (5 * r + c))))
def RDat (d e k k' : Int) (D1 D2 : Prop) : Prop := (d = 41 ∧ e = 50 ∨ d = 50 ∧ e = 41) ∧ k' = k ∧ (k = 0 ∨ k = 1) ∧ (k = 1 → (d = 41 → D1) ∧ (d = 50 → D2))
def Rel (σ : ai_S) : Prop :=
  RSch (σ 2 0) (σ 59 1) (σ 4) (σ 60) (σ 5) (σ 61) (σ 7) (σ 62) (σ 6) (σ 63) (σ 3) (σ 84) ∧
  (EqS (σ 9) (σ 10) (σ 11) (σ 64) (σ 65) (σ 66) ∧ GS (σ 2 0) (σ 4) (σ 5) (σ 6) (σ 9) (σ 10) (σ 11)) ∧
  RLog (σ 12 0) (σ 59 13) (σ 12 1) (σ 59 14) ∧
  RSn 0 (σ 12 0) (σ 2 0) (σ 4) (σ 5) (σ 6) (σ 15) (σ 16) (σ 17) (σ 69) (σ 67) (σ 68) (σ 26) (σ 70) ∧
  RSn 1 (σ 12 0) (σ 2 0) (σ 4) (σ 5) (σ 6) (σ 19) (σ 20) (σ 21) (σ 69) (σ 67) (σ 68) (σ 26) (σ 70) ∧
  RSn 2 (σ 12 0) (σ 2 0) (σ 4) (σ 5) (σ 6) (σ 23) (σ 24) (σ 25) (σ 69) (σ 67) (σ 68) (σ 26) (σ 70) ∧
  RTxt 120 (σ 34 0) (σ 59 15) (σ 35) (σ 71) ∧ RFai (σ 32 1) (σ 48) (σ 57) (σ 83) (σ 0 7) (σ 59 18) (σ 27) (σ 85) ∧
  RDat (σ 0 4) (σ 0 5) (σ 0 6) (σ 59 19) (DS (σ 2 0) (σ 4) (σ 5) (σ 41 0) (σ 41 1) (σ 42) (σ 43) (σ 44) (σ 45) (σ 46) (σ 47) (σ 48) (σ 49) (σ 59 20) (σ 59 21) (σ 72) (σ 73) (σ 74) (σ 75) (σ 76) (σ 77)) (DS (σ 2 0) (σ 4) (σ 5) (σ 50 0) (σ 50 1) (σ 51) (σ 52) (σ 53) (σ 54) (σ 55) (σ 56) (σ 57) (σ 58) (σ 59 20) (σ 59 21) (σ 72) (σ 73) (σ 74) (σ 75) (σ 76) (σ 77)) ∧
  RCmp (σ 36 0) (σ 59 41) (σ 59 42) (σ 37) (σ 88) (σ 38) (σ 89) ∧ RTxt 1149 (σ 39 0) (σ 59 45) (σ 40) (σ 90)
theorem tb0 (c : Int) (h : 0 ≤ c ∧ c < 5) : tb 0 c = false := by
  have e : c = 0 ∨ c = 1 ∨ c = 2 ∨ c = 3 ∨ c = 4 := by omega
  rcases e with rfl | rfl | rfl | rfl | rfl <;> decide
def bootL : List (Nat × Int × Int) := [(85, 3, (-1)), (85, 2, (-1)), (85, 1, (-1)), (59, 18, (-1)), (0, 7, (-1)), (0, 5, 50), (0, 4, 41), (27, 3, (-1)), (27, 2, (-1)), (27, 1, (-1))]
theorem boot_z {p : Nat} (h : bootL.all (fun e => !decide (e.1 = p)) = true) : sI bootL p = fun _ => 0 := funext (fun j => sI_zero_at h j)
theorem rel_boot : Rel (sI [(85, 3, (-1)), (85, 2, (-1)), (85, 1, (-1)), (59, 18, (-1)), (0, 7, (-1)), (0, 5, 50), (0, 4, 41), (27, 3, (-1)), (27, 2, (-1)), (27, 1, (-1))]) := by
  show Rel (sI bootL)
  have f1 : sI bootL 85 = sI bootL 27 := by
    funext j
    show (if j = 3 then (-1 : Int) else if j = 2 then -1 else if j = 1 then -1 else 0) = (if j = 3 then (-1 : Int) else if j = 2 then -1 else if j = 1 then -1 else 0)
    rfl
  have f2 : ∀ j, ai_r (sI bootL 27 j) := by
    intro j
    show ai_r (if j = 3 then (-1 : Int) else if j = 2 then -1 else if j = 1 then -1 else 0)
    unfold ai_r
    repeat' split
    all_goals omega
  unfold Rel
  rw [f1]
  simp only [boot_z (p := 2) (by decide), boot_z (p := 3) (by decide), boot_z (p := 4) (by decide), boot_z (p := 5) (by decide), boot_z (p := 6) (by decide), boot_z (p := 7) (by decide), boot_z (p := 9) (by decide), boot_z (p := 10) (by decide), boot_z (p := 11) (by decide), boot_z (p := 12) (by decide), boot_z (p := 60) (by decide), boot_z (p := 61) (by decide), boot_z (p := 62) (by decide), boot_z (p := 63) (by decide), boot_z (p := 64) (by decide), boot_z (p := 65) (by decide), boot_z (p := 66) (by decide), boot_z (p := 84) (by decide), boot_z (p := 15) (by decide), boot_z (p := 16) (by decide), boot_z (p := 17) (by decide), boot_z (p := 19) (by decide), boot_z (p := 20) (by decide), boot_z (p := 21) (by decide), boot_z (p := 23) (by decide), boot_z (p := 24) (by decide), boot_z (p := 25) (by decide), boot_z (p := 34) (by decide), boot_z (p := 48) (by decide), boot_z (p := 57) (by decide), boot_z (p := 83) (by decide), boot_z (p := 35) (by decide), boot_z (p := 71) (by decide), boot_z (p := 36) (by decide), boot_z (p := 37) (by decide), boot_z (p := 88) (by decide), boot_z (p := 38) (by decide), boot_z (p := 89) (by decide), boot_z (p := 39) (by decide), boot_z (p := 40) (by decide), boot_z (p := 90) (by decide)]
  have e1 : sI bootL 59 1 = 0 := rfl
  have e2 : sI bootL 59 13 = 0 := rfl
  have e3 : sI bootL 59 15 = 0 := rfl
  have e4 : sI bootL 59 18 = -1 := rfl
  have e5 : sI bootL 0 7 = -1 := rfl
  have e6 : sI bootL 59 19 = 0 := rfl
  have e7 : sI bootL 0 6 = 0 := rfl
  have e8 : sI bootL 59 42 = 0 := rfl
  have e9 : sI bootL 59 45 = 0 := rfl
  have e10 : sI bootL 0 4 = 41 := rfl
  have e11 : sI bootL 0 5 = 50 := rfl
  have e12 : sI bootL 32 1 = 0 := rfl
  refine ⟨⟨e1, ⟨by decide, by decide⟩, rfl, rfl, rfl, rfl, rfl, fun _ => ⟨by simp, by simp⟩, fun _ => ⟨by simp, by simp⟩, fun _ => ⟨by simp, by simp⟩, fun _ => ⟨by simp, by simp⟩, fun _ => ⟨by simp, by simp⟩⟩, ⟨⟨rfl, rfl, fun q c h1 h2 h3 h4 => ?_⟩, ⟨fun _ => ⟨by simp, by simp⟩, fun _ _ _ => rfl, fun _ => ⟨by simp, by simp⟩, fun _ => ⟨by simp, by simp⟩, fun t r q h1 h2 h3 h4 h5 => ?_, fun _ _ _ _ _ _ _ _ _ _ => rfl, fun t r c h1 h2 => ?_, fun t r c h1 h2 => ?_⟩⟩, ⟨e2, ⟨by decide, by decide⟩, fun h => ?_⟩, ⟨⟨fun _ => ⟨by simp, by simp⟩, fun _ => ⟨by simp, by simp⟩, fun _ => ⟨by simp, by simp⟩⟩, fun h => ?_⟩, ⟨⟨fun _ => ⟨by simp, by simp⟩, fun _ => ⟨by simp, by simp⟩, fun _ => ⟨by simp, by simp⟩⟩, fun h => ?_⟩, ⟨⟨fun _ => ⟨by simp, by simp⟩, fun _ => ⟨by simp, by simp⟩, fun _ => ⟨by simp, by simp⟩⟩, fun h => ?_⟩, ⟨e3, ⟨by decide, by decide⟩, rfl, fun _ => ⟨by simp, by simp⟩⟩, ⟨e4.trans e5.symm, ?_, rfl, f2, ⟨by rw [e12]; decide, by rw [e12]; decide⟩, fun _ => ⟨by simp, by simp⟩, fun _ => ⟨by simp, by simp⟩, fun _ => ⟨by simp, by simp⟩⟩, ⟨Or.inl ⟨e10, e11⟩, e6.trans e7.symm, Or.inl e7, fun h => ?_⟩, ⟨⟨by decide, by decide⟩, Or.inl ⟨e8, rfl⟩, rfl, fun _ => ⟨by simp, by simp⟩, rfl, fun _ => ⟨by simp, by simp⟩⟩, ⟨e9, ⟨by decide, by decide⟩, rfl, fun _ => ⟨by simp, by simp⟩⟩⟩
  · rw [tb0 c ⟨h3, h4⟩]
    rfl
  · exact absurd h5 (by show ¬ q < 0; omega)
  · exact absurd h2 (by show ¬ t < 0; omega)
  · exact absurd h2 (by show ¬ t < 0; omega)
  · exact absurd h (by decide)
  · exact absurd h (by decide)
  · exact absurd h (by decide)
  · exact absurd h (by decide)
  · rw [e5]
    exact ⟨by decide, by decide⟩
  · rw [e7] at h
    exact absurd h (by decide)
