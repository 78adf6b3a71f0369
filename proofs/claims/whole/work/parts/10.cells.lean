/-! SOUNDNESS of the instructions that read and write cells. -/
theorem ai_fv_eq {ad : Nat → Nat} {h h' : ai_H} {p kd j : Nat} (h1 : h'.2.2 p (Int.ofNat j) = h.2.2 p (Int.ofNat j)) (h2 : (p, j) ∈ h'.2.1 ↔ (p, j) ∈ h.2.1) : ai_fv ad h' p kd j = ai_fv ad h p kd j := by
  unfold ai_fv
  simp only [h1, h2]
theorem ai_cell_eq {ad : Nat → Nat} {cA : Nat → ClassId} {h h' : ai_H} {p : Nat} (h1 : ∀ j : Int, h'.2.2 p j = h.2.2 p j) (h2 : ∀ j : Nat, (p, j) ∈ h'.2.1 ↔ (p, j) ∈ h.2.1) : ai_cell ad cA h' p = ai_cell ad cA h p := by
  unfold ai_cell
  split
  · congr 2
    apply ai_tab_congr
    intro j _
    exact ai_fv_eq (h1 _) (h2 j)
  · unfold ai_ac
    simp only [h1, h2]
  · rfl
theorem ai_set_ne {σ : ai_S} {p q : Nat} {i v j : Int} (hq : q ≠ p) : ai_set σ p i v q j = σ q j := by simp [ai_set, hq]
theorem ai_set_nj {σ : ai_S} {p q : Nat} {i v j : Int} (hj : j ≠ i) : ai_set σ p i v q j = σ q j := by
  unfold ai_set
  split
  · simp [hj]
  · rfl
theorem ai_set_eq {σ : ai_S} {p : Nat} {i v : Int} : ai_set σ p i v p i = v := by simp [ai_set]
theorem ai_cell_put {ad : Nat → Nat} {cA : Nat → ClassId} {h h' : ai_H} {q ci ks : Nat} {v : Value} (hsh : ai_sh q = some (.inl ci)) (h1 : ai_fv ad h' q (ai_kd ci ks) ks = v) (h2 : ∀ j, j ≠ ks → ai_fv ad h' q (ai_kd ci j) j = ai_fv ad h q (ai_kd ci j) j) :
    ai_cell ad cA h' q = .inr (ci, (ai_tab (ai_nf ci) (fun j => ai_fv ad h q (ai_kd ci j) j)).set ks v) := by
  unfold ai_cell
  rw [hsh, ai_tab_set]
  simp only
  congr 2
  apply ai_tab_congr
  intro j _
  by_cases hj : j = ks
  · subst hj
    rw [if_pos rfl, h1]
  · rw [if_neg hj, h2 j hj]
theorem ai_at_obj {ad : Nat → Nat} {cA : Nat → ClassId} {h : ai_H} {q ci : Nat} (hq : q < h.1) (hsh : ai_sh q = some (.inl ci)) : (ai_ws ad cA h)[q]? = some (ad q, .inr (ci, ai_tab (ai_nf ci) (fun j => ai_fv ad h q (ai_kd ci j) j))) := by
  rw [ai_ws, ai_tab_get hq, ai_cell, hsh]
theorem ai_at_arr {ad : Nat → Nat} {cA : Nat → ClassId} {h : ai_H} {q kd n : Nat} (hq : q < h.1) (hsh : ai_sh q = some (.inr (kd, n))) : (ai_ws ad cA h)[q]? = some (ad q, .inl (cA kd, n, ai_ac ad h q kd)) := by
  rw [ai_ws, ai_tab_get hq, ai_cell, hsh]
theorem ai_tys_at {cA : Nat → ClassId} {kd : Nat} (hk : kd < 5) : (ai_tys cA)[kd]? = some (cA kd, ai_TY kd) := ai_tab_get hk
section AIH
variable {sc : Int × (Int → Int)} {l : Launch} {D : va_G} {base b : Nat} {cA : Nat → ClassId} {p : Program} {e : Env} {s : State} {mid : MethodId} {args : Array Value} {below : List Frame} {meth : Method} {c : Code} {m : Nat} {Q : ai_O → Prop} {i : Nat} {ls : ai_L} {st : List ai_V} {k : Nat × Nat} {h h' : ai_H}
theorem sn_get (F : ai_F p e s mid args meth c m) (hK : va_K D vwCl (ai_tys cA) s) {ci ks idx q : Nat} {C : String} {T : u_T} {N : Nat} (hcl : vwCl[ci]? = some (C, T, N)) (hkN : ks < N) (hnf : ai_nf ci = N) (hw : Cond.fieldLink (ai_mY m).cls idx C (T ks).2.1 (T ks).2.2.1 ∈ ai_WS) (hdc : (T ks).1 = C) (hlay : ∀ w ∈ u_ws C T N, w ∈ ai_WS) (hsh : ai_sh q = some (.inl ci)) (hq : q < h.1) {v : ai_V} (hv : ai_fv (ai_ad base b) h q (ai_kd ci ks) ks = ai_rn (ai_ad base b) v) (hd : decode (ai_mB m) (ai_pc m i) = .ok (.getfield idx, 3)) (hn : ai_pc m (i + 1) = ai_pc m i + 3) (K : ai_at l D base b cA p e s mid args below meth c m Q (i + 1) (ls) (v :: st) (k) (h)) : ai_at l D base b cA p e s mid args below meth c m Q (i) (ls) (.inr (.inr q) :: st) (k) (h) := by
  intro H locs lsM hW hS hL hZ
  have K := K H locs lsM hW hS hL hZ
  rw [hn] at K
  exact va_get (D := D) (cl := vwCl) (ws := ai_ws (ai_ad base b) cA h) (ci := ci) (v := ai_rn (ai_ad base b) v) (C := C) (T := T) (N := N) F.1 F.2.1 F.2.2.2.2.1 hlay F.2.2.2.2.2.1 hK hW.2 q (ai_at_obj hq hsh) hcl ks hkN (F.2.2.2.2.1 _ hw) (fun x h9 => by rw [hdc] at h9; exact h9) (by rw [ai_tab_get (by rw [hnf]; exact hkN), hv]) hd K
theorem sn_put (F : ai_F p e s mid args meth c m) (hK : va_K D vwCl (ai_tys cA) s) {ci ks idx q : Nat} {C : String} {T : u_T} {N : Nat} (hcl : vwCl[ci]? = some (C, T, N)) (hkN : ks < N) (hnf : ai_nf ci = N) (hw : Cond.fieldLink (ai_mY m).cls idx C (T ks).2.1 (T ks).2.2.1 ∈ ai_WS) (hdc : (T ks).1 = C) (hlay : ∀ w ∈ u_ws C T N, w ∈ ai_WS) (hsh : ai_sh q = some (.inl ci)) (hq : q < h.1) (hty : ∀ j, j < N → parseFieldDescriptor (T j).2.2.1 = some (ai_ft ci j)) (hnm : ∀ x, x < N → ∀ y, y < N → x ≠ y → (T x).2.1 ≠ (T y).2.1) {v : ai_V} (hnr : narrow (ai_ft ci ks) (ai_rn (ai_ad base b) v) = ai_rn (ai_ad base b) v) (hfit : fits (ai_ft ci ks) (ai_rn (ai_ad base b) v) = true) (hz1 : h'.1 = h.1) (hce : ai_cell (ai_ad base b) cA h' q = .inr (ci, (ai_tab (ai_nf ci) (fun j => ai_fv (ai_ad base b) h q (ai_kd ci j) j)).set ks (ai_rn (ai_ad base b) v))) (hoth : ∀ r, r ≠ q → ai_cell (ai_ad base b) cA h' r = ai_cell (ai_ad base b) cA h r) (hfin : (T ks).2.2.2 = false) (hd : decode (ai_mB m) (ai_pc m i) = .ok (.putfield idx, 3)) (hn : ai_pc m (i + 1) = ai_pc m i + 3) (K : ai_at l D base b cA p e s mid args below meth c m Q (i + 1) (ls) (st) (k) (h')) : ai_at l D base b cA p e s mid args below meth c m Q (i) (ls) (v :: .inr (.inr q) :: st) (k) (h) := by
  intro H locs lsM hW hS hL hZ
  refine va_put (D := D) (cl := vwCl) (ws := ai_ws (ai_ad base b) cA h) (ci := ci) (v := ai_rn (ai_ad base b) v) (C := C) (T := T) (N := N) F.1 F.2.1 F.2.2.2.2.1 hlay (ai_ft ci) hty hnm F.2.2.2.2.2.1 hK hW.2 (ai_D hW.1) hS q (ai_at_obj hq hsh) hcl ks hkN (F.2.2.2.2.1 _ hw) (fun x h9 => by rw [hdc] at h9; exact h9) hfin (hty ks hkN) hnr hfit (by rw [ai_tab_len, hnf]; exact hkN) hd (fun H1 locs1 hP1 _ hS1 => ?_)
  rw [ai_ws_set hz1 hce hoth] at hP1
  have K := K H1 locs1 lsM ⟨by rw [hz1]; exact hW.1, hP1⟩ hS1 hL (by rw [hz1]; exact hZ)
  rw [hn] at K
  exact K
theorem sn_putF (F : ai_F p e s mid args meth c m) (hK : va_K D vwCl (ai_tys cA) s) {ci ks idx q : Nat} {C : String} {T : u_T} {N : Nat} (hcl : vwCl[ci]? = some (C, T, N)) (hkN : ks < N) (hnf : ai_nf ci = N) (hw : Cond.fieldLink (ai_mY m).cls idx C (T ks).2.1 (T ks).2.2.1 ∈ ai_WS) (hdc : (T ks).1 = C) (hlay : ∀ w ∈ u_ws C T N, w ∈ ai_WS) (hsh : ai_sh q = some (.inl ci)) (hq : q < h.1) (hty : ∀ j, j < N → parseFieldDescriptor (T j).2.2.1 = some (ai_ft ci j)) (hnm : ∀ x, x < N → ∀ y, y < N → x ≠ y → (T x).2.1 ≠ (T y).2.1) {v : ai_V} (hnr : narrow (ai_ft ci ks) (ai_rn (ai_ad base b) v) = ai_rn (ai_ad base b) v) (hfit : fits (ai_ft ci ks) (ai_rn (ai_ad base b) v) = true) (hz1 : h'.1 = h.1) (hce : ai_cell (ai_ad base b) cA h' q = .inr (ci, (ai_tab (ai_nf ci) (fun j => ai_fv (ai_ad base b) h q (ai_kd ci j) j)).set ks (ai_rn (ai_ad base b) v))) (hoth : ∀ r, r ≠ q → ai_cell (ai_ad base b) cA h' r = ai_cell (ai_ad base b) cA h r) (hfin : (T ks).2.2.2 = true) (hini : (ai_mY m).name = "<init>") (hown : C = (ai_mY m).cls) (hd : decode (ai_mB m) (ai_pc m i) = .ok (.putfield idx, 3)) (hn : ai_pc m (i + 1) = ai_pc m i + 3) (K : ai_at l D base b cA p e s mid args below meth c m Q (i + 1) (ls) (st) (k) (h')) : ai_at l D base b cA p e s mid args below meth c m Q (i) (ls) (v :: .inr (.inr q) :: st) (k) (h) := by
  intro H locs lsM hW hS hL hZ
  refine va_putF (D := D) (cl := vwCl) (ws := ai_ws (ai_ad base b) cA h) (ci := ci) (v := ai_rn (ai_ad base b) v) (C := C) (T := T) (N := N) F.1 F.2.1 F.2.2.2.2.1 hlay (ai_ft ci) hty hnm F.2.2.2.2.2.1 hK hW.2 (ai_D hW.1) hS q (ai_at_obj hq hsh) hcl ks hkN (F.2.2.2.2.1 _ hw) (fun x h9 => by rw [hdc] at h9; exact h9) hfin (F.2.2.2.2.2.2.2.1.trans hini) (hdc.trans hown) (hty ks hkN) hnr hfit (by rw [ai_tab_len, hnf]; exact hkN) hd (fun H1 locs1 hP1 _ hS1 => ?_)
  rw [ai_ws_set hz1 hce hoth] at hP1
  have K := K H1 locs1 lsM ⟨by rw [hz1]; exact hW.1, hP1⟩ hS1 hL (by rw [hz1]; exact hZ)
  rw [hn] at K
  exact K
theorem sn_iald (F : ai_F p e s mid args meth c m) (hK : va_K D vwCl (ai_tys cA) s) {q n : Nat} {j : Int} (hsh : ai_sh q = some (.inr (0, n))) (hq : q < h.1) (hj : 0 ≤ j ∧ j < Int.ofNat n) (hN : n < 2147483648) (hd : decode (ai_mB m) (ai_pc m i) = .ok (.iaload, 1)) (hn : ai_pc m (i + 1) = ai_pc m i + 1) (K : ai_at l D base b cA p e s mid args below meth c m Q (i + 1) (ls) (.inl (h.2.2 q j) :: st) (k) (h)) : ai_at l D base b cA p e s mid args below meth c m Q (i) (ls) (.inl j :: .inr (.inr q) :: st) (k) (h) := by
  intro H locs lsM hW hS hL hZ
  have K := K H locs lsM hW hS hL hZ
  rw [hn] at K
  obtain ⟨h1, h2, h3⟩ := ai_ix hj.1 hj.2 hN
  refine va_iald (D := D) (cl := vwCl) (ws := ai_ws (ai_ad base b) cA h) (f := fun j => Int32.ofInt (h.2.2 q (Int.ofNat j))) F.1 F.2.1 hK hW.2 q 0 (ai_at_arr hq hsh) (ai_tys_at (by decide)) h1 hd ?_
  have e : (Int.ofNat j.toNat) = j := Int.toNat_of_nonneg hj.1
  rw [h2, e]
  exact K
theorem sn_zald (F : ai_F p e s mid args meth c m) (hK : va_K D vwCl (ai_tys cA) s) {q n : Nat} {j : Int} (hsh : ai_sh q = some (.inr (2, n))) (hq : q < h.1) (hj : 0 ≤ j ∧ j < Int.ofNat n) (hN : n < 2147483648) (hd : decode (ai_mB m) (ai_pc m i) = .ok (.baload, 1)) (hn : ai_pc m (i + 1) = ai_pc m i + 1) (K : ai_at l D base b cA p e s mid args below meth c m Q (i + 1) (ls) (.inl (h.2.2 q j) :: st) (k) (h)) : ai_at l D base b cA p e s mid args below meth c m Q (i) (ls) (.inl j :: .inr (.inr q) :: st) (k) (h) := by
  intro H locs lsM hW hS hL hZ
  have K := K H locs lsM hW hS hL hZ
  rw [hn] at K
  obtain ⟨h1, h2, h3⟩ := ai_ix hj.1 hj.2 hN
  refine va_zald (D := D) (cl := vwCl) (ws := ai_ws (ai_ad base b) cA h) (f := fun j => Int32.ofInt (h.2.2 q (Int.ofNat j))) F.1 F.2.1 hK hW.2 q 2 (ai_at_arr hq hsh) (ai_tys_at (by decide)) h1 hd ?_
  have e : (Int.ofNat j.toNat) = j := Int.toNat_of_nonneg hj.1
  rw [h2, e]
  exact K
theorem sn_cald (F : ai_F p e s mid args meth c m) (hK : va_K D vwCl (ai_tys cA) s) {q n : Nat} {j : Int} (hsh : ai_sh q = some (.inr (3, n))) (hq : q < h.1) (hj : 0 ≤ j ∧ j < Int.ofNat n) (hN : n < 2147483648) (hd : decode (ai_mB m) (ai_pc m i) = .ok (.caload, 1)) (hn : ai_pc m (i + 1) = ai_pc m i + 1) (K : ai_at l D base b cA p e s mid args below meth c m Q (i + 1) (ls) (.inl (h.2.2 q j) :: st) (k) (h)) : ai_at l D base b cA p e s mid args below meth c m Q (i) (ls) (.inl j :: .inr (.inr q) :: st) (k) (h) := by
  intro H locs lsM hW hS hL hZ
  have K := K H locs lsM hW hS hL hZ
  rw [hn] at K
  obtain ⟨h1, h2, h3⟩ := ai_ix hj.1 hj.2 hN
  refine va_cald (D := D) (cl := vwCl) (ws := ai_ws (ai_ad base b) cA h) (f := fun j => Int32.ofInt (h.2.2 q (Int.ofNat j))) F.1 F.2.1 hK hW.2 q 3 (ai_at_arr hq hsh) (ai_tys_at (by decide)) h1 hd ?_
  have e : (Int.ofNat j.toNat) = j := Int.toNat_of_nonneg hj.1
  rw [h2, e]
  exact K
theorem sn_lald (F : ai_F p e s mid args meth c m) (hK : va_K D vwCl (ai_tys cA) s) {q n : Nat} {j : Int} (hsh : ai_sh q = some (.inr (1, n))) (hq : q < h.1) (hj : 0 ≤ j ∧ j < Int.ofNat n) (hN : n < 2147483648) (hd : decode (ai_mB m) (ai_pc m i) = .ok (.laload, 1)) (hn : ai_pc m (i + 1) = ai_pc m i + 1) (K : ai_at l D base b cA p e s mid args below meth c m Q (i + 1) (ls) (.inr (.inl (h.2.2 q j)) :: st) (k) (h)) : ai_at l D base b cA p e s mid args below meth c m Q (i) (ls) (.inl j :: .inr (.inr q) :: st) (k) (h) := by
  intro H locs lsM hW hS hL hZ
  have K := K H locs lsM hW hS hL hZ
  rw [hn] at K
  obtain ⟨h1, h2, h3⟩ := ai_ix hj.1 hj.2 hN
  refine va_lald (D := D) (cl := vwCl) (ws := ai_ws (ai_ad base b) cA h) (f := fun j => Int64.ofInt (h.2.2 q (Int.ofNat j))) F.1 F.2.1 hK hW.2 q 1 (ai_at_arr hq hsh) (ai_tys_at (by decide)) h1 hd ?_
  have e : (Int.ofNat j.toNat) = j := Int.toNat_of_nonneg hj.1
  rw [h2, e]
  exact K
theorem sn_aald (F : ai_F p e s mid args meth c m) (hK : va_K D vwCl (ai_tys cA) s) {q n : Nat} {j : Int} (hsh : ai_sh q = some (.inr (4, n))) (hq : q < h.1) (hu : h.2.1 = []) (hj : 0 ≤ j ∧ j < Int.ofNat n) (hN : n < 2147483648) (hd : decode (ai_mB m) (ai_pc m i) = .ok (.aaload, 1)) (hn : ai_pc m (i + 1) = ai_pc m i + 1) (K : ai_at l D base b cA p e s mid args below meth c m Q (i + 1) (ls) (.inr (.inr (ai_rf q j.toNat)) :: st) (k) (h)) : ai_at l D base b cA p e s mid args below meth c m Q (i) (ls) (.inl j :: .inr (.inr q) :: st) (k) (h) := by
  intro H locs lsM hW hS hL hZ
  have K := K H locs lsM hW hS hL hZ
  rw [hn] at K
  obtain ⟨h1, h2, h3⟩ := ai_ix hj.1 hj.2 hN
  refine va_aldq (D := D) (cl := vwCl) (ws := ai_ws (ai_ad base b) cA h) (f := fun j => if (q, j) ∈ h.2.1 then none else some (ai_ad base b (ai_rf q j))) F.1 F.2.1 hK hW.2 q 4 (ai_at_arr hq hsh) (ai_tys_at (by decide)) h1 hd ?_
  rw [h2, hu, if_neg (by simp)]
  exact K
theorem sn_iast (F : ai_F p e s mid args meth c m) (hK : va_K D vwCl (ai_tys cA) s) {q n : Nat} {j v : Int} (hsh : ai_sh q = some (.inr (0, n))) (hq : q < h.1) (hj : 0 ≤ j ∧ j < Int.ofNat n) (hN : n < 2147483648) (hd : decode (ai_mB m) (ai_pc m i) = .ok (.iastore, 1)) (hn : ai_pc m (i + 1) = ai_pc m i + 1) (K : ai_at l D base b cA p e s mid args below meth c m Q (i + 1) (ls) (st) (k) ((h.1, h.2.1, ai_set h.2.2 q j v))) : ai_at l D base b cA p e s mid args below meth c m Q (i) (ls) (.inl v :: .inl j :: .inr (.inr q) :: st) (k) (h) := by
  intro H locs lsM hW hS hL hZ
  obtain ⟨h1, h2, h3⟩ := ai_ix hj.1 hj.2 hN
  refine va_iast (D := D) (cl := vwCl) (ws := ai_ws (ai_ad base b) cA h) (f := fun j => Int32.ofInt (h.2.2 q (Int.ofNat j))) F.1 F.2.1 hK hW.2 (ai_D hW.1) hS q 0 (ai_at_arr hq hsh) (ai_tys_at (by decide)) h1 hd (fun H1 locs1 hP1 _ hS1 => ?_)
  rw [h2, ai_ws_set (h := h) (h' := (h.1, h.2.1, ai_set h.2.2 q j v)) rfl ?_ (fun r hr => ai_cell_eq (fun j => ai_set_ne hr) (fun j => Iff.rfl))] at hP1
  · have K := K H1 locs1 lsM ⟨hW.1, hP1⟩ hS1 hL hZ
    rw [hn] at K
    exact K
  · unfold ai_cell
    rw [hsh]
    simp only [ai_ac]
    congr 4
    funext x
    by_cases hx : x = j.toNat
    · subst hx
      have e : (Int.ofNat j.toNat) = j := Int.toNat_of_nonneg hj.1
      simp only [upd, if_pos, e, ai_set_eq]
    · have hx' : Int.ofNat x ≠ j := fun z => hx (by rw [← z]; rfl)
      simp only [upd, if_neg hx, ai_set_nj hx']
theorem ai_nar_boolean {v : Int} (hv : 0 ≤ v ∧ v ≤ 1) : vp_nar .boolean (Int32.ofInt v) = Int32.ofInt v := by
  have : v = 0 ∨ v = 1 := by omega
  rcases this with rfl | rfl <;> rfl
theorem sn_zast (F : ai_F p e s mid args meth c m) (hK : va_K D vwCl (ai_tys cA) s) {q n : Nat} {j v : Int} (hsh : ai_sh q = some (.inr (2, n))) (hq : q < h.1) (hj : 0 ≤ j ∧ j < Int.ofNat n) (hv : 0 ≤ v ∧ v ≤ 1) (hN : n < 2147483648) (hd : decode (ai_mB m) (ai_pc m i) = .ok (.bastore, 1)) (hn : ai_pc m (i + 1) = ai_pc m i + 1) (K : ai_at l D base b cA p e s mid args below meth c m Q (i + 1) (ls) (st) (k) ((h.1, h.2.1, ai_set h.2.2 q j v))) : ai_at l D base b cA p e s mid args below meth c m Q (i) (ls) (.inl v :: .inl j :: .inr (.inr q) :: st) (k) (h) := by
  intro H locs lsM hW hS hL hZ
  obtain ⟨h1, h2, h3⟩ := ai_ix hj.1 hj.2 hN
  refine va_zast (D := D) (cl := vwCl) (ws := ai_ws (ai_ad base b) cA h) (f := fun j => Int32.ofInt (h.2.2 q (Int.ofNat j))) F.1 F.2.1 hK hW.2 (ai_D hW.1) hS q 2 (ai_at_arr hq hsh) (ai_tys_at (by decide)) h1 hd (fun H1 locs1 hP1 _ hS1 => ?_)
  have hnv : vp_nar .boolean (Int32.ofInt v) = Int32.ofInt v := ai_nar_boolean hv
  rw [hnv] at hP1
  rw [h2, ai_ws_set (h := h) (h' := (h.1, h.2.1, ai_set h.2.2 q j v)) rfl ?_ (fun r hr => ai_cell_eq (fun j => ai_set_ne hr) (fun j => Iff.rfl))] at hP1
  · have K := K H1 locs1 lsM ⟨hW.1, hP1⟩ hS1 hL hZ
    rw [hn] at K
    exact K
  · unfold ai_cell
    rw [hsh]
    simp only [ai_ac]
    congr 4
    funext x
    by_cases hx : x = j.toNat
    · subst hx
      have e : (Int.ofNat j.toNat) = j := Int.toNat_of_nonneg hj.1
      simp only [upd, if_pos, e, ai_set_eq]
    · have hx' : Int.ofNat x ≠ j := fun z => hx (by rw [← z]; rfl)
      simp only [upd, if_neg hx, ai_set_nj hx']
theorem ai_nI {v : Int} (h : 0 ≤ v) : Int32.ofInt v = nI v.toNat := by
  have e : v = Int.ofNat v.toNat := (Int.toNat_of_nonneg h).symm
  rw [e]
  exact Int32.ofInt_eq_ofNat
theorem ai_nar_char {v : Int} (hv : 0 ≤ v ∧ v ≤ 65535) : vp_nar .char (Int32.ofInt v) = Int32.ofInt v := by
  have h1 := (pk_charN (q := v.toNat) (by omega)).1
  rw [ai_nI hv.1]
  unfold vp_nar
  rw [h1]
theorem sn_cast (F : ai_F p e s mid args meth c m) (hK : va_K D vwCl (ai_tys cA) s) {q n : Nat} {j v : Int} (hsh : ai_sh q = some (.inr (3, n))) (hq : q < h.1) (hj : 0 ≤ j ∧ j < Int.ofNat n) (hv : 0 ≤ v ∧ v ≤ 65535) (hN : n < 2147483648) (hd : decode (ai_mB m) (ai_pc m i) = .ok (.castore, 1)) (hn : ai_pc m (i + 1) = ai_pc m i + 1) (K : ai_at l D base b cA p e s mid args below meth c m Q (i + 1) (ls) (st) (k) ((h.1, h.2.1, ai_set h.2.2 q j v))) : ai_at l D base b cA p e s mid args below meth c m Q (i) (ls) (.inl v :: .inl j :: .inr (.inr q) :: st) (k) (h) := by
  intro H locs lsM hW hS hL hZ
  obtain ⟨h1, h2, h3⟩ := ai_ix hj.1 hj.2 hN
  refine va_cast (D := D) (cl := vwCl) (ws := ai_ws (ai_ad base b) cA h) (f := fun j => Int32.ofInt (h.2.2 q (Int.ofNat j))) F.1 F.2.1 hK hW.2 (ai_D hW.1) hS q 3 (ai_at_arr hq hsh) (ai_tys_at (by decide)) h1 hd (fun H1 locs1 hP1 _ hS1 => ?_)
  have hnv : vp_nar .char (Int32.ofInt v) = Int32.ofInt v := ai_nar_char hv
  rw [hnv] at hP1
  rw [h2, ai_ws_set (h := h) (h' := (h.1, h.2.1, ai_set h.2.2 q j v)) rfl ?_ (fun r hr => ai_cell_eq (fun j => ai_set_ne hr) (fun j => Iff.rfl))] at hP1
  · have K := K H1 locs1 lsM ⟨hW.1, hP1⟩ hS1 hL hZ
    rw [hn] at K
    exact K
  · unfold ai_cell
    rw [hsh]
    simp only [ai_ac]
    congr 4
    funext x
    by_cases hx : x = j.toNat
    · subst hx
      have e : (Int.ofNat j.toNat) = j := Int.toNat_of_nonneg hj.1
      simp only [upd, if_pos, e, ai_set_eq]
    · have hx' : Int.ofNat x ≠ j := fun z => hx (by rw [← z]; rfl)
      simp only [upd, if_neg hx, ai_set_nj hx']
theorem sn_last (F : ai_F p e s mid args meth c m) (hK : va_K D vwCl (ai_tys cA) s) {q n : Nat} {j v : Int} (hsh : ai_sh q = some (.inr (1, n))) (hq : q < h.1) (hj : 0 ≤ j ∧ j < Int.ofNat n) (hN : n < 2147483648) (hd : decode (ai_mB m) (ai_pc m i) = .ok (.lastore, 1)) (hn : ai_pc m (i + 1) = ai_pc m i + 1) (K : ai_at l D base b cA p e s mid args below meth c m Q (i + 1) (ls) (st) (k) ((h.1, h.2.1, ai_set h.2.2 q j v))) : ai_at l D base b cA p e s mid args below meth c m Q (i) (ls) (.inr (.inl v) :: .inl j :: .inr (.inr q) :: st) (k) (h) := by
  intro H locs lsM hW hS hL hZ
  obtain ⟨h1, h2, h3⟩ := ai_ix hj.1 hj.2 hN
  refine va_last (D := D) (cl := vwCl) (ws := ai_ws (ai_ad base b) cA h) (f := fun j => Int64.ofInt (h.2.2 q (Int.ofNat j))) F.1 F.2.1 hK hW.2 (ai_D hW.1) hS q 1 (ai_at_arr hq hsh) (ai_tys_at (by decide)) h1 hd (fun H1 locs1 hP1 _ hS1 => ?_)
  rw [h2, ai_ws_set (h := h) (h' := (h.1, h.2.1, ai_set h.2.2 q j v)) rfl ?_ (fun r hr => ai_cell_eq (fun j => ai_set_ne hr) (fun j => Iff.rfl))] at hP1
  · have K := K H1 locs1 lsM ⟨hW.1, hP1⟩ hS1 hL hZ
    rw [hn] at K
    exact K
  · unfold ai_cell
    rw [hsh]
    simp only [ai_ac]
    congr 5
    funext x
    by_cases hx : x = j.toNat
    · subst hx
      have e : (Int.ofNat j.toNat) = j := Int.toNat_of_nonneg hj.1
      simp only [vp_updL, if_pos, e, ai_set_eq]
    · have hx' : Int.ofNat x ≠ j := fun z => hx (by rw [← z]; rfl)
      simp only [vp_updL, if_neg hx, ai_set_nj hx']
theorem sn_len (F : ai_F p e s mid args meth c m) (hK : va_K D vwCl (ai_tys cA) s) {q n kd : Nat} (hsh : ai_sh q = some (.inr (kd, n))) (hkd : kd < 5) (hq : q < h.1) (hd : decode (ai_mB m) (ai_pc m i) = .ok (.arraylength, 1)) (hn : ai_pc m (i + 1) = ai_pc m i + 1) (K : ai_at l D base b cA p e s mid args below meth c m Q (i + 1) (ls) (.inl (Int.ofNat n) :: st) (k) (h)) : ai_at l D base b cA p e s mid args below meth c m Q (i) (ls) (.inr (.inr q) :: st) (k) (h) := by
  intro H locs lsM hW hS hL hZ
  have K := K H locs lsM hW hS hL hZ
  rw [hn] at K
  exact va_alen (D := D) (cl := vwCl) (ws := ai_ws (ai_ad base b) cA h) F.1 F.2.1 hK hW.2 q kd (ai_at_arr hq hsh) (ai_tys_at hkd) (v := Int32.ofInt (Int.ofNat n)) (Int32.ofInt_eq_ofNat).symm hd K
theorem sn_aast (F : ai_F p e s mid args meth c m) (hK : va_K D vwCl (ai_tys cA) s) {q n v ci : Nat} {j : Int} {T : u_T} {N : Nat} (hcl : vwCl[ci]? = some (ai_Store, T, N)) (hsh : ai_sh q = some (.inr (4, n))) (hq : q < h.1) (hvs : ai_sh v = some (.inl ci)) (hvq : v < h.1) (hv : v = ai_rf q j.toNat) (hj : 0 ≤ j ∧ j < Int.ofNat n) (hN : n < 2147483648) (hd : decode (ai_mB m) (ai_pc m i) = .ok (.aastore, 1)) (hn : ai_pc m (i + 1) = ai_pc m i + 1) (K : ai_at l D base b cA p e s mid args below meth c m Q (i + 1) (ls) (st) (k) ((h.1, h.2.1.filter (fun z => !decide (z = (q, j.toNat))), h.2.2))) : ai_at l D base b cA p e s mid args below meth c m Q (i) (ls) (.inr (.inr v) :: .inl j :: .inr (.inr q) :: st) (k) (h) := by
  intro H locs lsM hW hS hL hZ
  obtain ⟨h1, h2, h3⟩ := ai_ix hj.1 hj.2 hN
  refine va_astq (D := D) (cl := vwCl) (ws := ai_ws (ai_ad base b) cA h) (r := (ai_Store, T, N)) (f := fun j => if (q, j) ∈ h.2.1 then none else some (ai_ad base b (ai_rf q j))) F.1 F.2.1 hK hW.2 (ai_D hW.1) hS q 4 v ci (ai_at_arr hq hsh) (ai_tys_at (by decide)) (ai_at_obj hvq hvs) hcl h1 hd (fun H1 locs1 hP1 _ hS1 => ?_)
  rw [h2, ai_ws_set (h := h) (h' := (h.1, h.2.1.filter (fun z => !decide (z = (q, j.toNat))), h.2.2)) rfl ?_ (fun r hr => ai_cell_eq (fun j => rfl) (fun x => ?_))] at hP1
  · have K := K H1 locs1 lsM ⟨hW.1, hP1⟩ hS1 hL hZ
    rw [hn] at K
    exact K
  · unfold ai_cell
    rw [hsh]
    simp only [ai_ac]
    congr 7
    funext x
    by_cases hx : x = j.toNat
    · subst hx
      simp [va_up, hv]
    · simp [va_up, hx]
  · simp only [List.mem_filter, Bool.not_eq_true', decide_eq_false_iff_not, Prod.mk.injEq, and_iff_left_iff_imp]
    intro _ z
    exact hr z.1
theorem sn_copyi (F : ai_F p e s mid args meth c m) (hK : va_K D vwCl (ai_tys cA) s) {qp qq np nq idx : Nat} {sp dp n : Int} (hw1 : Cond.methodLink (ai_mY m).cls idx arraycopyName ∈ ai_WS) (hw2 : Cond.native arraycopyName ∈ ai_WS) (hw3 : Cond.static arraycopyName ∈ ai_WS) (hw4 : Cond.initialized "java/lang/System" ∈ ai_WS) (hsp : ai_sh qp = some (.inr (0, np))) (hsq : ai_sh qq = some (.inr (0, nq))) (hqp : qp < h.1) (hqq : qq < h.1) (hr : 0 ≤ sp ∧ 0 ≤ dp ∧ 0 ≤ n ∧ sp + n ≤ Int.ofNat np ∧ dp + n ≤ Int.ofNat nq) (hN : np < 2147483648 ∧ nq < 2147483648) (hf : 1 ≤ (ai_rm m).frames) (hlo : ai_cats st + (nativeFrameWords "java/lang/System" "arraycopy" 5 + 11) ≤ (ai_rm m).locals) (hd : decode (ai_mB m) (ai_pc m i) = .ok (.invokestatic idx, 3)) (hn : ai_pc m (i + 1) = ai_pc m i + 3) (K : ai_at l D base b cA p e s mid args below meth c m Q (i + 1) (ls) (st) (k) ((h.1, h.2.1, ai_cpy h.2.2 qp qq sp dp n))) : ai_at l D base b cA p e s mid args below meth c m Q (i) (ls) (.inl n :: .inl dp :: .inr (.inr qq) :: .inl sp :: .inr (.inr qp) :: st) (k) (h) := by
  intro H locs lsM hW hS hL hZ
  obtain ⟨r1, r2, r3, r4, r5⟩ := hr
  have r4' : sp + n ≤ (np : Int) := r4
  have r5' : dp + n ≤ (nq : Int) := r5
  have es : (Int32.ofInt sp).toNatClampNeg = sp.toNat := Int32.toNatClampNeg_ofInt_of_le (by omega) (by omega)
  have ed : (Int32.ofInt dp).toNatClampNeg = dp.toNat := Int32.toNatClampNeg_ofInt_of_le (by omega) (by omega)
  have en : (Int32.ofInt n).toNatClampNeg = n.toNat := Int32.toNatClampNeg_ofInt_of_le (by omega) (by omega)
  have g : ∀ x : Int, 0 ≤ x → x ≤ 2147483647 → ¬ Int32.ofInt x < 0 := fun x h1 h2 z => by
    have := (ai_lt (a := x) (b := 0) ⟨by omega, by omega⟩ ai_r0).mp z
    omega
  refine va_copyi (D := D) (cl := vwCl) (ws := ai_ws (ai_ad base b) cA h) (f := fun j => Int32.ofInt (h.2.2 qp (Int.ofNat j))) (g := fun j => Int32.ofInt (h.2.2 qq (Int.ofNat j))) (ty := .int) F.1 F.2.1 (F.2.2.1.trans hL.1.symm) F.2.2.2.2.2.1 (F.2.2.2.2.1 _ hw1) (F.2.2.2.2.1 _ hw2) (F.2.2.2.2.1 _ hw3) (F.2.2.2.2.1 _ hw4) hK hW.2 (ai_D hW.1) hS qp qq 0 0 (ai_at_arr hqp hsp) (ai_at_arr hqq hsq) (ai_tys_at (by decide)) (ai_tys_at (by decide)) rfl (g sp r1 (by omega)) (g dp r2 (by omega)) (g n r3 (by omega)) (by rw [es, en]; omega) (by rw [ed, en]; omega) (fun _ _ => rfl) hf (by rw [ai_cats_eq]; exact hlo) hd (fun H1 locs1 hP1 _ hS1 => ?_)
  rw [es, ed, en, ai_ws_set (h := h) (h' := (h.1, h.2.1, ai_cpy h.2.2 qp qq sp dp n)) rfl ?_ (fun r hr => ai_cell_eq (fun j => by simp [ai_cpy, hr]) (fun j => Iff.rfl))] at hP1
  · have K := K H1 locs1 lsM ⟨hW.1, hP1⟩ hS1 hL hZ
    rw [hn] at K
    exact K
  · unfold ai_cell
    rw [hsq]
    simp only [ai_ac]
    congr 4
    funext x
    simp only [va_cpy, ai_cpy, if_true]
    by_cases hx : dp.toNat ≤ x ∧ x < dp.toNat + n.toNat
    · have hx' : dp ≤ Int.ofNat x ∧ Int.ofNat x < dp + n := by
        constructor
        · have := hx.1; show dp ≤ (x : Int); omega
        · have := hx.2; show (x : Int) < dp + n; omega
      have ex : sp + (Int.ofNat x - dp) = Int.ofNat (sp.toNat + (x - dp.toNat)) := by
        show sp + ((x : Int) - dp) = ((sp.toNat + (x - dp.toNat) : Nat) : Int)
        omega
      rw [if_pos hx, if_pos hx', ex]
    · have hx' : ¬ (dp ≤ Int.ofNat x ∧ Int.ofNat x < dp + n) := fun z => hx (by
        have z1 : dp ≤ (x : Int) := z.1
        have z2 : (x : Int) < dp + n := z.2
        omega)
      rw [if_neg hx, if_neg hx']
theorem sn_copyl (F : ai_F p e s mid args meth c m) (hK : va_K D vwCl (ai_tys cA) s) {qp qq np nq idx : Nat} {sp dp n : Int} (hw1 : Cond.methodLink (ai_mY m).cls idx arraycopyName ∈ ai_WS) (hw2 : Cond.native arraycopyName ∈ ai_WS) (hw3 : Cond.static arraycopyName ∈ ai_WS) (hw4 : Cond.initialized "java/lang/System" ∈ ai_WS) (hsp : ai_sh qp = some (.inr (1, np))) (hsq : ai_sh qq = some (.inr (1, nq))) (hqp : qp < h.1) (hqq : qq < h.1) (hr : 0 ≤ sp ∧ 0 ≤ dp ∧ 0 ≤ n ∧ sp + n ≤ Int.ofNat np ∧ dp + n ≤ Int.ofNat nq) (hN : np < 2147483648 ∧ nq < 2147483648) (hf : 1 ≤ (ai_rm m).frames) (hlo : ai_cats st + (nativeFrameWords "java/lang/System" "arraycopy" 5 + 11) ≤ (ai_rm m).locals) (hd : decode (ai_mB m) (ai_pc m i) = .ok (.invokestatic idx, 3)) (hn : ai_pc m (i + 1) = ai_pc m i + 3) (K : ai_at l D base b cA p e s mid args below meth c m Q (i + 1) (ls) (st) (k) ((h.1, h.2.1, ai_cpy h.2.2 qp qq sp dp n))) : ai_at l D base b cA p e s mid args below meth c m Q (i) (ls) (.inl n :: .inl dp :: .inr (.inr qq) :: .inl sp :: .inr (.inr qp) :: st) (k) (h) := by
  intro H locs lsM hW hS hL hZ
  obtain ⟨r1, r2, r3, r4, r5⟩ := hr
  have r4' : sp + n ≤ (np : Int) := r4
  have r5' : dp + n ≤ (nq : Int) := r5
  have es : (Int32.ofInt sp).toNatClampNeg = sp.toNat := Int32.toNatClampNeg_ofInt_of_le (by omega) (by omega)
  have ed : (Int32.ofInt dp).toNatClampNeg = dp.toNat := Int32.toNatClampNeg_ofInt_of_le (by omega) (by omega)
  have en : (Int32.ofInt n).toNatClampNeg = n.toNat := Int32.toNatClampNeg_ofInt_of_le (by omega) (by omega)
  have g : ∀ x : Int, 0 ≤ x → x ≤ 2147483647 → ¬ Int32.ofInt x < 0 := fun x h1 h2 z => by
    have := (ai_lt (a := x) (b := 0) ⟨by omega, by omega⟩ ai_r0).mp z
    omega
  refine va_copyl (D := D) (cl := vwCl) (ws := ai_ws (ai_ad base b) cA h) (f := fun j => Int64.ofInt (h.2.2 qp (Int.ofNat j))) (g := fun j => Int64.ofInt (h.2.2 qq (Int.ofNat j))) (ty := .long) F.1 F.2.1 (F.2.2.1.trans hL.1.symm) F.2.2.2.2.2.1 (F.2.2.2.2.1 _ hw1) (F.2.2.2.2.1 _ hw2) (F.2.2.2.2.1 _ hw3) (F.2.2.2.2.1 _ hw4) hK hW.2 (ai_D hW.1) hS qp qq 1 1 (ai_at_arr hqp hsp) (ai_at_arr hqq hsq) (ai_tys_at (by decide)) (ai_tys_at (by decide)) rfl (g sp r1 (by omega)) (g dp r2 (by omega)) (g n r3 (by omega)) (by rw [es, en]; omega) (by rw [ed, en]; omega) (fun _ _ => rfl) hf (by rw [ai_cats_eq]; exact hlo) hd (fun H1 locs1 hP1 _ hS1 => ?_)
  rw [es, ed, en, ai_ws_set (h := h) (h' := (h.1, h.2.1, ai_cpy h.2.2 qp qq sp dp n)) rfl ?_ (fun r hr => ai_cell_eq (fun j => by simp [ai_cpy, hr]) (fun j => Iff.rfl))] at hP1
  · have K := K H1 locs1 lsM ⟨hW.1, hP1⟩ hS1 hL hZ
    rw [hn] at K
    exact K
  · unfold ai_cell
    rw [hsq]
    simp only [ai_ac]
    congr 5
    funext x
    simp only [va_cpy, ai_cpy, if_true]
    by_cases hx : dp.toNat ≤ x ∧ x < dp.toNat + n.toNat
    · have hx' : dp ≤ Int.ofNat x ∧ Int.ofNat x < dp + n := by
        constructor
        · have := hx.1; show dp ≤ (x : Int); omega
        · have := hx.2; show (x : Int) < dp + n; omega
      have ex : sp + (Int.ofNat x - dp) = Int.ofNat (sp.toNat + (x - dp.toNat)) := by
        show sp + ((x : Int) - dp) = ((sp.toNat + (x - dp.toNat) : Nat) : Int)
        omega
      rw [if_pos hx, if_pos hx', ex]
    · have hx' : ¬ (dp ≤ Int.ofNat x ∧ Int.ofNat x < dp + n) := fun z => hx (by
        have z1 : dp ≤ (x : Int) := z.1
        have z2 : (x : Int) < dp + n := z.2
        omega)
      rw [if_neg hx, if_neg hx']
theorem sn_labs (F : ai_F p e s mid args meth c m) (hK : va_K D vwCl (ai_tys cA) s) {idx : Nat} {a0 : Int} (hw1 : Cond.methodLink (ai_mY m).cls idx Lib.MathLoose.abs_long.x ∈ ai_WS) (hw2 : Cond.static Lib.MathLoose.abs_long.x ∈ ai_WS) (hw3 : Cond.initialized "java/lang/Math" ∈ ai_WS) (hw4 : Cond.code Lib.MathLoose.abs_long.x Lib.MathLoose.abs_long.code 2 (some .long) ∈ ai_WS) (hr : ai_r8 a0) (hf : 1 ≤ (ai_rm m).frames) (hlo : ai_cats st + 13 ≤ (ai_rm m).locals) (hkc : k.1 ≤ (ai_rm m).cells) (hks : k.2 ≤ (ai_rm m).slots) (hd : decode (ai_mB m) (ai_pc m i) = .ok (.invokestatic idx, 3)) (hn : ai_pc m (i + 1) = ai_pc m i + 3) (K : ai_at l D base b cA p e s mid args below meth c m Q (i + 1) (ls) (.inr (.inl (if 0 < a0 then a0 else -a0)) :: st) (k) (h)) : ai_at l D base b cA p e s mid args below meth c m Q (i) (ls) (.inr (.inl a0) :: st) (k) (h) := by
  intro H locs lsM hW hS hL hZ
  have K := K H locs lsM hW hS hL hZ
  rw [hn] at K
  have ea : Int64.ofInt (if 0 < a0 then a0 else -a0) = if 0 < Int64.ofInt a0 then Int64.ofInt a0 else -Int64.ofInt a0 := by
    have h1 : (0 : Int64) < Int64.ofInt a0 ↔ 0 < a0 := ai_lt8 (a := 0) (b := a0) ai_r80 hr
    by_cases h0 : 0 < a0
    · rw [if_pos h0, if_pos (h1.mpr h0)]
    · rw [if_neg h0, if_neg (fun z => h0 (h1.mp z)), Int64.ofInt_neg]
  simp only [List.map_cons, ai_rn] at K ⊢
  rw [ea] at K
  exact va_mabs_long F.1 F.2.1 (F.2.2.1.trans hL.1.symm) F.2.2.2.2.2.1 (F.2.2.2.2.1 _ hw1) (F.2.2.2.2.1 _ hw2) (F.2.2.2.2.1 _ hw3) (F.2.2.2.2.1 _ hw4) hf (by rw [ai_cats_eq]; exact hlo) hkc hks hd K
theorem sn_imin (F : ai_F p e s mid args meth c m) (hK : va_K D vwCl (ai_tys cA) s) {idx : Nat} {a0 b0 : Int} (hw1 : Cond.methodLink (ai_mY m).cls idx Lib.Math.min.name ∈ ai_WS) (hw2 : Cond.static Lib.Math.min.name ∈ ai_WS) (hw3 : Cond.initialized "java/lang/Math" ∈ ai_WS) (hw4 : Cond.code Lib.Math.min.name Lib.Math.min.code 2 (some .int) ∈ ai_WS) (ha : ai_r a0) (hb : ai_r b0) (hf : 1 ≤ (ai_rm m).frames) (hlo : ai_cats st + 13 ≤ (ai_rm m).locals) (hkc : k.1 ≤ (ai_rm m).cells) (hks : k.2 ≤ (ai_rm m).slots) (hd : decode (ai_mB m) (ai_pc m i) = .ok (.invokestatic idx, 3)) (hn : ai_pc m (i + 1) = ai_pc m i + 3) (K : ai_at l D base b cA p e s mid args below meth c m Q (i + 1) (ls) (.inl (if b0 < a0 then b0 else a0) :: st) (k) (h)) : ai_at l D base b cA p e s mid args below meth c m Q (i) (ls) (.inl b0 :: .inl a0 :: st) (k) (h) := by
  intro H locs lsM hW hS hL hZ
  have K := K H locs lsM hW hS hL hZ
  rw [hn] at K
  have ea : Int32.ofInt (if b0 < a0 then b0 else a0) = if Int32.ofInt b0 < Int32.ofInt a0 then Int32.ofInt b0 else Int32.ofInt a0 := by
    have h1 := ai_lt hb ha
    by_cases h0 : b0 < a0
    · rw [if_pos h0, if_pos (h1.mpr h0)]
    · rw [if_neg h0, if_neg (fun z => h0 (h1.mp z))]
  simp only [List.map_cons, ai_rn] at K ⊢
  rw [ea] at K
  exact va_mmin F.1 F.2.1 (F.2.2.1.trans hL.1.symm) F.2.2.2.2.2.1 (F.2.2.2.2.1 _ hw1) (F.2.2.2.2.1 _ hw2) (F.2.2.2.2.1 _ hw3) (F.2.2.2.2.1 _ hw4) hf (by rw [ai_cats_eq]; exact hlo) hkc hks hd K
theorem sn_sld (F : ai_F p e s mid args meth c m) {j : Int} (hs : ai_scr sc base b s) (hj : 0 ≤ j ∧ j < sc.1) (hbs : base ≤ s.heap.size) (hd : decode (ai_mB m) (ai_pc m i) = .ok (.iaload, 1)) (hn : ai_pc m (i + 1) = ai_pc m i + 1) (K : ai_at l D base b cA p e s mid args below meth c m Q (i + 1) (ls) (.inl (sc.2 j) :: st) (k) (h)) : ai_at l D base b cA p e s mid args below meth c m Q (i) (ls) (.inl j :: .inr (.inr 100) :: st) (k) (h) := by
  intro H locs lsM hW hS hL hZ
  have K := K H locs lsM hW hS hL hZ
  rw [hn] at K
  obtain ⟨L, xs, hX, hb, hL2, e1, e2⟩ := hs
  rw [e1] at hj
  obtain ⟨h1, h2, h3⟩ := ai_ix hj.1 hj.2 hL2
  refine va_sld (A := fun q => base ≤ q) (H0 := s.heap) F.1 F.2.1 hX (Nat.lt_of_lt_of_le hb hbs) (Nat.not_le.mpr hb) hS h1 hd ?_
  have e : (Int.ofNat j.toNat) = j := Int.toNat_of_nonneg hj.1
  rw [h2, e2 _ h3, e]
  exact K
theorem sn_slen (F : ai_F p e s mid args meth c m) (hs : ai_scr sc base b s) (hbs : base ≤ s.heap.size) (hd : decode (ai_mB m) (ai_pc m i) = .ok (.arraylength, 1)) (hn : ai_pc m (i + 1) = ai_pc m i + 1) (K : ai_at l D base b cA p e s mid args below meth c m Q (i + 1) (ls) (.inl sc.1 :: st) (k) (h)) : ai_at l D base b cA p e s mid args below meth c m Q (i) (ls) (.inr (.inr 100) :: st) (k) (h) := by
  intro H locs lsM hW hS hL hZ
  have K := K H locs lsM hW hS hL hZ
  rw [hn] at K
  obtain ⟨L, xs, hX, hb, hL2, e1, e2⟩ := hs
  refine va_slen (A := fun q => base ≤ q) (H0 := s.heap) F.1 F.2.1 hX (Nat.lt_of_lt_of_le hb hbs) (Nat.not_le.mpr hb) hS hd ?_
  rw [e1] at K
  simp only [List.map_cons, ai_rn] at K
  rw [show Int32.ofInt (Int.ofNat L) = Int32.ofNat L from Int32.ofInt_eq_ofNat] at K
  exact K
end AIH
