/-! THE MACHINE OF PLACES: the same instructions over a heap of places (numbers) and whole numbers; its steps are stated goal first. ai_V: an int, a long, a reference to a place. ai_H: how many places are made, which reference slots are not set yet, the contents. -/
def ai_lg (ls : ai_L) (n : Nat) : Option ai_V := match ai_nth ls n with
  | some (some v) => some v
  | _ => none
def ai_put : ai_L → Nat → Option ai_V → ai_L
  | [], _, _ => []
  | _ :: l, 0, v => v :: l
  | a :: l, n + 1, v => a :: ai_put l n v
def ai_kill (ls : ai_L) (n : Nat) : ai_L := match n with
  | 0 => ls
  | k + 1 => match ai_lg ls k with
    | some (.inr (.inl _)) => ai_put ls k none
    | _ => ls
def ai_s1 (ls : ai_L) (n : Nat) (v : ai_V) : ai_L := ai_put (ai_kill ls n) n (some v)
def ai_s2 (ls : ai_L) (n : Nat) (v : ai_V) : ai_L := ai_put (ai_put (ai_kill ls n) (n + 1) none) n (some v)
def ai_msk : List Bool → ai_L → ai_L
  | [], ls => ls
  | _ :: _, [] => []
  | true :: b, a :: l => a :: ai_msk b l
  | false :: b, _ :: l => none :: ai_msk b l
def ai_set (σ : ai_S) (p : Nat) (i v : Int) : ai_S := fun q j => if q = p then (if j = i then v else σ q j) else σ q j
def ai_zero (σ : ai_S) (p : Nat) : ai_S := fun q j => if q = p then 0 else σ q j
def ai_cpy (σ : ai_S) (p q : Nat) (sp dp n : Int) : ai_S := fun r j => if r = q then (if dp ≤ j ∧ j < dp + n then σ p (sp + (j - dp)) else σ r j) else σ r j
def ai_ck (b : Bool) (P : Prop) : Prop := match b with
  | true => P
  | false => False
def ai_r (x : Int) : Prop := -2147483648 ≤ x ∧ x ≤ 2147483647
def ai_r8 (x : Int) : Prop := -9223372036854775808 ≤ x ∧ x ≤ 9223372036854775807
def ai_cat (v : ai_V) : Nat := match v with
  | .inr (.inl _) => 2
  | _ => 1
def ai_cats : List ai_V → Nat
  | [] => 0
  | v :: l => ai_cat v + ai_cats l
def ai_tk : Nat → List ai_V → List ai_V → Option (List ai_V × List ai_V)
  | 0, acc, st => some (acc, st)
  | _ + 1, _, [] => none
  | n + 1, acc, v :: st => ai_tk n (v :: acc) st
def ai_fl : List ai_V → ai_L
  | [] => []
  | .inr (.inl x) :: r => some (.inr (.inl x)) :: none :: ai_fl r
  | .inr (.inr x) :: r => some (.inr (.inr x)) :: ai_fl r
  | .inl x :: r => some (.inl x) :: ai_fl r
def ai_pd : Nat → ai_L → ai_L
  | 0, _ => []
  | n + 1, [] => none :: ai_pd n []
  | n + 1, a :: l => a :: ai_pd n l
def ai_en (n : Nat) (args : List ai_V) : ai_L := ai_pd n (ai_fl args)
def ai_and (a b : Int) : Int := (Int32.ofInt a &&& Int32.ofInt b).toInt
def ai_or (a b : Int) : Int := (Int32.ofInt a ||| Int32.ofInt b).toInt
def ai_xor (a b : Int) : Int := (Int32.ofInt a ^^^ Int32.ofInt b).toInt
def ai_shl (a b : Int) : Int := (Int32.ofInt a <<< (Int32.ofInt b &&& 31)).toInt
def ai_shr (a b : Int) : Int := (Int32.ofInt a >>> (Int32.ofInt b &&& 31)).toInt
def ai_div (a b : Int) : Int := (Int32.ofInt a / Int32.ofInt b).toInt
def ai_rem (a b : Int) : Int := (Int32.ofInt a - Int32.ofInt a / Int32.ofInt b * Int32.ofInt b).toInt
def ai_land (a b : Int) : Int := (Int64.ofInt a &&& Int64.ofInt b).toInt
def ai_lor (a b : Int) : Int := (Int64.ofInt a ||| Int64.ofInt b).toInt
def ai_lshl (a b : Int) : Int := (Int64.ofInt a <<< ((Int32.ofInt b).toInt64 &&& 63)).toInt
def ai_lshr (a b : Int) : Int := (Int64.ofInt a >>> ((Int32.ofInt b).toInt64 &&& 63)).toInt
def ai_ldiv (a b : Int) : Int := (Int64.ofInt a / Int64.ofInt b).toInt
def ai_lrem (a b : Int) : Int := (Int64.ofInt a - Int64.ofInt a / Int64.ofInt b * Int64.ofInt b).toInt
def ai_i2c (a : Int) : Int := ((Int32.ofInt a).toUInt32 % 65536).toInt32.toInt
def ai_cmp (a b : Int) : Int := if a < b then -1 else if a = b then 0 else 1
def ai_cd (c : ClassFile.Cond) (a b : Int) : Prop := match c with
  | .eq => a = b
  | .ne => ¬ a = b
  | .lt => a < b
  | .ge => b ≤ a
  | .gt => b < a
  | .le => a ≤ b
def ai_nn (b : Bool) (u : List (Nat × Nat)) (p : Nat × Nat) : Bool := match u with
  | [] => b
  | q :: u => if q = p then !b else ai_nn b u p
def ai_zz (z z' n : Nat) : Bool := match Nat.ble 92 z with
  | true => Nat.ble 92 z'
  | false => Nat.beq z' (z + n)
/-- what a call's outcome must be, and what goes on behind it -/
def ai_ret (X : ai_J) (m' : Nat) (args : ai_L) (h : ai_H) (K : Option ai_V → ai_H → Prop) : Prop :=
  ∃ P : ai_O → Prop, X m' 0 args [] (0, 0) h P ∧ ∀ o, P o → ∃ v h', o = (.inl v, h') ∧ K v h'
def ai_thr (X : ai_J) (m' : Nat) (args : ai_L) (h : ai_H) (K : Nat → ai_H → Prop) : Prop :=
  ∃ P : ai_O → Prop, X m' 0 args [] (0, 0) h P ∧ ∀ o, P o → ∃ v h', o = (.inr v, h') ∧ K v h'
section AIX
variable (sc : Int × (Int → Int)) (X : ai_J) (m i : Nat) (ls : ai_L) (st : List ai_V) (k : Nat × Nat) (h : ai_H) (Q : ai_O → Prop)
def ai_pu (v : ai_V) : Prop := X m (i + 1) ls (v :: st) k h Q
def ai_li (n : Nat) : Prop := match ai_lg ls n with
  | some (.inl v) => X m (i + 1) ls (.inl v :: st) k h Q
  | _ => False
def ai_ll (n : Nat) : Prop := match ai_lg ls n with
  | some (.inr (.inl v)) => X m (i + 1) ls (.inr (.inl v) :: st) k h Q
  | _ => False
def ai_la (n : Nat) : Prop := match ai_lg ls n with
  | some (.inr (.inr v)) => X m (i + 1) ls (.inr (.inr v) :: st) k h Q
  | _ => False
def ai_si (n : Nat) : Prop := match st with
  | .inl v :: r => X m (i + 1) (ai_s1 ls n (.inl v)) r k h Q
  | _ => False
def ai_sl (n : Nat) : Prop := match st with
  | .inr (.inl v) :: r => X m (i + 1) (ai_s2 ls n (.inr (.inl v))) r k h Q
  | _ => False
def ai_sa (n : Nat) : Prop := match st with
  | .inr (.inr v) :: r => X m (i + 1) (ai_s1 ls n (.inr (.inr v))) r k h Q
  | _ => False
def ai_inc (n : Nat) (d : Int) : Prop := match ai_lg ls n with
  | some (.inl v) => X m (i + 1) (ai_s1 ls n (.inl (v + d))) st k h Q
  | _ => False
def ai_i2 (f : Int → Int → Int) : Prop := match st with
  | .inl b :: .inl a :: r => X m (i + 1) ls (.inl (f a b) :: r) k h Q
  | _ => False
def ai_i2z (f : Int → Int → Int) : Prop := match st with
  | .inl b :: .inl a :: r => (ai_r b ∧ ¬ b = 0) ∧ X m (i + 1) ls (.inl (f a b) :: r) k h Q
  | _ => False
def ai_l2 (f : Int → Int → Int) : Prop := match st with
  | .inr (.inl b) :: .inr (.inl a) :: r => X m (i + 1) ls (.inr (.inl (f a b)) :: r) k h Q
  | _ => False
def ai_l2z (f : Int → Int → Int) : Prop := match st with
  | .inr (.inl b) :: .inr (.inl a) :: r => (ai_r8 b ∧ ¬ b = 0) ∧ X m (i + 1) ls (.inr (.inl (f a b)) :: r) k h Q
  | _ => False
def ai_lsh (f : Int → Int → Int) : Prop := match st with
  | .inl b :: .inr (.inl a) :: r => X m (i + 1) ls (.inr (.inl (f a b)) :: r) k h Q
  | _ => False
def ai_i1 (f : Int → Int) : Prop := match st with
  | .inl a :: r => X m (i + 1) ls (.inl (f a) :: r) k h Q
  | _ => False
def ai_l1 (f : Int → Int) : Prop := match st with
  | .inr (.inl a) :: r => X m (i + 1) ls (.inr (.inl (f a)) :: r) k h Q
  | _ => False
def ai_i2l : Prop := match st with
  | .inl a :: r => ai_r a ∧ X m (i + 1) ls (.inr (.inl a) :: r) k h Q
  | _ => False
def ai_l2i : Prop := match st with
  | .inr (.inl a) :: r => X m (i + 1) ls (.inl a :: r) k h Q
  | _ => False
def ai_lcmp : Prop := match st with
  | .inr (.inl b) :: .inr (.inl a) :: r => (ai_r8 a ∧ ai_r8 b) ∧ X m (i + 1) ls (.inl (ai_cmp a b) :: r) k h Q
  | _ => False
def ai_if0 (c : ClassFile.Cond) (t : Nat) : Prop := match st with
  | .inl a :: r => ai_r a ∧ (ai_cd c a 0 → X m t ls r k h Q) ∧ (¬ ai_cd c a 0 → X m (i + 1) ls r k h Q)
  | _ => False
def ai_if2 (c : ClassFile.Cond) (t : Nat) : Prop := match st with
  | .inl b :: .inl a :: r => (ai_r a ∧ ai_r b) ∧ (ai_cd c a b → X m t ls r k h Q) ∧ (¬ ai_cd c a b → X m (i + 1) ls r k h Q)
  | _ => False
def ai_sw (ts : List Nat) (t : Nat) : Prop := match st with
  | .inl a :: r => ai_r a ∧ (∀ (j s : Nat), ai_nth ts j = some s → a = Int.ofNat j → X m s ls r k h Q) ∧ ((a < 0 ∨ Int.ofNat ts.length ≤ a) → X m t ls r k h Q)
  | _ => False
def ai_dup : Prop := match st with
  | .inl v :: r => X m (i + 1) ls (.inl v :: .inl v :: r) k h Q
  | .inr (.inr v) :: r => X m (i + 1) ls (.inr (.inr v) :: .inr (.inr v) :: r) k h Q
  | _ => False
def ai_dup2 : Prop := match st with
  | .inl v :: .inr (.inr w) :: r => X m (i + 1) ls (.inl v :: .inr (.inr w) :: .inl v :: .inr (.inr w) :: r) k h Q
  | _ => False
def ai_pop : Prop := match st with
  | .inl _ :: r => X m (i + 1) ls r k h Q
  | _ => False
def ai_get (x : ai_X) : Prop := match st with
  | .inr (.inr p) :: r => match ai_sh p with
    | some (.inl c) => ai_ck (Nat.beq c x.1 && Nat.blt p h.1) (match x.2.2.1 with
      | 0 => X m (i + 1) ls (.inl (h.2.2 p (Int.ofNat x.2.1)) :: r) k h Q
      | 1 => X m (i + 1) ls (.inr (.inl (h.2.2 p (Int.ofNat x.2.1))) :: r) k h Q
      | 2 => ai_ck (ai_nn true h.2.1 (p, x.2.1)) (X m (i + 1) ls (.inr (.inr (ai_rf p x.2.1)) :: r) k h Q)
      | 3 => X m (i + 1) ls (.inl (h.2.2 p (Int.ofNat x.2.1)) :: r) k h Q
      | _ => ai_ck (ai_nn true h.2.1 (p, x.2.1)) (X m (i + 1) ls (.inr (.inr (h.2.2 p (Int.ofNat x.2.1)).toNat) :: r) k h Q))
    | _ => False
  | _ => False
def ai_pf (x : ai_X) : Prop := match st with
  | v :: .inr (.inr p) :: r => match ai_sh p with
    | some (.inl c) => ai_ck (Nat.beq c x.1 && Nat.blt p h.1) (match x.2.2.1, v with
      | 0, .inl v => X m (i + 1) ls r k (h.1, h.2.1, ai_set h.2.2 p (Int.ofNat x.2.1) v) Q
      | 1, .inr (.inl v) => X m (i + 1) ls r k (h.1, h.2.1, ai_set h.2.2 p (Int.ofNat x.2.1) v) Q
      | 2, .inr (.inr v) => ai_ck (Nat.beq v (ai_rf p x.2.1)) (X m (i + 1) ls r k (h.1, h.2.1.filter (fun q => !decide (q = (p, x.2.1))), h.2.2) Q)
      | 3, .inl v => (0 ≤ v ∧ v ≤ 1) ∧ X m (i + 1) ls r k (h.1, h.2.1, ai_set h.2.2 p (Int.ofNat x.2.1) v) Q
      | 4, .inr (.inr v) => X m (i + 1) ls r k (h.1, h.2.1.filter (fun q => !decide (q = (p, x.2.1))), ai_set h.2.2 p (Int.ofNat x.2.1) (Int.ofNat v)) Q
      | _, _ => False)
    | _ => False
  | _ => False
def ai_ald (kd : Nat) : Prop := match st with
  | .inl j :: .inr (.inr p) :: r => match ai_sh p with
    | some (.inr (kk, n)) => ai_ck (Nat.beq kk kd && Nat.blt p h.1) ((0 ≤ j ∧ j < Int.ofNat n) ∧ X m (i + 1) ls (.inl (h.2.2 p j) :: r) k h Q)
    | none => ai_ck (Nat.beq p 100 && Nat.beq kd 0 && Nat.beq m ai_law) ((0 ≤ j ∧ j < sc.1) ∧ X m (i + 1) ls (.inl (sc.2 j) :: r) k h Q)
    | _ => False
  | _ => False
def ai_lald : Prop := match st with
  | .inl j :: .inr (.inr p) :: r => match ai_sh p with
    | some (.inr (kk, n)) => ai_ck (Nat.beq kk 1 && Nat.blt p h.1) ((0 ≤ j ∧ j < Int.ofNat n) ∧ X m (i + 1) ls (.inr (.inl (h.2.2 p j)) :: r) k h Q)
    | _ => False
  | _ => False
def ai_aald : Prop := match st with
  | .inl j :: .inr (.inr p) :: r => match ai_sh p with
    | some (.inr (kk, n)) => ai_ck (Nat.beq kk 4 && Nat.blt p h.1 && h.2.1.isEmpty) ((0 ≤ j ∧ j < Int.ofNat n) ∧ X m (i + 1) ls (.inr (.inr (ai_rf p j.toNat)) :: r) k h Q)
    | _ => False
  | _ => False
def ai_ast (kd : Nat) (lo hi : Int) : Prop := match st with
  | .inl v :: .inl j :: .inr (.inr p) :: r => match ai_sh p with
    | some (.inr (kk, n)) => ai_ck (Nat.beq kk kd && Nat.blt p h.1) (match kd with
      | 0 => (0 ≤ j ∧ j < Int.ofNat n) ∧ X m (i + 1) ls r k (h.1, h.2.1, ai_set h.2.2 p j v) Q
      | _ => (0 ≤ j ∧ j < Int.ofNat n) ∧ (lo ≤ v ∧ v ≤ hi) ∧ X m (i + 1) ls r k (h.1, h.2.1, ai_set h.2.2 p j v) Q)
    | _ => False
  | _ => False
def ai_last : Prop := match st with
  | .inr (.inl v) :: .inl j :: .inr (.inr p) :: r => match ai_sh p with
    | some (.inr (kk, n)) => ai_ck (Nat.beq kk 1 && Nat.blt p h.1) ((0 ≤ j ∧ j < Int.ofNat n) ∧ X m (i + 1) ls r k (h.1, h.2.1, ai_set h.2.2 p j v) Q)
    | _ => False
  | _ => False
def ai_aast : Prop := match st with
  | .inr (.inr v) :: .inl j :: .inr (.inr p) :: r => match ai_sh p with
    | some (.inr (kk, n)) => ai_ck (Nat.beq kk 4 && Nat.blt p h.1 && Nat.blt v h.1 && Nat.beq v (ai_rf p j.toNat)) ((0 ≤ j ∧ j < Int.ofNat n) ∧ X m (i + 1) ls r k (h.1, h.2.1.filter (fun q => !decide (q = (p, j.toNat))), h.2.2) Q)
    | _ => False
  | _ => False
def ai_len : Prop := match st with
  | .inr (.inr p) :: r => match ai_sh p with
    | some (.inr (_, n)) => ai_ck (Nat.blt p h.1) (X m (i + 1) ls (.inl (Int.ofNat n) :: r) k h Q)
    | none => ai_ck (Nat.beq p 100 && Nat.beq m ai_law) (X m (i + 1) ls (.inl sc.1 :: r) k h Q)
    | _ => False
  | _ => False
def ai_new (x : ai_X) : Prop := match x.2.2.1 with
  | 0 => match ai_sh h.1 with
    | some (.inl c) => ai_ck (Nat.beq c x.1 && Nat.blt h.1 92 && Nat.ble (k.1 + 1) (ai_mc m) && Nat.ble (k.2 + x.2.1) (ai_ms m)) (X m (i + 1) ls (.inr (.inr h.1) :: st) (k.1 + 1, k.2 + x.2.1) (h.1 + 1, h.2.1 ++ ai_us h.1 c, ai_zero h.2.2 h.1) Q)
    | _ => False
  | _ => match st with
    | [] => ai_ck (Nat.ble 92 h.1 && Nat.ble (k.1 + 1) (ai_mc m) && Nat.ble (k.2 + 6) (ai_ms m)) (Q (.inr x.1, h))
    | _ => False
def ai_nar (kd : Nat) : Prop := match st with
  | .inl n :: r => match ai_sh h.1 with
    | some (.inr (kk, n')) => ai_ck (Nat.beq kk kd && Nat.blt h.1 92 && Nat.ble (k.1 + 1) (ai_mc m) && Nat.ble (k.2 + n') (ai_ms m)) (n = Int.ofNat n' ∧ X m (i + 1) ls (.inr (.inr h.1) :: r) (k.1 + 1, k.2 + n') (h.1 + 1, h.2.1 ++ (if kd = 4 then (List.range n').map (fun j => (h.1, j)) else []), ai_zero h.2.2 h.1) Q)
    | _ => False
  | _ => False
def ai_call (x : ai_X) : Prop := match ai_tk x.2.1 [] st with
  | some (args, r) => ai_ck (Nat.ble (ai_cats r) 8 && Nat.ble (ai_cats args) (ai_mL x.1)) (ai_ck (Nat.ble (k.1 + ai_mc x.1) (ai_mc m) && Nat.ble (k.2 + ai_ms x.1) (ai_ms m)) (match x.2.2.1 with
    | 0 => ai_ret X x.1 (ai_en (ai_mL x.1) args) h (fun v h' => ai_ck (ai_zz h.1 h'.1 (ai_mc x.1)) (X m (i + 1) ls (v.toList ++ r) (k.1 + ai_mc x.1, k.2 + ai_ms x.1) h' Q))
    | _ => ai_ret X x.1 (ai_en (ai_mL x.1) args) h (fun v h' => ai_ck (ai_zz h.1 h'.1 (ai_mc x.1)) (X m (i + 1) ls (v.toList ++ r) (k.1 + ai_mc x.1, k.2 + ai_ms x.1) h' Q)) ∨
        ai_thr X x.1 (ai_en (ai_mL x.1) args) h (fun c h' => ai_ck (Nat.ble 92 h'.1) (match ai_ct m c with
          | some (t, sl) => X m t (ai_put (ai_kill ls sl) sl none) [] (k.1 + ai_mc x.1, k.2 + ai_ms x.1) h' Q
          | none => False))))
  | none => False
def ai_vcall (x : ai_X) : Prop := match ai_tk x.2.1 [] st with
  | some (.inr (.inr q) :: _, _) => match ai_sh q with
    | some (.inl c) => ai_ck (Nat.beq c (ai_mC x.1) && Nat.blt q h.1) (ai_call X m i ls st k h Q x)
    | _ => False
  | _ => False
def ai_icall (x : ai_X) : Prop := match ai_tk x.2.1 [] st with
  | some (.inr (.inr _) :: _, _) => ai_call X m i ls st k h Q x
  | _ => False
def ai_ocall (x : ai_X) : Prop := match x.1, st with
  | 1000, .inr (.inr _) :: r => ai_ck (Nat.ble (ai_cats r) 8) (X m (i + 1) ls r k h Q)
  | 1001, .inl n :: .inl dp :: .inr (.inr q) :: .inl sp :: .inr (.inr p) :: r => match ai_sh p, ai_sh q with
    | some (.inr (kp, np)), some (.inr (kq, nq)) => ai_ck (Nat.beq kp kq && Nat.ble kp 1 && Nat.blt p h.1 && Nat.blt q h.1 && Nat.ble (ai_cats r) 8)
        ((0 ≤ sp ∧ 0 ≤ dp ∧ 0 ≤ n ∧ sp + n ≤ Int.ofNat np ∧ dp + n ≤ Int.ofNat nq) ∧ X m (i + 1) ls r k (h.1, h.2.1, ai_cpy h.2.2 p q sp dp n) Q)
    | _, _ => False
  | 1002, .inr (.inl a) :: r => ai_ck (Nat.ble (ai_cats r) 8 && Nat.ble k.1 (ai_mc m) && Nat.ble k.2 (ai_ms m)) (ai_r8 a ∧ X m (i + 1) ls (.inr (.inl (if 0 < a then a else -a)) :: r) k h Q)
  | 1003, .inl b :: .inl a :: r => ai_ck (Nat.ble (ai_cats r) 8 && Nat.ble k.1 (ai_mc m) && Nat.ble k.2 (ai_ms m)) ((ai_r a ∧ ai_r b) ∧ X m (i + 1) ls (.inl (if b < a then b else a) :: r) k h Q)
  | _, _ => False
def ai_rv : Prop := match st with
  | [] => ai_ck (Nat.ble k.1 (ai_mc m) && Nat.ble k.2 (ai_ms m)) (Q (.inl none, h))
  | _ => False
def ai_ri (x : ai_X) : Prop := match st with
  | [.inl v] => ai_ck (Nat.ble k.1 (ai_mc m) && Nat.ble k.2 (ai_ms m)) (match x.1 with
    | 0 => Q (.inl (some (.inl v)), h)
    | 3 => (0 ≤ v ∧ v ≤ 1) ∧ Q (.inl (some (.inl v)), h)
    | _ => (0 ≤ v ∧ v ≤ 65535) ∧ Q (.inl (some (.inl v)), h))
  | _ => False
def ai_rl : Prop := match st with
  | [.inr (.inl v)] => ai_ck (Nat.ble k.1 (ai_mc m) && Nat.ble k.2 (ai_ms m)) (Q (.inl (some (.inr (.inl v))), h))
  | _ => False
/-- one instruction -/
def ai_ex (x : ai_X) (ins : Instr) : Prop := match ins with
  | .iconst n => ai_pu X m i ls st k h Q (.inl n)
  | .bipush n => ai_pu X m i ls st k h Q (.inl n)
  | .sipush n => ai_pu X m i ls st k h Q (.inl n)
  | .lconst n => ai_pu X m i ls st k h Q (.inr (.inl (Int.ofNat n.val)))
  | .ldc2_w _ => ai_pu X m i ls st k h Q (.inr (.inl (ai_lv x)))
  | .iload n => ai_li X m i ls st k h Q n
  | .iload_n n => ai_li X m i ls st k h Q n.val
  | .lload n => ai_ll X m i ls st k h Q n
  | .lload_n n => ai_ll X m i ls st k h Q n.val
  | .aload n => ai_la X m i ls st k h Q n
  | .aload_n n => ai_la X m i ls st k h Q n.val
  | .istore n => ai_si X m i ls st k h Q n
  | .istore_n n => ai_si X m i ls st k h Q n.val
  | .lstore n => ai_sl X m i ls st k h Q n
  | .lstore_n n => ai_sl X m i ls st k h Q n.val
  | .astore n => ai_sa X m i ls st k h Q n
  | .astore_n n => ai_sa X m i ls st k h Q n.val
  | .iinc n d => ai_inc X m i ls st k h Q n d
  | .iadd => ai_i2 X m i ls st k h Q (fun a b => a + b)
  | .isub => ai_i2 X m i ls st k h Q (fun a b => a - b)
  | .imul => ai_i2 X m i ls st k h Q (fun a b => a * b)
  | .iand => ai_i2 X m i ls st k h Q ai_and
  | .ior => ai_i2 X m i ls st k h Q ai_or
  | .ixor => ai_i2 X m i ls st k h Q ai_xor
  | .ishl => ai_i2 X m i ls st k h Q ai_shl
  | .ishr => ai_i2 X m i ls st k h Q ai_shr
  | .idiv => ai_i2z X m i ls st k h Q ai_div
  | .irem => ai_i2z X m i ls st k h Q ai_rem
  | .ladd => ai_l2 X m i ls st k h Q (fun a b => a + b)
  | .lsub => ai_l2 X m i ls st k h Q (fun a b => a - b)
  | .lmul => ai_l2 X m i ls st k h Q (fun a b => a * b)
  | .land => ai_l2 X m i ls st k h Q ai_land
  | .lor => ai_l2 X m i ls st k h Q ai_lor
  | .ldiv => ai_l2z X m i ls st k h Q ai_ldiv
  | .lrem => ai_l2z X m i ls st k h Q ai_lrem
  | .lshl => ai_lsh X m i ls st k h Q ai_lshl
  | .lshr => ai_lsh X m i ls st k h Q ai_lshr
  | .lneg => ai_l1 X m i ls st k h Q (fun a => -a)
  | .i2c => ai_i1 X m i ls st k h Q ai_i2c
  | .i2l => ai_i2l X m i ls st k h Q
  | .l2i => ai_l2i X m i ls st k h Q
  | .lcmp => ai_lcmp X m i ls st k h Q
  | .ifCond c _ => ai_if0 X m i ls st k h Q c x.1
  | .if_icmp c _ => ai_if2 X m i ls st k h Q c x.1
  | .goto _ => X m x.1 ls st k h Q
  | .tableswitch _ _ _ _ => ai_sw X m ls st k h Q ai_swt x.1
  | .dup => ai_dup X m i ls st k h Q
  | .dup2 => ai_dup2 X m i ls st k h Q
  | .pop => ai_pop X m i ls st k h Q
  | .getfield _ => ai_get X m i ls st k h Q x
  | .putfield _ => ai_pf X m i ls st k h Q x
  | .iaload => ai_ald sc X m i ls st k h Q 0
  | .baload => ai_ald sc X m i ls st k h Q 2
  | .caload => ai_ald sc X m i ls st k h Q 3
  | .laload => ai_lald X m i ls st k h Q
  | .aaload => ai_aald X m i ls st k h Q
  | .iastore => ai_ast X m i ls st k h Q 0 0 0
  | .bastore => ai_ast X m i ls st k h Q 2 0 1
  | .castore => ai_ast X m i ls st k h Q 3 0 65535
  | .lastore => ai_last X m i ls st k h Q
  | .aastore => ai_aast X m i ls st k h Q
  | .arraylength => ai_len sc X m i ls st k h Q
  | .new _ => ai_new X m i ls st k h Q x
  | .newarray _ => ai_nar X m i ls st k h Q x.1
  | .anewarray _ => ai_nar X m i ls st k h Q 4
  | .invokevirtual _ => ai_vcall X m i ls st k h Q x
  | .invokestatic _ => match x.2.2.2.1 with
    | 0 => ai_call X m i ls st k h Q x
    | _ => ai_ocall X m i ls st k h Q x
  | .invokespecial _ => match x.2.2.2.1 with
    | 0 => ai_icall X m i ls st k h Q x
    | 1 => ai_ocall X m i ls st k h Q x
    | _ => False
  | .return_ => ai_rv m st k h Q
  | .ireturn => ai_ri m st k h Q x
  | .lreturn => ai_rl m st k h Q
  | _ => False
def ai_stp : Prop := match ai_nth (ai_ops m) i with
  | some e => ai_ex sc X m i (ai_msk e.2.2.2.2 ls) st k h Q e.2.2.2.1 e.2.1
  | none => False
end AIX
/-- what ends as Q asks: the least that one instruction's rows give -/
def ai_wp (sc : Int × (Int → Int)) : ai_J := fun m i ls st k h Q => ∀ X : ai_J, (∀ Y : ai_J, (∀ m i ls st k h Q, Y m i ls st k h Q → X m i ls st k h Q) → ∀ m i ls st k h Q, ai_stp sc Y m i ls st k h Q → X m i ls st k h Q) → X m i ls st k h Q
/-- a stretch of one method, as far as its cut points -/
def ai_g (sc : Int × (Int → Int)) (m0 : Nat) (cuts : List Nat) : Nat → ai_J
  | 0 => ai_wp sc
  | n + 1 => fun m i ls st k h Q => match Nat.beq m m0 && !cuts.elem i with
    | true => ai_stp sc (ai_g sc m0 cuts n) m i ls st k h Q
    | false => ai_wp sc m i ls st k h Q
theorem ai_wp_of {sc : Int × (Int → Int)} {Y : ai_J} (hY : ∀ m i ls st k h Q, Y m i ls st k h Q → ai_wp sc m i ls st k h Q) {m i : Nat} {ls : ai_L} {st : List ai_V} {k : Nat × Nat} {h : ai_H} {Q : ai_O → Prop} (hs : ai_stp sc Y m i ls st k h Q) : ai_wp sc m i ls st k h Q := fun X hX => hX Y (fun m i ls st k h Q h1 => hY m i ls st k h Q h1 X hX) m i ls st k h Q hs
theorem ai_g_wp (sc : Int × (Int → Int)) (m0 : Nat) (cuts : List Nat) (n : Nat) : ∀ m i ls st k h Q, ai_g sc m0 cuts n m i ls st k h Q → ai_wp sc m i ls st k h Q := by
  induction n with
  | zero => intro m i ls st k h Q hh; exact hh
  | succ n ih =>
    intro m i ls st k h Q hh
    unfold ai_g at hh
    split at hh
    · exact ai_wp_of ih hh
    · exact hh
theorem ai_blk (sc : Int × (Int → Int)) (m : Nat) (cuts : List Nat) (n : Nat) {i : Nat} {ls : ai_L} {st : List ai_V} {k : Nat × Nat} {h : ai_H} {Q : ai_O → Prop} (hs : ai_stp sc (ai_g sc m cuts n) m i ls st k h Q) : ai_wp sc m i ls st k h Q := ai_wp_of (ai_g_wp sc m cuts n) hs
theorem ai_wp_ind {sc : Int × (Int → Int)} {X : ai_J} (hX : ∀ Y : ai_J, (∀ m i ls st k h Q, Y m i ls st k h Q → X m i ls st k h Q) → ∀ m i ls st k h Q, ai_stp sc Y m i ls st k h Q → X m i ls st k h Q) {m i : Nat} {ls : ai_L} {st : List ai_V} {k : Nat × Nat} {h : ai_H} {Q : ai_O → Prop} (hw : ai_wp sc m i ls st k h Q) : X m i ls st k h Q := hw X hX
