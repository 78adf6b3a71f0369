/-! THE SOUNDNESS, put together. -/
theorem ai_core {sc : Int × (Int → Int)} {l : Launch} {D : va_G} {base b : Nat} {cA : Nat → ClassId} (hl : ai_stOK l) : ∀ Y : ai_J, (∀ m i ls st k h Q, Y m i ls st k h Q → ai_SND sc l D base b cA m i ls st k h Q) → ∀ m i ls st k h Q, ai_stp sc Y m i ls st k h Q → ai_SND sc l D base b cA m i ls st k h Q := by
  intro Y hY m i ls st k h Q hs p e s mid args below meth c F hK hbs hE hscr
  unfold ai_stp at hs
  split at hs
  case h_2 => exact hs.elim
  rename_i en hen
  obtain ⟨pc, ins, len, x, mask⟩ := en
  obtain ⟨hd, hok⟩ := ai_row hen
  have hln := ai_lk_of hen
  have hmask : ai_at l D base b cA p e s mid args below meth c m Q (i) (ai_msk mask ls) (st) (k) (h) → ai_at l D base b cA p e s mid args below meth c m Q (i) (ls) (st) (k) (h) := fun K H locs lsM hW hS hL hZ => K H locs lsM hW hS (ai_lvk hL (fun j v hv => ai_lg_msk mask ls hv)) hZ
  refine hmask ?_
  replace hs : ai_ex sc Y m i (ai_msk mask ls) st k h Q x ins := hs
  generalize ai_msk mask ls = ls at hs ⊢
  have KY : ∀ i ls st k h, Y m i ls st k h Q → ai_at l D base b cA p e s mid args below meth c m Q (i) (ls) (st) (k) (h) := fun i ls st k h hy => hY m i ls st k h Q hy p e s mid args below meth c F hK hbs hE hscr
  cases ins with
  | iconst n =>
    obtain rfl : len = 1 := Nat.eq_of_beq_eq_true hln
    replace hok : ai_nx m i (ai_pc m i + 1) = true := hok
    exact sn_iconst F hd (ai_nx_pc hok) (KY (i + 1) ls (.inl n :: st) k h hs)
  | lconst n =>
    obtain rfl : len = 1 := Nat.eq_of_beq_eq_true hln
    replace hok : ai_nx m i (ai_pc m i + 1) = true := hok
    exact sn_lconst F hd (ai_nx_pc hok) (KY (i + 1) ls (.inr (.inl (Int.ofNat n.val)) :: st) k h hs)
  | bipush n =>
    obtain rfl : len = 2 := Nat.eq_of_beq_eq_true hln
    replace hok : (ai_nx m i (ai_pc m i + 2) && decide ((Int8.ofInt n).toInt32 = Int32.ofInt n)) = true := hok
    obtain ⟨h1, h2⟩ := iv_and2 hok
    exact sn_bipush F (of_decide_eq_true h2) hd (ai_nx_pc h1) (KY (i + 1) ls (.inl n :: st) k h hs)
  | sipush n =>
    obtain rfl : len = 3 := Nat.eq_of_beq_eq_true hln
    replace hok : (ai_nx m i (ai_pc m i + 3) && decide ((Int16.ofInt n).toInt32 = Int32.ofInt n)) = true := hok
    obtain ⟨h1, h2⟩ := iv_and2 hok
    exact sn_sipush F (of_decide_eq_true h2) hd (ai_nx_pc h1) (KY (i + 1) ls (.inl n :: st) k h hs)
  | ldc2_w n =>
    obtain rfl : len = 3 := Nat.eq_of_beq_eq_true hln
    replace hok : (ai_nx m i (ai_pc m i + 3) && ai_wd x.2.2.2.2 (.constantLong (ai_mY m).cls n (Int64.ofInt (ai_lv x)))) = true := hok
    obtain ⟨h1, h2⟩ := iv_and2 hok
    exact sn_ldc2 F (ai_wd_in h2) hd (ai_nx_pc h1) (KY (i + 1) ls (.inr (.inl (ai_lv x)) :: st) k h hs)
  | iload n =>
    obtain rfl : len = 2 := Nat.eq_of_beq_eq_true hln
    replace hok : ai_nx m i (ai_pc m i + 2) = true := hok
    obtain ⟨v, hv, hs⟩ := iv_li (show ai_li Y m i ls st k h Q n from hs)
    exact sn_iload F hv hd (ai_nx_pc hok) (KY _ _ _ _ _ hs)
  | istore n =>
    obtain rfl : len = 2 := Nat.eq_of_beq_eq_true hln
    replace hok : (ai_nx m i (ai_pc m i + 2) && Nat.blt n (ai_mL m)) = true := hok
    obtain ⟨h1, h2⟩ := iv_and2 hok
    obtain ⟨v, r, rfl, hs⟩ := iv_si (show ai_si Y m i ls st k h Q n from hs)
    exact sn_istore F (iv_blt h2) hd (ai_nx_pc h1) (KY _ _ _ _ _ hs)
  | iload_n n =>
    obtain rfl : len = 1 := Nat.eq_of_beq_eq_true hln
    replace hok : ai_nx m i (ai_pc m i + 1) = true := hok
    obtain ⟨v, hv, hs⟩ := iv_li (show ai_li Y m i ls st k h Q n.val from hs)
    exact sn_iload_n F hv hd (ai_nx_pc hok) (KY _ _ _ _ _ hs)
  | istore_n n =>
    obtain rfl : len = 1 := Nat.eq_of_beq_eq_true hln
    replace hok : (ai_nx m i (ai_pc m i + 1) && Nat.blt n.val (ai_mL m)) = true := hok
    obtain ⟨h1, h2⟩ := iv_and2 hok
    obtain ⟨v, r, rfl, hs⟩ := iv_si (show ai_si Y m i ls st k h Q n.val from hs)
    exact sn_istore_n F (iv_blt h2) hd (ai_nx_pc h1) (KY _ _ _ _ _ hs)
  | lload n =>
    obtain rfl : len = 2 := Nat.eq_of_beq_eq_true hln
    replace hok : ai_nx m i (ai_pc m i + 2) = true := hok
    obtain ⟨v, hv, hs⟩ := iv_ll (show ai_ll Y m i ls st k h Q n from hs)
    exact sn_lload F hv hd (ai_nx_pc hok) (KY _ _ _ _ _ hs)
  | lstore n =>
    obtain rfl : len = 2 := Nat.eq_of_beq_eq_true hln
    replace hok : (ai_nx m i (ai_pc m i + 2) && Nat.blt (n + 1) (ai_mL m)) = true := hok
    obtain ⟨h1, h2⟩ := iv_and2 hok
    obtain ⟨v, r, rfl, hs⟩ := iv_sl (show ai_sl Y m i ls st k h Q n from hs)
    exact sn_lstore F (iv_blt h2) hd (ai_nx_pc h1) (KY _ _ _ _ _ hs)
  | lload_n n =>
    obtain rfl : len = 1 := Nat.eq_of_beq_eq_true hln
    replace hok : ai_nx m i (ai_pc m i + 1) = true := hok
    obtain ⟨v, hv, hs⟩ := iv_ll (show ai_ll Y m i ls st k h Q n.val from hs)
    exact sn_lload_n F hv hd (ai_nx_pc hok) (KY _ _ _ _ _ hs)
  | lstore_n n =>
    obtain rfl : len = 1 := Nat.eq_of_beq_eq_true hln
    replace hok : (ai_nx m i (ai_pc m i + 1) && Nat.blt (n.val + 1) (ai_mL m)) = true := hok
    obtain ⟨h1, h2⟩ := iv_and2 hok
    obtain ⟨v, r, rfl, hs⟩ := iv_sl (show ai_sl Y m i ls st k h Q n.val from hs)
    exact sn_lstore_n F (iv_blt h2) hd (ai_nx_pc h1) (KY _ _ _ _ _ hs)
  | aload n =>
    obtain rfl : len = 2 := Nat.eq_of_beq_eq_true hln
    replace hok : ai_nx m i (ai_pc m i + 2) = true := hok
    obtain ⟨v, hv, hs⟩ := iv_la (show ai_la Y m i ls st k h Q n from hs)
    exact sn_aload F hv hd (ai_nx_pc hok) (KY _ _ _ _ _ hs)
  | astore n =>
    obtain rfl : len = 2 := Nat.eq_of_beq_eq_true hln
    replace hok : (ai_nx m i (ai_pc m i + 2) && Nat.blt n (ai_mL m)) = true := hok
    obtain ⟨h1, h2⟩ := iv_and2 hok
    obtain ⟨v, r, rfl, hs⟩ := iv_sa (show ai_sa Y m i ls st k h Q n from hs)
    exact sn_astore F (iv_blt h2) hd (ai_nx_pc h1) (KY _ _ _ _ _ hs)
  | aload_n n =>
    obtain rfl : len = 1 := Nat.eq_of_beq_eq_true hln
    replace hok : ai_nx m i (ai_pc m i + 1) = true := hok
    obtain ⟨v, hv, hs⟩ := iv_la (show ai_la Y m i ls st k h Q n.val from hs)
    exact sn_aload_n F hv hd (ai_nx_pc hok) (KY _ _ _ _ _ hs)
  | astore_n n =>
    obtain rfl : len = 1 := Nat.eq_of_beq_eq_true hln
    replace hok : (ai_nx m i (ai_pc m i + 1) && Nat.blt n.val (ai_mL m)) = true := hok
    obtain ⟨h1, h2⟩ := iv_and2 hok
    obtain ⟨v, r, rfl, hs⟩ := iv_sa (show ai_sa Y m i ls st k h Q n.val from hs)
    exact sn_astore_n F (iv_blt h2) hd (ai_nx_pc h1) (KY _ _ _ _ _ hs)
  | iinc n d =>
    obtain rfl : len = 3 := Nat.eq_of_beq_eq_true hln
    replace hok : (ai_nx m i (ai_pc m i + 3) && Nat.blt n (ai_mL m)) = true := hok
    obtain ⟨h1, h2⟩ := iv_and2 hok
    obtain ⟨v, hv, hs⟩ := iv_inc (show ai_inc Y m i ls st k h Q n d from hs)
    exact sn_iinc F hv (iv_blt h2) hd (ai_nx_pc h1) (KY _ _ _ _ _ hs)
  | iadd =>
    obtain rfl : len = 1 := Nat.eq_of_beq_eq_true hln
    replace hok : ai_nx m i (ai_pc m i + 1) = true := hok
    obtain ⟨b0, a0, r, rfl, hs⟩ := iv_i2 (show ai_i2 Y m i ls st k h Q (fun a b => a + b) from hs)
    exact sn_iadd F hd (ai_nx_pc hok) (KY _ _ _ _ _ hs)
  | isub =>
    obtain rfl : len = 1 := Nat.eq_of_beq_eq_true hln
    replace hok : ai_nx m i (ai_pc m i + 1) = true := hok
    obtain ⟨b0, a0, r, rfl, hs⟩ := iv_i2 (show ai_i2 Y m i ls st k h Q (fun a b => a - b) from hs)
    exact sn_isub F hd (ai_nx_pc hok) (KY _ _ _ _ _ hs)
  | imul =>
    obtain rfl : len = 1 := Nat.eq_of_beq_eq_true hln
    replace hok : ai_nx m i (ai_pc m i + 1) = true := hok
    obtain ⟨b0, a0, r, rfl, hs⟩ := iv_i2 (show ai_i2 Y m i ls st k h Q (fun a b => a * b) from hs)
    exact sn_imul F hd (ai_nx_pc hok) (KY _ _ _ _ _ hs)
  | iand =>
    obtain rfl : len = 1 := Nat.eq_of_beq_eq_true hln
    replace hok : ai_nx m i (ai_pc m i + 1) = true := hok
    obtain ⟨b0, a0, r, rfl, hs⟩ := iv_i2 (show ai_i2 Y m i ls st k h Q ai_and from hs)
    exact sn_iand F hd (ai_nx_pc hok) (KY _ _ _ _ _ hs)
  | ior =>
    obtain rfl : len = 1 := Nat.eq_of_beq_eq_true hln
    replace hok : ai_nx m i (ai_pc m i + 1) = true := hok
    obtain ⟨b0, a0, r, rfl, hs⟩ := iv_i2 (show ai_i2 Y m i ls st k h Q ai_or from hs)
    exact sn_ior F hd (ai_nx_pc hok) (KY _ _ _ _ _ hs)
  | ixor =>
    obtain rfl : len = 1 := Nat.eq_of_beq_eq_true hln
    replace hok : ai_nx m i (ai_pc m i + 1) = true := hok
    obtain ⟨b0, a0, r, rfl, hs⟩ := iv_i2 (show ai_i2 Y m i ls st k h Q ai_xor from hs)
    exact sn_ixor F hd (ai_nx_pc hok) (KY _ _ _ _ _ hs)
  | ishl =>
    obtain rfl : len = 1 := Nat.eq_of_beq_eq_true hln
    replace hok : ai_nx m i (ai_pc m i + 1) = true := hok
    obtain ⟨b0, a0, r, rfl, hs⟩ := iv_i2 (show ai_i2 Y m i ls st k h Q ai_shl from hs)
    exact sn_ishl F hd (ai_nx_pc hok) (KY _ _ _ _ _ hs)
  | ishr =>
    obtain rfl : len = 1 := Nat.eq_of_beq_eq_true hln
    replace hok : ai_nx m i (ai_pc m i + 1) = true := hok
    obtain ⟨b0, a0, r, rfl, hs⟩ := iv_i2 (show ai_i2 Y m i ls st k h Q ai_shr from hs)
    exact sn_ishr F hd (ai_nx_pc hok) (KY _ _ _ _ _ hs)
  | idiv =>
    obtain rfl : len = 1 := Nat.eq_of_beq_eq_true hln
    replace hok : ai_nx m i (ai_pc m i + 1) = true := hok
    obtain ⟨b0, a0, r, rfl, hz, hs⟩ := iv_i2z (show ai_i2z Y m i ls st k h Q ai_div from hs)
    exact sn_idiv F hz hd (ai_nx_pc hok) (KY _ _ _ _ _ hs)
  | irem =>
    obtain rfl : len = 1 := Nat.eq_of_beq_eq_true hln
    replace hok : ai_nx m i (ai_pc m i + 1) = true := hok
    obtain ⟨b0, a0, r, rfl, hz, hs⟩ := iv_i2z (show ai_i2z Y m i ls st k h Q ai_rem from hs)
    exact sn_irem F hz hd (ai_nx_pc hok) (KY _ _ _ _ _ hs)
  | ladd =>
    obtain rfl : len = 1 := Nat.eq_of_beq_eq_true hln
    replace hok : ai_nx m i (ai_pc m i + 1) = true := hok
    obtain ⟨b0, a0, r, rfl, hs⟩ := iv_l2 (show ai_l2 Y m i ls st k h Q (fun a b => a + b) from hs)
    exact sn_ladd F hd (ai_nx_pc hok) (KY _ _ _ _ _ hs)
  | lsub =>
    obtain rfl : len = 1 := Nat.eq_of_beq_eq_true hln
    replace hok : ai_nx m i (ai_pc m i + 1) = true := hok
    obtain ⟨b0, a0, r, rfl, hs⟩ := iv_l2 (show ai_l2 Y m i ls st k h Q (fun a b => a - b) from hs)
    exact sn_lsub F hd (ai_nx_pc hok) (KY _ _ _ _ _ hs)
  | lmul =>
    obtain rfl : len = 1 := Nat.eq_of_beq_eq_true hln
    replace hok : ai_nx m i (ai_pc m i + 1) = true := hok
    obtain ⟨b0, a0, r, rfl, hs⟩ := iv_l2 (show ai_l2 Y m i ls st k h Q (fun a b => a * b) from hs)
    exact sn_lmul F hd (ai_nx_pc hok) (KY _ _ _ _ _ hs)
  | land =>
    obtain rfl : len = 1 := Nat.eq_of_beq_eq_true hln
    replace hok : ai_nx m i (ai_pc m i + 1) = true := hok
    obtain ⟨b0, a0, r, rfl, hs⟩ := iv_l2 (show ai_l2 Y m i ls st k h Q ai_land from hs)
    exact sn_land F hd (ai_nx_pc hok) (KY _ _ _ _ _ hs)
  | lor =>
    obtain rfl : len = 1 := Nat.eq_of_beq_eq_true hln
    replace hok : ai_nx m i (ai_pc m i + 1) = true := hok
    obtain ⟨b0, a0, r, rfl, hs⟩ := iv_l2 (show ai_l2 Y m i ls st k h Q ai_lor from hs)
    exact sn_lor F hd (ai_nx_pc hok) (KY _ _ _ _ _ hs)
  | ldiv =>
    obtain rfl : len = 1 := Nat.eq_of_beq_eq_true hln
    replace hok : ai_nx m i (ai_pc m i + 1) = true := hok
    obtain ⟨b0, a0, r, rfl, hz, hs⟩ := iv_l2z (show ai_l2z Y m i ls st k h Q ai_ldiv from hs)
    exact sn_ldiv F hz hd (ai_nx_pc hok) (KY _ _ _ _ _ hs)
  | lrem =>
    obtain rfl : len = 1 := Nat.eq_of_beq_eq_true hln
    replace hok : ai_nx m i (ai_pc m i + 1) = true := hok
    obtain ⟨b0, a0, r, rfl, hz, hs⟩ := iv_l2z (show ai_l2z Y m i ls st k h Q ai_lrem from hs)
    exact sn_lrem F hz hd (ai_nx_pc hok) (KY _ _ _ _ _ hs)
  | lshl =>
    obtain rfl : len = 1 := Nat.eq_of_beq_eq_true hln
    replace hok : ai_nx m i (ai_pc m i + 1) = true := hok
    obtain ⟨b0, a0, r, rfl, hs⟩ := iv_lsh (show ai_lsh Y m i ls st k h Q ai_lshl from hs)
    exact sn_lshl F hd (ai_nx_pc hok) (KY _ _ _ _ _ hs)
  | lshr =>
    obtain rfl : len = 1 := Nat.eq_of_beq_eq_true hln
    replace hok : ai_nx m i (ai_pc m i + 1) = true := hok
    obtain ⟨b0, a0, r, rfl, hs⟩ := iv_lsh (show ai_lsh Y m i ls st k h Q ai_lshr from hs)
    exact sn_lshr F hd (ai_nx_pc hok) (KY _ _ _ _ _ hs)
  | lneg =>
    obtain rfl : len = 1 := Nat.eq_of_beq_eq_true hln
    replace hok : ai_nx m i (ai_pc m i + 1) = true := hok
    obtain ⟨a0, r, rfl, hs⟩ := iv_l1 (show ai_l1 Y m i ls st k h Q (fun a => -a) from hs)
    exact sn_lneg F hd (ai_nx_pc hok) (KY _ _ _ _ _ hs)
  | i2c =>
    obtain rfl : len = 1 := Nat.eq_of_beq_eq_true hln
    replace hok : ai_nx m i (ai_pc m i + 1) = true := hok
    obtain ⟨a0, r, rfl, hs⟩ := iv_i1 (show ai_i1 Y m i ls st k h Q ai_i2c from hs)
    exact sn_i2c F hd (ai_nx_pc hok) (KY _ _ _ _ _ hs)
  | l2i =>
    obtain rfl : len = 1 := Nat.eq_of_beq_eq_true hln
    replace hok : ai_nx m i (ai_pc m i + 1) = true := hok
    obtain ⟨a0, r, rfl, hs⟩ := iv_l2i (show ai_l2i Y m i ls st k h Q from hs)
    exact sn_l2i F hd (ai_nx_pc hok) (KY _ _ _ _ _ hs)
  | pop =>
    obtain rfl : len = 1 := Nat.eq_of_beq_eq_true hln
    replace hok : ai_nx m i (ai_pc m i + 1) = true := hok
    obtain ⟨a0, r, rfl, hs⟩ := iv_pop (show ai_pop Y m i ls st k h Q from hs)
    exact sn_pop F hd (ai_nx_pc hok) (KY _ _ _ _ _ hs)
  | i2l =>
    obtain rfl : len = 1 := Nat.eq_of_beq_eq_true hln
    replace hok : ai_nx m i (ai_pc m i + 1) = true := hok
    obtain ⟨a0, r, rfl, hr, hs⟩ := iv_i2l (show ai_i2l Y m i ls st k h Q from hs)
    exact sn_i2l F hr hd (ai_nx_pc hok) (KY _ _ _ _ _ hs)
  | lcmp =>
    obtain rfl : len = 1 := Nat.eq_of_beq_eq_true hln
    replace hok : ai_nx m i (ai_pc m i + 1) = true := hok
    obtain ⟨b0, a0, r, rfl, hr, hs⟩ := iv_lcmp (show ai_lcmp Y m i ls st k h Q from hs)
    exact sn_lcmp F hr.1 hr.2 hd (ai_nx_pc hok) (KY _ _ _ _ _ hs)
  | ifCond cd off =>
    obtain rfl : len = 3 := Nat.eq_of_beq_eq_true hln
    replace hok : (ai_nx m i (ai_pc m i + 3) && ai_tg m x.1 (Int.ofNat (ai_pc m i) + off)) = true := hok
    obtain ⟨h1, h2⟩ := iv_and2 hok
    obtain ⟨a0, r, rfl, hr, hs1, hs2⟩ := iv_if0 (show ai_if0 Y m i ls st k h Q cd x.1 from hs)
    cases cd
    · exact sn_if_eq (b0 := 0) F hr hd (ai_nx_pc h1) (ai_tg_pc h2) (fun q => KY _ _ _ _ _ (hs1 q)) (fun q => KY _ _ _ _ _ (hs2 q))
    · exact sn_if_ne (b0 := 0) F hr hd (ai_nx_pc h1) (ai_tg_pc h2) (fun q => KY _ _ _ _ _ (hs1 q)) (fun q => KY _ _ _ _ _ (hs2 q))
    · exact sn_if_lt (b0 := 0) F hr hd (ai_nx_pc h1) (ai_tg_pc h2) (fun q => KY _ _ _ _ _ (hs1 q)) (fun q => KY _ _ _ _ _ (hs2 q))
    · exact sn_if_ge (b0 := 0) F hr hd (ai_nx_pc h1) (ai_tg_pc h2) (fun q => KY _ _ _ _ _ (hs1 q)) (fun q => KY _ _ _ _ _ (hs2 q))
    · exact sn_if_gt (b0 := 0) F hr hd (ai_nx_pc h1) (ai_tg_pc h2) (fun q => KY _ _ _ _ _ (hs1 q)) (fun q => KY _ _ _ _ _ (hs2 q))
    · exact sn_if_le (b0 := 0) F hr hd (ai_nx_pc h1) (ai_tg_pc h2) (fun q => KY _ _ _ _ _ (hs1 q)) (fun q => KY _ _ _ _ _ (hs2 q))
  | if_icmp cd off =>
    obtain rfl : len = 3 := Nat.eq_of_beq_eq_true hln
    replace hok : (ai_nx m i (ai_pc m i + 3) && ai_tg m x.1 (Int.ofNat (ai_pc m i) + off)) = true := hok
    obtain ⟨h1, h2⟩ := iv_and2 hok
    obtain ⟨b0, a0, r, rfl, hr, hs1, hs2⟩ := iv_if2 (show ai_if2 Y m i ls st k h Q cd x.1 from hs)
    cases cd
    · exact sn_icmp_eq F hr.1 hr.2 hd (ai_nx_pc h1) (ai_tg_pc h2) (fun q => KY _ _ _ _ _ (hs1 q)) (fun q => KY _ _ _ _ _ (hs2 q))
    · exact sn_icmp_ne F hr.1 hr.2 hd (ai_nx_pc h1) (ai_tg_pc h2) (fun q => KY _ _ _ _ _ (hs1 q)) (fun q => KY _ _ _ _ _ (hs2 q))
    · exact sn_icmp_lt F hr.1 hr.2 hd (ai_nx_pc h1) (ai_tg_pc h2) (fun q => KY _ _ _ _ _ (hs1 q)) (fun q => KY _ _ _ _ _ (hs2 q))
    · exact sn_icmp_ge F hr.1 hr.2 hd (ai_nx_pc h1) (ai_tg_pc h2) (fun q => KY _ _ _ _ _ (hs1 q)) (fun q => KY _ _ _ _ _ (hs2 q))
    · exact sn_icmp_gt F hr.1 hr.2 hd (ai_nx_pc h1) (ai_tg_pc h2) (fun q => KY _ _ _ _ _ (hs1 q)) (fun q => KY _ _ _ _ _ (hs2 q))
    · exact sn_icmp_le F hr.1 hr.2 hd (ai_nx_pc h1) (ai_tg_pc h2) (fun q => KY _ _ _ _ _ (hs1 q)) (fun q => KY _ _ _ _ _ (hs2 q))
  | goto off =>
    obtain rfl : len = 3 := Nat.eq_of_beq_eq_true hln
    replace hok : ai_tg m x.1 (Int.ofNat (ai_pc m i) + off) = true := hok
    exact sn_goto F hd (ai_tg_pc hok) (KY x.1 ls st k h hs)
  | tableswitch df lo hi offs =>
    replace hok : (decide (lo = 0) && decide (hi = 18) && Nat.beq ai_swt.length 19 && ai_tg m x.1 (Int.ofNat (ai_pc m i) + df) && (List.range 19).all (fun j => match offs[j]?, ai_nth ai_swt j with
      | some o, some t => ai_tg m t (Int.ofNat (ai_pc m i) + o)
      | _, _ => false)) = true := hok
    obtain ⟨hok, h5⟩ := iv_and2 hok
    obtain ⟨hok, h4⟩ := iv_and2 hok
    obtain ⟨hok, h3⟩ := iv_and2 hok
    obtain ⟨h1, h2⟩ := iv_and2 hok
    have e1 := of_decide_eq_true h1
    have e2 := of_decide_eq_true h2
    have e3 : ai_swt.length = 19 := Nat.eq_of_beq_eq_true h3
    subst e1
    subst e2
    obtain ⟨a0, r, rfl, hr, hs1, hs2⟩ := iv_sw (show ai_sw Y m ls st k h Q ai_swt x.1 from hs)
    rw [e3] at hs2
    intro H locs lsM hW hS hL hZ
    by_cases hin : a0 < 0 ∨ (18 : Int) < a0
    · exact lv_tableOut (x := Int32.ofInt a0) F.1 F.2.1 hd (by rw [ai_32 hr]; exact hin) (ai_tg_pc h4) (KY _ _ _ _ _ (hs2 (by rcases hin with q | q; exact Or.inl q; exact Or.inr (by show (19 : Int) ≤ a0; omega))) H locs lsM hW hS hL hZ)
    · have hj : a0.toNat < 19 := by omega
      have h6 := List.all_eq_true.mp h5 a0.toNat (List.mem_range.mpr hj)
      split at h6
      · rename_i o t ho ht
        refine lv_tableIn (x := Int32.ofInt a0) (off := o) F.1 F.2.1 hd (by rw [ai_32 hr]; omega) (by rw [ai_32 hr]; omega) ?_ (ai_tg_pc h6) (KY _ _ _ _ _ (hs1 a0.toNat t ht (by show a0 = ((a0.toNat : Nat) : Int); omega)) H locs lsM hW hS hL hZ)
        rw [ai_32 hr, Int.sub_zero]
        exact ho
      · cases h6
  | dup =>
    obtain rfl : len = 1 := Nat.eq_of_beq_eq_true hln
    replace hok : ai_nx m i (ai_pc m i + 1) = true := hok
    rcases iv_dup (show ai_dup Y m i ls st k h Q from hs) with ⟨a0, r, rfl, hs⟩ | ⟨a0, r, rfl, hs⟩
    · exact sn_dup_i F hd (ai_nx_pc hok) (KY _ _ _ _ _ hs)
    · exact sn_dup_a F hd (ai_nx_pc hok) (KY _ _ _ _ _ hs)
  | dup2 =>
    obtain rfl : len = 1 := Nat.eq_of_beq_eq_true hln
    replace hok : ai_nx m i (ai_pc m i + 1) = true := hok
    obtain ⟨a0, b0, r, rfl, hs⟩ := iv_dup2 (show ai_dup2 Y m i ls st k h Q from hs)
    exact sn_dup2 F hd (ai_nx_pc hok) (KY _ _ _ _ _ hs)
  | getfield n =>
    obtain rfl : len = 3 := Nat.eq_of_beq_eq_true hln
    replace hok : (ai_nx m i (ai_pc m i + 3) && ai_okf m x n false) = true := hok
    obtain ⟨h1, h2⟩ := iv_and2 hok
    obtain ⟨C, T, N, hcl, hkN, hw, hkd, -⟩ := ai_okf_use h2
    obtain ⟨hnf, hlay, hty, hnm, hcp, hi1, hi2, hdc⟩ := ai_cls hcl
    obtain ⟨q, r, v, rfl, hsh, hq, hv, hs⟩ := iv_get (ad := ai_ad base b) (by rw [← hkd]; exact ai_kd_le _ _) (show ai_get Y m i ls st k h Q x from hs)
    exact sn_get F hK hcl hkN hnf hw (hdc _ hkN) hlay hsh hq (by rw [hkd]; exact hv) hd (ai_nx_pc h1) (KY _ _ _ _ _ hs)
  | putfield n =>
    obtain rfl : len = 3 := Nat.eq_of_beq_eq_true hln
    replace hok : (ai_nx m i (ai_pc m i + 3) && ai_okf m x n true) = true := hok
    obtain ⟨h1, h2⟩ := iv_and2 hok
    obtain ⟨C, T, N, hcl, hkN, hw, hkd, hfin⟩ := ai_okf_use h2
    obtain ⟨hnf, hlay, hty, hnm, hcp, hi1, hi2, hdc⟩ := ai_cls hcl
    have hc1 := hcp _ hkN
    rw [hkd] at hc1
    obtain ⟨v, q, r, h', rfl, hsh, hq, hnr, hfit, hz1, hfv, hfo, hco, hs⟩ := iv_pf (ad := ai_ad base b) (cA := cA) hc1 (show ai_pf Y m i ls st k h Q x from hs)
    have hce := ai_cell_put (ad := ai_ad base b) (cA := cA) (h := h) (h' := h') hsh (ks := x.2.1) (v := ai_rn (ai_ad base b) v) (by rw [hkd]; exact hfv) (fun j hj => hfo _ j hj)
    rcases hfin rfl with hf | ⟨hf, hi, ho⟩
    · exact sn_put F hK hcl hkN hnf hw (hdc _ hkN) hlay hsh hq hty hnm hnr hfit hz1 hce hco hf hd (ai_nx_pc h1) (KY _ _ _ _ _ hs)
    · exact sn_putF F hK hcl hkN hnf hw (hdc _ hkN) hlay hsh hq hty hnm hnr hfit hz1 hce hco hf hi ho hd (ai_nx_pc h1) (KY _ _ _ _ _ hs)
  | iaload =>
    obtain rfl : len = 1 := Nat.eq_of_beq_eq_true hln
    replace hok : ai_nx m i (ai_pc m i + 1) = true := hok
    obtain ⟨j, q, r, rfl, ⟨n, hsh, hq, hj, hs⟩ | ⟨rfl, -, rfl, hj, hs⟩⟩ := iv_ald (show ai_ald sc Y m i ls st k h Q 0 from hs)
    · exact sn_iald F hK hsh hq hj (by have := (ai_sh_small hsh).1; omega) hd (ai_nx_pc hok) (KY _ _ _ _ _ hs)
    · exact sn_sld F (hscr rfl) hj hbs hd (ai_nx_pc hok) (KY _ _ _ _ _ hs)
  | baload =>
    obtain rfl : len = 1 := Nat.eq_of_beq_eq_true hln
    replace hok : ai_nx m i (ai_pc m i + 1) = true := hok
    obtain ⟨j, q, r, rfl, ⟨n, hsh, hq, hj, hs⟩ | ⟨-, z, -⟩⟩ := iv_ald (show ai_ald sc Y m i ls st k h Q 2 from hs)
    · exact sn_zald F hK hsh hq hj (by have := (ai_sh_small hsh).1; omega) hd (ai_nx_pc hok) (KY _ _ _ _ _ hs)
    · cases z
  | caload =>
    obtain rfl : len = 1 := Nat.eq_of_beq_eq_true hln
    replace hok : ai_nx m i (ai_pc m i + 1) = true := hok
    obtain ⟨j, q, r, rfl, ⟨n, hsh, hq, hj, hs⟩ | ⟨-, z, -⟩⟩ := iv_ald (show ai_ald sc Y m i ls st k h Q 3 from hs)
    · exact sn_cald F hK hsh hq hj (by have := (ai_sh_small hsh).1; omega) hd (ai_nx_pc hok) (KY _ _ _ _ _ hs)
    · cases z
  | laload =>
    obtain rfl : len = 1 := Nat.eq_of_beq_eq_true hln
    replace hok : ai_nx m i (ai_pc m i + 1) = true := hok
    obtain ⟨j, q, n, r, rfl, hsh, hq, hj, hs⟩ := iv_lald (show ai_lald Y m i ls st k h Q from hs)
    exact sn_lald F hK hsh hq hj (by have := (ai_sh_small hsh).1; omega) hd (ai_nx_pc hok) (KY _ _ _ _ _ hs)
  | aaload =>
    obtain rfl : len = 1 := Nat.eq_of_beq_eq_true hln
    replace hok : ai_nx m i (ai_pc m i + 1) = true := hok
    obtain ⟨j, q, n, r, rfl, hsh, hq, hu, hj, hs⟩ := iv_aald (show ai_aald Y m i ls st k h Q from hs)
    exact sn_aald F hK hsh hq hu hj (by have := (ai_sh_small hsh).1; omega) hd (ai_nx_pc hok) (KY _ _ _ _ _ hs)
  | iastore =>
    obtain rfl : len = 1 := Nat.eq_of_beq_eq_true hln
    replace hok : ai_nx m i (ai_pc m i + 1) = true := hok
    obtain ⟨v, j, q, n, r, rfl, hsh, hq, hj, hv, hs⟩ := iv_ast (show ai_ast Y m i ls st k h Q 0 0 0 from hs)
    exact sn_iast F hK hsh hq hj (by have := (ai_sh_small hsh).1; omega) hd (ai_nx_pc hok) (KY _ _ _ _ _ hs)
  | bastore =>
    obtain rfl : len = 1 := Nat.eq_of_beq_eq_true hln
    replace hok : ai_nx m i (ai_pc m i + 1) = true := hok
    obtain ⟨v, j, q, n, r, rfl, hsh, hq, hj, hv, hs⟩ := iv_ast (show ai_ast Y m i ls st k h Q 2 0 1 from hs)
    exact sn_zast F hK hsh hq hj (hv (by decide)) (by have := (ai_sh_small hsh).1; omega) hd (ai_nx_pc hok) (KY _ _ _ _ _ hs)
  | castore =>
    obtain rfl : len = 1 := Nat.eq_of_beq_eq_true hln
    replace hok : ai_nx m i (ai_pc m i + 1) = true := hok
    obtain ⟨v, j, q, n, r, rfl, hsh, hq, hj, hv, hs⟩ := iv_ast (show ai_ast Y m i ls st k h Q 3 0 65535 from hs)
    exact sn_cast F hK hsh hq hj (hv (by decide)) (by have := (ai_sh_small hsh).1; omega) hd (ai_nx_pc hok) (KY _ _ _ _ _ hs)
  | lastore =>
    obtain rfl : len = 1 := Nat.eq_of_beq_eq_true hln
    replace hok : ai_nx m i (ai_pc m i + 1) = true := hok
    obtain ⟨v, j, q, n, r, rfl, hsh, hq, hj, hs⟩ := iv_last (show ai_last Y m i ls st k h Q from hs)
    exact sn_last F hK hsh hq hj (by have := (ai_sh_small hsh).1; omega) hd (ai_nx_pc hok) (KY _ _ _ _ _ hs)
  | aastore =>
    obtain rfl : len = 1 := Nat.eq_of_beq_eq_true hln
    replace hok : ai_nx m i (ai_pc m i + 1) = true := hok
    obtain ⟨v, q, n, j, r, rfl, hsh, hq, hvq, hv, hj, hs⟩ := iv_aast (show ai_aast Y m i ls st k h Q from hs)
    obtain ⟨ci, T, N, hcl, hvs⟩ := ai_stores hsh (by have := hj.2; show j.toNat < n; have h9 : j < (n : Int) := this; omega) hv
    exact sn_aast F hK hcl hsh hq hvs hvq hv hj (by have := (ai_sh_small hsh).1; omega) hd (ai_nx_pc hok) (KY _ _ _ _ _ hs)
  | arraylength =>
    obtain rfl : len = 1 := Nat.eq_of_beq_eq_true hln
    replace hok : ai_nx m i (ai_pc m i + 1) = true := hok
    obtain ⟨q, r, rfl, ⟨kd, n, hsh, hq, hs⟩ | ⟨rfl, rfl, hs⟩⟩ := iv_len (show ai_len sc Y m i ls st k h Q from hs)
    · exact sn_len F hK hsh (ai_sh_small hsh).2 hq hd (ai_nx_pc hok) (KY _ _ _ _ _ hs)
    · exact sn_slen F (hscr rfl) hbs hd (ai_nx_pc hok) (KY _ _ _ _ _ hs)
  | new n =>
    obtain rfl : len = 3 := Nat.eq_of_beq_eq_true hln
    by_cases hx : x.2.2.1 = 0
    · replace hok : (ai_nx m i (ai_pc m i + 3) && ai_okn m x n) = true := by
        have h0 : (match x.2.2.1 with
          | 0 => ai_nx m i (ai_pc m i + 3) && ai_okn m x n
          | _ => ai_okx m i (ai_pc m i) x n) = true := hok
        rw [hx] at h0
        exact h0
      obtain ⟨h1, h2⟩ := iv_and2 hok
      replace hs : ai_new Y m i ls st k h Q x := hs
      unfold ai_new at hs
      rw [hx] at hs
      simp only at hs
      split at hs
      · rename_i ci hsh
        have zz0 := hs
        clear hs
        obtain ⟨g1, hs⟩ := ai_ck_true zz0
        obtain ⟨g1, g4⟩ := iv_and2 g1
        obtain ⟨g1, g3⟩ := iv_and2 g1
        obtain ⟨g1, g2⟩ := iv_and2 g1
        have e1 : ci = x.1 := Nat.eq_of_beq_eq_true g1
        subst e1
        unfold ai_okn at h2
        split at h2
        · rename_i C T N hcl
          obtain ⟨h2, h3⟩ := iv_and2 h2
          have e2 : x.2.1 = N := Nat.eq_of_beq_eq_true h2
          obtain ⟨hnf, hlay, hty, hnm, hcp, hi1, hi2, hdc⟩ := ai_cls hcl
          rw [e2] at hs g4
          exact sn_new F hK hcl hnf hlay hty hcp (ai_wd_in h3) hi1 hi2 hbs hsh (iv_blt g2) (iv_ble g3) (iv_ble g4) hd (ai_nx_pc h1) (KY _ _ _ _ _ hs)
        · cases h2
      · exact hs.elim
    · exact sn_throw0 F hK hbs hE hd hx hok hs
  | newarray t =>
    obtain rfl : len = 2 := Nat.eq_of_beq_eq_true hln
    replace hok : (ai_nx m i (ai_pc m i + 2) && decide (newarray.typeOf t = ai_TY x.1) && Nat.blt x.1 4 && ai_wd (ai_aw x.1) (.arrayClass (ai_TY x.1))) = true := hok
    obtain ⟨hok, h4⟩ := iv_and2 hok
    obtain ⟨hok, h3⟩ := iv_and2 hok
    obtain ⟨h1, h2⟩ := iv_and2 hok
    obtain ⟨n0, r, rfl, hsh, hz, hkc, hks, hs⟩ := iv_nar (show ai_nar Y m i ls st k h Q x.1 from hs)
    exact sn_nar F hK (of_decide_eq_true h2) (iv_blt h3) (ai_wd_in h4) hbs hsh hz (ai_sh_small hsh).1 hkc hks hd (ai_nx_pc h1) (KY _ _ _ _ _ hs)
  | anewarray n =>
    obtain rfl : len = 3 := Nat.eq_of_beq_eq_true hln
    replace hok : (ai_nx m i (ai_pc m i + 3) && ai_wd x.2.2.2.2 (.classLink (ai_mY m).cls n ai_Store)) = true := hok
    obtain ⟨h1, h2⟩ := iv_and2 hok
    obtain ⟨n0, r, rfl, hsh, hz, hkc, hks, hs⟩ := iv_nar (show ai_nar Y m i ls st k h Q 4 from hs)
    exact sn_anar F hK (ai_wd_in h2) hE.1 hbs hsh hz (ai_sh_small hsh).1 hkc hks hd (ai_nx_pc h1) (KY _ _ _ _ _ hs)
  | invokevirtual n =>
    obtain rfl : len = 3 := Nat.eq_of_beq_eq_true hln
    replace hok : (ai_nx m i (ai_pc m i + 3) && ai_okv m x n 0) = true := hok
    obtain ⟨h1, h2⟩ := iv_and2 hok
    obtain ⟨hw1, hmk, hlt, hlen, hrmk, -, -, hhh⟩ := ai_okv_use h2
    obtain ⟨hi4, hy, hpl, hp0, hi0, -, -⟩ := ai_meth_use hlt
    obtain ⟨hw2, hw3, T, N, hcl⟩ := hi0 hmk
    replace hs : ai_vcall Y m i ls st k h Q x := hs
    unfold ai_vcall at hs
    split at hs
    · rename_i q ws rr htk
      split at hs
      · rename_i c0 hsh
        have zz0 := hs
        clear hs
        obtain ⟨g1, hs⟩ := ai_ck_true zz0
        obtain ⟨g1, g2⟩ := iv_and2 g1
        have e1 : c0 = ai_mC x.1 := Nat.eq_of_beq_eq_true g1
        subst e1
        obtain ⟨vs, r, hst, hvl, htk2, hc8, hcv, hkc, hks, hs⟩ := iv_call hs
        cases htk.symm.trans htk2
        have hwl : ws.length = ai_mN x.1 := by
          simp only [List.length_cons] at hvl
          rw [hlen] at hvl
          simpa using hvl
        have go : ai_ret Y x.1 (ai_en (ai_mL x.1) (.inr (.inr q) :: ws)) h (fun v h' => ai_ck (ai_zz h.1 h'.1 (ai_mc x.1)) (Y m (i + 1) ls (v.toList ++ rr) (k.1 + ai_mc x.1, k.2 + ai_ms x.1) h' Q)) → ai_at l D base b cA p e s mid args below meth c m Q (i) (ls) (st) (k) (h) := by
          rintro ⟨P, hP, hall⟩
          have hM := ai_toMet hl hpl (hhh rfl) (by intro z; rw [z] at hlt; exact absurd hlt (by decide)) hp0 hcv (hY _ _ _ _ _ _ _ hP) (fun o ho => by obtain ⟨v, h', e, -⟩ := hall o ho; exact ⟨v, h', e⟩)
          rw [hst]
          exact sn_callV F hK hM (hhh rfl) ai_WS_good (ai_cw_in hlt) hbs hE hcl rfl hw1 hw2 hw3 hi4 hy rfl hwl hsh (iv_blt g2) (ai_rmk_use hrmk) hc8 ⟨hkc, hks⟩ hd (ai_nx_pc h1) (fun v h' hp => by
          obtain ⟨v2, h2, e, hk⟩ := hall _ hp
          cases e
          have zz0 := hk
          clear hk
          obtain ⟨z1, hk⟩ := ai_ck_true zz0
          exact ⟨(ai_zz_use z1).1, (ai_zz_use z1).2, KY _ _ _ _ _ hk⟩)
        by_cases hx : x.2.2.1 = 0
        · rw [hx] at hs
          exact go hs
        · have hs2 : ai_ret Y x.1 (ai_en (ai_mL x.1) (.inr (.inr q) :: ws)) h (fun v h' => ai_ck (ai_zz h.1 h'.1 (ai_mc x.1)) (Y m (i + 1) ls (v.toList ++ rr) (k.1 + ai_mc x.1, k.2 + ai_ms x.1) h' Q)) ∨
              ai_thr Y x.1 (ai_en (ai_mL x.1) (.inr (.inr q) :: ws)) h (fun c h' => ai_ck (Nat.ble 92 h'.1) (match ai_ct m c with
                | some (t, sl) => Y m t (ai_put (ai_kill ls sl) sl none) [] (k.1 + ai_mc x.1, k.2 + ai_ms x.1) h' Q
                | none => False)) := by
            split at hs
            · rename_i z
              exact absurd z hx
            · exact hs
          rcases hs2 with hs2 | hs2
          · exact go hs2
          · rw [hst]
            exact sn_catch0 hl F hK hbs hE hY KY hcl hw1 hw2 hw3 hi4 hy hpl hp0 hlt (hhh rfl) hwl hsh (iv_blt g2) hrmk hc8 hcv ⟨hkc, hks⟩ hd hs2 ⟨_, _, _, hen⟩ hx
      · exact hs.elim
    · exact hs.elim
  | invokespecial n =>
    obtain rfl : len = 3 := Nat.eq_of_beq_eq_true hln
    by_cases hx3 : x.2.2.2.1 = 0
    · replace hok : (ai_nx m i (ai_pc m i + 3) && ai_okv m x n 1) = true := by
        have h0 : (ai_nx m i (ai_pc m i + 3) && (match x.2.2.2.1 with
          | 0 => ai_okv m x n 1
          | 1 => ai_oko m x n
          | _ => true)) = true := hok
        rw [hx3] at h0
        exact h0
      replace hs : ai_icall Y m i ls st k h Q x := by
        have h0 : (match x.2.2.2.1 with
          | 0 => ai_icall Y m i ls st k h Q x
          | 1 => ai_ocall Y m i ls st k h Q x
          | _ => False) := hs
        rw [hx3] at h0
        exact h0
      obtain ⟨h1, h2⟩ := iv_and2 hok
      obtain ⟨hw1, hmk, hlt, hlen, hrmk, -, hh1, -⟩ := ai_okv_use h2
      obtain ⟨hx, hhh⟩ := hh1 rfl
      obtain ⟨hi4, hy, hpl, hp0, -, hi1, -⟩ := ai_meth_use hlt
      obtain ⟨hw2, hini, hrn⟩ := hi1 hmk
      unfold ai_icall at hs
      split at hs
      case h_2 => exact hs.elim
      rename_i q ws rr htk
      obtain ⟨vs, r, hst, hvl, htk2, hc8, hcv, hkc, hks, hs⟩ := iv_call hs
      cases htk.symm.trans htk2
      rw [hx] at hs
      obtain ⟨P, hP, hall⟩ := hs
      have hM := ai_toMet hl hpl hhh (by intro z; rw [z] at hlt; exact absurd hlt (by decide)) hp0 hcv (hY _ _ _ _ _ _ _ hP) (fun o ho => by obtain ⟨v, h', e, -⟩ := hall o ho; exact ⟨v, h', e⟩)
      rw [hst]
      have hwl : ws.length = ai_mN x.1 := by
        rw [hlen] at hvl
        simpa using hvl
      exact sn_callI F hK hM hhh ai_WS_good (ai_cw_in hlt) hbs hE hw1 hw2 hi4 hini hrn hy rfl hwl (ai_rmk_use hrmk) hc8 ⟨hkc, hks⟩ hd (ai_nx_pc h1) (fun v h' hp => by
          obtain ⟨v2, h2, e, hk⟩ := hall _ hp
          cases e
          have zz0 := hk
          clear hk
          obtain ⟨z1, hk⟩ := ai_ck_true zz0
          exact ⟨(ai_zz_use z1).1, (ai_zz_use z1).2, KY _ _ _ _ _ hk⟩)
    · by_cases hx4 : x.2.2.2.1 = 1
      · replace hok : (ai_nx m i (ai_pc m i + 3) && ai_oko m x n) = true := by
          have h0 : (ai_nx m i (ai_pc m i + 3) && (match x.2.2.2.1 with
            | 0 => ai_okv m x n 1
            | 1 => ai_oko m x n
            | _ => true)) = true := hok
          rw [hx4] at h0
          exact h0
        replace hs : ai_ocall Y m i ls st k h Q x := by
          have h0 : (match x.2.2.2.1 with
            | 0 => ai_icall Y m i ls st k h Q x
            | 1 => ai_ocall Y m i ls st k h Q x
            | _ => False) := hs
          rw [hx4] at h0
          exact h0
        obtain ⟨h1, h2⟩ := iv_and2 hok
        unfold ai_oko at h2
        obtain ⟨h2, g6⟩ := iv_and2 h2
        obtain ⟨h2, g5⟩ := iv_and2 h2
        obtain ⟨h2, g4⟩ := iv_and2 h2
        obtain ⟨h2, g3⟩ := iv_and2 h2
        obtain ⟨g1, g2⟩ := iv_and2 h2
        have e1 : x.1 = 1000 := Nat.eq_of_beq_eq_true g1
        obtain ⟨q, r, rfl, hc, hs⟩ := iv_ocall0 e1 hs
        exact sn_oinit F (ai_wd_in g3) (ai_wd_in g4) (ai_wd_in g5) (iv_ble g2) (by have := iv_ble g6; show ai_cats r + 12 ≤ ai_mw m; omega) hd (ai_nx_pc h1) (KY _ _ _ _ _ hs)
      · have h0 : (match x.2.2.2.1 with
          | 0 => ai_icall Y m i ls st k h Q x
          | 1 => ai_ocall Y m i ls st k h Q x
          | _ => False) := hs
        split at h0
        · rename_i z; exact absurd z hx3
        · rename_i z; exact absurd z hx4
        · exact h0.elim
  | invokestatic n =>
    obtain rfl : len = 3 := Nat.eq_of_beq_eq_true hln
    by_cases hx3 : x.2.2.2.1 = 0
    · replace hok : (ai_nx m i (ai_pc m i + 3) && ai_okv m x n 2) = true := by
        have h0 : (ai_nx m i (ai_pc m i + 3) && (match x.2.2.2.1 with
          | 0 => ai_okv m x n 2
          | _ => ai_okl m x n)) = true := hok
        rw [hx3] at h0
        exact h0
      replace hs : ai_call Y m i ls st k h Q x := by
        have h0 : (match x.2.2.2.1 with
          | 0 => ai_call Y m i ls st k h Q x
          | _ => ai_ocall Y m i ls st k h Q x) := hs
        rw [hx3] at h0
        exact h0
      obtain ⟨h1, h2⟩ := iv_and2 hok
      obtain ⟨hw1, hmk, hlt, hlen, hrmk, hst2, -, -⟩ := ai_okv_use h2
      obtain ⟨hC, hx⟩ := hst2 rfl
      obtain ⟨hi4, hy, hpl, hp0, -, -, hi2⟩ := ai_meth_use hlt
      have hw2 := hi2 hmk
      obtain ⟨vs, r, hst, hvl, htk2, hc8, hcv, hkc, hks, hs⟩ := iv_call hs
      rw [hx] at hs
      obtain ⟨P, hP, hall⟩ := hs
      have hwl : vs.length = ai_mN x.1 := by
        rw [hlen] at hvl
        simpa using hvl
      rw [hst]
      by_cases hhh : ai_hh x.1 = []
      · have hM := ai_toMet hl hpl hhh (by intro z; rw [z] at hlt; exact absurd hlt (by decide)) hp0 hcv (hY _ _ _ _ _ _ _ hP) (fun o ho => by obtain ⟨v, h', e, -⟩ := hall o ho; exact ⟨v, h', e⟩)
        exact sn_callS F hK hM hhh ai_WS_good (ai_cw_in hlt) hbs hE hC hw1 hw2 (by rw [← hC]; exact hi4) hy hwl (ai_rmk_use hrmk) hc8 ⟨hkc, hks⟩ hd (ai_nx_pc h1) (fun v h' hp => by
          obtain ⟨v2, h2, e, hk⟩ := hall _ hp
          cases e
          have zz0 := hk
          clear hk
          obtain ⟨z1, hk⟩ := ai_ck_true zz0
          exact ⟨(ai_zz_use z1).1, (ai_zz_use z1).2, KY _ _ _ _ _ hk⟩)
      · have hM := ai_toMetW hl hpl hhh (by intro z; rw [z] at hlt; exact absurd hlt (by decide)) hp0 hcv (hY _ _ _ _ _ _ _ hP) (fun o ho => by obtain ⟨v, h', e, -⟩ := hall o ho; exact ⟨v, h', e⟩)
        exact sn_callSW F hK hM hhh ai_WS_good (ai_cw_in hlt) hbs hE hC hw1 hw2 (by rw [← hC]; exact hi4) hy hwl (ai_rmk_use hrmk) hc8 ⟨hkc, hks⟩ hd (ai_nx_pc h1) (fun v h' hp => by
          obtain ⟨v2, h2, e, hk⟩ := hall _ hp
          cases e
          have zz0 := hk
          clear hk
          obtain ⟨z1, hk⟩ := ai_ck_true zz0
          exact ⟨(ai_zz_use z1).1, (ai_zz_use z1).2, KY _ _ _ _ _ hk⟩)
    · replace hok : (ai_nx m i (ai_pc m i + 3) && ai_okl m x n) = true := by
        have h0 : (ai_nx m i (ai_pc m i + 3) && (match x.2.2.2.1 with
          | 0 => ai_okv m x n 2
          | _ => ai_okl m x n)) = true := hok
        split at h0
        · rename_i z; exact absurd z hx3
        · exact h0
      replace hs : ai_ocall Y m i ls st k h Q x := by
        have h0 : (match x.2.2.2.1 with
          | 0 => ai_call Y m i ls st k h Q x
          | _ => ai_ocall Y m i ls st k h Q x) := hs
        split at h0
        · rename_i z; exact absurd z hx3
        · exact h0
      obtain ⟨h1, h2⟩ := iv_and2 hok
      unfold ai_okl at h2
      obtain ⟨g0, h2⟩ := iv_and2 h2
      split at h2
      · rename_i e1
        obtain ⟨h2, g5⟩ := iv_and2 h2
        obtain ⟨h2, g4⟩ := iv_and2 h2
        obtain ⟨h2, g3⟩ := iv_and2 h2
        obtain ⟨g1, g2⟩ := iv_and2 h2
        obtain ⟨n9, dp, sp, qq, qp, kd, np, nq, r, rfl, hkd, hsp, hsq, hqp, hqq, hc, hr, hs⟩ := iv_ocall1 e1 hs
        have hN : np < 2147483648 ∧ nq < 2147483648 := ⟨by have := (ai_sh_small hsp).1; omega, by have := (ai_sh_small hsq).1; omega⟩
        have hlo : ai_cats r + (nativeFrameWords "java/lang/System" "arraycopy" 5 + 11) ≤ (ai_rm m).locals := by
          have := iv_ble g5
          show ai_cats r + (nativeFrameWords "java/lang/System" "arraycopy" 5 + 11) ≤ ai_mw m
          omega
        rcases (show kd = 0 ∨ kd = 1 by omega) with rfl | rfl
        · exact sn_copyi F hK (ai_wd_in g1) (ai_wd_in g2) (ai_wd_in g3) (ai_wd_in g4) hsp hsq hqp hqq hr hN (iv_ble g0) hlo hd (ai_nx_pc h1) (KY _ _ _ _ _ hs)
        · exact sn_copyl F hK (ai_wd_in g1) (ai_wd_in g2) (ai_wd_in g3) (ai_wd_in g4) hsp hsq hqp hqq hr hN (iv_ble g0) hlo hd (ai_nx_pc h1) (KY _ _ _ _ _ hs)
      · rename_i e1
        obtain ⟨h2, g5⟩ := iv_and2 h2
        obtain ⟨h2, g4⟩ := iv_and2 h2
        obtain ⟨h2, g3⟩ := iv_and2 h2
        obtain ⟨g1, g2⟩ := iv_and2 h2
        obtain ⟨a0, r, rfl, hc, hr, hkc, hks, hs⟩ := iv_ocall2 e1 hs
        exact sn_labs F hK (ai_wd_in g1) (ai_wd_in g2) (ai_wd_in g3) (ai_wd_in g4) hr (iv_ble g0) (by have := iv_ble g5; show ai_cats r + 13 ≤ ai_mw m; omega) hkc hks hd (ai_nx_pc h1) (KY _ _ _ _ _ hs)
      · rename_i e1
        obtain ⟨h2, g5⟩ := iv_and2 h2
        obtain ⟨h2, g4⟩ := iv_and2 h2
        obtain ⟨h2, g3⟩ := iv_and2 h2
        obtain ⟨g1, g2⟩ := iv_and2 h2
        obtain ⟨b0, a0, r, rfl, hc, hr, hkc, hks, hs⟩ := iv_ocall3 e1 hs
        exact sn_imin F hK (ai_wd_in g1) (ai_wd_in g2) (ai_wd_in g3) (ai_wd_in g4) hr.1 hr.2 (iv_ble g0) (by have := iv_ble g5; show ai_cats r + 13 ≤ ai_mw m; omega) hkc hks hd (ai_nx_pc h1) (KY _ _ _ _ _ hs)
      · cases h2
  | return_ =>
    obtain rfl : len = 1 := Nat.eq_of_beq_eq_true hln
    replace hok : decide (ai_mR m = none) = true := hok
    replace hs : ai_rv m st k h Q := hs
    unfold ai_rv at hs
    split at hs
    · have zz0 := hs
      clear hs
      obtain ⟨h1, hs⟩ := ai_ck_true zz0
      obtain ⟨h1, h2⟩ := iv_and2 h1
      exact sn_vret F (of_decide_eq_true hok) (iv_ble h1) (iv_ble h2) hs hd
    · exact hs.elim
  | ireturn =>
    obtain rfl : len = 1 := Nat.eq_of_beq_eq_true hln
    replace hs : ai_ri m st k h Q x := hs
    replace hok : (match x.1 with
      | 0 => decide (ai_mR m = some .int)
      | 3 => decide (ai_mR m = some .boolean)
      | _ => decide (ai_mR m = some .char)) = true := hok
    unfold ai_ri at hs
    split at hs
    · rename_i v
      have zz0 := hs
      clear hs
      obtain ⟨h1, hs⟩ := ai_ck_true zz0
      obtain ⟨h1, h2⟩ := iv_and2 h1
      split at hs
      · rename_i e0
        rw [e0] at hok
        exact sn_iret F (of_decide_eq_true hok) (iv_ble h1) (iv_ble h2) hs hd
      · rename_i e0
        rw [e0] at hok
        have hb : v = 0 ∨ v = 1 := by have := hs.1; omega
        exact sn_zret F (of_decide_eq_true hok) (by rcases hb with rfl | rfl <;> rfl) (iv_ble h1) (iv_ble h2) hs.2 hd
      · rename_i e0 e3
        have hok2 : decide (ai_mR m = some .char) = true := by
          split at hok
          · rename_i z; exact absurd z e0
          · rename_i z; exact absurd z e3
          · exact hok
        exact sn_zret F (of_decide_eq_true hok2) (by rw [ai_nI hs.1.1]; exact (pk_charN (q := v.toNat) (by have := hs.1.2; omega)).1) (iv_ble h1) (iv_ble h2) hs.2 hd
    · exact hs.elim
  | lreturn =>
    obtain rfl : len = 1 := Nat.eq_of_beq_eq_true hln
    replace hok : decide (ai_mR m = some .long) = true := hok
    replace hs : ai_rl m st k h Q := hs
    unfold ai_rl at hs
    split at hs
    · have zz0 := hs
      clear hs
      obtain ⟨h1, hs⟩ := ai_ck_true zz0
      obtain ⟨h1, h2⟩ := iv_and2 h1
      exact sn_lret F (of_decide_eq_true hok) (iv_ble h1) (iv_ble h2) hs hd
    · exact hs.elim
  | _ => exact absurd hs id
/-- what ends in the machine of places as Q asks, ends so in the machine -/
theorem ai_sound {sc : Int × (Int → Int)} {l : Launch} {D : va_G} {base b : Nat} {cA : Nat → ClassId} (hl : ai_stOK l) {m i : Nat} {ls : ai_L} {st : List ai_V} {k : Nat × Nat} {h : ai_H} {Q : ai_O → Prop} (hw : ai_wp sc m i ls st k h Q) : ai_SND sc l D base b cA m i ls st k h Q := ai_wp_ind (X := ai_SND sc l D base b cA) (ai_core hl) hw
