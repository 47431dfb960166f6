-- THE REFERENCE: more of its public ones
section MPUB2
variable {G : gE} {w : aW} {o n : Nat} {M : aM}
def m2_lossOf (M : aM) (b t : Int32) : Int32 × aM := if (lt0 b (M.1 13) && lt0 t (M.1 10)) = true then (M.2.1 (29 + b.toNatClampNeg) t.toNatClampNeg, M) else (-1000000 + -2, mR M 2)
theorem c_M_lossOf {b t : Int32} (h : MW w o M n) (hO : MOk M) : Mm G 2 y_M_lossOf [.ref o, .int b, .int t] w o n (m2_lossOf M b t) := by
  obtain ⟨m0, mA', mL', m4, m20, m28, mn'⟩ := id h
  obtain ⟨P, B, z, hP, hP7, hB, hB7, hz, hz2⟩ := hO
  refine Mm.of k_M_lossOf l_M_lossOf rfl rfl ?_
  unfold m2_lossOf
  rw [hP, hB]
  refine r_aload_n (i := 0) i_M_lossOf_0 rfl rfl ?_
  refine r_iload_n (i := 1) i_M_lossOf_1 rfl rfl ?_
  refine f_virtual o_M_lossOf k_M_isBargain v_M_isBargain x_M_116 i_M_lossOf_2 o_M_isBargain (c_M_isBargain h) rfl (rcv_ob (by repeat (first | assumption | exact upw_s | refine (upw_n (by omega)).trans ?_)) rfl (by first | assumption | omega)) rfl (by decide) (Nat.le_of_ble_eq_true rfl) ?_
  rw [hB, in_lt (by omega)]
  refine r_if_eq 28 i_M_lossOf_5 (by decide) (fun h5 => ?_) (fun h5 => ?_)
  · skip
    have h5 := bI_eq0.mp h5
    try rw [h5]
    refine r_ldc o_M_lossOf i_M_lossOf_28 x_M_239 ?_
    refine r_aload_n (i := 0) i_M_lossOf_30 rfl rfl ?_
    refine r_bipush (v := (-2 : Int32)) i_M_lossOf_31 (by decide) ?_
    refine m_virtual o_M_lossOf k_M_refuse v_M_refuse x_M_89 i_M_lossOf_33 o_M_refuse (c_M_refuse (i := 2) h (by decide)) rfl (rcv_ob (by repeat (first | assumption | exact upw_s | refine (upw_n (by omega)).trans ?_)) rfl (by first | assumption | omega)) rfl (by decide) (Nat.le_of_ble_eq_true rfl) (Nat.zero_le _) (Nat.zero_le _) (fun rr33 wr33 nr33 hp9 => ?_)
    obtain ⟨rfl, hp9, rfl⟩ := hp9
    refine r_iadd i_M_lossOf_36 ?_
    refine r_ireturn i_M_lossOf_37 t_M_lossOf rfl ?_
    first | exact ⟨rfl, hp9, rfl⟩ | exact ⟨rfl, ⟨h, fun _ _ => rfl⟩, rfl⟩
  · skip
    have h5 := bI_ne0.mp h5
    try rw [h5]
    refine r_aload_n (i := 0) i_M_lossOf_8 rfl rfl ?_
    refine r_iload_n (i := 2) i_M_lossOf_9 rfl rfl ?_
    refine r_i2l i_M_lossOf_10 ?_
    refine f_virtual o_M_lossOf k_M_isOne v_M_isOne x_M_112 i_M_lossOf_11 o_M_isOne (c_M_isOne h) rfl (rcv_ob (by repeat (first | assumption | exact upw_s | refine (upw_n (by omega)).trans ?_)) rfl (by first | assumption | omega)) rfl (by decide) (Nat.le_of_ble_eq_true rfl) ?_
    rw [hP, in_lt (by omega)]
    refine r_if_eq 28 i_M_lossOf_14 (by decide) (fun h14 => ?_) (fun h14 => ?_)
    · skip
      have h14 := bI_eq0.mp h14
      try rw [h14]
      refine r_ldc o_M_lossOf i_M_lossOf_28 x_M_239 ?_
      refine r_aload_n (i := 0) i_M_lossOf_30 rfl rfl ?_
      refine r_bipush (v := (-2 : Int32)) i_M_lossOf_31 (by decide) ?_
      refine m_virtual o_M_lossOf k_M_refuse v_M_refuse x_M_89 i_M_lossOf_33 o_M_refuse (c_M_refuse (i := 2) h (by decide)) rfl (rcv_ob (by repeat (first | assumption | exact upw_s | refine (upw_n (by omega)).trans ?_)) rfl (by first | assumption | omega)) rfl (by decide) (Nat.le_of_ble_eq_true rfl) (Nat.zero_le _) (Nat.zero_le _) (fun rr33 wr33 nr33 hp9 => ?_)
      obtain ⟨rfl, hp9, rfl⟩ := hp9
      refine r_iadd i_M_lossOf_36 ?_
      refine r_ireturn i_M_lossOf_37 t_M_lossOf rfl ?_
      first | exact ⟨rfl, hp9, rfl⟩ | exact ⟨rfl, ⟨h, fun _ _ => rfl⟩, rfl⟩
    · skip
      have h14 := bI_ne0.mp h14
      try rw [h14]
      obtain ⟨b, hb, rfl⟩ := lt0_of (by omega) h5
      obtain ⟨t, ht, rfl⟩ := lt0_of (by omega) h14
      obtain ⟨r1, r2, r3, r4, r5⟩ := row_of h (show b < 7 by omega)
      have it : vp_in (nI t) 7 := vp_in_nI (by omega) (by decide)
      rw [nI_clamp (by omega), nI_clamp (by omega)]
      refine r_aload_n (i := 0) i_M_lossOf_17 rfl rfl ?_
      refine r_getf (ci := 6) (T := Fk6) (k := 15) o_M_lossOf i_M_lossOf_18 x_M_51 rfl (by decide) rfl (by repeat (first | assumption | exact upw_s | refine (upw_n (by omega)).trans ?_)) (by first | assumption | omega) (by rfl) ?_
      refine r_iload_n (i := 1) i_M_lossOf_21 rfl rfl ?_
      refine r_aald i_M_lossOf_22 (by repeat (first | assumption | exact upw_s | refine (upw_n (by omega)).trans ?_)) (by decide) (by first | assumption | omega) (by assumption) r4 ?_
      refine r_iload_n (i := 2) i_M_lossOf_23 rfl rfl ?_
      refine r_iald i_M_lossOf_24 (by repeat (first | assumption | exact upw_s | refine (upw_n (by omega)).trans ?_)) (by first | assumption | omega) (by assumption) ?_
      rw [nI_clamp (by omega)]
      refine r_goto 37 i_M_lossOf_25 (by decide) ?_
      refine r_ireturn i_M_lossOf_37 t_M_lossOf rfl ?_
      first | exact ⟨rfl, hp9, rfl⟩ | exact ⟨rfl, ⟨h, fun _ _ => rfl⟩, rfl⟩
def m2_standing (M : aM) (t : Int32) : Int32 × aM := if lt0 t (M.1 10) = true then (M.2.1 18 t.toNatClampNeg, M) else (-1000000 + -2, mR M 2)
theorem c_M_standing {t : Int32} (h : MW w o M n) (hO : MOk M) : Mm G 2 y_M_standing [.ref o, .int t] w o n (m2_standing M t) := by
  obtain ⟨m0, mA', mL', m4, m20, m28, mn'⟩ := id h
  obtain ⟨P, B, z, hP, hP7, hB, hB7, hz, hz2⟩ := hO
  have a18 : w (o + 18) = ai 7 (M.2.1 18) := mA' 18 rfl
  refine Mm.of k_M_standing l_M_standing rfl rfl ?_
  unfold m2_standing
  rw [hP]
  refine r_aload_n (i := 0) i_M_standing_0 rfl rfl ?_
  refine r_iload_n (i := 1) i_M_standing_1 rfl rfl ?_
  refine r_i2l i_M_standing_2 ?_
  refine f_virtual o_M_standing k_M_isOne v_M_isOne x_M_112 i_M_standing_3 o_M_isOne (c_M_isOne h) rfl (rcv_ob (by repeat (first | assumption | exact upw_s | refine (upw_n (by omega)).trans ?_)) rfl (by first | assumption | omega)) rfl (by decide) (Nat.le_of_ble_eq_true rfl) ?_
  rw [hP, in_lt (by omega)]
  refine r_if_eq 18 i_M_standing_6 (by decide) (fun h6 => ?_) (fun h6 => ?_)
  · skip
    have h6 := bI_eq0.mp h6
    try rw [h6]
    refine r_ldc o_M_standing i_M_standing_18 x_M_239 ?_
    refine r_aload_n (i := 0) i_M_standing_20 rfl rfl ?_
    refine r_bipush (v := (-2 : Int32)) i_M_standing_21 (by decide) ?_
    refine m_virtual o_M_standing k_M_refuse v_M_refuse x_M_89 i_M_standing_23 o_M_refuse (c_M_refuse (i := 2) h (by decide)) rfl (rcv_ob (by repeat (first | assumption | exact upw_s | refine (upw_n (by omega)).trans ?_)) rfl (by first | assumption | omega)) rfl (by decide) (Nat.le_of_ble_eq_true rfl) (Nat.zero_le _) (Nat.zero_le _) (fun rr23 wr23 nr23 hp9 => ?_)
    obtain ⟨rfl, hp9, rfl⟩ := hp9
    refine r_iadd i_M_standing_26 ?_
    refine r_ireturn i_M_standing_27 t_M_standing rfl ?_
    first | exact ⟨rfl, hp9, rfl⟩ | exact ⟨rfl, ⟨h, fun _ _ => rfl⟩, rfl⟩
  · skip
    have h6 := bI_ne0.mp h6
    try rw [h6]
    obtain ⟨t, ht, rfl⟩ := lt0_of (by omega) h6
    have it : vp_in (nI t) 7 := vp_in_nI (by omega) (by decide)
    refine r_aload_n (i := 0) i_M_standing_9 rfl rfl ?_
    refine r_getf (ci := 6) (T := Fk6) (k := 11) o_M_standing i_M_standing_10 x_M_40 rfl (by decide) rfl (by repeat (first | assumption | exact upw_s | refine (upw_n (by omega)).trans ?_)) (by first | assumption | omega) (by rfl) ?_
    refine r_iload_n (i := 1) i_M_standing_13 rfl rfl ?_
    refine r_iald i_M_standing_14 (by repeat (first | assumption | exact upw_s | refine (upw_n (by omega)).trans ?_)) (by first | assumption | omega) (by assumption) ?_
    refine r_goto 27 i_M_standing_15 (by decide) ?_
    refine r_ireturn i_M_standing_27 t_M_standing rfl ?_
    first | exact ⟨rfl, hp9, rfl⟩ | exact ⟨rfl, ⟨h, fun _ _ => rfl⟩, rfl⟩
def m2_named (M : aM) (t : Int32) : Int32 × aM := if lt0 t (M.1 10) = true then (M.2.1 19 t.toNatClampNeg, M) else (-2, mR M 2)
theorem c_M_named {t : Int32} (h : MW w o M n) (hO : MOk M) : Mm G 2 y_M_named [.ref o, .int t] w o n (m2_named M t) := by
  obtain ⟨m0, mA', mL', m4, m20, m28, mn'⟩ := id h
  obtain ⟨P, B, z, hP, hP7, hB, hB7, hz, hz2⟩ := hO
  have a19 : w (o + 19) = ai 7 (M.2.1 19) := mA' 19 rfl
  refine Mm.of k_M_named l_M_named rfl rfl ?_
  unfold m2_named
  rw [hP]
  refine r_aload_n (i := 0) i_M_named_0 rfl rfl ?_
  refine r_iload_n (i := 1) i_M_named_1 rfl rfl ?_
  refine r_i2l i_M_named_2 ?_
  refine f_virtual o_M_named k_M_isOne v_M_isOne x_M_112 i_M_named_3 o_M_isOne (c_M_isOne h) rfl (rcv_ob (by repeat (first | assumption | exact upw_s | refine (upw_n (by omega)).trans ?_)) rfl (by first | assumption | omega)) rfl (by decide) (Nat.le_of_ble_eq_true rfl) ?_
  rw [hP, in_lt (by omega)]
  refine r_if_eq 18 i_M_named_6 (by decide) (fun h6 => ?_) (fun h6 => ?_)
  · skip
    have h6 := bI_eq0.mp h6
    try rw [h6]
    refine r_aload_n (i := 0) i_M_named_18 rfl rfl ?_
    refine r_bipush (v := (-2 : Int32)) i_M_named_19 (by decide) ?_
    refine m_virtual o_M_named k_M_refuse v_M_refuse x_M_89 i_M_named_21 o_M_refuse (c_M_refuse (i := 2) h (by decide)) rfl (rcv_ob (by repeat (first | assumption | exact upw_s | refine (upw_n (by omega)).trans ?_)) rfl (by first | assumption | omega)) rfl (by decide) (Nat.le_of_ble_eq_true rfl) (Nat.zero_le _) (Nat.zero_le _) (fun rr21 wr21 nr21 hp9 => ?_)
    obtain ⟨rfl, hp9, rfl⟩ := hp9
    refine r_ireturn i_M_named_24 t_M_named rfl ?_
    first | exact ⟨rfl, hp9, rfl⟩ | exact ⟨rfl, ⟨h, fun _ _ => rfl⟩, rfl⟩
  · skip
    have h6 := bI_ne0.mp h6
    try rw [h6]
    obtain ⟨t, ht, rfl⟩ := lt0_of (by omega) h6
    have it : vp_in (nI t) 7 := vp_in_nI (by omega) (by decide)
    refine r_aload_n (i := 0) i_M_named_9 rfl rfl ?_
    refine r_getf (ci := 6) (T := Fk6) (k := 12) o_M_named i_M_named_10 x_M_43 rfl (by decide) rfl (by repeat (first | assumption | exact upw_s | refine (upw_n (by omega)).trans ?_)) (by first | assumption | omega) (by rfl) ?_
    refine r_iload_n (i := 1) i_M_named_13 rfl rfl ?_
    refine r_iald i_M_named_14 (by repeat (first | assumption | exact upw_s | refine (upw_n (by omega)).trans ?_)) (by first | assumption | omega) (by assumption) ?_
    refine r_goto 24 i_M_named_15 (by decide) ?_
    refine r_ireturn i_M_named_24 t_M_named rfl ?_
    first | exact ⟨rfl, hp9, rfl⟩ | exact ⟨rfl, ⟨h, fun _ _ => rfl⟩, rfl⟩
def m2_good (M : aM) (b : Int32) : Int32 × aM := if lt0 b (M.1 13) = true then (bitsOf (gd (tM M) b.toNatClampNeg) (M.1 10).toNatClampNeg, M) else (-2, mR M 2)
theorem c_M_good {b : Int32} (h : MW w o M n) (hO : MOk M) : Mm G 3 y_M_good [.ref o, .int b] w o n (m2_good M b) := by
  obtain ⟨m0, mA', mL', m4, m20, m28, mn'⟩ := id h
  obtain ⟨P, B, z, hP, hP7, hB, hB7, hz, hz2⟩ := hO
  refine Mm.of k_M_good l_M_good rfl rfl ?_
  unfold m2_good
  rw [hP, hB, nI_clamp (by omega)]
  refine r_aload_n (i := 0) i_M_good_0 rfl rfl ?_
  refine r_iload_n (i := 1) i_M_good_1 rfl rfl ?_
  refine f_virtual o_M_good k_M_isBargain v_M_isBargain x_M_116 i_M_good_2 o_M_isBargain (c_M_isBargain h) rfl (rcv_ob (by repeat (first | assumption | exact upw_s | refine (upw_n (by omega)).trans ?_)) rfl (by first | assumption | omega)) rfl (by decide) (Nat.le_of_ble_eq_true rfl) ?_
  rw [hB, in_lt (by omega)]
  refine r_if_eq 16 i_M_good_5 (by decide) (fun h5 => ?_) (fun h5 => ?_)
  · skip
    have h5 := bI_eq0.mp h5
    try rw [h5]
    refine r_aload_n (i := 0) i_M_good_16 rfl rfl ?_
    refine r_bipush (v := (-2 : Int32)) i_M_good_17 (by decide) ?_
    refine m_virtual o_M_good k_M_refuse v_M_refuse x_M_89 i_M_good_19 o_M_refuse (c_M_refuse (i := 2) h (by decide)) rfl (rcv_ob (by repeat (first | assumption | exact upw_s | refine (upw_n (by omega)).trans ?_)) rfl (by first | assumption | omega)) rfl (by decide) (Nat.le_of_ble_eq_true rfl) (Nat.zero_le _) (Nat.zero_le _) (fun rr19 wr19 nr19 hp9 => ?_)
    obtain ⟨rfl, hp9, rfl⟩ := hp9
    refine r_ireturn i_M_good_22 t_M_good rfl ?_
    first | exact ⟨rfl, hp9, rfl⟩ | exact ⟨rfl, ⟨h, fun _ _ => rfl⟩, rfl⟩
  · skip
    have h5 := bI_ne0.mp h5
    try rw [h5]
    obtain ⟨b, hb, rfl⟩ := lt0_of (by omega) h5
    rw [nI_clamp (by omega)]
    refine r_aload_n (i := 0) i_M_good_8 rfl rfl ?_
    refine r_iload_n (i := 1) i_M_good_9 rfl rfl ?_
    refine f_virtual o_M_good k_M_goodBy v_M_goodBy x_M_248 i_M_good_10 o_M_goodBy (c_M_goodBy h (by omega) hP hP7) rfl (rcv_ob (by repeat (first | assumption | exact upw_s | refine (upw_n (by omega)).trans ?_)) rfl (by first | assumption | omega)) rfl (by decide) (Nat.le_of_ble_eq_true rfl) ?_
    refine r_goto 22 i_M_good_13 (by decide) ?_
    refine r_ireturn i_M_good_22 t_M_good rfl ?_
    first | exact ⟨rfl, hp9, rfl⟩ | exact ⟨rfl, ⟨h, fun _ _ => rfl⟩, rfl⟩
def m2_value (M : aM) (b t : Int32) : Int32 × aM := if (lt0 b (M.1 13) && lt0 t (M.1 10)) = true then (if gd (tM M) b.toNatClampNeg t.toNatClampNeg = true then (valN (tM M) b.toNatClampNeg t.toNatClampNeg, M) else (-1000000 + -5, mR M 5)) else (-1000000 + -2, mR M 2)
theorem c_M_value {b t : Int32} (h : MW w o M n) (hO : MOk M) : Mm G 2 y_M_value [.ref o, .int b, .int t] w o n (m2_value M b t) := by
  obtain ⟨m0, mA', mL', m4, m20, m28, mn'⟩ := id h
  obtain ⟨P, B, z, hP, hP7, hB, hB7, hz, hz2⟩ := hO
  refine Mm.of k_M_value l_M_value rfl rfl ?_
  unfold m2_value
  rw [hP, hB]
  refine r_aload_n (i := 0) i_M_value_0 rfl rfl ?_
  refine r_iload_n (i := 1) i_M_value_1 rfl rfl ?_
  refine f_virtual o_M_value k_M_isBargain v_M_isBargain x_M_116 i_M_value_2 o_M_isBargain (c_M_isBargain h) rfl (rcv_ob (by repeat (first | assumption | exact upw_s | refine (upw_n (by omega)).trans ?_)) rfl (by first | assumption | omega)) rfl (by decide) (Nat.le_of_ble_eq_true rfl) ?_
  rw [hB, in_lt (by omega)]
  refine r_if_eq 17 i_M_value_5 (by decide) (fun h5 => ?_) (fun h5 => ?_)
  · skip
    have h5 := bI_eq0.mp h5
    try rw [h5]
    refine r_ldc o_M_value i_M_value_17 x_M_239 ?_
    refine r_aload_n (i := 0) i_M_value_19 rfl rfl ?_
    refine r_bipush (v := (-2 : Int32)) i_M_value_20 (by decide) ?_
    refine m_virtual o_M_value k_M_refuse v_M_refuse x_M_89 i_M_value_22 o_M_refuse (c_M_refuse (i := 2) h (by decide)) rfl (rcv_ob (by repeat (first | assumption | exact upw_s | refine (upw_n (by omega)).trans ?_)) rfl (by first | assumption | omega)) rfl (by decide) (Nat.le_of_ble_eq_true rfl) (Nat.zero_le _) (Nat.zero_le _) (fun rr22 wr22 nr22 hp9 => ?_)
    obtain ⟨rfl, hp9, rfl⟩ := hp9
    refine r_iadd i_M_value_25 ?_
    refine r_ireturn i_M_value_26 t_M_value rfl ?_
    first | exact ⟨rfl, hp9, rfl⟩ | exact ⟨rfl, ⟨h, fun _ _ => rfl⟩, rfl⟩
  · skip
    have h5 := bI_ne0.mp h5
    try rw [h5]
    refine r_aload_n (i := 0) i_M_value_8 rfl rfl ?_
    refine r_iload_n (i := 2) i_M_value_9 rfl rfl ?_
    refine r_i2l i_M_value_10 ?_
    refine f_virtual o_M_value k_M_isOne v_M_isOne x_M_112 i_M_value_11 o_M_isOne (c_M_isOne h) rfl (rcv_ob (by repeat (first | assumption | exact upw_s | refine (upw_n (by omega)).trans ?_)) rfl (by first | assumption | omega)) rfl (by decide) (Nat.le_of_ble_eq_true rfl) ?_
    rw [hP, in_lt (by omega)]
    refine r_if_ne 27 i_M_value_14 (by decide) (fun h14 => ?_) (fun h14 => ?_)
    · skip
      have h14 := bI_ne0.mp h14
      try rw [h14]
      obtain ⟨b, hb, rfl⟩ := lt0_of (by omega) h5
      obtain ⟨t, ht, rfl⟩ := lt0_of (by omega) h14
      rw [nI_clamp (by omega), nI_clamp (by omega)]
      refine r_aload_n (i := 0) i_M_value_27 rfl rfl ?_
      refine r_iload_n (i := 1) i_M_value_28 rfl rfl ?_
      refine r_iload_n (i := 2) i_M_value_29 rfl rfl ?_
      refine f_virtual o_M_value k_M_isGood v_M_isGood x_M_243 i_M_value_30 o_M_isGood (c_M_isGood h (by omega) (by omega)) rfl (rcv_ob (by repeat (first | assumption | exact upw_s | refine (upw_n (by omega)).trans ?_)) rfl (by first | assumption | omega)) rfl (by decide) (Nat.le_of_ble_eq_true rfl) ?_
      refine r_if_eq 45 i_M_value_33 (by decide) (fun h33 => ?_) (fun h33 => ?_)
      · skip
        have h33 := bI_eq0.mp h33
        try rw [h33]
        refine r_ldc o_M_value i_M_value_45 x_M_239 ?_
        refine r_aload_n (i := 0) i_M_value_47 rfl rfl ?_
        refine r_bipush (v := (-5 : Int32)) i_M_value_48 (by decide) ?_
        refine m_virtual o_M_value k_M_refuse v_M_refuse x_M_89 i_M_value_50 o_M_refuse (c_M_refuse (i := 5) h (by decide)) rfl (rcv_ob (by repeat (first | assumption | exact upw_s | refine (upw_n (by omega)).trans ?_)) rfl (by first | assumption | omega)) rfl (by decide) (Nat.le_of_ble_eq_true rfl) (Nat.zero_le _) (Nat.zero_le _) (fun rr50 wr50 nr50 hp9 => ?_)
        obtain ⟨rfl, hp9, rfl⟩ := hp9
        refine r_iadd i_M_value_53 ?_
        refine r_ireturn i_M_value_54 t_M_value rfl ?_
        first | exact ⟨rfl, hp9, rfl⟩ | exact ⟨rfl, ⟨h, fun _ _ => rfl⟩, rfl⟩
      · skip
        have h33 := bI_ne0.mp h33
        try rw [h33]
        refine r_aload_n (i := 0) i_M_value_36 rfl rfl ?_
        refine r_iload_n (i := 1) i_M_value_37 rfl rfl ?_
        refine r_iload_n (i := 2) i_M_value_38 rfl rfl ?_
        refine f_virtual o_M_value k_M_valueOf v_M_valueOf x_M_251 i_M_value_39 o_M_valueOf (c_M_valueOf h (by omega) (by omega)) rfl (rcv_ob (by repeat (first | assumption | exact upw_s | refine (upw_n (by omega)).trans ?_)) rfl (by first | assumption | omega)) rfl (by decide) (Nat.le_of_ble_eq_true rfl) ?_
        refine r_goto 54 i_M_value_42 (by decide) ?_
        refine r_ireturn i_M_value_54 t_M_value rfl ?_
        first | exact ⟨rfl, hp9, rfl⟩ | exact ⟨rfl, ⟨h, fun _ _ => rfl⟩, rfl⟩
    · skip
      have h14 := bI_eq0.mp h14
      try rw [h14]
      refine r_ldc o_M_value i_M_value_17 x_M_239 ?_
      refine r_aload_n (i := 0) i_M_value_19 rfl rfl ?_
      refine r_bipush (v := (-2 : Int32)) i_M_value_20 (by decide) ?_
      refine m_virtual o_M_value k_M_refuse v_M_refuse x_M_89 i_M_value_22 o_M_refuse (c_M_refuse (i := 2) h (by decide)) rfl (rcv_ob (by repeat (first | assumption | exact upw_s | refine (upw_n (by omega)).trans ?_)) rfl (by first | assumption | omega)) rfl (by decide) (Nat.le_of_ble_eq_true rfl) (Nat.zero_le _) (Nat.zero_le _) (fun rr22 wr22 nr22 hp9 => ?_)
      obtain ⟨rfl, hp9, rfl⟩ := hp9
      refine r_iadd i_M_value_25 ?_
      refine r_ireturn i_M_value_26 t_M_value rfl ?_
      first | exact ⟨rfl, hp9, rfl⟩ | exact ⟨rfl, ⟨h, fun _ _ => rfl⟩, rfl⟩
def m2_feed (M : aM) (v : Int32) : Int32 × aM := if wi0 v 0 255 = true then (if M.1 8 = 250 then (-6, mR M 6) else (M.1 8 + 1, mA (mS M 8 (M.1 8 + 1)) 16 (upd (M.2.1 16) (M.1 8).toNatClampNeg v))) else (-2, mR M 2)
theorem c_M_feed {v : Int32} (h : MW w o M n) (hO : MOk M) : Mm G 2 y_M_feed [.ref o, .int v] w o n (m2_feed M v) := by
  obtain ⟨m0, mA', mL', m4, m20, m28, mn'⟩ := id h
  obtain ⟨P, B, z, hP, hP7, hB, hB7, hz, hz2⟩ := hO
  have a16 : w (o + 16) = ai 250 (M.2.1 16) := mA' 16 rfl
  refine Mm.of k_M_feed l_M_feed rfl rfl ?_
  unfold m2_feed
  refine r_iload_n (i := 1) i_M_feed_0 rfl rfl ?_
  refine r_i2l i_M_feed_1 ?_
  refine r_lconst (v := (0 : Int64)) i_M_feed_2 rfl ?_
  refine r_ldc2 o_M_feed i_M_feed_3 x_M_130 ?_
  refine f_static o_M_feed k_M_in s_M_in x_M_76 i_M_feed_6 (c_M_in) rfl rfl (by decide) (Nat.le_of_ble_eq_true rfl) ?_
  rw [in_0255]
  refine r_if_ne 19 i_M_feed_9 (by decide) (fun h9 => ?_) (fun h9 => ?_)
  · skip
    have h9 := bI_ne0.mp h9
    try rw [h9]
    refine r_aload_n (i := 0) i_M_feed_19 rfl rfl ?_
    refine r_getf (ci := 6) (T := Fk6) (k := 8) o_M_feed i_M_feed_20 x_M_132 rfl (by decide) rfl (by repeat (first | assumption | exact upw_s | refine (upw_n (by omega)).trans ?_)) (by first | assumption | omega) (by rfl) ?_
    refine r_sipush (v := (250 : Int32)) i_M_feed_23 (by decide) ?_
    refine r_icmp_ne 36 i_M_feed_26 (by decide) (fun h26 => ?_) (fun h26 => ?_)
    · skip
      rw [if_pos rfl, if_neg h26]
      have hz3 : z < 250 := by
        refine Nat.lt_of_le_of_ne hz2 (fun q => h26 ?_)
        rw [hz, q]
        rfl
      have it : vp_in (M.1 8) 250 := by rw [hz]; exact vp_in_nI hz3 (by decide)
      refine r_aload_n (i := 0) i_M_feed_36 rfl rfl ?_
      refine r_getf (ci := 6) (T := Fk6) (k := 7) o_M_feed i_M_feed_37 x_M_34 rfl (by decide) rfl (by repeat (first | assumption | exact upw_s | refine (upw_n (by omega)).trans ?_)) (by first | assumption | omega) (by rfl) ?_
      refine r_aload_n (i := 0) i_M_feed_40 rfl rfl ?_
      refine r_dup i_M_feed_41 rfl ?_
      refine r_getf (ci := 6) (T := Fk6) (k := 8) o_M_feed i_M_feed_42 x_M_132 rfl (by decide) rfl (by repeat (first | assumption | exact upw_s | refine (upw_n (by omega)).trans ?_)) (by first | assumption | omega) (by rfl) ?_
      refine r_dup_x1 i_M_feed_45 rfl rfl ?_
      refine r_iconst (v := (1 : Int32)) i_M_feed_46 rfl ?_
      refine r_iadd i_M_feed_47 ?_
      refine r_putf (ci := 6) (T := Fk6) (k := 8) o_M_feed i_M_feed_48 x_M_132 rfl (by decide) rfl rfl (ok6 8 (by decide)) rfl (by repeat (first | assumption | exact upw_s | refine (upw_n (by omega)).trans ?_)) (by first | assumption | omega) (by exact Nat.le_of_ble_eq_true rfl) ?_
      refine r_iload_n (i := 1) i_M_feed_51 rfl rfl ?_
      refine r_iast i_M_feed_52 (by repeat (first | assumption | exact upw_s | refine (upw_n (by omega)).trans ?_)) (by first | assumption | omega) (by assumption) ?_
      refine r_aload_n (i := 0) i_M_feed_53 rfl rfl ?_
      refine r_getf (ci := 6) (T := Fk6) (k := 8) o_M_feed i_M_feed_54 x_M_132 rfl (by decide) rfl (by repeat (first | assumption | exact upw_s | refine (upw_n (by omega)).trans ?_)) (by first | assumption | omega) (by rfl) ?_
      refine r_ireturn i_M_feed_57 t_M_feed rfl ?_
      exact ⟨rfl, ⟨(h.obj (M' := mS M 8 (M.1 8 + 1)) rfl rfl).arr (j := 16) (f := upd (M.2.1 16) (M.1 8).toNatClampNeg v) rfl, fun j hj => (by (repeat (refine (upw_n (by omega)).trans ?_)); rfl)⟩, rfl⟩
    · skip
      rw [if_pos rfl, if_pos h26]
      refine r_aload_n (i := 0) i_M_feed_29 rfl rfl ?_
      refine r_bipush (v := (-6 : Int32)) i_M_feed_30 (by decide) ?_
      refine m_virtual o_M_feed k_M_refuse v_M_refuse x_M_89 i_M_feed_32 o_M_refuse (c_M_refuse (i := 6) h (by decide)) rfl (rcv_ob (by repeat (first | assumption | exact upw_s | refine (upw_n (by omega)).trans ?_)) rfl (by first | assumption | omega)) rfl (by decide) (Nat.le_of_ble_eq_true rfl) (Nat.zero_le _) (Nat.zero_le _) (fun rr32 wr32 nr32 hp9 => ?_)
      obtain ⟨rfl, hp9, rfl⟩ := hp9
      refine r_ireturn i_M_feed_35 t_M_feed rfl ?_
      first | exact ⟨rfl, hp9, rfl⟩ | exact ⟨rfl, ⟨h, fun _ _ => rfl⟩, rfl⟩
  · skip
    have h9 := bI_eq0.mp h9
    try rw [h9]
    refine r_aload_n (i := 0) i_M_feed_12 rfl rfl ?_
    refine r_bipush (v := (-2 : Int32)) i_M_feed_13 (by decide) ?_
    refine m_virtual o_M_feed k_M_refuse v_M_refuse x_M_89 i_M_feed_15 o_M_refuse (c_M_refuse (i := 2) h (by decide)) rfl (rcv_ob (by repeat (first | assumption | exact upw_s | refine (upw_n (by omega)).trans ?_)) rfl (by first | assumption | omega)) rfl (by decide) (Nat.le_of_ble_eq_true rfl) (Nat.zero_le _) (Nat.zero_le _) (fun rr15 wr15 nr15 hp9 => ?_)
    obtain ⟨rfl, hp9, rfl⟩ := hp9
    refine r_ireturn i_M_feed_18 t_M_feed rfl ?_
    first | exact ⟨rfl, hp9, rfl⟩ | exact ⟨rfl, ⟨h, fun _ _ => rfl⟩, rfl⟩
def m2_ask (M : aM) (k v : Int32) : Int32 × aM := if (lt0 k 4 && wi0 v (if k = 0 then 1 else 0) (mostN k.toNatClampNeg)) = true then (M.2.1 36 k.toNatClampNeg, mA M 36 (upd (M.2.1 36) k.toNatClampNeg v)) else (-2, mR M 2)
theorem c_M_ask {k v : Int32} (h : MW w o M n) : Mm G 2 y_M_ask [.ref o, .int k, .int v] w o n (m2_ask M k v) := by
  obtain ⟨m0, mA', mL', m4, m20, m28, mn'⟩ := id h
  have a36 : w (o + 36) = ai 4 (M.2.1 36) := mA' 36 rfl
  refine Mm.of k_M_ask l_M_ask rfl rfl ?_
  unfold m2_ask
  refine r_iload_n (i := 1) i_M_ask_0 rfl rfl ?_
  refine r_i2l i_M_ask_1 ?_
  refine r_lconst (v := (0 : Int64)) i_M_ask_2 rfl ?_
  refine r_ldc2 o_M_ask i_M_ask_3 x_M_125 ?_
  refine f_static o_M_ask k_M_in s_M_in x_M_76 i_M_ask_6 (c_M_in) rfl rfl (by decide) (Nat.le_of_ble_eq_true rfl) ?_
  rw [in_03]
  refine r_if_eq 34 i_M_ask_9 (by decide) (fun h9 => ?_) (fun h9 => ?_)
  · skip
    have h9 := bI_eq0.mp h9
    try rw [h9]
    refine r_aload_n (i := 0) i_M_ask_34 rfl rfl ?_
    refine r_bipush (v := (-2 : Int32)) i_M_ask_35 (by decide) ?_
    refine m_virtual o_M_ask k_M_refuse v_M_refuse x_M_89 i_M_ask_37 o_M_refuse (c_M_refuse (i := 2) h (by decide)) rfl (rcv_ob (by repeat (first | assumption | exact upw_s | refine (upw_n (by omega)).trans ?_)) rfl (by first | assumption | omega)) rfl (by decide) (Nat.le_of_ble_eq_true rfl) (Nat.zero_le _) (Nat.zero_le _) (fun rr37 wr37 nr37 hp9 => ?_)
    obtain ⟨rfl, hp9, rfl⟩ := hp9
    refine r_ireturn i_M_ask_40 t_M_ask rfl ?_
    first | exact ⟨rfl, hp9, rfl⟩ | exact ⟨rfl, ⟨h, fun _ _ => rfl⟩, rfl⟩
  · skip
    have h9 := bI_ne0.mp h9
    try rw [h9]
    obtain ⟨k, hk, rfl⟩ := lt0_of (N := 4) (by decide) h9
    have it : vp_in (nI k) 4 := vp_in_nI hk (by decide)
    rw [nI_clamp (by omega)]
    refine r_iload_n (i := 2) i_M_ask_12 rfl rfl ?_
    refine r_i2l i_M_ask_13 ?_
    refine r_iload_n (i := 1) i_M_ask_14 rfl rfl ?_
    refine r_if_ne 22 i_M_ask_15 (by decide) (fun h15 => ?_) (fun h15 => ?_)
    · skip
      rw [if_neg h15]
      refine r_lconst (v := (0 : Int64)) i_M_ask_22 rfl ?_
      refine r_iload_n (i := 1) i_M_ask_23 rfl rfl ?_
      refine f_static o_M_ask k_M_mostOf s_M_mostOf x_M_127 i_M_ask_24 (c_M_mostOf hk) rfl rfl (by decide) (Nat.le_of_ble_eq_true rfl) ?_
      refine r_i2l i_M_ask_27 ?_
      refine f_static o_M_ask k_M_in s_M_in x_M_76 i_M_ask_28 (c_M_in) rfl rfl (by decide) (Nat.le_of_ble_eq_true rfl) ?_
      first | rw [show inL v.toInt64 0 (mostN k).toInt64 = wi0 v 0 (mostN k) from in_wi (lo := 0)] | rw [show inL v.toInt64 1 (mostN k).toInt64 = wi0 v 1 (mostN k) from in_wi (lo := 1)]
      refine r_if_ne 41 i_M_ask_31 (by decide) (fun h31 => ?_) (fun h31 => ?_)
      · skip
        have h31 := bI_ne0.mp h31
        try rw [h31]
        refine r_aload_n (i := 0) i_M_ask_41 rfl rfl ?_
        refine r_getf (ci := 6) (T := Fk6) (k := 16) o_M_ask i_M_ask_42 x_M_54 rfl (by decide) rfl (by repeat (first | assumption | exact upw_s | refine (upw_n (by omega)).trans ?_)) (by first | assumption | omega) (by rfl) ?_
        refine r_iload_n (i := 1) i_M_ask_45 rfl rfl ?_
        refine r_iald i_M_ask_46 (by repeat (first | assumption | exact upw_s | refine (upw_n (by omega)).trans ?_)) (by first | assumption | omega) (by assumption) ?_
        rw [nI_clamp (by omega)]
        refine r_istore_3 i_M_ask_47 (by rw [l_M_ask]; decide) rfl ?_
        refine r_aload_n (i := 0) i_M_ask_48 rfl rfl ?_
        refine r_getf (ci := 6) (T := Fk6) (k := 16) o_M_ask i_M_ask_49 x_M_54 rfl (by decide) rfl (by repeat (first | assumption | exact upw_s | refine (upw_n (by omega)).trans ?_)) (by first | assumption | omega) (by rfl) ?_
        refine r_iload_n (i := 1) i_M_ask_52 rfl rfl ?_
        refine r_iload_n (i := 2) i_M_ask_53 rfl rfl ?_
        refine r_iast i_M_ask_54 (by repeat (first | assumption | exact upw_s | refine (upw_n (by omega)).trans ?_)) (by first | assumption | omega) (by assumption) ?_
        refine r_iload_n (i := 3) i_M_ask_55 rfl rfl ?_
        refine r_ireturn i_M_ask_56 t_M_ask rfl ?_
        refine ⟨rfl, ⟨?_, fun j hj => (by (repeat (refine (upw_n (by omega)).trans ?_)); rfl)⟩, rfl⟩
        rw [nI_clamp (by omega)]
        exact h.arr (j := 36) rfl
      · skip
        have h31 := bI_eq0.mp h31
        try rw [h31]
        refine r_aload_n (i := 0) i_M_ask_34 rfl rfl ?_
        refine r_bipush (v := (-2 : Int32)) i_M_ask_35 (by decide) ?_
        refine m_virtual o_M_ask k_M_refuse v_M_refuse x_M_89 i_M_ask_37 o_M_refuse (c_M_refuse (i := 2) h (by decide)) rfl (rcv_ob (by repeat (first | assumption | exact upw_s | refine (upw_n (by omega)).trans ?_)) rfl (by first | assumption | omega)) rfl (by decide) (Nat.le_of_ble_eq_true rfl) (Nat.zero_le _) (Nat.zero_le _) (fun rr37 wr37 nr37 hp9 => ?_)
        obtain ⟨rfl, hp9, rfl⟩ := hp9
        refine r_ireturn i_M_ask_40 t_M_ask rfl ?_
        first | exact ⟨rfl, hp9, rfl⟩ | exact ⟨rfl, ⟨h, fun _ _ => rfl⟩, rfl⟩
    · skip
      rw [if_pos h15]
      refine r_lconst (v := (1 : Int64)) i_M_ask_18 rfl ?_
      refine r_goto 23 i_M_ask_19 (by decide) ?_
      refine r_iload_n (i := 1) i_M_ask_23 rfl rfl ?_
      refine f_static o_M_ask k_M_mostOf s_M_mostOf x_M_127 i_M_ask_24 (c_M_mostOf hk) rfl rfl (by decide) (Nat.le_of_ble_eq_true rfl) ?_
      refine r_i2l i_M_ask_27 ?_
      refine f_static o_M_ask k_M_in s_M_in x_M_76 i_M_ask_28 (c_M_in) rfl rfl (by decide) (Nat.le_of_ble_eq_true rfl) ?_
      first | rw [show inL v.toInt64 0 (mostN k).toInt64 = wi0 v 0 (mostN k) from in_wi (lo := 0)] | rw [show inL v.toInt64 1 (mostN k).toInt64 = wi0 v 1 (mostN k) from in_wi (lo := 1)]
      refine r_if_ne 41 i_M_ask_31 (by decide) (fun h31 => ?_) (fun h31 => ?_)
      · skip
        have h31 := bI_ne0.mp h31
        try rw [h31]
        refine r_aload_n (i := 0) i_M_ask_41 rfl rfl ?_
        refine r_getf (ci := 6) (T := Fk6) (k := 16) o_M_ask i_M_ask_42 x_M_54 rfl (by decide) rfl (by repeat (first | assumption | exact upw_s | refine (upw_n (by omega)).trans ?_)) (by first | assumption | omega) (by rfl) ?_
        refine r_iload_n (i := 1) i_M_ask_45 rfl rfl ?_
        refine r_iald i_M_ask_46 (by repeat (first | assumption | exact upw_s | refine (upw_n (by omega)).trans ?_)) (by first | assumption | omega) (by assumption) ?_
        rw [nI_clamp (by omega)]
        refine r_istore_3 i_M_ask_47 (by rw [l_M_ask]; decide) rfl ?_
        refine r_aload_n (i := 0) i_M_ask_48 rfl rfl ?_
        refine r_getf (ci := 6) (T := Fk6) (k := 16) o_M_ask i_M_ask_49 x_M_54 rfl (by decide) rfl (by repeat (first | assumption | exact upw_s | refine (upw_n (by omega)).trans ?_)) (by first | assumption | omega) (by rfl) ?_
        refine r_iload_n (i := 1) i_M_ask_52 rfl rfl ?_
        refine r_iload_n (i := 2) i_M_ask_53 rfl rfl ?_
        refine r_iast i_M_ask_54 (by repeat (first | assumption | exact upw_s | refine (upw_n (by omega)).trans ?_)) (by first | assumption | omega) (by assumption) ?_
        refine r_iload_n (i := 3) i_M_ask_55 rfl rfl ?_
        refine r_ireturn i_M_ask_56 t_M_ask rfl ?_
        refine ⟨rfl, ⟨?_, fun j hj => (by (repeat (refine (upw_n (by omega)).trans ?_)); rfl)⟩, rfl⟩
        rw [nI_clamp (by omega)]
        exact h.arr (j := 36) rfl
      · skip
        have h31 := bI_eq0.mp h31
        try rw [h31]
        refine r_aload_n (i := 0) i_M_ask_34 rfl rfl ?_
        refine r_bipush (v := (-2 : Int32)) i_M_ask_35 (by decide) ?_
        refine m_virtual o_M_ask k_M_refuse v_M_refuse x_M_89 i_M_ask_37 o_M_refuse (c_M_refuse (i := 2) h (by decide)) rfl (rcv_ob (by repeat (first | assumption | exact upw_s | refine (upw_n (by omega)).trans ?_)) rfl (by first | assumption | omega)) rfl (by decide) (Nat.le_of_ble_eq_true rfl) (Nat.zero_le _) (Nat.zero_le _) (fun rr37 wr37 nr37 hp9 => ?_)
        obtain ⟨rfl, hp9, rfl⟩ := hp9
        refine r_ireturn i_M_ask_40 t_M_ask rfl ?_
        first | exact ⟨rfl, hp9, rfl⟩ | exact ⟨rfl, ⟨h, fun _ _ => rfl⟩, rfl⟩
end MPUB2
