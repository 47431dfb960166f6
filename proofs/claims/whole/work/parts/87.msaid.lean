-- THE REFERENCE: said
section MSAID
variable {G : gE} {w : aW} {o n : Nat} {M : aM}
def m2_said (M : aM) (b t : Int32) : Int32 × aM := if (lt0 b (M.1 13) && lt0 t (M.1 10)) = true then (if gd (tM M) b.toNatClampNeg t.toNatClampNeg = true then (-1000000 + -5, mR M 5) else if partyN (tM M) b.toNatClampNeg t = true then (-1000000 + -5, mR M 5) else ((10 - M.2.1 36 2) * valN (tM M) b.toNatClampNeg t.toNatClampNeg - M.2.1 36 2 * M.2.1 36 3, M)) else (-1000000 + -2, mR M 2)
theorem c_M_said {b t : Int32} (h : MW w o M n) (hO : MOk M) : Mm G 3 y_M_said [.ref o, .int b, .int t] w o n (m2_said M b t) := by
  obtain ⟨m0, mA', mL', m4, m20, m28, mn'⟩ := id h
  obtain ⟨i0, i1, i2, i3⟩ := v4
  have a36 : w (o + 36) = ai 4 (M.2.1 36) := mA' 36 rfl
  obtain ⟨P, B, z, hP, hP7, hB, hB7, hz, hz2⟩ := hO
  refine Mm.of k_M_said l_M_said rfl rfl ?_
  unfold m2_said
  rw [hP, hB]
  refine r_aload_n (i := 0) i_M_said_0 rfl rfl ?_
  refine r_iload_n (i := 1) i_M_said_1 rfl rfl ?_
  refine f_virtual o_M_said k_M_isBargain v_M_isBargain x_M_116 i_M_said_2 o_M_isBargain (c_M_isBargain h) rfl (rcv_ob (by repeat (first | assumption | exact upw_s | refine (upw_n (by omega)).trans ?_)) rfl (by first | assumption | omega)) rfl (by decide) (Nat.le_of_ble_eq_true rfl) ?_
  rw [hB, in_lt (by omega)]
  refine r_if_eq 17 i_M_said_5 (by decide) (fun h5 => ?_) (fun h5 => ?_)
  · skip
    have h5 := bI_eq0.mp h5
    try rw [h5]
    refine r_ldc o_M_said i_M_said_17 x_M_239 ?_
    refine r_aload_n (i := 0) i_M_said_19 rfl rfl ?_
    refine r_bipush (v := (-2 : Int32)) i_M_said_20 (by decide) ?_
    refine m_virtual o_M_said k_M_refuse v_M_refuse x_M_89 i_M_said_22 o_M_refuse (c_M_refuse (i := 2) h (by decide)) rfl (rcv_ob (by repeat (first | assumption | exact upw_s | refine (upw_n (by omega)).trans ?_)) rfl (by first | assumption | omega)) rfl (by decide) (Nat.le_of_ble_eq_true rfl) (Nat.zero_le _) (Nat.zero_le _) (fun rr22 wr22 nr22 hp9 => ?_)
    obtain ⟨rfl, hp9, rfl⟩ := hp9
    refine r_iadd i_M_said_25 ?_
    refine r_ireturn i_M_said_26 t_M_said rfl ?_
    first | exact ⟨rfl, hp9, rfl⟩ | exact ⟨rfl, ⟨h, fun _ _ => rfl⟩, rfl⟩
  · skip
    have h5 := bI_ne0.mp h5
    try rw [h5]
    refine r_aload_n (i := 0) i_M_said_8 rfl rfl ?_
    refine r_iload_n (i := 2) i_M_said_9 rfl rfl ?_
    refine r_i2l i_M_said_10 ?_
    refine f_virtual o_M_said k_M_isOne v_M_isOne x_M_112 i_M_said_11 o_M_isOne (c_M_isOne h) rfl (rcv_ob (by repeat (first | assumption | exact upw_s | refine (upw_n (by omega)).trans ?_)) rfl (by first | assumption | omega)) rfl (by decide) (Nat.le_of_ble_eq_true rfl) ?_
    rw [hP, in_lt (by omega)]
    refine r_if_ne 27 i_M_said_14 (by decide) (fun h14 => ?_) (fun h14 => ?_)
    · skip
      have h14 := bI_ne0.mp h14
      try rw [h14]
      obtain ⟨b, hb, rfl⟩ := lt0_of (by omega) h5
      obtain ⟨t, ht, rfl⟩ := lt0_of (by omega) h14
      rw [nI_clamp (by omega), nI_clamp (by omega)]
      refine r_aload_n (i := 0) i_M_said_27 rfl rfl ?_
      refine r_iload_n (i := 1) i_M_said_28 rfl rfl ?_
      refine r_iload_n (i := 2) i_M_said_29 rfl rfl ?_
      refine f_virtual o_M_said k_M_isGood v_M_isGood x_M_243 i_M_said_30 o_M_isGood (c_M_isGood h (by omega) (by omega)) rfl (rcv_ob (by repeat (first | assumption | exact upw_s | refine (upw_n (by omega)).trans ?_)) rfl (by first | assumption | omega)) rfl (by decide) (Nat.le_of_ble_eq_true rfl) ?_
      refine r_if_ne 45 i_M_said_33 (by decide) (fun h33 => ?_) (fun h33 => ?_)
      · skip
        have h33 := bI_ne0.mp h33
        try rw [h33]
        refine r_ldc o_M_said i_M_said_45 x_M_239 ?_
        refine r_aload_n (i := 0) i_M_said_47 rfl rfl ?_
        refine r_bipush (v := (-5 : Int32)) i_M_said_48 (by decide) ?_
        refine m_virtual o_M_said k_M_refuse v_M_refuse x_M_89 i_M_said_50 o_M_refuse (c_M_refuse (i := 5) h (by decide)) rfl (rcv_ob (by repeat (first | assumption | exact upw_s | refine (upw_n (by omega)).trans ?_)) rfl (by first | assumption | omega)) rfl (by decide) (Nat.le_of_ble_eq_true rfl) (Nat.zero_le _) (Nat.zero_le _) (fun rr50 wr50 nr50 hp9 => ?_)
        obtain ⟨rfl, hp9, rfl⟩ := hp9
        refine r_iadd i_M_said_53 ?_
        refine r_goto 69 i_M_said_54 (by decide) ?_
        refine r_ireturn i_M_said_69 t_M_said rfl ?_
        first | exact ⟨rfl, hp9, rfl⟩ | exact ⟨rfl, ⟨h, fun _ _ => rfl⟩, rfl⟩
      · skip
        have h33 := bI_eq0.mp h33
        try rw [h33]
        refine r_aload_n (i := 0) i_M_said_36 rfl rfl ?_
        refine r_iload_n (i := 1) i_M_said_37 rfl rfl ?_
        refine r_iload_n (i := 2) i_M_said_38 rfl rfl ?_
        refine f_virtual o_M_said k_M_isParty v_M_isParty x_M_240 i_M_said_39 o_M_isParty (c_M_isParty h (by omega)) rfl (rcv_ob (by repeat (first | assumption | exact upw_s | refine (upw_n (by omega)).trans ?_)) rfl (by first | assumption | omega)) rfl (by decide) (Nat.le_of_ble_eq_true rfl) ?_
        refine r_if_eq 57 i_M_said_42 (by decide) (fun h42 => ?_) (fun h42 => ?_)
        · skip
          have h42 := bI_eq0.mp h42
          try rw [h42]
          refine r_aload_n (i := 0) i_M_said_57 rfl rfl ?_
          refine r_iload_n (i := 1) i_M_said_58 rfl rfl ?_
          refine r_iload_n (i := 2) i_M_said_59 rfl rfl ?_
          refine r_aload_n (i := 0) i_M_said_60 rfl rfl ?_
          refine r_getf (ci := 6) (T := Fk6) (k := 16) o_M_said i_M_said_61 x_M_54 rfl (by decide) rfl (by repeat (first | assumption | exact upw_s | refine (upw_n (by omega)).trans ?_)) (by first | assumption | omega) (by rfl) ?_
          refine r_iconst (v := (3 : Int32)) i_M_said_64 rfl ?_
          refine r_iald i_M_said_65 (by repeat (first | assumption | exact upw_s | refine (upw_n (by omega)).trans ?_)) (by first | assumption | omega) (by assumption) ?_
          refine f_virtual o_M_said k_M_saidBy v_M_saidBy x_M_325 i_M_said_66 o_M_saidBy (c_M_saidBy h (by omega) (by omega)) rfl (rcv_ob (by repeat (first | assumption | exact upw_s | refine (upw_n (by omega)).trans ?_)) rfl (by first | assumption | omega)) rfl (by decide) (Nat.le_of_ble_eq_true rfl) ?_
          refine r_ireturn i_M_said_69 t_M_said rfl ?_
          first | exact ⟨rfl, hp9, rfl⟩ | exact ⟨rfl, ⟨h, fun _ _ => rfl⟩, rfl⟩
        · skip
          have h42 := bI_ne0.mp h42
          try rw [h42]
          refine r_ldc o_M_said i_M_said_45 x_M_239 ?_
          refine r_aload_n (i := 0) i_M_said_47 rfl rfl ?_
          refine r_bipush (v := (-5 : Int32)) i_M_said_48 (by decide) ?_
          refine m_virtual o_M_said k_M_refuse v_M_refuse x_M_89 i_M_said_50 o_M_refuse (c_M_refuse (i := 5) h (by decide)) rfl (rcv_ob (by repeat (first | assumption | exact upw_s | refine (upw_n (by omega)).trans ?_)) rfl (by first | assumption | omega)) rfl (by decide) (Nat.le_of_ble_eq_true rfl) (Nat.zero_le _) (Nat.zero_le _) (fun rr50 wr50 nr50 hp9 => ?_)
          obtain ⟨rfl, hp9, rfl⟩ := hp9
          refine r_iadd i_M_said_53 ?_
          refine r_goto 69 i_M_said_54 (by decide) ?_
          refine r_ireturn i_M_said_69 t_M_said rfl ?_
          first | exact ⟨rfl, hp9, rfl⟩ | exact ⟨rfl, ⟨h, fun _ _ => rfl⟩, rfl⟩
    · skip
      have h14 := bI_eq0.mp h14
      try rw [h14]
      refine r_ldc o_M_said i_M_said_17 x_M_239 ?_
      refine r_aload_n (i := 0) i_M_said_19 rfl rfl ?_
      refine r_bipush (v := (-2 : Int32)) i_M_said_20 (by decide) ?_
      refine m_virtual o_M_said k_M_refuse v_M_refuse x_M_89 i_M_said_22 o_M_refuse (c_M_refuse (i := 2) h (by decide)) rfl (rcv_ob (by repeat (first | assumption | exact upw_s | refine (upw_n (by omega)).trans ?_)) rfl (by first | assumption | omega)) rfl (by decide) (Nat.le_of_ble_eq_true rfl) (Nat.zero_le _) (Nat.zero_le _) (fun rr22 wr22 nr22 hp9 => ?_)
      obtain ⟨rfl, hp9, rfl⟩ := hp9
      refine r_iadd i_M_said_25 ?_
      refine r_ireturn i_M_said_26 t_M_said rfl ?_
      first | exact ⟨rfl, hp9, rfl⟩ | exact ⟨rfl, ⟨h, fun _ _ => rfl⟩, rfl⟩
end MSAID
