-- THE REFERENCE: some of its public ones
def MOk (M : aM) : Prop := ∃ P B z : Nat, M.1 10 = nI P ∧ P ≤ 7 ∧ M.1 13 = nI B ∧ B ≤ 7 ∧ M.1 8 = nI z ∧ z ≤ 250
theorem in_99 {v : Int32} : inL v.toInt64 (-99) 99 = wi0 v (-99) 99 := in_wi (lo := -99) (hi := 99)
theorem in_0255 {v : Int32} : inL v.toInt64 0 255 = wi0 v 0 255 := in_wi (lo := 0) (hi := 255)
theorem in_03 {v : Int32} : inL v.toInt64 0 3 = lt0 v 4 := in_lt (N := 4) (by decide)
section MPUB
variable {G : gE} {w : aW} {o n : Nat} {M : aM}
def m2_hurts (M : aM) (b t v : Int32) : Int32 × aM := if (lt0 b (M.1 13) && (lt0 t (M.1 10) && wi0 v (-99) 99)) = true then (1, mA M (29 + b.toNatClampNeg) (upd (M.2.1 (29 + b.toNatClampNeg)) t.toNatClampNeg v)) else (-2, mR M 2)
theorem c_M_hurts {b t v : Int32} (h : MW w o M n) (hO : MOk M) : Mm G 2 y_M_hurts [.ref o, .int b, .int t, .int v] w o n (m2_hurts M b t v) := by
  obtain ⟨m0, mA', mL', m4, m20, m28, mn'⟩ := id h
  obtain ⟨P, B, z, hP, hP7, hB, hB7, hz, hz2⟩ := hO
  refine Mm.of k_M_hurts l_M_hurts rfl rfl ?_
  unfold m2_hurts
  rw [hP, hB]
  refine r_aload_n (i := 0) i_M_hurts_0 rfl rfl ?_
  refine r_iload_n (i := 1) i_M_hurts_1 rfl rfl ?_
  refine f_virtual o_M_hurts k_M_isBargain v_M_isBargain x_M_116 i_M_hurts_2 o_M_isBargain (c_M_isBargain h) rfl (rcv_ob (by repeat (first | assumption | exact upw_s | refine (upw_n (by omega)).trans ?_)) rfl (by first | assumption | omega)) rfl (by decide) (Nat.le_of_ble_eq_true rfl) ?_
  rw [hB, in_lt (by omega)]
  refine r_if_eq 31 i_M_hurts_5 (by decide) (fun h5 => ?_) (fun h5 => ?_)
  · skip
    rw [bI_eq0.mp h5]
    refine r_aload_n (i := 0) i_M_hurts_31 rfl rfl ?_
    refine r_bipush (v := (-2 : Int32)) i_M_hurts_32 (by decide) ?_
    refine m_virtual o_M_hurts k_M_refuse v_M_refuse x_M_89 i_M_hurts_34 o_M_refuse (c_M_refuse (i := 2) h (by decide)) rfl (rcv_ob (by repeat (first | assumption | exact upw_s | refine (upw_n (by omega)).trans ?_)) rfl (by first | assumption | omega)) rfl (by decide) (Nat.le_of_ble_eq_true rfl) (Nat.zero_le _) (Nat.zero_le _) (fun q1 w2 n1 hp9 => ?_)
    obtain ⟨rfl, hp9, rfl⟩ := hp9
    refine r_ireturn i_M_hurts_37 t_M_hurts rfl ?_
    exact ⟨rfl, hp9, rfl⟩
  · skip
    have h5 := bI_ne0.mp h5
    rw [h5]
    refine r_aload_n (i := 0) i_M_hurts_8 rfl rfl ?_
    refine r_iload_n (i := 2) i_M_hurts_9 rfl rfl ?_
    refine r_i2l i_M_hurts_10 ?_
    refine f_virtual o_M_hurts k_M_isOne v_M_isOne x_M_112 i_M_hurts_11 o_M_isOne (c_M_isOne h) rfl (rcv_ob (by repeat (first | assumption | exact upw_s | refine (upw_n (by omega)).trans ?_)) rfl (by first | assumption | omega)) rfl (by decide) (Nat.le_of_ble_eq_true rfl) ?_
    rw [hP, in_lt (by omega)]
    refine r_if_eq 31 i_M_hurts_14 (by decide) (fun h14 => ?_) (fun h14 => ?_)
    · skip
      rw [bI_eq0.mp h14]
      refine r_aload_n (i := 0) i_M_hurts_31 rfl rfl ?_
      refine r_bipush (v := (-2 : Int32)) i_M_hurts_32 (by decide) ?_
      refine m_virtual o_M_hurts k_M_refuse v_M_refuse x_M_89 i_M_hurts_34 o_M_refuse (c_M_refuse (i := 2) h (by decide)) rfl (rcv_ob (by repeat (first | assumption | exact upw_s | refine (upw_n (by omega)).trans ?_)) rfl (by first | assumption | omega)) rfl (by decide) (Nat.le_of_ble_eq_true rfl) (Nat.zero_le _) (Nat.zero_le _) (fun q1 w2 n1 hp9 => ?_)
      obtain ⟨rfl, hp9, rfl⟩ := hp9
      refine r_ireturn i_M_hurts_37 t_M_hurts rfl ?_
      exact ⟨rfl, hp9, rfl⟩
    · skip
      have h14 := bI_ne0.mp h14
      rw [h14]
      refine r_iload_n (i := 3) i_M_hurts_17 rfl rfl ?_
      refine r_i2l i_M_hurts_18 ?_
      refine r_ldc2 o_M_hurts i_M_hurts_19 x_M_120 ?_
      refine r_ldc2 o_M_hurts i_M_hurts_22 x_M_102 ?_
      refine f_static o_M_hurts k_M_in s_M_in x_M_76 i_M_hurts_25 (c_M_in) rfl rfl (by decide) (Nat.le_of_ble_eq_true rfl) ?_
      rw [in_99]
      refine r_if_ne 38 i_M_hurts_28 (by decide) (fun h28 => ?_) (fun h28 => ?_)
      · skip
        rw [bI_ne0.mp h28]
        obtain ⟨b, hb, rfl⟩ := lt0_of (by omega) h5
        obtain ⟨t, ht, rfl⟩ := lt0_of (by omega) h14
        obtain ⟨r1, r2, r3, r4, r5⟩ := row_of h (show b < 7 by omega)
        have it : vp_in (nI t) 7 := vp_in_nI (by omega) (by decide)
        rw [nI_clamp (by omega), nI_clamp (by omega)]
        refine r_aload_n (i := 0) i_M_hurts_38 rfl rfl ?_
        refine r_getf (ci := 6) (T := Fk6) (k := 15) o_M_hurts i_M_hurts_39 x_M_51 rfl (by decide) rfl (by repeat (first | assumption | exact upw_s | refine (upw_n (by omega)).trans ?_)) (by first | assumption | omega) (by rfl) ?_
        refine r_iload_n (i := 1) i_M_hurts_42 rfl rfl ?_
        refine r_aald i_M_hurts_43 (by repeat (first | assumption | exact upw_s | refine (upw_n (by omega)).trans ?_)) (by decide) (by first | assumption | omega) (by assumption) r4 ?_
        refine r_iload_n (i := 2) i_M_hurts_44 rfl rfl ?_
        refine r_iload_n (i := 3) i_M_hurts_45 rfl rfl ?_
        refine r_iast i_M_hurts_46 (by repeat (first | assumption | exact upw_s | refine (upw_n (by omega)).trans ?_)) (by first | assumption | omega) (by assumption) ?_
        refine r_iconst (v := (1 : Int32)) i_M_hurts_47 rfl ?_
        refine r_ireturn i_M_hurts_48 t_M_hurts rfl ?_
        rw [nI_clamp (by omega)]
        have e2 : lenM (29 + b) = 7 := by
          unfold lenM
          rw [if_neg (by omega), if_neg (by omega), if_neg (by omega), if_neg (by omega), if_neg (by omega), if_neg (by omega), if_pos (by omega)]
        have i2 : isI (29 + b) = true := by
          unfold isI
          simp only [Bool.and_eq_true, decide_eq_true_eq, Bool.not_eq_true', decide_eq_false_iff_not]
          omega
        have h9 := h.arr (j := 29 + b) (f := upd (M.2.1 (29 + b)) t v) i2
        rw [e2, ← Nat.add_assoc] at h9
        exact ⟨rfl, ⟨h9, fun j hj => upw_n (by omega)⟩, rfl⟩
      · skip
        rw [bI_eq0.mp h28]
        refine r_aload_n (i := 0) i_M_hurts_31 rfl rfl ?_
        refine r_bipush (v := (-2 : Int32)) i_M_hurts_32 (by decide) ?_
        refine m_virtual o_M_hurts k_M_refuse v_M_refuse x_M_89 i_M_hurts_34 o_M_refuse (c_M_refuse (i := 2) h (by decide)) rfl (rcv_ob (by repeat (first | assumption | exact upw_s | refine (upw_n (by omega)).trans ?_)) rfl (by first | assumption | omega)) rfl (by decide) (Nat.le_of_ble_eq_true rfl) (Nat.zero_le _) (Nat.zero_le _) (fun q1 w2 n1 hp9 => ?_)
        obtain ⟨rfl, hp9, rfl⟩ := hp9
        refine r_ireturn i_M_hurts_37 t_M_hurts rfl ?_
        exact ⟨rfl, hp9, rfl⟩
def m2_wipe (M : aM) : Int32 × aM := (M.1 8, mS M 8 0)
theorem c_M_wipe (h : MW w o M n) : Mm G 1 y_M_wipe [.ref o] w o n (m2_wipe M) := by
  obtain ⟨m0, mA', mL', m4, m20, m28, mn'⟩ := id h
  refine Mm.of k_M_wipe l_M_wipe rfl rfl ?_
  refine r_aload_n (i := 0) i_M_wipe_0 rfl rfl ?_
  refine r_getf (ci := 6) (T := Fk6) (k := 8) o_M_wipe i_M_wipe_1 x_M_132 rfl (by decide) rfl (by repeat (first | assumption | exact upw_s | refine (upw_n (by omega)).trans ?_)) (by first | assumption | omega) (by rfl) ?_
  refine r_istore_1 i_M_wipe_4 (by rw [l_M_wipe]; decide) rfl ?_
  refine r_aload_n (i := 0) i_M_wipe_5 rfl rfl ?_
  refine r_iconst (v := (0 : Int32)) i_M_wipe_6 rfl ?_
  refine r_putf (ci := 6) (T := Fk6) (k := 8) o_M_wipe i_M_wipe_7 x_M_132 rfl (by decide) rfl rfl (ok6 8 (by decide)) rfl (by repeat (first | assumption | exact upw_s | refine (upw_n (by omega)).trans ?_)) (by first | assumption | omega) (by exact Nat.le_of_ble_eq_true rfl) ?_
  refine r_iload_n (i := 1) i_M_wipe_10 rfl rfl ?_
  refine r_ireturn i_M_wipe_11 t_M_wipe rfl ?_
  exact ⟨rfl, ⟨h.obj (M' := mS M 8 0) rfl rfl, fun j hj => upw_n (by omega)⟩, rfl⟩
def m2_seed (M : aM) (v : Int32) : Int32 × aM := (M.1 19, mS M 19 v)
theorem c_M_seed {v : Int32} (h : MW w o M n) : Mm G 1 y_M_seed [.ref o, .int v] w o n (m2_seed M v) := by
  obtain ⟨m0, mA', mL', m4, m20, m28, mn'⟩ := id h
  refine Mm.of k_M_seed l_M_seed rfl rfl ?_
  refine r_aload_n (i := 0) i_M_seed_0 rfl rfl ?_
  refine r_getf (ci := 6) (T := Fk6) (k := 19) o_M_seed i_M_seed_1 x_M_57 rfl (by decide) rfl (by repeat (first | assumption | exact upw_s | refine (upw_n (by omega)).trans ?_)) (by first | assumption | omega) (by rfl) ?_
  refine r_istore_2 i_M_seed_4 (by rw [l_M_seed]; decide) rfl ?_
  refine r_aload_n (i := 0) i_M_seed_5 rfl rfl ?_
  refine r_iload_n (i := 1) i_M_seed_6 rfl rfl ?_
  refine r_putf (ci := 6) (T := Fk6) (k := 19) o_M_seed i_M_seed_7 x_M_57 rfl (by decide) rfl rfl (ok6 19 (by decide)) rfl (by repeat (first | assumption | exact upw_s | refine (upw_n (by omega)).trans ?_)) (by first | assumption | omega) (by exact Nat.le_of_ble_eq_true rfl) ?_
  refine r_iload_n (i := 2) i_M_seed_10 rfl rfl ?_
  refine r_ireturn i_M_seed_11 t_M_seed rfl ?_
  exact ⟨rfl, ⟨h.obj (M' := mS M 19 v) rfl rfl, fun j hj => upw_n (by omega)⟩, rfl⟩
theorem c_M_mostOf {k : Nat} (hk : k < 4) : Fn G 0 y_M_mostOf [.int (nI k)] w n (some (.int (mostN k))) w := by
  refine Fn.of k_M_mostOf l_M_mostOf rfl rfl ?_
  rcases (show k = 0 ∨ k = 1 ∨ k = 2 ∨ k = 3 by omega) with rfl | rfl | rfl | rfl
  · skip
    refine r_iload_n (i := 0) i_M_mostOf_0 rfl rfl ?_
    refine r_if_ne 9 i_M_mostOf_1 (by decide) (fun h1 => (absurd (show nI 0 = 0 from rfl) h1)) (fun h1 => ?_)
    refine r_bipush (v := (99 : Int32)) i_M_mostOf_4 (by decide) ?_
    refine r_goto 31 i_M_mostOf_6 (by decide) ?_
    refine r_ireturn i_M_mostOf_31 t_M_mostOf rfl ?_
    exact ⟨rfl, rfl, rfl⟩
  · skip
    refine r_iload_n (i := 0) i_M_mostOf_0 rfl rfl ?_
    refine r_if_ne 9 i_M_mostOf_1 (by decide) (fun h1 => ?_) (fun h1 => (absurd h1 (by decide)))
    refine r_iload_n (i := 0) i_M_mostOf_9 rfl rfl ?_
    refine r_iconst (v := (1 : Int32)) i_M_mostOf_10 rfl ?_
    refine r_icmp_ne 18 i_M_mostOf_11 (by decide) (fun h11 => (absurd (show nI 1 = 1 from rfl) h11)) (fun h11 => ?_)
    refine r_iconst (v := (1 : Int32)) i_M_mostOf_14 rfl ?_
    refine r_goto 31 i_M_mostOf_15 (by decide) ?_
    refine r_ireturn i_M_mostOf_31 t_M_mostOf rfl ?_
    exact ⟨rfl, rfl, rfl⟩
  · skip
    refine r_iload_n (i := 0) i_M_mostOf_0 rfl rfl ?_
    refine r_if_ne 9 i_M_mostOf_1 (by decide) (fun h1 => ?_) (fun h1 => (absurd h1 (by decide)))
    refine r_iload_n (i := 0) i_M_mostOf_9 rfl rfl ?_
    refine r_iconst (v := (1 : Int32)) i_M_mostOf_10 rfl ?_
    refine r_icmp_ne 18 i_M_mostOf_11 (by decide) (fun h11 => ?_) (fun h11 => (absurd h11 (by decide)))
    refine r_iload_n (i := 0) i_M_mostOf_18 rfl rfl ?_
    refine r_iconst (v := (2 : Int32)) i_M_mostOf_19 rfl ?_
    refine r_icmp_ne 28 i_M_mostOf_20 (by decide) (fun h20 => (absurd (show nI 2 = 2 from rfl) h20)) (fun h20 => ?_)
    refine r_bipush (v := (10 : Int32)) i_M_mostOf_23 (by decide) ?_
    refine r_goto 31 i_M_mostOf_25 (by decide) ?_
    refine r_ireturn i_M_mostOf_31 t_M_mostOf rfl ?_
    exact ⟨rfl, rfl, rfl⟩
  · skip
    refine r_iload_n (i := 0) i_M_mostOf_0 rfl rfl ?_
    refine r_if_ne 9 i_M_mostOf_1 (by decide) (fun h1 => ?_) (fun h1 => (absurd h1 (by decide)))
    refine r_iload_n (i := 0) i_M_mostOf_9 rfl rfl ?_
    refine r_iconst (v := (1 : Int32)) i_M_mostOf_10 rfl ?_
    refine r_icmp_ne 18 i_M_mostOf_11 (by decide) (fun h11 => ?_) (fun h11 => (absurd h11 (by decide)))
    refine r_iload_n (i := 0) i_M_mostOf_18 rfl rfl ?_
    refine r_iconst (v := (2 : Int32)) i_M_mostOf_19 rfl ?_
    refine r_icmp_ne 28 i_M_mostOf_20 (by decide) (fun h20 => ?_) (fun h20 => (absurd h20 (by decide)))
    refine r_sipush (v := (999 : Int32)) i_M_mostOf_28 (by decide) ?_
    refine r_ireturn i_M_mostOf_31 t_M_mostOf rfl ?_
    exact ⟨rfl, rfl, rfl⟩
end MPUB
