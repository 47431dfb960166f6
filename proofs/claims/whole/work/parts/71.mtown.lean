-- THE REFERENCE: small ones on the town
def tM (M : aM) : aS := (fun k => if k = 0 then M.1 10 else if k = 1 then M.1 13 else if k = 6 then M.1 19 else if k = 7 then M.1 17 else if k = 8 then M.1 18 else M.2.1 36 (k - 2), fun j i => if j < 2 then M.2.1 (18 + j) i else if j < 7 then M.2.1 (21 + i) (j - 2) else M.2.1 (29 + i / 7) (i % 7))
theorem t_loss {M : aM} {b t : Nat} (ht : t < 7) : lossN (tM M) b t = M.2.1 (29 + b) t := by
  show M.2.1 (29 + (7 * b + t) / 7) ((7 * b + t) % 7) = _
  rw [show (7 * b + t) / 7 = b by omega, show (7 * b + t) % 7 = t by omega]
section MTOWN
variable {G : gE} {w : aW} {o n : Nat} {M : aM}
theorem row_of (h : MW w o M n) {b : Nat} (hb : b < 7) : w (o + 21 + b) = ai 5 (M.2.1 (21 + b)) ∧ w (o + 29 + b) = ai 7 (M.2.1 (29 + b)) ∧ rfF9 (o + 21) 7 (nI b).toNatClampNeg = some (o + 21 + b) ∧ rfF9 (o + 29) 7 (nI b).toNatClampNeg = some (o + 29 + b) ∧ vp_in (nI b) 7 := by
  have e1 : lenM (21 + b) = 5 := by
    unfold lenM
    rw [if_neg (by omega), if_neg (by omega), if_neg (by omega), if_neg (by omega), if_neg (by omega), if_pos (by omega)]
  have e2 : lenM (29 + b) = 7 := by
    unfold lenM
    rw [if_neg (by omega), if_neg (by omega), if_neg (by omega), if_neg (by omega), if_neg (by omega), if_neg (by omega), if_pos (by omega)]
  have i1 : isI (21 + b) = true := by
    unfold isI
    simp only [Bool.and_eq_true, decide_eq_true_eq, Bool.not_eq_true', decide_eq_false_iff_not]
    omega
  have i2 : isI (29 + b) = true := by
    unfold isI
    simp only [Bool.and_eq_true, decide_eq_true_eq, Bool.not_eq_true', decide_eq_false_iff_not]
    omega
  have a1 := h.2.1 (21 + b) i1
  have a2 := h.2.1 (29 + b) i2
  rw [e1, ← Nat.add_assoc] at a1
  rw [e2, ← Nat.add_assoc] at a2
  refine ⟨a1, a2, ?_, ?_, vp_in_nI hb (by decide)⟩
  · unfold rfF9
    rw [nI_clamp (by omega), if_pos hb]
  · unfold rfF9
    rw [nI_clamp (by omega), if_pos hb]
theorem v5 : vp_in 0 5 ∧ vp_in 1 5 ∧ vp_in 2 5 ∧ vp_in 3 5 ∧ vp_in 4 5 := ⟨vp_in_nI (n := 0) (by decide) (by decide), vp_in_nI (n := 1) (by decide) (by decide), vp_in_nI (n := 2) (by decide) (by decide), vp_in_nI (n := 3) (by decide) (by decide), vp_in_nI (n := 4) (by decide) (by decide)⟩
theorem v4 : vp_in 0 4 ∧ vp_in 1 4 ∧ vp_in 2 4 ∧ vp_in 3 4 := ⟨vp_in_nI (n := 0) (by decide) (by decide), vp_in_nI (n := 1) (by decide) (by decide), vp_in_nI (n := 2) (by decide) (by decide), vp_in_nI (n := 3) (by decide) (by decide)⟩
theorem c_M_isParty {b : Nat} {x : Int32} (h : MW w o M n) (hb : b < 7) : Fn G 0 y_M_isParty [.ref o, .int (nI b), .int x] w n (some (.int (bI (partyN (tM M) b x)))) w := by
  obtain ⟨m0, mA', mL', m4, m20, m28, mn'⟩ := id h
  obtain ⟨r1, r2, r3, r4, r5⟩ := row_of h hb
  obtain ⟨i0, i1, i2, i3, i4⟩ := v5
  refine Fn.of k_M_isParty l_M_isParty rfl rfl ?_
  have e9 : partyN (tM M) b x = (decide (M.2.1 (21 + b) 0 = x) || decide (M.2.1 (21 + b) 1 = x)) := rfl
  rw [e9]
  refine r_aload_n (i := 0) i_M_isParty_0 rfl rfl ?_
  refine r_getf (ci := 6) (T := Fk6) (k := 14) o_M_isParty i_M_isParty_1 x_M_48 rfl (by decide) rfl (by repeat (first | assumption | exact upw_s | refine (upw_n (by omega)).trans ?_)) (by first | assumption | omega) (by rfl) ?_
  refine r_iload_n (i := 1) i_M_isParty_4 rfl rfl ?_
  refine r_aald i_M_isParty_5 (by repeat (first | assumption | exact upw_s | refine (upw_n (by omega)).trans ?_)) (by decide) (by first | assumption | omega) (by assumption) r3 ?_
  refine r_iconst (v := (0 : Int32)) i_M_isParty_6 rfl ?_
  refine r_iald i_M_isParty_7 (by repeat (first | assumption | exact upw_s | refine (upw_n (by omega)).trans ?_)) (by first | assumption | omega) (by assumption) ?_
  refine r_iload_n (i := 2) i_M_isParty_8 rfl rfl ?_
  refine r_icmp_eq 24 i_M_isParty_9 (by decide) (fun h9 => ?_) (fun h9 => ?_)
  · skip
    have h9 : M.2.1 (21 + b) 0 = x := h9
    rw [decide_eq_true h9]
    refine r_iconst (v := (1 : Int32)) i_M_isParty_24 rfl ?_
    refine r_goto 29 i_M_isParty_25 (by decide) ?_
    refine r_ireturn i_M_isParty_29 t_M_isParty (by first | rfl | exact nar_bI _) ?_
    exact ⟨rfl, rfl, rfl⟩
  · skip
    have h9 : ¬ M.2.1 (21 + b) 0 = x := h9
    rw [decide_eq_false h9]
    refine r_aload_n (i := 0) i_M_isParty_12 rfl rfl ?_
    refine r_getf (ci := 6) (T := Fk6) (k := 14) o_M_isParty i_M_isParty_13 x_M_48 rfl (by decide) rfl (by repeat (first | assumption | exact upw_s | refine (upw_n (by omega)).trans ?_)) (by first | assumption | omega) (by rfl) ?_
    refine r_iload_n (i := 1) i_M_isParty_16 rfl rfl ?_
    refine r_aald i_M_isParty_17 (by repeat (first | assumption | exact upw_s | refine (upw_n (by omega)).trans ?_)) (by decide) (by first | assumption | omega) (by assumption) r3 ?_
    refine r_iconst (v := (1 : Int32)) i_M_isParty_18 rfl ?_
    refine r_iald i_M_isParty_19 (by repeat (first | assumption | exact upw_s | refine (upw_n (by omega)).trans ?_)) (by first | assumption | omega) (by assumption) ?_
    refine r_iload_n (i := 2) i_M_isParty_20 rfl rfl ?_
    refine r_icmp_ne 28 i_M_isParty_21 (by decide) (fun h21 => ?_) (fun h21 => ?_)
    · skip
      have h21 : ¬ M.2.1 (21 + b) 1 = x := h21
      rw [decide_eq_false h21]
      refine r_iconst (v := (0 : Int32)) i_M_isParty_28 rfl ?_
      refine r_ireturn i_M_isParty_29 t_M_isParty (by first | rfl | exact nar_bI _) ?_
      exact ⟨rfl, rfl, rfl⟩
    · skip
      have h21 : M.2.1 (21 + b) 1 = x := h21
      rw [decide_eq_true h21]
      refine r_iconst (v := (1 : Int32)) i_M_isParty_24 rfl ?_
      refine r_goto 29 i_M_isParty_25 (by decide) ?_
      refine r_ireturn i_M_isParty_29 t_M_isParty (by first | rfl | exact nar_bI _) ?_
      exact ⟨rfl, rfl, rfl⟩
theorem c_M_gains {b : Nat} (h : MW w o M n) (hb : b < 7) : Fn G 0 y_M_gains [.ref o, .int (nI b)] w n (some (.int (gainN (tM M) b))) w := by
  obtain ⟨m0, mA', mL', m4, m20, m28, mn'⟩ := id h
  obtain ⟨r1, r2, r3, r4, r5⟩ := row_of h hb
  obtain ⟨i0, i1, i2, i3, i4⟩ := v5
  refine Fn.of k_M_gains l_M_gains rfl rfl ?_
  refine r_aload_n (i := 0) i_M_gains_0 rfl rfl ?_
  refine r_getf (ci := 6) (T := Fk6) (k := 14) o_M_gains i_M_gains_1 x_M_48 rfl (by decide) rfl (by repeat (first | assumption | exact upw_s | refine (upw_n (by omega)).trans ?_)) (by first | assumption | omega) (by rfl) ?_
  refine r_iload_n (i := 1) i_M_gains_4 rfl rfl ?_
  refine r_aald i_M_gains_5 (by repeat (first | assumption | exact upw_s | refine (upw_n (by omega)).trans ?_)) (by decide) (by first | assumption | omega) (by assumption) r3 ?_
  refine r_iconst (v := (2 : Int32)) i_M_gains_6 rfl ?_
  refine r_iald i_M_gains_7 (by repeat (first | assumption | exact upw_s | refine (upw_n (by omega)).trans ?_)) (by first | assumption | omega) (by assumption) ?_
  refine r_aload_n (i := 0) i_M_gains_8 rfl rfl ?_
  refine r_getf (ci := 6) (T := Fk6) (k := 14) o_M_gains i_M_gains_9 x_M_48 rfl (by decide) rfl (by repeat (first | assumption | exact upw_s | refine (upw_n (by omega)).trans ?_)) (by first | assumption | omega) (by rfl) ?_
  refine r_iload_n (i := 1) i_M_gains_12 rfl rfl ?_
  refine r_aald i_M_gains_13 (by repeat (first | assumption | exact upw_s | refine (upw_n (by omega)).trans ?_)) (by decide) (by first | assumption | omega) (by assumption) r3 ?_
  refine r_iconst (v := (3 : Int32)) i_M_gains_14 rfl ?_
  refine r_iald i_M_gains_15 (by repeat (first | assumption | exact upw_s | refine (upw_n (by omega)).trans ?_)) (by first | assumption | omega) (by assumption) ?_
  refine r_iadd i_M_gains_16 ?_
  refine r_ireturn i_M_gains_17 t_M_gains rfl ?_
  exact ⟨rfl, rfl, rfl⟩
theorem c_M_isGood {b t : Nat} (h : MW w o M n) (hb : b < 7) (ht : t < 7) : Fn G 1 y_M_isGood [.ref o, .int (nI b), .int (nI t)] w n (some (.int (bI (gd (tM M) b t)))) w := by
  obtain ⟨m0, mA', mL', m4, m20, m28, mn'⟩ := id h
  obtain ⟨r1, r2, r3, r4, r5⟩ := row_of h hb
  obtain ⟨i0, i1, i2, i3⟩ := v4
  have a36 : w (o + 36) = ai 4 (M.2.1 36) := mA' 36 rfl
  have it : vp_in (nI t) 7 := vp_in_nI ht (by decide)
  refine Fn.of k_M_isGood l_M_isGood rfl rfl ?_
  have e9 : gd (tM M) b t = (decide (¬ M.2.1 (29 + b) t < M.2.1 36 0) && !partyN (tM M) b (nI t)) := by
    unfold gd
    rw [t_loss ht]
    rfl
  rw [e9]
  refine r_aload_n (i := 0) i_M_isGood_0 rfl rfl ?_
  refine r_iload_n (i := 1) i_M_isGood_1 rfl rfl ?_
  refine r_iload_n (i := 2) i_M_isGood_2 rfl rfl ?_
  refine f_virtual o_M_isGood k_M_isParty v_M_isParty x_M_240 i_M_isGood_3 o_M_isParty (c_M_isParty h hb) rfl (rcv_ob (by repeat (first | assumption | exact upw_s | refine (upw_n (by omega)).trans ?_)) rfl (by first | assumption | omega)) rfl (by decide) (Nat.le_of_ble_eq_true rfl) ?_
  refine r_if_ne 30 i_M_isGood_6 (by decide) (fun h6 => ?_) (fun h6 => ?_)
  · skip
    have h6 := bI_ne0.mp h6
    rw [h6, Bool.not_true, Bool.and_false]
    refine r_iconst (v := (0 : Int32)) i_M_isGood_30 rfl ?_
    refine r_ireturn i_M_isGood_31 t_M_isGood (by first | rfl | exact nar_bI _) ?_
    exact ⟨rfl, rfl, rfl⟩
  · skip
    have h6 := bI_eq0.mp h6
    rw [h6]
    refine r_aload_n (i := 0) i_M_isGood_9 rfl rfl ?_
    refine r_getf (ci := 6) (T := Fk6) (k := 15) o_M_isGood i_M_isGood_10 x_M_51 rfl (by decide) rfl (by repeat (first | assumption | exact upw_s | refine (upw_n (by omega)).trans ?_)) (by first | assumption | omega) (by rfl) ?_
    refine r_iload_n (i := 1) i_M_isGood_13 rfl rfl ?_
    refine r_aald i_M_isGood_14 (by repeat (first | assumption | exact upw_s | refine (upw_n (by omega)).trans ?_)) (by decide) (by first | assumption | omega) (by assumption) r4 ?_
    refine r_iload_n (i := 2) i_M_isGood_15 rfl rfl ?_
    refine r_iald i_M_isGood_16 (by repeat (first | assumption | exact upw_s | refine (upw_n (by omega)).trans ?_)) (by first | assumption | omega) (by assumption) ?_
    refine r_aload_n (i := 0) i_M_isGood_17 rfl rfl ?_
    refine r_getf (ci := 6) (T := Fk6) (k := 16) o_M_isGood i_M_isGood_18 x_M_54 rfl (by decide) rfl (by repeat (first | assumption | exact upw_s | refine (upw_n (by omega)).trans ?_)) (by first | assumption | omega) (by rfl) ?_
    refine r_iconst (v := (0 : Int32)) i_M_isGood_21 rfl ?_
    refine r_iald i_M_isGood_22 (by repeat (first | assumption | exact upw_s | refine (upw_n (by omega)).trans ?_)) (by first | assumption | omega) (by assumption) ?_
    rw [nI_clamp (by omega)]
    refine r_icmp_lt 30 i_M_isGood_23 (by decide) (fun h23 => ?_) (fun h23 => ?_)
    · skip
      have h23 : M.2.1 (29 + b) t < M.2.1 36 0 := h23
      rw [decide_eq_false (fun q => q h23)]
      refine r_iconst (v := (0 : Int32)) i_M_isGood_30 rfl ?_
      refine r_ireturn i_M_isGood_31 t_M_isGood (by first | rfl | exact nar_bI _) ?_
      exact ⟨rfl, rfl, rfl⟩
    · skip
      have h23 : ¬ M.2.1 (29 + b) t < M.2.1 36 0 := h23
      rw [decide_eq_true h23]
      refine r_iconst (v := (1 : Int32)) i_M_isGood_26 rfl ?_
      refine r_goto 31 i_M_isGood_27 (by decide) ?_
      refine r_ireturn i_M_isGood_31 t_M_isGood (by first | rfl | exact nar_bI _) ?_
      exact ⟨rfl, rfl, rfl⟩
theorem c_M_valueOf {b t : Nat} (h : MW w o M n) (hb : b < 7) (ht : t < 7) : Fn G 1 y_M_valueOf [.ref o, .int (nI b), .int (nI t)] w n (some (.int (valN (tM M) b t))) w := by
  obtain ⟨m0, mA', mL', m4, m20, m28, mn'⟩ := id h
  obtain ⟨r1, r2, r3, r4, r5⟩ := row_of h hb
  have it : vp_in (nI t) 7 := vp_in_nI ht (by decide)
  refine Fn.of k_M_valueOf l_M_valueOf rfl rfl ?_
  unfold valN
  rw [t_loss ht]
  refine r_aload_n (i := 0) i_M_valueOf_0 rfl rfl ?_
  refine r_iload_n (i := 1) i_M_valueOf_1 rfl rfl ?_
  refine f_virtual o_M_valueOf k_M_gains v_M_gains x_M_246 i_M_valueOf_2 o_M_gains (c_M_gains h hb) rfl (rcv_ob (by repeat (first | assumption | exact upw_s | refine (upw_n (by omega)).trans ?_)) rfl (by first | assumption | omega)) rfl (by decide) (Nat.le_of_ble_eq_true rfl) ?_
  refine r_aload_n (i := 0) i_M_valueOf_5 rfl rfl ?_
  refine r_getf (ci := 6) (T := Fk6) (k := 15) o_M_valueOf i_M_valueOf_6 x_M_51 rfl (by decide) rfl (by repeat (first | assumption | exact upw_s | refine (upw_n (by omega)).trans ?_)) (by first | assumption | omega) (by rfl) ?_
  refine r_iload_n (i := 1) i_M_valueOf_9 rfl rfl ?_
  refine r_aald i_M_valueOf_10 (by repeat (first | assumption | exact upw_s | refine (upw_n (by omega)).trans ?_)) (by decide) (by first | assumption | omega) (by assumption) r4 ?_
  refine r_iload_n (i := 2) i_M_valueOf_11 rfl rfl ?_
  refine r_iald i_M_valueOf_12 (by repeat (first | assumption | exact upw_s | refine (upw_n (by omega)).trans ?_)) (by first | assumption | omega) (by assumption) ?_
  rw [nI_clamp (by omega)]
  refine r_isub i_M_valueOf_13 ?_
  refine r_ireturn i_M_valueOf_14 t_M_valueOf rfl ?_
  exact ⟨rfl, rfl, rfl⟩
def hsB (x k : Int32) : Bool := !decide ((x >>> (k &&& 31)) &&& 1 = 0)
def mayM (M : aM) (b t : Nat) (x : Int32) : Bool := gd (tM M) b t && (decide (M.2.1 36 1 = 0) || !hsB x (nI t))
theorem c_M_may {b t : Nat} {x : Int32} (h : MW w o M n) (hb : b < 7) (ht : t < 7) : Fn G 2 y_M_may [.ref o, .int (nI b), .int (nI t), .int x] w n (some (.int (bI (mayM M b t x)))) w := by
  obtain ⟨m0, mA', mL', m4, m20, m28, mn'⟩ := id h
  obtain ⟨i0, i1, i2, i3⟩ := v4
  have a36 : w (o + 36) = ai 4 (M.2.1 36) := mA' 36 rfl
  refine Fn.of k_M_may l_M_may rfl rfl ?_
  unfold mayM hsB
  refine r_aload_n (i := 0) i_M_may_0 rfl rfl ?_
  refine r_iload_n (i := 1) i_M_may_1 rfl rfl ?_
  refine r_iload_n (i := 2) i_M_may_2 rfl rfl ?_
  refine f_virtual o_M_may k_M_isGood v_M_isGood x_M_243 i_M_may_3 o_M_isGood (c_M_isGood h hb ht) rfl (rcv_ob (by repeat (first | assumption | exact upw_s | refine (upw_n (by omega)).trans ?_)) rfl (by first | assumption | omega)) rfl (by decide) (Nat.le_of_ble_eq_true rfl) ?_
  refine r_if_eq 30 i_M_may_6 (by decide) (fun h6 => ?_) (fun h6 => ?_)
  · skip
    have h6 := bI_eq0.mp h6
    rw [h6, Bool.false_and]
    refine r_iconst (v := (0 : Int32)) i_M_may_30 rfl ?_
    refine r_ireturn i_M_may_31 t_M_may (by first | rfl | exact nar_bI _) ?_
    exact ⟨rfl, rfl, rfl⟩
  · skip
    have h6 := bI_ne0.mp h6
    rw [h6, Bool.true_and]
    refine r_aload_n (i := 0) i_M_may_9 rfl rfl ?_
    refine r_getf (ci := 6) (T := Fk6) (k := 16) o_M_may i_M_may_10 x_M_54 rfl (by decide) rfl (by repeat (first | assumption | exact upw_s | refine (upw_n (by omega)).trans ?_)) (by first | assumption | omega) (by rfl) ?_
    refine r_iconst (v := (1 : Int32)) i_M_may_13 rfl ?_
    refine r_iald i_M_may_14 (by repeat (first | assumption | exact upw_s | refine (upw_n (by omega)).trans ?_)) (by first | assumption | omega) (by assumption) ?_
    refine r_if_eq 26 i_M_may_15 (by decide) (fun h15 => ?_) (fun h15 => ?_)
    · skip
      have h15 : M.2.1 36 1 = 0 := h15
      rw [decide_eq_true h15, Bool.true_or]
      refine r_iconst (v := (1 : Int32)) i_M_may_26 rfl ?_
      refine r_goto 31 i_M_may_27 (by decide) ?_
      refine r_ireturn i_M_may_31 t_M_may (by first | rfl | exact nar_bI _) ?_
      exact ⟨rfl, rfl, rfl⟩
    · skip
      have h15 : ¬ M.2.1 36 1 = 0 := h15
      rw [decide_eq_false h15, Bool.false_or]
      refine r_iload_n (i := 3) i_M_may_18 rfl rfl ?_
      refine r_iload_n (i := 2) i_M_may_19 rfl rfl ?_
      refine f_static o_M_may k_M_has s_M_has x_M_122 i_M_may_20 (c_M_has) rfl rfl (by decide) (Nat.le_of_ble_eq_true rfl) ?_
      refine r_if_ne 30 i_M_may_23 (by decide) (fun h23 => ?_) (fun h23 => ?_)
      · skip
        have h23 := bI_ne0.mp h23
        rw [h23]
        refine r_iconst (v := (0 : Int32)) i_M_may_30 rfl ?_
        refine r_ireturn i_M_may_31 t_M_may (by first | rfl | exact nar_bI _) ?_
        exact ⟨rfl, rfl, rfl⟩
      · skip
        have h23 := bI_eq0.mp h23
        rw [h23]
        refine r_iconst (v := (1 : Int32)) i_M_may_26 rfl ?_
        refine r_goto 31 i_M_may_27 (by decide) ?_
        refine r_ireturn i_M_may_31 t_M_may (by first | rfl | exact nar_bI _) ?_
        exact ⟨rfl, rfl, rfl⟩
end MTOWN
