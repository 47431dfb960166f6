-- THE CLASS: BY A RULE, IN TRUTH
section PUBY
variable {G : gE} {w : aW} {n : Nat} {Q : aQ}
def r_by (Q : aQ) (s q : Int32) : Int32 := if lt0 q 3 = true then ruleR Q.2.2.2.1 s else -2
def m_by (Q : aQ) (s q : Int32) : Int32 × aQ := if r_by Q s q = 0 then (tls Q s q, Q) else rfb Q (r_by Q s q)
theorem c_N_by {s q : Int32} (hC : CW w Q n) (hQ : QOk Q) : Cm G 7 y_N_by [.ref 0, .int s, .int q] w n (m_by Q s q) := by
  obtain ⟨D, L, fa, K, Z, hX⟩ := id hC
  obtain ⟨c0, cT, cK, cD, cS, cR, cW, cE, cF, cn⟩ := id hX
  have oT := cT.1
  have oK := cK.1
  have oD := cD.1
  have oS := cS.1
  have oR := cR.1
  have oW := cW.1
  have oE := cE.1
  refine Cm.of k_N_by l_N_by rfl rfl ?_
  unfold m_by
  have key : ∀ r, r = r_by Q s q → Go G 7 y_N_by 22 [some (.ref 0), some (.int s), some (.int q), some (.int r)] [] w n 0 0 (fun r' w' n' => r' = some (.int (if r = 0 then (tls Q s q, Q) else rfb Q r).1) ∧ (CW w' (if r = 0 then (tls Q s q, Q) else rfb Q r).2 n ∧ cFr w w') ∧ n' = n) := by
    intro r hr
    refine r_iload_n (i := 3) i_N_by_22 rfl rfl ?_
    refine r_if_ne 35 i_N_by_23 (by decide) (fun h23 => ?_) (fun h23 => ?_)
    · skip
      rw [if_neg h23]
      refine r_aload_n (i := 0) i_N_by_35 rfl rfl ?_
      refine r_iload_n (i := 3) i_N_by_36 rfl rfl ?_
      refine m_virtual o_N_by k_N_refuseBelow v_N_refuseBelow x_N_212 i_N_by_37 o_N_refuseBelow (c_N_refuseBelow hC) rfl (rcv_ob (by repeat (first | assumption | exact upw_s | refine (upw_n (by omega)).trans ?_)) rfl (by first | assumption | omega)) rfl (by decide) (Nat.le_of_ble_eq_true rfl) (Nat.zero_le _) (Nat.zero_le _) (fun rr37 wr37 nr37 hp9 => ?_)
      obtain ⟨rfl, hp9, rfl⟩ := hp9
      refine r_ireturn i_N_by_40 t_N_by rfl ?_
      first | exact ⟨rfl, hp9, rfl⟩ | exact ⟨rfl, ⟨hC, cFr.rfl⟩, rfl⟩
    · skip
      have h0 : ruleR Q.2.2.2.1 s = 0 := by
        rw [h23] at hr
        unfold r_by at hr
        split at hr
        · exact hr.symm
        · exact absurd hr (by decide)
      rw [if_pos h23]
      refine r_aload_n (i := 0) i_N_by_26 rfl rfl ?_
      refine r_iload_n (i := 1) i_N_by_27 rfl rfl ?_
      refine r_iload_n (i := 2) i_N_by_28 rfl rfl ?_
      refine m_virtual o_N_by k_N_tellByShelf v_N_tellByShelf x_N_238 i_N_by_29 o_N_tellByShelf (c_N_tellByShelf hC hQ h0) rfl (rcv_ob (by repeat (first | assumption | exact upw_s | refine (upw_n (by omega)).trans ?_)) rfl (by first | assumption | omega)) rfl (by decide) (Nat.le_of_ble_eq_true rfl) (Nat.zero_le _) (Nat.zero_le _) (fun r1 w2 n1 hp9 => ?_)
      obtain ⟨rfl, hp9, rfl⟩ := hp9
      refine r_goto 40 i_N_by_32 (by decide) ?_
      refine r_ireturn i_N_by_40 t_N_by rfl ?_
      first | exact ⟨rfl, hp9, rfl⟩ | exact ⟨rfl, ⟨hC, cFr.rfl⟩, rfl⟩
  refine r_iload_n (i := 2) i_N_by_0 rfl rfl ?_
  refine r_iconst (v := (3 : Int32)) i_N_by_1 rfl ?_
  refine f_static o_N_by k_N_isBelow s_N_isBelow x_N_58 i_N_by_2 (c_N_isBelow) rfl rfl (by decide) (Nat.le_of_ble_eq_true rfl) ?_
  refine r_if_eq 19 i_N_by_5 (by decide) (fun h5 => ?_) (fun h5 => ?_)
  · skip
    have h5 := bI_eq0.mp h5
    try rw [h5]
    have e9 : r_by Q s q = -2 := if_neg (by rw [h5]; decide)
    refine r_bipush (v := (-2 : Int32)) i_N_by_19 (by decide) ?_
    refine r_istore_3 i_N_by_21 (by rw [l_N_by]; decide) rfl ?_
    rw [e9]
    exact key _ e9.symm
  · skip
    have h5 := bI_ne0.mp h5
    try rw [h5]
    have e9 : r_by Q s q = ruleR Q.2.2.2.1 s := if_pos h5
    refine r_aload_n (i := 0) i_N_by_8 rfl rfl ?_
    refine r_getf (ci := 0) (T := Fk0) (k := 4) o_N_by i_N_by_9 x_N_29 rfl (by decide) rfl (by repeat (first | assumption | exact upw_s | refine (upw_n (by omega)).trans ?_)) (by first | assumption | omega) (by rfl) ?_
    refine r_iload_n (i := 1) i_N_by_12 rfl rfl ?_
    refine f_virtual o_N_by k_S_ruleRefusal v_S_ruleRefusal x_N_104 i_N_by_13 o_S_ruleRefusal (c_S_ruleRefusal cS) rfl (rcv_ob (by repeat (first | assumption | exact upw_s | refine (upw_n (by omega)).trans ?_)) rfl (by first | assumption | omega)) rfl (by decide) (Nat.le_of_ble_eq_true rfl) ?_
    refine r_goto 21 i_N_by_16 (by decide) ?_
    refine r_istore_3 i_N_by_21 (by rw [l_N_by]; decide) rfl ?_
    rw [e9]
    exact key _ e9.symm
def m_lives (Q : aQ) (s : Int32) : Int32 × aQ := if ruleR Q.2.2.2.1 s = 0 then (bcount (wkR Q s).1, qT Q (truth Q.1 (wkR Q s) (nB Q))) else rfz Q (ruleR Q.2.2.2.1 s)
theorem c_N_lives {s : Int32} (hC : CW w Q n) (hQ : QOk Q) : Cm G 6 y_N_lives [.ref 0, .int s] w n (m_lives Q s) := by
  obtain ⟨D, L, fa, K, Z, hX⟩ := id hC
  obtain ⟨c0, cT, cK, cD, cS, cR, cW, cE, cF, cn⟩ := id hX
  have oT := cT.1
  have oK := cK.1
  have oD := cD.1
  have oS := cS.1
  have oR := cR.1
  have oW := cW.1
  have oE := cE.1
  obtain ⟨P, B, hP, hP7, hB, hB7, hPI⟩ := hQ.1
  refine Cm.of k_N_lives l_N_lives rfl rfl ?_
  unfold m_lives
  refine r_aload_n (i := 0) i_N_lives_0 rfl rfl ?_
  refine r_getf (ci := 0) (T := Fk0) (k := 4) o_N_lives i_N_lives_1 x_N_29 rfl (by decide) rfl (by repeat (first | assumption | exact upw_s | refine (upw_n (by omega)).trans ?_)) (by first | assumption | omega) (by rfl) ?_
  refine r_iload_n (i := 1) i_N_lives_4 rfl rfl ?_
  refine f_virtual o_N_lives k_S_ruleRefusal v_S_ruleRefusal x_N_104 i_N_lives_5 o_S_ruleRefusal (c_S_ruleRefusal cS) rfl (rcv_ob (by repeat (first | assumption | exact upw_s | refine (upw_n (by omega)).trans ?_)) rfl (by first | assumption | omega)) rfl (by decide) (Nat.le_of_ble_eq_true rfl) ?_
  refine r_istore_2 i_N_lives_8 (by rw [l_N_lives]; decide) rfl ?_
  refine r_iload_n (i := 2) i_N_lives_9 rfl rfl ?_
  refine r_if_eq 19 i_N_lives_10 (by decide) (fun h10 => ?_) (fun h10 => ?_)
  · skip
    rw [if_pos h10]
    obtain ⟨k, kd, hk, -, k1, k6, e1, -⟩ := ruleR_0 hQ.2.2.1 h10
    have e2 : kdI Q s = kd := by unfold kdI; rw [e1, nI_clamp (by omega)]
    unfold wkR
    rw [nP_eq hP hP7, nB_eq hB hB7, e2]
    have hE : wE (fbr Q.1 P kd (noI Q s) K B) (fbr Q.1 P kd (noI Q s) K0 B) := fbr_E B hB7
    rw [← truth_E hE hB7, ← hE.1]
    refine r_aload_n (i := 0) i_N_lives_19 rfl rfl ?_
    refine r_getf (ci := 0) (T := Fk0) (k := 6) o_N_lives i_N_lives_20 x_N_43 rfl (by decide) rfl (by repeat (first | assumption | exact upw_s | refine (upw_n (by omega)).trans ?_)) (by first | assumption | omega) (by rfl) ?_
    refine r_aload_n (i := 0) i_N_lives_23 rfl rfl ?_
    refine r_getf (ci := 0) (T := Fk0) (k := 0) o_N_lives i_N_lives_24 x_N_10 rfl (by decide) rfl (by repeat (first | assumption | exact upw_s | refine (upw_n (by omega)).trans ?_)) (by first | assumption | omega) (by rfl) ?_
    refine r_aload_n (i := 0) i_N_lives_27 rfl rfl ?_
    refine r_getf (ci := 0) (T := Fk0) (k := 4) o_N_lives i_N_lives_28 x_N_29 rfl (by decide) rfl (by repeat (first | assumption | exact upw_s | refine (upw_n (by omega)).trans ?_)) (by first | assumption | omega) (by rfl) ?_
    refine r_iload_n (i := 1) i_N_lives_31 rfl rfl ?_
    refine f_virtual o_N_lives k_S_kindIn v_S_kindIn x_N_107 i_N_lives_32 o_S_kindIn (c_S_kindIn cS) rfl (rcv_ob (by repeat (first | assumption | exact upw_s | refine (upw_n (by omega)).trans ?_)) rfl (by first | assumption | omega)) rfl (by decide) (Nat.le_of_ble_eq_true rfl) ?_
    rw [e1]
    refine r_aload_n (i := 0) i_N_lives_35 rfl rfl ?_
    refine r_getf (ci := 0) (T := Fk0) (k := 4) o_N_lives i_N_lives_36 x_N_29 rfl (by decide) rfl (by repeat (first | assumption | exact upw_s | refine (upw_n (by omega)).trans ?_)) (by first | assumption | omega) (by rfl) ?_
    refine r_iload_n (i := 1) i_N_lives_39 rfl rfl ?_
    refine f_virtual o_N_lives k_S_numberIn v_S_numberIn x_N_117 i_N_lives_40 o_S_numberIn (c_S_numberIn cS) rfl (rcv_ob (by repeat (first | assumption | exact upw_s | refine (upw_n (by omega)).trans ?_)) rfl (by first | assumption | omega)) rfl (by decide) (Nat.le_of_ble_eq_true rfl) ?_
    refine m_virtual o_N_lives k_W_fillByRule v_W_fillByRule x_N_241 i_N_lives_43 o_W_fillByRule (c_W_fillByRule cW cT (by omega) hP hP7 hB hB7 k1 k6) rfl (rcv_ob (by repeat (first | assumption | exact upw_s | refine (upw_n (by omega)).trans ?_)) rfl (by first | assumption | omega)) rfl (by decide) (Nat.le_of_ble_eq_true rfl) (Nat.zero_le _) (Nat.zero_le _) (fun r1 w2 n1 hp9 => ?_)
    obtain ⟨rfl, ⟨hW2, hF2⟩, rfl⟩ := hp9
    have hX2 := hX.week hW2 hF2
    obtain ⟨d0, dT, dK, dD, dS, dR, dW, dE, dF, dn⟩ := id hX2
    have uW := dW.1
    refine r_aload_n (i := 0) i_N_lives_46 rfl rfl ?_
    refine r_getf (ci := 0) (T := Fk0) (k := 6) o_N_lives i_N_lives_47 x_N_43 rfl (by decide) rfl (by repeat (first | assumption | exact upw_s | refine (upw_n (by omega)).trans ?_)) (by first | assumption | omega) (by rfl) ?_
    refine r_aload_n (i := 0) i_N_lives_50 rfl rfl ?_
    refine r_getf (ci := 0) (T := Fk0) (k := 0) o_N_lives i_N_lives_51 x_N_10 rfl (by decide) rfl (by repeat (first | assumption | exact upw_s | refine (upw_n (by omega)).trans ?_)) (by first | assumption | omega) (by rfl) ?_
    refine m_virtual o_N_lives k_W_comeTrue v_W_comeTrue x_N_245 i_N_lives_54 o_W_comeTrue (c_W_comeTrue dW dT (by omega) hP7 hB hB7 (fbr_ok hP7 B hB7) hPI) rfl (rcv_ob (by repeat (first | assumption | exact upw_s | refine (upw_n (by omega)).trans ?_)) rfl (by first | assumption | omega)) rfl (by decide) (Nat.le_of_ble_eq_true rfl) (Nat.zero_le _) (Nat.zero_le _) (fun r1 w3 n1 hp9 => ?_)
    obtain ⟨rfl, ⟨hT3, hF3⟩, rfl⟩ := hp9
    refine r_ireturn i_N_lives_57 t_N_lives rfl ?_
    exact ⟨rfl, ⟨(hX2.now hT3 hF3).cw, fun j hj => (hF3 j (by omega)).trans (hF2 j (by omega))⟩, rfl⟩
  · skip
    rw [if_neg h10]
    refine r_aload_n (i := 0) i_N_lives_13 rfl rfl ?_
    refine r_iload_n (i := 2) i_N_lives_14 rfl rfl ?_
    refine m_virtual o_N_lives k_N_refuse v_N_refuse x_N_66 i_N_lives_15 o_N_refuse (c_N_refuse hC) rfl (rcv_ob (by repeat (first | assumption | exact upw_s | refine (upw_n (by omega)).trans ?_)) rfl (by first | assumption | omega)) rfl (by decide) (Nat.le_of_ble_eq_true rfl) (Nat.zero_le _) (Nat.zero_le _) (fun rr15 wr15 nr15 hp9 => ?_)
    obtain ⟨rfl, hp9, rfl⟩ := hp9
    refine r_ireturn i_N_lives_18 t_N_lives rfl ?_
    first | exact ⟨rfl, hp9, rfl⟩ | exact ⟨rfl, ⟨hC, cFr.rfl⟩, rfl⟩
def m_makes (Q : aQ) (s : Int32) : Int32 × aQ := if fin_told Q s (tldR Q s) = 0 then (bcount (tldW Q s).1.1, qT Q (truth Q.1 (tldW Q s).1 (nB Q))) else rfz Q (fin_told Q s (tldR Q s))
theorem c_N_makes {s : Int32} (hC : CW w Q n) (hQ : QOk Q) : Cm G 6 y_N_makes [.ref 0, .int s] w n (m_makes Q s) := by
  obtain ⟨D, L, fa, K, Z, hX⟩ := id hC
  obtain ⟨c0, cT, cK, cD, cS, cR, cW, cE, cF, cn⟩ := id hX
  have oT := cT.1
  have oK := cK.1
  have oD := cD.1
  have oS := cS.1
  have oR := cR.1
  have oW := cW.1
  have oE := cE.1
  obtain ⟨P, B, hP, hP7, hB, hB7, hPI⟩ := id hQ.1
  refine Cm.of k_N_makes l_N_makes rfl rfl ?_
  unfold m_makes fin_told
  have bad : ∀ r w2, ¬ r = 0 → CW w2 Q n → cFr w w2 → Go G 6 y_N_makes 33 [some (.ref 0), some (.int s), some (.int r)] [] w2 n 0 0 (fun r' w' n' => r' = some (.int r) ∧ (CW w' (rfQ Q r) n ∧ cFr w w') ∧ n' = n) := by
    intro r w2 hr hC hF2
    obtain ⟨D, L, fa, K, Z, hX⟩ := id hC
    obtain ⟨c0, cT, cK, cD, cS, cR, cW, cE, cF, cn⟩ := id hX
    have oT := cT.1
    have oK := cK.1
    have oD := cD.1
    have oS := cS.1
    have oR := cR.1
    have oW := cW.1
    have oE := cE.1
    refine r_iload_n (i := 2) i_N_makes_33 rfl rfl ?_
    refine r_if_ne 51 i_N_makes_34 (by decide) (fun h34 => ?_) (fun h34 => (absurd h34 hr))
    refine r_aload_n (i := 0) i_N_makes_51 rfl rfl ?_
    refine r_iload_n (i := 2) i_N_makes_52 rfl rfl ?_
    refine m_virtual o_N_makes k_N_refuse v_N_refuse x_N_66 i_N_makes_53 o_N_refuse (c_N_refuse hC) rfl (rcv_ob (by repeat (first | assumption | exact upw_s | refine (upw_n (by omega)).trans ?_)) rfl (by first | assumption | omega)) rfl (by decide) (Nat.le_of_ble_eq_true rfl) (Nat.zero_le _) (Nat.zero_le _) (fun rr53 wr53 nr53 hp9 => ?_)
    obtain ⟨rfl, hp9, rfl⟩ := hp9
    refine r_ireturn i_N_makes_56 t_N_makes rfl ?_
    exact ⟨rfl, ⟨hp9.1, fun j hj => (hp9.2 j hj).trans (hF2 j hj)⟩, rfl⟩
  have good : ∀ w2 K', CX w2 Q D L fa K' Z n → wE K' (tldW Q s).1 → WOk K' (nP Q) → cFr w w2 → Go G 6 y_N_makes 33 [some (.ref 0), some (.int s), some (.int 0)] [] w2 n 0 0 (fun r' w' n' => r' = some (.int (bcount (tldW Q s).1.1)) ∧ (CW w' (qT Q (truth Q.1 (tldW Q s).1 (nB Q))) n ∧ cFr w w') ∧ n' = n) := by
    intro w2 K' hX2 hE2 hO2 hF2
    obtain ⟨c0, cT, cK, cD, cS, cR, cW, cE, cF, cn⟩ := id hX2
    have oT := cT.1
    have oW := cW.1
    rw [nB_eq hB hB7, ← truth_E hE2 hB7, ← hE2.1]
    rw [nP_eq hP hP7] at hO2
    refine r_iload_n (i := 2) i_N_makes_33 rfl rfl ?_
    refine r_if_ne 51 i_N_makes_34 (by decide) (fun h34 => (absurd rfl h34)) (fun h34 => ?_)
    refine r_aload_n (i := 0) i_N_makes_37 rfl rfl ?_
    refine r_getf (ci := 0) (T := Fk0) (k := 6) o_N_makes i_N_makes_38 x_N_43 rfl (by decide) rfl (by repeat (first | assumption | exact upw_s | refine (upw_n (by omega)).trans ?_)) (by first | assumption | omega) (by rfl) ?_
    refine r_aload_n (i := 0) i_N_makes_41 rfl rfl ?_
    refine r_getf (ci := 0) (T := Fk0) (k := 0) o_N_makes i_N_makes_42 x_N_10 rfl (by decide) rfl (by repeat (first | assumption | exact upw_s | refine (upw_n (by omega)).trans ?_)) (by first | assumption | omega) (by rfl) ?_
    refine m_virtual o_N_makes k_W_comeTrue v_W_comeTrue x_N_245 i_N_makes_45 o_W_comeTrue (c_W_comeTrue cW cT (by omega) hP7 hB hB7 hO2 hPI) rfl (rcv_ob (by repeat (first | assumption | exact upw_s | refine (upw_n (by omega)).trans ?_)) rfl (by first | assumption | omega)) rfl (by decide) (Nat.le_of_ble_eq_true rfl) (Nat.zero_le _) (Nat.zero_le _) (fun r1 w3 n1 hp9 => ?_)
    obtain ⟨rfl, ⟨hT3, hF3⟩, rfl⟩ := hp9
    refine r_goto 56 i_N_makes_48 (by decide) ?_
    refine r_ireturn i_N_makes_56 t_N_makes rfl ?_
    exact ⟨rfl, ⟨(hX2.now hT3 hF3).cw, fun j hj => (hF3 j (by omega)).trans (hF2 j hj)⟩, rfl⟩
  refine r_aload_n (i := 0) i_N_makes_0 rfl rfl ?_
  refine r_iload_n (i := 1) i_N_makes_1 rfl rfl ?_
  refine f_virtual o_N_makes k_N_toldRefusal v_N_toldRefusal x_N_227 i_N_makes_2 o_N_toldRefusal (c_N_toldRefusal hC) rfl (rcv_ob (by repeat (first | assumption | exact upw_s | refine (upw_n (by omega)).trans ?_)) rfl (by first | assumption | omega)) rfl (by decide) (Nat.le_of_ble_eq_true rfl) ?_
  refine r_istore_2 i_N_makes_5 (by rw [l_N_makes]; decide) rfl ?_
  refine r_iload_n (i := 2) i_N_makes_6 rfl rfl ?_
  refine r_if_ne 33 i_N_makes_7 (by decide) (fun h7 => ?_) (fun h7 => ?_)
  · skip
    rw [if_neg h7, if_neg h7]
    first | exact good _ _ hX2 hE2 hO2 hF2 | exact bad _ _ h7 hC cFr.rfl | exact bad _ _ (by decide) hX2.cw hF2
  · skip
    rw [if_pos h7]
    refine r_aload_n (i := 0) i_N_makes_10 rfl rfl ?_
    refine r_getf (ci := 0) (T := Fk0) (k := 6) o_N_makes i_N_makes_11 x_N_43 rfl (by decide) rfl (by repeat (first | assumption | exact upw_s | refine (upw_n (by omega)).trans ?_)) (by first | assumption | omega) (by rfl) ?_
    refine r_aload_n (i := 0) i_N_makes_14 rfl rfl ?_
    refine r_getf (ci := 0) (T := Fk0) (k := 0) o_N_makes i_N_makes_15 x_N_10 rfl (by decide) rfl (by repeat (first | assumption | exact upw_s | refine (upw_n (by omega)).trans ?_)) (by first | assumption | omega) (by rfl) ?_
    refine r_aload_n (i := 0) i_N_makes_18 rfl rfl ?_
    refine r_getf (ci := 0) (T := Fk0) (k := 4) o_N_makes i_N_makes_19 x_N_29 rfl (by decide) rfl (by repeat (first | assumption | exact upw_s | refine (upw_n (by omega)).trans ?_)) (by first | assumption | omega) (by rfl) ?_
    refine r_iload_n (i := 1) i_N_makes_22 rfl rfl ?_
    refine m_virtual o_N_makes k_W_fillTold v_W_fillTold x_N_230 i_N_makes_23 o_W_fillTold (c_fillTold hX hQ h7) rfl (rcv_ob (by repeat (first | assumption | exact upw_s | refine (upw_n (by omega)).trans ?_)) rfl (by first | assumption | omega)) rfl (by decide) (Nat.le_of_ble_eq_true rfl) (Nat.zero_le _) (Nat.zero_le _) (fun r1 w2 n1 hp9 => ?_)
    obtain ⟨rfl, ⟨K', hX2, hE2, hO2, hF2⟩, rfl⟩ := hp9
    refine r_iconst (v := (-1 : Int32)) i_N_makes_26 rfl ?_
    refine r_icmp_eq 33 i_N_makes_27 (by decide) (fun h27 => ?_) (fun h27 => ?_)
    · skip
      rw [if_pos h27, if_pos rfl, h7]
      first | exact good _ _ hX2 hE2 hO2 hF2 | exact bad _ _ h7 hC cFr.rfl | exact bad _ _ (by decide) hX2.cw hF2
    · skip
      rw [if_neg h27, if_neg (by decide)]
      refine r_bipush (v := (-5 : Int32)) i_N_makes_30 (by decide) ?_
      refine r_istore_2 i_N_makes_32 (by rw [l_N_makes]; decide) rfl ?_
      first | exact good _ _ hX2 hE2 hO2 hF2 | exact bad _ _ h7 hC cFr.rfl | exact bad _ _ (by decide) hX2.cw hF2
def wk1 (S : aS) (P B : Nat) : Int32 × aS := (bcount (fdr S P K0 B).1.1, truth (upS S 6 (fdr S P K0 B).2) (fdr S P K0 B).1 B)
def wkN (S : aS) (P B : Nat) : Nat → Int32 × aS
  | 0 => (0, S)
  | i + 1 => ((wkN S P B i).1 + (wk1 (wkN S P B i).2 P B).1, (wk1 (wkN S P B i).2 P B).2)
theorem ups6_ok {S : aS} {v : Int32} (h : TOk S) : TOk (upS S 6 v) := h
theorem wk1_ok {S : aS} {P B : Nat} (h : TOk S) : TOk (wk1 S P B).2 := truth_ok (ups6_ok h)
theorem wk1_PB {S : aS} {P B : Nat} : (wk1 S P B).2.1 0 = S.1 0 ∧ (wk1 S P B).2.1 1 = S.1 1 ∧ (wk1 S P B).2.2 2 = S.2 2 ∧ (wk1 S P B).2.2 3 = S.2 3 := by
  obtain ⟨h2, h3, h0, h1⟩ := truth_keep (S := upS S 6 (fdr S P K0 B).2) (X := (fdr S P K0 B).1) (B := B)
  exact ⟨h0, h1, h2, h3⟩
def m_week (Q : aQ) : Int32 × aQ := ((wk1 Q.1 (nP Q) (nB Q)).1, qT Q (wk1 Q.1 (nP Q) (nB Q)).2)
theorem c_N_week (hC : CW w Q n) (hQ : QOk Q) : Cm G 5 y_N_week [.ref 0] w n (m_week Q) := by
  obtain ⟨D, L, fa, K, Z, hX⟩ := id hC
  obtain ⟨c0, cT, cK, cD, cS, cR, cW, cE, cF, cn⟩ := id hX
  have oT := cT.1
  have oK := cK.1
  have oD := cD.1
  have oS := cS.1
  have oR := cR.1
  have oW := cW.1
  have oE := cE.1
  obtain ⟨P, B, hP, hP7, hB, hB7, hPI⟩ := id hQ.1
  refine Cm.of k_N_week l_N_week rfl rfl ?_
  unfold m_week wk1
  rw [nP_eq hP hP7, nB_eq hB hB7]
  obtain ⟨hE, hE2⟩ := fdr_E (S := Q.1) (P := P) (X := K) (Y := K0) B hB7
  rw [← truth_E hE hB7, ← hE.1, ← hE2]
  refine r_aload_n (i := 0) i_N_week_0 rfl rfl ?_
  refine r_getf (ci := 0) (T := Fk0) (k := 6) o_N_week i_N_week_1 x_N_43 rfl (by decide) rfl (by repeat (first | assumption | exact upw_s | refine (upw_n (by omega)).trans ?_)) (by first | assumption | omega) (by rfl) ?_
  refine r_aload_n (i := 0) i_N_week_4 rfl rfl ?_
  refine r_getf (ci := 0) (T := Fk0) (k := 0) o_N_week i_N_week_5 x_N_10 rfl (by decide) rfl (by repeat (first | assumption | exact upw_s | refine (upw_n (by omega)).trans ?_)) (by first | assumption | omega) (by rfl) ?_
  refine m_virtual o_N_week k_W_fillByDraws v_W_fillByDraws x_N_248 i_N_week_8 o_W_fillByDraws (c_W_fillByDraws cW cT (by omega) hP hP7 hB hB7) rfl (rcv_ob (by repeat (first | assumption | exact upw_s | refine (upw_n (by omega)).trans ?_)) rfl (by first | assumption | omega)) rfl (by decide) (Nat.le_of_ble_eq_true rfl) (Nat.zero_le _) (Nat.zero_le _) (fun r1 w2 n1 hp9 => ?_)
  obtain ⟨rfl, ⟨hW2, hT2, hF2⟩, rfl⟩ := hp9
  have uW := hW2.1
  have uT := hT2.1
  have u0 : w2 0 = _ := (hF2 0 (by omega) (by omega)).trans c0
  have hX2 : CX w2 (qT Q (upS Q.1 6 (fdr Q.1 P K B).2)) D L fa (fdr Q.1 P K B).1 Z n1 := ⟨u0, hT2, cK.fr (fun j q1 q2 => hF2 j (by omega) (by omega)), cD.fr (fun j q1 q2 => hF2 j (by omega) (by omega)), cS.fr (fun j q1 q2 => hF2 j (by omega) (by omega)), cR.fr (fun j q1 q2 => hF2 j (by omega) (by omega)), hW2, cE.fr (fun j q1 q2 => hF2 j (by omega) (by omega)), (hF2 43 (by omega) (by omega)).trans cF, cn⟩
  refine r_aload_n (i := 0) i_N_week_11 rfl rfl ?_
  refine r_getf (ci := 0) (T := Fk0) (k := 6) o_N_week i_N_week_12 x_N_43 rfl (by decide) rfl (by repeat (first | assumption | exact upw_s | refine (upw_n (by omega)).trans ?_)) (by first | assumption | omega) (by rfl) ?_
  refine r_aload_n (i := 0) i_N_week_15 rfl rfl ?_
  refine r_getf (ci := 0) (T := Fk0) (k := 0) o_N_week i_N_week_16 x_N_10 rfl (by decide) rfl (by repeat (first | assumption | exact upw_s | refine (upw_n (by omega)).trans ?_)) (by first | assumption | omega) (by rfl) ?_
  refine m_virtual o_N_week k_W_comeTrue v_W_comeTrue x_N_245 i_N_week_19 o_W_comeTrue (c_W_comeTrue hW2 hT2 (by omega) hP7 hB hB7 (fdr_ok hP7 B hB7) hPI) rfl (rcv_ob (by repeat (first | assumption | exact upw_s | refine (upw_n (by omega)).trans ?_)) rfl (by first | assumption | omega)) rfl (by decide) (Nat.le_of_ble_eq_true rfl) (Nat.zero_le _) (Nat.zero_le _) (fun r1 w3 n1 hp9 => ?_)
  obtain ⟨rfl, ⟨hT3, hF3⟩, rfl⟩ := hp9
  refine r_ireturn i_N_week_22 t_N_week rfl ?_
  exact ⟨rfl, ⟨(hX2.now hT3 hF3).cw, fun j hj => (hF3 j (by omega)).trans (hF2 j (by omega) (by omega))⟩, rfl⟩
end PUBY
