-- THE CLASS: WHAT CAN BE
def argM (f : Nat → Int32) : Nat → Int32 × Int32
  | 0 => (-1, 0)
  | k + 1 => if (argM f k).1 = -1 ∨ (argM f k).2 < f k then (nI k, f k) else argM f k
def argL (f : Nat → Int32) : Nat → Int32 × Int32
  | 0 => (-1, 0)
  | k + 1 => if (argL f k).1 = -1 ∨ f k < (argL f k).2 then (nI k, f k) else argL f k
def frst (Q : aQ) (v : Int32) : Int32 × aQ := if v = -1 then rfz Q (-5) else (v, Q)
def btF (p : Nat → Bool) : Nat → Int32 := bitsOf p
section PUBB
variable {G : gE} {w : aW} {n : Nat} {Q : aQ}
def bst (Q : aQ) (who : Int32) : Int32 := bestV Q.1 (nB Q) (nP Q) who
def m_best (Q : aQ) : Int32 × aQ := (bst Q (allW (nP Q)), Q)
theorem c_N_best (hC : CW w Q n) (hQ : QOk Q) : Cm G 6 y_N_best [.ref 0] w n (m_best Q) := by
  obtain ⟨D, L, fa, K, Z, hX⟩ := id hC
  obtain ⟨c0, cT, cK, cD, cS, cR, cW, cE, cF, cn⟩ := id hX
  have oT := cT.1
  have oK := cK.1
  have oD := cD.1
  have oS := cS.1
  have oR := cR.1
  have oW := cW.1
  have oE := cE.1
  obtain ⟨P, B, hP, hP7, hB, hB7, hPI⟩ := id hQ.1
  refine Cm.of k_N_best l_N_best rfl rfl ?_
  unfold m_best bst
  rw [nP_eq hP hP7, nB_eq hB hB7]
  have e9 : (1 : Int32) <<< (Q.1.1 0 &&& 31) - 1 = allW P := by rw [hP]; rfl
  refine r_aload_n (i := 0) i_N_best_0 rfl rfl ?_
  refine r_getf (ci := 0) (T := Fk0) (k := 7) o_N_best i_N_best_1 x_N_50 rfl (by decide) rfl (by repeat (first | assumption | exact upw_s | refine (upw_n (by omega)).trans ?_)) (by first | assumption | omega) (by rfl) ?_
  refine r_aload_n (i := 0) i_N_best_4 rfl rfl ?_
  refine r_getf (ci := 0) (T := Fk0) (k := 0) o_N_best i_N_best_5 x_N_10 rfl (by decide) rfl (by repeat (first | assumption | exact upw_s | refine (upw_n (by omega)).trans ?_)) (by first | assumption | omega) (by rfl) ?_
  refine r_aload_n (i := 0) i_N_best_8 rfl rfl ?_
  refine r_getf (ci := 0) (T := Fk0) (k := 0) o_N_best i_N_best_9 x_N_10 rfl (by decide) rfl (by repeat (first | assumption | exact upw_s | refine (upw_n (by omega)).trans ?_)) (by first | assumption | omega) (by rfl) ?_
  refine f_virtual o_N_best k_T_everybody v_T_everybody x_N_251 i_N_best_12 o_T_everybody (c_T_everybody cT) rfl (rcv_ob (by repeat (first | assumption | exact upw_s | refine (upw_n (by omega)).trans ?_)) rfl (by first | assumption | omega)) rfl (by decide) (Nat.le_of_ble_eq_true rfl) ?_
  rw [e9]
  refine m_virtual o_N_best k_E_bestValue v_E_bestValue x_N_254 i_N_best_15 o_E_bestValue (c_E_bestValue cE cT (by omega) hP hP7 hB hB7) rfl (rcv_ob (by repeat (first | assumption | exact upw_s | refine (upw_n (by omega)).trans ?_)) rfl (by first | assumption | omega)) rfl (by decide) (Nat.le_of_ble_eq_true rfl) (Nat.zero_le _) (Nat.zero_le _) (fun r1 w2 n1 hp9 => ?_)
  obtain ⟨rfl, ⟨⟨Z', hE2⟩, hF2⟩, rfl⟩ := hp9
  refine r_ireturn i_N_best_18 t_N_best rfl ?_
  exact ⟨rfl, ⟨(hX.srch hE2 hF2).cw, fun j hj => hF2 j (by omega)⟩, rfl⟩
def m_bestOf (Q : aQ) (b : Int32) : Int32 × aQ := if lt0 b (Q.1.1 1) = true then (bestT Q.1 (nB Q) (nP Q) b.toNatClampNeg, Q) else rfz Q (-2)
theorem c_N_bestOf {b : Int32} (hC : CW w Q n) (hQ : QOk Q) : Cm G 6 y_N_bestOf [.ref 0, .int b] w n (m_bestOf Q b) := by
  obtain ⟨D, L, fa, K, Z, hX⟩ := id hC
  obtain ⟨c0, cT, cK, cD, cS, cR, cW, cE, cF, cn⟩ := id hX
  have oT := cT.1
  have oK := cK.1
  have oD := cD.1
  have oS := cS.1
  have oR := cR.1
  have oW := cW.1
  have oE := cE.1
  obtain ⟨P, B, hP, hP7, hB, hB7, hPI⟩ := id hQ.1
  refine Cm.of k_N_bestOf l_N_bestOf rfl rfl ?_
  unfold m_bestOf
  rw [nP_eq hP hP7, nB_eq hB hB7]
  refine r_aload_n (i := 0) i_N_bestOf_0 rfl rfl ?_
  refine r_getf (ci := 0) (T := Fk0) (k := 0) o_N_bestOf i_N_bestOf_1 x_N_10 rfl (by decide) rfl (by repeat (first | assumption | exact upw_s | refine (upw_n (by omega)).trans ?_)) (by first | assumption | omega) (by rfl) ?_
  refine r_iload_n (i := 1) i_N_bestOf_4 rfl rfl ?_
  refine f_virtual o_N_bestOf k_T_hasBargain v_T_hasBargain x_N_189 i_N_bestOf_5 o_T_hasBargain (c_T_hasBargain cT) rfl (rcv_ob (by repeat (first | assumption | exact upw_s | refine (upw_n (by omega)).trans ?_)) rfl (by first | assumption | omega)) rfl (by decide) (Nat.le_of_ble_eq_true rfl) ?_
  refine r_if_eq 26 i_N_bestOf_8 (by decide) (fun h8 => ?_) (fun h8 => ?_)
  · skip
    have h8 := bI_eq0.mp h8
    try rw [h8]
    refine r_aload_n (i := 0) i_N_bestOf_26 rfl rfl ?_
    refine r_bipush (v := (-2 : Int32)) i_N_bestOf_27 (by decide) ?_
    refine m_virtual o_N_bestOf k_N_refuse v_N_refuse x_N_66 i_N_bestOf_29 o_N_refuse (c_N_refuse hC) rfl (rcv_ob (by repeat (first | assumption | exact upw_s | refine (upw_n (by omega)).trans ?_)) rfl (by first | assumption | omega)) rfl (by decide) (Nat.le_of_ble_eq_true rfl) (Nat.zero_le _) (Nat.zero_le _) (fun rr29 wr29 nr29 hp9 => ?_)
    obtain ⟨rfl, hp9, rfl⟩ := hp9
    refine r_ireturn i_N_bestOf_32 t_N_bestOf rfl ?_
    first | exact ⟨rfl, hp9, rfl⟩ | exact ⟨rfl, ⟨hC, cFr.rfl⟩, rfl⟩
  · skip
    have h8 := bI_ne0.mp h8
    try rw [h8]
    refine r_aload_n (i := 0) i_N_bestOf_11 rfl rfl ?_
    refine r_getf (ci := 0) (T := Fk0) (k := 7) o_N_bestOf i_N_bestOf_12 x_N_50 rfl (by decide) rfl (by repeat (first | assumption | exact upw_s | refine (upw_n (by omega)).trans ?_)) (by first | assumption | omega) (by rfl) ?_
    refine r_aload_n (i := 0) i_N_bestOf_15 rfl rfl ?_
    refine r_getf (ci := 0) (T := Fk0) (k := 0) o_N_bestOf i_N_bestOf_16 x_N_10 rfl (by decide) rfl (by repeat (first | assumption | exact upw_s | refine (upw_n (by omega)).trans ?_)) (by first | assumption | omega) (by rfl) ?_
    refine r_iload_n (i := 1) i_N_bestOf_19 rfl rfl ?_
    rw [hB] at h8
    obtain ⟨b, hb, rfl⟩ := lt0_of (by omega) h8
    rw [nI_clamp (by omega)]
    refine m_virtual o_N_bestOf k_E_bestThird v_E_bestThird x_N_257 i_N_bestOf_20 o_E_bestThird (c_E_bestThird cE cT (by omega) hP hP7 hB hB7) rfl (rcv_ob (by repeat (first | assumption | exact upw_s | refine (upw_n (by omega)).trans ?_)) rfl (by first | assumption | omega)) rfl (by decide) (Nat.le_of_ble_eq_true rfl) (Nat.zero_le _) (Nat.zero_le _) (fun r1 w2 n1 hp9 => ?_)
    obtain ⟨rfl, ⟨⟨Z', hE2⟩, hF2⟩, rfl⟩ := hp9
    have hp9 : CW w2 Q n1 ∧ cFr w w2 := ⟨(hX.srch hE2 hF2).cw, fun j hj => hF2 j (by omega)⟩
    refine r_goto 32 i_N_bestOf_23 (by decide) ?_
    refine r_ireturn i_N_bestOf_32 t_N_bestOf rfl ?_
    first | exact ⟨rfl, hp9, rfl⟩ | exact ⟨rfl, ⟨hC, cFr.rfl⟩, rfl⟩
def less1 (Q : aQ) (i : Int32) : Int32 := allW (nP Q) &&& ((1 : Int32) <<< (i &&& 31) ^^^ (-1))
def m_worth (Q : aQ) (i : Int32) : Int32 × aQ := if lt0 i (Q.1.1 0) = true then (bst Q (allW (nP Q)) - bst Q (less1 Q i), Q) else rfz Q (-2)
theorem c_N_worth {i : Int32} (hC : CW w Q n) (hQ : QOk Q) : Cm G 7 y_N_worth [.ref 0, .int i] w n (m_worth Q i) := by
  obtain ⟨D, L, fa, K, Z, hX⟩ := id hC
  obtain ⟨c0, cT, cK, cD, cS, cR, cW, cE, cF, cn⟩ := id hX
  have oT := cT.1
  have oK := cK.1
  have oD := cD.1
  have oS := cS.1
  have oR := cR.1
  have oW := cW.1
  have oE := cE.1
  obtain ⟨P, B, hP, hP7, hB, hB7, hPI⟩ := id hQ.1
  refine Cm.of k_N_worth l_N_worth rfl rfl ?_
  have e9 : (1 : Int32) <<< (Q.1.1 0 &&& 31) - 1 = allW (nP Q) := by rw [nP_eq hP hP7, hP]; rfl
  unfold m_worth less1
  refine r_aload_n (i := 0) i_N_worth_0 rfl rfl ?_
  refine r_getf (ci := 0) (T := Fk0) (k := 0) o_N_worth i_N_worth_1 x_N_10 rfl (by decide) rfl (by repeat (first | assumption | exact upw_s | refine (upw_n (by omega)).trans ?_)) (by first | assumption | omega) (by rfl) ?_
  refine r_iload_n (i := 1) i_N_worth_4 rfl rfl ?_
  refine f_virtual o_N_worth k_T_hasPerson v_T_hasPerson x_N_131 i_N_worth_5 o_T_hasPerson (c_T_hasPerson cT) rfl (rcv_ob (by repeat (first | assumption | exact upw_s | refine (upw_n (by omega)).trans ?_)) rfl (by first | assumption | omega)) rfl (by decide) (Nat.le_of_ble_eq_true rfl) ?_
  refine r_if_ne 18 i_N_worth_8 (by decide) (fun h8 => ?_) (fun h8 => ?_)
  · skip
    have h8 := bI_ne0.mp h8
    try rw [h8]
    refine r_aload_n (i := 0) i_N_worth_18 rfl rfl ?_
    refine m_virtual o_N_worth k_N_best v_N_best x_N_260 i_N_worth_19 o_N_best (c_N_best hC hQ) rfl (rcv_ob (by repeat (first | assumption | exact upw_s | refine (upw_n (by omega)).trans ?_)) rfl (by first | assumption | omega)) rfl (by decide) (Nat.le_of_ble_eq_true rfl) (Nat.zero_le _) (Nat.zero_le _) (fun r1 w2 n1 hp9 => ?_)
    obtain ⟨rfl, ⟨⟨D2, L2, fa2, K2, Z2, hX2⟩, hF2⟩, rfl⟩ := hp9
    have hX2 : CX w2 Q D2 L2 fa2 K2 Z2 n1 := hX2
    obtain ⟨d0, dT, dK, dD, dS, dR, dW, dE, dF, dn⟩ := id hX2
    have uT := dT.1
    have uE := dE.1
    refine r_aload_n (i := 0) i_N_worth_22 rfl rfl ?_
    refine r_getf (ci := 0) (T := Fk0) (k := 7) o_N_worth i_N_worth_23 x_N_50 rfl (by decide) rfl (by repeat (first | assumption | exact upw_s | refine (upw_n (by omega)).trans ?_)) (by first | assumption | omega) (by rfl) ?_
    refine r_aload_n (i := 0) i_N_worth_26 rfl rfl ?_
    refine r_getf (ci := 0) (T := Fk0) (k := 0) o_N_worth i_N_worth_27 x_N_10 rfl (by decide) rfl (by repeat (first | assumption | exact upw_s | refine (upw_n (by omega)).trans ?_)) (by first | assumption | omega) (by rfl) ?_
    refine r_aload_n (i := 0) i_N_worth_30 rfl rfl ?_
    refine r_getf (ci := 0) (T := Fk0) (k := 0) o_N_worth i_N_worth_31 x_N_10 rfl (by decide) rfl (by repeat (first | assumption | exact upw_s | refine (upw_n (by omega)).trans ?_)) (by first | assumption | omega) (by rfl) ?_
    refine f_virtual o_N_worth k_T_everybody v_T_everybody x_N_251 i_N_worth_34 o_T_everybody (c_T_everybody dT) rfl (rcv_ob (by repeat (first | assumption | exact upw_s | refine (upw_n (by omega)).trans ?_)) rfl (by first | assumption | omega)) rfl (by decide) (Nat.le_of_ble_eq_true rfl) ?_
    refine r_iconst (v := (1 : Int32)) i_N_worth_37 rfl ?_
    refine r_iload_n (i := 1) i_N_worth_38 rfl rfl ?_
    refine r_ishl i_N_worth_39 ?_
    refine r_iconst (v := (-1 : Int32)) i_N_worth_40 rfl ?_
    refine r_ixor i_N_worth_41 ?_
    refine r_iand i_N_worth_42 ?_
    rw [e9]
    refine m_virtual o_N_worth k_E_bestValue v_E_bestValue x_N_254 i_N_worth_43 o_E_bestValue (c_E_bestValue dE dT (by omega) hP hP7 hB hB7) rfl (rcv_ob (by repeat (first | assumption | exact upw_s | refine (upw_n (by omega)).trans ?_)) rfl (by first | assumption | omega)) rfl (by decide) (Nat.le_of_ble_eq_true rfl) (Nat.zero_le _) (Nat.zero_le _) (fun r1 w3 n1 hp9 => ?_)
    obtain ⟨rfl, ⟨⟨Z', hE3⟩, hF3⟩, rfl⟩ := hp9
    refine r_isub i_N_worth_46 ?_
    refine r_ireturn i_N_worth_47 t_N_worth rfl ?_
    refine ⟨?_, ⟨(hX2.srch hE3 hF3).cw, fun j hj => (hF3 j (by omega)).trans (hF2 j hj)⟩, rfl⟩
    rw [if_pos rfl]
    unfold m_best bst
    rw [nB_eq hB hB7, nP_eq hP hP7]
  · skip
    have h8 := bI_eq0.mp h8
    try rw [h8]
    refine r_aload_n (i := 0) i_N_worth_11 rfl rfl ?_
    refine r_bipush (v := (-2 : Int32)) i_N_worth_12 (by decide) ?_
    refine m_virtual o_N_worth k_N_refuse v_N_refuse x_N_66 i_N_worth_14 o_N_refuse (c_N_refuse hC) rfl (rcv_ob (by repeat (first | assumption | exact upw_s | refine (upw_n (by omega)).trans ?_)) rfl (by first | assumption | omega)) rfl (by decide) (Nat.le_of_ble_eq_true rfl) (Nat.zero_le _) (Nat.zero_le _) (fun rr14 wr14 nr14 hp9 => ?_)
    obtain ⟨rfl, hp9, rfl⟩ := hp9
    refine r_ireturn i_N_worth_17 t_N_worth rfl ?_
    first | exact ⟨rfl, hp9, rfl⟩ | exact ⟨rfl, ⟨hC, cFr.rfl⟩, rfl⟩
def m_gap (Q : aQ) (s : Int32) : Int32 × aQ := if ruleR Q.2.2.2.1 s = 0 then (bst Q (allW (nP Q)) - tls Q s 0, Q) else rfb Q (ruleR Q.2.2.2.1 s)
theorem c_N_gap {s : Int32} (hC : CW w Q n) (hQ : QOk Q) : Cm G 7 y_N_gap [.ref 0, .int s] w n (m_gap Q s) := by
  obtain ⟨D, L, fa, K, Z, hX⟩ := id hC
  obtain ⟨c0, cT, cK, cD, cS, cR, cW, cE, cF, cn⟩ := id hX
  have oT := cT.1
  have oK := cK.1
  have oD := cD.1
  have oS := cS.1
  have oR := cR.1
  have oW := cW.1
  have oE := cE.1
  refine Cm.of k_N_gap l_N_gap rfl rfl ?_
  unfold m_gap
  refine r_aload_n (i := 0) i_N_gap_0 rfl rfl ?_
  refine r_getf (ci := 0) (T := Fk0) (k := 4) o_N_gap i_N_gap_1 x_N_29 rfl (by decide) rfl (by repeat (first | assumption | exact upw_s | refine (upw_n (by omega)).trans ?_)) (by first | assumption | omega) (by rfl) ?_
  refine r_iload_n (i := 1) i_N_gap_4 rfl rfl ?_
  refine f_virtual o_N_gap k_S_ruleRefusal v_S_ruleRefusal x_N_104 i_N_gap_5 o_S_ruleRefusal (c_S_ruleRefusal cS) rfl (rcv_ob (by repeat (first | assumption | exact upw_s | refine (upw_n (by omega)).trans ?_)) rfl (by first | assumption | omega)) rfl (by decide) (Nat.le_of_ble_eq_true rfl) ?_
  refine r_istore_2 i_N_gap_8 (by rw [l_N_gap]; decide) rfl ?_
  refine r_iload_n (i := 2) i_N_gap_9 rfl rfl ?_
  refine r_if_ne 27 i_N_gap_10 (by decide) (fun h10 => ?_) (fun h10 => ?_)
  · skip
    rw [if_neg h10]
    refine r_aload_n (i := 0) i_N_gap_27 rfl rfl ?_
    refine r_iload_n (i := 2) i_N_gap_28 rfl rfl ?_
    refine m_virtual o_N_gap k_N_refuseBelow v_N_refuseBelow x_N_212 i_N_gap_29 o_N_refuseBelow (c_N_refuseBelow hC) rfl (rcv_ob (by repeat (first | assumption | exact upw_s | refine (upw_n (by omega)).trans ?_)) rfl (by first | assumption | omega)) rfl (by decide) (Nat.le_of_ble_eq_true rfl) (Nat.zero_le _) (Nat.zero_le _) (fun rr29 wr29 nr29 hp9 => ?_)
    obtain ⟨rfl, hp9, rfl⟩ := hp9
    refine r_ireturn i_N_gap_32 t_N_gap rfl ?_
    first | exact ⟨rfl, hp9, rfl⟩ | exact ⟨rfl, ⟨hC, cFr.rfl⟩, rfl⟩
  · skip
    rw [if_pos h10]
    refine r_aload_n (i := 0) i_N_gap_13 rfl rfl ?_
    refine m_virtual o_N_gap k_N_best v_N_best x_N_260 i_N_gap_14 o_N_best (c_N_best hC hQ) rfl (rcv_ob (by repeat (first | assumption | exact upw_s | refine (upw_n (by omega)).trans ?_)) rfl (by first | assumption | omega)) rfl (by decide) (Nat.le_of_ble_eq_true rfl) (Nat.zero_le _) (Nat.zero_le _) (fun r1 w2 n1 hp9 => ?_)
    obtain ⟨rfl, ⟨hC2, hF2⟩, rfl⟩ := hp9
    obtain ⟨D2, L2, fa2, K2, Z2, hX2⟩ := id hC2
    obtain ⟨d0, dT, dK, dD, dS, dR, dW, dE, dF, dn⟩ := id hX2
    refine r_aload_n (i := 0) i_N_gap_17 rfl rfl ?_
    refine r_iload_n (i := 1) i_N_gap_18 rfl rfl ?_
    refine r_iconst (v := (0 : Int32)) i_N_gap_19 rfl ?_
    refine m_virtual o_N_gap k_N_tellByShelf v_N_tellByShelf x_N_238 i_N_gap_20 o_N_tellByShelf (c_N_tellByShelf hC2 hQ h10) rfl (rcv_ob (by repeat (first | assumption | exact upw_s | refine (upw_n (by omega)).trans ?_)) rfl (by first | assumption | omega)) rfl (by decide) (Nat.le_of_ble_eq_true rfl) (Nat.zero_le _) (Nat.zero_le _) (fun r1 w3 n1 hp9 => ?_)
    obtain ⟨rfl, ⟨hC3, hF3⟩, rfl⟩ := hp9
    have hp9 : CW w3 Q n1 ∧ cFr w w3 := ⟨hC3, fun j hj => (hF3 j hj).trans (hF2 j hj)⟩
    refine r_isub i_N_gap_23 ?_
    refine r_goto 32 i_N_gap_24 (by decide) ?_
    refine r_ireturn i_N_gap_32 t_N_gap rfl ?_
    first | exact ⟨rfl, hp9, rfl⟩ | exact ⟨rfl, ⟨hC, cFr.rfl⟩, rfl⟩
def m_fewest (Q : aQ) : Int32 × aQ := (fewB Q.1 (nB Q) (nP Q), Q)
theorem c_N_fewest (hC : CW w Q n) (hQ : QOk Q) : Cm G 6 y_N_fewest [.ref 0] w n (m_fewest Q) := by
  obtain ⟨D, L, fa, K, Z, hX⟩ := id hC
  obtain ⟨c0, cT, cK, cD, cS, cR, cW, cE, cF, cn⟩ := id hX
  have oT := cT.1
  have oK := cK.1
  have oD := cD.1
  have oS := cS.1
  have oR := cR.1
  have oW := cW.1
  have oE := cE.1
  obtain ⟨P, B, hP, hP7, hB, hB7, hPI⟩ := id hQ.1
  refine Cm.of k_N_fewest l_N_fewest rfl rfl ?_
  unfold m_fewest
  rw [nP_eq hP hP7, nB_eq hB hB7]
  refine r_aload_n (i := 0) i_N_fewest_0 rfl rfl ?_
  refine r_getf (ci := 0) (T := Fk0) (k := 7) o_N_fewest i_N_fewest_1 x_N_50 rfl (by decide) rfl (by repeat (first | assumption | exact upw_s | refine (upw_n (by omega)).trans ?_)) (by first | assumption | omega) (by rfl) ?_
  refine r_aload_n (i := 0) i_N_fewest_4 rfl rfl ?_
  refine r_getf (ci := 0) (T := Fk0) (k := 0) o_N_fewest i_N_fewest_5 x_N_10 rfl (by decide) rfl (by repeat (first | assumption | exact upw_s | refine (upw_n (by omega)).trans ?_)) (by first | assumption | omega) (by rfl) ?_
  refine m_virtual o_N_fewest k_E_fewestBits v_E_fewestBits x_N_263 i_N_fewest_8 o_E_fewestBits (c_E_fewestBits cE cT (by omega) hP hP7 hB hB7) rfl (rcv_ob (by repeat (first | assumption | exact upw_s | refine (upw_n (by omega)).trans ?_)) rfl (by first | assumption | omega)) rfl (by decide) (Nat.le_of_ble_eq_true rfl) (Nat.zero_le _) (Nat.zero_le _) (fun r1 w2 n1 hp9 => ?_)
  obtain ⟨rfl, ⟨⟨Z', hE2⟩, hF2⟩, rfl⟩ := hp9
  refine r_ireturn i_N_fewest_11 t_N_fewest rfl ?_
  exact ⟨rfl, ⟨(hX.srch hE2 hF2).cw, fun j hj => hF2 j (by omega)⟩, rfl⟩
def m_free (Q : aQ) : Int32 × aQ := (hvF Q.1 (gainN Q.1) (2 ^ nB Q), Q)
theorem c_N_free (hC : CW w Q n) (hQ : QOk Q) : Cm G 5 y_N_free [.ref 0] w n (m_free Q) := by
  obtain ⟨D, L, fa, K, Z, hX⟩ := id hC
  obtain ⟨c0, cT, cK, cD, cS, cR, cW, cE, cF, cn⟩ := id hX
  have oT := cT.1
  have oK := cK.1
  have oD := cD.1
  have oS := cS.1
  have oR := cR.1
  have oW := cW.1
  have oE := cE.1
  obtain ⟨P, B, hP, hP7, hB, hB7, hPI⟩ := id hQ.1
  refine Cm.of k_N_free l_N_free rfl rfl ?_
  unfold m_free
  rw [nB_eq hB hB7]
  refine r_aload_n (i := 0) i_N_free_0 rfl rfl ?_
  refine r_getf (ci := 0) (T := Fk0) (k := 7) o_N_free i_N_free_1 x_N_50 rfl (by decide) rfl (by repeat (first | assumption | exact upw_s | refine (upw_n (by omega)).trans ?_)) (by first | assumption | omega) (by rfl) ?_
  refine r_aload_n (i := 0) i_N_free_4 rfl rfl ?_
  refine r_getf (ci := 0) (T := Fk0) (k := 0) o_N_free i_N_free_5 x_N_10 rfl (by decide) rfl (by repeat (first | assumption | exact upw_s | refine (upw_n (by omega)).trans ?_)) (by first | assumption | omega) (by rfl) ?_
  refine m_virtual o_N_free k_E_greatestGains v_E_greatestGains x_N_280 i_N_free_8 o_E_greatestGains (c_E_greatestGains cE cT (by omega) hB hB7) rfl (rcv_ob (by repeat (first | assumption | exact upw_s | refine (upw_n (by omega)).trans ?_)) rfl (by first | assumption | omega)) rfl (by decide) (Nat.le_of_ble_eq_true rfl) (Nat.zero_le _) (Nat.zero_le _) (fun r1 w2 n1 hp9 => ?_)
  obtain ⟨rfl, ⟨⟨Z', hE2⟩, hF2⟩, rfl⟩ := hp9
  refine r_ireturn i_N_free_11 t_N_free rfl ?_
  exact ⟨rfl, ⟨(hX.srch hE2 hF2).cw, fun j hj => hF2 j (by omega)⟩, rfl⟩
def m_harm (Q : aQ) (i : Int32) : Int32 × aQ := if lt0 i (Q.1.1 0) = true then (harmV Q.1 i.toNatClampNeg (nB Q), Q) else rfz Q (-2)
theorem c_N_harm {i : Int32} (hC : CW w Q n) (hQ : QOk Q) : Cm G 5 y_N_harm [.ref 0, .int i] w n (m_harm Q i) := by
  obtain ⟨D, L, fa, K, Z, hX⟩ := id hC
  obtain ⟨c0, cT, cK, cD, cS, cR, cW, cE, cF, cn⟩ := id hX
  have oT := cT.1
  have oK := cK.1
  have oD := cD.1
  have oS := cS.1
  have oR := cR.1
  have oW := cW.1
  have oE := cE.1
  obtain ⟨P, B, hP, hP7, hB, hB7, hPI⟩ := id hQ.1
  refine Cm.of k_N_harm l_N_harm rfl rfl ?_
  unfold m_harm
  rw [nB_eq hB hB7]
  refine r_aload_n (i := 0) i_N_harm_0 rfl rfl ?_
  refine r_getf (ci := 0) (T := Fk0) (k := 0) o_N_harm i_N_harm_1 x_N_10 rfl (by decide) rfl (by repeat (first | assumption | exact upw_s | refine (upw_n (by omega)).trans ?_)) (by first | assumption | omega) (by rfl) ?_
  refine r_iload_n (i := 1) i_N_harm_4 rfl rfl ?_
  refine f_virtual o_N_harm k_T_hasPerson v_T_hasPerson x_N_131 i_N_harm_5 o_T_hasPerson (c_T_hasPerson cT) rfl (rcv_ob (by repeat (first | assumption | exact upw_s | refine (upw_n (by omega)).trans ?_)) rfl (by first | assumption | omega)) rfl (by decide) (Nat.le_of_ble_eq_true rfl) ?_
  refine r_if_eq 26 i_N_harm_8 (by decide) (fun h8 => ?_) (fun h8 => ?_)
  · skip
    have h8 := bI_eq0.mp h8
    try rw [h8]
    refine r_aload_n (i := 0) i_N_harm_26 rfl rfl ?_
    refine r_bipush (v := (-2 : Int32)) i_N_harm_27 (by decide) ?_
    refine m_virtual o_N_harm k_N_refuse v_N_refuse x_N_66 i_N_harm_29 o_N_refuse (c_N_refuse hC) rfl (rcv_ob (by repeat (first | assumption | exact upw_s | refine (upw_n (by omega)).trans ?_)) rfl (by first | assumption | omega)) rfl (by decide) (Nat.le_of_ble_eq_true rfl) (Nat.zero_le _) (Nat.zero_le _) (fun rr29 wr29 nr29 hp9 => ?_)
    obtain ⟨rfl, hp9, rfl⟩ := hp9
    refine r_ireturn i_N_harm_32 t_N_harm rfl ?_
    first | exact ⟨rfl, hp9, rfl⟩ | exact ⟨rfl, ⟨hC, cFr.rfl⟩, rfl⟩
  · skip
    have h8 := bI_ne0.mp h8
    try rw [h8]
    refine r_aload_n (i := 0) i_N_harm_11 rfl rfl ?_
    refine r_getf (ci := 0) (T := Fk0) (k := 7) o_N_harm i_N_harm_12 x_N_50 rfl (by decide) rfl (by repeat (first | assumption | exact upw_s | refine (upw_n (by omega)).trans ?_)) (by first | assumption | omega) (by rfl) ?_
    refine r_aload_n (i := 0) i_N_harm_15 rfl rfl ?_
    refine r_getf (ci := 0) (T := Fk0) (k := 0) o_N_harm i_N_harm_16 x_N_10 rfl (by decide) rfl (by repeat (first | assumption | exact upw_s | refine (upw_n (by omega)).trans ?_)) (by first | assumption | omega) (by rfl) ?_
    refine r_iload_n (i := 1) i_N_harm_19 rfl rfl ?_
    rw [hP] at h8
    obtain ⟨i, hi, rfl⟩ := lt0_of (by omega) h8
    rw [nI_clamp (by omega)]
    refine m_virtual o_N_harm k_E_greatestHarm v_E_greatestHarm x_N_292 i_N_harm_20 o_E_greatestHarm (c_E_greatestHarm cE cT (by omega) hB hB7 (by omega)) rfl (rcv_ob (by repeat (first | assumption | exact upw_s | refine (upw_n (by omega)).trans ?_)) rfl (by first | assumption | omega)) rfl (by decide) (Nat.le_of_ble_eq_true rfl) (Nat.zero_le _) (Nat.zero_le _) (fun r1 w2 n1 hp9 => ?_)
    obtain ⟨rfl, ⟨⟨Z', hE2⟩, hF2⟩, rfl⟩ := hp9
    have hp9 : CW w2 Q n1 ∧ cFr w w2 := ⟨(hX.srch hE2 hF2).cw, fun j hj => hF2 j (by omega)⟩
    refine r_goto 32 i_N_harm_23 (by decide) ?_
    refine r_ireturn i_N_harm_32 t_N_harm rfl ?_
    first | exact ⟨rfl, hp9, rfl⟩ | exact ⟨rfl, ⟨hC, cFr.rfl⟩, rfl⟩
def m_under (Q : aQ) (v : Int32) : Int32 × aQ := if wi0 v 1 99 = true then (bestV (upS Q.1 2 v) (nB Q) (nP Q) (allW (nP Q)), Q) else rfz Q (-2)
theorem c_N_under {v : Int32} (hC : CW w Q n) (hQ : QOk Q) : Cm G 6 y_N_under [.ref 0, .int v] w n (m_under Q v) := by
  obtain ⟨D, L, fa, K, Z, hX⟩ := id hC
  obtain ⟨c0, cT, cK, cD, cS, cR, cW, cE, cF, cn⟩ := id hX
  have oT := cT.1
  have oK := cK.1
  have oD := cD.1
  have oS := cS.1
  have oR := cR.1
  have oW := cW.1
  have oE := cE.1
  obtain ⟨P, B, hP, hP7, hB, hB7, hPI⟩ := id hQ.1
  refine Cm.of k_N_under l_N_under rfl rfl ?_
  unfold m_under
  rw [nP_eq hP hP7, nB_eq hB hB7]
  have e9 : (1 : Int32) <<< ((upS Q.1 2 v).1 0 &&& 31) - 1 = allW P := by show (1 : Int32) <<< (Q.1.1 0 &&& 31) - 1 = allW P; rw [hP]; rfl
  refine r_iload_n (i := 1) i_N_under_0 rfl rfl ?_
  refine r_iconst (v := (1 : Int32)) i_N_under_1 rfl ?_
  refine r_bipush (v := (99 : Int32)) i_N_under_2 (by decide) ?_
  refine f_static o_N_under k_N_isWithin s_N_isWithin x_N_62 i_N_under_4 (c_N_isWithin) rfl rfl (by decide) (Nat.le_of_ble_eq_true rfl) ?_
  refine r_if_ne 17 i_N_under_7 (by decide) (fun h7 => ?_) (fun h7 => ?_)
  · skip
    have h7 := bI_ne0.mp h7
    try rw [h7]
    refine r_aload_n (i := 0) i_N_under_17 rfl rfl ?_
    refine r_getf (ci := 0) (T := Fk0) (k := 2) o_N_under i_N_under_18 x_N_19 rfl (by decide) rfl (by repeat (first | assumption | exact upw_s | refine (upw_n (by omega)).trans ?_)) (by first | assumption | omega) (by rfl) ?_
    refine r_aload_n (i := 0) i_N_under_21 rfl rfl ?_
    refine r_getf (ci := 0) (T := Fk0) (k := 0) o_N_under i_N_under_22 x_N_10 rfl (by decide) rfl (by repeat (first | assumption | exact upw_s | refine (upw_n (by omega)).trans ?_)) (by first | assumption | omega) (by rfl) ?_
    refine m_virtual o_N_under k_T_become v_T_become x_N_181 i_N_under_25 o_T_become (c_T_become cD cT (by omega)) rfl (rcv_ob (by repeat (first | assumption | exact upw_s | refine (upw_n (by omega)).trans ?_)) rfl (by first | assumption | omega)) rfl (by decide) (Nat.le_of_ble_eq_true rfl) (Nat.zero_le _) (Nat.zero_le _) (fun r1 w2 n1 hp9 => ?_)
    obtain ⟨rfl, ⟨hT2, hF2⟩, rfl⟩ := hp9
    have hX2 := hX.draft hT2 hF2
    obtain ⟨d0, dT, dK, dD, dS, dR, dW, dE, dF, dn⟩ := id hX2
    obtain ⟨g0, g1, g2, g3, g4, g5, g6, g7, g8, hn⟩ := id dD
    refine r_aload_n (i := 0) i_N_under_28 rfl rfl ?_
    refine r_getf (ci := 0) (T := Fk0) (k := 2) o_N_under i_N_under_29 x_N_19 rfl (by decide) rfl (by repeat (first | assumption | exact upw_s | refine (upw_n (by omega)).trans ?_)) (by first | assumption | omega) (by rfl) ?_
    refine r_iload_n (i := 1) i_N_under_32 rfl rfl ?_
    refine r_putfN (ci := 1) (T := Fk1) (k := 2) o_N_under i_N_under_33 x_N_318 rfl (by decide) rfl rfl (ok1 2 (by decide)) rfl (by repeat (first | assumption | exact upw_s | refine (upw_n (by omega)).trans ?_)) (by first | assumption | omega) (by exact Nat.le_of_ble_eq_true rfl) ?_
    have hD3 : TW (upw w2 19 (.inr (1, tob 19 (upS Q.1 2 v)))) 19 (upS Q.1 2 v) n1 := ⟨upw_s, (by repeat (first | assumption | exact upw_s | refine (upw_n (by omega)).trans ?_)), (by repeat (first | assumption | exact upw_s | refine (upw_n (by omega)).trans ?_)), (by repeat (first | assumption | exact upw_s | refine (upw_n (by omega)).trans ?_)), (by repeat (first | assumption | exact upw_s | refine (upw_n (by omega)).trans ?_)), (by repeat (first | assumption | exact upw_s | refine (upw_n (by omega)).trans ?_)), (by repeat (first | assumption | exact upw_s | refine (upw_n (by omega)).trans ?_)), (by repeat (first | assumption | exact upw_s | refine (upw_n (by omega)).trans ?_)), (by repeat (first | assumption | exact upw_s | refine (upw_n (by omega)).trans ?_)), hn⟩
    have hE3 : EW (upw w2 19 (.inr (1, tob 19 (upS Q.1 2 v)))) 37 Z n1 := dE.fr (fun j q1 q2 => upw_n (by omega))
    have uD := hD3.1
    have uE := hE3.1
    have u0 : upw w2 19 (.inr (1, tob 19 (upS Q.1 2 v))) 0 = _ := (upw_n (by omega)).trans d0
    have hX3 : CX (upw w2 19 (.inr (1, tob 19 (upS Q.1 2 v)))) Q (upS Q.1 2 v) L fa K Z n1 := hX2.draft hD3 (fun j hj => upw_n (by omega))
    change Go G 6 y_N_under 36 _ _ (upw w2 19 (.inr (1, tob 19 (upS Q.1 2 v)))) _ _ _ _
    have hFF : cFr w (upw w2 19 (.inr (1, tob 19 (upS Q.1 2 v)))) := fun j hj => (upw_n (by omega)).trans (hF2 j (by omega))
    generalize upw w2 19 (.inr (1, tob 19 (upS Q.1 2 v))) = w3 at *
    refine r_aload_n (i := 0) i_N_under_36 rfl rfl ?_
    refine r_getf (ci := 0) (T := Fk0) (k := 7) o_N_under i_N_under_37 x_N_50 rfl (by decide) rfl (by repeat (first | assumption | exact upw_s | refine (upw_n (by omega)).trans ?_)) (by first | assumption | omega) (by rfl) ?_
    refine r_aload_n (i := 0) i_N_under_40 rfl rfl ?_
    refine r_getf (ci := 0) (T := Fk0) (k := 2) o_N_under i_N_under_41 x_N_19 rfl (by decide) rfl (by repeat (first | assumption | exact upw_s | refine (upw_n (by omega)).trans ?_)) (by first | assumption | omega) (by rfl) ?_
    refine r_aload_n (i := 0) i_N_under_44 rfl rfl ?_
    refine r_getf (ci := 0) (T := Fk0) (k := 2) o_N_under i_N_under_45 x_N_19 rfl (by decide) rfl (by repeat (first | assumption | exact upw_s | refine (upw_n (by omega)).trans ?_)) (by first | assumption | omega) (by rfl) ?_
    refine f_virtual o_N_under k_T_everybody v_T_everybody x_N_251 i_N_under_48 o_T_everybody (c_T_everybody hD3) rfl (rcv_ob (by repeat (first | assumption | exact upw_s | refine (upw_n (by omega)).trans ?_)) rfl (by first | assumption | omega)) rfl (by decide) (Nat.le_of_ble_eq_true rfl) ?_
    rw [e9]
    refine m_virtual o_N_under k_E_bestValue v_E_bestValue x_N_254 i_N_under_51 o_E_bestValue (c_E_bestValue hE3 hD3 (by omega) hP hP7 hB hB7) rfl (rcv_ob (by repeat (first | assumption | exact upw_s | refine (upw_n (by omega)).trans ?_)) rfl (by first | assumption | omega)) rfl (by decide) (Nat.le_of_ble_eq_true rfl) (Nat.zero_le _) (Nat.zero_le _) (fun r1 w4 n1 hp9 => ?_)
    obtain ⟨rfl, ⟨⟨Z', hE4⟩, hF4⟩, rfl⟩ := hp9
    have hp9 : CW w4 Q n1 ∧ cFr w w4 := ⟨(hX3.srch hE4 hF4).cw, fun j hj => (hF4 j (by omega)).trans (hFF j hj)⟩
    refine r_ireturn i_N_under_54 t_N_under rfl ?_
    first | exact ⟨rfl, hp9, rfl⟩ | exact ⟨rfl, ⟨hC, cFr.rfl⟩, rfl⟩
  · skip
    have h7 := bI_eq0.mp h7
    try rw [h7]
    refine r_aload_n (i := 0) i_N_under_10 rfl rfl ?_
    refine r_bipush (v := (-2 : Int32)) i_N_under_11 (by decide) ?_
    refine m_virtual o_N_under k_N_refuse v_N_refuse x_N_66 i_N_under_13 o_N_refuse (c_N_refuse hC) rfl (rcv_ob (by repeat (first | assumption | exact upw_s | refine (upw_n (by omega)).trans ?_)) rfl (by first | assumption | omega)) rfl (by decide) (Nat.le_of_ble_eq_true rfl) (Nat.zero_le _) (Nat.zero_le _) (fun rr13 wr13 nr13 hp9 => ?_)
    obtain ⟨rfl, hp9, rfl⟩ := hp9
    refine r_ireturn i_N_under_16 t_N_under rfl ?_
    first | exact ⟨rfl, hp9, rfl⟩ | exact ⟨rfl, ⟨hC, cFr.rfl⟩, rfl⟩
end PUBB
