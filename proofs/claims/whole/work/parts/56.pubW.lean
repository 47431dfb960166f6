-- THE CLASS: WEEKS
theorem mt_post {G : gE} {d z : Nat} {args : List Value} {w : aW} {n cc cs : Nat} {post post' : Option Value → aW → Nat → Prop} (h : Mt G d z args w n cc cs post) (hp : ∀ r w' n', post r w' n' → post' r w' n') : Mt G d z args w n cc cs post' := by
  intro p e a1 a2 a3 s m args' below h1 h2 h3 h4
  obtain ⟨k, o, q1, q2, q3, ⟨⟨⟨r, w', n', e1, e2, e3⟩, q5⟩, q6⟩⟩ := h p e a1 a2 a3 s m args' below h1 h2 h3 h4
  exact ⟨k, o, q1, q2, q3, ⟨⟨⟨r, w', n', e1, hp _ _ _ e2, e3⟩, q5⟩, q6⟩⟩
section PUBX
variable {G : gE} {w : aW} {n : Nat} {Q : aQ}
def m_name (Q : aQ) (s b x : Int32) : Int32 × aQ := if (lt0 s 8 && lt0 b (Q.1.1 1) && lt0 x ((1 : Int32) <<< (Q.1.1 0 &&& 31))) = true then (if ruleR Q.2.2.2.1 s = 0 then (tbs Q s b.toNatClampNeg x, Q) else rfz Q (ruleR Q.2.2.2.1 s)) else rfz Q (-2)
theorem c_N_name {s b x : Int32} (hC : CW w Q n) (hQ : QOk Q) : Cm G 6 y_N_name [.ref 0, .int s, .int b, .int x] w n (m_name Q s b x) := by
  obtain ⟨D, L, fa, K, Z, hX⟩ := id hC
  obtain ⟨c0, cT, cK, cD, cS, cR, cW, cE, cF, cn⟩ := id hX
  have oT := cT.1
  have oK := cK.1
  have oD := cD.1
  have oS := cS.1
  have oR := cR.1
  have oW := cW.1
  have oE := cE.1
  obtain ⟨P, B, hP, hP7, hB, hB7, -⟩ := id hQ.1
  refine Cm.of k_N_name l_N_name rfl rfl ?_
  unfold m_name
  refine r_iload_n (i := 1) i_N_name_0 rfl rfl ?_
  refine r_bipush (v := (8 : Int32)) i_N_name_1 (by decide) ?_
  refine f_static o_N_name k_N_isBelow s_N_isBelow x_N_58 i_N_name_3 (c_N_isBelow) rfl rfl (by decide) (Nat.le_of_ble_eq_true rfl) ?_
  refine r_if_eq 36 i_N_name_6 (by decide) (fun h6 => ?_) (fun h6 => ?_)
  · skip
    have h6 := bI_eq0.mp h6
    try rw [h6]
    refine r_aload_n (i := 0) i_N_name_36 rfl rfl ?_
    refine r_bipush (v := (-2 : Int32)) i_N_name_37 (by decide) ?_
    refine m_virtual o_N_name k_N_refuse v_N_refuse x_N_66 i_N_name_39 o_N_refuse (c_N_refuse hC) rfl (rcv_ob (by repeat (first | assumption | exact upw_s | refine (upw_n (by omega)).trans ?_)) rfl (by first | assumption | omega)) rfl (by decide) (Nat.le_of_ble_eq_true rfl) (Nat.zero_le _) (Nat.zero_le _) (fun rr39 wr39 nr39 hp9 => ?_)
    obtain ⟨rfl, hp9, rfl⟩ := hp9
    refine r_ireturn i_N_name_42 t_N_name rfl ?_
    first | exact ⟨rfl, hp9, rfl⟩ | exact ⟨rfl, ⟨hC, cFr.rfl⟩, rfl⟩
  · skip
    have h6 := bI_ne0.mp h6
    try rw [h6]
    refine r_aload_n (i := 0) i_N_name_9 rfl rfl ?_
    refine r_getf (ci := 0) (T := Fk0) (k := 0) o_N_name i_N_name_10 x_N_10 rfl (by decide) rfl (by repeat (first | assumption | exact upw_s | refine (upw_n (by omega)).trans ?_)) (by first | assumption | omega) (by rfl) ?_
    refine r_iload_n (i := 2) i_N_name_13 rfl rfl ?_
    refine f_virtual o_N_name k_T_hasBargain v_T_hasBargain x_N_189 i_N_name_14 o_T_hasBargain (c_T_hasBargain cT) rfl (rcv_ob (by repeat (first | assumption | exact upw_s | refine (upw_n (by omega)).trans ?_)) rfl (by first | assumption | omega)) rfl (by decide) (Nat.le_of_ble_eq_true rfl) ?_
    refine r_if_eq 36 i_N_name_17 (by decide) (fun h17 => ?_) (fun h17 => ?_)
    · skip
      have h17 := bI_eq0.mp h17
      try rw [h17]
      refine r_aload_n (i := 0) i_N_name_36 rfl rfl ?_
      refine r_bipush (v := (-2 : Int32)) i_N_name_37 (by decide) ?_
      refine m_virtual o_N_name k_N_refuse v_N_refuse x_N_66 i_N_name_39 o_N_refuse (c_N_refuse hC) rfl (rcv_ob (by repeat (first | assumption | exact upw_s | refine (upw_n (by omega)).trans ?_)) rfl (by first | assumption | omega)) rfl (by decide) (Nat.le_of_ble_eq_true rfl) (Nat.zero_le _) (Nat.zero_le _) (fun rr39 wr39 nr39 hp9 => ?_)
      obtain ⟨rfl, hp9, rfl⟩ := hp9
      refine r_ireturn i_N_name_42 t_N_name rfl ?_
      first | exact ⟨rfl, hp9, rfl⟩ | exact ⟨rfl, ⟨hC, cFr.rfl⟩, rfl⟩
    · skip
      have h17 := bI_ne0.mp h17
      try rw [h17]
      refine r_iload_n (i := 3) i_N_name_20 rfl rfl ?_
      refine r_iconst (v := (1 : Int32)) i_N_name_21 rfl ?_
      refine r_aload_n (i := 0) i_N_name_22 rfl rfl ?_
      refine r_getf (ci := 0) (T := Fk0) (k := 0) o_N_name i_N_name_23 x_N_10 rfl (by decide) rfl (by repeat (first | assumption | exact upw_s | refine (upw_n (by omega)).trans ?_)) (by first | assumption | omega) (by rfl) ?_
      refine r_getfN (ci := 1) (T := Fk1) (k := 0) o_N_name i_N_name_26 x_N_124 rfl (by decide) rfl (by repeat (first | assumption | exact upw_s | refine (upw_n (by omega)).trans ?_)) (by first | assumption | omega) (by rfl) ?_
      refine r_ishl i_N_name_29 ?_
      refine f_static o_N_name k_N_isBelow s_N_isBelow x_N_58 i_N_name_30 (c_N_isBelow) rfl rfl (by decide) (Nat.le_of_ble_eq_true rfl) ?_
      refine r_if_ne 43 i_N_name_33 (by decide) (fun h33 => ?_) (fun h33 => ?_)
      · skip
        have h33 := bI_ne0.mp h33
        try rw [h33]
        rw [hB] at h17
        obtain ⟨b, hb, rfl⟩ := lt0_of (by omega) h17
        rw [nI_clamp (by omega), if_pos (show (true && true && true) = true from rfl)]
        refine r_aload_n (i := 0) i_N_name_43 rfl rfl ?_
        refine r_getf (ci := 0) (T := Fk0) (k := 4) o_N_name i_N_name_44 x_N_29 rfl (by decide) rfl (by repeat (first | assumption | exact upw_s | refine (upw_n (by omega)).trans ?_)) (by first | assumption | omega) (by rfl) ?_
        refine r_iload_n (i := 1) i_N_name_47 rfl rfl ?_
        refine f_virtual o_N_name k_S_ruleRefusal v_S_ruleRefusal x_N_104 i_N_name_48 o_S_ruleRefusal (c_S_ruleRefusal cS) rfl (rcv_ob (by repeat (first | assumption | exact upw_s | refine (upw_n (by omega)).trans ?_)) rfl (by first | assumption | omega)) rfl (by decide) (Nat.le_of_ble_eq_true rfl) ?_
        refine r_istore_4 i_N_name_51 (by rw [l_N_name]; decide) rfl ?_
        refine r_iload (i := 4) i_N_name_53 rfl ?_
        refine r_if_ne 68 i_N_name_55 (by decide) (fun h55 => ?_) (fun h55 => ?_)
        · skip
          rw [if_neg h55]
          refine r_aload_n (i := 0) i_N_name_68 rfl rfl ?_
          refine r_iload (i := 4) i_N_name_69 rfl ?_
          refine m_virtual o_N_name k_N_refuse v_N_refuse x_N_66 i_N_name_71 o_N_refuse (c_N_refuse hC) rfl (rcv_ob (by repeat (first | assumption | exact upw_s | refine (upw_n (by omega)).trans ?_)) rfl (by first | assumption | omega)) rfl (by decide) (Nat.le_of_ble_eq_true rfl) (Nat.zero_le _) (Nat.zero_le _) (fun rr71 wr71 nr71 hp9 => ?_)
          obtain ⟨rfl, hp9, rfl⟩ := hp9
          refine r_ireturn i_N_name_74 t_N_name rfl ?_
          first | exact ⟨rfl, hp9, rfl⟩ | exact ⟨rfl, ⟨hC, cFr.rfl⟩, rfl⟩
        · skip
          rw [if_pos h55]
          refine r_aload_n (i := 0) i_N_name_58 rfl rfl ?_
          refine r_iload_n (i := 1) i_N_name_59 rfl rfl ?_
          refine r_iload_n (i := 2) i_N_name_60 rfl rfl ?_
          refine r_iload_n (i := 3) i_N_name_61 rfl rfl ?_
          refine m_virtual o_N_name k_N_thirdByShelf v_N_thirdByShelf x_N_120 i_N_name_62 o_N_thirdByShelf (c_N_thirdByShelf hC hQ h55 (by omega)) rfl (rcv_ob (by repeat (first | assumption | exact upw_s | refine (upw_n (by omega)).trans ?_)) rfl (by first | assumption | omega)) rfl (by decide) (Nat.le_of_ble_eq_true rfl) (Nat.zero_le _) (Nat.zero_le _) (fun r1 w2 n1 hp9 => ?_)
          obtain ⟨rfl, hp9, rfl⟩ := hp9
          refine r_goto 74 i_N_name_65 (by decide) ?_
          refine r_ireturn i_N_name_74 t_N_name rfl ?_
          first | exact ⟨rfl, hp9, rfl⟩ | exact ⟨rfl, ⟨hC, cFr.rfl⟩, rfl⟩
      · skip
        have h33 := bI_eq0.mp h33
        try rw [h33]
        refine r_aload_n (i := 0) i_N_name_36 rfl rfl ?_
        refine r_bipush (v := (-2 : Int32)) i_N_name_37 (by decide) ?_
        refine m_virtual o_N_name k_N_refuse v_N_refuse x_N_66 i_N_name_39 o_N_refuse (c_N_refuse hC) rfl (rcv_ob (by repeat (first | assumption | exact upw_s | refine (upw_n (by omega)).trans ?_)) rfl (by first | assumption | omega)) rfl (by decide) (Nat.le_of_ble_eq_true rfl) (Nat.zero_le _) (Nat.zero_le _) (fun rr39 wr39 nr39 hp9 => ?_)
        obtain ⟨rfl, hp9, rfl⟩ := hp9
        refine r_ireturn i_N_name_42 t_N_name rfl ?_
        first | exact ⟨rfl, hp9, rfl⟩ | exact ⟨rfl, ⟨hC, cFr.rfl⟩, rfl⟩
def m_judge (Q : aQ) (s : Int32) : Int32 × aQ := if tldR Q s = 0 then ((tldW Q s).2, Q) else rfz Q (tldR Q s)
theorem c_fillTold {s : Int32} {D : aS} {L : aL} {fa : Int32} {K : aK} {Z : aZ} (hX : CX w Q D L fa K Z n) (hQ : QOk Q) (h : tldR Q s = 0) : Mt G 5 y_W_fillTold [.ref 35, .ref 1, .ref 28, .int s] w n 0 0 (fun r w' n' => r = some (.int (tldW Q s).2) ∧ (∃ K' : aK, CX w' Q D L fa K' Z n ∧ wE K' (tldW Q s).1 ∧ WOk K' (nP Q) ∧ cFr w w') ∧ n' = n) := by
  obtain ⟨c0, cT, cK, cD, cS, cR, cW, cE, cF, cn⟩ := id hX
  obtain ⟨P, B, hP, hP7, hB, hB7, -⟩ := id hQ.1
  obtain ⟨k, m, hk, rfl, e, hm⟩ := tldR_0 hQ h
  have h9 := c_W_fillTold (G := G) (P := P) (B := B) cW cT (by omega) cS (by omega) hk e hm hP hP7 hB hB7
  have hE := ftold_E (S := Q.1) (P := P) (row := fun b => elemI Q.2.2.2.1 k (nI b)) (X := K) (Y := K0) B hB7
  have hW : tldW Q (nI k) = ftold Q.1 P (fun b => elemI Q.2.2.2.1 k (nI b)) K0 B := by
    unfold tldW
    rw [nP_eq hP hP7, nB_eq hB hB7, nI_clamp (by omega)]
  rw [hW, nP_eq hP hP7]
  refine mt_post h9 (fun r w' n' hp => ?_)
  obtain ⟨rfl, ⟨hW2, hF2⟩, rfl⟩ := hp
  exact ⟨by rw [hE.2], ⟨_, hX.week hW2 hF2, hE.1, ftold_ok hP7 B hB7, fun j hj => hF2 j (by omega)⟩, rfl⟩
theorem c_N_judge {s : Int32} (hC : CW w Q n) (hQ : QOk Q) : Cm G 6 y_N_judge [.ref 0, .int s] w n (m_judge Q s) := by
  obtain ⟨D, L, fa, K, Z, hX⟩ := id hC
  obtain ⟨c0, cT, cK, cD, cS, cR, cW, cE, cF, cn⟩ := id hX
  have oT := cT.1
  have oK := cK.1
  have oD := cD.1
  have oS := cS.1
  have oR := cR.1
  have oW := cW.1
  have oE := cE.1
  refine Cm.of k_N_judge l_N_judge rfl rfl ?_
  unfold m_judge
  refine r_aload_n (i := 0) i_N_judge_0 rfl rfl ?_
  refine r_iload_n (i := 1) i_N_judge_1 rfl rfl ?_
  refine f_virtual o_N_judge k_N_toldRefusal v_N_toldRefusal x_N_227 i_N_judge_2 o_N_toldRefusal (c_N_toldRefusal hC) rfl (rcv_ob (by repeat (first | assumption | exact upw_s | refine (upw_n (by omega)).trans ?_)) rfl (by first | assumption | omega)) rfl (by decide) (Nat.le_of_ble_eq_true rfl) ?_
  refine r_istore_2 i_N_judge_5 (by rw [l_N_judge]; decide) rfl ?_
  refine r_iload_n (i := 2) i_N_judge_6 rfl rfl ?_
  refine r_if_ne 29 i_N_judge_7 (by decide) (fun h7 => ?_) (fun h7 => ?_)
  · skip
    rw [if_neg h7]
    refine r_aload_n (i := 0) i_N_judge_29 rfl rfl ?_
    refine r_iload_n (i := 2) i_N_judge_30 rfl rfl ?_
    refine m_virtual o_N_judge k_N_refuse v_N_refuse x_N_66 i_N_judge_31 o_N_refuse (c_N_refuse hC) rfl (rcv_ob (by repeat (first | assumption | exact upw_s | refine (upw_n (by omega)).trans ?_)) rfl (by first | assumption | omega)) rfl (by decide) (Nat.le_of_ble_eq_true rfl) (Nat.zero_le _) (Nat.zero_le _) (fun rr31 wr31 nr31 hp9 => ?_)
    obtain ⟨rfl, hp9, rfl⟩ := hp9
    refine r_ireturn i_N_judge_34 t_N_judge rfl ?_
    first | exact ⟨rfl, hp9, rfl⟩ | exact ⟨rfl, ⟨hC, cFr.rfl⟩, rfl⟩
  · skip
    rw [if_pos h7]
    refine r_aload_n (i := 0) i_N_judge_10 rfl rfl ?_
    refine r_getf (ci := 0) (T := Fk0) (k := 6) o_N_judge i_N_judge_11 x_N_43 rfl (by decide) rfl (by repeat (first | assumption | exact upw_s | refine (upw_n (by omega)).trans ?_)) (by first | assumption | omega) (by rfl) ?_
    refine r_aload_n (i := 0) i_N_judge_14 rfl rfl ?_
    refine r_getf (ci := 0) (T := Fk0) (k := 0) o_N_judge i_N_judge_15 x_N_10 rfl (by decide) rfl (by repeat (first | assumption | exact upw_s | refine (upw_n (by omega)).trans ?_)) (by first | assumption | omega) (by rfl) ?_
    refine r_aload_n (i := 0) i_N_judge_18 rfl rfl ?_
    refine r_getf (ci := 0) (T := Fk0) (k := 4) o_N_judge i_N_judge_19 x_N_29 rfl (by decide) rfl (by repeat (first | assumption | exact upw_s | refine (upw_n (by omega)).trans ?_)) (by first | assumption | omega) (by rfl) ?_
    refine r_iload_n (i := 1) i_N_judge_22 rfl rfl ?_
    refine m_virtual o_N_judge k_W_fillTold v_W_fillTold x_N_230 i_N_judge_23 o_W_fillTold (c_fillTold hX hQ h7) rfl (rcv_ob (by repeat (first | assumption | exact upw_s | refine (upw_n (by omega)).trans ?_)) rfl (by first | assumption | omega)) rfl (by decide) (Nat.le_of_ble_eq_true rfl) (Nat.zero_le _) (Nat.zero_le _) (fun r1 w2 n1 hp9 => ?_)
    obtain ⟨rfl, ⟨K', hX2, hE2, hO2, hF2⟩, rfl⟩ := hp9
    have hp9 : CW w2 Q n1 ∧ cFr w w2 := ⟨hX2.cw, hF2⟩
    refine r_goto 34 i_N_judge_26 (by decide) ?_
    refine r_ireturn i_N_judge_34 t_N_judge rfl ?_
    first | exact ⟨rfl, hp9, rfl⟩ | exact ⟨rfl, ⟨hC, cFr.rfl⟩, rfl⟩
def r_told (Q : aQ) (s q : Int32) : Int32 := if lt0 q 3 = true then tldR Q s else -2
def fin_told (Q : aQ) (s r : Int32) : Int32 := if r = 0 then (if (tldW Q s).2 = -1 then 0 else -5) else r
def m_told (Q : aQ) (s q : Int32) : Int32 × aQ := if fin_told Q s (r_told Q s q) = 0 then (tellN Q.1 (tldW Q s).1 (nB Q) q, Q) else rfb Q (fin_told Q s (r_told Q s q))
theorem c_N_told {s q : Int32} (hC : CW w Q n) (hQ : QOk Q) : Cm G 6 y_N_told [.ref 0, .int s, .int q] w n (m_told Q s q) := by
  obtain ⟨D, L, fa, K, Z, hX⟩ := id hC
  obtain ⟨c0, cT, cK, cD, cS, cR, cW, cE, cF, cn⟩ := id hX
  have oT := cT.1
  have oK := cK.1
  have oD := cD.1
  have oS := cS.1
  have oR := cR.1
  have oW := cW.1
  have oE := cE.1
  obtain ⟨P, B, hP, hP7, hB, hB7, -⟩ := id hQ.1
  refine Cm.of k_N_told l_N_told rfl rfl ?_
  unfold m_told
  have bad : ∀ r w2, ¬ r = 0 → CW w2 Q n → cFr w w2 → Go G 6 y_N_told 46 [some (.ref 0), some (.int s), some (.int q), some (.int r)] [] w2 n 0 0 (fun r' w' n' => r' = some (.int (-1000000 + r)) ∧ (CW w' (rfQ Q r) n ∧ cFr w w') ∧ n' = n) := by
    intro r w2 hr hC hF2
    obtain ⟨D, L, fa, K, Z, hX⟩ := id hC
    obtain ⟨c0, cT, cK, cD, cS, cR, cW, cE, cF, cn⟩ := id hX
    have oT := cT.1
    have oK := cK.1
    have oD := cD.1
    have oS := cS.1
    have oR := cR.1
    have oW := cW.1
    have oE := cE.1
    refine r_iload_n (i := 3) i_N_told_46 rfl rfl ?_
    refine r_if_ne 65 i_N_told_47 (by decide) (fun h47 => ?_) (fun h47 => (absurd h47 hr))
    refine r_aload_n (i := 0) i_N_told_65 rfl rfl ?_
    refine r_iload_n (i := 3) i_N_told_66 rfl rfl ?_
    refine m_virtual o_N_told k_N_refuseBelow v_N_refuseBelow x_N_212 i_N_told_67 o_N_refuseBelow (c_N_refuseBelow hC) rfl (rcv_ob (by repeat (first | assumption | exact upw_s | refine (upw_n (by omega)).trans ?_)) rfl (by first | assumption | omega)) rfl (by decide) (Nat.le_of_ble_eq_true rfl) (Nat.zero_le _) (Nat.zero_le _) (fun rr67 wr67 nr67 hp9 => ?_)
    obtain ⟨rfl, hp9, rfl⟩ := hp9
    refine r_ireturn i_N_told_70 t_N_told rfl ?_
    exact ⟨rfl, ⟨hp9.1, fun j hj => (hp9.2 j hj).trans (hF2 j hj)⟩, rfl⟩
  have good : ∀ w2 K', CX w2 Q D L fa K' Z n → wE K' (tldW Q s).1 → WOk K' (nP Q) → cFr w w2 → Go G 6 y_N_told 46 [some (.ref 0), some (.int s), some (.int q), some (.int 0)] [] w2 n 0 0 (fun r' w' n' => r' = some (.int (tellN Q.1 (tldW Q s).1 (nB Q) q)) ∧ (CW w' Q n ∧ cFr w w') ∧ n' = n) := by
    intro w2 K' hX2 hE2 hO2 hF2
    obtain ⟨c0, cT, cK, cD, cS, cR, cW, cE, cF, cn⟩ := id hX2
    have oT := cT.1
    have oW := cW.1
    rw [nB_eq hB hB7, ← tellN_E hE2 hB7]
    rw [nP_eq hP hP7] at hO2
    refine r_iload_n (i := 3) i_N_told_46 rfl rfl ?_
    refine r_if_ne 65 i_N_told_47 (by decide) (fun h47 => (absurd rfl h47)) (fun h47 => ?_)
    refine r_aload_n (i := 0) i_N_told_50 rfl rfl ?_
    refine r_getf (ci := 0) (T := Fk0) (k := 6) o_N_told i_N_told_51 x_N_43 rfl (by decide) rfl (by repeat (first | assumption | exact upw_s | refine (upw_n (by omega)).trans ?_)) (by first | assumption | omega) (by rfl) ?_
    refine r_aload_n (i := 0) i_N_told_54 rfl rfl ?_
    refine r_getf (ci := 0) (T := Fk0) (k := 0) o_N_told i_N_told_55 x_N_10 rfl (by decide) rfl (by repeat (first | assumption | exact upw_s | refine (upw_n (by omega)).trans ?_)) (by first | assumption | omega) (by rfl) ?_
    refine r_iload_n (i := 2) i_N_told_58 rfl rfl ?_
    refine f_virtual o_N_told k_W_tell v_W_tell x_N_234 i_N_told_59 o_W_tell (c_W_tell cW cT hB hB7 hP7 hO2) rfl (rcv_ob (by repeat (first | assumption | exact upw_s | refine (upw_n (by omega)).trans ?_)) rfl (by first | assumption | omega)) rfl (by decide) (Nat.le_of_ble_eq_true rfl) ?_
    refine r_goto 70 i_N_told_62 (by decide) ?_
    refine r_ireturn i_N_told_70 t_N_told rfl ?_
    exact ⟨rfl, ⟨hX2.cw, hF2⟩, rfl⟩
  have key : ∀ r, r = r_told Q s q → Go G 6 y_N_told 19 [some (.ref 0), some (.int s), some (.int q), some (.int r)] [] w n 0 0 (fun r' w' n' => r' = some (.int (if fin_told Q s r = 0 then (tellN Q.1 (tldW Q s).1 (nB Q) q, Q) else rfb Q (fin_told Q s r)).1) ∧ (CW w' (if fin_told Q s r = 0 then (tellN Q.1 (tldW Q s).1 (nB Q) q, Q) else rfb Q (fin_told Q s r)).2 n ∧ cFr w w') ∧ n' = n) := by
    intro r hr
    unfold fin_told
    refine r_iload_n (i := 3) i_N_told_19 rfl rfl ?_
    refine r_if_ne 46 i_N_told_20 (by decide) (fun h20 => ?_) (fun h20 => ?_)
    · skip
      rw [if_neg h20, if_neg h20]
      first | exact good _ _ hX2 hE2 hO2 hF2 | exact bad _ _ h20 hC cFr.rfl | exact bad _ _ (by decide) hX2.cw hF2
    · skip
      have h0 : tldR Q s = 0 := by
        rw [h20] at hr
        unfold r_told at hr
        split at hr
        · exact hr.symm
        · exact absurd hr (by decide)
      subst h20
      rw [if_pos rfl]
      refine r_aload_n (i := 0) i_N_told_23 rfl rfl ?_
      refine r_getf (ci := 0) (T := Fk0) (k := 6) o_N_told i_N_told_24 x_N_43 rfl (by decide) rfl (by repeat (first | assumption | exact upw_s | refine (upw_n (by omega)).trans ?_)) (by first | assumption | omega) (by rfl) ?_
      refine r_aload_n (i := 0) i_N_told_27 rfl rfl ?_
      refine r_getf (ci := 0) (T := Fk0) (k := 0) o_N_told i_N_told_28 x_N_10 rfl (by decide) rfl (by repeat (first | assumption | exact upw_s | refine (upw_n (by omega)).trans ?_)) (by first | assumption | omega) (by rfl) ?_
      refine r_aload_n (i := 0) i_N_told_31 rfl rfl ?_
      refine r_getf (ci := 0) (T := Fk0) (k := 4) o_N_told i_N_told_32 x_N_29 rfl (by decide) rfl (by repeat (first | assumption | exact upw_s | refine (upw_n (by omega)).trans ?_)) (by first | assumption | omega) (by rfl) ?_
      refine r_iload_n (i := 1) i_N_told_35 rfl rfl ?_
      refine m_virtual o_N_told k_W_fillTold v_W_fillTold x_N_230 i_N_told_36 o_W_fillTold (c_fillTold hX hQ h0) rfl (rcv_ob (by repeat (first | assumption | exact upw_s | refine (upw_n (by omega)).trans ?_)) rfl (by first | assumption | omega)) rfl (by decide) (Nat.le_of_ble_eq_true rfl) (Nat.zero_le _) (Nat.zero_le _) (fun r1 w2 n1 hp9 => ?_)
      obtain ⟨rfl, ⟨K', hX2, hE2, hO2, hF2⟩, rfl⟩ := hp9
      refine r_iconst (v := (-1 : Int32)) i_N_told_39 rfl ?_
      refine r_icmp_eq 46 i_N_told_40 (by decide) (fun h40 => ?_) (fun h40 => ?_)
      · skip
        rw [if_pos h40, if_pos rfl]
        first | exact good _ _ hX2 hE2 hO2 hF2 | exact bad _ _ h20 hC cFr.rfl | exact bad _ _ (by decide) hX2.cw hF2
      · skip
        rw [if_neg h40, if_neg (by decide)]
        refine r_bipush (v := (-5 : Int32)) i_N_told_43 (by decide) ?_
        refine r_istore_3 i_N_told_45 (by rw [l_N_told]; decide) rfl ?_
        first | exact good _ _ hX2 hE2 hO2 hF2 | exact bad _ _ h20 hC cFr.rfl | exact bad _ _ (by decide) hX2.cw hF2
  refine r_iload_n (i := 2) i_N_told_0 rfl rfl ?_
  refine r_iconst (v := (3 : Int32)) i_N_told_1 rfl ?_
  refine f_static o_N_told k_N_isBelow s_N_isBelow x_N_58 i_N_told_2 (c_N_isBelow) rfl rfl (by decide) (Nat.le_of_ble_eq_true rfl) ?_
  refine r_if_eq 16 i_N_told_5 (by decide) (fun h5 => ?_) (fun h5 => ?_)
  · skip
    have h5 := bI_eq0.mp h5
    try rw [h5]
    have e9 : r_told Q s q = -2 := if_neg (by rw [h5]; decide)
    refine r_bipush (v := (-2 : Int32)) i_N_told_16 (by decide) ?_
    refine r_istore_3 i_N_told_18 (by rw [l_N_told]; decide) rfl ?_
    rw [e9]
    exact key _ e9.symm
  · skip
    have h5 := bI_ne0.mp h5
    try rw [h5]
    have e9 : r_told Q s q = tldR Q s := if_pos h5
    refine r_aload_n (i := 0) i_N_told_8 rfl rfl ?_
    refine r_iload_n (i := 1) i_N_told_9 rfl rfl ?_
    refine f_virtual o_N_told k_N_toldRefusal v_N_toldRefusal x_N_227 i_N_told_10 o_N_toldRefusal (c_N_toldRefusal hC) rfl (rcv_ob (by repeat (first | assumption | exact upw_s | refine (upw_n (by omega)).trans ?_)) rfl (by first | assumption | omega)) rfl (by decide) (Nat.le_of_ble_eq_true rfl) ?_
    refine r_goto 18 i_N_told_13 (by decide) ?_
    refine r_istore_3 i_N_told_18 (by rw [l_N_told]; decide) rfl ?_
    rw [e9]
    exact key _ e9.symm
end PUBX
