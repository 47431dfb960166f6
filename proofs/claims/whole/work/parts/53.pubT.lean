-- THE CLASS: THE TOWN
section PUBT
variable {G : gE} {w : aW} {n : Nat} {Q : aQ}
def m_one (Q : aQ) : Int32 × aQ := if Q.1.1 0 < 7 then (Q.1.1 0 + 1 - 1, qT Q (upS Q.1 0 (Q.1.1 0 + 1))) else rfz Q (-6)
theorem c_N_one (hC : CW w Q n) : Cm G 5 y_N_one [.ref 0] w n (m_one Q) := by
  obtain ⟨D, L, fa, K, Z, hX⟩ := id hC
  obtain ⟨c0, cT, cK, cD, cS, cR, cW, cE, cF, cn⟩ := id hX
  have oT := cT.1
  have oK := cK.1
  have oD := cD.1
  have oS := cS.1
  have oR := cR.1
  have oW := cW.1
  have oE := cE.1
  refine Cm.of k_N_one l_N_one rfl rfl ?_
  unfold m_one
  refine r_aload_n (i := 0) i_N_one_0 rfl rfl ?_
  refine r_getf (ci := 0) (T := Fk0) (k := 0) o_N_one i_N_one_1 x_N_10 rfl (by decide) rfl (by repeat (first | assumption | exact upw_s | refine (upw_n (by omega)).trans ?_)) (by first | assumption | omega) (by rfl) ?_
  refine r_getfN (ci := 1) (T := Fk1) (k := 0) o_N_one i_N_one_4 x_N_124 rfl (by decide) rfl (by repeat (first | assumption | exact upw_s | refine (upw_n (by omega)).trans ?_)) (by first | assumption | omega) (by rfl) ?_
  refine r_bipush (v := (7 : Int32)) i_N_one_7 (by decide) ?_
  refine r_icmp_lt 21 i_N_one_9 (by decide) (fun h9 => ?_) (fun h9 => ?_)
  · skip
    rw [if_pos h9]
    refine r_aload_n (i := 0) i_N_one_21 rfl rfl ?_
    refine r_getf (ci := 0) (T := Fk0) (k := 0) o_N_one i_N_one_22 x_N_10 rfl (by decide) rfl (by repeat (first | assumption | exact upw_s | refine (upw_n (by omega)).trans ?_)) (by first | assumption | omega) (by rfl) ?_
    refine m_virtual o_N_one k_T_addPerson v_T_addPerson x_N_127 i_N_one_25 o_T_addPerson (c_T_addPerson cT) rfl (rcv_ob (by repeat (first | assumption | exact upw_s | refine (upw_n (by omega)).trans ?_)) rfl (by first | assumption | omega)) rfl (by decide) (Nat.le_of_ble_eq_true rfl) (Nat.zero_le _) (Nat.zero_le _) (fun r1 w2 n1 hp9 => ?_)
    obtain ⟨rfl, ⟨hT2, hF2⟩, rfl⟩ := hp9
    have hp9 : CW w2 (qT Q _) n1 ∧ cFr w w2 := ⟨(hX.now hT2 hF2).cw, fun j hj => hF2 j (by omega)⟩
    refine r_ireturn i_N_one_28 t_N_one rfl ?_
    first | exact ⟨rfl, hp9, rfl⟩ | exact ⟨rfl, ⟨hC, cFr.rfl⟩, rfl⟩
  · skip
    rw [if_neg h9]
    refine r_aload_n (i := 0) i_N_one_12 rfl rfl ?_
    refine r_bipush (v := (-6 : Int32)) i_N_one_13 (by decide) ?_
    refine m_virtual o_N_one k_N_refuse v_N_refuse x_N_66 i_N_one_15 o_N_refuse (c_N_refuse hC) rfl (rcv_ob (by repeat (first | assumption | exact upw_s | refine (upw_n (by omega)).trans ?_)) rfl (by first | assumption | omega)) rfl (by decide) (Nat.le_of_ble_eq_true rfl) (Nat.zero_le _) (Nat.zero_le _) (fun rr15 wr15 nr15 hp9 => ?_)
    obtain ⟨rfl, hp9, rfl⟩ := hp9
    refine r_goto 28 i_N_one_18 (by decide) ?_
    refine r_ireturn i_N_one_28 t_N_one rfl ?_
    first | exact ⟨rfl, hp9, rfl⟩ | exact ⟨rfl, ⟨hC, cFr.rfl⟩, rfl⟩
def m_bargain (Q : aQ) (p q g h : Int32) : Int32 × aQ := if (lt0 p (Q.1.1 0) && lt0 q (Q.1.1 0) && !decide (p = q) && wi0 g 0 99 && wi0 h 0 99) = true then (if Q.1.1 1 < 7 then (Q.1.1 1, qT Q (addB Q.1 (Q.1.1 1).toNatClampNeg p q g h)) else rfz Q (-6)) else rfz Q (-2)
theorem c_N_bargain {p q g h : Int32} (hC : CW w Q n) (hQ : QOk Q) : Cm G 5 y_N_bargain [.ref 0, .int p, .int q, .int g, .int h] w n (m_bargain Q p q g h) := by
  obtain ⟨D, L, fa, K, Z, hX⟩ := id hC
  obtain ⟨c0, cT, cK, cD, cS, cR, cW, cE, cF, cn⟩ := id hX
  have oT := cT.1
  have oK := cK.1
  have oD := cD.1
  have oS := cS.1
  have oR := cR.1
  have oW := cW.1
  have oE := cE.1
  obtain ⟨P, B, hP, hP7, hB, hB7, -⟩ := hQ.1
  refine Cm.of k_N_bargain l_N_bargain rfl rfl ?_
  unfold m_bargain
  refine r_aload_n (i := 0) i_N_bargain_0 rfl rfl ?_
  refine r_getf (ci := 0) (T := Fk0) (k := 0) o_N_bargain i_N_bargain_1 x_N_10 rfl (by decide) rfl (by repeat (first | assumption | exact upw_s | refine (upw_n (by omega)).trans ?_)) (by first | assumption | omega) (by rfl) ?_
  refine r_iload_n (i := 1) i_N_bargain_4 rfl rfl ?_
  refine f_virtual o_N_bargain k_T_hasPerson v_T_hasPerson x_N_131 i_N_bargain_5 o_T_hasPerson (c_T_hasPerson cT) rfl (rcv_ob (by repeat (first | assumption | exact upw_s | refine (upw_n (by omega)).trans ?_)) rfl (by first | assumption | omega)) rfl (by decide) (Nat.le_of_ble_eq_true rfl) ?_
  refine r_if_eq 48 i_N_bargain_8 (by decide) (fun h8 => ?_) (fun h8 => ?_)
  · skip
    have h8 := bI_eq0.mp h8
    try rw [h8]
    refine r_aload_n (i := 0) i_N_bargain_48 rfl rfl ?_
    refine r_bipush (v := (-2 : Int32)) i_N_bargain_49 (by decide) ?_
    refine m_virtual o_N_bargain k_N_refuse v_N_refuse x_N_66 i_N_bargain_51 o_N_refuse (c_N_refuse hC) rfl (rcv_ob (by repeat (first | assumption | exact upw_s | refine (upw_n (by omega)).trans ?_)) rfl (by first | assumption | omega)) rfl (by decide) (Nat.le_of_ble_eq_true rfl) (Nat.zero_le _) (Nat.zero_le _) (fun rr51 wr51 nr51 hp9 => ?_)
    obtain ⟨rfl, hp9, rfl⟩ := hp9
    refine r_ireturn i_N_bargain_54 t_N_bargain rfl ?_
    first | exact ⟨rfl, hp9, rfl⟩ | exact ⟨by rw [← hB], hp9, rfl⟩
  · skip
    have h8 := bI_ne0.mp h8
    try rw [h8]
    refine r_aload_n (i := 0) i_N_bargain_11 rfl rfl ?_
    refine r_getf (ci := 0) (T := Fk0) (k := 0) o_N_bargain i_N_bargain_12 x_N_10 rfl (by decide) rfl (by repeat (first | assumption | exact upw_s | refine (upw_n (by omega)).trans ?_)) (by first | assumption | omega) (by rfl) ?_
    refine r_iload_n (i := 2) i_N_bargain_15 rfl rfl ?_
    refine f_virtual o_N_bargain k_T_hasPerson v_T_hasPerson x_N_131 i_N_bargain_16 o_T_hasPerson (c_T_hasPerson cT) rfl (rcv_ob (by repeat (first | assumption | exact upw_s | refine (upw_n (by omega)).trans ?_)) rfl (by first | assumption | omega)) rfl (by decide) (Nat.le_of_ble_eq_true rfl) ?_
    refine r_if_eq 48 i_N_bargain_19 (by decide) (fun h19 => ?_) (fun h19 => ?_)
    · skip
      have h19 := bI_eq0.mp h19
      try rw [h19]
      refine r_aload_n (i := 0) i_N_bargain_48 rfl rfl ?_
      refine r_bipush (v := (-2 : Int32)) i_N_bargain_49 (by decide) ?_
      refine m_virtual o_N_bargain k_N_refuse v_N_refuse x_N_66 i_N_bargain_51 o_N_refuse (c_N_refuse hC) rfl (rcv_ob (by repeat (first | assumption | exact upw_s | refine (upw_n (by omega)).trans ?_)) rfl (by first | assumption | omega)) rfl (by decide) (Nat.le_of_ble_eq_true rfl) (Nat.zero_le _) (Nat.zero_le _) (fun rr51 wr51 nr51 hp9 => ?_)
      obtain ⟨rfl, hp9, rfl⟩ := hp9
      refine r_ireturn i_N_bargain_54 t_N_bargain rfl ?_
      first | exact ⟨rfl, hp9, rfl⟩ | exact ⟨by rw [← hB], hp9, rfl⟩
    · skip
      have h19 := bI_ne0.mp h19
      try rw [h19]
      refine r_iload_n (i := 1) i_N_bargain_22 rfl rfl ?_
      refine r_iload_n (i := 2) i_N_bargain_23 rfl rfl ?_
      refine r_icmp_eq 48 i_N_bargain_24 (by decide) (fun h24 => ?_) (fun h24 => ?_)
      · skip
        rw [decide_eq_true h24]
        refine r_aload_n (i := 0) i_N_bargain_48 rfl rfl ?_
        refine r_bipush (v := (-2 : Int32)) i_N_bargain_49 (by decide) ?_
        refine m_virtual o_N_bargain k_N_refuse v_N_refuse x_N_66 i_N_bargain_51 o_N_refuse (c_N_refuse hC) rfl (rcv_ob (by repeat (first | assumption | exact upw_s | refine (upw_n (by omega)).trans ?_)) rfl (by first | assumption | omega)) rfl (by decide) (Nat.le_of_ble_eq_true rfl) (Nat.zero_le _) (Nat.zero_le _) (fun rr51 wr51 nr51 hp9 => ?_)
        obtain ⟨rfl, hp9, rfl⟩ := hp9
        refine r_ireturn i_N_bargain_54 t_N_bargain rfl ?_
        first | exact ⟨rfl, hp9, rfl⟩ | exact ⟨by rw [← hB], hp9, rfl⟩
      · skip
        rw [decide_eq_false h24]
        refine r_iload_n (i := 3) i_N_bargain_27 rfl rfl ?_
        refine r_iconst (v := (0 : Int32)) i_N_bargain_28 rfl ?_
        refine r_bipush (v := (99 : Int32)) i_N_bargain_29 (by decide) ?_
        refine f_static o_N_bargain k_N_isWithin s_N_isWithin x_N_62 i_N_bargain_31 (c_N_isWithin) rfl rfl (by decide) (Nat.le_of_ble_eq_true rfl) ?_
        refine r_if_eq 48 i_N_bargain_34 (by decide) (fun h34 => ?_) (fun h34 => ?_)
        · skip
          have h34 := bI_eq0.mp h34
          try rw [h34]
          refine r_aload_n (i := 0) i_N_bargain_48 rfl rfl ?_
          refine r_bipush (v := (-2 : Int32)) i_N_bargain_49 (by decide) ?_
          refine m_virtual o_N_bargain k_N_refuse v_N_refuse x_N_66 i_N_bargain_51 o_N_refuse (c_N_refuse hC) rfl (rcv_ob (by repeat (first | assumption | exact upw_s | refine (upw_n (by omega)).trans ?_)) rfl (by first | assumption | omega)) rfl (by decide) (Nat.le_of_ble_eq_true rfl) (Nat.zero_le _) (Nat.zero_le _) (fun rr51 wr51 nr51 hp9 => ?_)
          obtain ⟨rfl, hp9, rfl⟩ := hp9
          refine r_ireturn i_N_bargain_54 t_N_bargain rfl ?_
          first | exact ⟨rfl, hp9, rfl⟩ | exact ⟨by rw [← hB], hp9, rfl⟩
        · skip
          have h34 := bI_ne0.mp h34
          try rw [h34]
          refine r_iload (i := 4) i_N_bargain_37 rfl ?_
          refine r_iconst (v := (0 : Int32)) i_N_bargain_39 rfl ?_
          refine r_bipush (v := (99 : Int32)) i_N_bargain_40 (by decide) ?_
          refine f_static o_N_bargain k_N_isWithin s_N_isWithin x_N_62 i_N_bargain_42 (c_N_isWithin) rfl rfl (by decide) (Nat.le_of_ble_eq_true rfl) ?_
          refine r_if_ne 55 i_N_bargain_45 (by decide) (fun h45 => ?_) (fun h45 => ?_)
          · skip
            have h45 := bI_ne0.mp h45
            try rw [h45]
            refine r_aload_n (i := 0) i_N_bargain_55 rfl rfl ?_
            refine r_getf (ci := 0) (T := Fk0) (k := 0) o_N_bargain i_N_bargain_56 x_N_10 rfl (by decide) rfl (by repeat (first | assumption | exact upw_s | refine (upw_n (by omega)).trans ?_)) (by first | assumption | omega) (by rfl) ?_
            refine r_getfN (ci := 1) (T := Fk1) (k := 1) o_N_bargain i_N_bargain_59 x_N_113 rfl (by decide) rfl (by repeat (first | assumption | exact upw_s | refine (upw_n (by omega)).trans ?_)) (by first | assumption | omega) (by rfl) ?_
            refine r_bipush (v := (7 : Int32)) i_N_bargain_62 (by decide) ?_
            refine r_icmp_lt 76 i_N_bargain_64 (by decide) (fun h64 => ?_) (fun h64 => ?_)
            · skip
              have e9 : (if (true && true && !false && true && true) = true then (if Q.1.1 1 < 7 then (Q.1.1 1, qT Q (addB Q.1 (Q.1.1 1).toNatClampNeg p q g h)) else rfz Q (-6)) else rfz Q (-2)) = (Q.1.1 1, qT Q (addB Q.1 (Q.1.1 1).toNatClampNeg p q g h)) := by rw [if_pos (show (true && true && !false && true && true) = true from rfl), if_pos h64]
              rw [e9]
              have hB8 : B < 7 := by
                rcases Nat.lt_or_ge B 7 with r | r
                · exact r
                · exact absurd h64 (by rw [hB]; exact nI_nlt (b := 7) r (by omega))
              have e8 : (Q.1.1 1).toNatClampNeg = B := by show (Q.1.1 1).toNatClampNeg = B; rw [hB, nI_clamp (by omega)]
              rw [e8]
              refine r_aload_n (i := 0) i_N_bargain_76 rfl rfl ?_
              refine r_getf (ci := 0) (T := Fk0) (k := 0) o_N_bargain i_N_bargain_77 x_N_10 rfl (by decide) rfl (by repeat (first | assumption | exact upw_s | refine (upw_n (by omega)).trans ?_)) (by first | assumption | omega) (by rfl) ?_
              refine r_iload_n (i := 1) i_N_bargain_80 rfl rfl ?_
              refine r_iload_n (i := 2) i_N_bargain_81 rfl rfl ?_
              refine r_iload_n (i := 3) i_N_bargain_82 rfl rfl ?_
              refine r_iload (i := 4) i_N_bargain_83 rfl ?_
              refine m_virtual o_N_bargain k_T_addBargain v_T_addBargain x_N_135 i_N_bargain_85 o_T_addBargain (c_T_addBargain cT hB hB8) rfl (rcv_ob (by repeat (first | assumption | exact upw_s | refine (upw_n (by omega)).trans ?_)) rfl (by first | assumption | omega)) rfl (by decide) (Nat.le_of_ble_eq_true rfl) (Nat.zero_le _) (Nat.zero_le _) (fun r1 w2 n1 hp9 => ?_)
              obtain ⟨rfl, ⟨hT2, hF2⟩, rfl⟩ := hp9
              have hp9 : CW w2 (qT Q _) n1 ∧ cFr w w2 := ⟨(hX.now hT2 hF2).cw, fun j hj => hF2 j (by omega)⟩
              refine r_ireturn i_N_bargain_88 t_N_bargain rfl ?_
              first | exact ⟨rfl, hp9, rfl⟩ | exact ⟨by rw [← hB], hp9, rfl⟩
            · skip
              have e9 : (if (true && true && !false && true && true) = true then (if Q.1.1 1 < 7 then (Q.1.1 1, qT Q (addB Q.1 (Q.1.1 1).toNatClampNeg p q g h)) else rfz Q (-6)) else rfz Q (-2)) = rfz Q (-6) := by rw [if_pos (show (true && true && !false && true && true) = true from rfl), if_neg h64]
              rw [e9]
              refine r_aload_n (i := 0) i_N_bargain_67 rfl rfl ?_
              refine r_bipush (v := (-6 : Int32)) i_N_bargain_68 (by decide) ?_
              refine m_virtual o_N_bargain k_N_refuse v_N_refuse x_N_66 i_N_bargain_70 o_N_refuse (c_N_refuse hC) rfl (rcv_ob (by repeat (first | assumption | exact upw_s | refine (upw_n (by omega)).trans ?_)) rfl (by first | assumption | omega)) rfl (by decide) (Nat.le_of_ble_eq_true rfl) (Nat.zero_le _) (Nat.zero_le _) (fun rr70 wr70 nr70 hp9 => ?_)
              obtain ⟨rfl, hp9, rfl⟩ := hp9
              refine r_goto 88 i_N_bargain_73 (by decide) ?_
              refine r_ireturn i_N_bargain_88 t_N_bargain rfl ?_
              first | exact ⟨rfl, hp9, rfl⟩ | exact ⟨by rw [← hB], hp9, rfl⟩
          · skip
            have h45 := bI_eq0.mp h45
            try rw [h45]
            refine r_aload_n (i := 0) i_N_bargain_48 rfl rfl ?_
            refine r_bipush (v := (-2 : Int32)) i_N_bargain_49 (by decide) ?_
            refine m_virtual o_N_bargain k_N_refuse v_N_refuse x_N_66 i_N_bargain_51 o_N_refuse (c_N_refuse hC) rfl (rcv_ob (by repeat (first | assumption | exact upw_s | refine (upw_n (by omega)).trans ?_)) rfl (by first | assumption | omega)) rfl (by decide) (Nat.le_of_ble_eq_true rfl) (Nat.zero_le _) (Nat.zero_le _) (fun rr51 wr51 nr51 hp9 => ?_)
            obtain ⟨rfl, hp9, rfl⟩ := hp9
            refine r_ireturn i_N_bargain_54 t_N_bargain rfl ?_
            first | exact ⟨rfl, hp9, rfl⟩ | exact ⟨by rw [← hB], hp9, rfl⟩
def m_hurts (Q : aQ) (b i v : Int32) : Int32 × aQ := if (lt0 b (Q.1.1 1) && lt0 i (Q.1.1 0) && wi0 v (-99) 99) = true then (1, qT Q (putLS Q.1 b i v)) else rfz Q (-2)
theorem c_N_hurts {b i v : Int32} (hC : CW w Q n) (hQ : QOk Q) : Cm G 5 y_N_hurts [.ref 0, .int b, .int i, .int v] w n (m_hurts Q b i v) := by
  obtain ⟨D, L, fa, K, Z, hX⟩ := id hC
  obtain ⟨c0, cT, cK, cD, cS, cR, cW, cE, cF, cn⟩ := id hX
  have oT := cT.1
  have oK := cK.1
  have oD := cD.1
  have oS := cS.1
  have oR := cR.1
  have oW := cW.1
  have oE := cE.1
  obtain ⟨P, B, hP, hP7, hB, hB7, -⟩ := hQ.1
  refine Cm.of k_N_hurts l_N_hurts rfl rfl ?_
  unfold m_hurts
  refine r_aload_n (i := 0) i_N_hurts_0 rfl rfl ?_
  refine r_getf (ci := 0) (T := Fk0) (k := 0) o_N_hurts i_N_hurts_1 x_N_10 rfl (by decide) rfl (by repeat (first | assumption | exact upw_s | refine (upw_n (by omega)).trans ?_)) (by first | assumption | omega) (by rfl) ?_
  refine r_iload_n (i := 1) i_N_hurts_4 rfl rfl ?_
  refine r_iload_n (i := 2) i_N_hurts_5 rfl rfl ?_
  refine f_virtual o_N_hurts k_T_hasPair v_T_hasPair x_N_139 i_N_hurts_6 o_T_hasPair (c_T_hasPair cT) rfl (rcv_ob (by repeat (first | assumption | exact upw_s | refine (upw_n (by omega)).trans ?_)) rfl (by first | assumption | omega)) rfl (by decide) (Nat.le_of_ble_eq_true rfl) ?_
  refine r_if_eq 23 i_N_hurts_9 (by decide) (fun h9 => ?_) (fun h9 => ?_)
  · skip
    have h9 := bI_eq0.mp h9
    try rw [h9]
    refine r_aload_n (i := 0) i_N_hurts_23 rfl rfl ?_
    refine r_bipush (v := (-2 : Int32)) i_N_hurts_24 (by decide) ?_
    refine m_virtual o_N_hurts k_N_refuse v_N_refuse x_N_66 i_N_hurts_26 o_N_refuse (c_N_refuse hC) rfl (rcv_ob (by repeat (first | assumption | exact upw_s | refine (upw_n (by omega)).trans ?_)) rfl (by first | assumption | omega)) rfl (by decide) (Nat.le_of_ble_eq_true rfl) (Nat.zero_le _) (Nat.zero_le _) (fun rr26 wr26 nr26 hp9 => ?_)
    obtain ⟨rfl, hp9, rfl⟩ := hp9
    refine r_ireturn i_N_hurts_29 t_N_hurts rfl ?_
    first | exact ⟨rfl, hp9, rfl⟩ | exact ⟨rfl, ⟨hC, cFr.rfl⟩, rfl⟩
  · skip
    have h9 := bI_ne0.mp h9
    try rw [h9]
    refine r_iload_n (i := 3) i_N_hurts_12 rfl rfl ?_
    refine r_bipush (v := (-99 : Int32)) i_N_hurts_13 (by decide) ?_
    refine r_bipush (v := (99 : Int32)) i_N_hurts_15 (by decide) ?_
    refine f_static o_N_hurts k_N_isWithin s_N_isWithin x_N_62 i_N_hurts_17 (c_N_isWithin) rfl rfl (by decide) (Nat.le_of_ble_eq_true rfl) ?_
    refine r_if_ne 30 i_N_hurts_20 (by decide) (fun h20 => ?_) (fun h20 => ?_)
    · skip
      have h20 := bI_ne0.mp h20
      try rw [h20]
      refine r_aload_n (i := 0) i_N_hurts_30 rfl rfl ?_
      refine r_getf (ci := 0) (T := Fk0) (k := 0) o_N_hurts i_N_hurts_31 x_N_10 rfl (by decide) rfl (by repeat (first | assumption | exact upw_s | refine (upw_n (by omega)).trans ?_)) (by first | assumption | omega) (by rfl) ?_
      refine r_iload_n (i := 1) i_N_hurts_34 rfl rfl ?_
      refine r_iload_n (i := 2) i_N_hurts_35 rfl rfl ?_
      refine r_iload_n (i := 3) i_N_hurts_36 rfl rfl ?_
      rw [Bool.and_eq_true, hB, hP] at h9
      obtain ⟨b, hb, rfl⟩ := lt0_of (by omega) h9.1
      obtain ⟨i, hi, rfl⟩ := lt0_of (by omega) h9.2
      unfold putLS
      rw [nI_clamp (by omega), nI_clamp (by omega)]
      refine m_virtual o_N_hurts k_T_putLoss v_T_putLoss x_N_142 i_N_hurts_37 o_T_putLoss (c_T_putLoss cT (by omega) (by omega)) rfl (rcv_ob (by repeat (first | assumption | exact upw_s | refine (upw_n (by omega)).trans ?_)) rfl (by first | assumption | omega)) rfl (by decide) (Nat.le_of_ble_eq_true rfl) (Nat.zero_le _) (Nat.zero_le _) (fun r1 w2 n1 hp9 => ?_)
      obtain ⟨rfl, ⟨hT2, hF2⟩, rfl⟩ := hp9
      have hp9 : CW w2 (qT Q _) n1 ∧ cFr w w2 := ⟨(hX.now hT2 hF2).cw, fun j hj => hF2 j (by omega)⟩
      refine r_iconst (v := (1 : Int32)) i_N_hurts_40 rfl ?_
      refine r_ireturn i_N_hurts_41 t_N_hurts rfl ?_
      first | exact ⟨rfl, hp9, rfl⟩ | exact ⟨rfl, ⟨hC, cFr.rfl⟩, rfl⟩
    · skip
      have h20 := bI_eq0.mp h20
      try rw [h20]
      refine r_aload_n (i := 0) i_N_hurts_23 rfl rfl ?_
      refine r_bipush (v := (-2 : Int32)) i_N_hurts_24 (by decide) ?_
      refine m_virtual o_N_hurts k_N_refuse v_N_refuse x_N_66 i_N_hurts_26 o_N_refuse (c_N_refuse hC) rfl (rcv_ob (by repeat (first | assumption | exact upw_s | refine (upw_n (by omega)).trans ?_)) rfl (by first | assumption | omega)) rfl (by decide) (Nat.le_of_ble_eq_true rfl) (Nat.zero_le _) (Nat.zero_le _) (fun rr26 wr26 nr26 hp9 => ?_)
      obtain ⟨rfl, hp9, rfl⟩ := hp9
      refine r_ireturn i_N_hurts_29 t_N_hurts rfl ?_
      first | exact ⟨rfl, hp9, rfl⟩ | exact ⟨rfl, ⟨hC, cFr.rfl⟩, rfl⟩
def m_bars (Q : aQ) (b c is : Int32) : Int32 × aQ := if (lt0 b (Q.1.1 1) && lt0 c (Q.1.1 1) && !decide (b = c)) = true then (if bI (hbI (Q.1.2 6 b.toNatClampNeg) c) = is then (0, Q) else (1, qT Q (putB Q.1 b.toNatClampNeg c.toNatClampNeg is))) else rfz Q (-2)
theorem c_N_bars {b c is : Int32} (hC : CW w Q n) (hQ : QOk Q) : Cm G 5 y_N_bars [.ref 0, .int b, .int c, .int is] w n (m_bars Q b c is) := by
  obtain ⟨D, L, fa, K, Z, hX⟩ := id hC
  obtain ⟨c0, cT, cK, cD, cS, cR, cW, cE, cF, cn⟩ := id hX
  have oT := cT.1
  have oK := cK.1
  have oD := cD.1
  have oS := cS.1
  have oR := cR.1
  have oW := cW.1
  have oE := cE.1
  obtain ⟨P, B, hP, hP7, hB, hB7, -⟩ := hQ.1
  refine Cm.of k_N_bars l_N_bars rfl rfl ?_
  unfold m_bars
  refine r_aload_n (i := 0) i_N_bars_0 rfl rfl ?_
  refine r_getf (ci := 0) (T := Fk0) (k := 0) o_N_bars i_N_bars_1 x_N_10 rfl (by decide) rfl (by repeat (first | assumption | exact upw_s | refine (upw_n (by omega)).trans ?_)) (by first | assumption | omega) (by rfl) ?_
  refine r_iload_n (i := 1) i_N_bars_4 rfl rfl ?_
  refine r_iload_n (i := 2) i_N_bars_5 rfl rfl ?_
  refine f_virtual o_N_bars k_T_hasUnlike v_T_hasUnlike x_N_145 i_N_bars_6 o_T_hasUnlike (c_T_hasUnlike cT) rfl (rcv_ob (by repeat (first | assumption | exact upw_s | refine (upw_n (by omega)).trans ?_)) rfl (by first | assumption | omega)) rfl (by decide) (Nat.le_of_ble_eq_true rfl) ?_
  refine r_if_ne 19 i_N_bars_9 (by decide) (fun h9 => ?_) (fun h9 => ?_)
  · skip
    have h9 := bI_ne0.mp h9
    try rw [h9]
    refine r_aload_n (i := 0) i_N_bars_19 rfl rfl ?_
    refine r_getf (ci := 0) (T := Fk0) (k := 0) o_N_bars i_N_bars_20 x_N_10 rfl (by decide) rfl (by repeat (first | assumption | exact upw_s | refine (upw_n (by omega)).trans ?_)) (by first | assumption | omega) (by rfl) ?_
    refine r_iload_n (i := 1) i_N_bars_23 rfl rfl ?_
    have h9' := h9
    rw [Bool.and_eq_true, Bool.and_eq_true, hB] at h9'
    obtain ⟨b, hb, rfl⟩ := lt0_of (by omega) h9'.1.1
    obtain ⟨c, hc, rfl⟩ := lt0_of (by omega) h9'.1.2
    rw [if_pos rfl, nI_clamp (by omega), nI_clamp (by omega)]
    refine f_virtual o_N_bars k_T_barredBy v_T_barredBy x_N_148 i_N_bars_24 o_T_barredBy (c_T_barredBy cT (by omega)) rfl (rcv_ob (by repeat (first | assumption | exact upw_s | refine (upw_n (by omega)).trans ?_)) rfl (by first | assumption | omega)) rfl (by decide) (Nat.le_of_ble_eq_true rfl) ?_
    refine r_iload_n (i := 2) i_N_bars_27 rfl rfl ?_
    refine f_static o_N_bars k_N_hasBit s_N_hasBit x_N_151 i_N_bars_28 (c_N_hasBit) rfl rfl (by decide) (Nat.le_of_ble_eq_true rfl) ?_
    refine r_iload_n (i := 3) i_N_bars_31 rfl rfl ?_
    refine r_icmp_ne 37 i_N_bars_32 (by decide) (fun h32 => ?_) (fun h32 => ?_)
    · skip
      rw [if_neg h32]
      refine r_aload_n (i := 0) i_N_bars_37 rfl rfl ?_
      refine r_getf (ci := 0) (T := Fk0) (k := 0) o_N_bars i_N_bars_38 x_N_10 rfl (by decide) rfl (by repeat (first | assumption | exact upw_s | refine (upw_n (by omega)).trans ?_)) (by first | assumption | omega) (by rfl) ?_
      refine r_iload_n (i := 1) i_N_bars_41 rfl rfl ?_
      refine r_iload_n (i := 2) i_N_bars_42 rfl rfl ?_
      refine r_iload_n (i := 3) i_N_bars_43 rfl rfl ?_
      refine m_virtual o_N_bars k_T_putBar v_T_putBar x_N_154 i_N_bars_44 o_T_putBar (c_T_putBar cT (by omega) (by omega)) rfl (rcv_ob (by repeat (first | assumption | exact upw_s | refine (upw_n (by omega)).trans ?_)) rfl (by first | assumption | omega)) rfl (by decide) (Nat.le_of_ble_eq_true rfl) (Nat.zero_le _) (Nat.zero_le _) (fun r1 w2 n1 hp9 => ?_)
      obtain ⟨rfl, ⟨hT2, hF2⟩, rfl⟩ := hp9
      have hp9 : CW w2 (qT Q _) n1 ∧ cFr w w2 := ⟨(hX.now hT2 hF2).cw, fun j hj => hF2 j (by omega)⟩
      refine r_iconst (v := (1 : Int32)) i_N_bars_47 rfl ?_
      refine r_ireturn i_N_bars_48 t_N_bars rfl ?_
      first | exact ⟨rfl, hp9, rfl⟩ | exact ⟨rfl, ⟨hC, cFr.rfl⟩, rfl⟩
    · skip
      rw [if_pos h32]
      refine r_iconst (v := (0 : Int32)) i_N_bars_35 rfl ?_
      refine r_ireturn i_N_bars_36 t_N_bars rfl ?_
      first | exact ⟨rfl, hp9, rfl⟩ | exact ⟨rfl, ⟨hC, cFr.rfl⟩, rfl⟩
  · skip
    have h9 := bI_eq0.mp h9
    try rw [h9]
    refine r_aload_n (i := 0) i_N_bars_12 rfl rfl ?_
    refine r_bipush (v := (-2 : Int32)) i_N_bars_13 (by decide) ?_
    refine m_virtual o_N_bars k_N_refuse v_N_refuse x_N_66 i_N_bars_15 o_N_refuse (c_N_refuse hC) rfl (rcv_ob (by repeat (first | assumption | exact upw_s | refine (upw_n (by omega)).trans ?_)) rfl (by first | assumption | omega)) rfl (by decide) (Nat.le_of_ble_eq_true rfl) (Nat.zero_le _) (Nat.zero_le _) (fun rr15 wr15 nr15 hp9 => ?_)
    obtain ⟨rfl, hp9, rfl⟩ := hp9
    refine r_ireturn i_N_bars_18 t_N_bars rfl ?_
    first | exact ⟨rfl, hp9, rfl⟩ | exact ⟨rfl, ⟨hC, cFr.rfl⟩, rfl⟩
def m_ask (Q : aQ) (k v : Int32) : Int32 × aQ := if (lt0 k 4 && wi0 v (if k = 0 then 1 else 0) (mostN k.toNatClampNeg)) = true then (Q.1.1 (2 + k.toNatClampNeg), qT Q (upS Q.1 (2 + k.toNatClampNeg) v)) else rfz Q (-2)
theorem c_N_ask {k v : Int32} (hC : CW w Q n) : Cm G 5 y_N_ask [.ref 0, .int k, .int v] w n (m_ask Q k v) := by
  obtain ⟨D, L, fa, K, Z, hX⟩ := id hC
  obtain ⟨c0, cT, cK, cD, cS, cR, cW, cE, cF, cn⟩ := id hX
  have oT := cT.1
  have oK := cK.1
  have oD := cD.1
  have oS := cS.1
  have oR := cR.1
  have oW := cW.1
  have oE := cE.1
  refine Cm.of k_N_ask l_N_ask rfl rfl ?_
  unfold m_ask
  refine r_iload_n (i := 1) i_N_ask_0 rfl rfl ?_
  refine r_iconst (v := (4 : Int32)) i_N_ask_1 rfl ?_
  refine f_static o_N_ask k_N_isBelow s_N_isBelow x_N_58 i_N_ask_2 (c_N_isBelow) rfl rfl (by decide) (Nat.le_of_ble_eq_true rfl) ?_
  refine r_if_eq 23 i_N_ask_5 (by decide) (fun h5 => ?_) (fun h5 => ?_)
  · skip
    have h5 := bI_eq0.mp h5
    try rw [h5]
    refine r_aload_n (i := 0) i_N_ask_23 rfl rfl ?_
    refine r_bipush (v := (-2 : Int32)) i_N_ask_24 (by decide) ?_
    refine m_virtual o_N_ask k_N_refuse v_N_refuse x_N_66 i_N_ask_26 o_N_refuse (c_N_refuse hC) rfl (rcv_ob (by repeat (first | assumption | exact upw_s | refine (upw_n (by omega)).trans ?_)) rfl (by first | assumption | omega)) rfl (by decide) (Nat.le_of_ble_eq_true rfl) (Nat.zero_le _) (Nat.zero_le _) (fun rr26 wr26 nr26 hp9 => ?_)
    obtain ⟨rfl, hp9, rfl⟩ := hp9
    refine r_ireturn i_N_ask_29 t_N_ask rfl ?_
    first | exact ⟨rfl, hp9, rfl⟩ | exact ⟨rfl, ⟨hC, cFr.rfl⟩, rfl⟩
  · skip
    have h5 := bI_ne0.mp h5
    try rw [h5]
    obtain ⟨k, hk, rfl⟩ := lt0_of (N := 4) (by decide) h5
    rw [nI_clamp (by omega)]
    refine r_iload_n (i := 2) i_N_ask_8 rfl rfl ?_
    refine r_iload_n (i := 1) i_N_ask_9 rfl rfl ?_
    refine f_static o_N_ask k_T_leastOfLaw s_T_leastOfLaw x_N_158 i_N_ask_10 (c_T_leastOfLaw) rfl rfl (by decide) (Nat.le_of_ble_eq_true rfl) ?_
    refine r_iload_n (i := 1) i_N_ask_13 rfl rfl ?_
    refine f_static o_N_ask k_T_mostOfLaw s_T_mostOfLaw x_N_161 i_N_ask_14 (c_T_mostOfLaw hk) rfl rfl (by decide) (Nat.le_of_ble_eq_true rfl) ?_
    refine f_static o_N_ask k_N_isWithin s_N_isWithin x_N_62 i_N_ask_17 (c_N_isWithin) rfl rfl (by decide) (Nat.le_of_ble_eq_true rfl) ?_
    refine r_if_ne 30 i_N_ask_20 (by decide) (fun h20 => ?_) (fun h20 => ?_)
    · skip
      have h20 := bI_ne0.mp h20
      try rw [h20]
      refine r_aload_n (i := 0) i_N_ask_30 rfl rfl ?_
      refine r_getf (ci := 0) (T := Fk0) (k := 0) o_N_ask i_N_ask_31 x_N_10 rfl (by decide) rfl (by repeat (first | assumption | exact upw_s | refine (upw_n (by omega)).trans ?_)) (by first | assumption | omega) (by rfl) ?_
      refine r_iload_n (i := 1) i_N_ask_34 rfl rfl ?_
      refine f_virtual o_N_ask k_T_law v_T_law x_N_164 i_N_ask_35 o_T_law (c_T_law hk cT) rfl (rcv_ob (by repeat (first | assumption | exact upw_s | refine (upw_n (by omega)).trans ?_)) rfl (by first | assumption | omega)) rfl (by decide) (Nat.le_of_ble_eq_true rfl) ?_
      refine r_istore_3 i_N_ask_38 (by rw [l_N_ask]; decide) rfl ?_
      refine r_aload_n (i := 0) i_N_ask_39 rfl rfl ?_
      refine r_getf (ci := 0) (T := Fk0) (k := 0) o_N_ask i_N_ask_40 x_N_10 rfl (by decide) rfl (by repeat (first | assumption | exact upw_s | refine (upw_n (by omega)).trans ?_)) (by first | assumption | omega) (by rfl) ?_
      refine r_iload_n (i := 1) i_N_ask_43 rfl rfl ?_
      refine r_iload_n (i := 2) i_N_ask_44 rfl rfl ?_
      refine m_virtual o_N_ask k_T_putLaw v_T_putLaw x_N_167 i_N_ask_45 o_T_putLaw (c_T_putLaw hk cT) rfl (rcv_ob (by repeat (first | assumption | exact upw_s | refine (upw_n (by omega)).trans ?_)) rfl (by first | assumption | omega)) rfl (by decide) (Nat.le_of_ble_eq_true rfl) (Nat.zero_le _) (Nat.zero_le _) (fun r1 w2 n1 hp9 => ?_)
      obtain ⟨rfl, ⟨hT2, hF2⟩, rfl⟩ := hp9
      have hp9 : CW w2 (qT Q _) n1 ∧ cFr w w2 := ⟨(hX.now hT2 hF2).cw, fun j hj => hF2 j (by omega)⟩
      refine r_iload_n (i := 3) i_N_ask_48 rfl rfl ?_
      refine r_ireturn i_N_ask_49 t_N_ask rfl ?_
      first | exact ⟨rfl, hp9, rfl⟩ | exact ⟨rfl, ⟨hC, cFr.rfl⟩, rfl⟩
    · skip
      have h20 := bI_eq0.mp h20
      try rw [h20]
      refine r_aload_n (i := 0) i_N_ask_23 rfl rfl ?_
      refine r_bipush (v := (-2 : Int32)) i_N_ask_24 (by decide) ?_
      refine m_virtual o_N_ask k_N_refuse v_N_refuse x_N_66 i_N_ask_26 o_N_refuse (c_N_refuse hC) rfl (rcv_ob (by repeat (first | assumption | exact upw_s | refine (upw_n (by omega)).trans ?_)) rfl (by first | assumption | omega)) rfl (by decide) (Nat.le_of_ble_eq_true rfl) (Nat.zero_le _) (Nat.zero_le _) (fun rr26 wr26 nr26 hp9 => ?_)
      obtain ⟨rfl, hp9, rfl⟩ := hp9
      refine r_ireturn i_N_ask_29 t_N_ask rfl ?_
      first | exact ⟨rfl, hp9, rfl⟩ | exact ⟨rfl, ⟨hC, cFr.rfl⟩, rfl⟩
def m_lossOf (Q : aQ) (b i : Int32) : Int32 × aQ := if (lt0 b (Q.1.1 1) && lt0 i (Q.1.1 0)) = true then (lossN Q.1 b.toNatClampNeg i.toNatClampNeg, Q) else rfb Q (-2)
theorem c_N_lossOf {b i : Int32} (hC : CW w Q n) (hQ : QOk Q) : Cm G 5 y_N_lossOf [.ref 0, .int b, .int i] w n (m_lossOf Q b i) := by
  obtain ⟨D, L, fa, K, Z, hX⟩ := id hC
  obtain ⟨c0, cT, cK, cD, cS, cR, cW, cE, cF, cn⟩ := id hX
  have oT := cT.1
  have oK := cK.1
  have oD := cD.1
  have oS := cS.1
  have oR := cR.1
  have oW := cW.1
  have oE := cE.1
  obtain ⟨P, B, hP, hP7, hB, hB7, -⟩ := hQ.1
  refine Cm.of k_N_lossOf l_N_lossOf rfl rfl ?_
  unfold m_lossOf
  refine r_aload_n (i := 0) i_N_lossOf_0 rfl rfl ?_
  refine r_getf (ci := 0) (T := Fk0) (k := 0) o_N_lossOf i_N_lossOf_1 x_N_10 rfl (by decide) rfl (by repeat (first | assumption | exact upw_s | refine (upw_n (by omega)).trans ?_)) (by first | assumption | omega) (by rfl) ?_
  refine r_iload_n (i := 1) i_N_lossOf_4 rfl rfl ?_
  refine r_iload_n (i := 2) i_N_lossOf_5 rfl rfl ?_
  refine f_virtual o_N_lossOf k_T_hasPair v_T_hasPair x_N_139 i_N_lossOf_6 o_T_hasPair (c_T_hasPair cT) rfl (rcv_ob (by repeat (first | assumption | exact upw_s | refine (upw_n (by omega)).trans ?_)) rfl (by first | assumption | omega)) rfl (by decide) (Nat.le_of_ble_eq_true rfl) ?_
  refine r_if_eq 24 i_N_lossOf_9 (by decide) (fun h9 => ?_) (fun h9 => ?_)
  · skip
    have h9 := bI_eq0.mp h9
    try rw [h9]
    refine r_aload_n (i := 0) i_N_lossOf_24 rfl rfl ?_
    refine r_bipush (v := (-2 : Int32)) i_N_lossOf_25 (by decide) ?_
    refine m_virtual o_N_lossOf k_N_refuseBelow v_N_refuseBelow x_N_212 i_N_lossOf_27 o_N_refuseBelow (c_N_refuseBelow hC) rfl (rcv_ob (by repeat (first | assumption | exact upw_s | refine (upw_n (by omega)).trans ?_)) rfl (by first | assumption | omega)) rfl (by decide) (Nat.le_of_ble_eq_true rfl) (Nat.zero_le _) (Nat.zero_le _) (fun rr27 wr27 nr27 hp9 => ?_)
    obtain ⟨rfl, hp9, rfl⟩ := hp9
    refine r_ireturn i_N_lossOf_30 t_N_lossOf rfl ?_
    first | exact ⟨rfl, hp9, rfl⟩ | exact ⟨rfl, ⟨hC, cFr.rfl⟩, rfl⟩
  · skip
    have h9 := bI_ne0.mp h9
    try rw [h9]
    refine r_aload_n (i := 0) i_N_lossOf_12 rfl rfl ?_
    refine r_getf (ci := 0) (T := Fk0) (k := 0) o_N_lossOf i_N_lossOf_13 x_N_10 rfl (by decide) rfl (by repeat (first | assumption | exact upw_s | refine (upw_n (by omega)).trans ?_)) (by first | assumption | omega) (by rfl) ?_
    refine r_iload_n (i := 1) i_N_lossOf_16 rfl rfl ?_
    refine r_iload_n (i := 2) i_N_lossOf_17 rfl rfl ?_
    rw [Bool.and_eq_true, hB, hP] at h9
    obtain ⟨b, hb, rfl⟩ := lt0_of (by omega) h9.1
    obtain ⟨i, hi, rfl⟩ := lt0_of (by omega) h9.2
    rw [nI_clamp (by omega), nI_clamp (by omega)]
    refine f_virtual o_N_lossOf k_T_lossBy v_T_lossBy x_N_208 i_N_lossOf_18 o_T_lossBy (c_T_lossBy cT (by omega) (by omega)) rfl (rcv_ob (by repeat (first | assumption | exact upw_s | refine (upw_n (by omega)).trans ?_)) rfl (by first | assumption | omega)) rfl (by decide) (Nat.le_of_ble_eq_true rfl) ?_
    refine r_goto 30 i_N_lossOf_21 (by decide) ?_
    refine r_ireturn i_N_lossOf_30 t_N_lossOf rfl ?_
    first | exact ⟨rfl, hp9, rfl⟩ | exact ⟨rfl, ⟨hC, cFr.rfl⟩, rfl⟩
def m_standing (Q : aQ) (i : Int32) : Int32 × aQ := if lt0 i (Q.1.1 0) = true then (Q.1.2 0 i.toNatClampNeg, Q) else rfb Q (-2)
theorem c_N_standing {i : Int32} (hC : CW w Q n) (hQ : QOk Q) : Cm G 5 y_N_standing [.ref 0, .int i] w n (m_standing Q i) := by
  obtain ⟨D, L, fa, K, Z, hX⟩ := id hC
  obtain ⟨c0, cT, cK, cD, cS, cR, cW, cE, cF, cn⟩ := id hX
  have oT := cT.1
  have oK := cK.1
  have oD := cD.1
  have oS := cS.1
  have oR := cR.1
  have oW := cW.1
  have oE := cE.1
  obtain ⟨P, B, hP, hP7, hB, hB7, -⟩ := hQ.1
  refine Cm.of k_N_standing l_N_standing rfl rfl ?_
  unfold m_standing
  refine r_aload_n (i := 0) i_N_standing_0 rfl rfl ?_
  refine r_getf (ci := 0) (T := Fk0) (k := 0) o_N_standing i_N_standing_1 x_N_10 rfl (by decide) rfl (by repeat (first | assumption | exact upw_s | refine (upw_n (by omega)).trans ?_)) (by first | assumption | omega) (by rfl) ?_
  refine r_iload_n (i := 1) i_N_standing_4 rfl rfl ?_
  refine f_virtual o_N_standing k_T_hasPerson v_T_hasPerson x_N_131 i_N_standing_5 o_T_hasPerson (c_T_hasPerson cT) rfl (rcv_ob (by repeat (first | assumption | exact upw_s | refine (upw_n (by omega)).trans ?_)) rfl (by first | assumption | omega)) rfl (by decide) (Nat.le_of_ble_eq_true rfl) ?_
  refine r_if_eq 25 i_N_standing_8 (by decide) (fun h8 => ?_) (fun h8 => ?_)
  · skip
    have h8 := bI_eq0.mp h8
    try rw [h8]
    refine r_aload_n (i := 0) i_N_standing_25 rfl rfl ?_
    refine r_bipush (v := (-2 : Int32)) i_N_standing_26 (by decide) ?_
    refine m_virtual o_N_standing k_N_refuseBelow v_N_refuseBelow x_N_212 i_N_standing_28 o_N_refuseBelow (c_N_refuseBelow hC) rfl (rcv_ob (by repeat (first | assumption | exact upw_s | refine (upw_n (by omega)).trans ?_)) rfl (by first | assumption | omega)) rfl (by decide) (Nat.le_of_ble_eq_true rfl) (Nat.zero_le _) (Nat.zero_le _) (fun rr28 wr28 nr28 hp9 => ?_)
    obtain ⟨rfl, hp9, rfl⟩ := hp9
    refine r_ireturn i_N_standing_31 t_N_standing rfl ?_
    first | exact ⟨rfl, hp9, rfl⟩ | exact ⟨rfl, ⟨hC, cFr.rfl⟩, rfl⟩
  · skip
    have h8 := bI_ne0.mp h8
    try rw [h8]
    refine r_aload_n (i := 0) i_N_standing_11 rfl rfl ?_
    refine r_getf (ci := 0) (T := Fk0) (k := 0) o_N_standing i_N_standing_12 x_N_10 rfl (by decide) rfl (by repeat (first | assumption | exact upw_s | refine (upw_n (by omega)).trans ?_)) (by first | assumption | omega) (by rfl) ?_
    refine r_getfN (ci := 1) (T := Fk1) (k := 9) o_N_standing i_N_standing_15 x_N_215 rfl (by decide) rfl (by repeat (first | assumption | exact upw_s | refine (upw_n (by omega)).trans ?_)) (by first | assumption | omega) (by rfl) ?_
    refine r_iload_n (i := 1) i_N_standing_18 rfl rfl ?_
    rw [hP] at h8
    obtain ⟨i, hi, rfl⟩ := lt0_of (by omega) h8
    rw [nI_clamp (by omega)]
    refine f_static o_N_standing k_N_at s_N_at x_N_195 i_N_standing_19 (c_N_at cT.2.1 (by omega) (by decide)) rfl rfl (by decide) (Nat.le_of_ble_eq_true rfl) ?_
    rw [atI_in (by omega) (by decide)]
    refine r_goto 31 i_N_standing_22 (by decide) ?_
    refine r_ireturn i_N_standing_31 t_N_standing rfl ?_
    first | exact ⟨rfl, hp9, rfl⟩ | exact ⟨rfl, ⟨hC, cFr.rfl⟩, rfl⟩
def m_named (Q : aQ) (i : Int32) : Int32 × aQ := if lt0 i (Q.1.1 0) = true then (Q.1.2 1 i.toNatClampNeg, Q) else rfz Q (-2)
theorem c_N_named {i : Int32} (hC : CW w Q n) (hQ : QOk Q) : Cm G 5 y_N_named [.ref 0, .int i] w n (m_named Q i) := by
  obtain ⟨D, L, fa, K, Z, hX⟩ := id hC
  obtain ⟨c0, cT, cK, cD, cS, cR, cW, cE, cF, cn⟩ := id hX
  have oT := cT.1
  have oK := cK.1
  have oD := cD.1
  have oS := cS.1
  have oR := cR.1
  have oW := cW.1
  have oE := cE.1
  obtain ⟨P, B, hP, hP7, hB, hB7, -⟩ := hQ.1
  refine Cm.of k_N_named l_N_named rfl rfl ?_
  unfold m_named
  refine r_aload_n (i := 0) i_N_named_0 rfl rfl ?_
  refine r_getf (ci := 0) (T := Fk0) (k := 0) o_N_named i_N_named_1 x_N_10 rfl (by decide) rfl (by repeat (first | assumption | exact upw_s | refine (upw_n (by omega)).trans ?_)) (by first | assumption | omega) (by rfl) ?_
  refine r_iload_n (i := 1) i_N_named_4 rfl rfl ?_
  refine f_virtual o_N_named k_T_hasPerson v_T_hasPerson x_N_131 i_N_named_5 o_T_hasPerson (c_T_hasPerson cT) rfl (rcv_ob (by repeat (first | assumption | exact upw_s | refine (upw_n (by omega)).trans ?_)) rfl (by first | assumption | omega)) rfl (by decide) (Nat.le_of_ble_eq_true rfl) ?_
  refine r_if_eq 25 i_N_named_8 (by decide) (fun h8 => ?_) (fun h8 => ?_)
  · skip
    have h8 := bI_eq0.mp h8
    try rw [h8]
    refine r_aload_n (i := 0) i_N_named_25 rfl rfl ?_
    refine r_bipush (v := (-2 : Int32)) i_N_named_26 (by decide) ?_
    refine m_virtual o_N_named k_N_refuse v_N_refuse x_N_66 i_N_named_28 o_N_refuse (c_N_refuse hC) rfl (rcv_ob (by repeat (first | assumption | exact upw_s | refine (upw_n (by omega)).trans ?_)) rfl (by first | assumption | omega)) rfl (by decide) (Nat.le_of_ble_eq_true rfl) (Nat.zero_le _) (Nat.zero_le _) (fun rr28 wr28 nr28 hp9 => ?_)
    obtain ⟨rfl, hp9, rfl⟩ := hp9
    refine r_ireturn i_N_named_31 t_N_named rfl ?_
    first | exact ⟨rfl, hp9, rfl⟩ | exact ⟨rfl, ⟨hC, cFr.rfl⟩, rfl⟩
  · skip
    have h8 := bI_ne0.mp h8
    try rw [h8]
    refine r_aload_n (i := 0) i_N_named_11 rfl rfl ?_
    refine r_getf (ci := 0) (T := Fk0) (k := 0) o_N_named i_N_named_12 x_N_10 rfl (by decide) rfl (by repeat (first | assumption | exact upw_s | refine (upw_n (by omega)).trans ?_)) (by first | assumption | omega) (by rfl) ?_
    refine r_getfN (ci := 1) (T := Fk1) (k := 10) o_N_named i_N_named_15 x_N_272 rfl (by decide) rfl (by repeat (first | assumption | exact upw_s | refine (upw_n (by omega)).trans ?_)) (by first | assumption | omega) (by rfl) ?_
    refine r_iload_n (i := 1) i_N_named_18 rfl rfl ?_
    rw [hP] at h8
    obtain ⟨i, hi, rfl⟩ := lt0_of (by omega) h8
    rw [nI_clamp (by omega)]
    refine f_static o_N_named k_N_at s_N_at x_N_195 i_N_named_19 (c_N_at cT.2.2.1 (by omega) (by decide)) rfl rfl (by decide) (Nat.le_of_ble_eq_true rfl) ?_
    rw [atI_in (by omega) (by decide)]
    refine r_goto 31 i_N_named_22 (by decide) ?_
    refine r_ireturn i_N_named_31 t_N_named rfl ?_
    first | exact ⟨rfl, hp9, rfl⟩ | exact ⟨rfl, ⟨hC, cFr.rfl⟩, rfl⟩
def nP (Q : aQ) : Nat := (Q.1.1 0).toNatClampNeg
def nB (Q : aQ) : Nat := (Q.1.1 1).toNatClampNeg
theorem nP_eq {P : Nat} (hP : Q.1.1 0 = nI P) (h : P ≤ 7) : nP Q = P := by
  unfold nP
  show (Q.1.1 0).toNatClampNeg = P
  rw [hP, nI_clamp (by omega)]
theorem nB_eq {B : Nat} (hB : Q.1.1 1 = nI B) (h : B ≤ 7) : nB Q = B := by
  unfold nB
  show (Q.1.1 1).toNatClampNeg = B
  rw [hB, nI_clamp (by omega)]
def m_good (Q : aQ) (b : Int32) : Int32 × aQ := if lt0 b (Q.1.1 1) = true then (bitsOf (gd Q.1 b.toNatClampNeg) (nP Q), Q) else rfz Q (-2)
theorem c_N_good {b : Int32} (hC : CW w Q n) (hQ : QOk Q) : Cm G 5 y_N_good [.ref 0, .int b] w n (m_good Q b) := by
  obtain ⟨D, L, fa, K, Z, hX⟩ := id hC
  obtain ⟨c0, cT, cK, cD, cS, cR, cW, cE, cF, cn⟩ := id hX
  have oT := cT.1
  have oK := cK.1
  have oD := cD.1
  have oS := cS.1
  have oR := cR.1
  have oW := cW.1
  have oE := cE.1
  obtain ⟨P, B, hP, hP7, hB, hB7, -⟩ := hQ.1
  refine Cm.of k_N_good l_N_good rfl rfl ?_
  unfold m_good
  rw [nP_eq hP hP7]
  refine r_aload_n (i := 0) i_N_good_0 rfl rfl ?_
  refine r_getf (ci := 0) (T := Fk0) (k := 0) o_N_good i_N_good_1 x_N_10 rfl (by decide) rfl (by repeat (first | assumption | exact upw_s | refine (upw_n (by omega)).trans ?_)) (by first | assumption | omega) (by rfl) ?_
  refine r_iload_n (i := 1) i_N_good_4 rfl rfl ?_
  refine f_virtual o_N_good k_T_hasBargain v_T_hasBargain x_N_189 i_N_good_5 o_T_hasBargain (c_T_hasBargain cT) rfl (rcv_ob (by repeat (first | assumption | exact upw_s | refine (upw_n (by omega)).trans ?_)) rfl (by first | assumption | omega)) rfl (by decide) (Nat.le_of_ble_eq_true rfl) ?_
  refine r_if_eq 22 i_N_good_8 (by decide) (fun h8 => ?_) (fun h8 => ?_)
  · skip
    have h8 := bI_eq0.mp h8
    try rw [h8]
    refine r_aload_n (i := 0) i_N_good_22 rfl rfl ?_
    refine r_bipush (v := (-2 : Int32)) i_N_good_23 (by decide) ?_
    refine m_virtual o_N_good k_N_refuse v_N_refuse x_N_66 i_N_good_25 o_N_refuse (c_N_refuse hC) rfl (rcv_ob (by repeat (first | assumption | exact upw_s | refine (upw_n (by omega)).trans ?_)) rfl (by first | assumption | omega)) rfl (by decide) (Nat.le_of_ble_eq_true rfl) (Nat.zero_le _) (Nat.zero_le _) (fun rr25 wr25 nr25 hp9 => ?_)
    obtain ⟨rfl, hp9, rfl⟩ := hp9
    refine r_ireturn i_N_good_28 t_N_good rfl ?_
    first | exact ⟨rfl, hp9, rfl⟩ | exact ⟨rfl, ⟨hC, cFr.rfl⟩, rfl⟩
  · skip
    have h8 := bI_ne0.mp h8
    try rw [h8]
    refine r_aload_n (i := 0) i_N_good_11 rfl rfl ?_
    refine r_getf (ci := 0) (T := Fk0) (k := 0) o_N_good i_N_good_12 x_N_10 rfl (by decide) rfl (by repeat (first | assumption | exact upw_s | refine (upw_n (by omega)).trans ?_)) (by first | assumption | omega) (by rfl) ?_
    refine r_iload_n (i := 1) i_N_good_15 rfl rfl ?_
    rw [hB] at h8
    obtain ⟨b, hb, rfl⟩ := lt0_of (by omega) h8
    rw [nI_clamp (by omega)]
    refine f_virtual o_N_good k_T_goodBits v_T_goodBits x_N_218 i_N_good_16 o_T_goodBits (c_T_goodBits cT (by omega) hP hP7) rfl (rcv_ob (by repeat (first | assumption | exact upw_s | refine (upw_n (by omega)).trans ?_)) rfl (by first | assumption | omega)) rfl (by decide) (Nat.le_of_ble_eq_true rfl) ?_
    refine r_goto 28 i_N_good_19 (by decide) ?_
    refine r_ireturn i_N_good_28 t_N_good rfl ?_
    first | exact ⟨rfl, hp9, rfl⟩ | exact ⟨rfl, ⟨hC, cFr.rfl⟩, rfl⟩
def m_value (Q : aQ) (b i : Int32) : Int32 × aQ := if (lt0 b (Q.1.1 1) && lt0 i (Q.1.1 0)) = true then (if gd Q.1 b.toNatClampNeg i.toNatClampNeg = true then (valN Q.1 b.toNatClampNeg i.toNatClampNeg, Q) else rfb Q (-5)) else rfb Q (-2)
theorem c_N_value {b i : Int32} (hC : CW w Q n) (hQ : QOk Q) : Cm G 5 y_N_value [.ref 0, .int b, .int i] w n (m_value Q b i) := by
  obtain ⟨D, L, fa, K, Z, hX⟩ := id hC
  obtain ⟨c0, cT, cK, cD, cS, cR, cW, cE, cF, cn⟩ := id hX
  have oT := cT.1
  have oK := cK.1
  have oD := cD.1
  have oS := cS.1
  have oR := cR.1
  have oW := cW.1
  have oE := cE.1
  obtain ⟨P, B, hP, hP7, hB, hB7, -⟩ := hQ.1
  refine Cm.of k_N_value l_N_value rfl rfl ?_
  unfold m_value
  refine r_aload_n (i := 0) i_N_value_0 rfl rfl ?_
  refine r_getf (ci := 0) (T := Fk0) (k := 0) o_N_value i_N_value_1 x_N_10 rfl (by decide) rfl (by repeat (first | assumption | exact upw_s | refine (upw_n (by omega)).trans ?_)) (by first | assumption | omega) (by rfl) ?_
  refine r_iload_n (i := 1) i_N_value_4 rfl rfl ?_
  refine r_iload_n (i := 2) i_N_value_5 rfl rfl ?_
  refine f_virtual o_N_value k_T_hasPair v_T_hasPair x_N_139 i_N_value_6 o_T_hasPair (c_T_hasPair cT) rfl (rcv_ob (by repeat (first | assumption | exact upw_s | refine (upw_n (by omega)).trans ?_)) rfl (by first | assumption | omega)) rfl (by decide) (Nat.le_of_ble_eq_true rfl) ?_
  refine r_if_ne 19 i_N_value_9 (by decide) (fun h9 => ?_) (fun h9 => ?_)
  · skip
    have h9 := bI_ne0.mp h9
    try rw [h9]
    refine r_aload_n (i := 0) i_N_value_19 rfl rfl ?_
    refine r_getf (ci := 0) (T := Fk0) (k := 0) o_N_value i_N_value_20 x_N_10 rfl (by decide) rfl (by repeat (first | assumption | exact upw_s | refine (upw_n (by omega)).trans ?_)) (by first | assumption | omega) (by rfl) ?_
    refine r_iload_n (i := 1) i_N_value_23 rfl rfl ?_
    refine r_iload_n (i := 2) i_N_value_24 rfl rfl ?_
    rw [Bool.and_eq_true, hB, hP] at h9
    obtain ⟨b, hb, rfl⟩ := lt0_of (by omega) h9.1
    obtain ⟨i, hi, rfl⟩ := lt0_of (by omega) h9.2
    rw [nI_clamp (by omega), nI_clamp (by omega)]
    refine f_virtual o_N_value k_T_isGoodBy v_T_isGoodBy x_N_221 i_N_value_25 o_T_isGoodBy (c_T_isGoodBy cT (by omega) (by omega)) rfl (rcv_ob (by repeat (first | assumption | exact upw_s | refine (upw_n (by omega)).trans ?_)) rfl (by first | assumption | omega)) rfl (by decide) (Nat.le_of_ble_eq_true rfl) ?_
    refine r_if_eq 43 i_N_value_28 (by decide) (fun h28 => ?_) (fun h28 => ?_)
    · skip
      have h28 := bI_eq0.mp h28
      try rw [h28]
      refine r_aload_n (i := 0) i_N_value_43 rfl rfl ?_
      refine r_bipush (v := (-5 : Int32)) i_N_value_44 (by decide) ?_
      refine m_virtual o_N_value k_N_refuseBelow v_N_refuseBelow x_N_212 i_N_value_46 o_N_refuseBelow (c_N_refuseBelow hC) rfl (rcv_ob (by repeat (first | assumption | exact upw_s | refine (upw_n (by omega)).trans ?_)) rfl (by first | assumption | omega)) rfl (by decide) (Nat.le_of_ble_eq_true rfl) (Nat.zero_le _) (Nat.zero_le _) (fun rr46 wr46 nr46 hp9 => ?_)
      obtain ⟨rfl, hp9, rfl⟩ := hp9
      refine r_ireturn i_N_value_49 t_N_value rfl ?_
      first | exact ⟨rfl, hp9, rfl⟩ | exact ⟨rfl, ⟨hC, cFr.rfl⟩, rfl⟩
    · skip
      have h28 := bI_ne0.mp h28
      try rw [h28]
      refine r_aload_n (i := 0) i_N_value_31 rfl rfl ?_
      refine r_getf (ci := 0) (T := Fk0) (k := 0) o_N_value i_N_value_32 x_N_10 rfl (by decide) rfl (by repeat (first | assumption | exact upw_s | refine (upw_n (by omega)).trans ?_)) (by first | assumption | omega) (by rfl) ?_
      refine r_iload_n (i := 1) i_N_value_35 rfl rfl ?_
      refine r_iload_n (i := 2) i_N_value_36 rfl rfl ?_
      refine f_virtual o_N_value k_T_valueBy v_T_valueBy x_N_224 i_N_value_37 o_T_valueBy (c_T_valueBy cT (by omega) (by omega)) rfl (rcv_ob (by repeat (first | assumption | exact upw_s | refine (upw_n (by omega)).trans ?_)) rfl (by first | assumption | omega)) rfl (by decide) (Nat.le_of_ble_eq_true rfl) ?_
      refine r_goto 49 i_N_value_40 (by decide) ?_
      refine r_ireturn i_N_value_49 t_N_value rfl ?_
      first | exact ⟨rfl, hp9, rfl⟩ | exact ⟨rfl, ⟨hC, cFr.rfl⟩, rfl⟩
  · skip
    have h9 := bI_eq0.mp h9
    try rw [h9]
    refine r_aload_n (i := 0) i_N_value_12 rfl rfl ?_
    refine r_bipush (v := (-2 : Int32)) i_N_value_13 (by decide) ?_
    refine m_virtual o_N_value k_N_refuseBelow v_N_refuseBelow x_N_212 i_N_value_15 o_N_refuseBelow (c_N_refuseBelow hC) rfl (rcv_ob (by repeat (first | assumption | exact upw_s | refine (upw_n (by omega)).trans ?_)) rfl (by first | assumption | omega)) rfl (by decide) (Nat.le_of_ble_eq_true rfl) (Nat.zero_le _) (Nat.zero_le _) (fun rr15 wr15 nr15 hp9 => ?_)
    obtain ⟨rfl, hp9, rfl⟩ := hp9
    refine r_ireturn i_N_value_18 t_N_value rfl ?_
    first | exact ⟨rfl, hp9, rfl⟩ | exact ⟨rfl, ⟨hC, cFr.rfl⟩, rfl⟩
end PUBT
