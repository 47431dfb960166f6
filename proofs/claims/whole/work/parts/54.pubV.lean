-- THE CLASS: SWITCHES, THE TAPE
theorem out_of {k : Int32} {N : Nat} (hN : N < 2 ^ 31) (h : ¬ lt0 k (nI N) = true) : k.toInt < 0 ∨ (N : Int) ≤ k.toInt := by
  by_cases q : k.toInt < 0
  · exact Or.inl q
  · refine Or.inr ?_
    by_cases r : k.toInt < (N : Int)
    · refine absurd ?_ h
      unfold lt0
      refine decide_eq_true ⟨?_, ?_⟩
      · intro e
        exact q (Int32.lt_iff_toInt_lt.mp e)
      · intro e
        have e := Int32.le_iff_toInt_le.mp e
        rw [show (nI N).toInt = (N : Int) from Int32.toInt_ofNat_of_lt hN] at e
        omega
    · exact Int.not_lt.mp r
section PUBV
variable {G : gE} {w : aW} {n : Nat} {Q : aQ}
theorem bo_0 {b : Nat} (hb : b < 7) (hC : CW w Q n) : Go G 5 y_N_bargainOf 18 [some (.ref 0), some (.int (nI b)), some (.int 0)] [] w n 0 0 (fun r w' n' => r = some (.int (Q.1.2 2 b)) ∧ (CW w' Q n ∧ cFr w w') ∧ n' = n) := by
  obtain ⟨D, L, fa, K, Z, hX⟩ := id hC
  obtain ⟨c0, cT, cK, cD, cS, cR, cW, cE, cF, cn⟩ := id hX
  have oT := cT.1
  have oK := cK.1
  have oD := cD.1
  have oS := cS.1
  have oR := cR.1
  have oW := cW.1
  have oE := cE.1
  refine r_iload_n (i := 2) i_N_bargainOf_18 rfl rfl ?_
  refine r_tableIn 52 i_N_bargainOf_19 (by decide) (by decide) (by rfl) (by decide) ?_
  refine r_aload_n (i := 0) i_N_bargainOf_52 rfl rfl ?_
  refine r_getf (ci := 0) (T := Fk0) (k := 0) o_N_bargainOf i_N_bargainOf_53 x_N_10 rfl (by decide) rfl (by repeat (first | assumption | exact upw_s | refine (upw_n (by omega)).trans ?_)) (by first | assumption | omega) (by rfl) ?_
  refine r_getfN (ci := 1) (T := Fk1) (k := 11) o_N_bargainOf i_N_bargainOf_56 x_N_192 rfl (by decide) rfl (by repeat (first | assumption | exact upw_s | refine (upw_n (by omega)).trans ?_)) (by first | assumption | omega) (by rfl) ?_
  refine r_iload_n (i := 1) i_N_bargainOf_59 rfl rfl ?_
  refine f_static o_N_bargainOf k_N_at s_N_at x_N_195 i_N_bargainOf_60 (c_N_at cT.2.2.2.1 (by omega) (by decide)) rfl rfl (by decide) (Nat.le_of_ble_eq_true rfl) ?_
  rw [atI_in (by omega) (by decide)]
  refine r_ireturn i_N_bargainOf_63 t_N_bargainOf rfl ?_
  first | exact ⟨rfl, hp9, rfl⟩ | exact ⟨rfl, ⟨hC, cFr.rfl⟩, rfl⟩
theorem bo_1 {b : Nat} (hb : b < 7) (hC : CW w Q n) : Go G 5 y_N_bargainOf 18 [some (.ref 0), some (.int (nI b)), some (.int 1)] [] w n 0 0 (fun r w' n' => r = some (.int (Q.1.2 3 b)) ∧ (CW w' Q n ∧ cFr w w') ∧ n' = n) := by
  obtain ⟨D, L, fa, K, Z, hX⟩ := id hC
  obtain ⟨c0, cT, cK, cD, cS, cR, cW, cE, cF, cn⟩ := id hX
  have oT := cT.1
  have oK := cK.1
  have oD := cD.1
  have oS := cS.1
  have oR := cR.1
  have oW := cW.1
  have oE := cE.1
  refine r_iload_n (i := 2) i_N_bargainOf_18 rfl rfl ?_
  refine r_tableIn 64 i_N_bargainOf_19 (by decide) (by decide) (by rfl) (by decide) ?_
  refine r_aload_n (i := 0) i_N_bargainOf_64 rfl rfl ?_
  refine r_getf (ci := 0) (T := Fk0) (k := 0) o_N_bargainOf i_N_bargainOf_65 x_N_10 rfl (by decide) rfl (by repeat (first | assumption | exact upw_s | refine (upw_n (by omega)).trans ?_)) (by first | assumption | omega) (by rfl) ?_
  refine r_getfN (ci := 1) (T := Fk1) (k := 12) o_N_bargainOf i_N_bargainOf_68 x_N_199 rfl (by decide) rfl (by repeat (first | assumption | exact upw_s | refine (upw_n (by omega)).trans ?_)) (by first | assumption | omega) (by rfl) ?_
  refine r_iload_n (i := 1) i_N_bargainOf_71 rfl rfl ?_
  refine f_static o_N_bargainOf k_N_at s_N_at x_N_195 i_N_bargainOf_72 (c_N_at cT.2.2.2.2.1 (by omega) (by decide)) rfl rfl (by decide) (Nat.le_of_ble_eq_true rfl) ?_
  rw [atI_in (by omega) (by decide)]
  refine r_ireturn i_N_bargainOf_75 t_N_bargainOf rfl ?_
  first | exact ⟨rfl, hp9, rfl⟩ | exact ⟨rfl, ⟨hC, cFr.rfl⟩, rfl⟩
theorem bo_2 {b : Nat} (hb : b < 7) (hC : CW w Q n) : Go G 5 y_N_bargainOf 18 [some (.ref 0), some (.int (nI b)), some (.int 2)] [] w n 0 0 (fun r w' n' => r = some (.int (Q.1.2 4 b)) ∧ (CW w' Q n ∧ cFr w w') ∧ n' = n) := by
  obtain ⟨D, L, fa, K, Z, hX⟩ := id hC
  obtain ⟨c0, cT, cK, cD, cS, cR, cW, cE, cF, cn⟩ := id hX
  have oT := cT.1
  have oK := cK.1
  have oD := cD.1
  have oS := cS.1
  have oR := cR.1
  have oW := cW.1
  have oE := cE.1
  refine r_iload_n (i := 2) i_N_bargainOf_18 rfl rfl ?_
  refine r_tableIn 76 i_N_bargainOf_19 (by decide) (by decide) (by rfl) (by decide) ?_
  refine r_aload_n (i := 0) i_N_bargainOf_76 rfl rfl ?_
  refine r_getf (ci := 0) (T := Fk0) (k := 0) o_N_bargainOf i_N_bargainOf_77 x_N_10 rfl (by decide) rfl (by repeat (first | assumption | exact upw_s | refine (upw_n (by omega)).trans ?_)) (by first | assumption | omega) (by rfl) ?_
  refine r_getfN (ci := 1) (T := Fk1) (k := 13) o_N_bargainOf i_N_bargainOf_80 x_N_202 rfl (by decide) rfl (by repeat (first | assumption | exact upw_s | refine (upw_n (by omega)).trans ?_)) (by first | assumption | omega) (by rfl) ?_
  refine r_iload_n (i := 1) i_N_bargainOf_83 rfl rfl ?_
  refine f_static o_N_bargainOf k_N_at s_N_at x_N_195 i_N_bargainOf_84 (c_N_at cT.2.2.2.2.2.1 (by omega) (by decide)) rfl rfl (by decide) (Nat.le_of_ble_eq_true rfl) ?_
  rw [atI_in (by omega) (by decide)]
  refine r_ireturn i_N_bargainOf_87 t_N_bargainOf rfl ?_
  first | exact ⟨rfl, hp9, rfl⟩ | exact ⟨rfl, ⟨hC, cFr.rfl⟩, rfl⟩
theorem bo_3 {b : Nat} (hb : b < 7) (hC : CW w Q n) : Go G 5 y_N_bargainOf 18 [some (.ref 0), some (.int (nI b)), some (.int 3)] [] w n 0 0 (fun r w' n' => r = some (.int (Q.1.2 5 b)) ∧ (CW w' Q n ∧ cFr w w') ∧ n' = n) := by
  obtain ⟨D, L, fa, K, Z, hX⟩ := id hC
  obtain ⟨c0, cT, cK, cD, cS, cR, cW, cE, cF, cn⟩ := id hX
  have oT := cT.1
  have oK := cK.1
  have oD := cD.1
  have oS := cS.1
  have oR := cR.1
  have oW := cW.1
  have oE := cE.1
  refine r_iload_n (i := 2) i_N_bargainOf_18 rfl rfl ?_
  refine r_tableIn 88 i_N_bargainOf_19 (by decide) (by decide) (by rfl) (by decide) ?_
  refine r_aload_n (i := 0) i_N_bargainOf_88 rfl rfl ?_
  refine r_getf (ci := 0) (T := Fk0) (k := 0) o_N_bargainOf i_N_bargainOf_89 x_N_10 rfl (by decide) rfl (by repeat (first | assumption | exact upw_s | refine (upw_n (by omega)).trans ?_)) (by first | assumption | omega) (by rfl) ?_
  refine r_getfN (ci := 1) (T := Fk1) (k := 14) o_N_bargainOf i_N_bargainOf_92 x_N_205 rfl (by decide) rfl (by repeat (first | assumption | exact upw_s | refine (upw_n (by omega)).trans ?_)) (by first | assumption | omega) (by rfl) ?_
  refine r_iload_n (i := 1) i_N_bargainOf_95 rfl rfl ?_
  refine f_static o_N_bargainOf k_N_at s_N_at x_N_195 i_N_bargainOf_96 (c_N_at cT.2.2.2.2.2.2.1 (by omega) (by decide)) rfl rfl (by decide) (Nat.le_of_ble_eq_true rfl) ?_
  rw [atI_in (by omega) (by decide)]
  refine r_ireturn i_N_bargainOf_99 t_N_bargainOf rfl ?_
  first | exact ⟨rfl, hp9, rfl⟩ | exact ⟨rfl, ⟨hC, cFr.rfl⟩, rfl⟩
theorem bo_4 {b : Nat} (hb : b < 7) (hC : CW w Q n) : Go G 5 y_N_bargainOf 18 [some (.ref 0), some (.int (nI b)), some (.int 4)] [] w n 0 0 (fun r w' n' => r = some (.int (Q.1.2 6 b)) ∧ (CW w' Q n ∧ cFr w w') ∧ n' = n) := by
  obtain ⟨D, L, fa, K, Z, hX⟩ := id hC
  obtain ⟨c0, cT, cK, cD, cS, cR, cW, cE, cF, cn⟩ := id hX
  have oT := cT.1
  have oK := cK.1
  have oD := cD.1
  have oS := cS.1
  have oR := cR.1
  have oW := cW.1
  have oE := cE.1
  refine r_iload_n (i := 2) i_N_bargainOf_18 rfl rfl ?_
  refine r_tableIn 100 i_N_bargainOf_19 (by decide) (by decide) (by rfl) (by decide) ?_
  refine r_aload_n (i := 0) i_N_bargainOf_100 rfl rfl ?_
  refine r_getf (ci := 0) (T := Fk0) (k := 0) o_N_bargainOf i_N_bargainOf_101 x_N_10 rfl (by decide) rfl (by repeat (first | assumption | exact upw_s | refine (upw_n (by omega)).trans ?_)) (by first | assumption | omega) (by rfl) ?_
  refine r_iload_n (i := 1) i_N_bargainOf_104 rfl rfl ?_
  refine f_virtual o_N_bargainOf k_T_barredBy v_T_barredBy x_N_148 i_N_bargainOf_105 o_T_barredBy (c_T_barredBy cT hb) rfl (rcv_ob (by repeat (first | assumption | exact upw_s | refine (upw_n (by omega)).trans ?_)) rfl (by first | assumption | omega)) rfl (by decide) (Nat.le_of_ble_eq_true rfl) ?_
  refine r_ireturn i_N_bargainOf_108 t_N_bargainOf rfl ?_
  first | exact ⟨rfl, hp9, rfl⟩ | exact ⟨rfl, ⟨hC, cFr.rfl⟩, rfl⟩
def m_bargainOf (Q : aQ) (b k : Int32) : Int32 × aQ := if lt0 b (Q.1.1 1) = true then (if lt0 k 5 = true then (Q.1.2 (2 + k.toNatClampNeg) b.toNatClampNeg, Q) else rfz Q (-2)) else rfz Q (-2)
theorem c_N_bargainOf {b k : Int32} (hC : CW w Q n) (hQ : QOk Q) : Cm G 5 y_N_bargainOf [.ref 0, .int b, .int k] w n (m_bargainOf Q b k) := by
  obtain ⟨D, L, fa, K, Z, hX⟩ := id hC
  obtain ⟨c0, cT, cK, cD, cS, cR, cW, cE, cF, cn⟩ := id hX
  have oT := cT.1
  have oK := cK.1
  have oD := cD.1
  have oS := cS.1
  have oR := cR.1
  have oW := cW.1
  have oE := cE.1
  obtain ⟨P, B, hP, hP7, hB, hB7, -⟩ := hQ.1
  refine Cm.of k_N_bargainOf l_N_bargainOf rfl rfl ?_
  unfold m_bargainOf
  have key : ∀ b, b < 7 → Go G 5 y_N_bargainOf 18 [some (.ref 0), some (.int (nI b)), some (.int k)] [] w n 0 0 (fun r w' n' => r = some (.int (if lt0 k 5 = true then (Q.1.2 (2 + k.toNatClampNeg) b, Q) else rfz Q (-2)).1) ∧ (CW w' (if lt0 k 5 = true then (Q.1.2 (2 + k.toNatClampNeg) b, Q) else rfz Q (-2)).2 n ∧ cFr w w') ∧ n' = n) := by
    intro b hb
    by_cases hk : lt0 k 5 = true
    · rw [if_pos hk]
      obtain ⟨k, hk5, rfl⟩ := lt0_of (N := 5) (by decide) hk
      rw [nI_clamp (by omega)]
      rcases (show k = 0 ∨ k = 1 ∨ k = 2 ∨ k = 3 ∨ k = 4 by omega) with rfl | rfl | rfl | rfl | rfl
      · exact bo_0 hb hC
      · exact bo_1 hb hC
      · exact bo_2 hb hC
      · exact bo_3 hb hC
      · exact bo_4 hb hC
    · rw [if_neg hk]
      have hout := out_of (N := 5) (by decide) hk
      refine r_iload_n (i := 2) i_N_bargainOf_18 rfl rfl ?_
      refine r_tableOut 109 i_N_bargainOf_19 (by omega) (by decide) ?_
      refine r_aload_n (i := 0) i_N_bargainOf_109 rfl rfl ?_
      refine r_bipush (v := (-2 : Int32)) i_N_bargainOf_110 (by decide) ?_
      refine m_virtual o_N_bargainOf k_N_refuse v_N_refuse x_N_66 i_N_bargainOf_112 o_N_refuse (c_N_refuse hC) rfl (rcv_ob (by repeat (first | assumption | exact upw_s | refine (upw_n (by omega)).trans ?_)) rfl (by first | assumption | omega)) rfl (by decide) (Nat.le_of_ble_eq_true rfl) (Nat.zero_le _) (Nat.zero_le _) (fun rr112 wr112 nr112 hp9 => ?_)
      obtain ⟨rfl, hp9, rfl⟩ := hp9
      refine r_ireturn i_N_bargainOf_115 t_N_bargainOf rfl ?_
      first | exact ⟨rfl, hp9, rfl⟩ | exact ⟨rfl, ⟨hC, cFr.rfl⟩, rfl⟩
  refine r_aload_n (i := 0) i_N_bargainOf_0 rfl rfl ?_
  refine r_getf (ci := 0) (T := Fk0) (k := 0) o_N_bargainOf i_N_bargainOf_1 x_N_10 rfl (by decide) rfl (by repeat (first | assumption | exact upw_s | refine (upw_n (by omega)).trans ?_)) (by first | assumption | omega) (by rfl) ?_
  refine r_iload_n (i := 1) i_N_bargainOf_4 rfl rfl ?_
  refine f_virtual o_N_bargainOf k_T_hasBargain v_T_hasBargain x_N_189 i_N_bargainOf_5 o_T_hasBargain (c_T_hasBargain cT) rfl (rcv_ob (by repeat (first | assumption | exact upw_s | refine (upw_n (by omega)).trans ?_)) rfl (by first | assumption | omega)) rfl (by decide) (Nat.le_of_ble_eq_true rfl) ?_
  refine r_if_ne 18 i_N_bargainOf_8 (by decide) (fun h8 => ?_) (fun h8 => ?_)
  · skip
    have h8 := bI_ne0.mp h8
    try rw [h8]
    rw [hB] at h8
    obtain ⟨b, hb, rfl⟩ := lt0_of (by omega) h8
    rw [nI_clamp (by omega)]
    exact key b (by omega)
  · skip
    have h8 := bI_eq0.mp h8
    try rw [h8]
    refine r_aload_n (i := 0) i_N_bargainOf_11 rfl rfl ?_
    refine r_bipush (v := (-2 : Int32)) i_N_bargainOf_12 (by decide) ?_
    refine m_virtual o_N_bargainOf k_N_refuse v_N_refuse x_N_66 i_N_bargainOf_14 o_N_refuse (c_N_refuse hC) rfl (rcv_ob (by repeat (first | assumption | exact upw_s | refine (upw_n (by omega)).trans ?_)) rfl (by first | assumption | omega)) rfl (by decide) (Nat.le_of_ble_eq_true rfl) (Nat.zero_le _) (Nat.zero_le _) (fun rr14 wr14 nr14 hp9 => ?_)
    obtain ⟨rfl, hp9, rfl⟩ := hp9
    refine r_ireturn i_N_bargainOf_17 t_N_bargainOf rfl ?_
    first | exact ⟨rfl, hp9, rfl⟩ | exact ⟨rfl, ⟨hC, cFr.rfl⟩, rfl⟩
def stV (Q : aQ) (k : Nat) : Int32 := if k = 8 then nI Q.2.2.2.2.2.1 else if k = 10 then cntH Q.2.2.2.1 8 else Q.1.1 (if k < 2 then k else if k = 2 then 7 else if k = 3 then 8 else if k = 9 then 6 else k - 2)
def m_status (Q : aQ) (k : Int32) : Int32 × aQ := (if lt0 k 11 = true then stV Q k.toNatClampNeg else if wi0 k 12 16 = true then atI Q.2.2.2.2.2.2 5 (k - 12) else -1, Q)
theorem stt_0 (hC : CW w Q n) : Go G 5 y_N_status 0 [some (.ref 0), some (.int 0)] [] w n 0 0 (fun r w' n' => r = some (.int (stV Q 0)) ∧ (CW w' Q n ∧ cFr w w') ∧ n' = n) := by
  obtain ⟨D, L, fa, K, Z, hX⟩ := id hC
  obtain ⟨c0, cT, cK, cD, cS, cR, cW, cE, cF, cn⟩ := id hX
  have oT := cT.1
  have oK := cK.1
  have oD := cD.1
  have oS := cS.1
  have oR := cR.1
  have oW := cW.1
  have oE := cE.1
  refine r_iload_n (i := 1) i_N_status_0 rfl rfl ?_
  refine r_tableIn 60 i_N_status_1 (by decide) (by decide) (by rfl) (by decide) ?_
  refine r_aload_n (i := 0) i_N_status_60 rfl rfl ?_
  refine r_getf (ci := 0) (T := Fk0) (k := 0) o_N_status i_N_status_61 x_N_10 rfl (by decide) rfl (by repeat (first | assumption | exact upw_s | refine (upw_n (by omega)).trans ?_)) (by first | assumption | omega) (by rfl) ?_
  refine r_getfN (ci := 1) (T := Fk1) (k := 0) o_N_status i_N_status_64 x_N_124 rfl (by decide) rfl (by repeat (first | assumption | exact upw_s | refine (upw_n (by omega)).trans ?_)) (by first | assumption | omega) (by rfl) ?_
  refine r_ireturn i_N_status_67 t_N_status rfl ?_
  first | exact ⟨rfl, hp9, rfl⟩ | exact ⟨rfl, ⟨hC, cFr.rfl⟩, rfl⟩
theorem stt_1 (hC : CW w Q n) : Go G 5 y_N_status 0 [some (.ref 0), some (.int 1)] [] w n 0 0 (fun r w' n' => r = some (.int (stV Q 1)) ∧ (CW w' Q n ∧ cFr w w') ∧ n' = n) := by
  obtain ⟨D, L, fa, K, Z, hX⟩ := id hC
  obtain ⟨c0, cT, cK, cD, cS, cR, cW, cE, cF, cn⟩ := id hX
  have oT := cT.1
  have oK := cK.1
  have oD := cD.1
  have oS := cS.1
  have oR := cR.1
  have oW := cW.1
  have oE := cE.1
  refine r_iload_n (i := 1) i_N_status_0 rfl rfl ?_
  refine r_tableIn 68 i_N_status_1 (by decide) (by decide) (by rfl) (by decide) ?_
  refine r_aload_n (i := 0) i_N_status_68 rfl rfl ?_
  refine r_getf (ci := 0) (T := Fk0) (k := 0) o_N_status i_N_status_69 x_N_10 rfl (by decide) rfl (by repeat (first | assumption | exact upw_s | refine (upw_n (by omega)).trans ?_)) (by first | assumption | omega) (by rfl) ?_
  refine r_getfN (ci := 1) (T := Fk1) (k := 1) o_N_status i_N_status_72 x_N_113 rfl (by decide) rfl (by repeat (first | assumption | exact upw_s | refine (upw_n (by omega)).trans ?_)) (by first | assumption | omega) (by rfl) ?_
  refine r_ireturn i_N_status_75 t_N_status rfl ?_
  first | exact ⟨rfl, hp9, rfl⟩ | exact ⟨rfl, ⟨hC, cFr.rfl⟩, rfl⟩
theorem stt_2 (hC : CW w Q n) : Go G 5 y_N_status 0 [some (.ref 0), some (.int 2)] [] w n 0 0 (fun r w' n' => r = some (.int (stV Q 2)) ∧ (CW w' Q n ∧ cFr w w') ∧ n' = n) := by
  obtain ⟨D, L, fa, K, Z, hX⟩ := id hC
  obtain ⟨c0, cT, cK, cD, cS, cR, cW, cE, cF, cn⟩ := id hX
  have oT := cT.1
  have oK := cK.1
  have oD := cD.1
  have oS := cS.1
  have oR := cR.1
  have oW := cW.1
  have oE := cE.1
  refine r_iload_n (i := 1) i_N_status_0 rfl rfl ?_
  refine r_tableIn 76 i_N_status_1 (by decide) (by decide) (by rfl) (by decide) ?_
  refine r_aload_n (i := 0) i_N_status_76 rfl rfl ?_
  refine r_getf (ci := 0) (T := Fk0) (k := 0) o_N_status i_N_status_77 x_N_10 rfl (by decide) rfl (by repeat (first | assumption | exact upw_s | refine (upw_n (by omega)).trans ?_)) (by first | assumption | omega) (by rfl) ?_
  refine r_getfN (ci := 1) (T := Fk1) (k := 7) o_N_status i_N_status_80 x_N_324 rfl (by decide) rfl (by repeat (first | assumption | exact upw_s | refine (upw_n (by omega)).trans ?_)) (by first | assumption | omega) (by rfl) ?_
  refine r_ireturn i_N_status_83 t_N_status rfl ?_
  first | exact ⟨rfl, hp9, rfl⟩ | exact ⟨rfl, ⟨hC, cFr.rfl⟩, rfl⟩
theorem stt_3 (hC : CW w Q n) : Go G 5 y_N_status 0 [some (.ref 0), some (.int 3)] [] w n 0 0 (fun r w' n' => r = some (.int (stV Q 3)) ∧ (CW w' Q n ∧ cFr w w') ∧ n' = n) := by
  obtain ⟨D, L, fa, K, Z, hX⟩ := id hC
  obtain ⟨c0, cT, cK, cD, cS, cR, cW, cE, cF, cn⟩ := id hX
  have oT := cT.1
  have oK := cK.1
  have oD := cD.1
  have oS := cS.1
  have oR := cR.1
  have oW := cW.1
  have oE := cE.1
  refine r_iload_n (i := 1) i_N_status_0 rfl rfl ?_
  refine r_tableIn 84 i_N_status_1 (by decide) (by decide) (by rfl) (by decide) ?_
  refine r_aload_n (i := 0) i_N_status_84 rfl rfl ?_
  refine r_getf (ci := 0) (T := Fk0) (k := 0) o_N_status i_N_status_85 x_N_10 rfl (by decide) rfl (by repeat (first | assumption | exact upw_s | refine (upw_n (by omega)).trans ?_)) (by first | assumption | omega) (by rfl) ?_
  refine r_getfN (ci := 1) (T := Fk1) (k := 8) o_N_status i_N_status_88 x_N_327 rfl (by decide) rfl (by repeat (first | assumption | exact upw_s | refine (upw_n (by omega)).trans ?_)) (by first | assumption | omega) (by rfl) ?_
  refine r_ireturn i_N_status_91 t_N_status rfl ?_
  first | exact ⟨rfl, hp9, rfl⟩ | exact ⟨rfl, ⟨hC, cFr.rfl⟩, rfl⟩
theorem stt_4 (hC : CW w Q n) : Go G 5 y_N_status 0 [some (.ref 0), some (.int 4)] [] w n 0 0 (fun r w' n' => r = some (.int (stV Q 4)) ∧ (CW w' Q n ∧ cFr w w') ∧ n' = n) := by
  obtain ⟨D, L, fa, K, Z, hX⟩ := id hC
  obtain ⟨c0, cT, cK, cD, cS, cR, cW, cE, cF, cn⟩ := id hX
  have oT := cT.1
  have oK := cK.1
  have oD := cD.1
  have oS := cS.1
  have oR := cR.1
  have oW := cW.1
  have oE := cE.1
  refine r_iload_n (i := 1) i_N_status_0 rfl rfl ?_
  refine r_tableIn 92 i_N_status_1 (by decide) (by decide) (by rfl) (by decide) ?_
  refine r_aload_n (i := 0) i_N_status_92 rfl rfl ?_
  refine r_getf (ci := 0) (T := Fk0) (k := 0) o_N_status i_N_status_93 x_N_10 rfl (by decide) rfl (by repeat (first | assumption | exact upw_s | refine (upw_n (by omega)).trans ?_)) (by first | assumption | omega) (by rfl) ?_
  refine r_getfN (ci := 1) (T := Fk1) (k := 2) o_N_status i_N_status_96 x_N_318 rfl (by decide) rfl (by repeat (first | assumption | exact upw_s | refine (upw_n (by omega)).trans ?_)) (by first | assumption | omega) (by rfl) ?_
  refine r_ireturn i_N_status_99 t_N_status rfl ?_
  first | exact ⟨rfl, hp9, rfl⟩ | exact ⟨rfl, ⟨hC, cFr.rfl⟩, rfl⟩
theorem stt_5 (hC : CW w Q n) : Go G 5 y_N_status 0 [some (.ref 0), some (.int 5)] [] w n 0 0 (fun r w' n' => r = some (.int (stV Q 5)) ∧ (CW w' Q n ∧ cFr w w') ∧ n' = n) := by
  obtain ⟨D, L, fa, K, Z, hX⟩ := id hC
  obtain ⟨c0, cT, cK, cD, cS, cR, cW, cE, cF, cn⟩ := id hX
  have oT := cT.1
  have oK := cK.1
  have oD := cD.1
  have oS := cS.1
  have oR := cR.1
  have oW := cW.1
  have oE := cE.1
  refine r_iload_n (i := 1) i_N_status_0 rfl rfl ?_
  refine r_tableIn 100 i_N_status_1 (by decide) (by decide) (by rfl) (by decide) ?_
  refine r_aload_n (i := 0) i_N_status_100 rfl rfl ?_
  refine r_getf (ci := 0) (T := Fk0) (k := 0) o_N_status i_N_status_101 x_N_10 rfl (by decide) rfl (by repeat (first | assumption | exact upw_s | refine (upw_n (by omega)).trans ?_)) (by first | assumption | omega) (by rfl) ?_
  refine r_getfN (ci := 1) (T := Fk1) (k := 3) o_N_status i_N_status_104 x_N_330 rfl (by decide) rfl (by repeat (first | assumption | exact upw_s | refine (upw_n (by omega)).trans ?_)) (by first | assumption | omega) (by rfl) ?_
  refine r_ireturn i_N_status_107 t_N_status rfl ?_
  first | exact ⟨rfl, hp9, rfl⟩ | exact ⟨rfl, ⟨hC, cFr.rfl⟩, rfl⟩
theorem stt_6 (hC : CW w Q n) : Go G 5 y_N_status 0 [some (.ref 0), some (.int 6)] [] w n 0 0 (fun r w' n' => r = some (.int (stV Q 6)) ∧ (CW w' Q n ∧ cFr w w') ∧ n' = n) := by
  obtain ⟨D, L, fa, K, Z, hX⟩ := id hC
  obtain ⟨c0, cT, cK, cD, cS, cR, cW, cE, cF, cn⟩ := id hX
  have oT := cT.1
  have oK := cK.1
  have oD := cD.1
  have oS := cS.1
  have oR := cR.1
  have oW := cW.1
  have oE := cE.1
  refine r_iload_n (i := 1) i_N_status_0 rfl rfl ?_
  refine r_tableIn 108 i_N_status_1 (by decide) (by decide) (by rfl) (by decide) ?_
  refine r_aload_n (i := 0) i_N_status_108 rfl rfl ?_
  refine r_getf (ci := 0) (T := Fk0) (k := 0) o_N_status i_N_status_109 x_N_10 rfl (by decide) rfl (by repeat (first | assumption | exact upw_s | refine (upw_n (by omega)).trans ?_)) (by first | assumption | omega) (by rfl) ?_
  refine r_getfN (ci := 1) (T := Fk1) (k := 4) o_N_status i_N_status_112 x_N_309 rfl (by decide) rfl (by repeat (first | assumption | exact upw_s | refine (upw_n (by omega)).trans ?_)) (by first | assumption | omega) (by rfl) ?_
  refine r_ireturn i_N_status_115 t_N_status rfl ?_
  first | exact ⟨rfl, hp9, rfl⟩ | exact ⟨rfl, ⟨hC, cFr.rfl⟩, rfl⟩
theorem stt_7 (hC : CW w Q n) : Go G 5 y_N_status 0 [some (.ref 0), some (.int 7)] [] w n 0 0 (fun r w' n' => r = some (.int (stV Q 7)) ∧ (CW w' Q n ∧ cFr w w') ∧ n' = n) := by
  obtain ⟨D, L, fa, K, Z, hX⟩ := id hC
  obtain ⟨c0, cT, cK, cD, cS, cR, cW, cE, cF, cn⟩ := id hX
  have oT := cT.1
  have oK := cK.1
  have oD := cD.1
  have oS := cS.1
  have oR := cR.1
  have oW := cW.1
  have oE := cE.1
  refine r_iload_n (i := 1) i_N_status_0 rfl rfl ?_
  refine r_tableIn 116 i_N_status_1 (by decide) (by decide) (by rfl) (by decide) ?_
  refine r_aload_n (i := 0) i_N_status_116 rfl rfl ?_
  refine r_getf (ci := 0) (T := Fk0) (k := 0) o_N_status i_N_status_117 x_N_10 rfl (by decide) rfl (by repeat (first | assumption | exact upw_s | refine (upw_n (by omega)).trans ?_)) (by first | assumption | omega) (by rfl) ?_
  refine r_getfN (ci := 1) (T := Fk1) (k := 5) o_N_status i_N_status_120 x_N_312 rfl (by decide) rfl (by repeat (first | assumption | exact upw_s | refine (upw_n (by omega)).trans ?_)) (by first | assumption | omega) (by rfl) ?_
  refine r_ireturn i_N_status_123 t_N_status rfl ?_
  first | exact ⟨rfl, hp9, rfl⟩ | exact ⟨rfl, ⟨hC, cFr.rfl⟩, rfl⟩
theorem stt_8 (hC : CW w Q n) : Go G 5 y_N_status 0 [some (.ref 0), some (.int 8)] [] w n 0 0 (fun r w' n' => r = some (.int (stV Q 8)) ∧ (CW w' Q n ∧ cFr w w') ∧ n' = n) := by
  obtain ⟨D, L, fa, K, Z, hX⟩ := id hC
  obtain ⟨c0, cT, cK, cD, cS, cR, cW, cE, cF, cn⟩ := id hX
  have oT := cT.1
  have oK := cK.1
  have oD := cD.1
  have oS := cS.1
  have oR := cR.1
  have oW := cW.1
  have oE := cE.1
  refine r_iload_n (i := 1) i_N_status_0 rfl rfl ?_
  refine r_tableIn 124 i_N_status_1 (by decide) (by decide) (by rfl) (by decide) ?_
  refine r_aload_n (i := 0) i_N_status_124 rfl rfl ?_
  refine r_getf (ci := 0) (T := Fk0) (k := 5) o_N_status i_N_status_125 x_N_36 rfl (by decide) rfl (by repeat (first | assumption | exact upw_s | refine (upw_n (by omega)).trans ?_)) (by first | assumption | omega) (by rfl) ?_
  refine r_getfN (ci := 3) (T := Fk3) (k := 1) o_N_status i_N_status_128 x_N_333 rfl (by decide) rfl (by repeat (first | assumption | exact upw_s | refine (upw_n (by omega)).trans ?_)) (by first | assumption | omega) (by rfl) ?_
  refine r_ireturn i_N_status_131 t_N_status rfl ?_
  first | exact ⟨rfl, hp9, rfl⟩ | exact ⟨rfl, ⟨hC, cFr.rfl⟩, rfl⟩
theorem stt_9 (hC : CW w Q n) : Go G 5 y_N_status 0 [some (.ref 0), some (.int 9)] [] w n 0 0 (fun r w' n' => r = some (.int (stV Q 9)) ∧ (CW w' Q n ∧ cFr w w') ∧ n' = n) := by
  obtain ⟨D, L, fa, K, Z, hX⟩ := id hC
  obtain ⟨c0, cT, cK, cD, cS, cR, cW, cE, cF, cn⟩ := id hX
  have oT := cT.1
  have oK := cK.1
  have oD := cD.1
  have oS := cS.1
  have oR := cR.1
  have oW := cW.1
  have oE := cE.1
  refine r_iload_n (i := 1) i_N_status_0 rfl rfl ?_
  refine r_tableIn 132 i_N_status_1 (by decide) (by decide) (by rfl) (by decide) ?_
  refine r_aload_n (i := 0) i_N_status_132 rfl rfl ?_
  refine r_getf (ci := 0) (T := Fk0) (k := 0) o_N_status i_N_status_133 x_N_10 rfl (by decide) rfl (by repeat (first | assumption | exact upw_s | refine (upw_n (by omega)).trans ?_)) (by first | assumption | omega) (by rfl) ?_
  refine r_getfN (ci := 1) (T := Fk1) (k := 6) o_N_status i_N_status_136 x_N_321 rfl (by decide) rfl (by repeat (first | assumption | exact upw_s | refine (upw_n (by omega)).trans ?_)) (by first | assumption | omega) (by rfl) ?_
  refine r_ireturn i_N_status_139 t_N_status rfl ?_
  first | exact ⟨rfl, hp9, rfl⟩ | exact ⟨rfl, ⟨hC, cFr.rfl⟩, rfl⟩
theorem stt_10 (hC : CW w Q n) : Go G 5 y_N_status 0 [some (.ref 0), some (.int 10)] [] w n 0 0 (fun r w' n' => r = some (.int (stV Q 10)) ∧ (CW w' Q n ∧ cFr w w') ∧ n' = n) := by
  obtain ⟨D, L, fa, K, Z, hX⟩ := id hC
  obtain ⟨c0, cT, cK, cD, cS, cR, cW, cE, cF, cn⟩ := id hX
  have oT := cT.1
  have oK := cK.1
  have oD := cD.1
  have oS := cS.1
  have oR := cR.1
  have oW := cW.1
  have oE := cE.1
  refine r_iload_n (i := 1) i_N_status_0 rfl rfl ?_
  refine r_tableIn 140 i_N_status_1 (by decide) (by decide) (by rfl) (by decide) ?_
  refine r_aload_n (i := 0) i_N_status_140 rfl rfl ?_
  refine r_getf (ci := 0) (T := Fk0) (k := 4) o_N_status i_N_status_141 x_N_29 rfl (by decide) rfl (by repeat (first | assumption | exact upw_s | refine (upw_n (by omega)).trans ?_)) (by first | assumption | omega) (by rfl) ?_
  refine f_virtual o_N_status k_S_countHeld v_S_countHeld x_N_336 i_N_status_144 o_S_countHeld (c_S_countHeld cS) rfl (rcv_ob (by repeat (first | assumption | exact upw_s | refine (upw_n (by omega)).trans ?_)) rfl (by first | assumption | omega)) rfl (by decide) (Nat.le_of_ble_eq_true rfl) ?_
  refine r_ireturn i_N_status_147 t_N_status rfl ?_
  first | exact ⟨rfl, hp9, rfl⟩ | exact ⟨rfl, ⟨hC, cFr.rfl⟩, rfl⟩
theorem c_N_status {k : Int32} (hC : CW w Q n) : Cm G 5 y_N_status [.ref 0, .int k] w n (m_status Q k) := by
  obtain ⟨D, L, fa, K, Z, hX⟩ := id hC
  obtain ⟨c0, cT, cK, cD, cS, cR, cW, cE, cF, cn⟩ := id hX
  have oT := cT.1
  have oK := cK.1
  have oD := cD.1
  have oS := cS.1
  have oR := cR.1
  have oW := cW.1
  have oE := cE.1
  refine Cm.of k_N_status l_N_status rfl rfl ?_
  unfold m_status
  by_cases hk : lt0 k 11 = true
  · rw [if_pos hk]
    obtain ⟨k, hk5, rfl⟩ := lt0_of (N := 11) (by decide) hk
    rw [nI_clamp (by omega)]
    rcases (show k = 0 ∨ k = 1 ∨ k = 2 ∨ k = 3 ∨ k = 4 ∨ k = 5 ∨ k = 6 ∨ k = 7 ∨ k = 8 ∨ k = 9 ∨ k = 10 by omega) with rfl | rfl | rfl | rfl | rfl | rfl | rfl | rfl | rfl | rfl | rfl
    · exact stt_0 hC
    · exact stt_1 hC
    · exact stt_2 hC
    · exact stt_3 hC
    · exact stt_4 hC
    · exact stt_5 hC
    · exact stt_6 hC
    · exact stt_7 hC
    · exact stt_8 hC
    · exact stt_9 hC
    · exact stt_10 hC
  · rw [if_neg hk]
    have hout := out_of (N := 11) (by decide) hk
    refine r_iload_n (i := 1) i_N_status_0 rfl rfl ?_
    refine r_tableOut 148 i_N_status_1 (by omega) (by decide) ?_
    refine r_iload_n (i := 1) i_N_status_148 rfl rfl ?_
    refine r_bipush (v := (12 : Int32)) i_N_status_149 (by decide) ?_
    refine r_bipush (v := (16 : Int32)) i_N_status_151 (by decide) ?_
    refine f_static o_N_status k_N_isWithin s_N_isWithin x_N_62 i_N_status_153 (c_N_isWithin) rfl rfl (by decide) (Nat.le_of_ble_eq_true rfl) ?_
    refine r_if_eq 173 i_N_status_156 (by decide) (fun h156 => ?_) (fun h156 => ?_)
    · skip
      have h156 := bI_eq0.mp h156
      try rw [h156]
      refine r_iconst (v := (-1 : Int32)) i_N_status_173 rfl ?_
      refine r_ireturn i_N_status_174 t_N_status rfl ?_
      first | exact ⟨rfl, hp9, rfl⟩ | exact ⟨rfl, ⟨hC, cFr.rfl⟩, rfl⟩
    · skip
      have h156 := bI_ne0.mp h156
      try rw [h156]
      refine r_aload_n (i := 0) i_N_status_159 rfl rfl ?_
      refine r_getf (ci := 0) (T := Fk0) (k := 8) o_N_status i_N_status_160 x_N_54 rfl (by decide) rfl (by repeat (first | assumption | exact upw_s | refine (upw_n (by omega)).trans ?_)) (by first | assumption | omega) (by rfl) ?_
      refine r_iload_n (i := 1) i_N_status_163 rfl rfl ?_
      refine r_bipush (v := (12 : Int32)) i_N_status_164 (by decide) ?_
      refine r_isub i_N_status_166 ?_
      refine f_static o_N_status k_N_at s_N_at x_N_195 i_N_status_167 (c_N_at cF (by omega) (by decide)) rfl rfl (by decide) (Nat.le_of_ble_eq_true rfl) ?_
      refine r_goto 174 i_N_status_170 (by decide) ?_
      refine r_ireturn i_N_status_174 t_N_status rfl ?_
      first | exact ⟨rfl, hp9, rfl⟩ | exact ⟨rfl, ⟨hC, cFr.rfl⟩, rfl⟩
def m_bestLaw (Q : aQ) : Int32 × aQ := (1, Q)
theorem c_N_bestLaw (hC : CW w Q n) : Cm G 5 y_N_bestLaw [.ref 0] w n (m_bestLaw Q) := by
  refine Cm.of k_N_bestLaw l_N_bestLaw rfl rfl ?_
  refine r_iconst (v := (1 : Int32)) i_N_bestLaw_0 rfl ?_
  refine r_ireturn i_N_bestLaw_1 t_N_bestLaw rfl ?_
  first | exact ⟨rfl, hp9, rfl⟩ | exact ⟨rfl, ⟨hC, cFr.rfl⟩, rfl⟩
def m_seed (Q : aQ) (v : Int32) : Int32 × aQ := (Q.1.1 6, qT Q (upS Q.1 6 v))
theorem c_N_seed {v : Int32} (hC : CW w Q n) : Cm G 5 y_N_seed [.ref 0, .int v] w n (m_seed Q v) := by
  obtain ⟨D, L, fa, K, Z, hX⟩ := id hC
  obtain ⟨c0, cT, cK, cD, cS, cR, cW, cE, cF, cn⟩ := id hX
  have oT := cT.1
  have oK := cK.1
  have oD := cD.1
  have oS := cS.1
  have oR := cR.1
  have oW := cW.1
  have oE := cE.1
  refine Cm.of k_N_seed l_N_seed rfl rfl ?_
  obtain ⟨g0, g1, g2, g3, g4, g5, g6, g7, g8, hn⟩ := id cT
  refine r_aload_n (i := 0) i_N_seed_0 rfl rfl ?_
  refine r_getf (ci := 0) (T := Fk0) (k := 0) o_N_seed i_N_seed_1 x_N_10 rfl (by decide) rfl (by repeat (first | assumption | exact upw_s | refine (upw_n (by omega)).trans ?_)) (by first | assumption | omega) (by rfl) ?_
  refine r_getfN (ci := 1) (T := Fk1) (k := 6) o_N_seed i_N_seed_4 x_N_321 rfl (by decide) rfl (by repeat (first | assumption | exact upw_s | refine (upw_n (by omega)).trans ?_)) (by first | assumption | omega) (by rfl) ?_
  refine r_istore_2 i_N_seed_7 (by rw [l_N_seed]; decide) rfl ?_
  refine r_aload_n (i := 0) i_N_seed_8 rfl rfl ?_
  refine r_getf (ci := 0) (T := Fk0) (k := 0) o_N_seed i_N_seed_9 x_N_10 rfl (by decide) rfl (by repeat (first | assumption | exact upw_s | refine (upw_n (by omega)).trans ?_)) (by first | assumption | omega) (by rfl) ?_
  refine r_iload_n (i := 1) i_N_seed_12 rfl rfl ?_
  refine r_putfN (ci := 1) (T := Fk1) (k := 6) o_N_seed i_N_seed_13 x_N_321 rfl (by decide) rfl rfl (ok1 6 (by decide)) rfl (by repeat (first | assumption | exact upw_s | refine (upw_n (by omega)).trans ?_)) (by first | assumption | omega) (by exact Nat.le_of_ble_eq_true rfl) ?_
  refine r_iload_n (i := 2) i_N_seed_16 rfl rfl ?_
  refine r_ireturn i_N_seed_17 t_N_seed rfl ?_
  refine ⟨rfl, ⟨(hX.now (S := upS Q.1 6 v) ⟨upw_s, (by repeat (first | assumption | exact upw_s | refine (upw_n (by omega)).trans ?_)), (by repeat (first | assumption | exact upw_s | refine (upw_n (by omega)).trans ?_)), (by repeat (first | assumption | exact upw_s | refine (upw_n (by omega)).trans ?_)), (by repeat (first | assumption | exact upw_s | refine (upw_n (by omega)).trans ?_)), (by repeat (first | assumption | exact upw_s | refine (upw_n (by omega)).trans ?_)), (by repeat (first | assumption | exact upw_s | refine (upw_n (by omega)).trans ?_)), (by repeat (first | assumption | exact upw_s | refine (upw_n (by omega)).trans ?_)), (by repeat (first | assumption | exact upw_s | refine (upw_n (by omega)).trans ?_)), hn⟩ (fun j hj => upw_n (by omega))).cw, fun j hj => upw_n (by omega)⟩, rfl⟩
def m_image (Q : aQ) : Int32 × aQ := (1, (Q.1, Q.1, 1, Q.2.2.2))
theorem c_N_image (hC : CW w Q n) : Cm G 5 y_N_image [.ref 0] w n (m_image Q) := by
  obtain ⟨D, L, fa, K, Z, hX⟩ := id hC
  obtain ⟨c0, cT, cK, cD, cS, cR, cW, cE, cF, cn⟩ := id hX
  have oT := cT.1
  have oK := cK.1
  have oD := cD.1
  have oS := cS.1
  have oR := cR.1
  have oW := cW.1
  have oE := cE.1
  refine Cm.of k_N_image l_N_image rfl rfl ?_
  refine r_aload_n (i := 0) i_N_image_0 rfl rfl ?_
  refine r_getf (ci := 0) (T := Fk0) (k := 1) o_N_image i_N_image_1 x_N_16 rfl (by decide) rfl (by repeat (first | assumption | exact upw_s | refine (upw_n (by omega)).trans ?_)) (by first | assumption | omega) (by rfl) ?_
  refine r_aload_n (i := 0) i_N_image_4 rfl rfl ?_
  refine r_getf (ci := 0) (T := Fk0) (k := 0) o_N_image i_N_image_5 x_N_10 rfl (by decide) rfl (by repeat (first | assumption | exact upw_s | refine (upw_n (by omega)).trans ?_)) (by first | assumption | omega) (by rfl) ?_
  refine m_virtual o_N_image k_T_become v_T_become x_N_181 i_N_image_8 o_T_become (c_T_become cK cT (by omega)) rfl (rcv_ob (by repeat (first | assumption | exact upw_s | refine (upw_n (by omega)).trans ?_)) rfl (by first | assumption | omega)) rfl (by decide) (Nat.le_of_ble_eq_true rfl) (Nat.zero_le _) (Nat.zero_le _) (fun r1 w2 n1 hp9 => ?_)
  obtain ⟨rfl, ⟨hT2, hF2⟩, rfl⟩ := hp9
  have hX2 := hX.kept hT2 hF2
  obtain ⟨d0, dT, dK, dD, dS, dR, dW, dE, dF, dn⟩ := id hX2
  refine r_aload_n (i := 0) i_N_image_11 rfl rfl ?_
  refine r_iconst (v := (1 : Int32)) i_N_image_12 rfl ?_
  refine r_putf (ci := 0) (T := Fk0) (k := 3) o_N_image i_N_image_13 x_N_22 rfl (by decide) rfl rfl (ok0 3 (by decide)) rfl (by repeat (first | assumption | exact upw_s | refine (upw_n (by omega)).trans ?_)) (by first | assumption | omega) (by exact Nat.le_of_ble_eq_true rfl) ?_
  refine r_iconst (v := (1 : Int32)) i_N_image_16 rfl ?_
  refine r_ireturn i_N_image_17 t_N_image rfl ?_
  exact ⟨rfl, ⟨(hX2.flag upw_s (fun j hj => upw_n hj)).cw, fun j hj => (upw_n (by omega)).trans (hF2 j (by omega))⟩, rfl⟩
def m_back (Q : aQ) : Int32 × aQ := if Q.2.2.1 = 0 then rfz Q (-5) else (1, (Q.2.1, Q.2))
theorem c_N_back (hC : CW w Q n) : Cm G 5 y_N_back [.ref 0] w n (m_back Q) := by
  obtain ⟨D, L, fa, K, Z, hX⟩ := id hC
  obtain ⟨c0, cT, cK, cD, cS, cR, cW, cE, cF, cn⟩ := id hX
  have oT := cT.1
  have oK := cK.1
  have oD := cD.1
  have oS := cS.1
  have oR := cR.1
  have oW := cW.1
  have oE := cE.1
  refine Cm.of k_N_back l_N_back rfl rfl ?_
  unfold m_back
  refine r_aload_n (i := 0) i_N_back_0 rfl rfl ?_
  refine r_getf (ci := 0) (T := Fk0) (k := 3) o_N_back i_N_back_1 x_N_22 rfl (by decide) rfl (by repeat (first | assumption | exact upw_s | refine (upw_n (by omega)).trans ?_)) (by first | assumption | omega) (by rfl) ?_
  refine r_if_ne 14 i_N_back_4 (by decide) (fun h4 => ?_) (fun h4 => ?_)
  · skip
    rw [if_neg h4]
    refine r_aload_n (i := 0) i_N_back_14 rfl rfl ?_
    refine r_getf (ci := 0) (T := Fk0) (k := 0) o_N_back i_N_back_15 x_N_10 rfl (by decide) rfl (by repeat (first | assumption | exact upw_s | refine (upw_n (by omega)).trans ?_)) (by first | assumption | omega) (by rfl) ?_
    refine r_aload_n (i := 0) i_N_back_18 rfl rfl ?_
    refine r_getf (ci := 0) (T := Fk0) (k := 1) o_N_back i_N_back_19 x_N_16 rfl (by decide) rfl (by repeat (first | assumption | exact upw_s | refine (upw_n (by omega)).trans ?_)) (by first | assumption | omega) (by rfl) ?_
    refine m_virtual o_N_back k_T_become v_T_become x_N_181 i_N_back_22 o_T_become (c_T_become cT cK (by omega)) rfl (rcv_ob (by repeat (first | assumption | exact upw_s | refine (upw_n (by omega)).trans ?_)) rfl (by first | assumption | omega)) rfl (by decide) (Nat.le_of_ble_eq_true rfl) (Nat.zero_le _) (Nat.zero_le _) (fun r1 w2 n1 hp9 => ?_)
    obtain ⟨rfl, ⟨hT2, hF2⟩, rfl⟩ := hp9
    have hp9 : CW w2 (Q.2.1, Q.2) n1 ∧ cFr w w2 := ⟨(hX.now hT2 hF2).cw, fun j hj => hF2 j (by omega)⟩
    refine r_iconst (v := (1 : Int32)) i_N_back_25 rfl ?_
    refine r_ireturn i_N_back_26 t_N_back rfl ?_
    first | exact ⟨rfl, hp9, rfl⟩ | exact ⟨rfl, ⟨hC, cFr.rfl⟩, rfl⟩
  · skip
    rw [if_pos h4]
    refine r_aload_n (i := 0) i_N_back_7 rfl rfl ?_
    refine r_bipush (v := (-5 : Int32)) i_N_back_8 (by decide) ?_
    refine m_virtual o_N_back k_N_refuse v_N_refuse x_N_66 i_N_back_10 o_N_refuse (c_N_refuse hC) rfl (rcv_ob (by repeat (first | assumption | exact upw_s | refine (upw_n (by omega)).trans ?_)) rfl (by first | assumption | omega)) rfl (by decide) (Nat.le_of_ble_eq_true rfl) (Nat.zero_le _) (Nat.zero_le _) (fun rr10 wr10 nr10 hp9 => ?_)
    obtain ⟨rfl, hp9, rfl⟩ := hp9
    refine r_ireturn i_N_back_13 t_N_back rfl ?_
    first | exact ⟨rfl, hp9, rfl⟩ | exact ⟨rfl, ⟨hC, cFr.rfl⟩, rfl⟩
abbrev qR (Q : aQ) (f : Nat → Int32) (z : Nat) : aQ := (Q.1, Q.2.1, Q.2.2.1, Q.2.2.2.1, f, z, Q.2.2.2.2.2.2)
def m_wipe (Q : aQ) : Int32 × aQ := (nI Q.2.2.2.2.2.1, qR Q Q.2.2.2.2.1 0)
theorem c_N_wipe (hC : CW w Q n) : Cm G 5 y_N_wipe [.ref 0] w n (m_wipe Q) := by
  obtain ⟨D, L, fa, K, Z, hX⟩ := id hC
  obtain ⟨c0, cT, cK, cD, cS, cR, cW, cE, cF, cn⟩ := id hX
  have oT := cT.1
  have oK := cK.1
  have oD := cD.1
  have oS := cS.1
  have oR := cR.1
  have oW := cW.1
  have oE := cE.1
  refine Cm.of k_N_wipe l_N_wipe rfl rfl ?_
  refine r_aload_n (i := 0) i_N_wipe_0 rfl rfl ?_
  refine r_getf (ci := 0) (T := Fk0) (k := 5) o_N_wipe i_N_wipe_1 x_N_36 rfl (by decide) rfl (by repeat (first | assumption | exact upw_s | refine (upw_n (by omega)).trans ?_)) (by first | assumption | omega) (by rfl) ?_
  refine m_virtual o_N_wipe k_R_clear v_R_clear x_N_178 i_N_wipe_4 o_R_clear (c_R_clear cR) rfl (rcv_ob (by repeat (first | assumption | exact upw_s | refine (upw_n (by omega)).trans ?_)) rfl (by first | assumption | omega)) rfl (by decide) (Nat.le_of_ble_eq_true rfl) (Nat.zero_le _) (Nat.zero_le _) (fun r1 w2 n1 hp9 => ?_)
  obtain ⟨rfl, ⟨hR2, hF2⟩, rfl⟩ := hp9
  have hp9 : CW w2 (qR Q Q.2.2.2.2.1 0) n1 ∧ cFr w w2 := ⟨(hX.tape hR2 (fun j hj => hF2 j (by omega))).cw, fun j hj => hF2 j (by omega)⟩
  refine r_ireturn i_N_wipe_7 t_N_wipe rfl ?_
  first | exact ⟨rfl, hp9, rfl⟩ | exact ⟨rfl, ⟨hC, cFr.rfl⟩, rfl⟩
def m_feed (Q : aQ) (v : Int32) : Int32 × aQ := if wi0 v 0 255 = true then (if decide (250 ≤ Q.2.2.2.2.2.1) = true then rfz Q (-6) else (nI (Q.2.2.2.2.2.1 + 1), qR Q (upd Q.2.2.2.2.1 Q.2.2.2.2.2.1 v) (Q.2.2.2.2.2.1 + 1))) else rfz Q (-2)
theorem c_N_feed {v : Int32} (hC : CW w Q n) (hQ : QOk Q) : Cm G 5 y_N_feed [.ref 0, .int v] w n (m_feed Q v) := by
  obtain ⟨D, L, fa, K, Z, hX⟩ := id hC
  obtain ⟨c0, cT, cK, cD, cS, cR, cW, cE, cF, cn⟩ := id hX
  have oT := cT.1
  have oK := cK.1
  have oD := cD.1
  have oS := cS.1
  have oR := cR.1
  have oW := cW.1
  have oE := cE.1
  refine Cm.of k_N_feed l_N_feed rfl rfl ?_
  unfold m_feed
  refine r_iload_n (i := 1) i_N_feed_0 rfl rfl ?_
  refine r_iconst (v := (0 : Int32)) i_N_feed_1 rfl ?_
  refine r_sipush (v := (255 : Int32)) i_N_feed_2 (by decide) ?_
  refine f_static o_N_feed k_N_isWithin s_N_isWithin x_N_62 i_N_feed_5 (c_N_isWithin) rfl rfl (by decide) (Nat.le_of_ble_eq_true rfl) ?_
  refine r_if_ne 18 i_N_feed_8 (by decide) (fun h8 => ?_) (fun h8 => ?_)
  · skip
    have h8 := bI_ne0.mp h8
    try rw [h8]
    refine r_aload_n (i := 0) i_N_feed_18 rfl rfl ?_
    refine r_getf (ci := 0) (T := Fk0) (k := 5) o_N_feed i_N_feed_19 x_N_36 rfl (by decide) rfl (by repeat (first | assumption | exact upw_s | refine (upw_n (by omega)).trans ?_)) (by first | assumption | omega) (by rfl) ?_
    refine f_virtual o_N_feed k_R_isFull v_R_isFull x_N_171 i_N_feed_22 o_R_isFull (c_R_isFull cR hQ.2.2.2) rfl (rcv_ob (by repeat (first | assumption | exact upw_s | refine (upw_n (by omega)).trans ?_)) rfl (by first | assumption | omega)) rfl (by decide) (Nat.le_of_ble_eq_true rfl) ?_
    refine r_if_eq 37 i_N_feed_25 (by decide) (fun h25 => ?_) (fun h25 => ?_)
    · skip
      have h25 := bI_eq0.mp h25
      try rw [h25]
      refine r_aload_n (i := 0) i_N_feed_37 rfl rfl ?_
      refine r_getf (ci := 0) (T := Fk0) (k := 5) o_N_feed i_N_feed_38 x_N_36 rfl (by decide) rfl (by repeat (first | assumption | exact upw_s | refine (upw_n (by omega)).trans ?_)) (by first | assumption | omega) (by rfl) ?_
      refine r_iload_n (i := 1) i_N_feed_41 rfl rfl ?_
      refine m_virtual o_N_feed k_R_add v_R_add x_N_175 i_N_feed_42 o_R_add (c_R_add cR (Nat.not_le.mp (of_decide_eq_false h25))) rfl (rcv_ob (by repeat (first | assumption | exact upw_s | refine (upw_n (by omega)).trans ?_)) rfl (by first | assumption | omega)) rfl (by decide) (Nat.le_of_ble_eq_true rfl) (Nat.zero_le _) (Nat.zero_le _) (fun r1 w2 n1 hp9 => ?_)
      obtain ⟨rfl, ⟨hR2, hF2⟩, rfl⟩ := hp9
      have hp9 : CW w2 (qR Q (upd Q.2.2.2.2.1 Q.2.2.2.2.2.1 v) (Q.2.2.2.2.2.1 + 1)) n1 ∧ cFr w w2 := ⟨(hX.tape hR2 hF2).cw, fun j hj => hF2 j (by omega)⟩
      refine r_ireturn i_N_feed_45 t_N_feed rfl ?_
      first | exact ⟨rfl, hp9, rfl⟩ | exact ⟨rfl, ⟨hC, cFr.rfl⟩, rfl⟩
    · skip
      have h25 := bI_ne0.mp h25
      try rw [h25]
      refine r_aload_n (i := 0) i_N_feed_28 rfl rfl ?_
      refine r_bipush (v := (-6 : Int32)) i_N_feed_29 (by decide) ?_
      refine m_virtual o_N_feed k_N_refuse v_N_refuse x_N_66 i_N_feed_31 o_N_refuse (c_N_refuse hC) rfl (rcv_ob (by repeat (first | assumption | exact upw_s | refine (upw_n (by omega)).trans ?_)) rfl (by first | assumption | omega)) rfl (by decide) (Nat.le_of_ble_eq_true rfl) (Nat.zero_le _) (Nat.zero_le _) (fun rr31 wr31 nr31 hp9 => ?_)
      obtain ⟨rfl, hp9, rfl⟩ := hp9
      refine r_goto 45 i_N_feed_34 (by decide) ?_
      refine r_ireturn i_N_feed_45 t_N_feed rfl ?_
      first | exact ⟨rfl, hp9, rfl⟩ | exact ⟨rfl, ⟨hC, cFr.rfl⟩, rfl⟩
  · skip
    have h8 := bI_eq0.mp h8
    try rw [h8]
    refine r_aload_n (i := 0) i_N_feed_11 rfl rfl ?_
    refine r_bipush (v := (-2 : Int32)) i_N_feed_12 (by decide) ?_
    refine m_virtual o_N_feed k_N_refuse v_N_refuse x_N_66 i_N_feed_14 o_N_refuse (c_N_refuse hC) rfl (rcv_ob (by repeat (first | assumption | exact upw_s | refine (upw_n (by omega)).trans ?_)) rfl (by first | assumption | omega)) rfl (by decide) (Nat.le_of_ble_eq_true rfl) (Nat.zero_le _) (Nat.zero_le _) (fun rr14 wr14 nr14 hp9 => ?_)
    obtain ⟨rfl, hp9, rfl⟩ := hp9
    refine r_ireturn i_N_feed_17 t_N_feed rfl ?_
    first | exact ⟨rfl, hp9, rfl⟩ | exact ⟨rfl, ⟨hC, cFr.rfl⟩, rfl⟩
def m_town (Q : aQ) : Int32 × aQ := (readA Q.2.2.2.2.1 Q.2.2.2.2.2.1 Q.1, if -20 < readA Q.2.2.2.2.1 Q.2.2.2.2.2.1 Q.1 then qT (qR Q Q.2.2.2.2.1 0) (rdE (readS Q.2.2.2.2.1 Q.2.2.2.2.2.1 Q.1).2).2.2 else rfQ (qR Q Q.2.2.2.2.1 0) (-2))
theorem c_N_town (hfm : (gfm G).category = 1) (hC : CW w Q n) (hQ : QOk Q) : Cm G 9 y_N_town [.ref 0] w n (m_town Q) := by
  obtain ⟨D, L, fa, K, Z, hX⟩ := id hC
  obtain ⟨c0, cT, cK, cD, cS, cR, cW, cE, cF, cn⟩ := id hX
  have oT := cT.1
  have oK := cK.1
  have oD := cD.1
  have oS := cS.1
  have oR := cR.1
  have oW := cW.1
  have oE := cE.1
  refine Cm.of k_N_town l_N_town rfl rfl ?_
  obtain ⟨P, B, hP, hP7, hB, hB7, -⟩ := id hQ.1
  unfold m_town
  have call := fun (w1 : aW) (hR : RW w1 33 Q.2.2.2.2.1 Q.2.2.2.2.2.1 L fa n) (hT : TW w1 19 Q.1 n) => c_R_read (G := G) hfm hR hT (by omega) hQ.2.2.2 ⟨P, B, hP, hP7, hB, hB7⟩
  generalize readA Q.2.2.2.2.1 Q.2.2.2.2.2.1 Q.1 = a at *
  generalize rdE (readS Q.2.2.2.2.1 Q.2.2.2.2.2.1 Q.1).2 = q' at *
  refine r_aload_n (i := 0) i_N_town_0 rfl rfl ?_
  refine r_getf (ci := 0) (T := Fk0) (k := 2) o_N_town i_N_town_1 x_N_19 rfl (by decide) rfl (by repeat (first | assumption | exact upw_s | refine (upw_n (by omega)).trans ?_)) (by first | assumption | omega) (by rfl) ?_
  refine r_aload_n (i := 0) i_N_town_4 rfl rfl ?_
  refine r_getf (ci := 0) (T := Fk0) (k := 0) o_N_town i_N_town_5 x_N_10 rfl (by decide) rfl (by repeat (first | assumption | exact upw_s | refine (upw_n (by omega)).trans ?_)) (by first | assumption | omega) (by rfl) ?_
  refine m_virtual o_N_town k_T_become v_T_become x_N_181 i_N_town_8 o_T_become (c_T_become cD cT (by omega)) rfl (rcv_ob (by repeat (first | assumption | exact upw_s | refine (upw_n (by omega)).trans ?_)) rfl (by first | assumption | omega)) rfl (by decide) (Nat.le_of_ble_eq_true rfl) (Nat.zero_le _) (Nat.zero_le _) (fun r1 w2 n1 hp9 => ?_)
  obtain ⟨rfl, ⟨hT2, hF2⟩, rfl⟩ := hp9
  have hX2 := hX.draft hT2 hF2
  obtain ⟨d0, dT, dK, dD, dS, dR, dW, dE, dF, dn⟩ := id hX2
  have uR := dR.1
  refine r_aload_n (i := 0) i_N_town_11 rfl rfl ?_
  refine r_getf (ci := 0) (T := Fk0) (k := 5) o_N_town i_N_town_12 x_N_36 rfl (by decide) rfl (by repeat (first | assumption | exact upw_s | refine (upw_n (by omega)).trans ?_)) (by first | assumption | omega) (by rfl) ?_
  refine r_aload_n (i := 0) i_N_town_15 rfl rfl ?_
  refine r_getf (ci := 0) (T := Fk0) (k := 2) o_N_town i_N_town_16 x_N_19 rfl (by decide) rfl (by repeat (first | assumption | exact upw_s | refine (upw_n (by omega)).trans ?_)) (by first | assumption | omega) (by rfl) ?_
  refine m_virtual o_N_town k_R_read v_R_read x_N_185 i_N_town_19 o_R_read (call w2 dR dD) rfl (rcv_ob (by repeat (first | assumption | exact upw_s | refine (upw_n (by omega)).trans ?_)) rfl (by first | assumption | omega)) rfl (by decide) (Nat.le_of_ble_eq_true rfl) (Nat.zero_le _) (Nat.zero_le _) (fun r1 w3 n1 hp9 => ?_)
  obtain ⟨rfl, ⟨hR3, hT3, hF3⟩, rfl⟩ := hp9
  have x0 : w3 0 = _ := (hF3 0 (by omega) (by omega)).trans d0
  have uR3 := hR3.1
  refine r_istore_1 i_N_town_22 (by rw [l_N_town]; decide) rfl ?_
  refine r_aload_n (i := 0) i_N_town_23 rfl rfl ?_
  refine r_getf (ci := 0) (T := Fk0) (k := 5) o_N_town i_N_town_24 x_N_36 rfl (by decide) rfl (by repeat (first | assumption | exact upw_s | refine (upw_n (by omega)).trans ?_)) (by first | assumption | omega) (by rfl) ?_
  refine m_virtual o_N_town k_R_clear v_R_clear x_N_178 i_N_town_27 o_R_clear (c_R_clear hR3) rfl (rcv_ob (by repeat (first | assumption | exact upw_s | refine (upw_n (by omega)).trans ?_)) rfl (by first | assumption | omega)) rfl (by decide) (Nat.le_of_ble_eq_true rfl) (Nat.zero_le _) (Nat.zero_le _) (fun r1 w4 n1 hp9 => ?_)
  obtain ⟨rfl, ⟨hR4, hF4⟩, rfl⟩ := hp9
  have hX4 : CX w4 (qR Q Q.2.2.2.2.1 0) q'.2.2 q'.1 q'.2.1 K Z n1 := ⟨(hF4 0 (by omega)).trans x0, dT.fr (fun j q1 q2 => (hF4 j (by omega)).trans (hF3 j (by omega) (by omega))), dK.fr (fun j q1 q2 => (hF4 j (by omega)).trans (hF3 j (by omega) (by omega))), hT3.fr (fun j q1 q2 => hF4 j (by omega)), dS.fr (fun j q1 q2 => (hF4 j (by omega)).trans (hF3 j (by omega) (by omega))), hR4, dW.fr (fun j q1 q2 => (hF4 j (by omega)).trans (hF3 j (by omega) (by omega))), dE.fr (fun j q1 q2 => (hF4 j (by omega)).trans (hF3 j (by omega) (by omega))), ((hF4 43 (by omega)).trans (hF3 43 (by omega) (by omega))).trans dF, dn⟩
  have hF' : cFr w w4 := fun j hj => (hF4 j (by omega)).trans ((hF3 j (by omega) (by omega)).trans (hF2 j (by omega)))
  obtain ⟨y0, yT, yK, yD, yS, yR, yW, yE, yF, yn⟩ := id hX4
  have zT := yT.1
  refine r_pop i_N_town_30 rfl ?_
  refine r_iload_n (i := 1) i_N_town_31 rfl rfl ?_
  refine r_bipush (v := (-20 : Int32)) i_N_town_32 (by decide) ?_
  refine r_icmp_gt 47 i_N_town_34 (by decide) (fun h34 => ?_) (fun h34 => ?_)
  · skip
    rw [if_pos h34]
    refine r_aload_n (i := 0) i_N_town_47 rfl rfl ?_
    refine r_getf (ci := 0) (T := Fk0) (k := 0) o_N_town i_N_town_48 x_N_10 rfl (by decide) rfl (by repeat (first | assumption | exact upw_s | refine (upw_n (by omega)).trans ?_)) (by first | assumption | omega) (by rfl) ?_
    refine r_aload_n (i := 0) i_N_town_51 rfl rfl ?_
    refine r_getf (ci := 0) (T := Fk0) (k := 2) o_N_town i_N_town_52 x_N_19 rfl (by decide) rfl (by repeat (first | assumption | exact upw_s | refine (upw_n (by omega)).trans ?_)) (by first | assumption | omega) (by rfl) ?_
    refine m_virtual o_N_town k_T_become v_T_become x_N_181 i_N_town_55 o_T_become (c_T_become yT yD (by omega)) rfl (rcv_ob (by repeat (first | assumption | exact upw_s | refine (upw_n (by omega)).trans ?_)) rfl (by first | assumption | omega)) rfl (by decide) (Nat.le_of_ble_eq_true rfl) (Nat.zero_le _) (Nat.zero_le _) (fun r1 w5 n1 hp9 => ?_)
    obtain ⟨rfl, ⟨hT5, hF5⟩, rfl⟩ := hp9
    have hp9 : CW w5 (qT (qR Q Q.2.2.2.2.1 0) q'.2.2) n1 ∧ cFr w w5 := ⟨(hX4.now hT5 hF5).cw, fun j hj => (hF5 j (by omega)).trans (hF' j hj)⟩
    refine r_iload_n (i := 1) i_N_town_58 rfl rfl ?_
    refine r_ireturn i_N_town_59 t_N_town rfl ?_
    first | exact ⟨rfl, hp9, rfl⟩ | exact ⟨rfl, ⟨hp9.1, fun j hj => (hp9.2 j hj).trans (hF' j hj)⟩, rfl⟩
  · skip
    rw [if_neg h34]
    refine r_aload_n (i := 0) i_N_town_37 rfl rfl ?_
    refine r_bipush (v := (-2 : Int32)) i_N_town_38 (by decide) ?_
    refine m_virtual o_N_town k_N_refuse v_N_refuse x_N_66 i_N_town_40 o_N_refuse (c_N_refuse hX4.cw) rfl (rcv_ob (by repeat (first | assumption | exact upw_s | refine (upw_n (by omega)).trans ?_)) rfl (by first | assumption | omega)) rfl (by decide) (Nat.le_of_ble_eq_true rfl) (Nat.zero_le _) (Nat.zero_le _) (fun rr40 wr40 nr40 hp9 => ?_)
    obtain ⟨rfl, hp9, rfl⟩ := hp9
    refine r_pop i_N_town_43 rfl ?_
    refine r_goto 58 i_N_town_44 (by decide) ?_
    refine r_iload_n (i := 1) i_N_town_58 rfl rfl ?_
    refine r_ireturn i_N_town_59 t_N_town rfl ?_
    first | exact ⟨rfl, hp9, rfl⟩ | exact ⟨rfl, ⟨hp9.1, fun j hj => (hp9.2 j hj).trans (hF' j hj)⟩, rfl⟩
end PUBV
