-- THE CLASS: LOOPS OVER PEOPLE AND BARGAINS
section PUBD
variable {G : gE} {w : aW} {n : Nat} {Q : aQ}
def m_dearest (Q : aQ) : Int32 × aQ := frst Q (argL (fun i => bst Q (less1 Q (nI i))) (nP Q)).1
theorem c_N_dearest (hC : CW w Q n) (hQ : QOk Q) : Cm G 6 y_N_dearest [.ref 0] w n (m_dearest Q) := by
  obtain ⟨P, B, hP, hP7, hB, hB7, hPI⟩ := id hQ.1
  refine Cm.of k_N_dearest l_N_dearest rfl rfl ?_
  have e9 : (1 : Int32) <<< (Q.1.1 0 &&& 31) - 1 = allW P := by rw [hP]; rfl
  unfold m_dearest
  rw [nP_eq hP hP7]
  have e8 : ∀ i, bst Q (less1 Q (nI i)) = bestV Q.1 B P (allW P &&& ((1 : Int32) <<< (nI i &&& 31) ^^^ (-1))) := by
    intro i
    unfold bst less1
    rw [nP_eq hP hP7, nB_eq hB hB7]
  have hloop : ∀ m i, i + m = P → ∀ (x : Option Value) (w1 : aW), CW w1 Q n → cFr w w1 → Go G 6 y_N_dearest 6 [some (.ref 0), some (.int (argL (fun i => bst Q (less1 Q (nI i))) i).1), some (.int (argL (fun i => bst Q (less1 Q (nI i))) i).2), some (.int (nI i)), x] [] w1 n 0 0 (fun r w' n' => r = some (.int (frst Q (argL (fun i => bst Q (less1 Q (nI i))) P).1).1) ∧ (CW w' (frst Q (argL (fun i => bst Q (less1 Q (nI i))) P).1).2 n ∧ cFr w w') ∧ n' = n) := by
    intro m
    induction m with
    | zero =>
      intro i hi x w1 hC hFF
      obtain ⟨D, L, fa, K, Z, hX⟩ := id hC
      obtain ⟨c0, cT, cK, cD, cS, cR, cW, cE, cF, cn⟩ := id hX
      have oT := cT.1
      have oK := cK.1
      have oD := cD.1
      have oS := cS.1
      have oR := cR.1
      have oW := cW.1
      have oE := cE.1
      have hi : i = P := by omega
      subst hi
      unfold frst
      refine r_iload_n (i := 3) i_N_dearest_6 rfl rfl ?_
      refine r_aload_n (i := 0) i_N_dearest_7 rfl rfl ?_
      refine r_getf (ci := 0) (T := Fk0) (k := 0) o_N_dearest i_N_dearest_8 x_N_10 rfl (by decide) rfl (by repeat (first | assumption | exact upw_s | refine (upw_n (by omega)).trans ?_)) (by first | assumption | omega) (by rfl) ?_
      refine r_getfN (ci := 1) (T := Fk1) (k := 0) o_N_dearest i_N_dearest_11 x_N_124 rfl (by decide) rfl (by repeat (first | assumption | exact upw_s | refine (upw_n (by omega)).trans ?_)) (by first | assumption | omega) (by rfl) ?_
      refine r_icmp_ge 65 i_N_dearest_14 (by decide) (fun h14 => ?_) (fun h14 => (absurd (by rw [hP]; exact nI_le (Nat.le_refl _) (by omega)) h14))
      refine r_iload_n (i := 1) i_N_dearest_65 rfl rfl ?_
      refine r_iconst (v := (-1 : Int32)) i_N_dearest_66 rfl ?_
      refine r_icmp_ne 79 i_N_dearest_67 (by decide) (fun h67 => ?_) (fun h67 => ?_)
      · skip
        rw [if_neg h67]
        refine r_iload_n (i := 1) i_N_dearest_79 rfl rfl ?_
        refine r_ireturn i_N_dearest_80 t_N_dearest rfl ?_
        first | exact ⟨rfl, ⟨hp9.1, fun j hj => (hp9.2 j hj).trans (hFF j hj)⟩, rfl⟩ | exact ⟨rfl, ⟨hC, hFF⟩, rfl⟩
      · skip
        rw [if_pos h67]
        refine r_aload_n (i := 0) i_N_dearest_70 rfl rfl ?_
        refine r_bipush (v := (-5 : Int32)) i_N_dearest_71 (by decide) ?_
        refine m_virtual o_N_dearest k_N_refuse v_N_refuse x_N_66 i_N_dearest_73 o_N_refuse (c_N_refuse hC) rfl (rcv_ob (by repeat (first | assumption | exact upw_s | refine (upw_n (by omega)).trans ?_)) rfl (by first | assumption | omega)) rfl (by decide) (Nat.le_of_ble_eq_true rfl) (Nat.zero_le _) (Nat.zero_le _) (fun rr73 wr73 nr73 hp9 => ?_)
        obtain ⟨rfl, hp9, rfl⟩ := hp9
        refine r_goto 80 i_N_dearest_76 (by decide) ?_
        refine r_ireturn i_N_dearest_80 t_N_dearest rfl ?_
        first | exact ⟨rfl, ⟨hp9.1, fun j hj => (hp9.2 j hj).trans (hFF j hj)⟩, rfl⟩ | exact ⟨rfl, ⟨hC, hFF⟩, rfl⟩
    | succ m ih =>
      intro i hi x w1 hC hFF
      obtain ⟨D, L, fa, K, Z, hX⟩ := id hC
      obtain ⟨c0, cT, cK, cD, cS, cR, cW, cE, cF, cn⟩ := id hX
      have oT := cT.1
      have oK := cK.1
      have oD := cD.1
      have oS := cS.1
      have oR := cR.1
      have oW := cW.1
      have oE := cE.1
      have ih' := ih (i + 1) (by omega)
      have e7 : argL (fun i => bst Q (less1 Q (nI i))) (i + 1) = if (argL (fun i => bst Q (less1 Q (nI i))) i).1 = -1 ∨ bst Q (less1 Q (nI i)) < (argL (fun i => bst Q (less1 Q (nI i))) i).2 then (nI i, bst Q (less1 Q (nI i))) else argL (fun i => bst Q (less1 Q (nI i))) i := rfl
      rw [e7] at ih'
      rw [e8] at ih'
      generalize argL (fun i => bst Q (less1 Q (nI i))) i = a at *
      refine r_iload_n (i := 3) i_N_dearest_6 rfl rfl ?_
      refine r_aload_n (i := 0) i_N_dearest_7 rfl rfl ?_
      refine r_getf (ci := 0) (T := Fk0) (k := 0) o_N_dearest i_N_dearest_8 x_N_10 rfl (by decide) rfl (by repeat (first | assumption | exact upw_s | refine (upw_n (by omega)).trans ?_)) (by first | assumption | omega) (by rfl) ?_
      refine r_getfN (ci := 1) (T := Fk1) (k := 0) o_N_dearest i_N_dearest_11 x_N_124 rfl (by decide) rfl (by repeat (first | assumption | exact upw_s | refine (upw_n (by omega)).trans ?_)) (by first | assumption | omega) (by rfl) ?_
      refine r_icmp_ge 65 i_N_dearest_14 (by decide) (fun h14 => (absurd h14 (by rw [hP]; exact nI_ge (by omega) (by omega)))) (fun h14 => ?_)
      refine r_aload_n (i := 0) i_N_dearest_17 rfl rfl ?_
      refine r_getf (ci := 0) (T := Fk0) (k := 7) o_N_dearest i_N_dearest_18 x_N_50 rfl (by decide) rfl (by repeat (first | assumption | exact upw_s | refine (upw_n (by omega)).trans ?_)) (by first | assumption | omega) (by rfl) ?_
      refine r_aload_n (i := 0) i_N_dearest_21 rfl rfl ?_
      refine r_getf (ci := 0) (T := Fk0) (k := 0) o_N_dearest i_N_dearest_22 x_N_10 rfl (by decide) rfl (by repeat (first | assumption | exact upw_s | refine (upw_n (by omega)).trans ?_)) (by first | assumption | omega) (by rfl) ?_
      refine r_aload_n (i := 0) i_N_dearest_25 rfl rfl ?_
      refine r_getf (ci := 0) (T := Fk0) (k := 0) o_N_dearest i_N_dearest_26 x_N_10 rfl (by decide) rfl (by repeat (first | assumption | exact upw_s | refine (upw_n (by omega)).trans ?_)) (by first | assumption | omega) (by rfl) ?_
      refine f_virtual o_N_dearest k_T_everybody v_T_everybody x_N_251 i_N_dearest_29 o_T_everybody (c_T_everybody cT) rfl (rcv_ob (by repeat (first | assumption | exact upw_s | refine (upw_n (by omega)).trans ?_)) rfl (by first | assumption | omega)) rfl (by decide) (Nat.le_of_ble_eq_true rfl) ?_
      refine r_iconst (v := (1 : Int32)) i_N_dearest_32 rfl ?_
      refine r_iload_n (i := 3) i_N_dearest_33 rfl rfl ?_
      refine r_ishl i_N_dearest_34 ?_
      refine r_iconst (v := (-1 : Int32)) i_N_dearest_35 rfl ?_
      refine r_ixor i_N_dearest_36 ?_
      refine r_iand i_N_dearest_37 ?_
      rw [e9]
      refine m_virtual o_N_dearest k_E_bestValue v_E_bestValue x_N_254 i_N_dearest_38 o_E_bestValue (c_E_bestValue cE cT (by omega) hP hP7 hB hB7) rfl (rcv_ob (by repeat (first | assumption | exact upw_s | refine (upw_n (by omega)).trans ?_)) rfl (by first | assumption | omega)) rfl (by decide) (Nat.le_of_ble_eq_true rfl) (Nat.zero_le _) (Nat.zero_le _) (fun r1 w2 n1 hp9 => ?_)
      obtain ⟨rfl, ⟨⟨Z', hE2⟩, hF2⟩, rfl⟩ := hp9
      have hC2 : CW w2 Q n1 := (hX.srch hE2 hF2).cw
      have hFF2 : cFr w w2 := fun j hj => (hF2 j (by omega)).trans (hFF j hj)
      refine r_istore_4 i_N_dearest_41 (by rw [l_N_dearest]; decide) rfl ?_
      refine r_iload_n (i := 1) i_N_dearest_43 rfl rfl ?_
      refine r_iconst (v := (-1 : Int32)) i_N_dearest_44 rfl ?_
      refine r_icmp_eq 54 i_N_dearest_45 (by decide) (fun h45 => ?_) (fun h45 => ?_)
      · skip
        rw [if_pos (Or.inl h45)] at ih'
        refine r_iload_n (i := 3) i_N_dearest_54 rfl rfl ?_
        refine r_istore_1 i_N_dearest_55 (by rw [l_N_dearest]; decide) rfl ?_
        refine r_iload (i := 4) i_N_dearest_56 rfl ?_
        refine r_istore_2 i_N_dearest_58 (by rw [l_N_dearest]; decide) rfl ?_
        refine r_iinc_3 (v := (1 : Int32)) i_N_dearest_59 rfl (by rw [l_N_dearest]; decide) rfl ?_
        refine r_goto 6 i_N_dearest_62 (by decide) ?_
        rw [nI_1]
        exact ih' _ w2 hC2 hFF2
      · skip
        refine r_iload (i := 4) i_N_dearest_48 rfl ?_
        refine r_iload_n (i := 2) i_N_dearest_50 rfl rfl ?_
        refine r_icmp_ge 59 i_N_dearest_51 (by decide) (fun h51 => ?_) (fun h51 => ?_)
        · skip
          rw [if_neg (fun q => q.elim (fun q => h45 q) (fun q => absurd q (Int32.not_lt.mpr h51)))] at ih'
          refine r_iinc_3 (v := (1 : Int32)) i_N_dearest_59 rfl (by rw [l_N_dearest]; decide) rfl ?_
          refine r_goto 6 i_N_dearest_62 (by decide) ?_
          rw [nI_1]
          exact ih' _ w2 hC2 hFF2
        · skip
          rw [if_pos (Or.inr (Int32.not_le.mp h51))] at ih'
          refine r_iload_n (i := 3) i_N_dearest_54 rfl rfl ?_
          refine r_istore_1 i_N_dearest_55 (by rw [l_N_dearest]; decide) rfl ?_
          refine r_iload (i := 4) i_N_dearest_56 rfl ?_
          refine r_istore_2 i_N_dearest_58 (by rw [l_N_dearest]; decide) rfl ?_
          refine r_iinc_3 (v := (1 : Int32)) i_N_dearest_59 rfl (by rw [l_N_dearest]; decide) rfl ?_
          refine r_goto 6 i_N_dearest_62 (by decide) ?_
          rw [nI_1]
          exact ih' _ w2 hC2 hFF2
  refine r_iconst (v := (-1 : Int32)) i_N_dearest_0 rfl ?_
  refine r_istore_1 i_N_dearest_1 (by rw [l_N_dearest]; decide) rfl ?_
  refine r_iconst (v := (0 : Int32)) i_N_dearest_2 rfl ?_
  refine r_istore_2 i_N_dearest_3 (by rw [l_N_dearest]; decide) rfl ?_
  refine r_iconst (v := (0 : Int32)) i_N_dearest_4 rfl ?_
  refine r_istore_3 i_N_dearest_5 (by rw [l_N_dearest]; decide) rfl ?_
  exact hloop P 0 (by omega) none w hC cFr.rfl
def m_worst (Q : aQ) : Int32 × aQ := frst Q (argM (fun i => harmV Q.1 i (nB Q)) (nP Q)).1
theorem c_N_worst (hC : CW w Q n) (hQ : QOk Q) : Cm G 6 y_N_worst [.ref 0] w n (m_worst Q) := by
  obtain ⟨P, B, hP, hP7, hB, hB7, hPI⟩ := id hQ.1
  refine Cm.of k_N_worst l_N_worst rfl rfl ?_
  unfold m_worst
  rw [nP_eq hP hP7, nB_eq hB hB7]
  have hloop : ∀ m i, i + m = P → ∀ (x : Option Value) (w1 : aW), CW w1 Q n → cFr w w1 → Go G 6 y_N_worst 6 [some (.ref 0), some (.int (argM (fun i => harmV Q.1 i B) i).1), some (.int (argM (fun i => harmV Q.1 i B) i).2), some (.int (nI i)), x] [] w1 n 0 0 (fun r w' n' => r = some (.int (frst Q (argM (fun i => harmV Q.1 i B) P).1).1) ∧ (CW w' (frst Q (argM (fun i => harmV Q.1 i B) P).1).2 n ∧ cFr w w') ∧ n' = n) := by
    intro m
    induction m with
    | zero =>
      intro i hi x w1 hC hFF
      obtain ⟨D, L, fa, K, Z, hX⟩ := id hC
      obtain ⟨c0, cT, cK, cD, cS, cR, cW, cE, cF, cn⟩ := id hX
      have oT := cT.1
      have oK := cK.1
      have oD := cD.1
      have oS := cS.1
      have oR := cR.1
      have oW := cW.1
      have oE := cE.1
      have hi : i = P := by omega
      subst hi
      unfold frst
      refine r_iload_n (i := 3) i_N_worst_6 rfl rfl ?_
      refine r_aload_n (i := 0) i_N_worst_7 rfl rfl ?_
      refine r_getf (ci := 0) (T := Fk0) (k := 0) o_N_worst i_N_worst_8 x_N_10 rfl (by decide) rfl (by repeat (first | assumption | exact upw_s | refine (upw_n (by omega)).trans ?_)) (by first | assumption | omega) (by rfl) ?_
      refine r_getfN (ci := 1) (T := Fk1) (k := 0) o_N_worst i_N_worst_11 x_N_124 rfl (by decide) rfl (by repeat (first | assumption | exact upw_s | refine (upw_n (by omega)).trans ?_)) (by first | assumption | omega) (by rfl) ?_
      refine r_icmp_ge 53 i_N_worst_14 (by decide) (fun h14 => ?_) (fun h14 => (absurd (by rw [hP]; exact nI_le (Nat.le_refl _) (by omega)) h14))
      refine r_iload_n (i := 1) i_N_worst_53 rfl rfl ?_
      refine r_iconst (v := (-1 : Int32)) i_N_worst_54 rfl ?_
      refine r_icmp_ne 67 i_N_worst_55 (by decide) (fun h55 => ?_) (fun h55 => ?_)
      · skip
        rw [if_neg h55]
        refine r_iload_n (i := 1) i_N_worst_67 rfl rfl ?_
        refine r_ireturn i_N_worst_68 t_N_worst rfl ?_
        first | exact ⟨rfl, ⟨hp9.1, fun j hj => (hp9.2 j hj).trans (hFF j hj)⟩, rfl⟩ | exact ⟨rfl, ⟨hC, hFF⟩, rfl⟩
      · skip
        rw [if_pos h55]
        refine r_aload_n (i := 0) i_N_worst_58 rfl rfl ?_
        refine r_bipush (v := (-5 : Int32)) i_N_worst_59 (by decide) ?_
        refine m_virtual o_N_worst k_N_refuse v_N_refuse x_N_66 i_N_worst_61 o_N_refuse (c_N_refuse hC) rfl (rcv_ob (by repeat (first | assumption | exact upw_s | refine (upw_n (by omega)).trans ?_)) rfl (by first | assumption | omega)) rfl (by decide) (Nat.le_of_ble_eq_true rfl) (Nat.zero_le _) (Nat.zero_le _) (fun rr61 wr61 nr61 hp9 => ?_)
        obtain ⟨rfl, hp9, rfl⟩ := hp9
        refine r_goto 68 i_N_worst_64 (by decide) ?_
        refine r_ireturn i_N_worst_68 t_N_worst rfl ?_
        first | exact ⟨rfl, ⟨hp9.1, fun j hj => (hp9.2 j hj).trans (hFF j hj)⟩, rfl⟩ | exact ⟨rfl, ⟨hC, hFF⟩, rfl⟩
    | succ m ih =>
      intro i hi x w1 hC hFF
      obtain ⟨D, L, fa, K, Z, hX⟩ := id hC
      obtain ⟨c0, cT, cK, cD, cS, cR, cW, cE, cF, cn⟩ := id hX
      have oT := cT.1
      have oK := cK.1
      have oD := cD.1
      have oS := cS.1
      have oR := cR.1
      have oW := cW.1
      have oE := cE.1
      have ih' := ih (i + 1) (by omega)
      have e7 : argM (fun i => harmV Q.1 i B) (i + 1) = if (argM (fun i => harmV Q.1 i B) i).1 = -1 ∨ (argM (fun i => harmV Q.1 i B) i).2 < harmV Q.1 i B then (nI i, harmV Q.1 i B) else argM (fun i => harmV Q.1 i B) i := rfl
      rw [e7] at ih'
      generalize argM (fun i => harmV Q.1 i B) i = a at *
      refine r_iload_n (i := 3) i_N_worst_6 rfl rfl ?_
      refine r_aload_n (i := 0) i_N_worst_7 rfl rfl ?_
      refine r_getf (ci := 0) (T := Fk0) (k := 0) o_N_worst i_N_worst_8 x_N_10 rfl (by decide) rfl (by repeat (first | assumption | exact upw_s | refine (upw_n (by omega)).trans ?_)) (by first | assumption | omega) (by rfl) ?_
      refine r_getfN (ci := 1) (T := Fk1) (k := 0) o_N_worst i_N_worst_11 x_N_124 rfl (by decide) rfl (by repeat (first | assumption | exact upw_s | refine (upw_n (by omega)).trans ?_)) (by first | assumption | omega) (by rfl) ?_
      refine r_icmp_ge 53 i_N_worst_14 (by decide) (fun h14 => (absurd h14 (by rw [hP]; exact nI_ge (by omega) (by omega)))) (fun h14 => ?_)
      refine r_aload_n (i := 0) i_N_worst_17 rfl rfl ?_
      refine r_getf (ci := 0) (T := Fk0) (k := 7) o_N_worst i_N_worst_18 x_N_50 rfl (by decide) rfl (by repeat (first | assumption | exact upw_s | refine (upw_n (by omega)).trans ?_)) (by first | assumption | omega) (by rfl) ?_
      refine r_aload_n (i := 0) i_N_worst_21 rfl rfl ?_
      refine r_getf (ci := 0) (T := Fk0) (k := 0) o_N_worst i_N_worst_22 x_N_10 rfl (by decide) rfl (by repeat (first | assumption | exact upw_s | refine (upw_n (by omega)).trans ?_)) (by first | assumption | omega) (by rfl) ?_
      refine r_iload_n (i := 3) i_N_worst_25 rfl rfl ?_
      refine m_virtual o_N_worst k_E_greatestHarm v_E_greatestHarm x_N_292 i_N_worst_26 o_E_greatestHarm (c_E_greatestHarm cE cT (by omega) hB hB7 (by omega)) rfl (rcv_ob (by repeat (first | assumption | exact upw_s | refine (upw_n (by omega)).trans ?_)) rfl (by first | assumption | omega)) rfl (by decide) (Nat.le_of_ble_eq_true rfl) (Nat.zero_le _) (Nat.zero_le _) (fun r1 w2 n1 hp9 => ?_)
      obtain ⟨rfl, ⟨⟨Z', hE2⟩, hF2⟩, rfl⟩ := hp9
      have hC2 : CW w2 Q n1 := (hX.srch hE2 hF2).cw
      have hFF2 : cFr w w2 := fun j hj => (hF2 j (by omega)).trans (hFF j hj)
      refine r_istore_4 i_N_worst_29 (by rw [l_N_worst]; decide) rfl ?_
      refine r_iload_n (i := 1) i_N_worst_31 rfl rfl ?_
      refine r_iconst (v := (-1 : Int32)) i_N_worst_32 rfl ?_
      refine r_icmp_eq 42 i_N_worst_33 (by decide) (fun h33 => ?_) (fun h33 => ?_)
      · skip
        rw [if_pos (Or.inl h33)] at ih'
        refine r_iload_n (i := 3) i_N_worst_42 rfl rfl ?_
        refine r_istore_1 i_N_worst_43 (by rw [l_N_worst]; decide) rfl ?_
        refine r_iload (i := 4) i_N_worst_44 rfl ?_
        refine r_istore_2 i_N_worst_46 (by rw [l_N_worst]; decide) rfl ?_
        refine r_iinc_3 (v := (1 : Int32)) i_N_worst_47 rfl (by rw [l_N_worst]; decide) rfl ?_
        refine r_goto 6 i_N_worst_50 (by decide) ?_
        rw [nI_1]
        exact ih' _ w2 hC2 hFF2
      · skip
        refine r_iload (i := 4) i_N_worst_36 rfl ?_
        refine r_iload_n (i := 2) i_N_worst_38 rfl rfl ?_
        refine r_icmp_le 47 i_N_worst_39 (by decide) (fun h39 => ?_) (fun h39 => ?_)
        · skip
          rw [if_neg (fun q => q.elim (fun q => h33 q) (fun q => absurd q (Int32.not_lt.mpr h39)))] at ih'
          refine r_iinc_3 (v := (1 : Int32)) i_N_worst_47 rfl (by rw [l_N_worst]; decide) rfl ?_
          refine r_goto 6 i_N_worst_50 (by decide) ?_
          rw [nI_1]
          exact ih' _ w2 hC2 hFF2
        · skip
          rw [if_pos (Or.inr (Int32.not_le.mp h39))] at ih'
          refine r_iload_n (i := 3) i_N_worst_42 rfl rfl ?_
          refine r_istore_1 i_N_worst_43 (by rw [l_N_worst]; decide) rfl ?_
          refine r_iload (i := 4) i_N_worst_44 rfl ?_
          refine r_istore_2 i_N_worst_46 (by rw [l_N_worst]; decide) rfl ?_
          refine r_iinc_3 (v := (1 : Int32)) i_N_worst_47 rfl (by rw [l_N_worst]; decide) rfl ?_
          refine r_goto 6 i_N_worst_50 (by decide) ?_
          rw [nI_1]
          exact ih' _ w2 hC2 hFF2
  refine r_iconst (v := (-1 : Int32)) i_N_worst_0 rfl ?_
  refine r_istore_1 i_N_worst_1 (by rw [l_N_worst]; decide) rfl ?_
  refine r_iconst (v := (0 : Int32)) i_N_worst_2 rfl ?_
  refine r_istore_2 i_N_worst_3 (by rw [l_N_worst]; decide) rfl ?_
  refine r_iconst (v := (0 : Int32)) i_N_worst_4 rfl ?_
  refine r_istore_3 i_N_worst_5 (by rw [l_N_worst]; decide) rfl ?_
  exact hloop P 0 (by omega) none w hC cFr.rfl
def hatF (Q : aQ) (i : Nat) : Int32 := bcount (bitsOf (fun b => gd Q.1 b i) (nB Q))
def m_hated (Q : aQ) : Int32 × aQ := frst Q (argM (hatF Q) (nP Q)).1
theorem c_N_hated (hC : CW w Q n) (hQ : QOk Q) : Cm G 6 y_N_hated [.ref 0] w n (m_hated Q) := by
  obtain ⟨D, L, fa, K, Z, hX⟩ := id hC
  obtain ⟨c0, cT, cK, cD, cS, cR, cW, cE, cF, cn⟩ := id hX
  have oT := cT.1
  have oK := cK.1
  have oD := cD.1
  have oS := cS.1
  have oR := cR.1
  have oW := cW.1
  have oE := cE.1
  obtain ⟨P, B, hP, hP7, hB, hB7, hPI⟩ := id hQ.1
  refine Cm.of k_N_hated l_N_hated rfl rfl ?_
  unfold m_hated
  rw [nP_eq hP hP7]
  have e8 : ∀ i, hatF Q i = bcount (bitsOf (fun b => gd Q.1 b i) B) := by
    intro i
    unfold hatF
    rw [nB_eq hB hB7]
  have hloop : ∀ m i, i + m = P → ∀ (x : Option Value), Go G 6 y_N_hated 6 [some (.ref 0), some (.int (argM (hatF Q) i).1), some (.int (argM (hatF Q) i).2), some (.int (nI i)), x] [] w n 0 0 (fun r w' n' => r = some (.int (frst Q (argM (hatF Q) P).1).1) ∧ (CW w' (frst Q (argM (hatF Q) P).1).2 n ∧ cFr w w') ∧ n' = n) := by
    intro m
    induction m with
    | zero =>
      intro i hi x
      have hi : i = P := by omega
      subst hi
      unfold frst
      refine r_iload_n (i := 3) i_N_hated_6 rfl rfl ?_
      refine r_aload_n (i := 0) i_N_hated_7 rfl rfl ?_
      refine r_getf (ci := 0) (T := Fk0) (k := 0) o_N_hated i_N_hated_8 x_N_10 rfl (by decide) rfl (by repeat (first | assumption | exact upw_s | refine (upw_n (by omega)).trans ?_)) (by first | assumption | omega) (by rfl) ?_
      refine r_getfN (ci := 1) (T := Fk1) (k := 0) o_N_hated i_N_hated_11 x_N_124 rfl (by decide) rfl (by repeat (first | assumption | exact upw_s | refine (upw_n (by omega)).trans ?_)) (by first | assumption | omega) (by rfl) ?_
      refine r_icmp_ge 52 i_N_hated_14 (by decide) (fun h14 => ?_) (fun h14 => (absurd (by rw [hP]; exact nI_le (Nat.le_refl _) (by omega)) h14))
      refine r_iload_n (i := 1) i_N_hated_52 rfl rfl ?_
      refine r_iconst (v := (-1 : Int32)) i_N_hated_53 rfl ?_
      refine r_icmp_ne 66 i_N_hated_54 (by decide) (fun h54 => ?_) (fun h54 => ?_)
      · skip
        rw [if_neg h54]
        refine r_iload_n (i := 1) i_N_hated_66 rfl rfl ?_
        refine r_ireturn i_N_hated_67 t_N_hated rfl ?_
        first | exact ⟨rfl, hp9, rfl⟩ | exact ⟨rfl, ⟨hC, cFr.rfl⟩, rfl⟩
      · skip
        rw [if_pos h54]
        refine r_aload_n (i := 0) i_N_hated_57 rfl rfl ?_
        refine r_bipush (v := (-5 : Int32)) i_N_hated_58 (by decide) ?_
        refine m_virtual o_N_hated k_N_refuse v_N_refuse x_N_66 i_N_hated_60 o_N_refuse (c_N_refuse hC) rfl (rcv_ob (by repeat (first | assumption | exact upw_s | refine (upw_n (by omega)).trans ?_)) rfl (by first | assumption | omega)) rfl (by decide) (Nat.le_of_ble_eq_true rfl) (Nat.zero_le _) (Nat.zero_le _) (fun rr60 wr60 nr60 hp9 => ?_)
        obtain ⟨rfl, hp9, rfl⟩ := hp9
        refine r_goto 67 i_N_hated_63 (by decide) ?_
        refine r_ireturn i_N_hated_67 t_N_hated rfl ?_
        first | exact ⟨rfl, hp9, rfl⟩ | exact ⟨rfl, ⟨hC, cFr.rfl⟩, rfl⟩
    | succ m ih =>
      intro i hi x
      have ih' := ih (i + 1) (by omega)
      have e7 : argM (hatF Q) (i + 1) = if (argM (hatF Q) i).1 = -1 ∨ (argM (hatF Q) i).2 < hatF Q i then (nI i, hatF Q i) else argM (hatF Q) i := rfl
      rw [e7] at ih'
      rw [e8] at ih'
      generalize argM (hatF Q) i = a at *
      refine r_iload_n (i := 3) i_N_hated_6 rfl rfl ?_
      refine r_aload_n (i := 0) i_N_hated_7 rfl rfl ?_
      refine r_getf (ci := 0) (T := Fk0) (k := 0) o_N_hated i_N_hated_8 x_N_10 rfl (by decide) rfl (by repeat (first | assumption | exact upw_s | refine (upw_n (by omega)).trans ?_)) (by first | assumption | omega) (by rfl) ?_
      refine r_getfN (ci := 1) (T := Fk1) (k := 0) o_N_hated i_N_hated_11 x_N_124 rfl (by decide) rfl (by repeat (first | assumption | exact upw_s | refine (upw_n (by omega)).trans ?_)) (by first | assumption | omega) (by rfl) ?_
      refine r_icmp_ge 52 i_N_hated_14 (by decide) (fun h14 => (absurd h14 (by rw [hP]; exact nI_ge (by omega) (by omega)))) (fun h14 => ?_)
      refine r_aload_n (i := 0) i_N_hated_17 rfl rfl ?_
      refine r_getf (ci := 0) (T := Fk0) (k := 0) o_N_hated i_N_hated_18 x_N_10 rfl (by decide) rfl (by repeat (first | assumption | exact upw_s | refine (upw_n (by omega)).trans ?_)) (by first | assumption | omega) (by rfl) ?_
      refine r_iload_n (i := 3) i_N_hated_21 rfl rfl ?_
      refine f_virtual o_N_hated k_T_bargainsGoodBy v_T_bargainsGoodBy x_N_295 i_N_hated_22 o_T_bargainsGoodBy (c_T_bargainsGoodBy cT (by omega) hB hB7) rfl (rcv_ob (by repeat (first | assumption | exact upw_s | refine (upw_n (by omega)).trans ?_)) rfl (by first | assumption | omega)) rfl (by decide) (Nat.le_of_ble_eq_true rfl) ?_
      refine f_static o_N_hated k_JI_bitCount s_JI_bitCount x_N_298 i_N_hated_25 (c_JI_bitCount) rfl rfl (by decide) (Nat.le_of_ble_eq_true rfl) ?_
      refine r_istore_4 i_N_hated_28 (by rw [l_N_hated]; decide) rfl ?_
      refine r_iload_n (i := 1) i_N_hated_30 rfl rfl ?_
      refine r_iconst (v := (-1 : Int32)) i_N_hated_31 rfl ?_
      refine r_icmp_eq 41 i_N_hated_32 (by decide) (fun h32 => ?_) (fun h32 => ?_)
      · skip
        rw [if_pos (Or.inl h32)] at ih'
        refine r_iload_n (i := 3) i_N_hated_41 rfl rfl ?_
        refine r_istore_1 i_N_hated_42 (by rw [l_N_hated]; decide) rfl ?_
        refine r_iload (i := 4) i_N_hated_43 rfl ?_
        refine r_istore_2 i_N_hated_45 (by rw [l_N_hated]; decide) rfl ?_
        refine r_iinc_3 (v := (1 : Int32)) i_N_hated_46 rfl (by rw [l_N_hated]; decide) rfl ?_
        refine r_goto 6 i_N_hated_49 (by decide) ?_
        rw [nI_1]
        exact ih' _
      · skip
        refine r_iload (i := 4) i_N_hated_35 rfl ?_
        refine r_iload_n (i := 2) i_N_hated_37 rfl rfl ?_
        refine r_icmp_le 46 i_N_hated_38 (by decide) (fun h38 => ?_) (fun h38 => ?_)
        · skip
          rw [if_neg (fun q => q.elim (fun q => h32 q) (fun q => absurd q (Int32.not_lt.mpr h38)))] at ih'
          refine r_iinc_3 (v := (1 : Int32)) i_N_hated_46 rfl (by rw [l_N_hated]; decide) rfl ?_
          refine r_goto 6 i_N_hated_49 (by decide) ?_
          rw [nI_1]
          exact ih' _
        · skip
          rw [if_pos (Or.inr (Int32.not_le.mp h38))] at ih'
          refine r_iload_n (i := 3) i_N_hated_41 rfl rfl ?_
          refine r_istore_1 i_N_hated_42 (by rw [l_N_hated]; decide) rfl ?_
          refine r_iload (i := 4) i_N_hated_43 rfl ?_
          refine r_istore_2 i_N_hated_45 (by rw [l_N_hated]; decide) rfl ?_
          refine r_iinc_3 (v := (1 : Int32)) i_N_hated_46 rfl (by rw [l_N_hated]; decide) rfl ?_
          refine r_goto 6 i_N_hated_49 (by decide) ?_
          rw [nI_1]
          exact ih' _
  refine r_iconst (v := (-1 : Int32)) i_N_hated_0 rfl ?_
  refine r_istore_1 i_N_hated_1 (by rw [l_N_hated]; decide) rfl ?_
  refine r_iconst (v := (0 : Int32)) i_N_hated_2 rfl ?_
  refine r_istore_2 i_N_hated_3 (by rw [l_N_hated]; decide) rfl ?_
  refine r_iconst (v := (0 : Int32)) i_N_hated_4 rfl ?_
  refine r_istore_3 i_N_hated_5 (by rw [l_N_hated]; decide) rfl ?_
  exact hloop P 0 (by omega) none
end PUBD
