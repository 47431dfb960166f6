-- THE CLASS: THE COURT, HIDING, SAYS, COPY
def shrN (S : aS) (b i : Nat) : Int32 := (10 - S.1 4) * valN S b i
def drT (S : aS) (b i : Nat) (x : Int32) : Int32 := if cbs S b i = true ∧ S.1 4 * S.1 5 < shrN S b i then x + 1 else x
def drB (S : aS) (P b : Nat) (x : Int32) : Int32 := lpF (drT S b) P 0 x
def dtT (S : aS) (b i : Nat) (x : Int32) : Int32 := if cbs S b i = true then (if x < shrN S b i then shrN S b i else x) else x
def dtB (S : aS) (P b : Nat) (x : Int32) : Int32 := lpF (dtT S b) P 0 x
def dtG (S : aS) (P B : Nat) : Int32 := lpF (dtB S P) B 0 0
def dtA (S : aS) (g : Int32) : Int32 := if g = 0 then 0 else if S.1 4 = 0 then -1 else if 999 < (g + S.1 4 - 1) / S.1 4 then -1 else (g + S.1 4 - 1) / S.1 4
section PUBE
variable {G : gE} {w : aW} {n : Nat} {Q : aQ}
def m_said (Q : aQ) (b i : Int32) : Int32 × aQ := if (lt0 b (Q.1.1 1) && lt0 i (Q.1.1 0)) = true then (if cbs Q.1 b.toNatClampNeg i.toNatClampNeg = true then (shrN Q.1 b.toNatClampNeg i.toNatClampNeg - Q.1.1 4 * Q.1.1 5, Q) else rfb Q (-5)) else rfb Q (-2)
theorem c_N_said {b i : Int32} (hC : CW w Q n) (hQ : QOk Q) : Cm G 5 y_N_said [.ref 0, .int b, .int i] w n (m_said Q b i) := by
  obtain ⟨D, L, fa, K, Z, hX⟩ := id hC
  obtain ⟨c0, cT, cK, cD, cS, cR, cW, cE, cF, cn⟩ := id hX
  have oT := cT.1
  have oK := cK.1
  have oD := cD.1
  have oS := cS.1
  have oR := cR.1
  have oW := cW.1
  have oE := cE.1
  obtain ⟨P, B, hP, hP7, hB, hB7, -⟩ := hQ.1
  refine Cm.of k_N_said l_N_said rfl rfl ?_
  unfold m_said shrN
  refine r_aload_n (i := 0) i_N_said_0 rfl rfl ?_
  refine r_getf (ci := 0) (T := Fk0) (k := 0) o_N_said i_N_said_1 x_N_10 rfl (by decide) rfl (by repeat (first | assumption | exact upw_s | refine (upw_n (by omega)).trans ?_)) (by first | assumption | omega) (by rfl) ?_
  refine r_iload_n (i := 1) i_N_said_4 rfl rfl ?_
  refine r_iload_n (i := 2) i_N_said_5 rfl rfl ?_
  refine f_virtual o_N_said k_T_hasPair v_T_hasPair x_N_139 i_N_said_6 o_T_hasPair (c_T_hasPair cT) rfl (rcv_ob (by repeat (first | assumption | exact upw_s | refine (upw_n (by omega)).trans ?_)) rfl (by first | assumption | omega)) rfl (by decide) (Nat.le_of_ble_eq_true rfl) ?_
  refine r_if_ne 19 i_N_said_9 (by decide) (fun h9 => ?_) (fun h9 => ?_)
  · skip
    have h9 := bI_ne0.mp h9
    try rw [h9]
    refine r_aload_n (i := 0) i_N_said_19 rfl rfl ?_
    refine r_getf (ci := 0) (T := Fk0) (k := 0) o_N_said i_N_said_20 x_N_10 rfl (by decide) rfl (by repeat (first | assumption | exact upw_s | refine (upw_n (by omega)).trans ?_)) (by first | assumption | omega) (by rfl) ?_
    refine r_iload_n (i := 1) i_N_said_23 rfl rfl ?_
    refine r_iload_n (i := 2) i_N_said_24 rfl rfl ?_
    rw [Bool.and_eq_true, hB, hP] at h9
    obtain ⟨b, hb, rfl⟩ := lt0_of (by omega) h9.1
    obtain ⟨i, hi, rfl⟩ := lt0_of (by omega) h9.2
    rw [nI_clamp (by omega), nI_clamp (by omega)]
    refine f_virtual o_N_said k_T_canBeSaid v_T_canBeSaid x_N_303 i_N_said_25 o_T_canBeSaid (c_T_canBeSaid cT (by omega) (by omega)) rfl (rcv_ob (by repeat (first | assumption | exact upw_s | refine (upw_n (by omega)).trans ?_)) rfl (by first | assumption | omega)) rfl (by decide) (Nat.le_of_ble_eq_true rfl) ?_
    refine r_if_ne 38 i_N_said_28 (by decide) (fun h28 => ?_) (fun h28 => ?_)
    · skip
      have h28 := bI_ne0.mp h28
      try rw [h28]
      refine r_aload_n (i := 0) i_N_said_38 rfl rfl ?_
      refine r_getf (ci := 0) (T := Fk0) (k := 0) o_N_said i_N_said_39 x_N_10 rfl (by decide) rfl (by repeat (first | assumption | exact upw_s | refine (upw_n (by omega)).trans ?_)) (by first | assumption | omega) (by rfl) ?_
      refine r_iload_n (i := 1) i_N_said_42 rfl rfl ?_
      refine r_iload_n (i := 2) i_N_said_43 rfl rfl ?_
      refine f_virtual o_N_said k_T_shareOfSaid v_T_shareOfSaid x_N_306 i_N_said_44 o_T_shareOfSaid (c_T_shareOfSaid cT (by omega) (by omega)) rfl (rcv_ob (by repeat (first | assumption | exact upw_s | refine (upw_n (by omega)).trans ?_)) rfl (by first | assumption | omega)) rfl (by decide) (Nat.le_of_ble_eq_true rfl) ?_
      refine r_aload_n (i := 0) i_N_said_47 rfl rfl ?_
      refine r_getf (ci := 0) (T := Fk0) (k := 0) o_N_said i_N_said_48 x_N_10 rfl (by decide) rfl (by repeat (first | assumption | exact upw_s | refine (upw_n (by omega)).trans ?_)) (by first | assumption | omega) (by rfl) ?_
      refine r_getfN (ci := 1) (T := Fk1) (k := 4) o_N_said i_N_said_51 x_N_309 rfl (by decide) rfl (by repeat (first | assumption | exact upw_s | refine (upw_n (by omega)).trans ?_)) (by first | assumption | omega) (by rfl) ?_
      refine r_aload_n (i := 0) i_N_said_54 rfl rfl ?_
      refine r_getf (ci := 0) (T := Fk0) (k := 0) o_N_said i_N_said_55 x_N_10 rfl (by decide) rfl (by repeat (first | assumption | exact upw_s | refine (upw_n (by omega)).trans ?_)) (by first | assumption | omega) (by rfl) ?_
      refine r_getfN (ci := 1) (T := Fk1) (k := 5) o_N_said i_N_said_58 x_N_312 rfl (by decide) rfl (by repeat (first | assumption | exact upw_s | refine (upw_n (by omega)).trans ?_)) (by first | assumption | omega) (by rfl) ?_
      refine r_imul i_N_said_61 ?_
      refine r_isub i_N_said_62 ?_
      refine r_ireturn i_N_said_63 t_N_said rfl ?_
      first | exact ⟨rfl, hp9, rfl⟩ | exact ⟨rfl, ⟨hC, cFr.rfl⟩, rfl⟩
    · skip
      have h28 := bI_eq0.mp h28
      try rw [h28]
      refine r_aload_n (i := 0) i_N_said_31 rfl rfl ?_
      refine r_bipush (v := (-5 : Int32)) i_N_said_32 (by decide) ?_
      refine m_virtual o_N_said k_N_refuseBelow v_N_refuseBelow x_N_212 i_N_said_34 o_N_refuseBelow (c_N_refuseBelow hC) rfl (rcv_ob (by repeat (first | assumption | exact upw_s | refine (upw_n (by omega)).trans ?_)) rfl (by first | assumption | omega)) rfl (by decide) (Nat.le_of_ble_eq_true rfl) (Nat.zero_le _) (Nat.zero_le _) (fun rr34 wr34 nr34 hp9 => ?_)
      obtain ⟨rfl, hp9, rfl⟩ := hp9
      refine r_ireturn i_N_said_37 t_N_said rfl ?_
      first | exact ⟨rfl, hp9, rfl⟩ | exact ⟨rfl, ⟨hC, cFr.rfl⟩, rfl⟩
  · skip
    have h9 := bI_eq0.mp h9
    try rw [h9]
    refine r_aload_n (i := 0) i_N_said_12 rfl rfl ?_
    refine r_bipush (v := (-2 : Int32)) i_N_said_13 (by decide) ?_
    refine m_virtual o_N_said k_N_refuseBelow v_N_refuseBelow x_N_212 i_N_said_15 o_N_refuseBelow (c_N_refuseBelow hC) rfl (rcv_ob (by repeat (first | assumption | exact upw_s | refine (upw_n (by omega)).trans ?_)) rfl (by first | assumption | omega)) rfl (by decide) (Nat.le_of_ble_eq_true rfl) (Nat.zero_le _) (Nat.zero_le _) (fun rr15 wr15 nr15 hp9 => ?_)
    obtain ⟨rfl, hp9, rfl⟩ := hp9
    refine r_ireturn i_N_said_18 t_N_said rfl ?_
    first | exact ⟨rfl, hp9, rfl⟩ | exact ⟨rfl, ⟨hC, cFr.rfl⟩, rfl⟩
def m_dares (Q : aQ) : Int32 × aQ := (lpF (drB Q.1 (nP Q)) (nB Q) 0 0, Q)
theorem c_N_dares (hC : CW w Q n) (hQ : QOk Q) : Cm G 5 y_N_dares [.ref 0] w n (m_dares Q) := by
  obtain ⟨D, L, fa, K, Z, hX⟩ := id hC
  obtain ⟨c0, cT, cK, cD, cS, cR, cW, cE, cF, cn⟩ := id hX
  have oT := cT.1
  have oK := cK.1
  have oD := cD.1
  have oS := cS.1
  have oR := cR.1
  have oW := cW.1
  have oE := cE.1
  obtain ⟨P, B, hP, hP7, hB, hB7, hPI⟩ := id hQ.1
  refine Cm.of k_N_dares l_N_dares rfl rfl ?_
  unfold m_dares
  rw [nP_eq hP hP7, nB_eq hB hB7]
  have l2 : ∀ (post : Option Value → aW → Nat → Prop) (b : Nat), b < B → ∀ m i, i + m = P → ∀ (x : Int32), (∀ (z : Option Value), Go G 5 y_N_dares 76 [some (.ref 0), some (.int (lpF (drT Q.1 b) m i x)), some (.int (nI b)), z] [] w n 0 0 post) → Go G 5 y_N_dares 17 [some (.ref 0), some (.int x), some (.int (nI b)), some (.int (nI i))] [] w n 0 0 post := by
    intro post b hb m
    induction m with
    | zero =>
      intro i hi x hk
      have hi : i = P := by omega
      subst hi
      refine r_iload_n (i := 3) i_N_dares_17 rfl rfl ?_
      refine r_aload_n (i := 0) i_N_dares_18 rfl rfl ?_
      refine r_getf (ci := 0) (T := Fk0) (k := 0) o_N_dares i_N_dares_19 x_N_10 rfl (by decide) rfl (by repeat (first | assumption | exact upw_s | refine (upw_n (by omega)).trans ?_)) (by first | assumption | omega) (by rfl) ?_
      refine r_getfN (ci := 1) (T := Fk1) (k := 0) o_N_dares i_N_dares_22 x_N_124 rfl (by decide) rfl (by repeat (first | assumption | exact upw_s | refine (upw_n (by omega)).trans ?_)) (by first | assumption | omega) (by rfl) ?_
      refine r_icmp_ge 76 i_N_dares_25 (by decide) (fun h25 => ?_) (fun h25 => (absurd (by rw [hP]; exact nI_le (Nat.le_refl _) (by omega)) h25))
      exact hk _
    | succ m ih =>
      intro i hi x hk
      have hk : ∀ (z : Option Value), Go G 5 y_N_dares 76 [some (.ref 0), some (.int (lpF (drT Q.1 b) m (i + 1) (if cbs Q.1 b i = true ∧ Q.1.1 4 * Q.1.1 5 < (10 - Q.1.1 4) * valN Q.1 b i then x + 1 else x))), some (.int (nI b)), z] [] w n 0 0 post := hk
      refine r_iload_n (i := 3) i_N_dares_17 rfl rfl ?_
      refine r_aload_n (i := 0) i_N_dares_18 rfl rfl ?_
      refine r_getf (ci := 0) (T := Fk0) (k := 0) o_N_dares i_N_dares_19 x_N_10 rfl (by decide) rfl (by repeat (first | assumption | exact upw_s | refine (upw_n (by omega)).trans ?_)) (by first | assumption | omega) (by rfl) ?_
      refine r_getfN (ci := 1) (T := Fk1) (k := 0) o_N_dares i_N_dares_22 x_N_124 rfl (by decide) rfl (by repeat (first | assumption | exact upw_s | refine (upw_n (by omega)).trans ?_)) (by first | assumption | omega) (by rfl) ?_
      refine r_icmp_ge 76 i_N_dares_25 (by decide) (fun h25 => (absurd h25 (by rw [hP]; exact nI_ge (by omega) (by omega)))) (fun h25 => ?_)
      refine r_aload_n (i := 0) i_N_dares_28 rfl rfl ?_
      refine r_getf (ci := 0) (T := Fk0) (k := 0) o_N_dares i_N_dares_29 x_N_10 rfl (by decide) rfl (by repeat (first | assumption | exact upw_s | refine (upw_n (by omega)).trans ?_)) (by first | assumption | omega) (by rfl) ?_
      refine r_iload_n (i := 2) i_N_dares_32 rfl rfl ?_
      refine r_iload_n (i := 3) i_N_dares_33 rfl rfl ?_
      refine f_virtual o_N_dares k_T_canBeSaid v_T_canBeSaid x_N_303 i_N_dares_34 o_T_canBeSaid (c_T_canBeSaid cT (by omega) (by omega)) rfl (rcv_ob (by repeat (first | assumption | exact upw_s | refine (upw_n (by omega)).trans ?_)) rfl (by first | assumption | omega)) rfl (by decide) (Nat.le_of_ble_eq_true rfl) ?_
      refine r_if_eq 70 i_N_dares_37 (by decide) (fun h37 => ?_) (fun h37 => ?_)
      · skip
        have h37 := bI_eq0.mp h37
        rw [if_neg (fun q => by rw [h37] at q; exact absurd q.1 (by decide))] at hk
        refine r_iinc_3 (v := (1 : Int32)) i_N_dares_70 rfl (by rw [l_N_dares]; decide) rfl ?_
        refine r_goto 17 i_N_dares_73 (by decide) ?_
        rw [nI_1]
        exact ih (i + 1) (by omega) _ hk
      · skip
        have h37 := bI_ne0.mp h37
        refine r_aload_n (i := 0) i_N_dares_40 rfl rfl ?_
        refine r_getf (ci := 0) (T := Fk0) (k := 0) o_N_dares i_N_dares_41 x_N_10 rfl (by decide) rfl (by repeat (first | assumption | exact upw_s | refine (upw_n (by omega)).trans ?_)) (by first | assumption | omega) (by rfl) ?_
        refine r_iload_n (i := 2) i_N_dares_44 rfl rfl ?_
        refine r_iload_n (i := 3) i_N_dares_45 rfl rfl ?_
        refine f_virtual o_N_dares k_T_shareOfSaid v_T_shareOfSaid x_N_306 i_N_dares_46 o_T_shareOfSaid (c_T_shareOfSaid cT (by omega) (by omega)) rfl (rcv_ob (by repeat (first | assumption | exact upw_s | refine (upw_n (by omega)).trans ?_)) rfl (by first | assumption | omega)) rfl (by decide) (Nat.le_of_ble_eq_true rfl) ?_
        refine r_aload_n (i := 0) i_N_dares_49 rfl rfl ?_
        refine r_getf (ci := 0) (T := Fk0) (k := 0) o_N_dares i_N_dares_50 x_N_10 rfl (by decide) rfl (by repeat (first | assumption | exact upw_s | refine (upw_n (by omega)).trans ?_)) (by first | assumption | omega) (by rfl) ?_
        refine r_getfN (ci := 1) (T := Fk1) (k := 4) o_N_dares i_N_dares_53 x_N_309 rfl (by decide) rfl (by repeat (first | assumption | exact upw_s | refine (upw_n (by omega)).trans ?_)) (by first | assumption | omega) (by rfl) ?_
        refine r_aload_n (i := 0) i_N_dares_56 rfl rfl ?_
        refine r_getf (ci := 0) (T := Fk0) (k := 0) o_N_dares i_N_dares_57 x_N_10 rfl (by decide) rfl (by repeat (first | assumption | exact upw_s | refine (upw_n (by omega)).trans ?_)) (by first | assumption | omega) (by rfl) ?_
        refine r_getfN (ci := 1) (T := Fk1) (k := 5) o_N_dares i_N_dares_60 x_N_312 rfl (by decide) rfl (by repeat (first | assumption | exact upw_s | refine (upw_n (by omega)).trans ?_)) (by first | assumption | omega) (by rfl) ?_
        refine r_imul i_N_dares_63 ?_
        refine r_icmp_le 70 i_N_dares_64 (by decide) (fun h64 => ?_) (fun h64 => ?_)
        · skip
          rw [if_neg (fun q => absurd q.2 (Int32.not_lt.mpr h64))] at hk
          refine r_iinc_3 (v := (1 : Int32)) i_N_dares_70 rfl (by rw [l_N_dares]; decide) rfl ?_
          refine r_goto 17 i_N_dares_73 (by decide) ?_
          rw [nI_1]
          exact ih (i + 1) (by omega) _ hk
        · skip
          rw [if_pos ⟨h37, Int32.not_le.mp h64⟩] at hk
          refine r_iinc_1 (v := (1 : Int32)) i_N_dares_67 rfl (by rw [l_N_dares]; decide) rfl ?_
          refine r_iinc_3 (v := (1 : Int32)) i_N_dares_70 rfl (by rw [l_N_dares]; decide) rfl ?_
          refine r_goto 17 i_N_dares_73 (by decide) ?_
          rw [nI_1]
          exact ih (i + 1) (by omega) _ hk
  have l1 : ∀ m b, b + m = B → ∀ (x : Int32) (z : Option Value), lpF (drB Q.1 P) m b x = lpF (drB Q.1 P) B 0 0 → Go G 5 y_N_dares 4 [some (.ref 0), some (.int x), some (.int (nI b)), z] [] w n 0 0 (fun r w' n' => r = some (.int (lpF (drB Q.1 P) B 0 0)) ∧ (CW w' Q n ∧ cFr w w') ∧ n' = n) := by
    intro m
    induction m with
    | zero =>
      intro b hb x z hx
      have hb : b = B := by omega
      subst hb
      have hx : x = _ := hx
      refine r_iload_n (i := 2) i_N_dares_4 rfl rfl ?_
      refine r_aload_n (i := 0) i_N_dares_5 rfl rfl ?_
      refine r_getf (ci := 0) (T := Fk0) (k := 0) o_N_dares i_N_dares_6 x_N_10 rfl (by decide) rfl (by repeat (first | assumption | exact upw_s | refine (upw_n (by omega)).trans ?_)) (by first | assumption | omega) (by rfl) ?_
      refine r_getfN (ci := 1) (T := Fk1) (k := 1) o_N_dares i_N_dares_9 x_N_113 rfl (by decide) rfl (by repeat (first | assumption | exact upw_s | refine (upw_n (by omega)).trans ?_)) (by first | assumption | omega) (by rfl) ?_
      refine r_icmp_ge 82 i_N_dares_12 (by decide) (fun h12 => ?_) (fun h12 => (absurd (by rw [hB]; exact nI_le (Nat.le_refl _) (by omega)) h12))
      refine r_iload_n (i := 1) i_N_dares_82 rfl rfl ?_
      refine r_ireturn i_N_dares_83 t_N_dares rfl ?_
      exact ⟨by rw [← hx], ⟨hC, cFr.rfl⟩, rfl⟩
    | succ m ih =>
      intro b hb x z hx
      have hx : lpF (drB Q.1 P) m (b + 1) (drB Q.1 P b x) = _ := hx
      refine r_iload_n (i := 2) i_N_dares_4 rfl rfl ?_
      refine r_aload_n (i := 0) i_N_dares_5 rfl rfl ?_
      refine r_getf (ci := 0) (T := Fk0) (k := 0) o_N_dares i_N_dares_6 x_N_10 rfl (by decide) rfl (by repeat (first | assumption | exact upw_s | refine (upw_n (by omega)).trans ?_)) (by first | assumption | omega) (by rfl) ?_
      refine r_getfN (ci := 1) (T := Fk1) (k := 1) o_N_dares i_N_dares_9 x_N_113 rfl (by decide) rfl (by repeat (first | assumption | exact upw_s | refine (upw_n (by omega)).trans ?_)) (by first | assumption | omega) (by rfl) ?_
      refine r_icmp_ge 82 i_N_dares_12 (by decide) (fun h12 => (absurd h12 (by rw [hB]; exact nI_ge (by omega) (by omega)))) (fun h12 => ?_)
      refine r_iconst (v := (0 : Int32)) i_N_dares_15 rfl ?_
      refine r_istore_3 i_N_dares_16 (by rw [l_N_dares]; decide) rfl ?_
      refine l2 _ b (by omega) P 0 (by omega) x (fun z9 => ?_)
      have ih' := ih (b + 1) (by omega) (drB Q.1 P b x) z9 hx
      refine r_iinc_2 (v := (1 : Int32)) i_N_dares_76 rfl (by rw [l_N_dares]; decide) rfl ?_
      refine r_goto 4 i_N_dares_79 (by decide) ?_
      rw [nI_1]
      exact ih'
  refine r_iconst (v := (0 : Int32)) i_N_dares_0 rfl ?_
  refine r_istore_1 i_N_dares_1 (by rw [l_N_dares]; decide) rfl ?_
  refine r_iconst (v := (0 : Int32)) i_N_dares_2 rfl ?_
  refine r_istore_2 i_N_dares_3 (by rw [l_N_dares]; decide) rfl ?_
  exact l1 B 0 (by omega) 0 none rfl
def m_deters (Q : aQ) : Int32 × aQ := (dtA Q.1 (dtG Q.1 (nP Q) (nB Q)), Q)
theorem c_N_deters (hC : CW w Q n) (hQ : QOk Q) : Cm G 5 y_N_deters [.ref 0] w n (m_deters Q) := by
  obtain ⟨D, L, fa, K, Z, hX⟩ := id hC
  obtain ⟨c0, cT, cK, cD, cS, cR, cW, cE, cF, cn⟩ := id hX
  have oT := cT.1
  have oK := cK.1
  have oD := cD.1
  have oS := cS.1
  have oR := cR.1
  have oW := cW.1
  have oE := cE.1
  obtain ⟨P, B, hP, hP7, hB, hB7, hPI⟩ := id hQ.1
  refine Cm.of k_N_deters l_N_deters rfl rfl ?_
  unfold m_deters dtG
  rw [nP_eq hP hP7, nB_eq hB hB7]
  have l2 : ∀ (post : Option Value → aW → Nat → Prop) (b : Nat), b < B → ∀ m i, i + m = P → ∀ (x : Int32), (∀ (z : Option Value), Go G 5 y_N_deters 60 [some (.ref 0), some (.int (lpF (dtT Q.1 b) m i x)), some (.int (nI b)), z] [] w n 0 0 post) → Go G 5 y_N_deters 17 [some (.ref 0), some (.int x), some (.int (nI b)), some (.int (nI i))] [] w n 0 0 post := by
    intro post b hb m
    induction m with
    | zero =>
      intro i hi x hk
      have hi : i = P := by omega
      subst hi
      refine r_iload_n (i := 3) i_N_deters_17 rfl rfl ?_
      refine r_aload_n (i := 0) i_N_deters_18 rfl rfl ?_
      refine r_getf (ci := 0) (T := Fk0) (k := 0) o_N_deters i_N_deters_19 x_N_10 rfl (by decide) rfl (by repeat (first | assumption | exact upw_s | refine (upw_n (by omega)).trans ?_)) (by first | assumption | omega) (by rfl) ?_
      refine r_getfN (ci := 1) (T := Fk1) (k := 0) o_N_deters i_N_deters_22 x_N_124 rfl (by decide) rfl (by repeat (first | assumption | exact upw_s | refine (upw_n (by omega)).trans ?_)) (by first | assumption | omega) (by rfl) ?_
      refine r_icmp_ge 60 i_N_deters_25 (by decide) (fun h25 => ?_) (fun h25 => (absurd (by rw [hP]; exact nI_le (Nat.le_refl _) (by omega)) h25))
      exact hk _
    | succ m ih =>
      intro i hi x hk
      have hk : ∀ (z : Option Value), Go G 5 y_N_deters 60 [some (.ref 0), some (.int (lpF (dtT Q.1 b) m (i + 1) (if cbs Q.1 b i = true then (if x < (10 - Q.1.1 4) * valN Q.1 b i then (10 - Q.1.1 4) * valN Q.1 b i else x) else x))), some (.int (nI b)), z] [] w n 0 0 post := hk
      refine r_iload_n (i := 3) i_N_deters_17 rfl rfl ?_
      refine r_aload_n (i := 0) i_N_deters_18 rfl rfl ?_
      refine r_getf (ci := 0) (T := Fk0) (k := 0) o_N_deters i_N_deters_19 x_N_10 rfl (by decide) rfl (by repeat (first | assumption | exact upw_s | refine (upw_n (by omega)).trans ?_)) (by first | assumption | omega) (by rfl) ?_
      refine r_getfN (ci := 1) (T := Fk1) (k := 0) o_N_deters i_N_deters_22 x_N_124 rfl (by decide) rfl (by repeat (first | assumption | exact upw_s | refine (upw_n (by omega)).trans ?_)) (by first | assumption | omega) (by rfl) ?_
      refine r_icmp_ge 60 i_N_deters_25 (by decide) (fun h25 => (absurd h25 (by rw [hP]; exact nI_ge (by omega) (by omega)))) (fun h25 => ?_)
      refine r_aload_n (i := 0) i_N_deters_28 rfl rfl ?_
      refine r_getf (ci := 0) (T := Fk0) (k := 0) o_N_deters i_N_deters_29 x_N_10 rfl (by decide) rfl (by repeat (first | assumption | exact upw_s | refine (upw_n (by omega)).trans ?_)) (by first | assumption | omega) (by rfl) ?_
      refine r_iload_n (i := 2) i_N_deters_32 rfl rfl ?_
      refine r_iload_n (i := 3) i_N_deters_33 rfl rfl ?_
      refine f_virtual o_N_deters k_T_canBeSaid v_T_canBeSaid x_N_303 i_N_deters_34 o_T_canBeSaid (c_T_canBeSaid cT (by omega) (by omega)) rfl (rcv_ob (by repeat (first | assumption | exact upw_s | refine (upw_n (by omega)).trans ?_)) rfl (by first | assumption | omega)) rfl (by decide) (Nat.le_of_ble_eq_true rfl) ?_
      refine r_if_eq 54 i_N_deters_37 (by decide) (fun h37 => ?_) (fun h37 => ?_)
      · skip
        have h37 := bI_eq0.mp h37
        rw [if_neg (by rw [h37]; decide)] at hk
        refine r_iinc_3 (v := (1 : Int32)) i_N_deters_54 rfl (by rw [l_N_deters]; decide) rfl ?_
        refine r_goto 17 i_N_deters_57 (by decide) ?_
        rw [nI_1]
        exact ih (i + 1) (by omega) _ hk
      · skip
        have h37 := bI_ne0.mp h37
        rw [if_pos h37] at hk
        refine r_iload_n (i := 1) i_N_deters_40 rfl rfl ?_
        refine r_aload_n (i := 0) i_N_deters_41 rfl rfl ?_
        refine r_getf (ci := 0) (T := Fk0) (k := 0) o_N_deters i_N_deters_42 x_N_10 rfl (by decide) rfl (by repeat (first | assumption | exact upw_s | refine (upw_n (by omega)).trans ?_)) (by first | assumption | omega) (by rfl) ?_
        refine r_iload_n (i := 2) i_N_deters_45 rfl rfl ?_
        refine r_iload_n (i := 3) i_N_deters_46 rfl rfl ?_
        refine f_virtual o_N_deters k_T_shareOfSaid v_T_shareOfSaid x_N_306 i_N_deters_47 o_T_shareOfSaid (c_T_shareOfSaid cT (by omega) (by omega)) rfl (rcv_ob (by repeat (first | assumption | exact upw_s | refine (upw_n (by omega)).trans ?_)) rfl (by first | assumption | omega)) rfl (by decide) (Nat.le_of_ble_eq_true rfl) ?_
        refine f_static o_N_deters k_JM_max2 s_JM_max2 x_N_315 i_N_deters_50 (c_JM_max2) rfl rfl (by decide) (Nat.le_of_ble_eq_true rfl) ?_
        refine r_istore_1 i_N_deters_53 (by rw [l_N_deters]; decide) rfl ?_
        refine r_iinc_3 (v := (1 : Int32)) i_N_deters_54 rfl (by rw [l_N_deters]; decide) rfl ?_
        refine r_goto 17 i_N_deters_57 (by decide) ?_
        rw [nI_1]
        exact ih (i + 1) (by omega) _ hk
  have l1 : ∀ m b, b + m = B → ∀ (x : Int32) (z : Option Value), lpF (dtB Q.1 P) m b x = lpF (dtB Q.1 P) B 0 0 → Go G 5 y_N_deters 4 [some (.ref 0), some (.int x), some (.int (nI b)), z] [] w n 0 0 (fun r w' n' => r = some (.int (dtA Q.1 (lpF (dtB Q.1 P) B 0 0))) ∧ (CW w' Q n ∧ cFr w w') ∧ n' = n) := by
    intro m
    induction m with
    | zero =>
      intro b hb x z hx
      have hb : b = B := by omega
      subst hb
      have hx : x = _ := hx
      rw [← hx]
      unfold dtA
      refine r_iload_n (i := 2) i_N_deters_4 rfl rfl ?_
      refine r_aload_n (i := 0) i_N_deters_5 rfl rfl ?_
      refine r_getf (ci := 0) (T := Fk0) (k := 0) o_N_deters i_N_deters_6 x_N_10 rfl (by decide) rfl (by repeat (first | assumption | exact upw_s | refine (upw_n (by omega)).trans ?_)) (by first | assumption | omega) (by rfl) ?_
      refine r_getfN (ci := 1) (T := Fk1) (k := 1) o_N_deters i_N_deters_9 x_N_113 rfl (by decide) rfl (by repeat (first | assumption | exact upw_s | refine (upw_n (by omega)).trans ?_)) (by first | assumption | omega) (by rfl) ?_
      refine r_icmp_ge 66 i_N_deters_12 (by decide) (fun h12 => ?_) (fun h12 => (absurd (by rw [hB]; exact nI_le (Nat.le_refl _) (by omega)) h12))
      refine r_iload_n (i := 1) i_N_deters_66 rfl rfl ?_
      refine r_if_ne 72 i_N_deters_67 (by decide) (fun h67 => ?_) (fun h67 => ?_)
      · skip
        rw [if_neg h67]
        refine r_aload_n (i := 0) i_N_deters_72 rfl rfl ?_
        refine r_getf (ci := 0) (T := Fk0) (k := 0) o_N_deters i_N_deters_73 x_N_10 rfl (by decide) rfl (by repeat (first | assumption | exact upw_s | refine (upw_n (by omega)).trans ?_)) (by first | assumption | omega) (by rfl) ?_
        refine r_getfN (ci := 1) (T := Fk1) (k := 4) o_N_deters i_N_deters_76 x_N_309 rfl (by decide) rfl (by repeat (first | assumption | exact upw_s | refine (upw_n (by omega)).trans ?_)) (by first | assumption | omega) (by rfl) ?_
        refine r_if_ne 84 i_N_deters_79 (by decide) (fun h79 => ?_) (fun h79 => ?_)
        · skip
          rw [if_neg h79]
          refine r_iload_n (i := 1) i_N_deters_84 rfl rfl ?_
          refine r_aload_n (i := 0) i_N_deters_85 rfl rfl ?_
          refine r_getf (ci := 0) (T := Fk0) (k := 0) o_N_deters i_N_deters_86 x_N_10 rfl (by decide) rfl (by repeat (first | assumption | exact upw_s | refine (upw_n (by omega)).trans ?_)) (by first | assumption | omega) (by rfl) ?_
          refine r_getfN (ci := 1) (T := Fk1) (k := 4) o_N_deters i_N_deters_89 x_N_309 rfl (by decide) rfl (by repeat (first | assumption | exact upw_s | refine (upw_n (by omega)).trans ?_)) (by first | assumption | omega) (by rfl) ?_
          refine r_iadd i_N_deters_92 ?_
          refine r_iconst (v := (1 : Int32)) i_N_deters_93 rfl ?_
          refine r_isub i_N_deters_94 ?_
          refine r_aload_n (i := 0) i_N_deters_95 rfl rfl ?_
          refine r_getf (ci := 0) (T := Fk0) (k := 0) o_N_deters i_N_deters_96 x_N_10 rfl (by decide) rfl (by repeat (first | assumption | exact upw_s | refine (upw_n (by omega)).trans ?_)) (by first | assumption | omega) (by rfl) ?_
          refine r_getfN (ci := 1) (T := Fk1) (k := 4) o_N_deters i_N_deters_99 x_N_309 rfl (by decide) rfl (by repeat (first | assumption | exact upw_s | refine (upw_n (by omega)).trans ?_)) (by first | assumption | omega) (by rfl) ?_
          refine r_idiv i_N_deters_102 (by assumption) ?_
          refine r_istore_2 i_N_deters_103 (by rw [l_N_deters]; decide) rfl ?_
          refine r_iload_n (i := 2) i_N_deters_104 rfl rfl ?_
          refine r_sipush (v := (999 : Int32)) i_N_deters_105 (by decide) ?_
          refine r_icmp_le 115 i_N_deters_108 (by decide) (fun h108 => ?_) (fun h108 => ?_)
          · skip
            rw [if_neg (Int32.not_lt.mpr h108)]
            refine r_iload_n (i := 2) i_N_deters_115 rfl rfl ?_
            refine r_ireturn i_N_deters_116 t_N_deters rfl ?_
            exact ⟨rfl, ⟨hC, cFr.rfl⟩, rfl⟩
          · skip
            rw [if_pos (Int32.not_le.mp h108)]
            refine r_iconst (v := (-1 : Int32)) i_N_deters_111 rfl ?_
            refine r_goto 116 i_N_deters_112 (by decide) ?_
            refine r_ireturn i_N_deters_116 t_N_deters rfl ?_
            exact ⟨rfl, ⟨hC, cFr.rfl⟩, rfl⟩
        · skip
          rw [if_pos h79]
          refine r_iconst (v := (-1 : Int32)) i_N_deters_82 rfl ?_
          refine r_ireturn i_N_deters_83 t_N_deters rfl ?_
          exact ⟨rfl, ⟨hC, cFr.rfl⟩, rfl⟩
      · skip
        rw [if_pos h67]
        refine r_iconst (v := (0 : Int32)) i_N_deters_70 rfl ?_
        refine r_ireturn i_N_deters_71 t_N_deters rfl ?_
        exact ⟨rfl, ⟨hC, cFr.rfl⟩, rfl⟩
    | succ m ih =>
      intro b hb x z hx
      have hx : lpF (dtB Q.1 P) m (b + 1) (dtB Q.1 P b x) = _ := hx
      refine r_iload_n (i := 2) i_N_deters_4 rfl rfl ?_
      refine r_aload_n (i := 0) i_N_deters_5 rfl rfl ?_
      refine r_getf (ci := 0) (T := Fk0) (k := 0) o_N_deters i_N_deters_6 x_N_10 rfl (by decide) rfl (by repeat (first | assumption | exact upw_s | refine (upw_n (by omega)).trans ?_)) (by first | assumption | omega) (by rfl) ?_
      refine r_getfN (ci := 1) (T := Fk1) (k := 1) o_N_deters i_N_deters_9 x_N_113 rfl (by decide) rfl (by repeat (first | assumption | exact upw_s | refine (upw_n (by omega)).trans ?_)) (by first | assumption | omega) (by rfl) ?_
      refine r_icmp_ge 66 i_N_deters_12 (by decide) (fun h12 => (absurd h12 (by rw [hB]; exact nI_ge (by omega) (by omega)))) (fun h12 => ?_)
      refine r_iconst (v := (0 : Int32)) i_N_deters_15 rfl ?_
      refine r_istore_3 i_N_deters_16 (by rw [l_N_deters]; decide) rfl ?_
      refine l2 _ b (by omega) P 0 (by omega) x (fun z9 => ?_)
      have ih' := ih (b + 1) (by omega) (dtB Q.1 P b x) z9 hx
      refine r_iinc_2 (v := (1 : Int32)) i_N_deters_60 rfl (by rw [l_N_deters]; decide) rfl ?_
      refine r_goto 4 i_N_deters_63 (by decide) ?_
      rw [nI_1]
      exact ih'
  refine r_iconst (v := (0 : Int32)) i_N_deters_0 rfl ?_
  refine r_istore_1 i_N_deters_1 (by rw [l_N_deters]; decide) rfl ?_
  refine r_iconst (v := (0 : Int32)) i_N_deters_2 rfl ?_
  refine r_istore_2 i_N_deters_3 (by rw [l_N_deters]; decide) rfl ?_
  exact l1 B 0 (by omega) 0 none rfl
def m_hiding (Q : aQ) (b i : Int32) : Int32 × aQ := if (lt0 b (Q.1.1 1) && lt0 i (Q.1.1 0)) = true then (if partyN Q.1 b.toNatClampNeg i = true then rfz Q (-5) else (bestV (putLS Q.1 b i (Q.1.1 2)) (nB Q) (nP Q) (allW (nP Q)) - bst Q (allW (nP Q)), Q)) else rfz Q (-2)
theorem c_N_hiding {b i : Int32} (hC : CW w Q n) (hQ : QOk Q) : Cm G 7 y_N_hiding [.ref 0, .int b, .int i] w n (m_hiding Q b i) := by
  obtain ⟨D, L, fa, K, Z, hX⟩ := id hC
  obtain ⟨c0, cT, cK, cD, cS, cR, cW, cE, cF, cn⟩ := id hX
  have oT := cT.1
  have oK := cK.1
  have oD := cD.1
  have oS := cS.1
  have oR := cR.1
  have oW := cW.1
  have oE := cE.1
  obtain ⟨P, B, hP, hP7, hB, hB7, hPI⟩ := id hQ.1
  refine Cm.of k_N_hiding l_N_hiding rfl rfl ?_
  unfold m_hiding
  have e9 : ∀ b i v, (1 : Int32) <<< ((putLS Q.1 b i v).1 0 &&& 31) - 1 = allW P := fun b i v => by show (1 : Int32) <<< (Q.1.1 0 &&& 31) - 1 = allW P; rw [hP]; rfl
  refine r_aload_n (i := 0) i_N_hiding_0 rfl rfl ?_
  refine r_getf (ci := 0) (T := Fk0) (k := 0) o_N_hiding i_N_hiding_1 x_N_10 rfl (by decide) rfl (by repeat (first | assumption | exact upw_s | refine (upw_n (by omega)).trans ?_)) (by first | assumption | omega) (by rfl) ?_
  refine r_iload_n (i := 1) i_N_hiding_4 rfl rfl ?_
  refine r_iload_n (i := 2) i_N_hiding_5 rfl rfl ?_
  refine f_virtual o_N_hiding k_T_hasPair v_T_hasPair x_N_139 i_N_hiding_6 o_T_hasPair (c_T_hasPair cT) rfl (rcv_ob (by repeat (first | assumption | exact upw_s | refine (upw_n (by omega)).trans ?_)) rfl (by first | assumption | omega)) rfl (by decide) (Nat.le_of_ble_eq_true rfl) ?_
  refine r_if_ne 19 i_N_hiding_9 (by decide) (fun h9 => ?_) (fun h9 => ?_)
  · skip
    have h9 := bI_ne0.mp h9
    try rw [h9]
    refine r_aload_n (i := 0) i_N_hiding_19 rfl rfl ?_
    refine r_getf (ci := 0) (T := Fk0) (k := 0) o_N_hiding i_N_hiding_20 x_N_10 rfl (by decide) rfl (by repeat (first | assumption | exact upw_s | refine (upw_n (by omega)).trans ?_)) (by first | assumption | omega) (by rfl) ?_
    refine r_iload_n (i := 1) i_N_hiding_23 rfl rfl ?_
    refine r_iload_n (i := 2) i_N_hiding_24 rfl rfl ?_
    rw [Bool.and_eq_true, hB, hP] at h9
    obtain ⟨b, hb, rfl⟩ := lt0_of (by omega) h9.1
    obtain ⟨i, hi, rfl⟩ := lt0_of (by omega) h9.2
    rw [nI_clamp (by omega)]
    refine f_virtual o_N_hiding k_T_isParty v_T_isParty x_N_269 i_N_hiding_25 o_T_isParty (c_T_isParty cT (by omega)) rfl (rcv_ob (by repeat (first | assumption | exact upw_s | refine (upw_n (by omega)).trans ?_)) rfl (by first | assumption | omega)) rfl (by decide) (Nat.le_of_ble_eq_true rfl) ?_
    refine r_if_eq 38 i_N_hiding_28 (by decide) (fun h28 => ?_) (fun h28 => ?_)
    · skip
      have h28 := bI_eq0.mp h28
      try rw [h28]
      refine r_aload_n (i := 0) i_N_hiding_38 rfl rfl ?_
      refine r_getf (ci := 0) (T := Fk0) (k := 2) o_N_hiding i_N_hiding_39 x_N_19 rfl (by decide) rfl (by repeat (first | assumption | exact upw_s | refine (upw_n (by omega)).trans ?_)) (by first | assumption | omega) (by rfl) ?_
      refine r_aload_n (i := 0) i_N_hiding_42 rfl rfl ?_
      refine r_getf (ci := 0) (T := Fk0) (k := 0) o_N_hiding i_N_hiding_43 x_N_10 rfl (by decide) rfl (by repeat (first | assumption | exact upw_s | refine (upw_n (by omega)).trans ?_)) (by first | assumption | omega) (by rfl) ?_
      refine m_virtual o_N_hiding k_T_become v_T_become x_N_181 i_N_hiding_46 o_T_become (c_T_become cD cT (by omega)) rfl (rcv_ob (by repeat (first | assumption | exact upw_s | refine (upw_n (by omega)).trans ?_)) rfl (by first | assumption | omega)) rfl (by decide) (Nat.le_of_ble_eq_true rfl) (Nat.zero_le _) (Nat.zero_le _) (fun r1 w2 n1 hp9 => ?_)
      obtain ⟨rfl, ⟨hT2, hF2⟩, rfl⟩ := hp9
      have hX2 := hX.draft hT2 hF2
      obtain ⟨d0, dT, dK, dD, dS, dR, dW, dE, dF, dn⟩ := id hX2
      have uD := dD.1
      have uT := dT.1
      refine r_aload_n (i := 0) i_N_hiding_49 rfl rfl ?_
      refine r_getf (ci := 0) (T := Fk0) (k := 2) o_N_hiding i_N_hiding_50 x_N_19 rfl (by decide) rfl (by repeat (first | assumption | exact upw_s | refine (upw_n (by omega)).trans ?_)) (by first | assumption | omega) (by rfl) ?_
      refine r_iload_n (i := 1) i_N_hiding_53 rfl rfl ?_
      refine r_iload_n (i := 2) i_N_hiding_54 rfl rfl ?_
      refine r_aload_n (i := 0) i_N_hiding_55 rfl rfl ?_
      refine r_getf (ci := 0) (T := Fk0) (k := 0) o_N_hiding i_N_hiding_56 x_N_10 rfl (by decide) rfl (by repeat (first | assumption | exact upw_s | refine (upw_n (by omega)).trans ?_)) (by first | assumption | omega) (by rfl) ?_
      refine r_getfN (ci := 1) (T := Fk1) (k := 2) o_N_hiding i_N_hiding_59 x_N_318 rfl (by decide) rfl (by repeat (first | assumption | exact upw_s | refine (upw_n (by omega)).trans ?_)) (by first | assumption | omega) (by rfl) ?_
      refine m_virtual o_N_hiding k_T_putLoss v_T_putLoss x_N_142 i_N_hiding_62 o_T_putLoss (c_T_putLoss dD (by omega) (by omega)) rfl (rcv_ob (by repeat (first | assumption | exact upw_s | refine (upw_n (by omega)).trans ?_)) rfl (by first | assumption | omega)) rfl (by decide) (Nat.le_of_ble_eq_true rfl) (Nat.zero_le _) (Nat.zero_le _) (fun r1 w3 n1 hp9 => ?_)
      obtain ⟨rfl, ⟨hT3, hF3⟩, rfl⟩ := hp9
      have e8 : upA Q.1 7 (upd (Q.1.2 7) (7 * b + i) (Q.1.1 2)) = putLS Q.1 (nI b) (nI i) (Q.1.1 2) := by unfold putLS; rw [nI_clamp (by omega), nI_clamp (by omega)]
      rw [e8] at hT3
      have hX3 := hX2.draft hT3 hF3
      obtain ⟨y0, yT, yK, yD, yS, yR, yW, yE, yF, yn⟩ := id hX3
      have vD := yD.1
      have vE := yE.1
      refine r_aload_n (i := 0) i_N_hiding_65 rfl rfl ?_
      refine r_getf (ci := 0) (T := Fk0) (k := 7) o_N_hiding i_N_hiding_66 x_N_50 rfl (by decide) rfl (by repeat (first | assumption | exact upw_s | refine (upw_n (by omega)).trans ?_)) (by first | assumption | omega) (by rfl) ?_
      refine r_aload_n (i := 0) i_N_hiding_69 rfl rfl ?_
      refine r_getf (ci := 0) (T := Fk0) (k := 2) o_N_hiding i_N_hiding_70 x_N_19 rfl (by decide) rfl (by repeat (first | assumption | exact upw_s | refine (upw_n (by omega)).trans ?_)) (by first | assumption | omega) (by rfl) ?_
      refine r_aload_n (i := 0) i_N_hiding_73 rfl rfl ?_
      refine r_getf (ci := 0) (T := Fk0) (k := 2) o_N_hiding i_N_hiding_74 x_N_19 rfl (by decide) rfl (by repeat (first | assumption | exact upw_s | refine (upw_n (by omega)).trans ?_)) (by first | assumption | omega) (by rfl) ?_
      refine f_virtual o_N_hiding k_T_everybody v_T_everybody x_N_251 i_N_hiding_77 o_T_everybody (c_T_everybody yD) rfl (rcv_ob (by repeat (first | assumption | exact upw_s | refine (upw_n (by omega)).trans ?_)) rfl (by first | assumption | omega)) rfl (by decide) (Nat.le_of_ble_eq_true rfl) ?_
      rw [e9]
      refine m_virtual o_N_hiding k_E_bestValue v_E_bestValue x_N_254 i_N_hiding_80 o_E_bestValue (c_E_bestValue (B := B) (P := P) yE yD (by omega) hP hP7 hB hB7) rfl (rcv_ob (by repeat (first | assumption | exact upw_s | refine (upw_n (by omega)).trans ?_)) rfl (by first | assumption | omega)) rfl (by decide) (Nat.le_of_ble_eq_true rfl) (Nat.zero_le _) (Nat.zero_le _) (fun r1 w4 n1 hp9 => ?_)
      obtain ⟨rfl, ⟨⟨Z', hE4⟩, hF4⟩, rfl⟩ := hp9
      have hX4 := hX3.srch hE4 hF4
      obtain ⟨x0, xT, xK, xD, xS, xR, xW, xE, xF, xn⟩ := id hX4
      refine r_aload_n (i := 0) i_N_hiding_83 rfl rfl ?_
      refine m_virtual o_N_hiding k_N_best v_N_best x_N_260 i_N_hiding_84 o_N_best (c_N_best hX4.cw hQ) rfl (rcv_ob (by repeat (first | assumption | exact upw_s | refine (upw_n (by omega)).trans ?_)) rfl (by first | assumption | omega)) rfl (by decide) (Nat.le_of_ble_eq_true rfl) (Nat.zero_le _) (Nat.zero_le _) (fun r1 w5 n1 hp9 => ?_)
      obtain ⟨rfl, ⟨hC5, hF5⟩, rfl⟩ := hp9
      refine r_isub i_N_hiding_87 ?_
      refine r_ireturn i_N_hiding_88 t_N_hiding rfl ?_
      refine ⟨?_, ⟨hC5, fun j hj => (hF5 j hj).trans ((hF4 j (by omega)).trans ((hF3 j (by omega)).trans (hF2 j (by omega))))⟩, rfl⟩
      rw [if_pos rfl, if_neg (by decide), nB_eq hB hB7, nP_eq hP hP7]
      rw [show (m_best Q).1 = bst Q (allW P) by unfold m_best; rw [nP_eq hP hP7]]
    · skip
      have h28 := bI_ne0.mp h28
      try rw [h28]
      refine r_aload_n (i := 0) i_N_hiding_31 rfl rfl ?_
      refine r_bipush (v := (-5 : Int32)) i_N_hiding_32 (by decide) ?_
      refine m_virtual o_N_hiding k_N_refuse v_N_refuse x_N_66 i_N_hiding_34 o_N_refuse (c_N_refuse hC) rfl (rcv_ob (by repeat (first | assumption | exact upw_s | refine (upw_n (by omega)).trans ?_)) rfl (by first | assumption | omega)) rfl (by decide) (Nat.le_of_ble_eq_true rfl) (Nat.zero_le _) (Nat.zero_le _) (fun rr34 wr34 nr34 hp9 => ?_)
      obtain ⟨rfl, hp9, rfl⟩ := hp9
      refine r_ireturn i_N_hiding_37 t_N_hiding rfl ?_
      first | exact ⟨rfl, hp9, rfl⟩ | exact ⟨rfl, ⟨hC, cFr.rfl⟩, rfl⟩
  · skip
    have h9 := bI_eq0.mp h9
    try rw [h9]
    refine r_aload_n (i := 0) i_N_hiding_12 rfl rfl ?_
    refine r_bipush (v := (-2 : Int32)) i_N_hiding_13 (by decide) ?_
    refine m_virtual o_N_hiding k_N_refuse v_N_refuse x_N_66 i_N_hiding_15 o_N_refuse (c_N_refuse hC) rfl (rcv_ob (by repeat (first | assumption | exact upw_s | refine (upw_n (by omega)).trans ?_)) rfl (by first | assumption | omega)) rfl (by decide) (Nat.le_of_ble_eq_true rfl) (Nat.zero_le _) (Nat.zero_le _) (fun rr15 wr15 nr15 hp9 => ?_)
    obtain ⟨rfl, hp9, rfl⟩ := hp9
    refine r_ireturn i_N_hiding_18 t_N_hiding rfl ?_
    first | exact ⟨rfl, hp9, rfl⟩ | exact ⟨rfl, ⟨hC, cFr.rfl⟩, rfl⟩
def r_says1 (Q : aQ) (s k : Int32) : Int32 := if ruleR Q.2.2.2.1 s = 0 then (if isU k 7 (heldI Q.2.2.2.1 s - 10) = true then 0 else -3) else ruleR Q.2.2.2.1 s
def r_says2 (Q : aQ) (k r : Int32) : Int32 := if r = 0 ∧ ¬ k = 0 ∧ Q.1.1 1 = 0 then -5 else r
def m_says (Q : aQ) (s k : Int32) : Int32 × aQ := if (lt0 s 8 && wi0 k 0 6) = true then (if r_says2 Q k (r_says1 Q s k) = 0 then (if k = 0 then (noI Q s, Q) else (tbs Q s 0 0, Q)) else rfz Q (r_says2 Q k (r_says1 Q s k))) else rfz Q (-2)
theorem c_N_says {s k : Int32} (hC : CW w Q n) (hQ : QOk Q) : Cm G 6 y_N_says [.ref 0, .int s, .int k] w n (m_says Q s k) := by
  obtain ⟨D, L, fa, K, Z, hX⟩ := id hC
  obtain ⟨c0, cT, cK, cD, cS, cR, cW, cE, cF, cn⟩ := id hX
  have oT := cT.1
  have oK := cK.1
  have oD := cD.1
  have oS := cS.1
  have oR := cR.1
  have oW := cW.1
  have oE := cE.1
  obtain ⟨P, B, hP, hP7, hB, hB7, hPI⟩ := id hQ.1
  refine Cm.of k_N_says l_N_says rfl rfl ?_
  unfold m_says
  have k2 : ∀ r, (r = 0 → ruleR Q.2.2.2.1 s = 0) → Go G 6 y_N_says 78 [some (.ref 0), some (.int s), some (.int k), some (.int r)] [] w n 0 0 (fun r' w' n' => r' = some (.int (if r = 0 then (if k = 0 then (noI Q s, Q) else (tbs Q s 0 0, Q)) else rfz Q r).1) ∧ (CW w' (if r = 0 then (if k = 0 then (noI Q s, Q) else (tbs Q s 0 0, Q)) else rfz Q r).2 n ∧ cFr w w') ∧ n' = n) := by
    intro r hr
    refine r_iload_n (i := 3) i_N_says_78 rfl rfl ?_
    refine r_if_eq 88 i_N_says_79 (by decide) (fun h79 => ?_) (fun h79 => ?_)
    · skip
      rw [if_pos h79]
      refine r_iload_n (i := 2) i_N_says_88 rfl rfl ?_
      refine r_if_ne 103 i_N_says_89 (by decide) (fun h89 => ?_) (fun h89 => ?_)
      · skip
        rw [if_neg h89]
        refine r_aload_n (i := 0) i_N_says_103 rfl rfl ?_
        refine r_iload_n (i := 1) i_N_says_104 rfl rfl ?_
        refine r_iconst (v := (0 : Int32)) i_N_says_105 rfl ?_
        refine r_iconst (v := (0 : Int32)) i_N_says_106 rfl ?_
        refine m_virtual o_N_says k_N_thirdByShelf v_N_thirdByShelf x_N_120 i_N_says_107 o_N_thirdByShelf (c_N_thirdByShelf (b := 0) hC hQ (hr h79) (by decide)) rfl (rcv_ob (by repeat (first | assumption | exact upw_s | refine (upw_n (by omega)).trans ?_)) rfl (by first | assumption | omega)) rfl (by decide) (Nat.le_of_ble_eq_true rfl) (Nat.zero_le _) (Nat.zero_le _) (fun r1 w2 n1 hp9 => ?_)
        obtain ⟨rfl, hp9, rfl⟩ := hp9
        refine r_ireturn i_N_says_110 t_N_says rfl ?_
        first | exact ⟨rfl, hp9, rfl⟩ | exact ⟨rfl, ⟨hC, cFr.rfl⟩, rfl⟩
      · skip
        rw [if_pos h89]
        refine r_aload_n (i := 0) i_N_says_92 rfl rfl ?_
        refine r_getf (ci := 0) (T := Fk0) (k := 4) o_N_says i_N_says_93 x_N_29 rfl (by decide) rfl (by repeat (first | assumption | exact upw_s | refine (upw_n (by omega)).trans ?_)) (by first | assumption | omega) (by rfl) ?_
        refine r_iload_n (i := 1) i_N_says_96 rfl rfl ?_
        refine f_virtual o_N_says k_S_numberIn v_S_numberIn x_N_117 i_N_says_97 o_S_numberIn (c_S_numberIn cS) rfl (rcv_ob (by repeat (first | assumption | exact upw_s | refine (upw_n (by omega)).trans ?_)) rfl (by first | assumption | omega)) rfl (by decide) (Nat.le_of_ble_eq_true rfl) ?_
        refine r_goto 110 i_N_says_100 (by decide) ?_
        refine r_ireturn i_N_says_110 t_N_says rfl ?_
        first | exact ⟨rfl, hp9, rfl⟩ | exact ⟨rfl, ⟨hC, cFr.rfl⟩, rfl⟩
    · skip
      rw [if_neg h79]
      refine r_aload_n (i := 0) i_N_says_82 rfl rfl ?_
      refine r_iload_n (i := 3) i_N_says_83 rfl rfl ?_
      refine m_virtual o_N_says k_N_refuse v_N_refuse x_N_66 i_N_says_84 o_N_refuse (c_N_refuse hC) rfl (rcv_ob (by repeat (first | assumption | exact upw_s | refine (upw_n (by omega)).trans ?_)) rfl (by first | assumption | omega)) rfl (by decide) (Nat.le_of_ble_eq_true rfl) (Nat.zero_le _) (Nat.zero_le _) (fun rr84 wr84 nr84 hp9 => ?_)
      obtain ⟨rfl, hp9, rfl⟩ := hp9
      refine r_ireturn i_N_says_87 t_N_says rfl ?_
      first | exact ⟨rfl, hp9, rfl⟩ | exact ⟨rfl, ⟨hC, cFr.rfl⟩, rfl⟩
  have k1 : ∀ r, (r = 0 → ruleR Q.2.2.2.1 s = 0) → Go G 6 y_N_says 57 [some (.ref 0), some (.int s), some (.int k), some (.int r)] [] w n 0 0 (fun r' w' n' => r' = some (.int (if r_says2 Q k r = 0 then (if k = 0 then (noI Q s, Q) else (tbs Q s 0 0, Q)) else rfz Q (r_says2 Q k r)).1) ∧ (CW w' (if r_says2 Q k r = 0 then (if k = 0 then (noI Q s, Q) else (tbs Q s 0 0, Q)) else rfz Q (r_says2 Q k r)).2 n ∧ cFr w w') ∧ n' = n) := by
    intro r hr
    refine r_iload_n (i := 3) i_N_says_57 rfl rfl ?_
    refine r_if_ne 78 i_N_says_58 (by decide) (fun h58 => ?_) (fun h58 => ?_)
    · skip
      rw [show r_says2 Q k r = r from if_neg (fun q => h58 q.1)]
      first | exact k2 _ (fun q => absurd q (by decide)) | exact k2 r hr
    · skip
      refine r_iload_n (i := 2) i_N_says_61 rfl rfl ?_
      refine r_if_eq 78 i_N_says_62 (by decide) (fun h62 => ?_) (fun h62 => ?_)
      · skip
        rw [show r_says2 Q k r = r from if_neg (fun q => q.2.1 h62)]
        first | exact k2 _ (fun q => absurd q (by decide)) | exact k2 r hr
      · skip
        refine r_aload_n (i := 0) i_N_says_65 rfl rfl ?_
        refine r_getf (ci := 0) (T := Fk0) (k := 0) o_N_says i_N_says_66 x_N_10 rfl (by decide) rfl (by repeat (first | assumption | exact upw_s | refine (upw_n (by omega)).trans ?_)) (by first | assumption | omega) (by rfl) ?_
        refine r_getfN (ci := 1) (T := Fk1) (k := 1) o_N_says i_N_says_69 x_N_113 rfl (by decide) rfl (by repeat (first | assumption | exact upw_s | refine (upw_n (by omega)).trans ?_)) (by first | assumption | omega) (by rfl) ?_
        refine r_if_ne 78 i_N_says_72 (by decide) (fun h72 => ?_) (fun h72 => ?_)
        · skip
          rw [show r_says2 Q k r = r from if_neg (fun q => h72 q.2.2)]
          first | exact k2 _ (fun q => absurd q (by decide)) | exact k2 r hr
        · skip
          rw [show r_says2 Q k r = -5 from if_pos ⟨h58, h62, h72⟩]
          refine r_bipush (v := (-5 : Int32)) i_N_says_75 (by decide) ?_
          refine r_istore_3 i_N_says_77 (by rw [l_N_says]; decide) rfl ?_
          first | exact k2 _ (fun q => absurd q (by decide)) | exact k2 r hr
  refine r_iload_n (i := 1) i_N_says_0 rfl rfl ?_
  refine r_bipush (v := (8 : Int32)) i_N_says_1 (by decide) ?_
  refine f_static o_N_says k_N_isBelow s_N_isBelow x_N_58 i_N_says_3 (c_N_isBelow) rfl rfl (by decide) (Nat.le_of_ble_eq_true rfl) ?_
  refine r_if_eq 19 i_N_says_6 (by decide) (fun h6 => ?_) (fun h6 => ?_)
  · skip
    have h6 := bI_eq0.mp h6
    try rw [h6]
    refine r_aload_n (i := 0) i_N_says_19 rfl rfl ?_
    refine r_bipush (v := (-2 : Int32)) i_N_says_20 (by decide) ?_
    refine m_virtual o_N_says k_N_refuse v_N_refuse x_N_66 i_N_says_22 o_N_refuse (c_N_refuse hC) rfl (rcv_ob (by repeat (first | assumption | exact upw_s | refine (upw_n (by omega)).trans ?_)) rfl (by first | assumption | omega)) rfl (by decide) (Nat.le_of_ble_eq_true rfl) (Nat.zero_le _) (Nat.zero_le _) (fun rr22 wr22 nr22 hp9 => ?_)
    obtain ⟨rfl, hp9, rfl⟩ := hp9
    refine r_ireturn i_N_says_25 t_N_says rfl ?_
    first | exact ⟨rfl, hp9, rfl⟩ | exact ⟨rfl, ⟨hC, cFr.rfl⟩, rfl⟩
  · skip
    have h6 := bI_ne0.mp h6
    try rw [h6]
    refine r_iload_n (i := 2) i_N_says_9 rfl rfl ?_
    refine r_iconst (v := (0 : Int32)) i_N_says_10 rfl ?_
    refine r_bipush (v := (6 : Int32)) i_N_says_11 (by decide) ?_
    refine f_static o_N_says k_N_isWithin s_N_isWithin x_N_62 i_N_says_13 (c_N_isWithin) rfl rfl (by decide) (Nat.le_of_ble_eq_true rfl) ?_
    refine r_if_ne 26 i_N_says_16 (by decide) (fun h16 => ?_) (fun h16 => ?_)
    · skip
      have h16 := bI_ne0.mp h16
      try rw [h16]
      refine r_aload_n (i := 0) i_N_says_26 rfl rfl ?_
      refine r_getf (ci := 0) (T := Fk0) (k := 4) o_N_says i_N_says_27 x_N_29 rfl (by decide) rfl (by repeat (first | assumption | exact upw_s | refine (upw_n (by omega)).trans ?_)) (by first | assumption | omega) (by rfl) ?_
      refine r_iload_n (i := 1) i_N_says_30 rfl rfl ?_
      refine f_virtual o_N_says k_S_ruleRefusal v_S_ruleRefusal x_N_104 i_N_says_31 o_S_ruleRefusal (c_S_ruleRefusal cS) rfl (rcv_ob (by repeat (first | assumption | exact upw_s | refine (upw_n (by omega)).trans ?_)) rfl (by first | assumption | omega)) rfl (by decide) (Nat.le_of_ble_eq_true rfl) ?_
      refine r_istore_3 i_N_says_34 (by rw [l_N_says]; decide) rfl ?_
      refine r_iload_n (i := 3) i_N_says_35 rfl rfl ?_
      refine r_if_ne 57 i_N_says_36 (by decide) (fun h36 => ?_) (fun h36 => ?_)
      · skip
        rw [show r_says1 Q s k = ruleR Q.2.2.2.1 s from if_neg h36]
        first | exact k1 _ (fun q => absurd q (by decide)) | exact k1 _ (fun q => absurd q h36) | exact k1 _ (fun _ => h36)
      · skip
        refine r_aload_n (i := 0) i_N_says_39 rfl rfl ?_
        refine r_getf (ci := 0) (T := Fk0) (k := 4) o_N_says i_N_says_40 x_N_29 rfl (by decide) rfl (by repeat (first | assumption | exact upw_s | refine (upw_n (by omega)).trans ?_)) (by first | assumption | omega) (by rfl) ?_
        refine r_iload_n (i := 1) i_N_says_43 rfl rfl ?_
        refine f_virtual o_N_says k_S_kindIn v_S_kindIn x_N_107 i_N_says_44 o_S_kindIn (c_S_kindIn cS) rfl (rcv_ob (by repeat (first | assumption | exact upw_s | refine (upw_n (by omega)).trans ?_)) rfl (by first | assumption | omega)) rfl (by decide) (Nat.le_of_ble_eq_true rfl) ?_
        refine r_iload_n (i := 2) i_N_says_47 rfl rfl ?_
        refine f_static o_N_says k_U_isUnder s_U_isUnder x_N_110 i_N_says_48 (c_U_isUnder) rfl rfl (by decide) (Nat.le_of_ble_eq_true rfl) ?_
        refine r_if_ne 57 i_N_says_51 (by decide) (fun h51 => ?_) (fun h51 => ?_)
        · skip
          have h51 := bI_ne0.mp h51
          try rw [h51]
          rw [show r_says1 Q s k = 0 from (if_pos h36).trans (if_pos h51)]
          rw [h36]
          first | exact k1 _ (fun q => absurd q (by decide)) | exact k1 _ (fun q => absurd q h36) | exact k1 _ (fun _ => h36)
        · skip
          have h51 := bI_eq0.mp h51
          try rw [h51]
          rw [show r_says1 Q s k = -3 from (if_pos h36).trans (if_neg (by rw [h51]; decide))]
          refine r_bipush (v := (-3 : Int32)) i_N_says_54 (by decide) ?_
          refine r_istore_3 i_N_says_56 (by rw [l_N_says]; decide) rfl ?_
          first | exact k1 _ (fun q => absurd q (by decide)) | exact k1 _ (fun q => absurd q h36) | exact k1 _ (fun _ => h36)
    · skip
      have h16 := bI_eq0.mp h16
      try rw [h16]
      refine r_aload_n (i := 0) i_N_says_19 rfl rfl ?_
      refine r_bipush (v := (-2 : Int32)) i_N_says_20 (by decide) ?_
      refine m_virtual o_N_says k_N_refuse v_N_refuse x_N_66 i_N_says_22 o_N_refuse (c_N_refuse hC) rfl (rcv_ob (by repeat (first | assumption | exact upw_s | refine (upw_n (by omega)).trans ?_)) rfl (by first | assumption | omega)) rfl (by decide) (Nat.le_of_ble_eq_true rfl) (Nat.zero_le _) (Nat.zero_le _) (fun rr22 wr22 nr22 hp9 => ?_)
      obtain ⟨rfl, hp9, rfl⟩ := hp9
      refine r_ireturn i_N_says_25 t_N_says rfl ?_
      first | exact ⟨rfl, hp9, rfl⟩ | exact ⟨rfl, ⟨hC, cFr.rfl⟩, rfl⟩
end PUBE
