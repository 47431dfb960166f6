-- THE CLASS: SHELVES
def TOk (S : aS) : Prop := ∃ P B : Nat, S.1 0 = nI P ∧ P ≤ 7 ∧ S.1 1 = nI B ∧ B ≤ 7 ∧ PIn S B P
def HOk (X : aH) : Prop := ∀ s, s < 8 → ((X.1 s = -1) ∨ (∃ c, c < 5 ∧ X.1 s = nI c) ∨ (∃ kd, 1 ≤ kd ∧ kd ≤ 6 ∧ X.1 s = nI (10 + kd))) ∧ (∃ m, m ≤ 40 ∧ X.2.1 s = nI m)
def QOk (Q : aQ) : Prop := TOk Q.1 ∧ TOk Q.2.1 ∧ HOk Q.2.2.2.1 ∧ Q.2.2.2.2.2.1 ≤ 250
abbrev qT (Q : aQ) (S : aS) : aQ := (S, Q.2)
abbrev qS (Q : aQ) (X : aH) : aQ := (Q.1, Q.2.1, Q.2.2.1, X, Q.2.2.2.2)
abbrev tw (Q : aQ) : aS := Q.1
abbrev sh (Q : aQ) : aH := Q.2.2.2.1
theorem wi0_of {v : Int32} {N : Nat} (hN : N < 2 ^ 31) (h : wi0 v 0 (nI N) = true) : ∃ k, k ≤ N ∧ v = nI k := by
  unfold wi0 at h
  have h := of_decide_eq_true h
  obtain ⟨j, hj, e⟩ := nI_of h.1
  refine ⟨j, ?_, e⟩
  rcases Nat.lt_or_ge N j with q | q
  · exact absurd (e ▸ nI_lt q hj) h.2
  · exact q
theorem size_of {X : aH} (hX : HOk X) (s : Nat) (hs : s < 8) : ∃ m, m ≤ 40 ∧ sizeI X (nI s) = nI m := by
  obtain ⟨-, m, hm, e⟩ := hX s hs
  unfold sizeI
  split
  · exact ⟨m, hm, by rw [atI_in hs (by decide)]; exact e⟩
  · exact ⟨0, by omega, rfl⟩
theorem row_sort {X : aH} (hX : HOk X) {s : Nat} (hs : s < 8) (h : isRow X (nI s) = true) : ∃ c, c < 5 ∧ X.1 s = nI c := by
  unfold isRow at h
  rw [heldI_in hs] at h
  obtain ⟨c, hc, e⟩ := lt0_of (N := 5) (by decide) h
  exact ⟨c, hc, e⟩
theorem rowR_0 {X : aH} {s : Int32} (h : rowR X s = 0) : ∃ k, k < 8 ∧ s = nI k ∧ isRow X s = true := by
  unfold rowR at h
  split at h
  · rename_i h1
    obtain ⟨k, hk, e⟩ := lt0_of (N := 8) (by decide) h1
    refine ⟨k, hk, e, ?_⟩
    split at h
    · exact absurd h (by decide)
    · split at h
      · assumption
      · exact absurd h (by decide)
  · exact absurd h (by decide)
theorem ruleR_0 {X : aH} (hX : HOk X) {s : Int32} (h : ruleR X s = 0) : ∃ k kd, k < 8 ∧ s = nI k ∧ 1 ≤ kd ∧ kd ≤ 6 ∧ heldI X s - 10 = nI kd ∧ atI X.2.2.1 8 s = X.2.2.1 k := by
  unfold ruleR at h
  split at h
  · rename_i h1
    obtain ⟨k, hk, e⟩ := lt0_of (N := 8) (by decide) h1
    split at h
    · exact absurd h (by decide)
    · rename_i h2
      split at h
      · rename_i h3
        subst e
        unfold isRule at h3
        unfold isRow at h2
        rw [heldI_in hk] at h2 h3 ⊢
        have h3 := of_decide_eq_true h3
        obtain ⟨hh, -⟩ := hX k hk
        rcases hh with q | ⟨c, hc, q⟩ | ⟨kd, k1, k6, q⟩
        · rw [q] at h3; exact absurd h3 (by decide)
        · rw [q] at h2; exact absurd (lt0_in hc (by decide)) h2
        · exact ⟨k, kd, hk, rfl, k1, k6, by rw [q]; show nI (10 + kd) - nI 10 = _; rw [pk_sub (by omega)]; exact congrArg nI (by omega), by rw [atI_in hk (by decide)]⟩
      · exact absurd h (by decide)
  · exact absurd h (by decide)
section PUBS
variable {G : gE} {w : aW} {n : Nat} {Q : aQ}
def m_row (Q : aQ) (s c m : Int32) : Int32 × aQ := if (lt0 s 8 && lt0 c 5 && wi0 m 0 40) = true then (1, qS Q (rowX (sh Q) s.toNatClampNeg c.toNatClampNeg m.toNatClampNeg m.toNatClampNeg)) else rfz Q (-2)
theorem c_N_row {s c m : Int32} (hC : CW w Q n) : Cm G 5 y_N_row [.ref 0, .int s, .int c, .int m] w n (m_row Q s c m) := by
  obtain ⟨D, L, fa, K, Z, hX⟩ := id hC
  obtain ⟨c0, cT, cK, cD, cS, cR, cW, cE, cF, cn⟩ := id hX
  have oT := cT.1
  have oK := cK.1
  have oD := cD.1
  have oS := cS.1
  have oR := cR.1
  have oW := cW.1
  have oE := cE.1
  refine Cm.of k_N_row l_N_row rfl rfl ?_
  unfold m_row
  refine r_iload_n (i := 1) i_N_row_0 rfl rfl ?_
  refine r_bipush (v := (8 : Int32)) i_N_row_1 (by decide) ?_
  refine f_static o_N_row k_N_isBelow s_N_isBelow x_N_58 i_N_row_3 (c_N_isBelow) rfl rfl (by decide) (Nat.le_of_ble_eq_true rfl) ?_
  refine r_if_eq 27 i_N_row_6 (by decide) (fun h6 => ?_) (fun h6 => ?_)
  · skip
    have h6 := bI_eq0.mp h6
    try rw [h6]
    refine r_aload_n (i := 0) i_N_row_27 rfl rfl ?_
    refine r_bipush (v := (-2 : Int32)) i_N_row_28 (by decide) ?_
    refine m_virtual o_N_row k_N_refuse v_N_refuse x_N_66 i_N_row_30 o_N_refuse (c_N_refuse hC) rfl (rcv_ob (by repeat (first | assumption | exact upw_s | refine (upw_n (by omega)).trans ?_)) rfl (by first | assumption | omega)) rfl (by decide) (Nat.le_of_ble_eq_true rfl) (Nat.zero_le _) (Nat.zero_le _) (fun rr30 wr30 nr30 hp9 => ?_)
    obtain ⟨rfl, hp9, rfl⟩ := hp9
    refine r_ireturn i_N_row_33 t_N_row rfl ?_
    first | exact ⟨rfl, hp9, rfl⟩ | exact ⟨rfl, ⟨hC, cFr.rfl⟩, rfl⟩
  · skip
    have h6 := bI_ne0.mp h6
    try rw [h6]
    refine r_iload_n (i := 2) i_N_row_9 rfl rfl ?_
    refine r_iconst (v := (5 : Int32)) i_N_row_10 rfl ?_
    refine f_static o_N_row k_N_isBelow s_N_isBelow x_N_58 i_N_row_11 (c_N_isBelow) rfl rfl (by decide) (Nat.le_of_ble_eq_true rfl) ?_
    refine r_if_eq 27 i_N_row_14 (by decide) (fun h14 => ?_) (fun h14 => ?_)
    · skip
      have h14 := bI_eq0.mp h14
      try rw [h14]
      refine r_aload_n (i := 0) i_N_row_27 rfl rfl ?_
      refine r_bipush (v := (-2 : Int32)) i_N_row_28 (by decide) ?_
      refine m_virtual o_N_row k_N_refuse v_N_refuse x_N_66 i_N_row_30 o_N_refuse (c_N_refuse hC) rfl (rcv_ob (by repeat (first | assumption | exact upw_s | refine (upw_n (by omega)).trans ?_)) rfl (by first | assumption | omega)) rfl (by decide) (Nat.le_of_ble_eq_true rfl) (Nat.zero_le _) (Nat.zero_le _) (fun rr30 wr30 nr30 hp9 => ?_)
      obtain ⟨rfl, hp9, rfl⟩ := hp9
      refine r_ireturn i_N_row_33 t_N_row rfl ?_
      first | exact ⟨rfl, hp9, rfl⟩ | exact ⟨rfl, ⟨hC, cFr.rfl⟩, rfl⟩
    · skip
      have h14 := bI_ne0.mp h14
      try rw [h14]
      refine r_iload_n (i := 3) i_N_row_17 rfl rfl ?_
      refine r_iconst (v := (0 : Int32)) i_N_row_18 rfl ?_
      refine r_bipush (v := (40 : Int32)) i_N_row_19 (by decide) ?_
      refine f_static o_N_row k_N_isWithin s_N_isWithin x_N_62 i_N_row_21 (c_N_isWithin) rfl rfl (by decide) (Nat.le_of_ble_eq_true rfl) ?_
      refine r_if_ne 34 i_N_row_24 (by decide) (fun h24 => ?_) (fun h24 => ?_)
      · skip
        have h24 := bI_ne0.mp h24
        try rw [h24]
        refine r_aload_n (i := 0) i_N_row_34 rfl rfl ?_
        refine r_getf (ci := 0) (T := Fk0) (k := 4) o_N_row i_N_row_35 x_N_29 rfl (by decide) rfl (by repeat (first | assumption | exact upw_s | refine (upw_n (by omega)).trans ?_)) (by first | assumption | omega) (by rfl) ?_
        refine r_iload_n (i := 1) i_N_row_38 rfl rfl ?_
        refine r_iload_n (i := 2) i_N_row_39 rfl rfl ?_
        refine r_iload_n (i := 3) i_N_row_40 rfl rfl ?_
        obtain ⟨s, hs, rfl⟩ := lt0_of (N := 8) (by decide) h6
        obtain ⟨c, hc, rfl⟩ := lt0_of (N := 5) (by decide) h14
        obtain ⟨m, hm, rfl⟩ := wi0_of (N := 40) (by decide) h24
        rw [nI_clamp (by omega), nI_clamp (by omega), nI_clamp (by omega)]
        refine m_virtual o_N_row k_S_putRow v_S_putRow x_N_70 i_N_row_41 o_S_putRow (c_S_putRow cS hs hc hm) rfl (rcv_ob (by repeat (first | assumption | exact upw_s | refine (upw_n (by omega)).trans ?_)) rfl (by first | assumption | omega)) rfl (by decide) (Nat.le_of_ble_eq_true rfl) (Nat.zero_le _) (Nat.zero_le _) (fun r1 w2 n1 hp9 => ?_)
        obtain ⟨rfl, ⟨hS2, hF2⟩, rfl⟩ := hp9
        have hp9 : CW w2 (qS Q (rowX (sh Q) s c m m)) n1 ∧ cFr w w2 := ⟨(hX.shel hS2 hF2).cw, fun j hj => hF2 j (by omega)⟩
        refine r_iconst (v := (1 : Int32)) i_N_row_44 rfl ?_
        refine r_ireturn i_N_row_45 t_N_row rfl ?_
        first | exact ⟨rfl, hp9, rfl⟩ | exact ⟨rfl, ⟨hC, cFr.rfl⟩, rfl⟩
      · skip
        have h24 := bI_eq0.mp h24
        try rw [h24]
        refine r_aload_n (i := 0) i_N_row_27 rfl rfl ?_
        refine r_bipush (v := (-2 : Int32)) i_N_row_28 (by decide) ?_
        refine m_virtual o_N_row k_N_refuse v_N_refuse x_N_66 i_N_row_30 o_N_refuse (c_N_refuse hC) rfl (rcv_ob (by repeat (first | assumption | exact upw_s | refine (upw_n (by omega)).trans ?_)) rfl (by first | assumption | omega)) rfl (by decide) (Nat.le_of_ble_eq_true rfl) (Nat.zero_le _) (Nat.zero_le _) (fun rr30 wr30 nr30 hp9 => ?_)
        obtain ⟨rfl, hp9, rfl⟩ := hp9
        refine r_ireturn i_N_row_33 t_N_row rfl ?_
        first | exact ⟨rfl, hp9, rfl⟩ | exact ⟨rfl, ⟨hC, cFr.rfl⟩, rfl⟩
def m_rule (Q : aQ) (s kd a : Int32) : Int32 × aQ := if (lt0 s 8 && wi0 kd 1 6 && wi0 a 0 99) = true then (1, qS Q (upd (sh Q).1 s.toNatClampNeg (10 + kd), (sh Q).2.1, upd (sh Q).2.2.1 s.toNatClampNeg a, (sh Q).2.2.2)) else rfz Q (-2)
theorem c_N_rule {s c m : Int32} (hC : CW w Q n) : Cm G 5 y_N_rule [.ref 0, .int s, .int c, .int m] w n (m_rule Q s c m) := by
  obtain ⟨D, L, fa, K, Z, hX⟩ := id hC
  obtain ⟨c0, cT, cK, cD, cS, cR, cW, cE, cF, cn⟩ := id hX
  have oT := cT.1
  have oK := cK.1
  have oD := cD.1
  have oS := cS.1
  have oR := cR.1
  have oW := cW.1
  have oE := cE.1
  refine Cm.of k_N_rule l_N_rule rfl rfl ?_
  unfold m_rule
  refine r_iload_n (i := 1) i_N_rule_0 rfl rfl ?_
  refine r_bipush (v := (8 : Int32)) i_N_rule_1 (by decide) ?_
  refine f_static o_N_rule k_N_isBelow s_N_isBelow x_N_58 i_N_rule_3 (c_N_isBelow) rfl rfl (by decide) (Nat.le_of_ble_eq_true rfl) ?_
  refine r_if_eq 29 i_N_rule_6 (by decide) (fun h6 => ?_) (fun h6 => ?_)
  · skip
    have h6 := bI_eq0.mp h6
    try rw [h6]
    refine r_aload_n (i := 0) i_N_rule_29 rfl rfl ?_
    refine r_bipush (v := (-2 : Int32)) i_N_rule_30 (by decide) ?_
    refine m_virtual o_N_rule k_N_refuse v_N_refuse x_N_66 i_N_rule_32 o_N_refuse (c_N_refuse hC) rfl (rcv_ob (by repeat (first | assumption | exact upw_s | refine (upw_n (by omega)).trans ?_)) rfl (by first | assumption | omega)) rfl (by decide) (Nat.le_of_ble_eq_true rfl) (Nat.zero_le _) (Nat.zero_le _) (fun rr32 wr32 nr32 hp9 => ?_)
    obtain ⟨rfl, hp9, rfl⟩ := hp9
    refine r_ireturn i_N_rule_35 t_N_rule rfl ?_
    first | exact ⟨rfl, hp9, rfl⟩ | exact ⟨rfl, ⟨hC, cFr.rfl⟩, rfl⟩
  · skip
    have h6 := bI_ne0.mp h6
    try rw [h6]
    refine r_iload_n (i := 2) i_N_rule_9 rfl rfl ?_
    refine r_iconst (v := (1 : Int32)) i_N_rule_10 rfl ?_
    refine r_bipush (v := (6 : Int32)) i_N_rule_11 (by decide) ?_
    refine f_static o_N_rule k_N_isWithin s_N_isWithin x_N_62 i_N_rule_13 (c_N_isWithin) rfl rfl (by decide) (Nat.le_of_ble_eq_true rfl) ?_
    refine r_if_eq 29 i_N_rule_16 (by decide) (fun h16 => ?_) (fun h16 => ?_)
    · skip
      have h16 := bI_eq0.mp h16
      try rw [h16]
      refine r_aload_n (i := 0) i_N_rule_29 rfl rfl ?_
      refine r_bipush (v := (-2 : Int32)) i_N_rule_30 (by decide) ?_
      refine m_virtual o_N_rule k_N_refuse v_N_refuse x_N_66 i_N_rule_32 o_N_refuse (c_N_refuse hC) rfl (rcv_ob (by repeat (first | assumption | exact upw_s | refine (upw_n (by omega)).trans ?_)) rfl (by first | assumption | omega)) rfl (by decide) (Nat.le_of_ble_eq_true rfl) (Nat.zero_le _) (Nat.zero_le _) (fun rr32 wr32 nr32 hp9 => ?_)
      obtain ⟨rfl, hp9, rfl⟩ := hp9
      refine r_ireturn i_N_rule_35 t_N_rule rfl ?_
      first | exact ⟨rfl, hp9, rfl⟩ | exact ⟨rfl, ⟨hC, cFr.rfl⟩, rfl⟩
    · skip
      have h16 := bI_ne0.mp h16
      try rw [h16]
      refine r_iload_n (i := 3) i_N_rule_19 rfl rfl ?_
      refine r_iconst (v := (0 : Int32)) i_N_rule_20 rfl ?_
      refine r_bipush (v := (99 : Int32)) i_N_rule_21 (by decide) ?_
      refine f_static o_N_rule k_N_isWithin s_N_isWithin x_N_62 i_N_rule_23 (c_N_isWithin) rfl rfl (by decide) (Nat.le_of_ble_eq_true rfl) ?_
      refine r_if_ne 36 i_N_rule_26 (by decide) (fun h26 => ?_) (fun h26 => ?_)
      · skip
        have h26 := bI_ne0.mp h26
        try rw [h26]
        refine r_aload_n (i := 0) i_N_rule_36 rfl rfl ?_
        refine r_getf (ci := 0) (T := Fk0) (k := 4) o_N_rule i_N_rule_37 x_N_29 rfl (by decide) rfl (by repeat (first | assumption | exact upw_s | refine (upw_n (by omega)).trans ?_)) (by first | assumption | omega) (by rfl) ?_
        refine r_iload_n (i := 1) i_N_rule_40 rfl rfl ?_
        refine r_iload_n (i := 2) i_N_rule_41 rfl rfl ?_
        refine r_iload_n (i := 3) i_N_rule_42 rfl rfl ?_
        obtain ⟨s, hs, rfl⟩ := lt0_of (N := 8) (by decide) h6
        rw [nI_clamp (by omega)]
        refine m_virtual o_N_rule k_S_putRule v_S_putRule x_N_101 i_N_rule_43 o_S_putRule (c_S_putRule cS hs) rfl (rcv_ob (by repeat (first | assumption | exact upw_s | refine (upw_n (by omega)).trans ?_)) rfl (by first | assumption | omega)) rfl (by decide) (Nat.le_of_ble_eq_true rfl) (Nat.zero_le _) (Nat.zero_le _) (fun r1 w2 n1 hp9 => ?_)
        obtain ⟨rfl, ⟨hS2, hF2⟩, rfl⟩ := hp9
        have hp9 : CW w2 (qS Q _) n1 ∧ cFr w w2 := ⟨(hX.shel hS2 hF2).cw, fun j hj => hF2 j (by omega)⟩
        refine r_iconst (v := (1 : Int32)) i_N_rule_46 rfl ?_
        refine r_ireturn i_N_rule_47 t_N_rule rfl ?_
        first | exact ⟨rfl, hp9, rfl⟩ | exact ⟨rfl, ⟨hC, cFr.rfl⟩, rfl⟩
      · skip
        have h26 := bI_eq0.mp h26
        try rw [h26]
        refine r_aload_n (i := 0) i_N_rule_29 rfl rfl ?_
        refine r_bipush (v := (-2 : Int32)) i_N_rule_30 (by decide) ?_
        refine m_virtual o_N_rule k_N_refuse v_N_refuse x_N_66 i_N_rule_32 o_N_refuse (c_N_refuse hC) rfl (rcv_ob (by repeat (first | assumption | exact upw_s | refine (upw_n (by omega)).trans ?_)) rfl (by first | assumption | omega)) rfl (by decide) (Nat.le_of_ble_eq_true rfl) (Nat.zero_le _) (Nat.zero_le _) (fun rr32 wr32 nr32 hp9 => ?_)
        obtain ⟨rfl, hp9, rfl⟩ := hp9
        refine r_ireturn i_N_rule_35 t_N_rule rfl ?_
        first | exact ⟨rfl, hp9, rfl⟩ | exact ⟨rfl, ⟨hC, cFr.rfl⟩, rfl⟩
def m_holds (Q : aQ) (s : Int32) : Int32 × aQ := (heldI (sh Q) s, Q)
theorem c_N_holds {s : Int32} (hC : CW w Q n) : Cm G 5 y_N_holds [.ref 0, .int s] w n (m_holds Q s) := by
  obtain ⟨D, L, fa, K, Z, hX⟩ := id hC
  obtain ⟨c0, cT, cK, cD, cS, cR, cW, cE, cF, cn⟩ := id hX
  have oT := cT.1
  have oK := cK.1
  have oD := cD.1
  have oS := cS.1
  have oR := cR.1
  have oW := cW.1
  have oE := cE.1
  refine Cm.of k_N_holds l_N_holds rfl rfl ?_
  refine r_aload_n (i := 0) i_N_holds_0 rfl rfl ?_
  refine r_getf (ci := 0) (T := Fk0) (k := 4) o_N_holds i_N_holds_1 x_N_29 rfl (by decide) rfl (by repeat (first | assumption | exact upw_s | refine (upw_n (by omega)).trans ?_)) (by first | assumption | omega) (by rfl) ?_
  refine r_iload_n (i := 1) i_N_holds_4 rfl rfl ?_
  refine f_virtual o_N_holds k_S_heldIn v_S_heldIn x_N_96 i_N_holds_5 o_S_heldIn (c_S_heldIn cS) rfl (rcv_ob (by repeat (first | assumption | exact upw_s | refine (upw_n (by omega)).trans ?_)) rfl (by first | assumption | omega)) rfl (by decide) (Nat.le_of_ble_eq_true rfl) ?_
  refine r_ireturn i_N_holds_8 t_N_holds rfl ?_
  first | exact ⟨rfl, hp9, rfl⟩ | exact ⟨rfl, ⟨hC, cFr.rfl⟩, rfl⟩
theorem c_S_elementOut {X : aH} {s i : Int32} {k : Nat} (hX : SW w k X n) (hs : sizeI X s = 0) : Fn G 4 y_S_elementAt [.ref k, .int s, .int i] w n (some (.long 0)) w := by
  have hX0 := hX
  obtain ⟨g0, g1, g2, g3, g4, hn⟩ := hX
  refine Fn.of k_S_elementAt l_S_elementAt rfl rfl ?_
  have hno : lt0 i 0 = false := by
    unfold lt0
    refine decide_eq_false (fun q => ?_)
    exact q.2 (Int32.not_lt.mp q.1)
  refine r_iload_n (i := 2) i_S_elementAt_0 rfl rfl ?_
  refine r_aload_n (i := 0) i_S_elementAt_1 rfl rfl ?_
  refine r_iload_n (i := 1) i_S_elementAt_2 rfl rfl ?_
  refine f_virtual o_S_elementAt k_S_sizeOf v_S_sizeOf x_S_44 i_S_elementAt_3 o_S_sizeOf (c_S_sizeOf hX0) rfl (rcv_ob (by repeat (first | assumption | exact upw_s | refine (upw_n (by omega)).trans ?_)) rfl (by first | assumption | omega)) rfl (by decide) (Nat.le_of_ble_eq_true rfl) ?_
  refine f_staticN o_S_elementAt k_N_isBelow s_N_isBelow x_S_25 i_S_elementAt_6 (c_N_isBelow) rfl rfl (by decide) (Nat.le_of_ble_eq_true rfl) ?_
  refine r_if_ne 14 i_S_elementAt_9 (by decide) (fun h9 => (absurd (bI_ne0.mp h9) (by rw [hs, hno]; decide))) (fun h9 => ?_)
  refine r_lconst (v := (0 : Int64)) i_S_elementAt_12 rfl ?_
  refine r_lreturn i_S_elementAt_13 t_S_elementAt ?_
  exact ⟨rfl, rfl, rfl⟩
def e_element (Q : aQ) (s i : Int32) : Int64 := if lt0 s 8 then elemI (sh Q) s.toNatClampNeg i else 0
theorem c_N_element {s i : Int32} (hC : CW w Q n) (hQ : QOk Q) : Fn G 6 y_N_element [.ref 0, .int s, .int i] w n (some (.long (e_element Q s i))) w := by
  obtain ⟨D, L, fa, K, Z, hX⟩ := id hC
  obtain ⟨c0, cT, cK, cD, cS, cR, cW, cE, cF, cn⟩ := id hX
  have oT := cT.1
  have oK := cK.1
  have oD := cD.1
  have oS := cS.1
  have oR := cR.1
  have oW := cW.1
  have oE := cE.1
  refine Fn.of k_N_element l_N_element rfl rfl ?_
  have hcon : Fn G 4 y_S_elementAt [.ref 28, .int s, .int i] w n (some (.long (e_element Q s i))) w := by
    unfold e_element
    by_cases h : lt0 s 8 = true
    · obtain ⟨s, hs, rfl⟩ := lt0_of (N := 8) (by decide) h
      obtain ⟨m, hm, e⟩ := size_of hQ.2.2.1 s hs
      rw [if_pos h, nI_clamp (by omega)]
      exact c_S_elementAt cS hs e hm
    · have e : sizeI (sh Q) s = 0 := by
        unfold sizeI isRow heldI
        rw [if_neg h]
        rfl
      rw [if_neg h]
      exact c_S_elementOut cS e
  refine r_aload_n (i := 0) i_N_element_0 rfl rfl ?_
  refine r_getf (ci := 0) (T := Fk0) (k := 4) o_N_element i_N_element_1 x_N_29 rfl (by decide) rfl (by repeat (first | assumption | exact upw_s | refine (upw_n (by omega)).trans ?_)) (by first | assumption | omega) (by rfl) ?_
  refine r_iload_n (i := 1) i_N_element_4 rfl rfl ?_
  refine r_iload_n (i := 2) i_N_element_5 rfl rfl ?_
  refine f_virtual o_N_element k_S_elementAt v_S_elementAt x_N_92 i_N_element_6 o_S_elementAt (hcon) rfl (rcv_ob (by repeat (first | assumption | exact upw_s | refine (upw_n (by omega)).trans ?_)) rfl (by first | assumption | omega)) rfl (by decide) (Nat.le_of_ble_eq_true rfl) ?_
  refine r_lreturn i_N_element_9 t_N_element ?_
  exact ⟨rfl, rfl, rfl⟩
def r_set (Q : aQ) (s i : Int32) : Int32 := if rowR (sh Q) s = 0 then (if lt0 i (sizeI (sh Q) s) = true then 0 else -2) else rowR (sh Q) s
def m_set (Q : aQ) (s i : Int32) (v : Int64) : Int32 × aQ := if r_set Q s i = 0 then (1, qS Q (putE (sh Q) s.toNatClampNeg i.toNatClampNeg v)) else rfz Q (r_set Q s i)
theorem c_N_set {s i : Int32} {v : Int64} (hC : CW w Q n) (hQ : QOk Q) : Cm G 5 y_N_set [.ref 0, .int s, .int i, .long v] w n (m_set Q s i v) := by
  obtain ⟨D, L, fa, K, Z, hX⟩ := id hC
  obtain ⟨c0, cT, cK, cD, cS, cR, cW, cE, cF, cn⟩ := id hX
  have oT := cT.1
  have oK := cK.1
  have oD := cD.1
  have oS := cS.1
  have oR := cR.1
  have oW := cW.1
  have oE := cE.1
  refine Cm.of k_N_set l_N_set rfl rfl ?_
  unfold m_set
  have key : ∀ (r : Int32), r = r_set Q s i → Go G 5 y_N_set 34 [some (.ref 0), some (.int s), some (.int i), some (.long v), none, some (.int r)] [] w n 0 0 (fun r w' n' => r = some (.int (if r_set Q s i = 0 then (1, qS Q (putE (sh Q) s.toNatClampNeg i.toNatClampNeg v)) else rfz Q (r_set Q s i)).1) ∧ (CW w' (if r_set Q s i = 0 then (1, qS Q (putE (sh Q) s.toNatClampNeg i.toNatClampNeg v)) else rfz Q (r_set Q s i)).2 n ∧ cFr w w') ∧ n' = n) := by
    intro r hr
    rw [← hr]
    refine r_iload (i := 5) i_N_set_34 rfl ?_
    refine r_if_eq 46 i_N_set_36 (by decide) (fun h36 => ?_) (fun h36 => ?_)
    · skip
      rw [if_pos h36]
      rw [hr] at h36
      unfold r_set at h36
      have h1 : rowR (sh Q) s = 0 := by
        by_cases q : rowR (sh Q) s = 0
        · exact q
        · rw [if_neg q] at h36; exact h36
      rw [if_pos h1] at h36
      have h2 : lt0 i (sizeI (sh Q) s) = true := by
        by_cases q : lt0 i (sizeI (sh Q) s) = true
        · exact q
        · rw [if_neg q] at h36; exact absurd h36 (by decide)
      obtain ⟨s, hs, rfl, hrow⟩ := rowR_0 h1
      obtain ⟨m, hm, e⟩ := size_of hQ.2.2.1 s hs
      obtain ⟨i, hi, rfl⟩ := lt0_of (by omega) (e ▸ h2)
      obtain ⟨c, hc, e5⟩ := row_sort hQ.2.2.1 hs hrow
      rw [nI_clamp (by omega), nI_clamp (by omega)]
      refine r_aload_n (i := 0) i_N_set_46 rfl rfl ?_
      refine r_getf (ci := 0) (T := Fk0) (k := 4) o_N_set i_N_set_47 x_N_29 rfl (by decide) rfl (by repeat (first | assumption | exact upw_s | refine (upw_n (by omega)).trans ?_)) (by first | assumption | omega) (by rfl) ?_
      refine r_iload_n (i := 1) i_N_set_50 rfl rfl ?_
      refine r_iload_n (i := 2) i_N_set_51 rfl rfl ?_
      refine r_lload_n (i := 3) i_N_set_52 rfl rfl ?_
      refine m_virtual o_N_set k_S_putElement v_S_putElement x_N_80 i_N_set_53 o_S_putElement (c_S_putElement cS hs (by omega) e5 hc) rfl (rcv_ob (by repeat (first | assumption | exact upw_s | refine (upw_n (by omega)).trans ?_)) rfl (by first | assumption | omega)) rfl (by decide) (Nat.le_of_ble_eq_true rfl) (Nat.zero_le _) (Nat.zero_le _) (fun r1 w2 n1 hp9 => ?_)
      obtain ⟨rfl, ⟨hS2, hF2⟩, rfl⟩ := hp9
      have hp9 : CW w2 (qS Q _) n1 ∧ cFr w w2 := ⟨(hX.shel hS2 hF2).cw, fun j hj => hF2 j (by omega)⟩
      refine r_iconst (v := (1 : Int32)) i_N_set_56 rfl ?_
      refine r_ireturn i_N_set_57 t_N_set rfl ?_
      first | exact ⟨rfl, hp9, rfl⟩ | exact ⟨rfl, ⟨hC, cFr.rfl⟩, rfl⟩
    · skip
      rw [if_neg h36]
      refine r_aload_n (i := 0) i_N_set_39 rfl rfl ?_
      refine r_iload (i := 5) i_N_set_40 rfl ?_
      refine m_virtual o_N_set k_N_refuse v_N_refuse x_N_66 i_N_set_42 o_N_refuse (c_N_refuse hC) rfl (rcv_ob (by repeat (first | assumption | exact upw_s | refine (upw_n (by omega)).trans ?_)) rfl (by first | assumption | omega)) rfl (by decide) (Nat.le_of_ble_eq_true rfl) (Nat.zero_le _) (Nat.zero_le _) (fun rr42 wr42 nr42 hp9 => ?_)
      obtain ⟨rfl, hp9, rfl⟩ := hp9
      refine r_ireturn i_N_set_45 t_N_set rfl ?_
      first | exact ⟨rfl, hp9, rfl⟩ | exact ⟨rfl, ⟨hC, cFr.rfl⟩, rfl⟩
  refine r_aload_n (i := 0) i_N_set_0 rfl rfl ?_
  refine r_getf (ci := 0) (T := Fk0) (k := 4) o_N_set i_N_set_1 x_N_29 rfl (by decide) rfl (by repeat (first | assumption | exact upw_s | refine (upw_n (by omega)).trans ?_)) (by first | assumption | omega) (by rfl) ?_
  refine r_iload_n (i := 1) i_N_set_4 rfl rfl ?_
  refine f_virtual o_N_set k_S_rowRefusal v_S_rowRefusal x_N_74 i_N_set_5 o_S_rowRefusal (c_S_rowRefusal cS) rfl (rcv_ob (by repeat (first | assumption | exact upw_s | refine (upw_n (by omega)).trans ?_)) rfl (by first | assumption | omega)) rfl (by decide) (Nat.le_of_ble_eq_true rfl) ?_
  refine r_istore_5 i_N_set_8 (by rw [l_N_set]; decide) rfl ?_
  refine r_iload (i := 5) i_N_set_10 rfl ?_
  refine r_if_ne 34 i_N_set_12 (by decide) (fun h12 => ?_) (fun h12 => ?_)
  · skip
    have e9 : r_set Q s i = rowR (sh Q) s := if_neg h12
    exact key _ e9.symm
  · skip
    have e9 : r_set Q s i = if lt0 i (sizeI (sh Q) s) = true then 0 else -2 := if_pos h12
    refine r_iload_n (i := 2) i_N_set_15 rfl rfl ?_
    refine r_aload_n (i := 0) i_N_set_16 rfl rfl ?_
    refine r_getf (ci := 0) (T := Fk0) (k := 4) o_N_set i_N_set_17 x_N_29 rfl (by decide) rfl (by repeat (first | assumption | exact upw_s | refine (upw_n (by omega)).trans ?_)) (by first | assumption | omega) (by rfl) ?_
    refine r_iload_n (i := 1) i_N_set_20 rfl rfl ?_
    refine f_virtual o_N_set k_S_sizeOf v_S_sizeOf x_N_77 i_N_set_21 o_S_sizeOf (c_S_sizeOf cS) rfl (rcv_ob (by repeat (first | assumption | exact upw_s | refine (upw_n (by omega)).trans ?_)) rfl (by first | assumption | omega)) rfl (by decide) (Nat.le_of_ble_eq_true rfl) ?_
    refine f_static o_N_set k_N_isBelow s_N_isBelow x_N_58 i_N_set_24 (c_N_isBelow) rfl rfl (by decide) (Nat.le_of_ble_eq_true rfl) ?_
    refine r_if_ne 34 i_N_set_27 (by decide) (fun h27 => ?_) (fun h27 => ?_)
    · skip
      have h27 := bI_ne0.mp h27
      try rw [h27]
      rw [if_pos h27] at e9
      rw [← h12] at e9
      exact key _ e9.symm
    · skip
      have h27 := bI_eq0.mp h27
      try rw [h27]
      rw [if_neg (by rw [h27]; decide)] at e9
      refine r_bipush (v := (-2 : Int32)) i_N_set_30 (by decide) ?_
      refine r_istore_5 i_N_set_32 (by rw [l_N_set]; decide) rfl ?_
      exact key _ e9.symm
end PUBS
