-- THE REFERENCE: judge, told, makes, head
def tlR (M : aM) (P B s : Nat) : Int32 × (Nat → Int32) := twF M P (M.2.2.1 (5 + s)) B 0 (0, 0, M.2.1 38)
def tlM (M : aM) (P B s : Nat) : aM := mA M 38 (tlR M P B s).2
theorem tw_cases {M : aM} {P : Nat} {row : Nat → Int64} (hP : P ≤ 7) : ∀ m b (X : aK), (∀ j, j < b → X.2.2 j = -1 ∨ ∃ t, t < 7 ∧ X.2.2 j = nI t) → (twF M P row m b X).1 = -1 → b + m ≤ 7 → ∀ j, j < b + m → (twF M P row m b X).2 j = -1 ∨ ∃ t, t < 7 ∧ (twF M P row m b X).2 j = nI t
  | 0, b, X, hX, _, _, j, hj => hX j hj
  | m + 1, b, X, hX, h, hb, j, hj => by
    have hstep : ∀ c : Int32, (c = -1 ∨ ∃ t, t < 7 ∧ c = nI t) → ∀ i, i < b + 1 → (tkW X b c).2.2 i = -1 ∨ ∃ t, t < 7 ∧ (tkW X b c).2.2 i = nI t := by
      intro c hc i hi
      show upd X.2.2 b c i = -1 ∨ ∃ t, t < 7 ∧ upd X.2.2 b c i = nI t
      unfold upd
      by_cases e : i = b
      · rw [if_pos e]
        exact hc
      · rw [if_neg e]
        exact hX i (by omega)
    have hc := tkV_cases (P := P) (v := row b) hP
    unfold twF at h ⊢
    by_cases q1 : tkV P (row b) = -1
    · rw [if_pos q1] at h ⊢
      exact tw_cases hP m (b + 1) _ (hstep _ (Or.inl rfl)) h (by omega) j (by omega)
    · rw [if_neg q1] at h ⊢
      by_cases q2 : mayM M b (tkV P (row b)).toNatClampNeg X.2.1 = true ∧ M.2.1 (21 + b) 4 &&& X.1 = 0
      · rw [if_pos q2] at h ⊢
        exact tw_cases hP m (b + 1) _ (hstep _ (hc.imp id (fun ⟨t, h1, h2⟩ => ⟨t, by omega, h2⟩))) h (by omega) j (by omega)
      · rw [if_neg q2] at h
        have h : nI b = -1 := h
        exact absurd h (nI_nem1 (by omega))
section MJUD
variable {G : gE} {w : aW} {o n : Nat} {M : aM}
theorem tlM_ok {P B s : Nat} (hP7 : P ≤ 7) (hB7 : B ≤ 7) (h : (tlR M P B s).1 = -1) : WkOk (tlM M P B s) B := by
  intro b hb
  exact tw_cases hP7 B 0 _ (fun j hj => absurd hj (by omega)) h (by omega) b (by omega)
theorem tlM_E {P B s : Nat} : mE (tlM M P B s) M := mE.A (by omega)
theorem nowk_s {s : Int32} (h : nowk M s = 0) : lt0 s 8 = true := (norow_0 (nowk_0 h).1).1
def m2_judge (M : aM) (P B : Nat) (s : Int32) : Int32 × aM := if nowk M s = 0 then ((tlR M P B s.toNatClampNeg).1, tlM M P B s.toNatClampNeg) else (-nI (nowk M s), mR M (nowk M s))
theorem c_M_judge {P B : Nat} {s : Int32} (h : MW w o M n) (hP : M.1 10 = nI P) (hP7 : P ≤ 7) (hB : M.1 13 = nI B) (hB7 : B ≤ 7) : Mm G 5 y_M_judge [.ref o, .int s] w o n (m2_judge M P B s) := by
  obtain ⟨m0, mA', mL', m4, m20, m28, mn'⟩ := id h
  refine Mm.of k_M_judge l_M_judge rfl rfl ?_
  unfold m2_judge
  have hnr := c_M_noWeek (G := G) (B := B) (s := s) h
  have hlt := nowk_lt (M := M) (s := s)
  have h00 := nowk_s (M := M) (s := s)
  generalize nowk M s = r at *
  refine r_aload_n (i := 0) i_M_judge_0 rfl rfl ?_
  refine r_iload_n (i := 1) i_M_judge_1 rfl rfl ?_
  refine m_virtual o_M_judge k_M_noWeek v_M_noWeek x_M_264 i_M_judge_2 o_M_noWeek (hnr) rfl (rcv_ob (by repeat (first | assumption | exact upw_s | refine (upw_n (by omega)).trans ?_)) rfl (by first | assumption | omega)) rfl (by decide) (Nat.le_of_ble_eq_true rfl) (Nat.zero_le _) (Nat.zero_le _) (fun q1 w2 n1 hp9 => ?_)
  obtain ⟨rfl, ⟨hM2, hF2⟩, rfl⟩ := hp9
  refine r_istore_2 i_M_judge_5 (by rw [l_M_judge]; decide) rfl ?_
  refine r_iload_n (i := 2) i_M_judge_6 rfl rfl ?_
  refine r_if_eq 14 i_M_judge_7 (by decide) (fun h7 => ?_) (fun h7 => ?_)
  · skip
    have hr : r = 0 := Classical.byContradiction (fun q => nI_neg0 (by omega) q h7)
    subst hr
    rw [if_pos rfl]
    have hM2 : MW w2 o M n1 := hM2
    obtain ⟨s9, hs9, rfl⟩ := lt0_of (N := 8) (by decide) (h00 rfl)
    rw [nI_clamp (by omega)]
    have htw := c_M_takeWeek (G := G) (P := P) (B := B) hM2 hs9 hP hP7 hB hB7
    obtain ⟨d0, dA', dL', d4, d20, d28, dn'⟩ := id hM2
    refine r_aload_n (i := 0) i_M_judge_14 rfl rfl ?_
    refine r_iload_n (i := 1) i_M_judge_15 rfl rfl ?_
    refine m_virtual o_M_judge k_M_takeWeek v_M_takeWeek x_M_267 i_M_judge_16 o_M_takeWeek (htw) rfl (rcv_ob (by repeat (first | assumption | exact upw_s | refine (upw_n (by omega)).trans ?_)) rfl (by first | assumption | omega)) rfl (by decide) (Nat.le_of_ble_eq_true rfl) (Nat.zero_le _) (Nat.zero_le _) (fun q2 w3 n2 hp8 => ?_)
    obtain ⟨rfl, ⟨hM3, hF3⟩, rfl⟩ := hp8
    refine r_ireturn i_M_judge_19 t_M_judge rfl ?_
    first | exact ⟨rfl, ⟨hM3, hF2.tr hF3⟩, rfl⟩ | exact ⟨rfl, ⟨hM2, hF2⟩, rfl⟩
  · skip
    have hr : ¬ r = 0 := fun q => h7 (by rw [q]; rfl)
    rw [if_neg hr]
    rw [show mRz M r = mR M r from if_neg hr] at hM2
    refine r_iload_n (i := 2) i_M_judge_10 rfl rfl ?_
    refine r_goto 19 i_M_judge_11 (by decide) ?_
    refine r_ireturn i_M_judge_19 t_M_judge rfl ?_
    first | exact ⟨rfl, ⟨hM3, hF2.tr hF3⟩, rfl⟩ | exact ⟨rfl, ⟨hM2, hF2⟩, rfl⟩
def m2_told (M : aM) (P B : Nat) (s q : Int32) : Int32 × aM := if lt0 q 3 = true then (if nowk M s = 0 then (if (tlR M P B s.toNatClampNeg).1 = -1 then (owA (tlM M P B s.toNatClampNeg) B q, tlM M P B s.toNatClampNeg) else (-1000000 + -5, mR (tlM M P B s.toNatClampNeg) 5)) else (-1000000 + -nI (nowk M s), mR M (nowk M s))) else (-1000000 + -2, mR M 2)
theorem c_M_told {P B : Nat} {s q : Int32} (h : MW w o M n) (hP : M.1 10 = nI P) (hP7 : P ≤ 7) (hB : M.1 13 = nI B) (hB7 : B ≤ 7) : Mm G 5 y_M_told [.ref o, .int s, .int q] w o n (m2_told M P B s q) := by
  obtain ⟨m0, mA', mL', m4, m20, m28, mn'⟩ := id h
  refine Mm.of k_M_told l_M_told rfl rfl ?_
  unfold m2_told
  have hnr := c_M_noWeek (G := G) (B := B) (s := s) h
  have hlt := nowk_lt (M := M) (s := s)
  have h00 := nowk_s (M := M) (s := s)
  generalize nowk M s = r at *
  refine r_iload_n (i := 2) i_M_told_0 rfl rfl ?_
  refine r_i2l i_M_told_1 ?_
  refine r_lconst (v := (0 : Int64)) i_M_told_2 rfl ?_
  refine r_ldc2 o_M_told i_M_told_3 x_M_270 ?_
  refine f_static o_M_told k_M_in s_M_in x_M_76 i_M_told_6 (c_M_in) rfl rfl (by decide) (Nat.le_of_ble_eq_true rfl) ?_
  rw [in_02]
  refine r_if_ne 22 i_M_told_9 (by decide) (fun h9 => ?_) (fun h9 => ?_)
  · skip
    have h9 := bI_ne0.mp h9
    try rw [h9]
    rw [if_pos rfl]
    refine r_aload_n (i := 0) i_M_told_22 rfl rfl ?_
    refine r_iload_n (i := 1) i_M_told_23 rfl rfl ?_
    refine m_virtual o_M_told k_M_noWeek v_M_noWeek x_M_264 i_M_told_24 o_M_noWeek (hnr) rfl (rcv_ob (by repeat (first | assumption | exact upw_s | refine (upw_n (by omega)).trans ?_)) rfl (by first | assumption | omega)) rfl (by decide) (Nat.le_of_ble_eq_true rfl) (Nat.zero_le _) (Nat.zero_le _) (fun q1 w2 n1 hp9 => ?_)
    obtain ⟨rfl, ⟨hM2, hF2⟩, rfl⟩ := hp9
    refine r_istore_3 i_M_told_27 (by rw [l_M_told]; decide) rfl ?_
    refine r_iload_n (i := 3) i_M_told_28 rfl rfl ?_
    refine r_if_eq 37 i_M_told_29 (by decide) (fun h29 => ?_) (fun h29 => ?_)
    · skip
      have hr : r = 0 := Classical.byContradiction (fun q => nI_neg0 (by omega) q h29)
      subst hr
      rw [if_pos rfl]
      have hM2 : MW w2 o M n1 := hM2
      obtain ⟨s9, hs9, rfl⟩ := lt0_of (N := 8) (by decide) (h00 rfl)
      rw [nI_clamp (by omega)]
      have htw : Mm G 4 y_M_takeWeek [.ref o, .int (nI s9)] w2 o n1 ((tlR M P B s9).1, tlM M P B s9) := c_M_takeWeek (G := G) (P := P) (B := B) hM2 hs9 hP hP7 hB hB7
      have hok := tlM_ok (M := M) (P := P) (B := B) (s := s9) hP7 hB7
      have hB1 : (tlM M P B s9).1 13 = nI B := hB
      generalize tlM M P B s9 = N at *
      generalize (tlR M P B s9).1 = v at *
      obtain ⟨d0, dA', dL', d4, d20, d28, dn'⟩ := id hM2
      refine r_aload_n (i := 0) i_M_told_37 rfl rfl ?_
      refine r_iload_n (i := 1) i_M_told_38 rfl rfl ?_
      refine m_virtual o_M_told k_M_takeWeek v_M_takeWeek x_M_267 i_M_told_39 o_M_takeWeek (htw) rfl (rcv_ob (by repeat (first | assumption | exact upw_s | refine (upw_n (by omega)).trans ?_)) rfl (by first | assumption | omega)) rfl (by decide) (Nat.le_of_ble_eq_true rfl) (Nat.zero_le _) (Nat.zero_le _) (fun q2 w3 n2 hp8 => ?_)
      obtain ⟨rfl, ⟨hM3, hF3⟩, rfl⟩ := hp8
      obtain ⟨e0, eA', eL', e4, e20, e28, en'⟩ := id hM3
      refine r_iconst (v := (-1 : Int32)) i_M_told_42 rfl ?_
      refine r_icmp_ne 54 i_M_told_43 (by decide) (fun h43 => ?_) (fun h43 => ?_)
      · skip
        rw [if_neg h43]
        refine r_ldc o_M_told i_M_told_54 x_M_239 ?_
        refine r_aload_n (i := 0) i_M_told_56 rfl rfl ?_
        refine r_bipush (v := (-5 : Int32)) i_M_told_57 (by decide) ?_
        refine m_virtual o_M_told k_M_refuse v_M_refuse x_M_89 i_M_told_59 o_M_refuse (c_M_refuse (i := 5) hM3 (by decide)) rfl (rcv_ob (by repeat (first | assumption | exact upw_s | refine (upw_n (by omega)).trans ?_)) rfl (by first | assumption | omega)) rfl (by decide) (Nat.le_of_ble_eq_true rfl) (Nat.zero_le _) (Nat.zero_le _) (fun rr59 wr59 nr59 hp9 => ?_)
        obtain ⟨rfl, hp9, rfl⟩ := hp9
        refine r_iadd i_M_told_62 ?_
        refine r_ireturn i_M_told_63 t_M_told rfl ?_
        first | exact ⟨rfl, ⟨hp9.1, (hF2.tr hF3).tr hp9.2⟩, rfl⟩ | exact ⟨rfl, ⟨hM3, hF2.tr hF3⟩, rfl⟩
      · skip
        rw [if_pos h43]
        refine r_aload_n (i := 0) i_M_told_46 rfl rfl ?_
        refine r_iload_n (i := 2) i_M_told_47 rfl rfl ?_
        refine f_virtual o_M_told k_M_ofWeek v_M_ofWeek x_M_272 i_M_told_48 o_M_ofWeek (c_M_ofWeek hM3 hB1 hB7 (hok h43)) rfl (rcv_ob (by repeat (first | assumption | exact upw_s | refine (upw_n (by omega)).trans ?_)) rfl (by first | assumption | omega)) rfl (by decide) (Nat.le_of_ble_eq_true rfl) ?_
        refine r_goto 63 i_M_told_51 (by decide) ?_
        refine r_ireturn i_M_told_63 t_M_told rfl ?_
        first | exact ⟨rfl, ⟨hp9.1, (hF2.tr hF3).tr hp9.2⟩, rfl⟩ | exact ⟨rfl, ⟨hM3, hF2.tr hF3⟩, rfl⟩
    · skip
      have hr : ¬ r = 0 := fun q => h29 (by rw [q]; rfl)
      rw [if_neg hr]
      rw [show mRz M r = mR M r from if_neg hr] at hM2
      refine r_ldc o_M_told i_M_told_32 x_M_239 ?_
      refine r_iload_n (i := 3) i_M_told_34 rfl rfl ?_
      refine r_iadd i_M_told_35 ?_
      refine r_ireturn i_M_told_36 t_M_told rfl ?_
      exact ⟨rfl, ⟨hM2, hF2⟩, rfl⟩
  · skip
    have h9 := bI_eq0.mp h9
    try rw [h9]
    refine r_ldc o_M_told i_M_told_12 x_M_239 ?_
    refine r_aload_n (i := 0) i_M_told_14 rfl rfl ?_
    refine r_bipush (v := (-2 : Int32)) i_M_told_15 (by decide) ?_
    refine m_virtual o_M_told k_M_refuse v_M_refuse x_M_89 i_M_told_17 o_M_refuse (c_M_refuse (i := 2) h (by decide)) rfl (rcv_ob (by repeat (first | assumption | exact upw_s | refine (upw_n (by omega)).trans ?_)) rfl (by first | assumption | omega)) rfl (by decide) (Nat.le_of_ble_eq_true rfl) (Nat.zero_le _) (Nat.zero_le _) (fun rr17 wr17 nr17 hp9 => ?_)
    obtain ⟨rfl, hp9, rfl⟩ := hp9
    refine r_iadd i_M_told_20 ?_
    refine r_ireturn i_M_told_21 t_M_told rfl ?_
    exact ⟨rfl, hp9, rfl⟩
def m2_makes (M : aM) (P B : Nat) (s : Int32) : Int32 × aM := if nowk M s = 0 then (if (tlR M P B s.toNatClampNeg).1 = -1 then m2_comes (tlM M P B s.toNatClampNeg) B else (-5, mR (tlM M P B s.toNatClampNeg) 5)) else (-nI (nowk M s), mR M (nowk M s))
theorem c_M_makes {P B : Nat} {s : Int32} (h : MW w o M n) (hP : M.1 10 = nI P) (hP7 : P ≤ 7) (hB : M.1 13 = nI B) (hB7 : B ≤ 7) (hk : PMk M B) : Mm G 5 y_M_makes [.ref o, .int s] w o n (m2_makes M P B s) := by
  obtain ⟨m0, mA', mL', m4, m20, m28, mn'⟩ := id h
  refine Mm.of k_M_makes l_M_makes rfl rfl ?_
  unfold m2_makes
  have hnr := c_M_noWeek (G := G) (B := B) (s := s) h
  have hlt := nowk_lt (M := M) (s := s)
  have h00 := nowk_s (M := M) (s := s)
  generalize nowk M s = r at *
  refine r_aload_n (i := 0) i_M_makes_0 rfl rfl ?_
  refine r_iload_n (i := 1) i_M_makes_1 rfl rfl ?_
  refine m_virtual o_M_makes k_M_noWeek v_M_noWeek x_M_264 i_M_makes_2 o_M_noWeek (hnr) rfl (rcv_ob (by repeat (first | assumption | exact upw_s | refine (upw_n (by omega)).trans ?_)) rfl (by first | assumption | omega)) rfl (by decide) (Nat.le_of_ble_eq_true rfl) (Nat.zero_le _) (Nat.zero_le _) (fun q1 w2 n1 hp9 => ?_)
  obtain ⟨rfl, ⟨hM2, hF2⟩, rfl⟩ := hp9
  refine r_istore_2 i_M_makes_5 (by rw [l_M_makes]; decide) rfl ?_
  refine r_iload_n (i := 2) i_M_makes_6 rfl rfl ?_
  refine r_if_eq 12 i_M_makes_7 (by decide) (fun h7 => ?_) (fun h7 => ?_)
  · skip
    have hr : r = 0 := Classical.byContradiction (fun q => nI_neg0 (by omega) q h7)
    subst hr
    rw [if_pos rfl]
    have hM2 : MW w2 o M n1 := hM2
    obtain ⟨s9, hs9, rfl⟩ := lt0_of (N := 8) (by decide) (h00 rfl)
    rw [nI_clamp (by omega)]
    have htw : Mm G 4 y_M_takeWeek [.ref o, .int (nI s9)] w2 o n1 ((tlR M P B s9).1, tlM M P B s9) := c_M_takeWeek (G := G) (P := P) (B := B) hM2 hs9 hP hP7 hB hB7
    have hok := tlM_ok (M := M) (P := P) (B := B) (s := s9) hP7 hB7
    have hB1 : (tlM M P B s9).1 13 = nI B := hB
    have hk1 : PMk (tlM M P B s9) B := fun c hc => by
      have e := (tlM_E (M := M) (P := P) (B := B) (s := s9)).2 (21 + c) (by omega)
      rw [e]
      exact hk c hc
    generalize tlM M P B s9 = N at *
    have hco := fun w h ok => c_M_comes (G := G) (w := w) (o := o) (n := n1) (M := N) h hB1 hB7 ok hk1
    generalize m2_comes N B = R at *
    generalize (tlR M P B s9).1 = v at *
    obtain ⟨d0, dA', dL', d4, d20, d28, dn'⟩ := id hM2
    refine r_aload_n (i := 0) i_M_makes_12 rfl rfl ?_
    refine r_iload_n (i := 1) i_M_makes_13 rfl rfl ?_
    refine m_virtual o_M_makes k_M_takeWeek v_M_takeWeek x_M_267 i_M_makes_14 o_M_takeWeek (htw) rfl (rcv_ob (by repeat (first | assumption | exact upw_s | refine (upw_n (by omega)).trans ?_)) rfl (by first | assumption | omega)) rfl (by decide) (Nat.le_of_ble_eq_true rfl) (Nat.zero_le _) (Nat.zero_le _) (fun q2 w3 n2 hp8 => ?_)
    obtain ⟨rfl, ⟨hM3, hF3⟩, rfl⟩ := hp8
    obtain ⟨e0, eA', eL', e4, e20, e28, en'⟩ := id hM3
    refine r_iconst (v := (-1 : Int32)) i_M_makes_17 rfl ?_
    refine r_icmp_ne 28 i_M_makes_18 (by decide) (fun h18 => ?_) (fun h18 => ?_)
    · skip
      rw [if_neg h18]
      refine r_aload_n (i := 0) i_M_makes_28 rfl rfl ?_
      refine r_bipush (v := (-5 : Int32)) i_M_makes_29 (by decide) ?_
      refine m_virtual o_M_makes k_M_refuse v_M_refuse x_M_89 i_M_makes_31 o_M_refuse (c_M_refuse (i := 5) hM3 (by decide)) rfl (rcv_ob (by repeat (first | assumption | exact upw_s | refine (upw_n (by omega)).trans ?_)) rfl (by first | assumption | omega)) rfl (by decide) (Nat.le_of_ble_eq_true rfl) (Nat.zero_le _) (Nat.zero_le _) (fun rr31 wr31 nr31 hp9 => ?_)
      obtain ⟨rfl, hp9, rfl⟩ := hp9
      refine r_ireturn i_M_makes_34 t_M_makes rfl ?_
      first | exact ⟨rfl, ⟨hp9.1, (hF2.tr hF3).tr hp9.2⟩, rfl⟩ | exact ⟨rfl, ⟨hM4, (hF2.tr hF3).tr hF4⟩, rfl⟩
    · skip
      rw [if_pos h18]
      refine r_aload_n (i := 0) i_M_makes_21 rfl rfl ?_
      refine m_virtual o_M_makes k_M_comes v_M_comes x_M_285 i_M_makes_22 o_M_comes (hco _ hM3 (hok h18)) rfl (rcv_ob (by repeat (first | assumption | exact upw_s | refine (upw_n (by omega)).trans ?_)) rfl (by first | assumption | omega)) rfl (by decide) (Nat.le_of_ble_eq_true rfl) (Nat.zero_le _) (Nat.zero_le _) (fun q3 w4 n3 hp7 => ?_)
      obtain ⟨rfl, ⟨hM4, hF4⟩, rfl⟩ := hp7
      refine r_goto 34 i_M_makes_25 (by decide) ?_
      refine r_ireturn i_M_makes_34 t_M_makes rfl ?_
      first | exact ⟨rfl, ⟨hp9.1, (hF2.tr hF3).tr hp9.2⟩, rfl⟩ | exact ⟨rfl, ⟨hM4, (hF2.tr hF3).tr hF4⟩, rfl⟩
  · skip
    have hr : ¬ r = 0 := fun q => h7 (by rw [q]; rfl)
    rw [if_neg hr]
    rw [show mRz M r = mR M r from if_neg hr] at hM2
    refine r_iload_n (i := 2) i_M_makes_10 rfl rfl ?_
    refine r_ireturn i_M_makes_11 t_M_makes rfl ?_
    exact ⟨rfl, ⟨hM2, hF2⟩, rfl⟩
/-- head: (who, greatest), the model's week -/
def hdX (M : aM) (P B : Nat) : Nat → (Int32 × Int32) × (Nat → Int32)
  | 0 => ((-1, 0), M.2.1 38)
  | s + 1 => if M.2.1 1 s = 2 then (if (hdX M P B s).1.1 = -1 ∨ (hdX M P B s).1.2 < owA (wkM (mA M 38 (hdX M P B s).2) P B s) B 0 then (nI s, owA (wkM (mA M 38 (hdX M P B s).2) P B s) B 0) else (hdX M P B s).1, (wkM (mA M 38 (hdX M P B s).2) P B s).2.1 38) else hdX M P B s
theorem c_M_head {P B : Nat} (h : MW w o M n) (hP : M.1 10 = nI P) (hP7 : P ≤ 7) (hB : M.1 13 = nI B) (hB7 : B ≤ 7) (hR : RlOk M) : Mm G 6 y_M_head [.ref o] w o n (frM (mA M 38 (hdX M P B 8).2) (hdX M P B 8).1.1) := by
  refine Mm.of k_M_head l_M_head rfl rfl ?_
  have hloop : ∀ R, hdX M P B 8 = R → ∀ m s, s + m = 8 → ∀ w1 z, MW w1 o (mA M 38 (hdX M P B s).2) n → mFr w w1 o → Go G 6 y_M_head 6 [some (.ref o), some (.int (hdX M P B s).1.1), some (.int (hdX M P B s).1.2), some (.int (nI s)), z] [] w1 n 0 0 (fun r w' n' => r = some (.int (frM (mA M 38 R.2) R.1.1).1) ∧ (MW w' o (frM (mA M 38 R.2) R.1.1).2 n ∧ mFr w w' o) ∧ n' = n) := by
    intro R hRv m
    induction m with
    | zero =>
      intro s hs w1 z h1 hF
      have hs : s = 8 := by omega
      subst hs
      rw [hRv] at h1 ⊢
      unfold frM
      generalize mA M 38 R.2 = N at *
      obtain ⟨m0, mA', mL', m4, m20, m28, mn'⟩ := id h1
      refine r_iload_n (i := 3) i_M_head_6 rfl rfl ?_
      refine r_bipush (v := (8 : Int32)) i_M_head_7 (by decide) ?_
      refine r_icmp_ge 56 i_M_head_9 (by decide) (fun h9 => ?_) (fun h9 => (absurd (by decide) h9))
      refine r_iload_n (i := 1) i_M_head_56 rfl rfl ?_
      refine r_iconst (v := (-1 : Int32)) i_M_head_57 rfl ?_
      refine r_icmp_ne 70 i_M_head_58 (by decide) (fun h58 => ?_) (fun h58 => ?_)
      · skip
        rw [if_neg h58]
        refine r_iload_n (i := 1) i_M_head_70 rfl rfl ?_
        refine r_ireturn i_M_head_71 t_M_head rfl ?_
        first | exact ⟨rfl, ⟨hp9.1, hF.tr hp9.2⟩, rfl⟩ | exact ⟨rfl, ⟨h1, hF⟩, rfl⟩
      · skip
        rw [if_pos h58]
        refine r_aload_n (i := 0) i_M_head_61 rfl rfl ?_
        refine r_bipush (v := (-5 : Int32)) i_M_head_62 (by decide) ?_
        refine m_virtual o_M_head k_M_refuse v_M_refuse x_M_89 i_M_head_64 o_M_refuse (c_M_refuse (i := 5) h1 (by decide)) rfl (rcv_ob (by repeat (first | assumption | exact upw_s | refine (upw_n (by omega)).trans ?_)) rfl (by first | assumption | omega)) rfl (by decide) (Nat.le_of_ble_eq_true rfl) (Nat.zero_le _) (Nat.zero_le _) (fun rr64 wr64 nr64 hp9 => ?_)
        obtain ⟨rfl, hp9, rfl⟩ := hp9
        refine r_goto 71 i_M_head_67 (by decide) ?_
        refine r_ireturn i_M_head_71 t_M_head rfl ?_
        first | exact ⟨rfl, ⟨hp9.1, hF.tr hp9.2⟩, rfl⟩ | exact ⟨rfl, ⟨h1, hF⟩, rfl⟩
    | succ m ih =>
      intro s hs w1 z h1 hF
      have ih' := ih (s + 1) (by omega)
      have e7 : hdX M P B (s + 1) = if M.2.1 1 s = 2 then (if (hdX M P B s).1.1 = -1 ∨ (hdX M P B s).1.2 < owA (wkM (mA M 38 (hdX M P B s).2) P B s) B 0 then (nI s, owA (wkM (mA M 38 (hdX M P B s).2) P B s) B 0) else (hdX M P B s).1, (wkM (mA M 38 (hdX M P B s).2) P B s).2.1 38) else hdX M P B s := rfl
      rw [e7] at ih'
      generalize hdX M P B s = D at *
      have hR1 : RlOk (mA M 38 D.2) := hR
      have hP1 : (mA M 38 D.2).1 10 = nI P := hP
      have hB1 : (mA M 38 D.2).1 13 = nI B := hB
      have eW : wkM (mA M 38 D.2) P B s = mA M 38 ((wkM (mA M 38 D.2) P B s).2.1 38) := by
        unfold wkM
        rw [mA_A]
        refine congrArg (mA M 38) ?_
        exact mA_eq.symm
      have hwk := fun q => c_M_weekByS (G := G) (P := P) (B := B) h1 (show s < 8 by omega) hP1 hP7 hB1 hB7 hR1 q
      have hwo := fun q => wkM_ok (M := mA M 38 D.2) (P := P) (B := B) (show s < 8 by omega) hP7 hR1 q
      have hB2 : (wkM (mA M 38 D.2) P B s).1 13 = nI B := hB
      generalize wkM (mA M 38 D.2) P B s = N at *
      obtain ⟨m0, mA', mL', m4, m20, m28, mn'⟩ := id h1
      have a1 : w1 (o + 1) = ai 8 (M.2.1 1) := mA' 1 rfl
      have is : vp_in (nI s) 8 := vp_in_nI (by omega) (by decide)
      have ec : (nI s).toNatClampNeg = s := nI_clamp (by omega)
      refine r_iload_n (i := 3) i_M_head_6 rfl rfl ?_
      refine r_bipush (v := (8 : Int32)) i_M_head_7 (by decide) ?_
      refine r_icmp_ge 56 i_M_head_9 (by decide) (fun h9 => (absurd h9 (nI_ge (b := 8) (by omega) (by decide)))) (fun h9 => ?_)
      refine r_aload_n (i := 0) i_M_head_12 rfl rfl ?_
      refine r_getf (ci := 6) (T := Fk6) (k := 0) o_M_head i_M_head_13 x_M_7 rfl (by decide) rfl (by repeat (first | assumption | exact upw_s | refine (upw_n (by omega)).trans ?_)) (by first | assumption | omega) (by rfl) ?_
      refine r_iload_n (i := 3) i_M_head_16 rfl rfl ?_
      refine r_iald i_M_head_17 (by repeat (first | assumption | exact upw_s | refine (upw_n (by omega)).trans ?_)) (by first | assumption | omega) (by assumption) ?_
      rw [ec]
      refine r_iconst (v := (2 : Int32)) i_M_head_18 rfl ?_
      refine r_icmp_ne 50 i_M_head_19 (by decide) (fun h19 => ?_) (fun h19 => ?_)
      · skip
        rw [if_neg h19] at ih'
        refine r_iinc_3 (v := (1 : Int32)) i_M_head_50 rfl (by rw [l_M_head]; decide) rfl ?_
        refine r_goto 6 i_M_head_53 (by decide) ?_
        rw [nI_1]
        first | exact ih' _ _ h1 hF | exact ih' _ _ hM4 (hF.tr hF3)
      · skip
        rw [if_pos h19] at ih'
        refine r_aload_n (i := 0) i_M_head_22 rfl rfl ?_
        refine r_iload_n (i := 3) i_M_head_23 rfl rfl ?_
        refine m_virtual o_M_head k_M_weekBy v_M_weekBy x_M_275 i_M_head_24 o_M_weekBy (hwk h19) rfl (rcv_ob (by repeat (first | assumption | exact upw_s | refine (upw_n (by omega)).trans ?_)) rfl (by first | assumption | omega)) rfl (by decide) (Nat.le_of_ble_eq_true rfl) (Nat.zero_le _) (Nat.zero_le _) (fun q2 w3 n2 hp8 => ?_)
        obtain ⟨rfl, ⟨hM3, hF3⟩, rfl⟩ := hp8
        obtain ⟨e0, eA', eL', e4, e20, e28, en'⟩ := id hM3
        have hM4 := hM3
        rw [eW] at hM4
        refine r_aload_n (i := 0) i_M_head_27 rfl rfl ?_
        refine r_iconst (v := (0 : Int32)) i_M_head_28 rfl ?_
        refine f_virtual o_M_head k_M_ofWeek v_M_ofWeek x_M_272 i_M_head_29 o_M_ofWeek (c_M_ofWeek hM3 hB2 hB7 (hwo h19)) rfl (rcv_ob (by repeat (first | assumption | exact upw_s | refine (upw_n (by omega)).trans ?_)) rfl (by first | assumption | omega)) rfl (by decide) (Nat.le_of_ble_eq_true rfl) ?_
        refine r_istore_4 i_M_head_32 (by rw [l_M_head]; decide) rfl ?_
        refine r_iload_n (i := 1) i_M_head_34 rfl rfl ?_
        refine r_iconst (v := (-1 : Int32)) i_M_head_35 rfl ?_
        refine r_icmp_eq 45 i_M_head_36 (by decide) (fun h36 => ?_) (fun h36 => ?_)
        · skip
          rw [if_pos (Or.inl h36)] at ih'
          refine r_iload_n (i := 3) i_M_head_45 rfl rfl ?_
          refine r_istore_1 i_M_head_46 (by rw [l_M_head]; decide) rfl ?_
          refine r_iload (i := 4) i_M_head_47 rfl ?_
          refine r_istore_2 i_M_head_49 (by rw [l_M_head]; decide) rfl ?_
          refine r_iinc_3 (v := (1 : Int32)) i_M_head_50 rfl (by rw [l_M_head]; decide) rfl ?_
          refine r_goto 6 i_M_head_53 (by decide) ?_
          rw [nI_1]
          first | exact ih' _ _ h1 hF | exact ih' _ _ hM4 (hF.tr hF3)
        · skip
          refine r_iload (i := 4) i_M_head_39 rfl ?_
          refine r_iload_n (i := 2) i_M_head_41 rfl rfl ?_
          refine r_icmp_le 50 i_M_head_42 (by decide) (fun h42 => ?_) (fun h42 => ?_)
          · skip
            rw [if_neg (fun q => q.elim h36 (fun z => absurd z (Int32.not_lt.mpr h42)))] at ih'
            refine r_iinc_3 (v := (1 : Int32)) i_M_head_50 rfl (by rw [l_M_head]; decide) rfl ?_
            refine r_goto 6 i_M_head_53 (by decide) ?_
            rw [nI_1]
            first | exact ih' _ _ h1 hF | exact ih' _ _ hM4 (hF.tr hF3)
          · skip
            rw [if_pos (Or.inr (Int32.not_le.mp h42))] at ih'
            refine r_iload_n (i := 3) i_M_head_45 rfl rfl ?_
            refine r_istore_1 i_M_head_46 (by rw [l_M_head]; decide) rfl ?_
            refine r_iload (i := 4) i_M_head_47 rfl ?_
            refine r_istore_2 i_M_head_49 (by rw [l_M_head]; decide) rfl ?_
            refine r_iinc_3 (v := (1 : Int32)) i_M_head_50 rfl (by rw [l_M_head]; decide) rfl ?_
            refine r_goto 6 i_M_head_53 (by decide) ?_
            rw [nI_1]
            first | exact ih' _ _ h1 hF | exact ih' _ _ hM4 (hF.tr hF3)
  refine r_iconst (v := (-1 : Int32)) i_M_head_0 rfl ?_
  refine r_istore_1 i_M_head_1 (by rw [l_M_head]; decide) rfl ?_
  refine r_iconst (v := (0 : Int32)) i_M_head_2 rfl ?_
  refine r_istore_2 i_M_head_3 (by rw [l_M_head]; decide) rfl ?_
  refine r_iconst (v := (0 : Int32)) i_M_head_4 rfl ?_
  refine r_istore_3 i_M_head_5 (by rw [l_M_head]; decide) rfl ?_
  refine hloop _ rfl 8 0 (by omega) w none ?_ mFr.rf
  rw [show (hdX M P B 0).2 = M.2.1 38 from rfl, mA_self rfl]
  exact h
end MJUD
