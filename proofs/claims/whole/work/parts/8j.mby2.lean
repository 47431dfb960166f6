-- THE REFERENCE: by, head, gap, judge, told, lives, makes
section MBY2
variable {G : gE} {w : aW} {o n : Nat} {M : aM}
/-- the model with the week by the rule of a shelf -/
def wkM (M : aM) (P B s : Nat) : aM := mA M 38 (wbM M P (kdM M s) (noM M s) (M.2.1 38) B).2.2
theorem c_M_weekByS {P B s : Nat} (h : MW w o M n) (hs : s < 8) (hP : M.1 10 = nI P) (hP7 : P ≤ 7) (hB : M.1 13 = nI B) (hB7 : B ≤ 7) (hR : RlOk M) (h2 : M.2.1 1 s = 2) : Mv G 5 y_M_weekBy [.ref o, .int (nI s)] w o n (wkM M P B s) := by
  obtain ⟨-, ⟨kd, k1, k6, ek⟩, a, ha, ea⟩ := ((hR s hs).resolve_left (by rw [h2]; decide)).resolve_left (by rw [h2]; decide)
  unfold wkM kdM noM
  rw [ek, ea, nI_clamp (by omega), nI_clamp (by omega)]
  exact c_M_weekBy h hs hP hP7 hB hB7 ek k1 k6 ea ha
theorem wkM_ok {P B s : Nat} (hs : s < 8) (hP7 : P ≤ 7) (hR : RlOk M) (h2 : M.2.1 1 s = 2) : WkOk (wkM M P B s) B := by
  obtain ⟨-, ⟨kd, k1, k6, ek⟩, a, ha, ea⟩ := ((hR s hs).resolve_left (by rw [h2]; decide)).resolve_left (by rw [h2]; decide)
  intro b hb
  unfold wkM kdM noM
  rw [ek, ea, nI_clamp (by omega), nI_clamp (by omega)]
  exact wb_cases (B := 0) (f := M.2.1 38) (a := a) hP7 k1 k6 B b hb
theorem wkM_E {P B s : Nat} : mE (wkM M P B s) M := mE.A (by omega)
theorem norow_r {s : Nat} (hs : s < 8) (hR : RlOk M) (h : norow M (nI s) 1 = 0) : M.2.1 1 s = 2 := by
  obtain ⟨-, -, -, -, -, -, -, e⟩ := norow1 hs hR h
  exact e
def m2_by (M : aM) (P B : Nat) (s q : Int32) : Int32 × aM := if (lt0 s 8 && lt0 q 3) = true then (if norow M s 1 = 0 then (owA (wkM M P B s.toNatClampNeg) B q, wkM M P B s.toNatClampNeg) else (-1000000 + -nI (norow M s 1), mR M (norow M s 1))) else (-1000000 + -2, mR M 2)
theorem c_M_by {P B : Nat} {s q : Int32} (h : MW w o M n) (hP : M.1 10 = nI P) (hP7 : P ≤ 7) (hB : M.1 13 = nI B) (hB7 : B ≤ 7) (hR : RlOk M) : Mm G 6 y_M_by [.ref o, .int s, .int q] w o n (m2_by M P B s q) := by
  obtain ⟨m0, mA', mL', m4, m20, m28, mn'⟩ := id h
  refine Mm.of k_M_by l_M_by rfl rfl ?_
  unfold m2_by
  have hnr := c_M_noRule (G := G) (s := s) h
  have hlt := norow_lt (M := M) (s := s) (c := 1)
  have h00 : ∀ s9, s9 < 8 → s = nI s9 → norow M s 1 = 0 → M.2.1 1 s9 = 2 := fun s9 hs e q => norow_r hs hR (by rw [← e]; exact q)
  generalize norow M s 1 = r at *
  refine r_iload_n (i := 1) i_M_by_0 rfl rfl ?_
  refine r_i2l i_M_by_1 ?_
  refine r_lconst (v := (0 : Int64)) i_M_by_2 rfl ?_
  refine r_ldc2 o_M_by i_M_by_3 x_M_83 ?_
  refine f_static o_M_by k_M_in s_M_in x_M_76 i_M_by_6 (c_M_in) rfl rfl (by decide) (Nat.le_of_ble_eq_true rfl) ?_
  rw [in_07]
  refine r_if_eq 24 i_M_by_9 (by decide) (fun h9 => ?_) (fun h9 => ?_)
  · skip
    have h9 := bI_eq0.mp h9
    try rw [h9]
    refine r_ldc o_M_by i_M_by_24 x_M_239 ?_
    refine r_aload_n (i := 0) i_M_by_26 rfl rfl ?_
    refine r_bipush (v := (-2 : Int32)) i_M_by_27 (by decide) ?_
    refine m_virtual o_M_by k_M_refuse v_M_refuse x_M_89 i_M_by_29 o_M_refuse (c_M_refuse (i := 2) h (by decide)) rfl (rcv_ob (by repeat (first | assumption | exact upw_s | refine (upw_n (by omega)).trans ?_)) rfl (by first | assumption | omega)) rfl (by decide) (Nat.le_of_ble_eq_true rfl) (Nat.zero_le _) (Nat.zero_le _) (fun rr29 wr29 nr29 hp9 => ?_)
    obtain ⟨rfl, hp9, rfl⟩ := hp9
    refine r_iadd i_M_by_32 ?_
    refine r_ireturn i_M_by_33 t_M_by rfl ?_
    first | exact ⟨rfl, hp9, rfl⟩ | exact ⟨rfl, ⟨hM3, hF2.tr hF3⟩, rfl⟩ | exact ⟨rfl, ⟨hM2, hF2⟩, rfl⟩
  · skip
    have h9 := bI_ne0.mp h9
    try rw [h9]
    refine r_iload_n (i := 2) i_M_by_12 rfl rfl ?_
    refine r_i2l i_M_by_13 ?_
    refine r_lconst (v := (0 : Int64)) i_M_by_14 rfl ?_
    refine r_ldc2 o_M_by i_M_by_15 x_M_270 ?_
    refine f_static o_M_by k_M_in s_M_in x_M_76 i_M_by_18 (c_M_in) rfl rfl (by decide) (Nat.le_of_ble_eq_true rfl) ?_
    rw [in_02]
    refine r_if_ne 34 i_M_by_21 (by decide) (fun h21 => ?_) (fun h21 => ?_)
    · skip
      have h21 := bI_ne0.mp h21
      try rw [h21]
      rw [if_pos (show (true && true) = true from rfl)]
      obtain ⟨s9, hs9, rfl⟩ := lt0_of (N := 8) (by decide) h9
      have h00 := h00 s9 hs9 rfl
      rw [nI_clamp (by omega)]
      refine r_aload_n (i := 0) i_M_by_34 rfl rfl ?_
      refine r_iload_n (i := 1) i_M_by_35 rfl rfl ?_
      refine m_virtual o_M_by k_M_noRule v_M_noRule x_M_261 i_M_by_36 o_M_noRule (hnr) rfl (rcv_ob (by repeat (first | assumption | exact upw_s | refine (upw_n (by omega)).trans ?_)) rfl (by first | assumption | omega)) rfl (by decide) (Nat.le_of_ble_eq_true rfl) (Nat.zero_le _) (Nat.zero_le _) (fun q1 w2 n1 hp9 => ?_)
      obtain ⟨rfl, ⟨hM2, hF2⟩, rfl⟩ := hp9
      refine r_istore_3 i_M_by_39 (by rw [l_M_by]; decide) rfl ?_
      refine r_iload_n (i := 3) i_M_by_40 rfl rfl ?_
      refine r_if_eq 49 i_M_by_41 (by decide) (fun h41 => ?_) (fun h41 => ?_)
      · skip
        have hr : r = 0 := Classical.byContradiction (fun q => nI_neg0 (by omega) q h41)
        subst hr
        rw [if_pos rfl]
        have hM2 : MW w2 o M n1 := hM2
        have hwk := c_M_weekByS (G := G) (P := P) (B := B) hM2 hs9 hP hP7 hB hB7 hR (h00 rfl)
        have hwo := wkM_ok (M := M) (P := P) (B := B) hs9 hP7 hR (h00 rfl)
        have hB1 : (wkM M P B s9).1 13 = nI B := hB
        generalize wkM M P B s9 = N at *
        obtain ⟨d0, dA', dL', d4, d20, d28, dn'⟩ := id hM2
        refine r_aload_n (i := 0) i_M_by_49 rfl rfl ?_
        refine r_iload_n (i := 1) i_M_by_50 rfl rfl ?_
        refine m_virtual o_M_by k_M_weekBy v_M_weekBy x_M_275 i_M_by_51 o_M_weekBy (hwk) rfl (rcv_ob (by repeat (first | assumption | exact upw_s | refine (upw_n (by omega)).trans ?_)) rfl (by first | assumption | omega)) rfl (by decide) (Nat.le_of_ble_eq_true rfl) (Nat.zero_le _) (Nat.zero_le _) (fun q2 w3 n2 hp8 => ?_)
        obtain ⟨rfl, ⟨hM3, hF3⟩, rfl⟩ := hp8
        obtain ⟨e0, eA', eL', e4, e20, e28, en'⟩ := id hM3
        refine r_aload_n (i := 0) i_M_by_54 rfl rfl ?_
        refine r_iload_n (i := 2) i_M_by_55 rfl rfl ?_
        refine f_virtual o_M_by k_M_ofWeek v_M_ofWeek x_M_272 i_M_by_56 o_M_ofWeek (c_M_ofWeek hM3 hB1 hB7 hwo) rfl (rcv_ob (by repeat (first | assumption | exact upw_s | refine (upw_n (by omega)).trans ?_)) rfl (by first | assumption | omega)) rfl (by decide) (Nat.le_of_ble_eq_true rfl) ?_
        refine r_ireturn i_M_by_59 t_M_by rfl ?_
        first | exact ⟨rfl, hp9, rfl⟩ | exact ⟨rfl, ⟨hM3, hF2.tr hF3⟩, rfl⟩ | exact ⟨rfl, ⟨hM2, hF2⟩, rfl⟩
      · skip
        have hr : ¬ r = 0 := fun q => h41 (by rw [q]; rfl)
        rw [if_neg hr]
        rw [show mRz M r = mR M r from if_neg hr] at hM2
        refine r_ldc o_M_by i_M_by_44 x_M_239 ?_
        refine r_iload_n (i := 3) i_M_by_46 rfl rfl ?_
        refine r_iadd i_M_by_47 ?_
        refine r_ireturn i_M_by_48 t_M_by rfl ?_
        first | exact ⟨rfl, hp9, rfl⟩ | exact ⟨rfl, ⟨hM3, hF2.tr hF3⟩, rfl⟩ | exact ⟨rfl, ⟨hM2, hF2⟩, rfl⟩
    · skip
      have h21 := bI_eq0.mp h21
      try rw [h21]
      refine r_ldc o_M_by i_M_by_24 x_M_239 ?_
      refine r_aload_n (i := 0) i_M_by_26 rfl rfl ?_
      refine r_bipush (v := (-2 : Int32)) i_M_by_27 (by decide) ?_
      refine m_virtual o_M_by k_M_refuse v_M_refuse x_M_89 i_M_by_29 o_M_refuse (c_M_refuse (i := 2) h (by decide)) rfl (rcv_ob (by repeat (first | assumption | exact upw_s | refine (upw_n (by omega)).trans ?_)) rfl (by first | assumption | omega)) rfl (by decide) (Nat.le_of_ble_eq_true rfl) (Nat.zero_le _) (Nat.zero_le _) (fun rr29 wr29 nr29 hp9 => ?_)
      obtain ⟨rfl, hp9, rfl⟩ := hp9
      refine r_iadd i_M_by_32 ?_
      refine r_ireturn i_M_by_33 t_M_by rfl ?_
      first | exact ⟨rfl, hp9, rfl⟩ | exact ⟨rfl, ⟨hM3, hF2.tr hF3⟩, rfl⟩ | exact ⟨rfl, ⟨hM2, hF2⟩, rfl⟩
def m2_gap (M : aM) (P B : Nat) (s : Int32) : Int32 × aM := if norow M s 1 = 0 then ((bbM (wkM M P B s.toNatClampNeg) P B (allW P)).1 - owA (mX (wkM M P B s.toNatClampNeg) (bbM (wkM M P B s.toNatClampNeg) P B (allW P))) B 0, mX (wkM M P B s.toNatClampNeg) (bbM (wkM M P B s.toNatClampNeg) P B (allW P))) else (-1000000 + -nI (norow M s 1), mR M (norow M s 1))
theorem c_M_gap {P B : Nat} {s : Int32} (h : MW w o M n) (hP : M.1 10 = nI P) (hP7 : P ≤ 7) (hB : M.1 13 = nI B) (hB7 : B ≤ 7) (hR : RlOk M) : Mm G 12 y_M_gap [.ref o, .int s] w o n (m2_gap M P B s) := by
  obtain ⟨m0, mA', mL', m4, m20, m28, mn'⟩ := id h
  refine Mm.of k_M_gap l_M_gap rfl rfl ?_
  unfold m2_gap
  have hnr := c_M_noRule (G := G) (s := s) h
  have hlt := norow_lt (M := M) (s := s) (c := 1)
  have h00 := norow_0 (M := M) (s := s) (c := 1)
  have h01 : ∀ s9, s9 < 8 → s = nI s9 → norow M s 1 = 0 → M.2.1 1 s9 = 2 := fun s9 hs e q => norow_r hs hR (by rw [← e]; exact q)
  generalize norow M s 1 = r at *
  refine r_aload_n (i := 0) i_M_gap_0 rfl rfl ?_
  refine r_iload_n (i := 1) i_M_gap_1 rfl rfl ?_
  refine m_virtual o_M_gap k_M_noRule v_M_noRule x_M_261 i_M_gap_2 o_M_noRule (hnr) rfl (rcv_ob (by repeat (first | assumption | exact upw_s | refine (upw_n (by omega)).trans ?_)) rfl (by first | assumption | omega)) rfl (by decide) (Nat.le_of_ble_eq_true rfl) (Nat.zero_le _) (Nat.zero_le _) (fun q1 w2 n1 hp9 => ?_)
  obtain ⟨rfl, ⟨hM2, hF2⟩, rfl⟩ := hp9
  refine r_istore_2 i_M_gap_5 (by rw [l_M_gap]; decide) rfl ?_
  refine r_iload_n (i := 2) i_M_gap_6 rfl rfl ?_
  refine r_if_eq 15 i_M_gap_7 (by decide) (fun h7 => ?_) (fun h7 => ?_)
  · skip
    have hr : r = 0 := Classical.byContradiction (fun q => nI_neg0 (by omega) q h7)
    subst hr
    rw [if_pos rfl]
    have hM2 : MW w2 o M n1 := hM2
    obtain ⟨s9, hs9, rfl⟩ := lt0_of (N := 8) (by decide) (h00 rfl).1
    have h01 := h01 s9 hs9 rfl rfl
    rw [nI_clamp (by omega)]
    have hwk := c_M_weekByS (G := G) (P := P) (B := B) hM2 hs9 hP hP7 hB hB7 hR h01
    have hwo := wkM_ok (M := M) (P := P) (B := B) hs9 hP7 hR h01
    have hB1 : (wkM M P B s9).1 13 = nI B := hB
    have hP1 : (wkM M P B s9).1 10 = nI P := hP
    generalize wkM M P B s9 = N at *
    have hbb := fun w h => c_M_bestBy0 (G := G) (w := w) (o := o) (n := n1) (M := N) (only := allW P) h hB1 hB7 hP1 hP7
    have hwo2 : WkOk (mX N (bbM N P B (allW P))) B := fun b hb => hwo b hb
    generalize bbM N P B (allW P) = R at *
    have hB2 : (mX N R).1 13 = nI B := hB1
    obtain ⟨d0, dA', dL', d4, d20, d28, dn'⟩ := id hM2
    refine r_aload_n (i := 0) i_M_gap_15 rfl rfl ?_
    refine r_iload_n (i := 1) i_M_gap_16 rfl rfl ?_
    refine m_virtual o_M_gap k_M_weekBy v_M_weekBy x_M_275 i_M_gap_17 o_M_weekBy (hwk) rfl (rcv_ob (by repeat (first | assumption | exact upw_s | refine (upw_n (by omega)).trans ?_)) rfl (by first | assumption | omega)) rfl (by decide) (Nat.le_of_ble_eq_true rfl) (Nat.zero_le _) (Nat.zero_le _) (fun q2 w3 n2 hp8 => ?_)
    obtain ⟨rfl, ⟨hM3, hF3⟩, rfl⟩ := hp8
    obtain ⟨e0, eA', eL', e4, e20, e28, en'⟩ := id hM3
    refine r_aload_n (i := 0) i_M_gap_20 rfl rfl ?_
    refine r_aload_n (i := 0) i_M_gap_21 rfl rfl ?_
    refine f_virtual o_M_gap k_M_all v_M_all x_M_298 i_M_gap_22 o_M_all (c_M_all hM3 hP1) rfl (rcv_ob (by repeat (first | assumption | exact upw_s | refine (upw_n (by omega)).trans ?_)) rfl (by first | assumption | omega)) rfl (by decide) (Nat.le_of_ble_eq_true rfl) ?_
    refine m_virtual o_M_gap k_M_bestBy v_M_bestBy x_M_301 i_M_gap_25 o_M_bestBy (hbb _ hM3) rfl (rcv_ob (by repeat (first | assumption | exact upw_s | refine (upw_n (by omega)).trans ?_)) rfl (by first | assumption | omega)) rfl (by decide) (Nat.le_of_ble_eq_true rfl) (Nat.zero_le _) (Nat.zero_le _) (fun q3 w4 n3 hp7 => ?_)
    obtain ⟨rfl, ⟨hM4, hF4⟩, rfl⟩ := hp7
    obtain ⟨f0, fA', fL', f4, f20, f28, fn'⟩ := id hM4
    refine r_aload_n (i := 0) i_M_gap_28 rfl rfl ?_
    refine r_iconst (v := (0 : Int32)) i_M_gap_29 rfl ?_
    refine f_virtual o_M_gap k_M_ofWeek v_M_ofWeek x_M_272 i_M_gap_30 o_M_ofWeek (c_M_ofWeek hM4 hB2 hB7 hwo2) rfl (rcv_ob (by repeat (first | assumption | exact upw_s | refine (upw_n (by omega)).trans ?_)) rfl (by first | assumption | omega)) rfl (by decide) (Nat.le_of_ble_eq_true rfl) ?_
    refine r_isub i_M_gap_33 ?_
    refine r_ireturn i_M_gap_34 t_M_gap rfl ?_
    first | exact ⟨rfl, ⟨hM4, (hF2.tr hF3).tr hF4⟩, rfl⟩ | exact ⟨rfl, ⟨hM2, hF2⟩, rfl⟩
  · skip
    have hr : ¬ r = 0 := fun q => h7 (by rw [q]; rfl)
    rw [if_neg hr]
    rw [show mRz M r = mR M r from if_neg hr] at hM2
    refine r_ldc o_M_gap i_M_gap_10 x_M_239 ?_
    refine r_iload_n (i := 2) i_M_gap_12 rfl rfl ?_
    refine r_iadd i_M_gap_13 ?_
    refine r_ireturn i_M_gap_14 t_M_gap rfl ?_
    first | exact ⟨rfl, ⟨hM4, (hF2.tr hF3).tr hF4⟩, rfl⟩ | exact ⟨rfl, ⟨hM2, hF2⟩, rfl⟩
def m2_lives (M : aM) (P B : Nat) (s : Int32) : Int32 × aM := if norow M s 1 = 0 then m2_comes (wkM M P B s.toNatClampNeg) B else (-nI (norow M s 1), mR M (norow M s 1))
theorem c_M_lives {P B : Nat} {s : Int32} (h : MW w o M n) (hP : M.1 10 = nI P) (hP7 : P ≤ 7) (hB : M.1 13 = nI B) (hB7 : B ≤ 7) (hR : RlOk M) (hk : PMk M B) : Mm G 6 y_M_lives [.ref o, .int s] w o n (m2_lives M P B s) := by
  obtain ⟨m0, mA', mL', m4, m20, m28, mn'⟩ := id h
  refine Mm.of k_M_lives l_M_lives rfl rfl ?_
  unfold m2_lives
  have hnr := c_M_noRule (G := G) (s := s) h
  have hlt := norow_lt (M := M) (s := s) (c := 1)
  have h00 := norow_0 (M := M) (s := s) (c := 1)
  have h01 : ∀ s9, s9 < 8 → s = nI s9 → norow M s 1 = 0 → M.2.1 1 s9 = 2 := fun s9 hs e q => norow_r hs hR (by rw [← e]; exact q)
  generalize norow M s 1 = r at *
  refine r_aload_n (i := 0) i_M_lives_0 rfl rfl ?_
  refine r_iload_n (i := 1) i_M_lives_1 rfl rfl ?_
  refine m_virtual o_M_lives k_M_noRule v_M_noRule x_M_261 i_M_lives_2 o_M_noRule (hnr) rfl (rcv_ob (by repeat (first | assumption | exact upw_s | refine (upw_n (by omega)).trans ?_)) rfl (by first | assumption | omega)) rfl (by decide) (Nat.le_of_ble_eq_true rfl) (Nat.zero_le _) (Nat.zero_le _) (fun q1 w2 n1 hp9 => ?_)
  obtain ⟨rfl, ⟨hM2, hF2⟩, rfl⟩ := hp9
  refine r_istore_2 i_M_lives_5 (by rw [l_M_lives]; decide) rfl ?_
  refine r_iload_n (i := 2) i_M_lives_6 rfl rfl ?_
  refine r_if_eq 12 i_M_lives_7 (by decide) (fun h7 => ?_) (fun h7 => ?_)
  · skip
    have hr : r = 0 := Classical.byContradiction (fun q => nI_neg0 (by omega) q h7)
    subst hr
    rw [if_pos rfl]
    have hM2 : MW w2 o M n1 := hM2
    obtain ⟨s9, hs9, rfl⟩ := lt0_of (N := 8) (by decide) (h00 rfl).1
    have h01 := h01 s9 hs9 rfl rfl
    rw [nI_clamp (by omega)]
    have hwk := c_M_weekByS (G := G) (P := P) (B := B) hM2 hs9 hP hP7 hB hB7 hR h01
    have hwo := wkM_ok (M := M) (P := P) (B := B) hs9 hP7 hR h01
    have hB1 : (wkM M P B s9).1 13 = nI B := hB
    have hk1 : PMk (wkM M P B s9) B := fun c hc => by
      have e := (wkM_E (M := M) (P := P) (B := B) (s := s9)).2 (21 + c) (by omega)
      rw [e]
      exact hk c hc
    generalize wkM M P B s9 = N at *
    have hco := fun w h => c_M_comes (G := G) (w := w) (o := o) (n := n1) (M := N) h hB1 hB7 hwo hk1
    generalize m2_comes N B = R at *
    obtain ⟨d0, dA', dL', d4, d20, d28, dn'⟩ := id hM2
    refine r_aload_n (i := 0) i_M_lives_12 rfl rfl ?_
    refine r_iload_n (i := 1) i_M_lives_13 rfl rfl ?_
    refine m_virtual o_M_lives k_M_weekBy v_M_weekBy x_M_275 i_M_lives_14 o_M_weekBy (hwk) rfl (rcv_ob (by repeat (first | assumption | exact upw_s | refine (upw_n (by omega)).trans ?_)) rfl (by first | assumption | omega)) rfl (by decide) (Nat.le_of_ble_eq_true rfl) (Nat.zero_le _) (Nat.zero_le _) (fun q2 w3 n2 hp8 => ?_)
    obtain ⟨rfl, ⟨hM3, hF3⟩, rfl⟩ := hp8
    obtain ⟨e0, eA', eL', e4, e20, e28, en'⟩ := id hM3
    refine r_aload_n (i := 0) i_M_lives_17 rfl rfl ?_
    refine m_virtual o_M_lives k_M_comes v_M_comes x_M_285 i_M_lives_18 o_M_comes (hco _ hM3) rfl (rcv_ob (by repeat (first | assumption | exact upw_s | refine (upw_n (by omega)).trans ?_)) rfl (by first | assumption | omega)) rfl (by decide) (Nat.le_of_ble_eq_true rfl) (Nat.zero_le _) (Nat.zero_le _) (fun q3 w4 n3 hp7 => ?_)
    obtain ⟨rfl, ⟨hM4, hF4⟩, rfl⟩ := hp7
    refine r_ireturn i_M_lives_21 t_M_lives rfl ?_
    first | exact ⟨rfl, ⟨hM4, (hF2.tr hF3).tr hF4⟩, rfl⟩ | exact ⟨rfl, ⟨hM2, hF2⟩, rfl⟩
  · skip
    have hr : ¬ r = 0 := fun q => h7 (by rw [q]; rfl)
    rw [if_neg hr]
    rw [show mRz M r = mR M r from if_neg hr] at hM2
    refine r_iload_n (i := 2) i_M_lives_10 rfl rfl ?_
    refine r_ireturn i_M_lives_11 t_M_lives rfl ?_
    first | exact ⟨rfl, ⟨hM4, (hF2.tr hF3).tr hF4⟩, rfl⟩ | exact ⟨rfl, ⟨hM2, hF2⟩, rfl⟩
end MBY2
