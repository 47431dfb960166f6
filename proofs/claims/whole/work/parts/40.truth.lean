-- WEEK: by draws; what comes to be in truth
theorem b_127 (i : Nat) : bt 127 i = decide (i < 7) := by
  rcases Nat.lt_or_ge i 32 with h | h
  · exact (by decide +kernel : ∀ i, i < 32 → bt 127 i = decide (i < 7)) i h
  · rw [b_big h, decide_eq_false (by omega)]
theorem small7 {x : Int32} (h : ∀ i, 7 ≤ i → i < 32 → bt x i = false) : ∃ q, q < 128 ∧ x = nI q := by
  have e : x &&& 127 = x := by
    apply b_ext
    intro i hi
    rw [b_and, b_127]
    rcases Nat.lt_or_ge i 7 with q | q
    · rw [decide_eq_true q, Bool.and_true]
    · rw [h i q hi, Bool.false_and]
  obtain ⟨j, hj, e2⟩ := pk_andE x (m := 127) 7 (by decide)
  exact ⟨j, hj, e.symm.trans e2⟩
theorem may_small {S : aS} {b P : Nat} {x : Int32} (hP : P ≤ 7) : ∃ q, q < 128 ∧ mayB S b P x = nI q := small7 (fun i h1 h2 => by rw [mayB_bt hP h2, decide_eq_false (by omega)]; rfl)
theorem bc_pos : ∀ q, q < 128 → ¬ nI q = 0 → 0 < bcount (nI q) := by decide +kernel
theorem bop_cases (x pl : Int32) : ∀ (m t : Nat) (ah : Int32), m + t ≤ 32 → bopF x pl m t ah = -1 ∨ ∃ i, i < m + t ∧ bopF x pl m t ah = nI i ∧ bt x i = true
  | 0, _, _, _ => Or.inl rfl
  | m + 1, t, ah, h => by
    unfold bopF
    split
    · rename_i h1
      split
      · exact Or.inr ⟨t, by omega, rfl, by rw [← hb_bt (by omega)]; exact h1⟩
      · rcases bop_cases x pl m (t + 1) (ah + 1) (by omega) with h2 | ⟨i, h2, h3, h4⟩
        · exact Or.inl h2
        · exact Or.inr ⟨i, by omega, h3, h4⟩
    · rcases bop_cases x pl m (t + 1) ah (by omega) with h2 | ⟨i, h2, h3, h4⟩
      · exact Or.inl h2
      · exact Or.inr ⟨i, by omega, h3, h4⟩
section TRUTH
variable {G : gE} {w : aW} {n k t : Nat} {X : aK} {S : aS}
def mayD (S : aS) (P b : Nat) (r : aK) : Int32 := if barN S r b then 0 else mayB S b P r.2.1
def fdr (S : aS) (P : Nat) (X : aK) : Nat → aK × Int32
  | 0 => ((0, 0, X.2.2), S.1 6)
  | b + 1 => if mayD S P b (fdr S P X b).1 = 0 then fdr S P X b else (takeW (fdr S P X b).1 b (bopF (mayD S P b (fdr S P X b).1) (drawV (nxtSeed (fdr S P X b).2) (bcount (mayD S P b (fdr S P X b).1))) 7 0 0), nxtSeed (fdr S P X b).2)
theorem fdr_ok {P : Nat} (hP : P ≤ 7) : ∀ B, B ≤ 7 → WOk (fdr S P X B).1 P
  | 0, _ => WOk_0
  | b + 1, hb => by
    have ih := fdr_ok hP b (by omega)
    unfold fdr
    split
    · exact ih
    · rename_i hne
      refine takeW_ok (by omega) hP ih ?_
      rcases bop_cases (mayD S P b (fdr S P X b).1) (drawV (nxtSeed (fdr S P X b).2) (bcount (mayD S P b (fdr S P X b).1))) 7 0 0 (by omega) with h | ⟨i, h1, h2, h3⟩
      · exact Or.inl h
      · refine Or.inr ⟨i, ?_, h2⟩
        unfold mayD at h3
        split at h3
        · rw [b_0] at h3; cases h3
        · rw [mayB_bt hP (by omega)] at h3
          simp only [Bool.and_eq_true, decide_eq_true_eq] at h3
          exact h3.1.1
theorem c_W_fillByDraws {P B : Nat} (hX : WW w k X n) (hT : TW w t S n) (hd : k + 1 < t ∨ t + 8 < k) (hP : S.1 0 = nI P) (hP7 : P ≤ 7) (hB : S.1 1 = nI B) (hB7 : B ≤ 7) : Mt G 4 y_W_fillByDraws [.ref k, .ref t] w n 0 0 (fun r w' n' => r = none ∧ (WW w' k (fdr S P X B).1 n ∧ TW w' t (upS S 6 (fdr S P X B).2) n ∧ ∀ j, (j < k ∨ k + 1 < j) → (j < t ∨ t + 8 < j) → w' j = w j) ∧ n' = n) := by
  have hloop : ∀ m i : Nat, i + m = B → ∀ w1 : aW, WW w1 k (fdr S P X i).1 n → TW w1 t (upS S 6 (fdr S P X i).2) n → (∀ j, (j < k ∨ k + 1 < j) → (j < t ∨ t + 8 < j) → w1 j = w j) → Go G 4 y_W_fillByDraws 6 [some (.ref k), some (.ref t), some (.int (nI i)), none] [] w1 n 0 0 (fun r w' n' => r = none ∧ (WW w' k (fdr S P X B).1 n ∧ TW w' t (upS S 6 (fdr S P X B).2) n ∧ ∀ j, (j < k ∨ k + 1 < j) → (j < t ∨ t + 8 < j) → w' j = w j) ∧ n' = n) := by
    intro m
    induction m with
    | zero =>
      intro i hi w1 hX1 hT1 hF1
      have hi : i = B := by omega
      subst hi
      have hT0 := hT1
      obtain ⟨e0, e1, e2, e3, e4, e5, e6, e7, e8, hm⟩ := hT1
      refine r_iload_n (i := 2) i_W_fillByDraws_6 rfl rfl ?_
      refine r_aload_n (i := 1) i_W_fillByDraws_7 rfl rfl ?_
      refine r_getfN (ci := 1) (T := Fk1) (k := 1) o_W_fillByDraws i_W_fillByDraws_8 x_W_25 rfl (by decide) rfl (by repeat (first | assumption | exact upw_s | refine (upw_n (by omega)).trans ?_)) (by first | assumption | omega) (by rfl) ?_
      refine r_icmp_ge 64 i_W_fillByDraws_11 (by decide) (fun h11 => ?_) (fun h11 => (absurd (by show S.1 1 ≤ _; rw [hB]; exact Int32.le_refl _) h11))
      refine r_return i_W_fillByDraws_64 t_W_fillByDraws ?_
      exact ⟨rfl, ⟨hX1, hT0, hF1⟩, rfl⟩
    | succ m ih =>
      intro i hi w1 hX1 hT1 hF1
      have hT0 := hT1
      obtain ⟨e0, e1, e2, e3, e4, e5, e6, e7, e8, hm⟩ := hT1
      have hX0 := hX1
      obtain ⟨g0, g1, hn⟩ := hX1
      have e9 : fdr S P X (i + 1) = if mayD S P i (fdr S P X i).1 = 0 then fdr S P X i else (takeW (fdr S P X i).1 i (bopF (mayD S P i (fdr S P X i).1) (drawV (nxtSeed (fdr S P X i).2) (bcount (mayD S P i (fdr S P X i).1))) 7 0 0), nxtSeed (fdr S P X i).2) := rfl
      have key : ∀ ls', Go G 4 y_W_fillByDraws 36 [some (.ref k), some (.ref t), some (.int (nI i)), ls'] [.int (mayD S P i (fdr S P X i).1)] w1 n 0 0 (fun r w' n' => r = none ∧ (WW w' k (fdr S P X B).1 n ∧ TW w' t (upS S 6 (fdr S P X B).2) n ∧ ∀ j, (j < k ∨ k + 1 < j) → (j < t ∨ t + 8 < j) → w' j = w j) ∧ n' = n) := by
        intro ls'
        have hpos : ¬ mayD S P i (fdr S P X i).1 = 0 → 0 < bcount (mayD S P i (fdr S P X i).1) := by
          intro hne
          have hq : ∃ q, q < 128 ∧ mayD S P i (fdr S P X i).1 = nI q := by
            unfold mayD
            split
            · exact ⟨0, by decide, rfl⟩
            · exact may_small hP7
          obtain ⟨q, h1, h2⟩ := hq
          rw [h2] at hne ⊢
          exact bc_pos q h1 hne
        generalize hmd : mayD S P i (fdr S P X i).1 = md at e9 hpos ⊢
        refine r_istore_3 i_W_fillByDraws_36 (by rw [l_W_fillByDraws]; decide) rfl ?_
        refine r_iload_n (i := 3) i_W_fillByDraws_37 rfl rfl ?_
        refine r_if_eq 58 i_W_fillByDraws_38 (by decide) (fun h38 => ?_) (fun h38 => ?_)
        · skip
          refine r_iinc_2 (v := (1 : Int32)) i_W_fillByDraws_58 rfl (by rw [l_W_fillByDraws]; decide) rfl ?_
          refine r_goto 6 i_W_fillByDraws_61 (by decide) ?_
          rw [nI_1]
          refine r_fg_3 ?_
          first | exact ih (i + 1) (by omega) w1 (by rw [e9, if_pos h38]; exact hX0) (by rw [e9, if_pos h38]; exact hT0) hF1 | exact ih (i + 1) (by omega) w3 (by rw [e9, if_neg h38]; exact hX3) (by rw [e9, if_neg h38]; exact TW.fr hT2 (fun j q1 q2 => hF3 j (by omega))) (fun j q1 q2 => (hF3 j q1).trans ((hF2 j q2).trans (hF1 j q1 q2)))
        · skip
          refine r_aload_n (i := 0) i_W_fillByDraws_41 rfl rfl ?_
          refine r_iload_n (i := 2) i_W_fillByDraws_42 rfl rfl ?_
          refine r_iload_n (i := 3) i_W_fillByDraws_43 rfl rfl ?_
          refine r_aload_n (i := 1) i_W_fillByDraws_44 rfl rfl ?_
          refine r_iload_n (i := 3) i_W_fillByDraws_45 rfl rfl ?_
          refine f_static o_W_fillByDraws k_JI_bitCount s_JI_bitCount x_W_61 i_W_fillByDraws_46 (c_JI_bitCount) rfl rfl (by decide) (Nat.le_of_ble_eq_true rfl) ?_
          refine m_virtual o_W_fillByDraws k_T_draw v_T_draw x_W_67 i_W_fillByDraws_49 o_T_draw (c_T_draw hT0 (hpos h38)) rfl (rcv_ob (by repeat (first | assumption | exact upw_s | refine (upw_n (by omega)).trans ?_)) rfl (by first | assumption | omega)) rfl (by decide) (Nat.le_of_ble_eq_true rfl) (Nat.zero_le _) (Nat.zero_le _) (fun r1 w2 n1 hp => ?_)
          obtain ⟨rfl, ⟨hT2, hF2⟩, rfl⟩ := hp
          have hX2 : WW w2 k (fdr S P X i).1 n1 := hX0.fr (fun j q1 q2 => hF2 j (by omega))
          obtain ⟨p0, p1, hpn⟩ := hX2
          refine f_static o_W_fillByDraws k_W_bitOfPlace s_W_bitOfPlace x_W_70 i_W_fillByDraws_52 (c_W_bitOfPlace) rfl rfl (by decide) (Nat.le_of_ble_eq_true rfl) ?_
          refine m_virtual o_W_fillByDraws k_W_take v_W_take x_W_51 i_W_fillByDraws_55 o_W_take (c_W_take ⟨p0, p1, hpn⟩ (by omega)) rfl (rcv_ob (by repeat (first | assumption | exact upw_s | refine (upw_n (by omega)).trans ?_)) rfl (by first | assumption | omega)) rfl (by decide) (Nat.le_of_ble_eq_true rfl) (Nat.zero_le _) (Nat.zero_le _) (fun r1 w3 n1 hp => ?_)
          obtain ⟨rfl, ⟨hX3, hF3⟩, rfl⟩ := hp
          refine r_iinc_2 (v := (1 : Int32)) i_W_fillByDraws_58 rfl (by rw [l_W_fillByDraws]; decide) rfl ?_
          refine r_goto 6 i_W_fillByDraws_61 (by decide) ?_
          rw [nI_1]
          refine r_fg_3 ?_
          first | exact ih (i + 1) (by omega) w1 (by rw [e9, if_pos h38]; exact hX0) (by rw [e9, if_pos h38]; exact hT0) hF1 | exact ih (i + 1) (by omega) w3 (by rw [e9, if_neg h38]; exact hX3) (by rw [e9, if_neg h38]; exact TW.fr hT2 (fun j q1 q2 => hF3 j (by omega))) (fun j q1 q2 => (hF3 j q1).trans ((hF2 j q2).trans (hF1 j q1 q2)))
      refine r_iload_n (i := 2) i_W_fillByDraws_6 rfl rfl ?_
      refine r_aload_n (i := 1) i_W_fillByDraws_7 rfl rfl ?_
      refine r_getfN (ci := 1) (T := Fk1) (k := 1) o_W_fillByDraws i_W_fillByDraws_8 x_W_25 rfl (by decide) rfl (by repeat (first | assumption | exact upw_s | refine (upw_n (by omega)).trans ?_)) (by first | assumption | omega) (by rfl) ?_
      refine r_icmp_ge 64 i_W_fillByDraws_11 (by decide) (fun h11 => (absurd (show nI B ≤ nI i from hB ▸ h11) (nI_ge (by omega) (by omega)))) (fun h11 => ?_)
      refine r_aload_n (i := 0) i_W_fillByDraws_14 rfl rfl ?_
      refine r_aload_n (i := 1) i_W_fillByDraws_15 rfl rfl ?_
      refine r_iload_n (i := 2) i_W_fillByDraws_16 rfl rfl ?_
      refine f_virtual o_W_fillByDraws k_W_isBarred v_W_isBarred x_W_39 i_W_fillByDraws_17 o_W_isBarred (c_W_isBarred hX0 hT0 (by omega)) rfl (rcv_ob (by repeat (first | assumption | exact upw_s | refine (upw_n (by omega)).trans ?_)) rfl (by first | assumption | omega)) rfl (by decide) (Nat.le_of_ble_eq_true rfl) ?_
      refine r_if_eq 27 i_W_fillByDraws_20 (by decide) (fun h20 => ?_) (fun h20 => ?_)
      · skip
        have h20 : barN S (fdr S P X i).1 i = false := bI_eq0.mp h20
        have e20 : mayD S P i (fdr S P X i).1 = mayB S i P (fdr S P X i).1.2.1 := by unfold mayD; rw [h20]; rfl
        refine r_aload_n (i := 1) i_W_fillByDraws_27 rfl rfl ?_
        refine r_iload_n (i := 2) i_W_fillByDraws_28 rfl rfl ?_
        refine r_aload_n (i := 0) i_W_fillByDraws_29 rfl rfl ?_
        refine r_getf (ci := 4) (T := Fk4) (k := 2) o_W_fillByDraws i_W_fillByDraws_30 x_W_19 rfl (by decide) rfl (by repeat (first | assumption | exact upw_s | refine (upw_n (by omega)).trans ?_)) (by first | assumption | omega) (by rfl) ?_
        refine f_virtual o_W_fillByDraws k_T_mayBits v_T_mayBits x_W_43 i_W_fillByDraws_33 o_T_mayBits (c_T_mayBits hT0 (by omega) hP hP7) rfl (rcv_ob (by repeat (first | assumption | exact upw_s | refine (upw_n (by omega)).trans ?_)) rfl (by first | assumption | omega)) rfl (by decide) (Nat.le_of_ble_eq_true rfl) ?_
        have k9 := key none
        rw [e20] at k9
        exact k9
      · skip
        have h20 : barN S (fdr S P X i).1 i = true := bI_ne0.mp h20
        have e20 : mayD S P i (fdr S P X i).1 = 0 := by unfold mayD; rw [h20]; rfl
        refine r_iconst (v := (0 : Int32)) i_W_fillByDraws_23 rfl ?_
        refine r_goto 36 i_W_fillByDraws_24 (by decide) ?_
        have k9 := key none
        rw [e20] at k9
        exact k9
  have hX0 := hX
  obtain ⟨g0, g1, hn⟩ := hX
  refine Mt.of k_W_fillByDraws l_W_fillByDraws (Nat.le_of_ble_eq_true rfl) rfl ?_
  refine r_aload_n (i := 0) i_W_fillByDraws_0 rfl rfl ?_
  refine m_virtual o_W_fillByDraws k_W_begin v_W_begin x_W_22 i_W_fillByDraws_1 o_W_begin (c_W_begin hX0) rfl (rcv_ob (by repeat (first | assumption | exact upw_s | refine (upw_n (by omega)).trans ?_)) rfl (by first | assumption | omega)) rfl (by decide) (Nat.le_of_ble_eq_true rfl) (Nat.zero_le _) (Nat.zero_le _) (fun r1 w2 n1 hp => ?_)
  obtain ⟨rfl, ⟨hX2, hF2⟩, rfl⟩ := hp
  refine r_iconst (v := (0 : Int32)) i_W_fillByDraws_4 rfl ?_
  refine r_istore_2 i_W_fillByDraws_5 (by rw [l_W_fillByDraws]; decide) rfl ?_
  exact hloop B 0 (by omega) w2 hX2 (by
    have e : upS S 6 (fdr S P X 0).2 = S := by
      refine congrArg (fun z => (z, S.2)) (funext fun j => ?_)
      by_cases q : j = 6
      · subst q; rfl
      · exact if_neg q
    rw [e]
    exact hT.fr (fun j q1 q2 => hF2 j (by omega))) (fun j q1 q2 => hF2 j q1)
def ctr (S : aS) (X : aK) : Nat → aS
  | 0 => S
  | b + 1 => if hbI X.1 (nI b) then mkT (ctr S X b) b (S.2 2 b).toNatClampNeg (S.2 3 b).toNatClampNeg (X.2.2 b).toNatClampNeg else ctr S X b
theorem ctr_keep : ∀ b, (ctr S X b).2 2 = S.2 2 ∧ (ctr S X b).2 3 = S.2 3 ∧ (ctr S X b).2 4 = S.2 4 ∧ (ctr S X b).2 5 = S.2 5 ∧ (ctr S X b).2 6 = S.2 6 ∧ (ctr S X b).2 7 = S.2 7 ∧ (∀ j, j < 8 → (ctr S X b).1 j = S.1 j)
  | 0 => ⟨rfl, rfl, rfl, rfl, rfl, rfl, fun _ _ => rfl⟩
  | b + 1 => by
    have ih := ctr_keep b
    unfold ctr
    split
    · exact ⟨ih.1, ih.2.1, ih.2.2.1, ih.2.2.2.1, ih.2.2.2.2.1, ih.2.2.2.2.2.1, fun j hj => (if_neg (by omega)).trans (ih.2.2.2.2.2.2 j hj)⟩
    · exact ih
def PIn (S : aS) (B P : Nat) : Prop := ∀ b, b < B → ∃ p q, p < P ∧ q < P ∧ S.2 2 b = nI p ∧ S.2 3 b = nI q
def truth (S : aS) (X : aK) (B : Nat) : aS := upS (ctr S X B) 7 ((ctr S X B).1 7 + 1)
theorem c_W_comeTrue {P B : Nat} (hX : WW w k X n) (hT : TW w t S n) (hd : k + 1 < t ∨ t + 8 < k) (hP7 : P ≤ 7) (hB : S.1 1 = nI B) (hB7 : B ≤ 7) (hok : WOk X P) (hpi : PIn S B P) : Tm G 3 y_W_comeTrue [.ref k, .ref t] w n (some (.int (bcount X.1))) t (truth S X B) := by
  have hloop : ∀ m i : Nat, i + m = B → ∀ w1 : aW, TW w1 t (ctr S X i) n → (∀ j, (j < t ∨ t + 8 < j) → w1 j = w j) → Go G 3 y_W_comeTrue 2 [some (.ref k), some (.ref t), some (.int (nI i))] [] w1 n 0 0 (fun r1 w2 n1 => r1 = some (.int (bcount X.1)) ∧ TU w w2 t (truth S X B) n ∧ n1 = n) := by
    intro m
    induction m with
    | zero =>
      intro i hi w1 hT1 hF1
      have hi : i = B := by omega
      subst hi
      have hX1 : WW w1 k X n := hX.fr (fun j q1 q2 => hF1 j (by omega))
      have hB9 : (ctr S X i).1 1 = nI i := ((ctr_keep (S := S) (X := X) i).2.2.2.2.2.2 1 (by decide)).trans hB
      obtain ⟨e0, e1, e2, e3, e4, e5, e6, e7, e8, hm⟩ := hT1
      obtain ⟨g0, g1, hn⟩ := hX1
      refine r_iload_n (i := 2) i_W_comeTrue_2 rfl rfl ?_
      refine r_aload_n (i := 1) i_W_comeTrue_3 rfl rfl ?_
      refine r_getfN (ci := 1) (T := Fk1) (k := 1) o_W_comeTrue i_W_comeTrue_4 x_W_25 rfl (by decide) rfl (by repeat (first | assumption | exact upw_s | refine (upw_n (by omega)).trans ?_)) (by first | assumption | omega) (by rfl) ?_
      refine r_icmp_ge 40 i_W_comeTrue_7 (by decide) (fun h7 => ?_) (fun h7 => (absurd (by rw [hB9]; exact Int32.le_refl _) h7))
      refine r_aload_n (i := 1) i_W_comeTrue_40 rfl rfl ?_
      refine r_dup i_W_comeTrue_41 rfl ?_
      refine r_getfN (ci := 1) (T := Fk1) (k := 7) o_W_comeTrue i_W_comeTrue_42 x_W_84 rfl (by decide) rfl (by repeat (first | assumption | exact upw_s | refine (upw_n (by omega)).trans ?_)) (by first | assumption | omega) (by rfl) ?_
      refine r_iconst (v := (1 : Int32)) i_W_comeTrue_45 rfl ?_
      refine r_iadd i_W_comeTrue_46 ?_
      refine r_putfN (ci := 1) (T := Fk1) (k := 7) o_W_comeTrue i_W_comeTrue_47 x_W_84 rfl (by decide) rfl rfl (ok1 7 (by decide)) rfl (by repeat (first | assumption | exact upw_s | refine (upw_n (by omega)).trans ?_)) (by first | assumption | omega) (by exact Nat.le_of_ble_eq_true rfl) ?_
      refine r_aload_n (i := 0) i_W_comeTrue_50 rfl rfl ?_
      refine r_getf (ci := 4) (T := Fk4) (k := 1) o_W_comeTrue i_W_comeTrue_51 x_W_15 rfl (by decide) rfl (by repeat (first | assumption | exact upw_s | refine (upw_n (by omega)).trans ?_)) (by first | assumption | omega) (by rfl) ?_
      refine f_static o_W_comeTrue k_JI_bitCount s_JI_bitCount x_W_61 i_W_comeTrue_54 (c_JI_bitCount) rfl rfl (by decide) (Nat.le_of_ble_eq_true rfl) ?_
      refine r_ireturn i_W_comeTrue_57 t_W_comeTrue rfl ?_
      exact ⟨rfl, ⟨⟨(by repeat (first | assumption | exact upw_s | refine (upw_n (by omega)).trans ?_)), (by repeat (first | assumption | exact upw_s | refine (upw_n (by omega)).trans ?_)), (by repeat (first | assumption | exact upw_s | refine (upw_n (by omega)).trans ?_)), (by repeat (first | assumption | exact upw_s | refine (upw_n (by omega)).trans ?_)), (by repeat (first | assumption | exact upw_s | refine (upw_n (by omega)).trans ?_)), (by repeat (first | assumption | exact upw_s | refine (upw_n (by omega)).trans ?_)), (by repeat (first | assumption | exact upw_s | refine (upw_n (by omega)).trans ?_)), (by repeat (first | assumption | exact upw_s | refine (upw_n (by omega)).trans ?_)), (by repeat (first | assumption | exact upw_s | refine (upw_n (by omega)).trans ?_)), hm⟩, fun j hj => (upw_n (by omega)).trans (hF1 j hj)⟩, rfl⟩
    | succ m ih =>
      intro i hi w1 hT1 hF1
      have hX1 : WW w1 k X n := hX.fr (fun j q1 q2 => hF1 j (by omega))
      have hk := ctr_keep (S := S) (X := X) i
      have hB9 : (ctr S X i).1 1 = nI B := (hk.2.2.2.2.2.2 1 (by decide)).trans hB
      have hT0 := hT1
      obtain ⟨e0, e1, e2, e3, e4, e5, e6, e7, e8, hm⟩ := hT1
      obtain ⟨g0, g1, hn⟩ := hX1
      have e9 : ctr S X (i + 1) = if hbI X.1 (nI i) then mkT (ctr S X i) i (S.2 2 i).toNatClampNeg (S.2 3 i).toNatClampNeg (X.2.2 i).toNatClampNeg else ctr S X i := rfl
      obtain ⟨p, q, hp, hq, ep, eq⟩ := hpi i (by omega)
      refine r_iload_n (i := 2) i_W_comeTrue_2 rfl rfl ?_
      refine r_aload_n (i := 1) i_W_comeTrue_3 rfl rfl ?_
      refine r_getfN (ci := 1) (T := Fk1) (k := 1) o_W_comeTrue i_W_comeTrue_4 x_W_25 rfl (by decide) rfl (by repeat (first | assumption | exact upw_s | refine (upw_n (by omega)).trans ?_)) (by first | assumption | omega) (by rfl) ?_
      refine r_icmp_ge 40 i_W_comeTrue_7 (by decide) (fun h7 => (absurd (hB9 ▸ h7) (nI_ge (by omega) (by omega)))) (fun h7 => ?_)
      refine r_aload_n (i := 0) i_W_comeTrue_10 rfl rfl ?_
      refine r_getf (ci := 4) (T := Fk4) (k := 1) o_W_comeTrue i_W_comeTrue_11 x_W_15 rfl (by decide) rfl (by repeat (first | assumption | exact upw_s | refine (upw_n (by omega)).trans ?_)) (by first | assumption | omega) (by rfl) ?_
      refine r_iload_n (i := 2) i_W_comeTrue_14 rfl rfl ?_
      refine f_staticN o_W_comeTrue k_N_hasBit s_N_hasBit x_W_47 i_W_comeTrue_15 (c_N_hasBit) rfl rfl (by decide) (Nat.le_of_ble_eq_true rfl) ?_
      refine r_if_eq 34 i_W_comeTrue_18 (by decide) (fun h18 => ?_) (fun h18 => ?_)
      · skip
        have h18 := bI_eq0.mp h18
        rw [h18] at e9
        have e9 : ctr S X (i + 1) = ctr S X i := e9
        refine r_iinc_2 (v := (1 : Int32)) i_W_comeTrue_34 rfl (by rw [l_W_comeTrue]; decide) rfl ?_
        refine r_goto 2 i_W_comeTrue_37 (by decide) ?_
        rw [nI_1]
        first | exact ih (i + 1) (by omega) w1 (by rw [e9]; exact hT0) hF1 | exact ih (i + 1) (by omega) w2 (by rw [e9]; exact hT2) (fun j hj => (hF2 j hj).trans (hF1 j hj))
      · skip
        have h18 := bI_ne0.mp h18
        obtain ⟨c, hc, ec⟩ := hok i (by omega) h18
        rw [h18, if_pos rfl, ep, eq, ec, nI_clamp (by omega), nI_clamp (by omega), nI_clamp (by omega)] at e9
        refine r_aload_n (i := 1) i_W_comeTrue_21 rfl rfl ?_
        refine r_iload_n (i := 2) i_W_comeTrue_22 rfl rfl ?_
        refine r_aload_n (i := 0) i_W_comeTrue_23 rfl rfl ?_
        refine r_getf (ci := 4) (T := Fk4) (k := 0) o_W_comeTrue i_W_comeTrue_24 x_W_9 rfl (by decide) rfl (by repeat (first | assumption | exact upw_s | refine (upw_n (by omega)).trans ?_)) (by first | assumption | omega) (by rfl) ?_
        refine r_iload_n (i := 2) i_W_comeTrue_27 rfl rfl ?_
        refine f_staticN o_W_comeTrue k_N_at s_N_at x_W_77 i_W_comeTrue_28 (c_N_at (by repeat (first | assumption | exact upw_s | refine (upw_n (by omega)).trans ?_)) (by omega) (by decide)) rfl rfl (by decide) (Nat.le_of_ble_eq_true rfl) ?_
        rw [atI_in (by omega) (by decide), ec]
        refine m_virtual o_W_comeTrue k_T_makeInTruth v_T_makeInTruth x_W_81 i_W_comeTrue_31 o_T_makeInTruth (c_T_makeInTruth (p := p) (q := q) (c := c) hT0 (by omega) (by rw [hk.1]; exact ep) (by rw [hk.2.1]; exact eq) (by omega) (by omega) (by omega)) rfl (rcv_ob (by repeat (first | assumption | exact upw_s | refine (upw_n (by omega)).trans ?_)) rfl (by first | assumption | omega)) rfl (by decide) (Nat.le_of_ble_eq_true rfl) (Nat.zero_le _) (Nat.zero_le _) (fun r1 w2 n1 hp9 => ?_)
        obtain ⟨rfl, ⟨hT2, hF2⟩, rfl⟩ := hp9
        refine r_iinc_2 (v := (1 : Int32)) i_W_comeTrue_34 rfl (by rw [l_W_comeTrue]; decide) rfl ?_
        refine r_goto 2 i_W_comeTrue_37 (by decide) ?_
        rw [nI_1]
        first | exact ih (i + 1) (by omega) w1 (by rw [e9]; exact hT0) hF1 | exact ih (i + 1) (by omega) w2 (by rw [e9]; exact hT2) (fun j hj => (hF2 j hj).trans (hF1 j hj))
  refine Tm.of k_W_comeTrue l_W_comeTrue rfl rfl ?_
  refine r_iconst (v := (0 : Int32)) i_W_comeTrue_0 rfl ?_
  refine r_istore_2 i_W_comeTrue_1 (by rw [l_W_comeTrue]; decide) rfl ?_
  exact hloop B 0 (by omega) w hT (fun _ _ => rfl)
end TRUTH
