-- THE CLASS: MORE LOOPS
def pgF (f : Nat → Int32) : Nat → Nat
  | 0 => 0
  | k + 1 => if f (pgF f k) < f (k + 1) then k + 1 else pgF f k
theorem pgF_le (f : Nat → Int32) : ∀ k, pgF f k ≤ k
  | 0 => Nat.le_refl _
  | k + 1 => by
    unfold pgF
    have := pgF_le f k
    split
    · exact Nat.le_refl _
    · omega
def mnF (f : Nat → Int32) (x : Int32) : Nat → Int32
  | 0 => x
  | k + 1 => if f k < mnF f x k then f k else mnF f x k
section PUBG
variable {G : gE} {w : aW} {n : Nat} {Q : aQ}
theorem c_N_placeOfGreatest {a P : Nat} {f : Nat → Int32} (hw : w a = ai 7 f) (ha : a < n) (h0 : 0 < P) (hP7 : P ≤ 7) : Fn G 4 y_N_placeOfGreatest [.ref a, .int (nI P)] w n (some (.int (nI (pgF f (P - 1))))) w := by
  refine Fn.of k_N_placeOfGreatest l_N_placeOfGreatest rfl rfl ?_
  have hloop : ∀ m i, i + m = P - 1 → Go G 4 y_N_placeOfGreatest 4 [some (.ref a), some (.int (nI P)), some (.int (nI (pgF f i))), some (.int (nI (i + 1)))] [] w n 0 0 (fun r1 w1 n1 => r1 = some (.int (nI (pgF f (P - 1)))) ∧ w1 = w ∧ n1 = n) := by
    intro m
    induction m with
    | zero =>
      intro i hi
      have hi : i = P - 1 := by omega
      subst hi
      refine r_iload_n (i := 3) i_N_placeOfGreatest_4 rfl rfl ?_
      refine r_iload_n (i := 1) i_N_placeOfGreatest_5 rfl rfl ?_
      refine r_icmp_ge 30 i_N_placeOfGreatest_6 (by decide) (fun h6 => ?_) (fun h6 => (absurd (nI_le (by omega) (by omega)) h6))
      refine r_iload_n (i := 2) i_N_placeOfGreatest_30 rfl rfl ?_
      refine r_ireturn i_N_placeOfGreatest_31 t_N_placeOfGreatest rfl ?_
      exact ⟨rfl, rfl, rfl⟩
    | succ m ih =>
      intro i hi
      have ih' := ih (i + 1) (by omega)
      have e7 : pgF f (i + 1) = if f (pgF f i) < f (i + 1) then i + 1 else pgF f i := rfl
      rw [e7] at ih'
      have hle := pgF_le f i
      refine r_iload_n (i := 3) i_N_placeOfGreatest_4 rfl rfl ?_
      refine r_iload_n (i := 1) i_N_placeOfGreatest_5 rfl rfl ?_
      refine r_icmp_ge 30 i_N_placeOfGreatest_6 (by decide) (fun h6 => (absurd h6 (nI_ge (by omega) (by omega)))) (fun h6 => ?_)
      refine r_aload_n (i := 0) i_N_placeOfGreatest_9 rfl rfl ?_
      refine r_iload_n (i := 3) i_N_placeOfGreatest_10 rfl rfl ?_
      refine f_static o_N_placeOfGreatest k_N_at s_N_at x_N_195 i_N_placeOfGreatest_11 (c_N_at hw ha (by decide)) rfl rfl (by decide) (Nat.le_of_ble_eq_true rfl) ?_
      rw [atI_in (show i + 1 < 7 by omega) (by decide)]
      refine r_aload_n (i := 0) i_N_placeOfGreatest_14 rfl rfl ?_
      refine r_iload_n (i := 2) i_N_placeOfGreatest_15 rfl rfl ?_
      refine f_static o_N_placeOfGreatest k_N_at s_N_at x_N_195 i_N_placeOfGreatest_16 (c_N_at hw ha (by decide)) rfl rfl (by decide) (Nat.le_of_ble_eq_true rfl) ?_
      rw [atI_in (show pgF f i < 7 by omega) (by decide)]
      refine r_icmp_le 24 i_N_placeOfGreatest_19 (by decide) (fun h19 => ?_) (fun h19 => ?_)
      · skip
        rw [if_neg (Int32.not_lt.mpr h19)] at ih'
        refine r_iinc_3 (v := (1 : Int32)) i_N_placeOfGreatest_24 rfl (by rw [l_N_placeOfGreatest]; decide) rfl ?_
        refine r_goto 4 i_N_placeOfGreatest_27 (by decide) ?_
        rw [nI_1]
        exact ih'
      · skip
        rw [if_pos (Int32.not_le.mp h19)] at ih'
        refine r_iload_n (i := 3) i_N_placeOfGreatest_22 rfl rfl ?_
        refine r_istore_2 i_N_placeOfGreatest_23 (by rw [l_N_placeOfGreatest]; decide) rfl ?_
        refine r_iinc_3 (v := (1 : Int32)) i_N_placeOfGreatest_24 rfl (by rw [l_N_placeOfGreatest]; decide) rfl ?_
        refine r_goto 4 i_N_placeOfGreatest_27 (by decide) ?_
        rw [nI_1]
        exact ih'
  refine r_iconst (v := (0 : Int32)) i_N_placeOfGreatest_0 rfl ?_
  refine r_istore_2 i_N_placeOfGreatest_1 (by rw [l_N_placeOfGreatest]; decide) rfl ?_
  refine r_iconst (v := (1 : Int32)) i_N_placeOfGreatest_2 rfl ?_
  refine r_istore_3 i_N_placeOfGreatest_3 (by rw [l_N_placeOfGreatest]; decide) rfl ?_
  exact hloop (P - 1) 0 (by omega)
def m_richest (Q : aQ) : Int32 × aQ := if Q.1.1 0 = 0 then rfz Q (-5) else (nI (pgF (Q.1.2 0) (nP Q - 1)), Q)
theorem c_N_richest (hC : CW w Q n) (hQ : QOk Q) : Cm G 5 y_N_richest [.ref 0] w n (m_richest Q) := by
  obtain ⟨D, L, fa, K, Z, hX⟩ := id hC
  obtain ⟨c0, cT, cK, cD, cS, cR, cW, cE, cF, cn⟩ := id hX
  have oT := cT.1
  have oK := cK.1
  have oD := cD.1
  have oS := cS.1
  have oR := cR.1
  have oW := cW.1
  have oE := cE.1
  obtain ⟨P, B, hP, hP7, hB, hB7, hPI⟩ := id hQ.1
  refine Cm.of k_N_richest l_N_richest rfl rfl ?_
  unfold m_richest
  rw [nP_eq hP hP7]
  refine r_aload_n (i := 0) i_N_richest_0 rfl rfl ?_
  refine r_getf (ci := 0) (T := Fk0) (k := 0) o_N_richest i_N_richest_1 x_N_10 rfl (by decide) rfl (by repeat (first | assumption | exact upw_s | refine (upw_n (by omega)).trans ?_)) (by first | assumption | omega) (by rfl) ?_
  refine r_getfN (ci := 1) (T := Fk1) (k := 0) o_N_richest i_N_richest_4 x_N_124 rfl (by decide) rfl (by repeat (first | assumption | exact upw_s | refine (upw_n (by omega)).trans ?_)) (by first | assumption | omega) (by rfl) ?_
  refine r_if_ne 19 i_N_richest_7 (by decide) (fun h7 => ?_) (fun h7 => ?_)
  · skip
    rw [if_neg h7]
    have h0 : 0 < P := Nat.pos_of_ne_zero (fun q => h7 (by rw [hP, q]; rfl))
    refine r_aload_n (i := 0) i_N_richest_19 rfl rfl ?_
    refine r_getf (ci := 0) (T := Fk0) (k := 0) o_N_richest i_N_richest_20 x_N_10 rfl (by decide) rfl (by repeat (first | assumption | exact upw_s | refine (upw_n (by omega)).trans ?_)) (by first | assumption | omega) (by rfl) ?_
    refine r_getfN (ci := 1) (T := Fk1) (k := 9) o_N_richest i_N_richest_23 x_N_215 rfl (by decide) rfl (by repeat (first | assumption | exact upw_s | refine (upw_n (by omega)).trans ?_)) (by first | assumption | omega) (by rfl) ?_
    refine r_aload_n (i := 0) i_N_richest_26 rfl rfl ?_
    refine r_getf (ci := 0) (T := Fk0) (k := 0) o_N_richest i_N_richest_27 x_N_10 rfl (by decide) rfl (by repeat (first | assumption | exact upw_s | refine (upw_n (by omega)).trans ?_)) (by first | assumption | omega) (by rfl) ?_
    refine r_getfN (ci := 1) (T := Fk1) (k := 0) o_N_richest i_N_richest_30 x_N_124 rfl (by decide) rfl (by repeat (first | assumption | exact upw_s | refine (upw_n (by omega)).trans ?_)) (by first | assumption | omega) (by rfl) ?_
    rw [hP]
    refine f_static o_N_richest k_N_placeOfGreatest s_N_placeOfGreatest x_N_266 i_N_richest_33 (c_N_placeOfGreatest cT.2.1 (by omega) h0 hP7) rfl rfl (by decide) (Nat.le_of_ble_eq_true rfl) ?_
    refine r_ireturn i_N_richest_36 t_N_richest rfl ?_
    first | exact ⟨rfl, hp9, rfl⟩ | exact ⟨rfl, ⟨hC, cFr.rfl⟩, rfl⟩
  · skip
    rw [if_pos h7]
    refine r_aload_n (i := 0) i_N_richest_10 rfl rfl ?_
    refine r_bipush (v := (-5 : Int32)) i_N_richest_11 (by decide) ?_
    refine m_virtual o_N_richest k_N_refuse v_N_refuse x_N_66 i_N_richest_13 o_N_refuse (c_N_refuse hC) rfl (rcv_ob (by repeat (first | assumption | exact upw_s | refine (upw_n (by omega)).trans ?_)) rfl (by first | assumption | omega)) rfl (by decide) (Nat.le_of_ble_eq_true rfl) (Nat.zero_le _) (Nat.zero_le _) (fun rr13 wr13 nr13 hp9 => ?_)
    obtain ⟨rfl, hp9, rfl⟩ := hp9
    refine r_goto 36 i_N_richest_16 (by decide) ?_
    refine r_ireturn i_N_richest_36 t_N_richest rfl ?_
    first | exact ⟨rfl, hp9, rfl⟩ | exact ⟨rfl, ⟨hC, cFr.rfl⟩, rfl⟩
def m_fair (Q : aQ) : Int32 × aQ := if Q.1.1 0 = 0 then rfz Q (-5) else (Q.1.2 1 (pgF (Q.1.2 1) (nP Q - 1)) - mnF (Q.1.2 1) (Q.1.2 1 (pgF (Q.1.2 1) (nP Q - 1))) (nP Q), Q)
theorem c_N_fair (hC : CW w Q n) (hQ : QOk Q) : Cm G 5 y_N_fair [.ref 0] w n (m_fair Q) := by
  obtain ⟨D, L, fa, K, Z, hX⟩ := id hC
  obtain ⟨c0, cT, cK, cD, cS, cR, cW, cE, cF, cn⟩ := id hX
  have oT := cT.1
  have oK := cK.1
  have oD := cD.1
  have oS := cS.1
  have oR := cR.1
  have oW := cW.1
  have oE := cE.1
  obtain ⟨P, B, hP, hP7, hB, hB7, hPI⟩ := id hQ.1
  refine Cm.of k_N_fair l_N_fair rfl rfl ?_
  unfold m_fair
  rw [nP_eq hP hP7]
  have hloop : ∀ x : Int32, ∀ m i, i + m = P → Go G 5 y_N_fair 49 [some (.ref 0), some (.int x), some (.int (mnF (Q.1.2 1) x i)), some (.int (nI i))] [] w n 0 0 (fun r w' n' => r = some (.int (x - mnF (Q.1.2 1) x P)) ∧ (CW w' Q n ∧ cFr w w') ∧ n' = n) := by
    intro x m
    induction m with
    | zero =>
      intro i hi
      have hi : i = P := by omega
      subst hi
      refine r_iload_n (i := 3) i_N_fair_49 rfl rfl ?_
      refine r_aload_n (i := 0) i_N_fair_50 rfl rfl ?_
      refine r_getf (ci := 0) (T := Fk0) (k := 0) o_N_fair i_N_fair_51 x_N_10 rfl (by decide) rfl (by repeat (first | assumption | exact upw_s | refine (upw_n (by omega)).trans ?_)) (by first | assumption | omega) (by rfl) ?_
      refine r_getfN (ci := 1) (T := Fk1) (k := 0) o_N_fair i_N_fair_54 x_N_124 rfl (by decide) rfl (by repeat (first | assumption | exact upw_s | refine (upw_n (by omega)).trans ?_)) (by first | assumption | omega) (by rfl) ?_
      refine r_icmp_ge 82 i_N_fair_57 (by decide) (fun h57 => ?_) (fun h57 => (absurd (by rw [hP]; exact nI_le (Nat.le_refl _) (by omega)) h57))
      refine r_iload_n (i := 1) i_N_fair_82 rfl rfl ?_
      refine r_iload_n (i := 2) i_N_fair_83 rfl rfl ?_
      refine r_isub i_N_fair_84 ?_
      refine r_ireturn i_N_fair_85 t_N_fair rfl ?_
      first | exact ⟨rfl, hp9, rfl⟩ | exact ⟨rfl, ⟨hC, cFr.rfl⟩, rfl⟩
    | succ m ih =>
      intro i hi
      have ih' := ih (i + 1) (by omega)
      have e7 : mnF (Q.1.2 1) x (i + 1) = if Q.1.2 1 i < mnF (Q.1.2 1) x i then Q.1.2 1 i else mnF (Q.1.2 1) x i := rfl
      rw [e7] at ih'
      refine r_iload_n (i := 3) i_N_fair_49 rfl rfl ?_
      refine r_aload_n (i := 0) i_N_fair_50 rfl rfl ?_
      refine r_getf (ci := 0) (T := Fk0) (k := 0) o_N_fair i_N_fair_51 x_N_10 rfl (by decide) rfl (by repeat (first | assumption | exact upw_s | refine (upw_n (by omega)).trans ?_)) (by first | assumption | omega) (by rfl) ?_
      refine r_getfN (ci := 1) (T := Fk1) (k := 0) o_N_fair i_N_fair_54 x_N_124 rfl (by decide) rfl (by repeat (first | assumption | exact upw_s | refine (upw_n (by omega)).trans ?_)) (by first | assumption | omega) (by rfl) ?_
      refine r_icmp_ge 82 i_N_fair_57 (by decide) (fun h57 => (absurd h57 (by rw [hP]; exact nI_ge (by omega) (by omega)))) (fun h57 => ?_)
      refine r_iload_n (i := 2) i_N_fair_60 rfl rfl ?_
      refine r_aload_n (i := 0) i_N_fair_61 rfl rfl ?_
      refine r_getf (ci := 0) (T := Fk0) (k := 0) o_N_fair i_N_fair_62 x_N_10 rfl (by decide) rfl (by repeat (first | assumption | exact upw_s | refine (upw_n (by omega)).trans ?_)) (by first | assumption | omega) (by rfl) ?_
      refine r_getfN (ci := 1) (T := Fk1) (k := 10) o_N_fair i_N_fair_65 x_N_272 rfl (by decide) rfl (by repeat (first | assumption | exact upw_s | refine (upw_n (by omega)).trans ?_)) (by first | assumption | omega) (by rfl) ?_
      refine r_iload_n (i := 3) i_N_fair_68 rfl rfl ?_
      refine f_static o_N_fair k_N_at s_N_at x_N_195 i_N_fair_69 (c_N_at cT.2.2.1 (by omega) (by decide)) rfl rfl (by decide) (Nat.le_of_ble_eq_true rfl) ?_
      rw [atI_in (show i < 7 by omega) (by decide)]
      refine f_static o_N_fair k_JM_min s_JM_min x_N_275 i_N_fair_72 (c_JM_min) rfl rfl (by decide) (Nat.le_of_ble_eq_true rfl) ?_
      refine r_istore_2 i_N_fair_75 (by rw [l_N_fair]; decide) rfl ?_
      refine r_iinc_3 (v := (1 : Int32)) i_N_fair_76 rfl (by rw [l_N_fair]; decide) rfl ?_
      refine r_goto 49 i_N_fair_79 (by decide) ?_
      rw [nI_1]
      exact ih'
  refine r_aload_n (i := 0) i_N_fair_0 rfl rfl ?_
  refine r_getf (ci := 0) (T := Fk0) (k := 0) o_N_fair i_N_fair_1 x_N_10 rfl (by decide) rfl (by repeat (first | assumption | exact upw_s | refine (upw_n (by omega)).trans ?_)) (by first | assumption | omega) (by rfl) ?_
  refine r_getfN (ci := 1) (T := Fk1) (k := 0) o_N_fair i_N_fair_4 x_N_124 rfl (by decide) rfl (by repeat (first | assumption | exact upw_s | refine (upw_n (by omega)).trans ?_)) (by first | assumption | omega) (by rfl) ?_
  refine r_if_ne 17 i_N_fair_7 (by decide) (fun h7 => ?_) (fun h7 => ?_)
  · skip
    rw [if_neg h7]
    have h0 : 0 < P := Nat.pos_of_ne_zero (fun q => h7 (by rw [hP, q]; rfl))
    have hle := pgF_le (Q.1.2 1) (P - 1)
    refine r_aload_n (i := 0) i_N_fair_17 rfl rfl ?_
    refine r_getf (ci := 0) (T := Fk0) (k := 0) o_N_fair i_N_fair_18 x_N_10 rfl (by decide) rfl (by repeat (first | assumption | exact upw_s | refine (upw_n (by omega)).trans ?_)) (by first | assumption | omega) (by rfl) ?_
    refine r_getfN (ci := 1) (T := Fk1) (k := 10) o_N_fair i_N_fair_21 x_N_272 rfl (by decide) rfl (by repeat (first | assumption | exact upw_s | refine (upw_n (by omega)).trans ?_)) (by first | assumption | omega) (by rfl) ?_
    refine r_aload_n (i := 0) i_N_fair_24 rfl rfl ?_
    refine r_getf (ci := 0) (T := Fk0) (k := 0) o_N_fair i_N_fair_25 x_N_10 rfl (by decide) rfl (by repeat (first | assumption | exact upw_s | refine (upw_n (by omega)).trans ?_)) (by first | assumption | omega) (by rfl) ?_
    refine r_getfN (ci := 1) (T := Fk1) (k := 10) o_N_fair i_N_fair_28 x_N_272 rfl (by decide) rfl (by repeat (first | assumption | exact upw_s | refine (upw_n (by omega)).trans ?_)) (by first | assumption | omega) (by rfl) ?_
    refine r_aload_n (i := 0) i_N_fair_31 rfl rfl ?_
    refine r_getf (ci := 0) (T := Fk0) (k := 0) o_N_fair i_N_fair_32 x_N_10 rfl (by decide) rfl (by repeat (first | assumption | exact upw_s | refine (upw_n (by omega)).trans ?_)) (by first | assumption | omega) (by rfl) ?_
    refine r_getfN (ci := 1) (T := Fk1) (k := 0) o_N_fair i_N_fair_35 x_N_124 rfl (by decide) rfl (by repeat (first | assumption | exact upw_s | refine (upw_n (by omega)).trans ?_)) (by first | assumption | omega) (by rfl) ?_
    rw [hP]
    refine f_static o_N_fair k_N_placeOfGreatest s_N_placeOfGreatest x_N_266 i_N_fair_38 (c_N_placeOfGreatest cT.2.2.1 (by omega) h0 hP7) rfl rfl (by decide) (Nat.le_of_ble_eq_true rfl) ?_
    refine f_static o_N_fair k_N_at s_N_at x_N_195 i_N_fair_41 (c_N_at cT.2.2.1 (by omega) (by decide)) rfl rfl (by decide) (Nat.le_of_ble_eq_true rfl) ?_
    rw [atI_in (show pgF (Q.1.2 1) (P - 1) < 7 by omega) (by decide)]
    refine r_istore_1 i_N_fair_44 (by rw [l_N_fair]; decide) rfl ?_
    refine r_iload_n (i := 1) i_N_fair_45 rfl rfl ?_
    refine r_istore_2 i_N_fair_46 (by rw [l_N_fair]; decide) rfl ?_
    refine r_iconst (v := (0 : Int32)) i_N_fair_47 rfl ?_
    refine r_istore_3 i_N_fair_48 (by rw [l_N_fair]; decide) rfl ?_
    exact hloop _ P 0 (by omega)
  · skip
    rw [if_pos h7]
    refine r_aload_n (i := 0) i_N_fair_10 rfl rfl ?_
    refine r_bipush (v := (-5 : Int32)) i_N_fair_11 (by decide) ?_
    refine m_virtual o_N_fair k_N_refuse v_N_refuse x_N_66 i_N_fair_13 o_N_refuse (c_N_refuse hC) rfl (rcv_ob (by repeat (first | assumption | exact upw_s | refine (upw_n (by omega)).trans ?_)) rfl (by first | assumption | omega)) rfl (by decide) (Nat.le_of_ble_eq_true rfl) (Nat.zero_le _) (Nat.zero_le _) (fun rr13 wr13 nr13 hp9 => ?_)
    obtain ⟨rfl, hp9, rfl⟩ := hp9
    refine r_ireturn i_N_fair_16 t_N_fair rfl ?_
    first | exact ⟨rfl, hp9, rfl⟩ | exact ⟨rfl, ⟨hC, cFr.rfl⟩, rfl⟩
theorem bits_s (p : Nat → Bool) (i : Nat) : bitsOf p (i + 1) = if p i then bitsOf p i ||| b1 i else bitsOf p i := rfl
def m_alone (Q : aQ) (i : Int32) : Int32 × aQ := if lt0 i (Q.1.1 0) = true then (bitsOf (fun b => decide (bitsOf (gd Q.1 b) (nP Q) = (1 : Int32) <<< (i &&& 31))) (nB Q), Q) else rfz Q (-2)
theorem c_N_alone {i : Int32} (hC : CW w Q n) (hQ : QOk Q) : Cm G 5 y_N_alone [.ref 0, .int i] w n (m_alone Q i) := by
  obtain ⟨D, L, fa, K, Z, hX⟩ := id hC
  obtain ⟨c0, cT, cK, cD, cS, cR, cW, cE, cF, cn⟩ := id hX
  have oT := cT.1
  have oK := cK.1
  have oD := cD.1
  have oS := cS.1
  have oR := cR.1
  have oW := cW.1
  have oE := cE.1
  obtain ⟨P, B, hP, hP7, hB, hB7, hPI⟩ := id hQ.1
  refine Cm.of k_N_alone l_N_alone rfl rfl ?_
  unfold m_alone
  rw [nP_eq hP hP7, nB_eq hB hB7]
  have hloop : ∀ m k, k + m = B → Go G 5 y_N_alone 22 [some (.ref 0), some (.int i), some (.int (bitsOf (fun b => decide (bitsOf (gd Q.1 b) P = (1 : Int32) <<< (i &&& 31))) k)), some (.int (nI k))] [] w n 0 0 (fun r w' n' => r = some (.int (bitsOf (fun b => decide (bitsOf (gd Q.1 b) P = (1 : Int32) <<< (i &&& 31))) B)) ∧ (CW w' Q n ∧ cFr w w') ∧ n' = n) := by
    intro m
    induction m with
    | zero =>
      intro k hk
      have hk : k = B := by omega
      subst hk
      refine r_iload_n (i := 3) i_N_alone_22 rfl rfl ?_
      refine r_aload_n (i := 0) i_N_alone_23 rfl rfl ?_
      refine r_getf (ci := 0) (T := Fk0) (k := 0) o_N_alone i_N_alone_24 x_N_10 rfl (by decide) rfl (by repeat (first | assumption | exact upw_s | refine (upw_n (by omega)).trans ?_)) (by first | assumption | omega) (by rfl) ?_
      refine r_getfN (ci := 1) (T := Fk1) (k := 1) o_N_alone i_N_alone_27 x_N_113 rfl (by decide) rfl (by repeat (first | assumption | exact upw_s | refine (upw_n (by omega)).trans ?_)) (by first | assumption | omega) (by rfl) ?_
      refine r_icmp_ge 59 i_N_alone_30 (by decide) (fun h30 => ?_) (fun h30 => (absurd (by rw [hB]; exact nI_le (Nat.le_refl _) (by omega)) h30))
      refine r_iload_n (i := 2) i_N_alone_59 rfl rfl ?_
      refine r_ireturn i_N_alone_60 t_N_alone rfl ?_
      first | exact ⟨rfl, hp9, rfl⟩ | exact ⟨rfl, ⟨hC, cFr.rfl⟩, rfl⟩
    | succ m ih =>
      intro k hk
      have ih' := ih (k + 1) (by omega)
      rw [bits_s] at ih'
      refine r_iload_n (i := 3) i_N_alone_22 rfl rfl ?_
      refine r_aload_n (i := 0) i_N_alone_23 rfl rfl ?_
      refine r_getf (ci := 0) (T := Fk0) (k := 0) o_N_alone i_N_alone_24 x_N_10 rfl (by decide) rfl (by repeat (first | assumption | exact upw_s | refine (upw_n (by omega)).trans ?_)) (by first | assumption | omega) (by rfl) ?_
      refine r_getfN (ci := 1) (T := Fk1) (k := 1) o_N_alone i_N_alone_27 x_N_113 rfl (by decide) rfl (by repeat (first | assumption | exact upw_s | refine (upw_n (by omega)).trans ?_)) (by first | assumption | omega) (by rfl) ?_
      refine r_icmp_ge 59 i_N_alone_30 (by decide) (fun h30 => (absurd h30 (by rw [hB]; exact nI_ge (by omega) (by omega)))) (fun h30 => ?_)
      refine r_aload_n (i := 0) i_N_alone_33 rfl rfl ?_
      refine r_getf (ci := 0) (T := Fk0) (k := 0) o_N_alone i_N_alone_34 x_N_10 rfl (by decide) rfl (by repeat (first | assumption | exact upw_s | refine (upw_n (by omega)).trans ?_)) (by first | assumption | omega) (by rfl) ?_
      refine r_iload_n (i := 3) i_N_alone_37 rfl rfl ?_
      refine f_virtual o_N_alone k_T_goodBits v_T_goodBits x_N_218 i_N_alone_38 o_T_goodBits (c_T_goodBits cT (by omega) hP hP7) rfl (rcv_ob (by repeat (first | assumption | exact upw_s | refine (upw_n (by omega)).trans ?_)) rfl (by first | assumption | omega)) rfl (by decide) (Nat.le_of_ble_eq_true rfl) ?_
      refine r_iconst (v := (1 : Int32)) i_N_alone_41 rfl ?_
      refine r_iload_n (i := 1) i_N_alone_42 rfl rfl ?_
      refine r_ishl i_N_alone_43 ?_
      refine r_icmp_ne 53 i_N_alone_44 (by decide) (fun h44 => ?_) (fun h44 => ?_)
      · skip
        rw [if_neg (by rw [decide_eq_false h44]; decide)] at ih'
        refine r_iinc_3 (v := (1 : Int32)) i_N_alone_53 rfl (by rw [l_N_alone]; decide) rfl ?_
        refine r_goto 22 i_N_alone_56 (by decide) ?_
        rw [nI_1]
        exact ih'
      · skip
        rw [if_pos (decide_eq_true h44)] at ih'
        refine r_iload_n (i := 2) i_N_alone_47 rfl rfl ?_
        refine r_iconst (v := (1 : Int32)) i_N_alone_48 rfl ?_
        refine r_iload_n (i := 3) i_N_alone_49 rfl rfl ?_
        refine r_ishl i_N_alone_50 ?_
        refine r_ior i_N_alone_51 ?_
        refine r_istore_2 i_N_alone_52 (by rw [l_N_alone]; decide) rfl ?_
        refine r_iinc_3 (v := (1 : Int32)) i_N_alone_53 rfl (by rw [l_N_alone]; decide) rfl ?_
        refine r_goto 22 i_N_alone_56 (by decide) ?_
        rw [nI_1]
        exact ih'
  refine r_aload_n (i := 0) i_N_alone_0 rfl rfl ?_
  refine r_getf (ci := 0) (T := Fk0) (k := 0) o_N_alone i_N_alone_1 x_N_10 rfl (by decide) rfl (by repeat (first | assumption | exact upw_s | refine (upw_n (by omega)).trans ?_)) (by first | assumption | omega) (by rfl) ?_
  refine r_iload_n (i := 1) i_N_alone_4 rfl rfl ?_
  refine f_virtual o_N_alone k_T_hasPerson v_T_hasPerson x_N_131 i_N_alone_5 o_T_hasPerson (c_T_hasPerson cT) rfl (rcv_ob (by repeat (first | assumption | exact upw_s | refine (upw_n (by omega)).trans ?_)) rfl (by first | assumption | omega)) rfl (by decide) (Nat.le_of_ble_eq_true rfl) ?_
  refine r_if_ne 18 i_N_alone_8 (by decide) (fun h8 => ?_) (fun h8 => ?_)
  · skip
    have h8 := bI_ne0.mp h8
    try rw [h8]
    refine r_iconst (v := (0 : Int32)) i_N_alone_18 rfl ?_
    refine r_istore_2 i_N_alone_19 (by rw [l_N_alone]; decide) rfl ?_
    refine r_iconst (v := (0 : Int32)) i_N_alone_20 rfl ?_
    refine r_istore_3 i_N_alone_21 (by rw [l_N_alone]; decide) rfl ?_
    rw [if_pos rfl]
    exact hloop B 0 (by omega)
  · skip
    have h8 := bI_eq0.mp h8
    try rw [h8]
    refine r_aload_n (i := 0) i_N_alone_11 rfl rfl ?_
    refine r_bipush (v := (-2 : Int32)) i_N_alone_12 (by decide) ?_
    refine m_virtual o_N_alone k_N_refuse v_N_refuse x_N_66 i_N_alone_14 o_N_refuse (c_N_refuse hC) rfl (rcv_ob (by repeat (first | assumption | exact upw_s | refine (upw_n (by omega)).trans ?_)) rfl (by first | assumption | omega)) rfl (by decide) (Nat.le_of_ble_eq_true rfl) (Nat.zero_le _) (Nat.zero_le _) (fun rr14 wr14 nr14 hp9 => ?_)
    obtain ⟨rfl, hp9, rfl⟩ := hp9
    refine r_ireturn i_N_alone_17 t_N_alone rfl ?_
    first | exact ⟨rfl, hp9, rfl⟩ | exact ⟨rfl, ⟨hC, cFr.rfl⟩, rfl⟩
def m_party (Q : aQ) (i : Int32) : Int32 × aQ := if lt0 i (Q.1.1 0) = true then (bitsOf (fun b => partyN Q.1 b i) (nB Q), Q) else rfz Q (-2)
theorem c_N_party {i : Int32} (hC : CW w Q n) (hQ : QOk Q) : Cm G 5 y_N_party [.ref 0, .int i] w n (m_party Q i) := by
  obtain ⟨D, L, fa, K, Z, hX⟩ := id hC
  obtain ⟨c0, cT, cK, cD, cS, cR, cW, cE, cF, cn⟩ := id hX
  have oT := cT.1
  have oK := cK.1
  have oD := cD.1
  have oS := cS.1
  have oR := cR.1
  have oW := cW.1
  have oE := cE.1
  obtain ⟨P, B, hP, hP7, hB, hB7, hPI⟩ := id hQ.1
  refine Cm.of k_N_party l_N_party rfl rfl ?_
  unfold m_party
  rw [nB_eq hB hB7]
  have hloop : ∀ m k, k + m = B → Go G 5 y_N_party 22 [some (.ref 0), some (.int i), some (.int (bitsOf (fun b => partyN Q.1 b i) k)), some (.int (nI k))] [] w n 0 0 (fun r w' n' => r = some (.int (bitsOf (fun b => partyN Q.1 b i) B)) ∧ (CW w' Q n ∧ cFr w w') ∧ n' = n) := by
    intro m
    induction m with
    | zero =>
      intro k hk
      have hk : k = B := by omega
      subst hk
      refine r_iload_n (i := 3) i_N_party_22 rfl rfl ?_
      refine r_aload_n (i := 0) i_N_party_23 rfl rfl ?_
      refine r_getf (ci := 0) (T := Fk0) (k := 0) o_N_party i_N_party_24 x_N_10 rfl (by decide) rfl (by repeat (first | assumption | exact upw_s | refine (upw_n (by omega)).trans ?_)) (by first | assumption | omega) (by rfl) ?_
      refine r_getfN (ci := 1) (T := Fk1) (k := 1) o_N_party i_N_party_27 x_N_113 rfl (by decide) rfl (by repeat (first | assumption | exact upw_s | refine (upw_n (by omega)).trans ?_)) (by first | assumption | omega) (by rfl) ?_
      refine r_icmp_ge 57 i_N_party_30 (by decide) (fun h30 => ?_) (fun h30 => (absurd (by rw [hB]; exact nI_le (Nat.le_refl _) (by omega)) h30))
      refine r_iload_n (i := 2) i_N_party_57 rfl rfl ?_
      refine r_ireturn i_N_party_58 t_N_party rfl ?_
      first | exact ⟨rfl, hp9, rfl⟩ | exact ⟨rfl, ⟨hC, cFr.rfl⟩, rfl⟩
    | succ m ih =>
      intro k hk
      have ih' := ih (k + 1) (by omega)
      rw [bits_s] at ih'
      refine r_iload_n (i := 3) i_N_party_22 rfl rfl ?_
      refine r_aload_n (i := 0) i_N_party_23 rfl rfl ?_
      refine r_getf (ci := 0) (T := Fk0) (k := 0) o_N_party i_N_party_24 x_N_10 rfl (by decide) rfl (by repeat (first | assumption | exact upw_s | refine (upw_n (by omega)).trans ?_)) (by first | assumption | omega) (by rfl) ?_
      refine r_getfN (ci := 1) (T := Fk1) (k := 1) o_N_party i_N_party_27 x_N_113 rfl (by decide) rfl (by repeat (first | assumption | exact upw_s | refine (upw_n (by omega)).trans ?_)) (by first | assumption | omega) (by rfl) ?_
      refine r_icmp_ge 57 i_N_party_30 (by decide) (fun h30 => (absurd h30 (by rw [hB]; exact nI_ge (by omega) (by omega)))) (fun h30 => ?_)
      refine r_aload_n (i := 0) i_N_party_33 rfl rfl ?_
      refine r_getf (ci := 0) (T := Fk0) (k := 0) o_N_party i_N_party_34 x_N_10 rfl (by decide) rfl (by repeat (first | assumption | exact upw_s | refine (upw_n (by omega)).trans ?_)) (by first | assumption | omega) (by rfl) ?_
      refine r_iload_n (i := 3) i_N_party_37 rfl rfl ?_
      refine r_iload_n (i := 1) i_N_party_38 rfl rfl ?_
      refine f_virtual o_N_party k_T_isParty v_T_isParty x_N_269 i_N_party_39 o_T_isParty (c_T_isParty cT (by omega)) rfl (rcv_ob (by repeat (first | assumption | exact upw_s | refine (upw_n (by omega)).trans ?_)) rfl (by first | assumption | omega)) rfl (by decide) (Nat.le_of_ble_eq_true rfl) ?_
      refine r_if_eq 51 i_N_party_42 (by decide) (fun h42 => ?_) (fun h42 => ?_)
      · skip
        have h42 := bI_eq0.mp h42
        try rw [h42]
        rw [if_neg (by rw [h42]; decide)] at ih'
        refine r_iinc_3 (v := (1 : Int32)) i_N_party_51 rfl (by rw [l_N_party]; decide) rfl ?_
        refine r_goto 22 i_N_party_54 (by decide) ?_
        rw [nI_1]
        exact ih'
      · skip
        have h42 := bI_ne0.mp h42
        try rw [h42]
        rw [if_pos h42] at ih'
        refine r_iload_n (i := 2) i_N_party_45 rfl rfl ?_
        refine r_iconst (v := (1 : Int32)) i_N_party_46 rfl ?_
        refine r_iload_n (i := 3) i_N_party_47 rfl rfl ?_
        refine r_ishl i_N_party_48 ?_
        refine r_ior i_N_party_49 ?_
        refine r_istore_2 i_N_party_50 (by rw [l_N_party]; decide) rfl ?_
        refine r_iinc_3 (v := (1 : Int32)) i_N_party_51 rfl (by rw [l_N_party]; decide) rfl ?_
        refine r_goto 22 i_N_party_54 (by decide) ?_
        rw [nI_1]
        exact ih'
  refine r_aload_n (i := 0) i_N_party_0 rfl rfl ?_
  refine r_getf (ci := 0) (T := Fk0) (k := 0) o_N_party i_N_party_1 x_N_10 rfl (by decide) rfl (by repeat (first | assumption | exact upw_s | refine (upw_n (by omega)).trans ?_)) (by first | assumption | omega) (by rfl) ?_
  refine r_iload_n (i := 1) i_N_party_4 rfl rfl ?_
  refine f_virtual o_N_party k_T_hasPerson v_T_hasPerson x_N_131 i_N_party_5 o_T_hasPerson (c_T_hasPerson cT) rfl (rcv_ob (by repeat (first | assumption | exact upw_s | refine (upw_n (by omega)).trans ?_)) rfl (by first | assumption | omega)) rfl (by decide) (Nat.le_of_ble_eq_true rfl) ?_
  refine r_if_ne 18 i_N_party_8 (by decide) (fun h8 => ?_) (fun h8 => ?_)
  · skip
    have h8 := bI_ne0.mp h8
    try rw [h8]
    refine r_iconst (v := (0 : Int32)) i_N_party_18 rfl ?_
    refine r_istore_2 i_N_party_19 (by rw [l_N_party]; decide) rfl ?_
    refine r_iconst (v := (0 : Int32)) i_N_party_20 rfl ?_
    refine r_istore_3 i_N_party_21 (by rw [l_N_party]; decide) rfl ?_
    rw [if_pos rfl]
    exact hloop B 0 (by omega)
  · skip
    have h8 := bI_eq0.mp h8
    try rw [h8]
    refine r_aload_n (i := 0) i_N_party_11 rfl rfl ?_
    refine r_bipush (v := (-2 : Int32)) i_N_party_12 (by decide) ?_
    refine m_virtual o_N_party k_N_refuse v_N_refuse x_N_66 i_N_party_14 o_N_refuse (c_N_refuse hC) rfl (rcv_ob (by repeat (first | assumption | exact upw_s | refine (upw_n (by omega)).trans ?_)) rfl (by first | assumption | omega)) rfl (by decide) (Nat.le_of_ble_eq_true rfl) (Nat.zero_le _) (Nat.zero_le _) (fun rr14 wr14 nr14 hp9 => ?_)
    obtain ⟨rfl, hp9, rfl⟩ := hp9
    refine r_ireturn i_N_party_17 t_N_party rfl ?_
    first | exact ⟨rfl, hp9, rfl⟩ | exact ⟨rfl, ⟨hC, cFr.rfl⟩, rfl⟩
def m_never (Q : aQ) : Int32 × aQ := (bitsOf (fun b => decide (bitsOf (gd Q.1 b) (nP Q) = 0)) (nB Q), Q)
theorem c_N_never (hC : CW w Q n) (hQ : QOk Q) : Cm G 5 y_N_never [.ref 0] w n (m_never Q) := by
  obtain ⟨D, L, fa, K, Z, hX⟩ := id hC
  obtain ⟨c0, cT, cK, cD, cS, cR, cW, cE, cF, cn⟩ := id hX
  have oT := cT.1
  have oK := cK.1
  have oD := cD.1
  have oS := cS.1
  have oR := cR.1
  have oW := cW.1
  have oE := cE.1
  obtain ⟨P, B, hP, hP7, hB, hB7, hPI⟩ := id hQ.1
  refine Cm.of k_N_never l_N_never rfl rfl ?_
  unfold m_never
  rw [nP_eq hP hP7, nB_eq hB hB7]
  have hloop : ∀ m k, k + m = B → Go G 5 y_N_never 4 [some (.ref 0), some (.int (bitsOf (fun b => decide (bitsOf (gd Q.1 b) P = 0)) k)), some (.int (nI k))] [] w n 0 0 (fun r w' n' => r = some (.int (bitsOf (fun b => decide (bitsOf (gd Q.1 b) P = 0)) B)) ∧ (CW w' Q n ∧ cFr w w') ∧ n' = n) := by
    intro m
    induction m with
    | zero =>
      intro k hk
      have hk : k = B := by omega
      subst hk
      refine r_iload_n (i := 2) i_N_never_4 rfl rfl ?_
      refine r_aload_n (i := 0) i_N_never_5 rfl rfl ?_
      refine r_getf (ci := 0) (T := Fk0) (k := 0) o_N_never i_N_never_6 x_N_10 rfl (by decide) rfl (by repeat (first | assumption | exact upw_s | refine (upw_n (by omega)).trans ?_)) (by first | assumption | omega) (by rfl) ?_
      refine r_getfN (ci := 1) (T := Fk1) (k := 1) o_N_never i_N_never_9 x_N_113 rfl (by decide) rfl (by repeat (first | assumption | exact upw_s | refine (upw_n (by omega)).trans ?_)) (by first | assumption | omega) (by rfl) ?_
      refine r_icmp_ge 38 i_N_never_12 (by decide) (fun h12 => ?_) (fun h12 => (absurd (by rw [hB]; exact nI_le (Nat.le_refl _) (by omega)) h12))
      refine r_iload_n (i := 1) i_N_never_38 rfl rfl ?_
      refine r_ireturn i_N_never_39 t_N_never rfl ?_
      first | exact ⟨rfl, hp9, rfl⟩ | exact ⟨rfl, ⟨hC, cFr.rfl⟩, rfl⟩
    | succ m ih =>
      intro k hk
      have ih' := ih (k + 1) (by omega)
      rw [bits_s] at ih'
      refine r_iload_n (i := 2) i_N_never_4 rfl rfl ?_
      refine r_aload_n (i := 0) i_N_never_5 rfl rfl ?_
      refine r_getf (ci := 0) (T := Fk0) (k := 0) o_N_never i_N_never_6 x_N_10 rfl (by decide) rfl (by repeat (first | assumption | exact upw_s | refine (upw_n (by omega)).trans ?_)) (by first | assumption | omega) (by rfl) ?_
      refine r_getfN (ci := 1) (T := Fk1) (k := 1) o_N_never i_N_never_9 x_N_113 rfl (by decide) rfl (by repeat (first | assumption | exact upw_s | refine (upw_n (by omega)).trans ?_)) (by first | assumption | omega) (by rfl) ?_
      refine r_icmp_ge 38 i_N_never_12 (by decide) (fun h12 => (absurd h12 (by rw [hB]; exact nI_ge (by omega) (by omega)))) (fun h12 => ?_)
      refine r_aload_n (i := 0) i_N_never_15 rfl rfl ?_
      refine r_getf (ci := 0) (T := Fk0) (k := 0) o_N_never i_N_never_16 x_N_10 rfl (by decide) rfl (by repeat (first | assumption | exact upw_s | refine (upw_n (by omega)).trans ?_)) (by first | assumption | omega) (by rfl) ?_
      refine r_iload_n (i := 2) i_N_never_19 rfl rfl ?_
      refine f_virtual o_N_never k_T_goodBits v_T_goodBits x_N_218 i_N_never_20 o_T_goodBits (c_T_goodBits cT (by omega) hP hP7) rfl (rcv_ob (by repeat (first | assumption | exact upw_s | refine (upw_n (by omega)).trans ?_)) rfl (by first | assumption | omega)) rfl (by decide) (Nat.le_of_ble_eq_true rfl) ?_
      refine r_if_ne 32 i_N_never_23 (by decide) (fun h23 => ?_) (fun h23 => ?_)
      · skip
        rw [if_neg (by rw [decide_eq_false h23]; decide)] at ih'
        refine r_iinc_2 (v := (1 : Int32)) i_N_never_32 rfl (by rw [l_N_never]; decide) rfl ?_
        refine r_goto 4 i_N_never_35 (by decide) ?_
        rw [nI_1]
        exact ih'
      · skip
        rw [if_pos (decide_eq_true h23)] at ih'
        refine r_iload_n (i := 1) i_N_never_26 rfl rfl ?_
        refine r_iconst (v := (1 : Int32)) i_N_never_27 rfl ?_
        refine r_iload_n (i := 2) i_N_never_28 rfl rfl ?_
        refine r_ishl i_N_never_29 ?_
        refine r_ior i_N_never_30 ?_
        refine r_istore_1 i_N_never_31 (by rw [l_N_never]; decide) rfl ?_
        refine r_iinc_2 (v := (1 : Int32)) i_N_never_32 rfl (by rw [l_N_never]; decide) rfl ?_
        refine r_goto 4 i_N_never_35 (by decide) ?_
        rw [nI_1]
        exact ih'
  refine r_iconst (v := (0 : Int32)) i_N_never_0 rfl ?_
  refine r_istore_1 i_N_never_1 (by rw [l_N_never]; decide) rfl ?_
  refine r_iconst (v := (0 : Int32)) i_N_never_2 rfl ?_
  refine r_istore_2 i_N_never_3 (by rw [l_N_never]; decide) rfl ?_
  exact hloop B 0 (by omega)
def m_weeks (Q : aQ) (v : Int32) : Int32 × aQ := if wi0 v 1 30 = true then ((wkN Q.1 (nP Q) (nB Q) v.toNatClampNeg).1, qT Q (wkN Q.1 (nP Q) (nB Q) v.toNatClampNeg).2) else rfz Q (-2)
theorem wkN_ok {S : aS} {P B : Nat} (h : TOk S) : ∀ i, TOk (wkN S P B i).2
  | 0 => h
  | i + 1 => wk1_ok (wkN_ok h i)
theorem wkN_PB {S : aS} {P B : Nat} : ∀ i, (wkN S P B i).2.1 0 = S.1 0 ∧ (wkN S P B i).2.1 1 = S.1 1 ∧ (wkN S P B i).2.2 2 = S.2 2 ∧ (wkN S P B i).2.2 3 = S.2 3
  | 0 => ⟨rfl, rfl, rfl, rfl⟩
  | i + 1 => by
    obtain ⟨h0, h1, h2, h3⟩ := wkN_PB (S := S) (P := P) (B := B) i
    obtain ⟨g0, g1, g2, g3⟩ := wk1_PB (S := (wkN S P B i).2) (P := P) (B := B)
    exact ⟨g0.trans h0, g1.trans h1, g2.trans h2, g3.trans h3⟩
theorem c_N_weeks {v : Int32} (hC : CW w Q n) (hQ : QOk Q) : Cm G 5 y_N_weeks [.ref 0, .int v] w n (m_weeks Q v) := by
  obtain ⟨D, L, fa, K, Z, hX⟩ := id hC
  obtain ⟨c0, cT, cK, cD, cS, cR, cW, cE, cF, cn⟩ := id hX
  have oT := cT.1
  have oK := cK.1
  have oD := cD.1
  have oS := cS.1
  have oR := cR.1
  have oW := cW.1
  have oE := cE.1
  obtain ⟨P, B, hP, hP7, hB, hB7, hPI⟩ := id hQ.1
  refine Cm.of k_N_weeks l_N_weeks rfl rfl ?_
  unfold m_weeks
  rw [nP_eq hP hP7, nB_eq hB hB7]
  have hloop : ∀ N, N ≤ 30 → ∀ m k, k + m = N → ∀ w1, CW w1 (qT Q (wkN Q.1 P B k).2) n → cFr w w1 → Go G 5 y_N_weeks 21 [some (.ref 0), some (.int (nI N)), some (.int (wkN Q.1 P B k).1), some (.int (nI k))] [] w1 n 0 0 (fun r w' n' => r = some (.int (wkN Q.1 P B N).1) ∧ (CW w' (qT Q (wkN Q.1 P B N).2) n ∧ cFr w w') ∧ n' = n) := by
    intro N hN m
    induction m with
    | zero =>
      intro k hk w1 hC hFF
      have hk : k = N := by omega
      subst hk
      obtain ⟨D, L, fa, K, Z, hX⟩ := id hC
      obtain ⟨c0, cT, cK, cD, cS, cR, cW, cE, cF, cn⟩ := id hX
      have oT := cT.1
      have oK := cK.1
      have oD := cD.1
      have oS := cS.1
      have oR := cR.1
      have oW := cW.1
      have oE := cE.1
      refine r_iload_n (i := 3) i_N_weeks_21 rfl rfl ?_
      refine r_iload_n (i := 1) i_N_weeks_22 rfl rfl ?_
      refine r_icmp_ge 57 i_N_weeks_23 (by decide) (fun h23 => ?_) (fun h23 => (absurd (nI_le (Nat.le_refl _) (by omega)) h23))
      refine r_iload_n (i := 2) i_N_weeks_57 rfl rfl ?_
      refine r_ireturn i_N_weeks_58 t_N_weeks rfl ?_
      exact ⟨rfl, ⟨hC, hFF⟩, rfl⟩
    | succ m ih =>
      intro k hk w1 hC hFF
      have ih' := ih (k + 1) (by omega)
      have e7 : wkN Q.1 P B (k + 1) = ((wkN Q.1 P B k).1 + (wk1 (wkN Q.1 P B k).2 P B).1, (wk1 (wkN Q.1 P B k).2 P B).2) := rfl
      rw [e7] at ih'
      obtain ⟨p0, p1, p2, p3⟩ := wkN_PB (S := Q.1) (P := P) (B := B) k
      have hP' := p0.trans hP
      have hB' := p1.trans hB
      have hPI' : PIn (wkN Q.1 P B k).2 B P := fun b hb => by rw [p2, p3]; exact hPI b hb
      generalize wkN Q.1 P B k = a at *
      obtain ⟨D, L, fa, K, Z, hX⟩ := id hC
      obtain ⟨c0, cT, cK, cD, cS, cR, cW, cE, cF, cn⟩ := id hX
      have oT := cT.1
      have oK := cK.1
      have oD := cD.1
      have oS := cS.1
      have oR := cR.1
      have oW := cW.1
      have oE := cE.1
      unfold wk1 at ih'
      obtain ⟨hE, hE2⟩ := fdr_E (S := a.2) (P := P) (X := K) (Y := K0) B hB7
      rw [← truth_E hE hB7, ← hE.1, ← hE2] at ih'
      refine r_iload_n (i := 3) i_N_weeks_21 rfl rfl ?_
      refine r_iload_n (i := 1) i_N_weeks_22 rfl rfl ?_
      refine r_icmp_ge 57 i_N_weeks_23 (by decide) (fun h23 => (absurd h23 (nI_ge (by omega) (by omega)))) (fun h23 => ?_)
      refine r_aload_n (i := 0) i_N_weeks_26 rfl rfl ?_
      refine r_getf (ci := 0) (T := Fk0) (k := 6) o_N_weeks i_N_weeks_27 x_N_43 rfl (by decide) rfl (by repeat (first | assumption | exact upw_s | refine (upw_n (by omega)).trans ?_)) (by first | assumption | omega) (by rfl) ?_
      refine r_aload_n (i := 0) i_N_weeks_30 rfl rfl ?_
      refine r_getf (ci := 0) (T := Fk0) (k := 0) o_N_weeks i_N_weeks_31 x_N_10 rfl (by decide) rfl (by repeat (first | assumption | exact upw_s | refine (upw_n (by omega)).trans ?_)) (by first | assumption | omega) (by rfl) ?_
      refine m_virtual o_N_weeks k_W_fillByDraws v_W_fillByDraws x_N_248 i_N_weeks_34 o_W_fillByDraws (c_W_fillByDraws cW cT (by omega) hP' hP7 hB' hB7) rfl (rcv_ob (by repeat (first | assumption | exact upw_s | refine (upw_n (by omega)).trans ?_)) rfl (by first | assumption | omega)) rfl (by decide) (Nat.le_of_ble_eq_true rfl) (Nat.zero_le _) (Nat.zero_le _) (fun r1 w2 n1 hp9 => ?_)
      obtain ⟨rfl, ⟨hW2, hT2, hF2⟩, rfl⟩ := hp9
      have uW := hW2.1
      have uT := hT2.1
      have u0 : w2 0 = _ := (hF2 0 (by omega) (by omega)).trans c0
      have hX2 : CX w2 (qT Q (upS a.2 6 (fdr a.2 P K B).2)) D L fa (fdr a.2 P K B).1 Z n1 := ⟨u0, hT2, cK.fr (fun j q1 q2 => hF2 j (by omega) (by omega)), cD.fr (fun j q1 q2 => hF2 j (by omega) (by omega)), cS.fr (fun j q1 q2 => hF2 j (by omega) (by omega)), cR.fr (fun j q1 q2 => hF2 j (by omega) (by omega)), hW2, cE.fr (fun j q1 q2 => hF2 j (by omega) (by omega)), (hF2 43 (by omega) (by omega)).trans cF, cn⟩
      refine r_iload_n (i := 2) i_N_weeks_37 rfl rfl ?_
      refine r_aload_n (i := 0) i_N_weeks_38 rfl rfl ?_
      refine r_getf (ci := 0) (T := Fk0) (k := 6) o_N_weeks i_N_weeks_39 x_N_43 rfl (by decide) rfl (by repeat (first | assumption | exact upw_s | refine (upw_n (by omega)).trans ?_)) (by first | assumption | omega) (by rfl) ?_
      refine r_aload_n (i := 0) i_N_weeks_42 rfl rfl ?_
      refine r_getf (ci := 0) (T := Fk0) (k := 0) o_N_weeks i_N_weeks_43 x_N_10 rfl (by decide) rfl (by repeat (first | assumption | exact upw_s | refine (upw_n (by omega)).trans ?_)) (by first | assumption | omega) (by rfl) ?_
      refine m_virtual o_N_weeks k_W_comeTrue v_W_comeTrue x_N_245 i_N_weeks_46 o_W_comeTrue (c_W_comeTrue hW2 hT2 (by omega) hP7 hB' hB7 (fdr_ok hP7 B hB7) hPI') rfl (rcv_ob (by repeat (first | assumption | exact upw_s | refine (upw_n (by omega)).trans ?_)) rfl (by first | assumption | omega)) rfl (by decide) (Nat.le_of_ble_eq_true rfl) (Nat.zero_le _) (Nat.zero_le _) (fun r1 w3 n1 hp9 => ?_)
      obtain ⟨rfl, ⟨hT3, hF3⟩, rfl⟩ := hp9
      refine r_iadd i_N_weeks_49 ?_
      refine r_istore_2 i_N_weeks_50 (by rw [l_N_weeks]; decide) rfl ?_
      refine r_iinc_3 (v := (1 : Int32)) i_N_weeks_51 rfl (by rw [l_N_weeks]; decide) rfl ?_
      refine r_goto 21 i_N_weeks_54 (by decide) ?_
      rw [nI_1]
      exact ih' w3 (hX2.now hT3 hF3).cw (fun j hj => (hF3 j (by omega)).trans ((hF2 j (by omega) (by omega)).trans (hFF j hj)))
  refine r_iload_n (i := 1) i_N_weeks_0 rfl rfl ?_
  refine r_iconst (v := (1 : Int32)) i_N_weeks_1 rfl ?_
  refine r_bipush (v := (30 : Int32)) i_N_weeks_2 (by decide) ?_
  refine f_static o_N_weeks k_N_isWithin s_N_isWithin x_N_62 i_N_weeks_4 (c_N_isWithin) rfl rfl (by decide) (Nat.le_of_ble_eq_true rfl) ?_
  refine r_if_ne 17 i_N_weeks_7 (by decide) (fun h7 => ?_) (fun h7 => ?_)
  · skip
    have h7 := bI_ne0.mp h7
    try rw [h7]
    refine r_iconst (v := (0 : Int32)) i_N_weeks_17 rfl ?_
    refine r_istore_2 i_N_weeks_18 (by rw [l_N_weeks]; decide) rfl ?_
    refine r_iconst (v := (0 : Int32)) i_N_weeks_19 rfl ?_
    refine r_istore_3 i_N_weeks_20 (by rw [l_N_weeks]; decide) rfl ?_
    have h7' := of_decide_eq_true h7
    obtain ⟨N, hN, e⟩ := nI_of (show ¬ v < 0 from fun q => h7'.1 (Int32.lt_trans q (by decide)))
    subst e
    rw [if_pos rfl, nI_clamp (by omega)]
    have hN30 : N ≤ 30 := Nat.not_lt.mp (fun q => h7'.2 (nI_lt (a := 30) q hN))
    exact hloop N hN30 N 0 (by omega) w hC cFr.rfl
  · skip
    have h7 := bI_eq0.mp h7
    try rw [h7]
    refine r_aload_n (i := 0) i_N_weeks_10 rfl rfl ?_
    refine r_bipush (v := (-2 : Int32)) i_N_weeks_11 (by decide) ?_
    refine m_virtual o_N_weeks k_N_refuse v_N_refuse x_N_66 i_N_weeks_13 o_N_refuse (c_N_refuse hC) rfl (rcv_ob (by repeat (first | assumption | exact upw_s | refine (upw_n (by omega)).trans ?_)) rfl (by first | assumption | omega)) rfl (by decide) (Nat.le_of_ble_eq_true rfl) (Nat.zero_le _) (Nat.zero_le _) (fun rr13 wr13 nr13 hp9 => ?_)
    obtain ⟨rfl, hp9, rfl⟩ := hp9
    refine r_ireturn i_N_weeks_16 t_N_weeks rfl ?_
    first | exact ⟨rfl, hp9, rfl⟩ | exact ⟨rfl, ⟨hC, cFr.rfl⟩, rfl⟩
def hdF (Q : aQ) : Nat → Int32 × Int32
  | 0 => (-1, 0)
  | s + 1 => if ruleR Q.2.2.2.1 (nI s) = 0 ∧ ((hdF Q s).1 = -1 ∨ (hdF Q s).2 < tls Q (nI s) 0) then (nI s, tls Q (nI s) 0) else hdF Q s
def m_head (Q : aQ) : Int32 × aQ := frst Q (hdF Q 8).1
theorem c_N_head (hC : CW w Q n) (hQ : QOk Q) : Cm G 7 y_N_head [.ref 0] w n (m_head Q) := by
  refine Cm.of k_N_head l_N_head rfl rfl ?_
  unfold m_head
  have hloop : ∀ m i, i + m = 8 → ∀ (x : Option Value) (w1 : aW), CW w1 Q n → cFr w w1 → Go G 7 y_N_head 6 [some (.ref 0), some (.int (hdF Q i).1), some (.int (hdF Q i).2), some (.int (nI i)), x] [] w1 n 0 0 (fun r w' n' => r = some (.int (frst Q (hdF Q 8).1).1) ∧ (CW w' (frst Q (hdF Q 8).1).2 n ∧ cFr w w') ∧ n' = n) := by
    intro m
    induction m with
    | zero =>
      intro i hi x w1 hC hFF
      obtain ⟨D, L, fa, K, Z, hX⟩ := id hC
      obtain ⟨c0, cT, cK, cD, cS, cR, cW, cE, cF, cn⟩ := id hX
      have oT := cT.1
      have oK := cK.1
      have oD := cD.1
      have oS := cS.1
      have oR := cR.1
      have oW := cW.1
      have oE := cE.1
      have hi : i = 8 := by omega
      subst hi
      unfold frst
      refine r_iload_n (i := 3) i_N_head_6 rfl rfl ?_
      refine r_bipush (v := (8 : Int32)) i_N_head_7 (by decide) ?_
      refine r_icmp_ge 53 i_N_head_9 (by decide) (fun h9 => ?_) (fun h9 => (absurd (by decide) h9))
      refine r_iload_n (i := 1) i_N_head_53 rfl rfl ?_
      refine r_iconst (v := (-1 : Int32)) i_N_head_54 rfl ?_
      refine r_icmp_ne 67 i_N_head_55 (by decide) (fun h55 => ?_) (fun h55 => ?_)
      · skip
        rw [if_neg h55]
        refine r_iload_n (i := 1) i_N_head_67 rfl rfl ?_
        refine r_ireturn i_N_head_68 t_N_head rfl ?_
        first | exact ⟨rfl, ⟨hp9.1, fun j hj => (hp9.2 j hj).trans (hFF j hj)⟩, rfl⟩ | exact ⟨rfl, ⟨hC, hFF⟩, rfl⟩
      · skip
        rw [if_pos h55]
        refine r_aload_n (i := 0) i_N_head_58 rfl rfl ?_
        refine r_bipush (v := (-5 : Int32)) i_N_head_59 (by decide) ?_
        refine m_virtual o_N_head k_N_refuse v_N_refuse x_N_66 i_N_head_61 o_N_refuse (c_N_refuse hC) rfl (rcv_ob (by repeat (first | assumption | exact upw_s | refine (upw_n (by omega)).trans ?_)) rfl (by first | assumption | omega)) rfl (by decide) (Nat.le_of_ble_eq_true rfl) (Nat.zero_le _) (Nat.zero_le _) (fun rr61 wr61 nr61 hp9 => ?_)
        obtain ⟨rfl, hp9, rfl⟩ := hp9
        refine r_goto 68 i_N_head_64 (by decide) ?_
        refine r_ireturn i_N_head_68 t_N_head rfl ?_
        first | exact ⟨rfl, ⟨hp9.1, fun j hj => (hp9.2 j hj).trans (hFF j hj)⟩, rfl⟩ | exact ⟨rfl, ⟨hC, hFF⟩, rfl⟩
    | succ m ih =>
      intro i hi x w1 hC hFF
      obtain ⟨D, L, fa, K, Z, hX⟩ := id hC
      obtain ⟨c0, cT, cK, cD, cS, cR, cW, cE, cF, cn⟩ := id hX
      have oT := cT.1
      have oK := cK.1
      have oD := cD.1
      have oS := cS.1
      have oR := cR.1
      have oW := cW.1
      have oE := cE.1
      have ih' := ih (i + 1) (by omega)
      have e7 : hdF Q (i + 1) = if ruleR Q.2.2.2.1 (nI i) = 0 ∧ ((hdF Q i).1 = -1 ∨ (hdF Q i).2 < tls Q (nI i) 0) then (nI i, tls Q (nI i) 0) else hdF Q i := rfl
      rw [e7] at ih'
      generalize hdF Q i = a at *
      refine r_iload_n (i := 3) i_N_head_6 rfl rfl ?_
      refine r_bipush (v := (8 : Int32)) i_N_head_7 (by decide) ?_
      refine r_icmp_ge 53 i_N_head_9 (by decide) (fun h9 => (absurd h9 (nI_ge (b := 8) (by omega) (by omega)))) (fun h9 => ?_)
      refine r_aload_n (i := 0) i_N_head_12 rfl rfl ?_
      refine r_getf (ci := 0) (T := Fk0) (k := 4) o_N_head i_N_head_13 x_N_29 rfl (by decide) rfl (by repeat (first | assumption | exact upw_s | refine (upw_n (by omega)).trans ?_)) (by first | assumption | omega) (by rfl) ?_
      refine r_iload_n (i := 3) i_N_head_16 rfl rfl ?_
      refine f_virtual o_N_head k_S_ruleRefusal v_S_ruleRefusal x_N_104 i_N_head_17 o_S_ruleRefusal (c_S_ruleRefusal cS) rfl (rcv_ob (by repeat (first | assumption | exact upw_s | refine (upw_n (by omega)).trans ?_)) rfl (by first | assumption | omega)) rfl (by decide) (Nat.le_of_ble_eq_true rfl) ?_
      refine r_if_ne 47 i_N_head_20 (by decide) (fun h20 => ?_) (fun h20 => ?_)
      · skip
        rw [if_neg (fun q => h20 q.1)] at ih'
        refine r_iinc_3 (v := (1 : Int32)) i_N_head_47 rfl (by rw [l_N_head]; decide) rfl ?_
        refine r_goto 6 i_N_head_50 (by decide) ?_
        rw [nI_1]
        first | exact ih' _ w2 hC2 hFF2 | exact ih' _ w1 hC hFF
      · skip
        refine r_aload_n (i := 0) i_N_head_23 rfl rfl ?_
        refine r_iload_n (i := 3) i_N_head_24 rfl rfl ?_
        refine r_iconst (v := (0 : Int32)) i_N_head_25 rfl ?_
        refine m_virtual o_N_head k_N_tellByShelf v_N_tellByShelf x_N_238 i_N_head_26 o_N_tellByShelf (c_N_tellByShelf hC hQ h20) rfl (rcv_ob (by repeat (first | assumption | exact upw_s | refine (upw_n (by omega)).trans ?_)) rfl (by first | assumption | omega)) rfl (by decide) (Nat.le_of_ble_eq_true rfl) (Nat.zero_le _) (Nat.zero_le _) (fun r1 w2 n1 hp9 => ?_)
        obtain ⟨rfl, ⟨hC2, hF2⟩, rfl⟩ := hp9
        have hFF2 : cFr w w2 := fun j hj => (hF2 j hj).trans (hFF j hj)
        refine r_istore_4 i_N_head_29 (by rw [l_N_head]; decide) rfl ?_
        refine r_iload_n (i := 1) i_N_head_31 rfl rfl ?_
        refine r_iconst (v := (-1 : Int32)) i_N_head_32 rfl ?_
        refine r_icmp_eq 42 i_N_head_33 (by decide) (fun h33 => ?_) (fun h33 => ?_)
        · skip
          rw [if_pos ⟨h20, Or.inl h33⟩] at ih'
          refine r_iload_n (i := 3) i_N_head_42 rfl rfl ?_
          refine r_istore_1 i_N_head_43 (by rw [l_N_head]; decide) rfl ?_
          refine r_iload (i := 4) i_N_head_44 rfl ?_
          refine r_istore_2 i_N_head_46 (by rw [l_N_head]; decide) rfl ?_
          refine r_iinc_3 (v := (1 : Int32)) i_N_head_47 rfl (by rw [l_N_head]; decide) rfl ?_
          refine r_goto 6 i_N_head_50 (by decide) ?_
          rw [nI_1]
          first | exact ih' _ w2 hC2 hFF2 | exact ih' _ w1 hC hFF
        · skip
          refine r_iload (i := 4) i_N_head_36 rfl ?_
          refine r_iload_n (i := 2) i_N_head_38 rfl rfl ?_
          refine r_icmp_le 47 i_N_head_39 (by decide) (fun h39 => ?_) (fun h39 => ?_)
          · skip
            rw [if_neg (fun q => q.2.elim (fun q => h33 q) (fun q => absurd q (Int32.not_lt.mpr h39)))] at ih'
            refine r_iinc_3 (v := (1 : Int32)) i_N_head_47 rfl (by rw [l_N_head]; decide) rfl ?_
            refine r_goto 6 i_N_head_50 (by decide) ?_
            rw [nI_1]
            first | exact ih' _ w2 hC2 hFF2 | exact ih' _ w1 hC hFF
          · skip
            rw [if_pos ⟨h20, Or.inr (Int32.not_le.mp h39)⟩] at ih'
            refine r_iload_n (i := 3) i_N_head_42 rfl rfl ?_
            refine r_istore_1 i_N_head_43 (by rw [l_N_head]; decide) rfl ?_
            refine r_iload (i := 4) i_N_head_44 rfl ?_
            refine r_istore_2 i_N_head_46 (by rw [l_N_head]; decide) rfl ?_
            refine r_iinc_3 (v := (1 : Int32)) i_N_head_47 rfl (by rw [l_N_head]; decide) rfl ?_
            refine r_goto 6 i_N_head_50 (by decide) ?_
            rw [nI_1]
            first | exact ih' _ w2 hC2 hFF2 | exact ih' _ w1 hC hFF
  refine r_iconst (v := (-1 : Int32)) i_N_head_0 rfl ?_
  refine r_istore_1 i_N_head_1 (by rw [l_N_head]; decide) rfl ?_
  refine r_iconst (v := (0 : Int32)) i_N_head_2 rfl ?_
  refine r_istore_2 i_N_head_3 (by rw [l_N_head]; decide) rfl ?_
  refine r_iconst (v := (0 : Int32)) i_N_head_4 rfl ?_
  refine r_istore_3 i_N_head_5 (by rw [l_N_head]; decide) rfl ?_
  exact hloop 8 0 (by omega) none w hC cFr.rfl
end PUBG
