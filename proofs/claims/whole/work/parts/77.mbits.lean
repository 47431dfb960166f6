-- THE REFERENCE: more small ones
def onlM (M : aM) (b : Nat) (x : Int32) : Nat → Bool := fun t => hsB x (nI t) && gd (tM M) b t
def mildO (M : aM) (b : Nat) (x : Int32) (P : Nat) : Int32 := pkF (onlM M b x) (ltM M b) P
def iuM (a q : Int32) : Bool := decide (q = 0) || (decide (a = q) || (decide (q = 1) && (decide (a = 2) || (decide (a = 3) || decide (a = 5)))))
def hatM (M : aM) (t : Nat) : Nat → Int32
  | 0 => 0
  | b + 1 => if gd (tM M) b t = true then hatM M t b + 1 else hatM M t b
section MBITS
variable {G : gE} {w : aW} {o n : Nat} {M : aM}
theorem c_M_mildestOf {b P : Nat} {x : Int32} (h : MW w o M n) (hb : b < 7) (hP : M.1 10 = nI P) (hP7 : P ≤ 7) : Fn G 2 y_M_mildestOf [.ref o, .int (nI b), .int x] w n (some (.int (mildO M b x P))) w := by
  obtain ⟨m0, mA', mL', m4, m20, m28, mn'⟩ := id h
  obtain ⟨r1, r2, r3, r4, r5⟩ := row_of h hb
  refine Fn.of k_M_mildestOf l_M_mildestOf rfl rfl ?_
  unfold mildO
  have hloop : ∀ m t, t + m = P → Go G 2 y_M_mildestOf 5 [some (.ref o), some (.int (nI b)), some (.int x), some (.int (pkF (onlM M b x) (ltM M b) t)), some (.int (nI t))] [] w n 0 0 (fun r1 w1 n1 => r1 = some (.int (pkF (onlM M b x) (ltM M b) P)) ∧ w1 = w ∧ n1 = n) := by
    intro m
    induction m with
    | zero =>
      intro t ht
      have ht : t = P := by omega
      subst ht
      refine r_iload (i := 4) i_M_mildestOf_5 rfl ?_
      refine r_aload_n (i := 0) i_M_mildestOf_7 rfl rfl ?_
      refine r_getf (ci := 6) (T := Fk6) (k := 10) o_M_mildestOf i_M_mildestOf_8 x_M_73 rfl (by decide) rfl (by repeat (first | assumption | exact upw_s | refine (upw_n (by omega)).trans ?_)) (by first | assumption | omega) (by rfl) ?_
      refine r_icmp_ge 71 i_M_mildestOf_11 (by decide) (fun h11 => ?_) (fun h11 => (absurd (by rw [hP]; exact nI_le (Nat.le_refl _) (by omega)) h11))
      refine r_iload_n (i := 3) i_M_mildestOf_71 rfl rfl ?_
      refine r_ireturn i_M_mildestOf_72 t_M_mildestOf rfl ?_
      exact ⟨rfl, rfl, rfl⟩
    | succ m ih =>
      intro t ht
      have ih' := ih (t + 1) (by omega)
      have hc := pkF_cases (onlM M b x) (ltM M b) t
      have e7 : pkF (onlM M b x) (ltM M b) (t + 1) = if (hsB x (nI t) && gd (tM M) b t) && (decide (pkF (onlM M b x) (ltM M b) t = -1) || decide (M.2.1 (29 + b) t < M.2.1 (29 + b) (pkF (onlM M b x) (ltM M b) t).toNatClampNeg)) then nI t else pkF (onlM M b x) (ltM M b) t := rfl
      rw [e7] at ih'
      generalize pkF (onlM M b x) (ltM M b) t = p at *
      have it : vp_in (nI t) 7 := vp_in_nI (by omega) (by decide)
      have e8 : (!decide ((x >>> (nI t &&& 31)) &&& 1 = 0)) = hsB x (nI t) := rfl
      refine r_iload (i := 4) i_M_mildestOf_5 rfl ?_
      refine r_aload_n (i := 0) i_M_mildestOf_7 rfl rfl ?_
      refine r_getf (ci := 6) (T := Fk6) (k := 10) o_M_mildestOf i_M_mildestOf_8 x_M_73 rfl (by decide) rfl (by repeat (first | assumption | exact upw_s | refine (upw_n (by omega)).trans ?_)) (by first | assumption | omega) (by rfl) ?_
      refine r_icmp_ge 71 i_M_mildestOf_11 (by decide) (fun h11 => (absurd h11 (by rw [hP]; exact nI_ge (by omega) (by omega)))) (fun h11 => ?_)
      refine r_iload_n (i := 2) i_M_mildestOf_14 rfl rfl ?_
      refine r_iload (i := 4) i_M_mildestOf_15 rfl ?_
      refine f_static o_M_mildestOf k_M_has s_M_has x_M_122 i_M_mildestOf_17 (c_M_has) rfl rfl (by decide) (Nat.le_of_ble_eq_true rfl) ?_
      rw [e8]
      refine r_if_eq 63 i_M_mildestOf_20 (by decide) (fun h20 => ?_) (fun h20 => ?_)
      · skip
        have h20 := bI_eq0.mp h20
        rw [h20, Bool.false_and, Bool.false_and, if_neg (by decide)] at ih'
        refine r_iload_n (i := 3) i_M_mildestOf_63 rfl rfl ?_
        refine r_istore_3 i_M_mildestOf_64 (by rw [l_M_mildestOf]; decide) rfl ?_
        refine r_iinc_4 (v := (1 : Int32)) i_M_mildestOf_65 rfl (by rw [l_M_mildestOf]; decide) rfl ?_
        refine r_goto 5 i_M_mildestOf_68 (by decide) ?_
        rw [nI_1]
        exact ih'
      · skip
        have h20 := bI_ne0.mp h20
        rw [h20, Bool.true_and] at ih'
        refine r_aload_n (i := 0) i_M_mildestOf_23 rfl rfl ?_
        refine r_iload_n (i := 1) i_M_mildestOf_24 rfl rfl ?_
        refine r_iload (i := 4) i_M_mildestOf_25 rfl ?_
        refine f_virtual o_M_mildestOf k_M_isGood v_M_isGood x_M_243 i_M_mildestOf_27 o_M_isGood (c_M_isGood h hb (by omega)) rfl (rcv_ob (by repeat (first | assumption | exact upw_s | refine (upw_n (by omega)).trans ?_)) rfl (by first | assumption | omega)) rfl (by decide) (Nat.le_of_ble_eq_true rfl) ?_
        refine r_if_eq 63 i_M_mildestOf_30 (by decide) (fun h30 => ?_) (fun h30 => ?_)
        · skip
          have h30 := bI_eq0.mp h30
          rw [h30, Bool.false_and, if_neg (by decide)] at ih'
          refine r_iload_n (i := 3) i_M_mildestOf_63 rfl rfl ?_
          refine r_istore_3 i_M_mildestOf_64 (by rw [l_M_mildestOf]; decide) rfl ?_
          refine r_iinc_4 (v := (1 : Int32)) i_M_mildestOf_65 rfl (by rw [l_M_mildestOf]; decide) rfl ?_
          refine r_goto 5 i_M_mildestOf_68 (by decide) ?_
          rw [nI_1]
          exact ih'
        · skip
          have h30 := bI_ne0.mp h30
          rw [h30, Bool.true_and] at ih'
          refine r_iload_n (i := 3) i_M_mildestOf_33 rfl rfl ?_
          refine r_iconst (v := (-1 : Int32)) i_M_mildestOf_34 rfl ?_
          refine r_icmp_eq 58 i_M_mildestOf_35 (by decide) (fun h35 => ?_) (fun h35 => ?_)
          · skip
            rw [decide_eq_true h35, Bool.true_or, if_pos rfl] at ih'
            refine r_iload (i := 4) i_M_mildestOf_58 rfl ?_
            refine r_goto 64 i_M_mildestOf_60 (by decide) ?_
            refine r_istore_3 i_M_mildestOf_64 (by rw [l_M_mildestOf]; decide) rfl ?_
            refine r_iinc_4 (v := (1 : Int32)) i_M_mildestOf_65 rfl (by rw [l_M_mildestOf]; decide) rfl ?_
            refine r_goto 5 i_M_mildestOf_68 (by decide) ?_
            rw [nI_1]
            exact ih'
          · skip
            rw [decide_eq_false h35, Bool.false_or] at ih'
            obtain ⟨i, hi, -, rfl⟩ := hc.resolve_left h35
            have ii : vp_in (nI i) 7 := vp_in_nI (by omega) (by decide)
            rw [nI_clamp (by omega)] at ih'
            refine r_aload_n (i := 0) i_M_mildestOf_38 rfl rfl ?_
            refine r_getf (ci := 6) (T := Fk6) (k := 15) o_M_mildestOf i_M_mildestOf_39 x_M_51 rfl (by decide) rfl (by repeat (first | assumption | exact upw_s | refine (upw_n (by omega)).trans ?_)) (by first | assumption | omega) (by rfl) ?_
            refine r_iload_n (i := 1) i_M_mildestOf_42 rfl rfl ?_
            refine r_aald i_M_mildestOf_43 (by repeat (first | assumption | exact upw_s | refine (upw_n (by omega)).trans ?_)) (by decide) (by first | assumption | omega) (by assumption) r4 ?_
            refine r_iload (i := 4) i_M_mildestOf_44 rfl ?_
            refine r_iald i_M_mildestOf_46 (by repeat (first | assumption | exact upw_s | refine (upw_n (by omega)).trans ?_)) (by first | assumption | omega) (by assumption) ?_
            refine r_aload_n (i := 0) i_M_mildestOf_47 rfl rfl ?_
            refine r_getf (ci := 6) (T := Fk6) (k := 15) o_M_mildestOf i_M_mildestOf_48 x_M_51 rfl (by decide) rfl (by repeat (first | assumption | exact upw_s | refine (upw_n (by omega)).trans ?_)) (by first | assumption | omega) (by rfl) ?_
            refine r_iload_n (i := 1) i_M_mildestOf_51 rfl rfl ?_
            refine r_aald i_M_mildestOf_52 (by repeat (first | assumption | exact upw_s | refine (upw_n (by omega)).trans ?_)) (by decide) (by first | assumption | omega) (by assumption) r4 ?_
            refine r_iload_n (i := 3) i_M_mildestOf_53 rfl rfl ?_
            refine r_iald i_M_mildestOf_54 (by repeat (first | assumption | exact upw_s | refine (upw_n (by omega)).trans ?_)) (by first | assumption | omega) (by assumption) ?_
            rw [nI_clamp (by omega), nI_clamp (by omega)]
            refine r_icmp_ge 63 i_M_mildestOf_55 (by decide) (fun h55 => ?_) (fun h55 => ?_)
            · skip
              rw [if_neg (fun q => absurd (of_decide_eq_true q) (Int32.not_lt.mpr h55))] at ih'
              refine r_iload_n (i := 3) i_M_mildestOf_63 rfl rfl ?_
              refine r_istore_3 i_M_mildestOf_64 (by rw [l_M_mildestOf]; decide) rfl ?_
              refine r_iinc_4 (v := (1 : Int32)) i_M_mildestOf_65 rfl (by rw [l_M_mildestOf]; decide) rfl ?_
              refine r_goto 5 i_M_mildestOf_68 (by decide) ?_
              rw [nI_1]
              exact ih'
            · skip
              rw [if_pos (decide_eq_true (Int32.not_le.mp h55))] at ih'
              refine r_iload (i := 4) i_M_mildestOf_58 rfl ?_
              refine r_goto 64 i_M_mildestOf_60 (by decide) ?_
              refine r_istore_3 i_M_mildestOf_64 (by rw [l_M_mildestOf]; decide) rfl ?_
              refine r_iinc_4 (v := (1 : Int32)) i_M_mildestOf_65 rfl (by rw [l_M_mildestOf]; decide) rfl ?_
              refine r_goto 5 i_M_mildestOf_68 (by decide) ?_
              rw [nI_1]
              exact ih'
  refine r_iconst (v := (-1 : Int32)) i_M_mildestOf_0 rfl ?_
  refine r_istore_3 i_M_mildestOf_1 (by rw [l_M_mildestOf]; decide) rfl ?_
  refine r_iconst (v := (0 : Int32)) i_M_mildestOf_2 rfl ?_
  refine r_istore_4 i_M_mildestOf_3 (by rw [l_M_mildestOf]; decide) rfl ?_
  exact hloop P 0 (by omega)
theorem c_M_isUnder {a q : Int32} : Fn G 0 y_M_isUnder [.int a, .int q] w n (some (.int (bI (iuM a q)))) w := by
  refine Fn.of k_M_isUnder l_M_isUnder rfl rfl ?_
  unfold iuM
  refine r_iload_n (i := 1) i_M_isUnder_0 rfl rfl ?_
  refine r_if_eq 29 i_M_isUnder_1 (by decide) (fun h1 => ?_) (fun h1 => ?_)
  · skip
    rw [decide_eq_true h1]
    refine r_iconst (v := (1 : Int32)) i_M_isUnder_29 rfl ?_
    refine r_goto 34 i_M_isUnder_30 (by decide) ?_
    refine r_ireturn i_M_isUnder_34 t_M_isUnder (by first | rfl | exact nar_bI _) ?_
    exact ⟨rfl, rfl, rfl⟩
  · skip
    rw [decide_eq_false h1]
    refine r_iload_n (i := 0) i_M_isUnder_4 rfl rfl ?_
    refine r_iload_n (i := 1) i_M_isUnder_5 rfl rfl ?_
    refine r_icmp_eq 29 i_M_isUnder_6 (by decide) (fun h6 => ?_) (fun h6 => ?_)
    · skip
      rw [decide_eq_true h6]
      refine r_iconst (v := (1 : Int32)) i_M_isUnder_29 rfl ?_
      refine r_goto 34 i_M_isUnder_30 (by decide) ?_
      refine r_ireturn i_M_isUnder_34 t_M_isUnder (by first | rfl | exact nar_bI _) ?_
      exact ⟨rfl, rfl, rfl⟩
    · skip
      rw [decide_eq_false h6]
      refine r_iload_n (i := 1) i_M_isUnder_9 rfl rfl ?_
      refine r_iconst (v := (1 : Int32)) i_M_isUnder_10 rfl ?_
      refine r_icmp_ne 33 i_M_isUnder_11 (by decide) (fun h11 => ?_) (fun h11 => ?_)
      · skip
        rw [decide_eq_false h11]
        refine r_iconst (v := (0 : Int32)) i_M_isUnder_33 rfl ?_
        refine r_ireturn i_M_isUnder_34 t_M_isUnder (by first | rfl | exact nar_bI _) ?_
        exact ⟨rfl, rfl, rfl⟩
      · skip
        rw [decide_eq_true h11]
        refine r_iload_n (i := 0) i_M_isUnder_14 rfl rfl ?_
        refine r_iconst (v := (2 : Int32)) i_M_isUnder_15 rfl ?_
        refine r_icmp_eq 29 i_M_isUnder_16 (by decide) (fun h16 => ?_) (fun h16 => ?_)
        · skip
          rw [decide_eq_true h16]
          refine r_iconst (v := (1 : Int32)) i_M_isUnder_29 rfl ?_
          refine r_goto 34 i_M_isUnder_30 (by decide) ?_
          refine r_ireturn i_M_isUnder_34 t_M_isUnder (by first | rfl | exact nar_bI _) ?_
          exact ⟨rfl, rfl, rfl⟩
        · skip
          rw [decide_eq_false h16]
          refine r_iload_n (i := 0) i_M_isUnder_19 rfl rfl ?_
          refine r_iconst (v := (3 : Int32)) i_M_isUnder_20 rfl ?_
          refine r_icmp_eq 29 i_M_isUnder_21 (by decide) (fun h21 => ?_) (fun h21 => ?_)
          · skip
            rw [decide_eq_true h21]
            refine r_iconst (v := (1 : Int32)) i_M_isUnder_29 rfl ?_
            refine r_goto 34 i_M_isUnder_30 (by decide) ?_
            refine r_ireturn i_M_isUnder_34 t_M_isUnder (by first | rfl | exact nar_bI _) ?_
            exact ⟨rfl, rfl, rfl⟩
          · skip
            rw [decide_eq_false h21]
            refine r_iload_n (i := 0) i_M_isUnder_24 rfl rfl ?_
            refine r_iconst (v := (5 : Int32)) i_M_isUnder_25 rfl ?_
            refine r_icmp_ne 33 i_M_isUnder_26 (by decide) (fun h26 => ?_) (fun h26 => ?_)
            · skip
              rw [decide_eq_false h26]
              refine r_iconst (v := (0 : Int32)) i_M_isUnder_33 rfl ?_
              refine r_ireturn i_M_isUnder_34 t_M_isUnder (by first | rfl | exact nar_bI _) ?_
              exact ⟨rfl, rfl, rfl⟩
            · skip
              rw [decide_eq_true h26]
              refine r_iconst (v := (1 : Int32)) i_M_isUnder_29 rfl ?_
              refine r_goto 34 i_M_isUnder_30 (by decide) ?_
              refine r_ireturn i_M_isUnder_34 t_M_isUnder (by first | rfl | exact nar_bI _) ?_
              exact ⟨rfl, rfl, rfl⟩
theorem c_M_all {P : Nat} (h : MW w o M n) (hP : M.1 10 = nI P) : Fn G 0 y_M_all [.ref o] w n (some (.int (allW P))) w := by
  obtain ⟨m0, mA', mL', m4, m20, m28, mn'⟩ := id h
  refine Fn.of k_M_all l_M_all rfl rfl ?_
  refine r_iconst (v := (1 : Int32)) i_M_all_0 rfl ?_
  refine r_aload_n (i := 0) i_M_all_1 rfl rfl ?_
  refine r_getf (ci := 6) (T := Fk6) (k := 10) o_M_all i_M_all_2 x_M_73 rfl (by decide) rfl (by repeat (first | assumption | exact upw_s | refine (upw_n (by omega)).trans ?_)) (by first | assumption | omega) (by rfl) ?_
  refine r_ishl i_M_all_5 ?_
  refine r_iconst (v := (1 : Int32)) i_M_all_6 rfl ?_
  refine r_isub i_M_all_7 ?_
  refine r_ireturn i_M_all_8 t_M_all rfl ?_
  exact ⟨by rw [hP]; rfl, rfl, rfl⟩
theorem c_M_saidBy {b t : Nat} {f : Int32} (h : MW w o M n) (hb : b < 7) (ht : t < 7) : Fn G 2 y_M_saidBy [.ref o, .int (nI b), .int (nI t), .int f] w n (some (.int ((10 - M.2.1 36 2) * valN (tM M) b t - M.2.1 36 2 * f))) w := by
  obtain ⟨m0, mA', mL', m4, m20, m28, mn'⟩ := id h
  obtain ⟨i0, i1, i2, i3⟩ := v4
  have a36 : w (o + 36) = ai 4 (M.2.1 36) := mA' 36 rfl
  refine Fn.of k_M_saidBy l_M_saidBy rfl rfl ?_
  refine r_bipush (v := (10 : Int32)) i_M_saidBy_0 (by decide) ?_
  refine r_aload_n (i := 0) i_M_saidBy_2 rfl rfl ?_
  refine r_getf (ci := 6) (T := Fk6) (k := 16) o_M_saidBy i_M_saidBy_3 x_M_54 rfl (by decide) rfl (by repeat (first | assumption | exact upw_s | refine (upw_n (by omega)).trans ?_)) (by first | assumption | omega) (by rfl) ?_
  refine r_iconst (v := (2 : Int32)) i_M_saidBy_6 rfl ?_
  refine r_iald i_M_saidBy_7 (by repeat (first | assumption | exact upw_s | refine (upw_n (by omega)).trans ?_)) (by first | assumption | omega) (by assumption) ?_
  refine r_isub i_M_saidBy_8 ?_
  refine r_aload_n (i := 0) i_M_saidBy_9 rfl rfl ?_
  refine r_iload_n (i := 1) i_M_saidBy_10 rfl rfl ?_
  refine r_iload_n (i := 2) i_M_saidBy_11 rfl rfl ?_
  refine f_virtual o_M_saidBy k_M_valueOf v_M_valueOf x_M_251 i_M_saidBy_12 o_M_valueOf (c_M_valueOf h hb ht) rfl (rcv_ob (by repeat (first | assumption | exact upw_s | refine (upw_n (by omega)).trans ?_)) rfl (by first | assumption | omega)) rfl (by decide) (Nat.le_of_ble_eq_true rfl) ?_
  refine r_imul i_M_saidBy_15 ?_
  refine r_aload_n (i := 0) i_M_saidBy_16 rfl rfl ?_
  refine r_getf (ci := 6) (T := Fk6) (k := 16) o_M_saidBy i_M_saidBy_17 x_M_54 rfl (by decide) rfl (by repeat (first | assumption | exact upw_s | refine (upw_n (by omega)).trans ?_)) (by first | assumption | omega) (by rfl) ?_
  refine r_iconst (v := (2 : Int32)) i_M_saidBy_20 rfl ?_
  refine r_iald i_M_saidBy_21 (by repeat (first | assumption | exact upw_s | refine (upw_n (by omega)).trans ?_)) (by first | assumption | omega) (by assumption) ?_
  refine r_iload_n (i := 3) i_M_saidBy_22 rfl rfl ?_
  refine r_imul i_M_saidBy_23 ?_
  refine r_isub i_M_saidBy_24 ?_
  refine r_ireturn i_M_saidBy_25 t_M_saidBy rfl ?_
  exact ⟨rfl, rfl, rfl⟩
theorem c_M_hates {t B : Nat} (h : MW w o M n) (ht : t < 7) (hB : M.1 13 = nI B) (hB7 : B ≤ 7) : Fn G 2 y_M_hates [.ref o, .int (nI t)] w n (some (.int (hatM M t B))) w := by
  obtain ⟨m0, mA', mL', m4, m20, m28, mn'⟩ := id h
  refine Fn.of k_M_hates l_M_hates rfl rfl ?_
  have hloop : ∀ m b, b + m = B → Go G 2 y_M_hates 4 [some (.ref o), some (.int (nI t)), some (.int (hatM M t b)), some (.int (nI b))] [] w n 0 0 (fun r1 w1 n1 => r1 = some (.int (hatM M t B)) ∧ w1 = w ∧ n1 = n) := by
    intro m
    induction m with
    | zero =>
      intro b hb
      have hb : b = B := by omega
      subst hb
      refine r_iload_n (i := 3) i_M_hates_4 rfl rfl ?_
      refine r_aload_n (i := 0) i_M_hates_5 rfl rfl ?_
      refine r_getf (ci := 6) (T := Fk6) (k := 13) o_M_hates i_M_hates_6 x_M_80 rfl (by decide) rfl (by repeat (first | assumption | exact upw_s | refine (upw_n (by omega)).trans ?_)) (by first | assumption | omega) (by rfl) ?_
      refine r_icmp_ge 35 i_M_hates_9 (by decide) (fun h9 => ?_) (fun h9 => (absurd (by rw [hB]; exact nI_le (Nat.le_refl _) (by omega)) h9))
      refine r_iload_n (i := 2) i_M_hates_35 rfl rfl ?_
      refine r_ireturn i_M_hates_36 t_M_hates rfl ?_
      exact ⟨rfl, rfl, rfl⟩
    | succ m ih =>
      intro b hb
      have ih' := ih (b + 1) (by omega)
      have e7 : hatM M t (b + 1) = if gd (tM M) b t = true then hatM M t b + 1 else hatM M t b := rfl
      rw [e7] at ih'
      refine r_iload_n (i := 3) i_M_hates_4 rfl rfl ?_
      refine r_aload_n (i := 0) i_M_hates_5 rfl rfl ?_
      refine r_getf (ci := 6) (T := Fk6) (k := 13) o_M_hates i_M_hates_6 x_M_80 rfl (by decide) rfl (by repeat (first | assumption | exact upw_s | refine (upw_n (by omega)).trans ?_)) (by first | assumption | omega) (by rfl) ?_
      refine r_icmp_ge 35 i_M_hates_9 (by decide) (fun h9 => (absurd h9 (by rw [hB]; exact nI_ge (by omega) (by omega)))) (fun h9 => ?_)
      refine r_iload_n (i := 2) i_M_hates_12 rfl rfl ?_
      refine r_aload_n (i := 0) i_M_hates_13 rfl rfl ?_
      refine r_iload_n (i := 3) i_M_hates_14 rfl rfl ?_
      refine r_iload_n (i := 1) i_M_hates_15 rfl rfl ?_
      refine f_virtual o_M_hates k_M_isGood v_M_isGood x_M_243 i_M_hates_16 o_M_isGood (c_M_isGood h (by omega) ht) rfl (rcv_ob (by repeat (first | assumption | exact upw_s | refine (upw_n (by omega)).trans ?_)) rfl (by first | assumption | omega)) rfl (by decide) (Nat.le_of_ble_eq_true rfl) ?_
      refine r_if_eq 26 i_M_hates_19 (by decide) (fun h19 => ?_) (fun h19 => ?_)
      · skip
        have h19 := bI_eq0.mp h19
        rw [if_neg (by rw [h19]; decide)] at ih'
        refine r_iconst (v := (0 : Int32)) i_M_hates_26 rfl ?_
        refine r_iadd i_M_hates_27 ?_
        refine r_istore_2 i_M_hates_28 (by rw [l_M_hates]; decide) rfl ?_
        refine r_iinc_3 (v := (1 : Int32)) i_M_hates_29 rfl (by rw [l_M_hates]; decide) rfl ?_
        refine r_goto 4 i_M_hates_32 (by decide) ?_
        rw [nI_1]
        first | exact ih' | (rw [Int32.add_zero]; exact ih')
      · skip
        have h19 := bI_ne0.mp h19
        rw [if_pos h19] at ih'
        refine r_iconst (v := (1 : Int32)) i_M_hates_22 rfl ?_
        refine r_goto 27 i_M_hates_23 (by decide) ?_
        refine r_iadd i_M_hates_27 ?_
        refine r_istore_2 i_M_hates_28 (by rw [l_M_hates]; decide) rfl ?_
        refine r_iinc_3 (v := (1 : Int32)) i_M_hates_29 rfl (by rw [l_M_hates]; decide) rfl ?_
        refine r_goto 4 i_M_hates_32 (by decide) ?_
        rw [nI_1]
        first | exact ih' | (rw [Int32.add_zero]; exact ih')
  refine r_iconst (v := (0 : Int32)) i_M_hates_0 rfl ?_
  refine r_istore_2 i_M_hates_1 (by rw [l_M_hates]; decide) rfl ?_
  refine r_iconst (v := (0 : Int32)) i_M_hates_2 rfl ?_
  refine r_istore_3 i_M_hates_3 (by rw [l_M_hates]; decide) rfl ?_
  exact hloop B 0 (by omega)
end MBITS
