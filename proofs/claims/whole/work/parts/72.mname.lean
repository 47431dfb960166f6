-- THE REFERENCE: the mildest, the good ones, refusals
def pkF (ok : Nat → Bool) (better : Nat → Nat → Bool) : Nat → Int32
  | 0 => -1
  | t + 1 => if ok t && (decide (pkF ok better t = -1) || better t (pkF ok better t).toNatClampNeg) then nI t else pkF ok better t
theorem pkF_cases (ok : Nat → Bool) (better : Nat → Nat → Bool) : ∀ t, pkF ok better t = -1 ∨ ∃ i, i < t ∧ ok i = true ∧ pkF ok better t = nI i
  | 0 => Or.inl rfl
  | t + 1 => by
    unfold pkF
    split
    · rename_i q
      rw [Bool.and_eq_true] at q
      exact Or.inr ⟨t, by omega, q.1, rfl⟩
    · rcases pkF_cases ok better t with e | ⟨i, hi, ho, e⟩
      · exact Or.inl e
      · exact Or.inr ⟨i, by omega, ho, e⟩
def ltM (M : aM) (b : Nat) : Nat → Nat → Bool := fun t i => decide (M.2.1 (29 + b) t < M.2.1 (29 + b) i)
def mildM (M : aM) (b : Nat) (x : Int32) (P : Nat) : Int32 := pkF (fun t => mayM M b t x) (ltM M b) P
section MNAME
variable {G : gE} {w : aW} {o n : Nat} {M : aM}
theorem c_M_mildest {b P : Nat} {x : Int32} (h : MW w o M n) (hb : b < 7) (hP : M.1 10 = nI P) (hP7 : P ≤ 7) : Fn G 3 y_M_mildest [.ref o, .int (nI b), .int x] w n (some (.int (mildM M b x P))) w := by
  obtain ⟨m0, mA', mL', m4, m20, m28, mn'⟩ := id h
  obtain ⟨r1, r2, r3, r4, r5⟩ := row_of h hb
  refine Fn.of k_M_mildest l_M_mildest rfl rfl ?_
  unfold mildM
  have hloop : ∀ m t, t + m = P → Go G 3 y_M_mildest 5 [some (.ref o), some (.int (nI b)), some (.int x), some (.int (pkF (fun t => mayM M b t x) (ltM M b) t)), some (.int (nI t))] [] w n 0 0 (fun r1 w1 n1 => r1 = some (.int (pkF (fun t => mayM M b t x) (ltM M b) P)) ∧ w1 = w ∧ n1 = n) := by
    intro m
    induction m with
    | zero =>
      intro t ht
      have ht : t = P := by omega
      subst ht
      refine r_iload (i := 4) i_M_mildest_5 rfl ?_
      refine r_aload_n (i := 0) i_M_mildest_7 rfl rfl ?_
      refine r_getf (ci := 6) (T := Fk6) (k := 10) o_M_mildest i_M_mildest_8 x_M_73 rfl (by decide) rfl (by repeat (first | assumption | exact upw_s | refine (upw_n (by omega)).trans ?_)) (by first | assumption | omega) (by rfl) ?_
      refine r_icmp_ge 63 i_M_mildest_11 (by decide) (fun h11 => ?_) (fun h11 => (absurd (by rw [hP]; exact nI_le (Nat.le_refl _) (by omega)) h11))
      refine r_iload_n (i := 3) i_M_mildest_63 rfl rfl ?_
      refine r_ireturn i_M_mildest_64 t_M_mildest rfl ?_
      exact ⟨rfl, rfl, rfl⟩
    | succ m ih =>
      intro t ht
      have ih' := ih (t + 1) (by omega)
      have hc := pkF_cases (fun t => mayM M b t x) (ltM M b) t
      have e7 : pkF (fun t => mayM M b t x) (ltM M b) (t + 1) = if mayM M b t x && (decide (pkF (fun t => mayM M b t x) (ltM M b) t = -1) || decide (M.2.1 (29 + b) t < M.2.1 (29 + b) (pkF (fun t => mayM M b t x) (ltM M b) t).toNatClampNeg)) then nI t else pkF (fun t => mayM M b t x) (ltM M b) t := rfl
      rw [e7] at ih'
      generalize pkF (fun t => mayM M b t x) (ltM M b) t = p at *
      have it : vp_in (nI t) 7 := vp_in_nI (by omega) (by decide)
      refine r_iload (i := 4) i_M_mildest_5 rfl ?_
      refine r_aload_n (i := 0) i_M_mildest_7 rfl rfl ?_
      refine r_getf (ci := 6) (T := Fk6) (k := 10) o_M_mildest i_M_mildest_8 x_M_73 rfl (by decide) rfl (by repeat (first | assumption | exact upw_s | refine (upw_n (by omega)).trans ?_)) (by first | assumption | omega) (by rfl) ?_
      refine r_icmp_ge 63 i_M_mildest_11 (by decide) (fun h11 => (absurd h11 (by rw [hP]; exact nI_ge (by omega) (by omega)))) (fun h11 => ?_)
      refine r_aload_n (i := 0) i_M_mildest_14 rfl rfl ?_
      refine r_iload_n (i := 1) i_M_mildest_15 rfl rfl ?_
      refine r_iload (i := 4) i_M_mildest_16 rfl ?_
      refine r_iload_n (i := 2) i_M_mildest_18 rfl rfl ?_
      refine f_virtual o_M_mildest k_M_may v_M_may x_M_255 i_M_mildest_19 o_M_may (c_M_may h hb (by omega)) rfl (rcv_ob (by repeat (first | assumption | exact upw_s | refine (upw_n (by omega)).trans ?_)) rfl (by first | assumption | omega)) rfl (by decide) (Nat.le_of_ble_eq_true rfl) ?_
      refine r_if_eq 55 i_M_mildest_22 (by decide) (fun h22 => ?_) (fun h22 => ?_)
      · skip
        have h22 := bI_eq0.mp h22
        rw [h22, Bool.false_and, if_neg (by decide)] at ih'
        refine r_iload_n (i := 3) i_M_mildest_55 rfl rfl ?_
        refine r_istore_3 i_M_mildest_56 (by rw [l_M_mildest]; decide) rfl ?_
        refine r_iinc_4 (v := (1 : Int32)) i_M_mildest_57 rfl (by rw [l_M_mildest]; decide) rfl ?_
        refine r_goto 5 i_M_mildest_60 (by decide) ?_
        rw [nI_1]
        exact ih'
      · skip
        have h22 := bI_ne0.mp h22
        rw [h22, Bool.true_and] at ih'
        refine r_iload_n (i := 3) i_M_mildest_25 rfl rfl ?_
        refine r_iconst (v := (-1 : Int32)) i_M_mildest_26 rfl ?_
        refine r_icmp_eq 50 i_M_mildest_27 (by decide) (fun h27 => ?_) (fun h27 => ?_)
        · skip
          rw [decide_eq_true h27, Bool.true_or, if_pos rfl] at ih'
          refine r_iload (i := 4) i_M_mildest_50 rfl ?_
          refine r_goto 56 i_M_mildest_52 (by decide) ?_
          refine r_istore_3 i_M_mildest_56 (by rw [l_M_mildest]; decide) rfl ?_
          refine r_iinc_4 (v := (1 : Int32)) i_M_mildest_57 rfl (by rw [l_M_mildest]; decide) rfl ?_
          refine r_goto 5 i_M_mildest_60 (by decide) ?_
          rw [nI_1]
          exact ih'
        · skip
          rw [decide_eq_false h27, Bool.false_or] at ih'
          obtain ⟨i, hi, -, rfl⟩ := hc.resolve_left h27
          have ii : vp_in (nI i) 7 := vp_in_nI (by omega) (by decide)
          rw [nI_clamp (by omega)] at ih'
          refine r_aload_n (i := 0) i_M_mildest_30 rfl rfl ?_
          refine r_getf (ci := 6) (T := Fk6) (k := 15) o_M_mildest i_M_mildest_31 x_M_51 rfl (by decide) rfl (by repeat (first | assumption | exact upw_s | refine (upw_n (by omega)).trans ?_)) (by first | assumption | omega) (by rfl) ?_
          refine r_iload_n (i := 1) i_M_mildest_34 rfl rfl ?_
          refine r_aald i_M_mildest_35 (by repeat (first | assumption | exact upw_s | refine (upw_n (by omega)).trans ?_)) (by decide) (by first | assumption | omega) (by assumption) r4 ?_
          refine r_iload (i := 4) i_M_mildest_36 rfl ?_
          refine r_iald i_M_mildest_38 (by repeat (first | assumption | exact upw_s | refine (upw_n (by omega)).trans ?_)) (by first | assumption | omega) (by assumption) ?_
          refine r_aload_n (i := 0) i_M_mildest_39 rfl rfl ?_
          refine r_getf (ci := 6) (T := Fk6) (k := 15) o_M_mildest i_M_mildest_40 x_M_51 rfl (by decide) rfl (by repeat (first | assumption | exact upw_s | refine (upw_n (by omega)).trans ?_)) (by first | assumption | omega) (by rfl) ?_
          refine r_iload_n (i := 1) i_M_mildest_43 rfl rfl ?_
          refine r_aald i_M_mildest_44 (by repeat (first | assumption | exact upw_s | refine (upw_n (by omega)).trans ?_)) (by decide) (by first | assumption | omega) (by assumption) r4 ?_
          refine r_iload_n (i := 3) i_M_mildest_45 rfl rfl ?_
          refine r_iald i_M_mildest_46 (by repeat (first | assumption | exact upw_s | refine (upw_n (by omega)).trans ?_)) (by first | assumption | omega) (by assumption) ?_
          rw [nI_clamp (by omega), nI_clamp (by omega)]
          refine r_icmp_ge 55 i_M_mildest_47 (by decide) (fun h47 => ?_) (fun h47 => ?_)
          · skip
            rw [if_neg (fun q => absurd (of_decide_eq_true q) (Int32.not_lt.mpr h47))] at ih'
            refine r_iload_n (i := 3) i_M_mildest_55 rfl rfl ?_
            refine r_istore_3 i_M_mildest_56 (by rw [l_M_mildest]; decide) rfl ?_
            refine r_iinc_4 (v := (1 : Int32)) i_M_mildest_57 rfl (by rw [l_M_mildest]; decide) rfl ?_
            refine r_goto 5 i_M_mildest_60 (by decide) ?_
            rw [nI_1]
            exact ih'
          · skip
            rw [if_pos (decide_eq_true (Int32.not_le.mp h47))] at ih'
            refine r_iload (i := 4) i_M_mildest_50 rfl ?_
            refine r_goto 56 i_M_mildest_52 (by decide) ?_
            refine r_istore_3 i_M_mildest_56 (by rw [l_M_mildest]; decide) rfl ?_
            refine r_iinc_4 (v := (1 : Int32)) i_M_mildest_57 rfl (by rw [l_M_mildest]; decide) rfl ?_
            refine r_goto 5 i_M_mildest_60 (by decide) ?_
            rw [nI_1]
            exact ih'
  refine r_iconst (v := (-1 : Int32)) i_M_mildest_0 rfl ?_
  refine r_istore_3 i_M_mildest_1 (by rw [l_M_mildest]; decide) rfl ?_
  refine r_iconst (v := (0 : Int32)) i_M_mildest_2 rfl ?_
  refine r_istore_4 i_M_mildest_3 (by rw [l_M_mildest]; decide) rfl ?_
  exact hloop P 0 (by omega)
theorem c_M_goodBy {b P : Nat} (h : MW w o M n) (hb : b < 7) (hP : M.1 10 = nI P) (hP7 : P ≤ 7) : Fn G 2 y_M_goodBy [.ref o, .int (nI b)] w n (some (.int (bitsOf (gd (tM M) b) P))) w := by
  obtain ⟨m0, mA', mL', m4, m20, m28, mn'⟩ := id h
  refine Fn.of k_M_goodBy l_M_goodBy rfl rfl ?_
  have hloop : ∀ m t, t + m = P → Go G 2 y_M_goodBy 4 [some (.ref o), some (.int (nI b)), some (.int (bitsOf (gd (tM M) b) t)), some (.int (nI t))] [] w n 0 0 (fun r1 w1 n1 => r1 = some (.int (bitsOf (gd (tM M) b) P)) ∧ w1 = w ∧ n1 = n) := by
    intro m
    induction m with
    | zero =>
      intro t ht
      have ht : t = P := by omega
      subst ht
      refine r_iload_n (i := 3) i_M_goodBy_4 rfl rfl ?_
      refine r_aload_n (i := 0) i_M_goodBy_5 rfl rfl ?_
      refine r_getf (ci := 6) (T := Fk6) (k := 10) o_M_goodBy i_M_goodBy_6 x_M_73 rfl (by decide) rfl (by repeat (first | assumption | exact upw_s | refine (upw_n (by omega)).trans ?_)) (by first | assumption | omega) (by rfl) ?_
      refine r_icmp_ge 37 i_M_goodBy_9 (by decide) (fun h9 => ?_) (fun h9 => (absurd (by rw [hP]; exact nI_le (Nat.le_refl _) (by omega)) h9))
      refine r_iload_n (i := 2) i_M_goodBy_37 rfl rfl ?_
      refine r_ireturn i_M_goodBy_38 t_M_goodBy rfl ?_
      exact ⟨rfl, rfl, rfl⟩
    | succ m ih =>
      intro t ht
      have ih' := ih (t + 1) (by omega)
      rw [bits_s] at ih'
      refine r_iload_n (i := 3) i_M_goodBy_4 rfl rfl ?_
      refine r_aload_n (i := 0) i_M_goodBy_5 rfl rfl ?_
      refine r_getf (ci := 6) (T := Fk6) (k := 10) o_M_goodBy i_M_goodBy_6 x_M_73 rfl (by decide) rfl (by repeat (first | assumption | exact upw_s | refine (upw_n (by omega)).trans ?_)) (by first | assumption | omega) (by rfl) ?_
      refine r_icmp_ge 37 i_M_goodBy_9 (by decide) (fun h9 => (absurd h9 (by rw [hP]; exact nI_ge (by omega) (by omega)))) (fun h9 => ?_)
      refine r_iload_n (i := 2) i_M_goodBy_12 rfl rfl ?_
      refine r_aload_n (i := 0) i_M_goodBy_13 rfl rfl ?_
      refine r_iload_n (i := 1) i_M_goodBy_14 rfl rfl ?_
      refine r_iload_n (i := 3) i_M_goodBy_15 rfl rfl ?_
      refine f_virtual o_M_goodBy k_M_isGood v_M_isGood x_M_243 i_M_goodBy_16 o_M_isGood (c_M_isGood h hb (by omega)) rfl (rcv_ob (by repeat (first | assumption | exact upw_s | refine (upw_n (by omega)).trans ?_)) rfl (by first | assumption | omega)) rfl (by decide) (Nat.le_of_ble_eq_true rfl) ?_
      refine r_if_eq 28 i_M_goodBy_19 (by decide) (fun h19 => ?_) (fun h19 => ?_)
      · skip
        have h19 := bI_eq0.mp h19
        rw [if_neg (by rw [h19]; decide)] at ih'
        refine r_iconst (v := (0 : Int32)) i_M_goodBy_28 rfl ?_
        refine r_ior i_M_goodBy_29 ?_
        refine r_istore_2 i_M_goodBy_30 (by rw [l_M_goodBy]; decide) rfl ?_
        refine r_iinc_3 (v := (1 : Int32)) i_M_goodBy_31 rfl (by rw [l_M_goodBy]; decide) rfl ?_
        refine r_goto 4 i_M_goodBy_34 (by decide) ?_
        rw [nI_1]
        first | exact ih' | (rw [Int32.or_zero]; exact ih')
      · skip
        have h19 := bI_ne0.mp h19
        rw [if_pos h19] at ih'
        refine r_iconst (v := (1 : Int32)) i_M_goodBy_22 rfl ?_
        refine r_iload_n (i := 3) i_M_goodBy_23 rfl rfl ?_
        refine r_ishl i_M_goodBy_24 ?_
        refine r_goto 29 i_M_goodBy_25 (by decide) ?_
        refine r_ior i_M_goodBy_29 ?_
        refine r_istore_2 i_M_goodBy_30 (by rw [l_M_goodBy]; decide) rfl ?_
        refine r_iinc_3 (v := (1 : Int32)) i_M_goodBy_31 rfl (by rw [l_M_goodBy]; decide) rfl ?_
        refine r_goto 4 i_M_goodBy_34 (by decide) ?_
        rw [nI_1]
        first | exact ih' | (rw [Int32.or_zero]; exact ih')
  refine r_iconst (v := (0 : Int32)) i_M_goodBy_0 rfl ?_
  refine r_istore_2 i_M_goodBy_1 (by rw [l_M_goodBy]; decide) rfl ?_
  refine r_iconst (v := (0 : Int32)) i_M_goodBy_2 rfl ?_
  refine r_istore_3 i_M_goodBy_3 (by rw [l_M_goodBy]; decide) rfl ?_
  exact hloop P 0 (by omega)
def mR (M : aM) (i : Nat) : aM := mA M 17 (upd (M.2.1 17) i (M.2.1 17 i + 1))
theorem c_M_refuse {i : Nat} (h : MW w o M n) (hi : i < 8) : Mt G 0 y_M_refuse [.ref o, .int (-nI i)] w n 0 0 (fun r w' n' => r = some (.int (-nI i)) ∧ (MW w' o (mR M i) n ∧ mFr w w' o) ∧ n' = n) := by
  obtain ⟨m0, mA', mL', m4, m20, m28, mn'⟩ := id h
  have a17 : w (o + 17) = ai 8 (M.2.1 17) := mA' 17 rfl
  have ii : vp_in (nI i) 8 := vp_in_nI hi (by decide)
  have ec : (nI i).toNatClampNeg = i := nI_clamp (by omega)
  refine Mt.of k_M_refuse l_M_refuse (Nat.le_of_ble_eq_true rfl) rfl ?_
  refine r_aload_n (i := 0) i_M_refuse_0 rfl rfl ?_
  refine r_getf (ci := 6) (T := Fk6) (k := 9) o_M_refuse i_M_refuse_1 x_M_37 rfl (by decide) rfl (by repeat (first | assumption | exact upw_s | refine (upw_n (by omega)).trans ?_)) (by first | assumption | omega) (by rfl) ?_
  refine r_iload_n (i := 1) i_M_refuse_4 rfl rfl ?_
  refine r_ineg i_M_refuse_5 ?_
  rw [Int32.neg_neg]
  refine r_dup2_11 i_M_refuse_6 rfl rfl ?_
  refine r_iald i_M_refuse_7 (by repeat (first | assumption | exact upw_s | refine (upw_n (by omega)).trans ?_)) (by first | assumption | omega) (by assumption) ?_
  refine r_iconst (v := (1 : Int32)) i_M_refuse_8 rfl ?_
  refine r_iadd i_M_refuse_9 ?_
  refine r_iast i_M_refuse_10 (by repeat (first | assumption | exact upw_s | refine (upw_n (by omega)).trans ?_)) (by first | assumption | omega) (by assumption) ?_
  refine r_iload_n (i := 1) i_M_refuse_11 rfl rfl ?_
  refine r_ireturn i_M_refuse_12 t_M_refuse rfl ?_
  rw [ec]
  exact ⟨rfl, ⟨h.arr (j := 17) rfl, fun j hj => upw_n (by omega)⟩, rfl⟩
end MNAME
