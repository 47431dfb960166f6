-- THE REFERENCE: what a week comes to, what is barred
def owF (M : aM) : Nat → Int32 × Int32 × Int32
  | 0 => (0, 0, 0)
  | b + 1 => if M.2.1 38 b = -1 then owF M b else ((owF M b).1 + valN (tM M) b (M.2.1 38 b).toNatClampNeg, (owF M b).2.1 + 1, (owF M b).2.2 ||| (1 : Int32) <<< (M.2.1 38 b &&& 31))
def owA (M : aM) (B : Nat) (q : Int32) : Int32 := if q = 0 then (owF M B).1 else if q = 1 then (owF M B).2.1 else (owF M B).2.2
def WkOk (M : aM) (B : Nat) : Prop := ∀ b, b < B → M.2.1 38 b = -1 ∨ ∃ t, t < 7 ∧ M.2.1 38 b = nI t
def ibF (M : aM) (x : Int32) : Nat → Nat → Bool
  | 0, _ => false
  | m + 1, b => if (hsB x (nI b) && !decide (M.2.1 (21 + b) 4 &&& x = 0)) = true then true else ibF M x m (b + 1)
section MWEEK
variable {G : gE} {w : aW} {o n : Nat} {M : aM}
theorem c_M_ofWeek {B : Nat} {q : Int32} (h : MW w o M n) (hB : M.1 13 = nI B) (hB7 : B ≤ 7) (hk : WkOk M B) : Fn G 2 y_M_ofWeek [.ref o, .int q] w n (some (.int (owA M B q))) w := by
  obtain ⟨m0, mA', mL', m4, m20, m28, mn'⟩ := id h
  have a38 : w (o + 38) = ai 7 (M.2.1 38) := mA' 38 rfl
  refine Fn.of k_M_ofWeek l_M_ofWeek rfl rfl ?_
  unfold owA
  have hloop : ∀ m b, b + m = B → Go G 2 y_M_ofWeek 10 [some (.ref o), some (.int q), some (.int (owF M b).1), some (.int (owF M b).2.1), some (.int (owF M b).2.2), some (.int (nI b))] [] w n 0 0 (fun r1 w1 n1 => r1 = some (.int (if q = 0 then (owF M B).1 else if q = 1 then (owF M B).2.1 else (owF M B).2.2)) ∧ w1 = w ∧ n1 = n) := by
    intro m
    induction m with
    | zero =>
      intro b hb
      have hb : b = B := by omega
      subst hb
      refine r_iload (i := 5) i_M_ofWeek_10 rfl ?_
      refine r_aload_n (i := 0) i_M_ofWeek_12 rfl rfl ?_
      refine r_getf (ci := 6) (T := Fk6) (k := 13) o_M_ofWeek i_M_ofWeek_13 x_M_80 rfl (by decide) rfl (by repeat (first | assumption | exact upw_s | refine (upw_n (by omega)).trans ?_)) (by first | assumption | omega) (by rfl) ?_
      refine r_icmp_ge 69 i_M_ofWeek_16 (by decide) (fun h16 => ?_) (fun h16 => (absurd (by rw [hB]; exact nI_le (Nat.le_refl _) (by omega)) h16))
      refine r_iload_n (i := 1) i_M_ofWeek_69 rfl rfl ?_
      refine r_if_ne 77 i_M_ofWeek_70 (by decide) (fun h70 => ?_) (fun h70 => ?_)
      · skip
        rw [if_neg h70]
        refine r_iload_n (i := 1) i_M_ofWeek_77 rfl rfl ?_
        refine r_iconst (v := (1 : Int32)) i_M_ofWeek_78 rfl ?_
        refine r_icmp_ne 86 i_M_ofWeek_79 (by decide) (fun h79 => ?_) (fun h79 => ?_)
        · skip
          rw [if_neg h79]
          refine r_iload (i := 4) i_M_ofWeek_86 rfl ?_
          refine r_ireturn i_M_ofWeek_88 t_M_ofWeek rfl ?_
          exact ⟨rfl, rfl, rfl⟩
        · skip
          rw [if_pos h79]
          refine r_iload_n (i := 3) i_M_ofWeek_82 rfl rfl ?_
          refine r_goto 88 i_M_ofWeek_83 (by decide) ?_
          refine r_ireturn i_M_ofWeek_88 t_M_ofWeek rfl ?_
          exact ⟨rfl, rfl, rfl⟩
      · skip
        rw [if_pos h70]
        refine r_iload_n (i := 2) i_M_ofWeek_73 rfl rfl ?_
        refine r_goto 88 i_M_ofWeek_74 (by decide) ?_
        refine r_ireturn i_M_ofWeek_88 t_M_ofWeek rfl ?_
        exact ⟨rfl, rfl, rfl⟩
    | succ m ih =>
      intro b hb
      have ih' := ih (b + 1) (by omega)
      have e7 : owF M (b + 1) = if M.2.1 38 b = -1 then owF M b else ((owF M b).1 + valN (tM M) b (M.2.1 38 b).toNatClampNeg, (owF M b).2.1 + 1, (owF M b).2.2 ||| (1 : Int32) <<< (M.2.1 38 b &&& 31)) := rfl
      rw [e7] at ih'
      generalize owF M b = p at *
      have ib : vp_in (nI b) 7 := vp_in_nI (by omega) (by decide)
      have ec : (nI b).toNatClampNeg = b := nI_clamp (by omega)
      have hk' := hk b (by omega)
      refine r_iload (i := 5) i_M_ofWeek_10 rfl ?_
      refine r_aload_n (i := 0) i_M_ofWeek_12 rfl rfl ?_
      refine r_getf (ci := 6) (T := Fk6) (k := 13) o_M_ofWeek i_M_ofWeek_13 x_M_80 rfl (by decide) rfl (by repeat (first | assumption | exact upw_s | refine (upw_n (by omega)).trans ?_)) (by first | assumption | omega) (by rfl) ?_
      refine r_icmp_ge 69 i_M_ofWeek_16 (by decide) (fun h16 => (absurd h16 (by rw [hB]; exact nI_ge (by omega) (by omega)))) (fun h16 => ?_)
      refine r_aload_n (i := 0) i_M_ofWeek_19 rfl rfl ?_
      refine r_getf (ci := 6) (T := Fk6) (k := 29) o_M_ofWeek i_M_ofWeek_20 x_M_64 rfl (by decide) rfl (by repeat (first | assumption | exact upw_s | refine (upw_n (by omega)).trans ?_)) (by first | assumption | omega) (by rfl) ?_
      refine r_iload (i := 5) i_M_ofWeek_23 rfl ?_
      refine r_iald i_M_ofWeek_25 (by repeat (first | assumption | exact upw_s | refine (upw_n (by omega)).trans ?_)) (by first | assumption | omega) (by assumption) ?_
      rw [ec]
      refine r_iconst (v := (-1 : Int32)) i_M_ofWeek_26 rfl ?_
      refine r_icmp_eq 63 i_M_ofWeek_27 (by decide) (fun h27 => ?_) (fun h27 => ?_)
      · skip
        rw [if_pos h27] at ih'
        refine r_iinc_5 (v := (1 : Int32)) i_M_ofWeek_63 rfl (by rw [l_M_ofWeek]; decide) rfl ?_
        refine r_goto 10 i_M_ofWeek_66 (by decide) ?_
        rw [nI_1]
        exact ih'
      · skip
        rw [if_neg h27] at ih'
        obtain ⟨t, ht, et⟩ := hk'.resolve_left h27
        rw [et, nI_clamp (by omega)] at ih'
        refine r_iload_n (i := 2) i_M_ofWeek_30 rfl rfl ?_
        refine r_aload_n (i := 0) i_M_ofWeek_31 rfl rfl ?_
        refine r_iload (i := 5) i_M_ofWeek_32 rfl ?_
        refine r_aload_n (i := 0) i_M_ofWeek_34 rfl rfl ?_
        refine r_getf (ci := 6) (T := Fk6) (k := 29) o_M_ofWeek i_M_ofWeek_35 x_M_64 rfl (by decide) rfl (by repeat (first | assumption | exact upw_s | refine (upw_n (by omega)).trans ?_)) (by first | assumption | omega) (by rfl) ?_
        refine r_iload (i := 5) i_M_ofWeek_38 rfl ?_
        refine r_iald i_M_ofWeek_40 (by repeat (first | assumption | exact upw_s | refine (upw_n (by omega)).trans ?_)) (by first | assumption | omega) (by assumption) ?_
        rw [ec, et]
        refine f_virtual o_M_ofWeek k_M_valueOf v_M_valueOf x_M_251 i_M_ofWeek_41 o_M_valueOf (c_M_valueOf h (by omega) ht) rfl (rcv_ob (by repeat (first | assumption | exact upw_s | refine (upw_n (by omega)).trans ?_)) rfl (by first | assumption | omega)) rfl (by decide) (Nat.le_of_ble_eq_true rfl) ?_
        refine r_iadd i_M_ofWeek_44 ?_
        refine r_istore_2 i_M_ofWeek_45 (by rw [l_M_ofWeek]; decide) rfl ?_
        refine r_iinc_3 (v := (1 : Int32)) i_M_ofWeek_46 rfl (by rw [l_M_ofWeek]; decide) rfl ?_
        refine r_iload (i := 4) i_M_ofWeek_49 rfl ?_
        refine r_iconst (v := (1 : Int32)) i_M_ofWeek_51 rfl ?_
        refine r_aload_n (i := 0) i_M_ofWeek_52 rfl rfl ?_
        refine r_getf (ci := 6) (T := Fk6) (k := 29) o_M_ofWeek i_M_ofWeek_53 x_M_64 rfl (by decide) rfl (by repeat (first | assumption | exact upw_s | refine (upw_n (by omega)).trans ?_)) (by first | assumption | omega) (by rfl) ?_
        refine r_iload (i := 5) i_M_ofWeek_56 rfl ?_
        refine r_iald i_M_ofWeek_58 (by repeat (first | assumption | exact upw_s | refine (upw_n (by omega)).trans ?_)) (by first | assumption | omega) (by assumption) ?_
        rw [ec, et]
        refine r_ishl i_M_ofWeek_59 ?_
        refine r_ior i_M_ofWeek_60 ?_
        refine r_istore_4 i_M_ofWeek_61 (by rw [l_M_ofWeek]; decide) rfl ?_
        refine r_iinc_5 (v := (1 : Int32)) i_M_ofWeek_63 rfl (by rw [l_M_ofWeek]; decide) rfl ?_
        refine r_goto 10 i_M_ofWeek_66 (by decide) ?_
        rw [nI_1]
        exact ih'
  refine r_iconst (v := (0 : Int32)) i_M_ofWeek_0 rfl ?_
  refine r_istore_2 i_M_ofWeek_1 (by rw [l_M_ofWeek]; decide) rfl ?_
  refine r_iconst (v := (0 : Int32)) i_M_ofWeek_2 rfl ?_
  refine r_istore_3 i_M_ofWeek_3 (by rw [l_M_ofWeek]; decide) rfl ?_
  refine r_iconst (v := (0 : Int32)) i_M_ofWeek_4 rfl ?_
  refine r_istore_4 i_M_ofWeek_5 (by rw [l_M_ofWeek]; decide) rfl ?_
  refine r_iconst (v := (0 : Int32)) i_M_ofWeek_7 rfl ?_
  refine r_istore_5 i_M_ofWeek_8 (by rw [l_M_ofWeek]; decide) rfl ?_
  exact hloop B 0 (by omega)
theorem c_M_isBarred {B : Nat} {x : Int32} (h : MW w o M n) (hB : M.1 13 = nI B) (hB7 : B ≤ 7) : Fn G 1 y_M_isBarred [.ref o, .int x] w n (some (.int (bI (ibF M x B 0)))) w := by
  obtain ⟨m0, mA', mL', m4, m20, m28, mn'⟩ := id h
  obtain ⟨i0, i1, i2, i3, i4⟩ := v5
  refine Fn.of k_M_isBarred l_M_isBarred rfl rfl ?_
  have hloop : ∀ m b, b + m = B → Go G 1 y_M_isBarred 2 [some (.ref o), some (.int x), some (.int (nI b))] [] w n 0 0 (fun r1 w1 n1 => r1 = some (.int (bI (ibF M x m b))) ∧ w1 = w ∧ n1 = n) := by
    intro m
    induction m with
    | zero =>
      intro b hb
      have hb : b = B := by omega
      subst hb
      refine r_iload_n (i := 2) i_M_isBarred_2 rfl rfl ?_
      refine r_aload_n (i := 0) i_M_isBarred_3 rfl rfl ?_
      refine r_getf (ci := 6) (T := Fk6) (k := 13) o_M_isBarred i_M_isBarred_4 x_M_80 rfl (by decide) rfl (by repeat (first | assumption | exact upw_s | refine (upw_n (by omega)).trans ?_)) (by first | assumption | omega) (by rfl) ?_
      refine r_icmp_ge 39 i_M_isBarred_7 (by decide) (fun h7 => ?_) (fun h7 => (absurd (by rw [hB]; exact nI_le (Nat.le_refl _) (by omega)) h7))
      refine r_iconst (v := (0 : Int32)) i_M_isBarred_39 rfl ?_
      refine r_ireturn i_M_isBarred_40 t_M_isBarred (by first | rfl | exact nar_bI _) ?_
      exact ⟨rfl, rfl, rfl⟩
    | succ m ih =>
      intro b hb
      have ih' := ih (b + 1) (by omega)
      have e7 : ibF M x (m + 1) b = if (hsB x (nI b) && !decide (M.2.1 (21 + b) 4 &&& x = 0)) = true then true else ibF M x m (b + 1) := rfl
      have e8 : (!decide ((x >>> (nI b &&& 31)) &&& 1 = 0)) = hsB x (nI b) := rfl
      obtain ⟨r1, r2, r3, r4, r5⟩ := row_of h (show b < 7 by omega)
      rw [e7]
      refine r_iload_n (i := 2) i_M_isBarred_2 rfl rfl ?_
      refine r_aload_n (i := 0) i_M_isBarred_3 rfl rfl ?_
      refine r_getf (ci := 6) (T := Fk6) (k := 13) o_M_isBarred i_M_isBarred_4 x_M_80 rfl (by decide) rfl (by repeat (first | assumption | exact upw_s | refine (upw_n (by omega)).trans ?_)) (by first | assumption | omega) (by rfl) ?_
      refine r_icmp_ge 39 i_M_isBarred_7 (by decide) (fun h7 => (absurd h7 (by rw [hB]; exact nI_ge (by omega) (by omega)))) (fun h7 => ?_)
      refine r_iload_n (i := 1) i_M_isBarred_10 rfl rfl ?_
      refine r_iload_n (i := 2) i_M_isBarred_11 rfl rfl ?_
      refine f_static o_M_isBarred k_M_has s_M_has x_M_122 i_M_isBarred_12 (c_M_has) rfl rfl (by decide) (Nat.le_of_ble_eq_true rfl) ?_
      rw [e8]
      refine r_if_eq 33 i_M_isBarred_15 (by decide) (fun h15 => ?_) (fun h15 => ?_)
      · skip
        have h15 := bI_eq0.mp h15
        rw [h15, Bool.false_and, if_neg (by decide)]
        refine r_iinc_2 (v := (1 : Int32)) i_M_isBarred_33 rfl (by rw [l_M_isBarred]; decide) rfl ?_
        refine r_goto 2 i_M_isBarred_36 (by decide) ?_
        rw [nI_1]
        exact ih'
      · skip
        have h15 := bI_ne0.mp h15
        rw [h15, Bool.true_and]
        refine r_aload_n (i := 0) i_M_isBarred_18 rfl rfl ?_
        refine r_getf (ci := 6) (T := Fk6) (k := 14) o_M_isBarred i_M_isBarred_19 x_M_48 rfl (by decide) rfl (by repeat (first | assumption | exact upw_s | refine (upw_n (by omega)).trans ?_)) (by first | assumption | omega) (by rfl) ?_
        refine r_iload_n (i := 2) i_M_isBarred_22 rfl rfl ?_
        refine r_aald i_M_isBarred_23 (by repeat (first | assumption | exact upw_s | refine (upw_n (by omega)).trans ?_)) (by decide) (by first | assumption | omega) (by assumption) r3 ?_
        refine r_iconst (v := (4 : Int32)) i_M_isBarred_24 rfl ?_
        refine r_iald i_M_isBarred_25 (by repeat (first | assumption | exact upw_s | refine (upw_n (by omega)).trans ?_)) (by first | assumption | omega) (by assumption) ?_
        refine r_iload_n (i := 1) i_M_isBarred_26 rfl rfl ?_
        refine r_iand i_M_isBarred_27 ?_
        refine r_if_eq 33 i_M_isBarred_28 (by decide) (fun h28 => ?_) (fun h28 => ?_)
        · skip
          have h28 : M.2.1 (21 + b) 4 &&& x = 0 := h28
          rw [decide_eq_true h28, if_neg (by decide)]
          refine r_iinc_2 (v := (1 : Int32)) i_M_isBarred_33 rfl (by rw [l_M_isBarred]; decide) rfl ?_
          refine r_goto 2 i_M_isBarred_36 (by decide) ?_
          rw [nI_1]
          exact ih'
        · skip
          have h28 : ¬ M.2.1 (21 + b) 4 &&& x = 0 := h28
          rw [decide_eq_false h28, if_pos (show (!false) = true from rfl)]
          refine r_iconst (v := (1 : Int32)) i_M_isBarred_31 rfl ?_
          refine r_ireturn i_M_isBarred_32 t_M_isBarred (by first | rfl | exact nar_bI _) ?_
          exact ⟨rfl, rfl, rfl⟩
  refine r_iconst (v := (0 : Int32)) i_M_isBarred_0 rfl ?_
  refine r_istore_2 i_M_isBarred_1 (by rw [l_M_isBarred]; decide) rfl ?_
  exact hloop B 0 (by omega)
end MWEEK
