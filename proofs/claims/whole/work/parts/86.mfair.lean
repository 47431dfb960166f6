-- THE REFERENCE: richest, fair
def rcM (M : aM) : Nat → Int32 := pkF (fun _ => true) (fun t i => decide (M.2.1 18 i < M.2.1 18 t))
def fpF (M : aM) : Nat → Int32 × Int32
  | 0 => (M.2.1 19 0, M.2.1 19 0)
  | k + 1 => (if (fpF M k).1 < M.2.1 19 (k + 1) then M.2.1 19 (k + 1) else (fpF M k).1, if M.2.1 19 (k + 1) < (fpF M k).2 then M.2.1 19 (k + 1) else (fpF M k).2)
section MFAIR
variable {G : gE} {w : aW} {o n : Nat} {M : aM}
def m2_richest (M : aM) (P : Nat) : Int32 × aM := if rcM M P = -1 then (-5, mR M 5) else (rcM M P, M)
theorem c_M_richest {P : Nat} (h : MW w o M n) (hP : M.1 10 = nI P) (hP7 : P ≤ 7) : Mm G 3 y_M_richest [.ref o] w o n (m2_richest M P) := by
  obtain ⟨m0, mA', mL', m4, m20, m28, mn'⟩ := id h
  have a18 : w (o + 18) = ai 7 (M.2.1 18) := mA' 18 rfl
  refine Mm.of k_M_richest l_M_richest rfl rfl ?_
  unfold m2_richest
  have hloop : ∀ m t, t + m = P → Go G 3 y_M_richest 4 [some (.ref o), some (.int (rcM M t)), some (.int (nI t))] [] w n 0 0 (fun r w' n' => r = some (.int (if rcM M P = -1 then (-5, mR M 5) else (rcM M P, M)).1) ∧ (MW w' o (if rcM M P = -1 then (-5, mR M 5) else (rcM M P, M)).2 n ∧ mFr w w' o) ∧ n' = n) := by
    intro m
    induction m with
    | zero =>
      intro t ht
      have ht : t = P := by omega
      subst ht
      refine r_iload_n (i := 2) i_M_richest_4 rfl rfl ?_
      refine r_aload_n (i := 0) i_M_richest_5 rfl rfl ?_
      refine r_getf (ci := 6) (T := Fk6) (k := 10) o_M_richest i_M_richest_6 x_M_73 rfl (by decide) rfl (by repeat (first | assumption | exact upw_s | refine (upw_n (by omega)).trans ?_)) (by first | assumption | omega) (by rfl) ?_
      refine r_icmp_ge 44 i_M_richest_9 (by decide) (fun h9 => ?_) (fun h9 => (absurd (by rw [hP]; exact nI_le (Nat.le_refl _) (by omega)) h9))
      refine r_iload_n (i := 1) i_M_richest_44 rfl rfl ?_
      refine r_iconst (v := (-1 : Int32)) i_M_richest_45 rfl ?_
      refine r_icmp_ne 58 i_M_richest_46 (by decide) (fun h46 => ?_) (fun h46 => ?_)
      · skip
        rw [if_neg h46]
        refine r_iload_n (i := 1) i_M_richest_58 rfl rfl ?_
        refine r_ireturn i_M_richest_59 t_M_richest rfl ?_
        first | exact ⟨rfl, hp9, rfl⟩ | exact ⟨rfl, ⟨h, fun _ _ => rfl⟩, rfl⟩
      · skip
        rw [if_pos h46]
        refine r_aload_n (i := 0) i_M_richest_49 rfl rfl ?_
        refine r_bipush (v := (-5 : Int32)) i_M_richest_50 (by decide) ?_
        refine m_virtual o_M_richest k_M_refuse v_M_refuse x_M_89 i_M_richest_52 o_M_refuse (c_M_refuse (i := 5) h (by decide)) rfl (rcv_ob (by repeat (first | assumption | exact upw_s | refine (upw_n (by omega)).trans ?_)) rfl (by first | assumption | omega)) rfl (by decide) (Nat.le_of_ble_eq_true rfl) (Nat.zero_le _) (Nat.zero_le _) (fun rr52 wr52 nr52 hp9 => ?_)
        obtain ⟨rfl, hp9, rfl⟩ := hp9
        refine r_goto 59 i_M_richest_55 (by decide) ?_
        refine r_ireturn i_M_richest_59 t_M_richest rfl ?_
        first | exact ⟨rfl, hp9, rfl⟩ | exact ⟨rfl, ⟨h, fun _ _ => rfl⟩, rfl⟩
    | succ m ih =>
      intro t ht
      have ih' := ih (t + 1) (by omega)
      have hc := pkF_cases (fun _ => true) (fun t i => decide (M.2.1 18 i < M.2.1 18 t)) t
      have e7 : rcM M (t + 1) = if (true && (decide (rcM M t = -1) || decide (M.2.1 18 (rcM M t).toNatClampNeg < M.2.1 18 t))) = true then nI t else rcM M t := rfl
      rw [e7, Bool.true_and] at ih'
      have hc : rcM M t = -1 ∨ ∃ i, i < t ∧ true = true ∧ rcM M t = nI i := hc
      generalize rcM M t = p at *
      have it : vp_in (nI t) 7 := vp_in_nI (by omega) (by decide)
      refine r_iload_n (i := 2) i_M_richest_4 rfl rfl ?_
      refine r_aload_n (i := 0) i_M_richest_5 rfl rfl ?_
      refine r_getf (ci := 6) (T := Fk6) (k := 10) o_M_richest i_M_richest_6 x_M_73 rfl (by decide) rfl (by repeat (first | assumption | exact upw_s | refine (upw_n (by omega)).trans ?_)) (by first | assumption | omega) (by rfl) ?_
      refine r_icmp_ge 44 i_M_richest_9 (by decide) (fun h9 => (absurd h9 (by rw [hP]; exact nI_ge (by omega) (by omega)))) (fun h9 => ?_)
      refine r_iload_n (i := 1) i_M_richest_12 rfl rfl ?_
      refine r_iconst (v := (-1 : Int32)) i_M_richest_13 rfl ?_
      refine r_icmp_eq 32 i_M_richest_14 (by decide) (fun h14 => ?_) (fun h14 => ?_)
      · skip
        rw [decide_eq_true h14, Bool.true_or, if_pos rfl] at ih'
        refine r_iload_n (i := 2) i_M_richest_32 rfl rfl ?_
        refine r_goto 37 i_M_richest_33 (by decide) ?_
        refine r_istore_1 i_M_richest_37 (by rw [l_M_richest]; decide) rfl ?_
        refine r_iinc_2 (v := (1 : Int32)) i_M_richest_38 rfl (by rw [l_M_richest]; decide) rfl ?_
        refine r_goto 4 i_M_richest_41 (by decide) ?_
        rw [nI_1]
        exact ih'
      · skip
        rw [decide_eq_false h14, Bool.false_or] at ih'
        obtain ⟨i, hi, -, rfl⟩ := hc.resolve_left h14
        have ii : vp_in (nI i) 7 := vp_in_nI (by omega) (by decide)
        rw [nI_clamp (by omega)] at ih'
        refine r_aload_n (i := 0) i_M_richest_17 rfl rfl ?_
        refine r_getf (ci := 6) (T := Fk6) (k := 11) o_M_richest i_M_richest_18 x_M_40 rfl (by decide) rfl (by repeat (first | assumption | exact upw_s | refine (upw_n (by omega)).trans ?_)) (by first | assumption | omega) (by rfl) ?_
        refine r_iload_n (i := 2) i_M_richest_21 rfl rfl ?_
        refine r_iald i_M_richest_22 (by repeat (first | assumption | exact upw_s | refine (upw_n (by omega)).trans ?_)) (by first | assumption | omega) (by assumption) ?_
        refine r_aload_n (i := 0) i_M_richest_23 rfl rfl ?_
        refine r_getf (ci := 6) (T := Fk6) (k := 11) o_M_richest i_M_richest_24 x_M_40 rfl (by decide) rfl (by repeat (first | assumption | exact upw_s | refine (upw_n (by omega)).trans ?_)) (by first | assumption | omega) (by rfl) ?_
        refine r_iload_n (i := 1) i_M_richest_27 rfl rfl ?_
        refine r_iald i_M_richest_28 (by repeat (first | assumption | exact upw_s | refine (upw_n (by omega)).trans ?_)) (by first | assumption | omega) (by assumption) ?_
        rw [nI_clamp (by omega), nI_clamp (by omega)]
        refine r_icmp_le 36 i_M_richest_29 (by decide) (fun h29 => ?_) (fun h29 => ?_)
        · skip
          rw [if_neg (fun q => absurd (of_decide_eq_true q) (Int32.not_lt.mpr h29))] at ih'
          refine r_iload_n (i := 1) i_M_richest_36 rfl rfl ?_
          refine r_istore_1 i_M_richest_37 (by rw [l_M_richest]; decide) rfl ?_
          refine r_iinc_2 (v := (1 : Int32)) i_M_richest_38 rfl (by rw [l_M_richest]; decide) rfl ?_
          refine r_goto 4 i_M_richest_41 (by decide) ?_
          rw [nI_1]
          exact ih'
        · skip
          rw [if_pos (decide_eq_true (Int32.not_le.mp h29))] at ih'
          refine r_iload_n (i := 2) i_M_richest_32 rfl rfl ?_
          refine r_goto 37 i_M_richest_33 (by decide) ?_
          refine r_istore_1 i_M_richest_37 (by rw [l_M_richest]; decide) rfl ?_
          refine r_iinc_2 (v := (1 : Int32)) i_M_richest_38 rfl (by rw [l_M_richest]; decide) rfl ?_
          refine r_goto 4 i_M_richest_41 (by decide) ?_
          rw [nI_1]
          exact ih'
  refine r_iconst (v := (-1 : Int32)) i_M_richest_0 rfl ?_
  refine r_istore_1 i_M_richest_1 (by rw [l_M_richest]; decide) rfl ?_
  refine r_iconst (v := (0 : Int32)) i_M_richest_2 rfl ?_
  refine r_istore_2 i_M_richest_3 (by rw [l_M_richest]; decide) rfl ?_
  exact hloop P 0 (by omega)
end MFAIR
