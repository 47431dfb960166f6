-- THE REFERENCE: never, alone, party
section MNEV
variable {G : gE} {w : aW} {o n : Nat} {M : aM}
theorem c_M_never {P B : Nat} (h : MW w o M n) (hP : M.1 10 = nI P) (hP7 : P ≤ 7) (hB : M.1 13 = nI B) (hB7 : B ≤ 7) : Mm G 3 y_M_never [.ref o] w o n (bitsOf (fun b => decide (bitsOf (gd (tM M) b) P = 0)) B, M) := by
  obtain ⟨m0, mA', mL', m4, m20, m28, mn'⟩ := id h
  refine Mm.of k_M_never l_M_never rfl rfl ?_
  have hloop : ∀ m k, k + m = B → Go G 3 y_M_never 4 [some (.ref o), some (.int (bitsOf (fun b => decide (bitsOf (gd (tM M) b) P = 0)) k)), some (.int (nI k))] [] w n 0 0 (fun r w' n' => r = some (.int (bitsOf (fun b => decide (bitsOf (gd (tM M) b) P = 0)) B)) ∧ (MW w' o M n ∧ mFr w w' o) ∧ n' = n) := by
    intro m
    induction m with
    | zero =>
      intro k hk
      have hk : k = B := by omega
      subst hk
      refine r_iload_n (i := 2) i_M_never_4 rfl rfl ?_
      refine r_aload_n (i := 0) i_M_never_5 rfl rfl ?_
      refine r_getf (ci := 6) (T := Fk6) (k := 13) o_M_never i_M_never_6 x_M_80 rfl (by decide) rfl (by repeat (first | assumption | exact upw_s | refine (upw_n (by omega)).trans ?_)) (by first | assumption | omega) (by rfl) ?_
      refine r_icmp_ge 36 i_M_never_9 (by decide) (fun h9 => ?_) (fun h9 => (absurd (by rw [hB]; exact nI_le (Nat.le_refl _) (by omega)) h9))
      refine r_iload_n (i := 1) i_M_never_36 rfl rfl ?_
      refine r_ireturn i_M_never_37 t_M_never rfl ?_
      first | exact ⟨rfl, hp9, rfl⟩ | exact ⟨rfl, ⟨h, fun _ _ => rfl⟩, rfl⟩
    | succ m ih =>
      intro k hk
      have ih' := ih (k + 1) (by omega)
      rw [bits_s] at ih'
      refine r_iload_n (i := 2) i_M_never_4 rfl rfl ?_
      refine r_aload_n (i := 0) i_M_never_5 rfl rfl ?_
      refine r_getf (ci := 6) (T := Fk6) (k := 13) o_M_never i_M_never_6 x_M_80 rfl (by decide) rfl (by repeat (first | assumption | exact upw_s | refine (upw_n (by omega)).trans ?_)) (by first | assumption | omega) (by rfl) ?_
      refine r_icmp_ge 36 i_M_never_9 (by decide) (fun h9 => (absurd h9 (by rw [hB]; exact nI_ge (by omega) (by omega)))) (fun h9 => ?_)
      refine r_iload_n (i := 1) i_M_never_12 rfl rfl ?_
      refine r_aload_n (i := 0) i_M_never_13 rfl rfl ?_
      refine r_iload_n (i := 2) i_M_never_14 rfl rfl ?_
      refine f_virtual o_M_never k_M_goodBy v_M_goodBy x_M_248 i_M_never_15 o_M_goodBy (c_M_goodBy h (by omega) hP hP7) rfl (rcv_ob (by repeat (first | assumption | exact upw_s | refine (upw_n (by omega)).trans ?_)) rfl (by first | assumption | omega)) rfl (by decide) (Nat.le_of_ble_eq_true rfl) ?_
      refine r_if_ne 27 i_M_never_18 (by decide) (fun h18 => ?_) (fun h18 => ?_)
      · skip
        rw [if_neg (by rw [decide_eq_false h18]; decide)] at ih'
        refine r_iconst (v := (0 : Int32)) i_M_never_27 rfl ?_
        refine r_ior i_M_never_28 ?_
        refine r_istore_1 i_M_never_29 (by rw [l_M_never]; decide) rfl ?_
        refine r_iinc_2 (v := (1 : Int32)) i_M_never_30 rfl (by rw [l_M_never]; decide) rfl ?_
        refine r_goto 4 i_M_never_33 (by decide) ?_
        rw [nI_1]
        first | exact ih' | (rw [Int32.or_zero]; exact ih')
      · skip
        rw [if_pos (decide_eq_true h18)] at ih'
        refine r_iconst (v := (1 : Int32)) i_M_never_21 rfl ?_
        refine r_iload_n (i := 2) i_M_never_22 rfl rfl ?_
        refine r_ishl i_M_never_23 ?_
        refine r_goto 28 i_M_never_24 (by decide) ?_
        refine r_ior i_M_never_28 ?_
        refine r_istore_1 i_M_never_29 (by rw [l_M_never]; decide) rfl ?_
        refine r_iinc_2 (v := (1 : Int32)) i_M_never_30 rfl (by rw [l_M_never]; decide) rfl ?_
        refine r_goto 4 i_M_never_33 (by decide) ?_
        rw [nI_1]
        first | exact ih' | (rw [Int32.or_zero]; exact ih')
  refine r_iconst (v := (0 : Int32)) i_M_never_0 rfl ?_
  refine r_istore_1 i_M_never_1 (by rw [l_M_never]; decide) rfl ?_
  refine r_iconst (v := (0 : Int32)) i_M_never_2 rfl ?_
  refine r_istore_2 i_M_never_3 (by rw [l_M_never]; decide) rfl ?_
  exact hloop B 0 (by omega)
def m2_alone (M : aM) (P B : Nat) (i : Int32) : Int32 × aM := if lt0 i (M.1 10) = true then (bitsOf (fun b => decide (bitsOf (gd (tM M) b) P = (1 : Int32) <<< (i &&& 31))) B, M) else (-2, mR M 2)
theorem c_M_alone {P B : Nat} {i : Int32} (h : MW w o M n) (hP : M.1 10 = nI P) (hP7 : P ≤ 7) (hB : M.1 13 = nI B) (hB7 : B ≤ 7) : Mm G 3 y_M_alone [.ref o, .int i] w o n (m2_alone M P B i) := by
  obtain ⟨m0, mA', mL', m4, m20, m28, mn'⟩ := id h
  refine Mm.of k_M_alone l_M_alone rfl rfl ?_
  have hloop : ∀ m k, k + m = B → Go G 3 y_M_alone 20 [some (.ref o), some (.int i), some (.int (bitsOf (fun b => decide (bitsOf (gd (tM M) b) P = (1 : Int32) <<< (i &&& 31))) k)), some (.int (nI k))] [] w n 0 0 (fun r w' n' => r = some (.int (bitsOf (fun b => decide (bitsOf (gd (tM M) b) P = (1 : Int32) <<< (i &&& 31))) B)) ∧ (MW w' o M n ∧ mFr w w' o) ∧ n' = n) := by
    intro m
    induction m with
    | zero =>
      intro k hk
      have hk : k = B := by omega
      subst hk
      refine r_iload_n (i := 3) i_M_alone_20 rfl rfl ?_
      refine r_aload_n (i := 0) i_M_alone_21 rfl rfl ?_
      refine r_getf (ci := 6) (T := Fk6) (k := 13) o_M_alone i_M_alone_22 x_M_80 rfl (by decide) rfl (by repeat (first | assumption | exact upw_s | refine (upw_n (by omega)).trans ?_)) (by first | assumption | omega) (by rfl) ?_
      refine r_icmp_ge 55 i_M_alone_25 (by decide) (fun h25 => ?_) (fun h25 => (absurd (by rw [hB]; exact nI_le (Nat.le_refl _) (by omega)) h25))
      refine r_iload_n (i := 2) i_M_alone_55 rfl rfl ?_
      refine r_ireturn i_M_alone_56 t_M_alone rfl ?_
      first | exact ⟨rfl, hp9, rfl⟩ | exact ⟨rfl, ⟨h, fun _ _ => rfl⟩, rfl⟩
    | succ m ih =>
      intro k hk
      have ih' := ih (k + 1) (by omega)
      rw [bits_s] at ih'
      refine r_iload_n (i := 3) i_M_alone_20 rfl rfl ?_
      refine r_aload_n (i := 0) i_M_alone_21 rfl rfl ?_
      refine r_getf (ci := 6) (T := Fk6) (k := 13) o_M_alone i_M_alone_22 x_M_80 rfl (by decide) rfl (by repeat (first | assumption | exact upw_s | refine (upw_n (by omega)).trans ?_)) (by first | assumption | omega) (by rfl) ?_
      refine r_icmp_ge 55 i_M_alone_25 (by decide) (fun h25 => (absurd h25 (by rw [hB]; exact nI_ge (by omega) (by omega)))) (fun h25 => ?_)
      refine r_iload_n (i := 2) i_M_alone_28 rfl rfl ?_
      refine r_aload_n (i := 0) i_M_alone_29 rfl rfl ?_
      refine r_iload_n (i := 3) i_M_alone_30 rfl rfl ?_
      refine f_virtual o_M_alone k_M_goodBy v_M_goodBy x_M_248 i_M_alone_31 o_M_goodBy (c_M_goodBy h (by omega) hP hP7) rfl (rcv_ob (by repeat (first | assumption | exact upw_s | refine (upw_n (by omega)).trans ?_)) rfl (by first | assumption | omega)) rfl (by decide) (Nat.le_of_ble_eq_true rfl) ?_
      refine r_iconst (v := (1 : Int32)) i_M_alone_34 rfl ?_
      refine r_iload_n (i := 1) i_M_alone_35 rfl rfl ?_
      refine r_ishl i_M_alone_36 ?_
      refine r_icmp_ne 46 i_M_alone_37 (by decide) (fun h37 => ?_) (fun h37 => ?_)
      · skip
        rw [if_neg (by rw [decide_eq_false h37]; decide)] at ih'
        refine r_iconst (v := (0 : Int32)) i_M_alone_46 rfl ?_
        refine r_ior i_M_alone_47 ?_
        refine r_istore_2 i_M_alone_48 (by rw [l_M_alone]; decide) rfl ?_
        refine r_iinc_3 (v := (1 : Int32)) i_M_alone_49 rfl (by rw [l_M_alone]; decide) rfl ?_
        refine r_goto 20 i_M_alone_52 (by decide) ?_
        rw [nI_1]
        first | exact ih' | (rw [Int32.or_zero]; exact ih')
      · skip
        rw [if_pos (decide_eq_true h37)] at ih'
        refine r_iconst (v := (1 : Int32)) i_M_alone_40 rfl ?_
        refine r_iload_n (i := 3) i_M_alone_41 rfl rfl ?_
        refine r_ishl i_M_alone_42 ?_
        refine r_goto 47 i_M_alone_43 (by decide) ?_
        refine r_ior i_M_alone_47 ?_
        refine r_istore_2 i_M_alone_48 (by rw [l_M_alone]; decide) rfl ?_
        refine r_iinc_3 (v := (1 : Int32)) i_M_alone_49 rfl (by rw [l_M_alone]; decide) rfl ?_
        refine r_goto 20 i_M_alone_52 (by decide) ?_
        rw [nI_1]
        first | exact ih' | (rw [Int32.or_zero]; exact ih')
  unfold m2_alone
  rw [hP]
  refine r_aload_n (i := 0) i_M_alone_0 rfl rfl ?_
  refine r_iload_n (i := 1) i_M_alone_1 rfl rfl ?_
  refine r_i2l i_M_alone_2 ?_
  refine f_virtual o_M_alone k_M_isOne v_M_isOne x_M_112 i_M_alone_3 o_M_isOne (c_M_isOne h) rfl (rcv_ob (by repeat (first | assumption | exact upw_s | refine (upw_n (by omega)).trans ?_)) rfl (by first | assumption | omega)) rfl (by decide) (Nat.le_of_ble_eq_true rfl) ?_
  rw [hP, in_lt (by omega)]
  refine r_if_ne 16 i_M_alone_6 (by decide) (fun h6 => ?_) (fun h6 => ?_)
  · skip
    have h6 := bI_ne0.mp h6
    try rw [h6]
    refine r_iconst (v := (0 : Int32)) i_M_alone_16 rfl ?_
    refine r_istore_2 i_M_alone_17 (by rw [l_M_alone]; decide) rfl ?_
    refine r_iconst (v := (0 : Int32)) i_M_alone_18 rfl ?_
    refine r_istore_3 i_M_alone_19 (by rw [l_M_alone]; decide) rfl ?_
    rw [if_pos rfl]
    exact hloop B 0 (by omega)
  · skip
    have h6 := bI_eq0.mp h6
    try rw [h6]
    refine r_aload_n (i := 0) i_M_alone_9 rfl rfl ?_
    refine r_bipush (v := (-2 : Int32)) i_M_alone_10 (by decide) ?_
    refine m_virtual o_M_alone k_M_refuse v_M_refuse x_M_89 i_M_alone_12 o_M_refuse (c_M_refuse (i := 2) h (by decide)) rfl (rcv_ob (by repeat (first | assumption | exact upw_s | refine (upw_n (by omega)).trans ?_)) rfl (by first | assumption | omega)) rfl (by decide) (Nat.le_of_ble_eq_true rfl) (Nat.zero_le _) (Nat.zero_le _) (fun rr12 wr12 nr12 hp9 => ?_)
    obtain ⟨rfl, hp9, rfl⟩ := hp9
    refine r_ireturn i_M_alone_15 t_M_alone rfl ?_
    first | exact ⟨rfl, hp9, rfl⟩ | exact ⟨rfl, ⟨h, fun _ _ => rfl⟩, rfl⟩
def m2_party (M : aM) (P B : Nat) (i : Int32) : Int32 × aM := if lt0 i (M.1 10) = true then (bitsOf (fun b => partyN (tM M) b i) B, M) else (-2, mR M 2)
theorem c_M_party {P B : Nat} {i : Int32} (h : MW w o M n) (hP : M.1 10 = nI P) (hP7 : P ≤ 7) (hB : M.1 13 = nI B) (hB7 : B ≤ 7) : Mm G 3 y_M_party [.ref o, .int i] w o n (m2_party M P B i) := by
  obtain ⟨m0, mA', mL', m4, m20, m28, mn'⟩ := id h
  refine Mm.of k_M_party l_M_party rfl rfl ?_
  have hloop : ∀ m k, k + m = B → Go G 3 y_M_party 20 [some (.ref o), some (.int i), some (.int (bitsOf (fun b => partyN (tM M) b i) k)), some (.int (nI k))] [] w n 0 0 (fun r w' n' => r = some (.int (bitsOf (fun b => partyN (tM M) b i) B)) ∧ (MW w' o M n ∧ mFr w w' o) ∧ n' = n) := by
    intro m
    induction m with
    | zero =>
      intro k hk
      have hk : k = B := by omega
      subst hk
      refine r_iload_n (i := 3) i_M_party_20 rfl rfl ?_
      refine r_aload_n (i := 0) i_M_party_21 rfl rfl ?_
      refine r_getf (ci := 6) (T := Fk6) (k := 13) o_M_party i_M_party_22 x_M_80 rfl (by decide) rfl (by repeat (first | assumption | exact upw_s | refine (upw_n (by omega)).trans ?_)) (by first | assumption | omega) (by rfl) ?_
      refine r_icmp_ge 53 i_M_party_25 (by decide) (fun h25 => ?_) (fun h25 => (absurd (by rw [hB]; exact nI_le (Nat.le_refl _) (by omega)) h25))
      refine r_iload_n (i := 2) i_M_party_53 rfl rfl ?_
      refine r_ireturn i_M_party_54 t_M_party rfl ?_
      first | exact ⟨rfl, hp9, rfl⟩ | exact ⟨rfl, ⟨h, fun _ _ => rfl⟩, rfl⟩
    | succ m ih =>
      intro k hk
      have ih' := ih (k + 1) (by omega)
      rw [bits_s] at ih'
      refine r_iload_n (i := 3) i_M_party_20 rfl rfl ?_
      refine r_aload_n (i := 0) i_M_party_21 rfl rfl ?_
      refine r_getf (ci := 6) (T := Fk6) (k := 13) o_M_party i_M_party_22 x_M_80 rfl (by decide) rfl (by repeat (first | assumption | exact upw_s | refine (upw_n (by omega)).trans ?_)) (by first | assumption | omega) (by rfl) ?_
      refine r_icmp_ge 53 i_M_party_25 (by decide) (fun h25 => (absurd h25 (by rw [hB]; exact nI_ge (by omega) (by omega)))) (fun h25 => ?_)
      refine r_iload_n (i := 2) i_M_party_28 rfl rfl ?_
      refine r_aload_n (i := 0) i_M_party_29 rfl rfl ?_
      refine r_iload_n (i := 3) i_M_party_30 rfl rfl ?_
      refine r_iload_n (i := 1) i_M_party_31 rfl rfl ?_
      refine f_virtual o_M_party k_M_isParty v_M_isParty x_M_240 i_M_party_32 o_M_isParty (c_M_isParty h (by omega)) rfl (rcv_ob (by repeat (first | assumption | exact upw_s | refine (upw_n (by omega)).trans ?_)) rfl (by first | assumption | omega)) rfl (by decide) (Nat.le_of_ble_eq_true rfl) ?_
      refine r_if_eq 44 i_M_party_35 (by decide) (fun h35 => ?_) (fun h35 => ?_)
      · skip
        have h35 := bI_eq0.mp h35
        rw [if_neg (by rw [h35]; decide)] at ih'
        refine r_iconst (v := (0 : Int32)) i_M_party_44 rfl ?_
        refine r_ior i_M_party_45 ?_
        refine r_istore_2 i_M_party_46 (by rw [l_M_party]; decide) rfl ?_
        refine r_iinc_3 (v := (1 : Int32)) i_M_party_47 rfl (by rw [l_M_party]; decide) rfl ?_
        refine r_goto 20 i_M_party_50 (by decide) ?_
        rw [nI_1]
        first | exact ih' | (rw [Int32.or_zero]; exact ih')
      · skip
        have h35 := bI_ne0.mp h35
        rw [if_pos h35] at ih'
        refine r_iconst (v := (1 : Int32)) i_M_party_38 rfl ?_
        refine r_iload_n (i := 3) i_M_party_39 rfl rfl ?_
        refine r_ishl i_M_party_40 ?_
        refine r_goto 45 i_M_party_41 (by decide) ?_
        refine r_ior i_M_party_45 ?_
        refine r_istore_2 i_M_party_46 (by rw [l_M_party]; decide) rfl ?_
        refine r_iinc_3 (v := (1 : Int32)) i_M_party_47 rfl (by rw [l_M_party]; decide) rfl ?_
        refine r_goto 20 i_M_party_50 (by decide) ?_
        rw [nI_1]
        first | exact ih' | (rw [Int32.or_zero]; exact ih')
  unfold m2_party
  rw [hP]
  refine r_aload_n (i := 0) i_M_party_0 rfl rfl ?_
  refine r_iload_n (i := 1) i_M_party_1 rfl rfl ?_
  refine r_i2l i_M_party_2 ?_
  refine f_virtual o_M_party k_M_isOne v_M_isOne x_M_112 i_M_party_3 o_M_isOne (c_M_isOne h) rfl (rcv_ob (by repeat (first | assumption | exact upw_s | refine (upw_n (by omega)).trans ?_)) rfl (by first | assumption | omega)) rfl (by decide) (Nat.le_of_ble_eq_true rfl) ?_
  rw [hP, in_lt (by omega)]
  refine r_if_ne 16 i_M_party_6 (by decide) (fun h6 => ?_) (fun h6 => ?_)
  · skip
    have h6 := bI_ne0.mp h6
    try rw [h6]
    refine r_iconst (v := (0 : Int32)) i_M_party_16 rfl ?_
    refine r_istore_2 i_M_party_17 (by rw [l_M_party]; decide) rfl ?_
    refine r_iconst (v := (0 : Int32)) i_M_party_18 rfl ?_
    refine r_istore_3 i_M_party_19 (by rw [l_M_party]; decide) rfl ?_
    rw [if_pos rfl]
    exact hloop B 0 (by omega)
  · skip
    have h6 := bI_eq0.mp h6
    try rw [h6]
    refine r_aload_n (i := 0) i_M_party_9 rfl rfl ?_
    refine r_bipush (v := (-2 : Int32)) i_M_party_10 (by decide) ?_
    refine m_virtual o_M_party k_M_refuse v_M_refuse x_M_89 i_M_party_12 o_M_refuse (c_M_refuse (i := 2) h (by decide)) rfl (rcv_ob (by repeat (first | assumption | exact upw_s | refine (upw_n (by omega)).trans ?_)) rfl (by first | assumption | omega)) rfl (by decide) (Nat.le_of_ble_eq_true rfl) (Nat.zero_le _) (Nat.zero_le _) (fun rr12 wr12 nr12 hp9 => ?_)
    obtain ⟨rfl, hp9, rfl⟩ := hp9
    refine r_ireturn i_M_party_15 t_M_party rfl ?_
    first | exact ⟨rfl, hp9, rfl⟩ | exact ⟨rfl, ⟨h, fun _ _ => rfl⟩, rfl⟩
end MNEV
