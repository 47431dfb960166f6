-- THE REFERENCE: fair, cross, says, name, weeks by a rule
def Mv (G : gE) (d z : Nat) (args : List Value) (w : aW) (o n : Nat) (M' : aM) : Prop := Mt G d z args w n 0 0 (fun r w' n' => r = none ∧ (MW w' o M' n ∧ mFr w w' o) ∧ n' = n)
theorem Mv.of {G : gE} {w : aW} {o n : Nat} {d z na nL : Nat} {args : List Value} {M' : aM} {ls : List (Option Value)} (hz : okM z na) (hm : ml z = nL) (hfit : Nat.ble (ent args).length nL = true) (hls : ent args ++ List.replicate (nL - (ent args).length) none = ls)
    (h : Go G d z 0 ls [] w n 0 0 (fun r w' n' => r = none ∧ (MW w' o M' n ∧ mFr w w' o) ∧ n' = n)) : Mv G d z args w o n M' := Mt.of hz hm (Nat.le_of_ble_eq_true hfit) hls h
theorem upd_at {f : Nat → Int32} {k : Nat} {x : Int32} : upd f k x k = x := if_pos rfl
section MBY
variable {G : gE} {w : aW} {o n : Nat} {M : aM}
def m2_fair (M : aM) (P : Nat) : Int32 × aM := if P = 0 then (-5, mR M 5) else ((fpF M (P - 1)).1 - (fpF M (P - 1)).2, M)
theorem c_M_fair {P : Nat} (h : MW w o M n) (hP : M.1 10 = nI P) (hP7 : P ≤ 7) : Mm G 1 y_M_fair [.ref o] w o n (m2_fair M P) := by
  obtain ⟨m0, mA', mL', m4, m20, m28, mn'⟩ := id h
  have a19 : w (o + 19) = ai 7 (M.2.1 19) := mA' 19 rfl
  have i0 : vp_in 0 7 := vp_in_nI (n := 0) (by decide) (by decide)
  refine Mm.of k_M_fair l_M_fair rfl rfl ?_
  unfold m2_fair
  have hloop : ∀ m k, k + 1 + m = P → Go G 1 y_M_fair 30 [some (.ref o), some (.int (fpF M k).1), some (.int (fpF M k).2), some (.int (nI (k + 1)))] [] w n 0 0 (fun r w' n' => r = some (.int ((fpF M (P - 1)).1 - (fpF M (P - 1)).2)) ∧ (MW w' o M n ∧ mFr w w' o) ∧ n' = n) := by
    intro m
    induction m with
    | zero =>
      intro k hk
      have hk : k = P - 1 := by omega
      subst hk
      refine r_iload_n (i := 3) i_M_fair_30 rfl rfl ?_
      refine r_aload_n (i := 0) i_M_fair_31 rfl rfl ?_
      refine r_getf (ci := 6) (T := Fk6) (k := 10) o_M_fair i_M_fair_32 x_M_73 rfl (by decide) rfl (by repeat (first | assumption | exact upw_s | refine (upw_n (by omega)).trans ?_)) (by first | assumption | omega) (by rfl) ?_
      refine r_icmp_ge 86 i_M_fair_35 (by decide) (fun h35 => ?_) (fun h35 => (absurd (by rw [hP]; exact nI_le (by omega) (by omega)) h35))
      refine r_iload_n (i := 1) i_M_fair_86 rfl rfl ?_
      refine r_iload_n (i := 2) i_M_fair_87 rfl rfl ?_
      refine r_isub i_M_fair_88 ?_
      refine r_ireturn i_M_fair_89 t_M_fair rfl ?_
      exact ⟨rfl, ⟨h, mFr.rf⟩, rfl⟩
    | succ m ih =>
      intro k hk
      have ih' := ih (k + 1) (by omega)
      have e7 : fpF M (k + 1) = (if (fpF M k).1 < M.2.1 19 (k + 1) then M.2.1 19 (k + 1) else (fpF M k).1, if M.2.1 19 (k + 1) < (fpF M k).2 then M.2.1 19 (k + 1) else (fpF M k).2) := rfl
      rw [e7] at ih'
      generalize fpF M k = p at *
      have it : vp_in (nI (k + 1)) 7 := vp_in_nI (by omega) (by decide)
      have ec : (nI (k + 1)).toNatClampNeg = k + 1 := nI_clamp (by omega)
      refine r_iload_n (i := 3) i_M_fair_30 rfl rfl ?_
      refine r_aload_n (i := 0) i_M_fair_31 rfl rfl ?_
      refine r_getf (ci := 6) (T := Fk6) (k := 10) o_M_fair i_M_fair_32 x_M_73 rfl (by decide) rfl (by repeat (first | assumption | exact upw_s | refine (upw_n (by omega)).trans ?_)) (by first | assumption | omega) (by rfl) ?_
      refine r_icmp_ge 86 i_M_fair_35 (by decide) (fun h35 => (absurd h35 (by rw [hP]; exact nI_ge (by omega) (by omega)))) (fun h35 => ?_)
      refine r_aload_n (i := 0) i_M_fair_38 rfl rfl ?_
      refine r_getf (ci := 6) (T := Fk6) (k := 12) o_M_fair i_M_fair_39 x_M_43 rfl (by decide) rfl (by repeat (first | assumption | exact upw_s | refine (upw_n (by omega)).trans ?_)) (by first | assumption | omega) (by rfl) ?_
      refine r_iload_n (i := 3) i_M_fair_42 rfl rfl ?_
      refine r_iald i_M_fair_43 (by repeat (first | assumption | exact upw_s | refine (upw_n (by omega)).trans ?_)) (by first | assumption | omega) (by assumption) ?_
      rw [ec]
      refine r_iload_n (i := 1) i_M_fair_44 rfl rfl ?_
      refine r_icmp_le 57 i_M_fair_45 (by decide) (fun h45 => ?_) (fun h45 => ?_)
      · skip
        rw [if_neg (Int32.not_lt.mpr h45)] at ih'
        refine r_iload_n (i := 1) i_M_fair_57 rfl rfl ?_
        try rw [ec]
        refine r_istore_1 i_M_fair_58 (by rw [l_M_fair]; decide) rfl ?_
        refine r_aload_n (i := 0) i_M_fair_59 rfl rfl ?_
        refine r_getf (ci := 6) (T := Fk6) (k := 12) o_M_fair i_M_fair_60 x_M_43 rfl (by decide) rfl (by repeat (first | assumption | exact upw_s | refine (upw_n (by omega)).trans ?_)) (by first | assumption | omega) (by rfl) ?_
        refine r_iload_n (i := 3) i_M_fair_63 rfl rfl ?_
        refine r_iald i_M_fair_64 (by repeat (first | assumption | exact upw_s | refine (upw_n (by omega)).trans ?_)) (by first | assumption | omega) (by assumption) ?_
        rw [ec]
        refine r_iload_n (i := 2) i_M_fair_65 rfl rfl ?_
        refine r_icmp_ge 78 i_M_fair_66 (by decide) (fun h66 => ?_) (fun h66 => ?_)
        · skip
          rw [if_neg (Int32.not_lt.mpr h66)] at ih'
          refine r_iload_n (i := 2) i_M_fair_78 rfl rfl ?_
          try rw [ec]
          refine r_istore_2 i_M_fair_79 (by rw [l_M_fair]; decide) rfl ?_
          refine r_iinc_3 (v := (1 : Int32)) i_M_fair_80 rfl (by rw [l_M_fair]; decide) rfl ?_
          refine r_goto 30 i_M_fair_83 (by decide) ?_
          rw [nI_1]
          exact ih'
        · skip
          rw [if_pos (Int32.not_le.mp h66)] at ih'
          refine r_aload_n (i := 0) i_M_fair_69 rfl rfl ?_
          refine r_getf (ci := 6) (T := Fk6) (k := 12) o_M_fair i_M_fair_70 x_M_43 rfl (by decide) rfl (by repeat (first | assumption | exact upw_s | refine (upw_n (by omega)).trans ?_)) (by first | assumption | omega) (by rfl) ?_
          refine r_iload_n (i := 3) i_M_fair_73 rfl rfl ?_
          refine r_iald i_M_fair_74 (by repeat (first | assumption | exact upw_s | refine (upw_n (by omega)).trans ?_)) (by first | assumption | omega) (by assumption) ?_
          refine r_goto 79 i_M_fair_75 (by decide) ?_
          try rw [ec]
          refine r_istore_2 i_M_fair_79 (by rw [l_M_fair]; decide) rfl ?_
          refine r_iinc_3 (v := (1 : Int32)) i_M_fair_80 rfl (by rw [l_M_fair]; decide) rfl ?_
          refine r_goto 30 i_M_fair_83 (by decide) ?_
          rw [nI_1]
          exact ih'
      · skip
        rw [if_pos (Int32.not_le.mp h45)] at ih'
        refine r_aload_n (i := 0) i_M_fair_48 rfl rfl ?_
        refine r_getf (ci := 6) (T := Fk6) (k := 12) o_M_fair i_M_fair_49 x_M_43 rfl (by decide) rfl (by repeat (first | assumption | exact upw_s | refine (upw_n (by omega)).trans ?_)) (by first | assumption | omega) (by rfl) ?_
        refine r_iload_n (i := 3) i_M_fair_52 rfl rfl ?_
        refine r_iald i_M_fair_53 (by repeat (first | assumption | exact upw_s | refine (upw_n (by omega)).trans ?_)) (by first | assumption | omega) (by assumption) ?_
        refine r_goto 58 i_M_fair_54 (by decide) ?_
        try rw [ec]
        refine r_istore_1 i_M_fair_58 (by rw [l_M_fair]; decide) rfl ?_
        refine r_aload_n (i := 0) i_M_fair_59 rfl rfl ?_
        refine r_getf (ci := 6) (T := Fk6) (k := 12) o_M_fair i_M_fair_60 x_M_43 rfl (by decide) rfl (by repeat (first | assumption | exact upw_s | refine (upw_n (by omega)).trans ?_)) (by first | assumption | omega) (by rfl) ?_
        refine r_iload_n (i := 3) i_M_fair_63 rfl rfl ?_
        refine r_iald i_M_fair_64 (by repeat (first | assumption | exact upw_s | refine (upw_n (by omega)).trans ?_)) (by first | assumption | omega) (by assumption) ?_
        rw [ec]
        refine r_iload_n (i := 2) i_M_fair_65 rfl rfl ?_
        refine r_icmp_ge 78 i_M_fair_66 (by decide) (fun h66 => ?_) (fun h66 => ?_)
        · skip
          rw [if_neg (Int32.not_lt.mpr h66)] at ih'
          refine r_iload_n (i := 2) i_M_fair_78 rfl rfl ?_
          try rw [ec]
          refine r_istore_2 i_M_fair_79 (by rw [l_M_fair]; decide) rfl ?_
          refine r_iinc_3 (v := (1 : Int32)) i_M_fair_80 rfl (by rw [l_M_fair]; decide) rfl ?_
          refine r_goto 30 i_M_fair_83 (by decide) ?_
          rw [nI_1]
          exact ih'
        · skip
          rw [if_pos (Int32.not_le.mp h66)] at ih'
          refine r_aload_n (i := 0) i_M_fair_69 rfl rfl ?_
          refine r_getf (ci := 6) (T := Fk6) (k := 12) o_M_fair i_M_fair_70 x_M_43 rfl (by decide) rfl (by repeat (first | assumption | exact upw_s | refine (upw_n (by omega)).trans ?_)) (by first | assumption | omega) (by rfl) ?_
          refine r_iload_n (i := 3) i_M_fair_73 rfl rfl ?_
          refine r_iald i_M_fair_74 (by repeat (first | assumption | exact upw_s | refine (upw_n (by omega)).trans ?_)) (by first | assumption | omega) (by assumption) ?_
          refine r_goto 79 i_M_fair_75 (by decide) ?_
          try rw [ec]
          refine r_istore_2 i_M_fair_79 (by rw [l_M_fair]; decide) rfl ?_
          refine r_iinc_3 (v := (1 : Int32)) i_M_fair_80 rfl (by rw [l_M_fair]; decide) rfl ?_
          refine r_goto 30 i_M_fair_83 (by decide) ?_
          rw [nI_1]
          exact ih'
  refine r_aload_n (i := 0) i_M_fair_0 rfl rfl ?_
  refine r_getf (ci := 6) (T := Fk6) (k := 10) o_M_fair i_M_fair_1 x_M_73 rfl (by decide) rfl (by repeat (first | assumption | exact upw_s | refine (upw_n (by omega)).trans ?_)) (by first | assumption | omega) (by rfl) ?_
  refine r_if_ne 14 i_M_fair_4 (by decide) (fun h4 => ?_) (fun h4 => ?_)
  · skip
    have q4 : ¬ P = 0 := fun q => h4 (hP.trans (by rw [q]; rfl))
    rw [if_neg q4]
    refine r_aload_n (i := 0) i_M_fair_14 rfl rfl ?_
    refine r_getf (ci := 6) (T := Fk6) (k := 12) o_M_fair i_M_fair_15 x_M_43 rfl (by decide) rfl (by repeat (first | assumption | exact upw_s | refine (upw_n (by omega)).trans ?_)) (by first | assumption | omega) (by rfl) ?_
    refine r_iconst (v := (0 : Int32)) i_M_fair_18 rfl ?_
    refine r_iald i_M_fair_19 (by repeat (first | assumption | exact upw_s | refine (upw_n (by omega)).trans ?_)) (by first | assumption | omega) (by assumption) ?_
    refine r_istore_1 i_M_fair_20 (by rw [l_M_fair]; decide) rfl ?_
    refine r_aload_n (i := 0) i_M_fair_21 rfl rfl ?_
    refine r_getf (ci := 6) (T := Fk6) (k := 12) o_M_fair i_M_fair_22 x_M_43 rfl (by decide) rfl (by repeat (first | assumption | exact upw_s | refine (upw_n (by omega)).trans ?_)) (by first | assumption | omega) (by rfl) ?_
    refine r_iconst (v := (0 : Int32)) i_M_fair_25 rfl ?_
    refine r_iald i_M_fair_26 (by repeat (first | assumption | exact upw_s | refine (upw_n (by omega)).trans ?_)) (by first | assumption | omega) (by assumption) ?_
    refine r_istore_2 i_M_fair_27 (by rw [l_M_fair]; decide) rfl ?_
    refine r_iconst (v := (1 : Int32)) i_M_fair_28 rfl ?_
    refine r_istore_3 i_M_fair_29 (by rw [l_M_fair]; decide) rfl ?_
    exact hloop (P - 1) 0 (by omega)
  · skip
    rw [if_pos ((nI_eq (a := P) (b := 0) (by omega) (by decide)).mp (hP.symm.trans h4))]
    refine r_aload_n (i := 0) i_M_fair_7 rfl rfl ?_
    refine r_bipush (v := (-5 : Int32)) i_M_fair_8 (by decide) ?_
    refine m_virtual o_M_fair k_M_refuse v_M_refuse x_M_89 i_M_fair_10 o_M_refuse (c_M_refuse (i := 5) h (by decide)) rfl (rcv_ob (by repeat (first | assumption | exact upw_s | refine (upw_n (by omega)).trans ?_)) rfl (by first | assumption | omega)) rfl (by decide) (Nat.le_of_ble_eq_true rfl) (Nat.zero_le _) (Nat.zero_le _) (fun rr10 wr10 nr10 hp9 => ?_)
    obtain ⟨rfl, hp9, rfl⟩ := hp9
    refine r_ireturn i_M_fair_13 t_M_fair rfl ?_
    first | exact ⟨rfl, hp9, rfl⟩ | exact ⟨rfl, ⟨h, fun _ _ => rfl⟩, rfl⟩
theorem pfM_cases {b p q : Nat} : pfM M b p q = -1 ∨ pfM M b p q = nI p ∨ pfM M b p q = nI q := by
  unfold pfM
  split
  · split
    · exact Or.inr (Or.inr rfl)
    · exact Or.inr (Or.inl rfl)
  · split
    · exact Or.inr (Or.inr rfl)
    · exact Or.inl rfl
theorem pfN_cases {B b c : Nat} (hk : PMk M B) (hc : c < B) : pfN M b c = -1 ∨ ∃ t, t < 7 ∧ pfN M b c = nI t := by
  obtain ⟨p, q, hp, hq, ep, eq⟩ := hk c hc
  unfold pfN
  rw [ep, eq, nI_clamp (by omega), nI_clamp (by omega)]
  rcases pfM_cases (M := M) (b := b) (p := p) (q := q) with e | e | e
  · exact Or.inl e
  · exact Or.inr ⟨p, hp, e⟩
  · exact Or.inr ⟨q, hq, e⟩
def crM (M : aM) (b c : Nat) : Bool := !decide (pfN M b c = -1) && !decide (pfN M c b = -1)
def m2_cross (M : aM) (b c k : Int32) : Int32 × aM := if (lt0 b (M.1 13) && (lt0 c (M.1 13) && (!decide (b = c) && lt0 k 2))) = true then (if k = 0 then (bI (crM M b.toNatClampNeg c.toNatClampNeg), M) else if crM M b.toNatClampNeg c.toNatClampNeg = true then (valN (tM M) b.toNatClampNeg (pfN M b.toNatClampNeg c.toNatClampNeg).toNatClampNeg + valN (tM M) c.toNatClampNeg (pfN M c.toNatClampNeg b.toNatClampNeg).toNatClampNeg, M) else (-1000000 + -5, mR M 5)) else (-1000000 + -2, mR M 2)
theorem c_M_cross {B : Nat} {b c k : Int32} (h : MW w o M n) (hB : M.1 13 = nI B) (hB7 : B ≤ 7) (hk : PMk M B) : Mm G 3 y_M_cross [.ref o, .int b, .int c, .int k] w o n (m2_cross M b c k) := by
  obtain ⟨m0, mA', mL', m4, m20, m28, mn'⟩ := id h
  refine Mm.of k_M_cross l_M_cross rfl rfl ?_
  unfold m2_cross
  rw [hB]
  refine r_aload_n (i := 0) i_M_cross_0 rfl rfl ?_
  refine r_iload_n (i := 1) i_M_cross_1 rfl rfl ?_
  refine f_virtual o_M_cross k_M_isBargain v_M_isBargain x_M_116 i_M_cross_2 o_M_isBargain (c_M_isBargain h) rfl (rcv_ob (by repeat (first | assumption | exact upw_s | refine (upw_n (by omega)).trans ?_)) rfl (by first | assumption | omega)) rfl (by decide) (Nat.le_of_ble_eq_true rfl) ?_
  rw [hB, in_lt (by omega)]
  refine r_if_eq 31 i_M_cross_5 (by decide) (fun h5 => ?_) (fun h5 => ?_)
  · skip
    have h5 := bI_eq0.mp h5
    try rw [h5]
    refine r_ldc o_M_cross i_M_cross_31 x_M_239 ?_
    refine r_aload_n (i := 0) i_M_cross_33 rfl rfl ?_
    refine r_bipush (v := (-2 : Int32)) i_M_cross_34 (by decide) ?_
    refine m_virtual o_M_cross k_M_refuse v_M_refuse x_M_89 i_M_cross_36 o_M_refuse (c_M_refuse (i := 2) h (by decide)) rfl (rcv_ob (by repeat (first | assumption | exact upw_s | refine (upw_n (by omega)).trans ?_)) rfl (by first | assumption | omega)) rfl (by decide) (Nat.le_of_ble_eq_true rfl) (Nat.zero_le _) (Nat.zero_le _) (fun rr36 wr36 nr36 hp9 => ?_)
    obtain ⟨rfl, hp9, rfl⟩ := hp9
    refine r_iadd i_M_cross_39 ?_
    refine r_ireturn i_M_cross_40 t_M_cross rfl ?_
    first | exact ⟨rfl, hp9, rfl⟩ | exact ⟨rfl, ⟨h, fun _ _ => rfl⟩, rfl⟩
  · skip
    have h5 := bI_ne0.mp h5
    try rw [h5]
    refine r_aload_n (i := 0) i_M_cross_8 rfl rfl ?_
    refine r_iload_n (i := 2) i_M_cross_9 rfl rfl ?_
    refine f_virtual o_M_cross k_M_isBargain v_M_isBargain x_M_116 i_M_cross_10 o_M_isBargain (c_M_isBargain h) rfl (rcv_ob (by repeat (first | assumption | exact upw_s | refine (upw_n (by omega)).trans ?_)) rfl (by first | assumption | omega)) rfl (by decide) (Nat.le_of_ble_eq_true rfl) ?_
    rw [hB, in_lt (by omega)]
    refine r_if_eq 31 i_M_cross_13 (by decide) (fun h13 => ?_) (fun h13 => ?_)
    · skip
      have h13 := bI_eq0.mp h13
      try rw [h13]
      refine r_ldc o_M_cross i_M_cross_31 x_M_239 ?_
      refine r_aload_n (i := 0) i_M_cross_33 rfl rfl ?_
      refine r_bipush (v := (-2 : Int32)) i_M_cross_34 (by decide) ?_
      refine m_virtual o_M_cross k_M_refuse v_M_refuse x_M_89 i_M_cross_36 o_M_refuse (c_M_refuse (i := 2) h (by decide)) rfl (rcv_ob (by repeat (first | assumption | exact upw_s | refine (upw_n (by omega)).trans ?_)) rfl (by first | assumption | omega)) rfl (by decide) (Nat.le_of_ble_eq_true rfl) (Nat.zero_le _) (Nat.zero_le _) (fun rr36 wr36 nr36 hp9 => ?_)
      obtain ⟨rfl, hp9, rfl⟩ := hp9
      refine r_iadd i_M_cross_39 ?_
      refine r_ireturn i_M_cross_40 t_M_cross rfl ?_
      first | exact ⟨rfl, hp9, rfl⟩ | exact ⟨rfl, ⟨h, fun _ _ => rfl⟩, rfl⟩
    · skip
      have h13 := bI_ne0.mp h13
      try rw [h13]
      refine r_iload_n (i := 1) i_M_cross_16 rfl rfl ?_
      refine r_iload_n (i := 2) i_M_cross_17 rfl rfl ?_
      refine r_icmp_eq 31 i_M_cross_18 (by decide) (fun h18 => ?_) (fun h18 => ?_)
      · skip
        rw [decide_eq_true h18]
        refine r_ldc o_M_cross i_M_cross_31 x_M_239 ?_
        refine r_aload_n (i := 0) i_M_cross_33 rfl rfl ?_
        refine r_bipush (v := (-2 : Int32)) i_M_cross_34 (by decide) ?_
        refine m_virtual o_M_cross k_M_refuse v_M_refuse x_M_89 i_M_cross_36 o_M_refuse (c_M_refuse (i := 2) h (by decide)) rfl (rcv_ob (by repeat (first | assumption | exact upw_s | refine (upw_n (by omega)).trans ?_)) rfl (by first | assumption | omega)) rfl (by decide) (Nat.le_of_ble_eq_true rfl) (Nat.zero_le _) (Nat.zero_le _) (fun rr36 wr36 nr36 hp9 => ?_)
        obtain ⟨rfl, hp9, rfl⟩ := hp9
        refine r_iadd i_M_cross_39 ?_
        refine r_ireturn i_M_cross_40 t_M_cross rfl ?_
        first | exact ⟨rfl, hp9, rfl⟩ | exact ⟨rfl, ⟨h, fun _ _ => rfl⟩, rfl⟩
      · skip
        rw [decide_eq_false h18]
        refine r_iload_n (i := 3) i_M_cross_21 rfl rfl ?_
        refine r_i2l i_M_cross_22 ?_
        refine r_lconst (v := (0 : Int64)) i_M_cross_23 rfl ?_
        refine r_lconst (v := (1 : Int64)) i_M_cross_24 rfl ?_
        refine f_static o_M_cross k_M_in s_M_in x_M_76 i_M_cross_25 (c_M_in) rfl rfl (by decide) (Nat.le_of_ble_eq_true rfl) ?_
        rw [in_01]
        refine r_if_ne 41 i_M_cross_28 (by decide) (fun h28 => ?_) (fun h28 => ?_)
        · skip
          have h28 := bI_ne0.mp h28
          try rw [h28]
          obtain ⟨b, hb, rfl⟩ := lt0_of (by omega) h5
          obtain ⟨c, hc, rfl⟩ := lt0_of (by omega) h13
          rw [nI_clamp (by omega), nI_clamp (by omega)]
          rw [if_pos (show (true && (true && (!false && true))) = true from rfl)]
          have f1 := c_M_partyForN (G := G) (b := b) h hk hB7 (by omega) hc
          have f2 := c_M_partyForN (G := G) (b := c) h hk hB7 (by omega) hb
          have v1 : ∀ x, pfN M b c = x → ¬ x = -1 → Fn G 1 y_M_valueOf [.ref o, .int (nI b), .int x] w n (some (.int (valN (tM M) b x.toNatClampNeg))) w := by
            intro x hx hn
            obtain ⟨t, ht, e⟩ := (pfN_cases hk hc).resolve_left (fun q => hn (hx.symm.trans q))
            rw [← hx, e, nI_clamp (by omega)]
            exact c_M_valueOf h (by omega) ht
          have v2 : ∀ x, pfN M c b = x → ¬ x = -1 → Fn G 1 y_M_valueOf [.ref o, .int (nI c), .int x] w n (some (.int (valN (tM M) c x.toNatClampNeg))) w := by
            intro x hx hn
            obtain ⟨t, ht, e⟩ := (pfN_cases hk hb).resolve_left (fun q => hn (hx.symm.trans q))
            rw [← hx, e, nI_clamp (by omega)]
            exact c_M_valueOf h (by omega) ht
          unfold crM
          have v1 := v1 _ rfl
          have v2 := v2 _ rfl
          generalize pfN M b c = x1 at *
          generalize pfN M c b = x2 at *
          refine r_aload_n (i := 0) i_M_cross_41 rfl rfl ?_
          refine r_iload_n (i := 1) i_M_cross_42 rfl rfl ?_
          refine r_iload_n (i := 2) i_M_cross_43 rfl rfl ?_
          refine f_virtual o_M_cross k_M_partyFor v_M_partyFor x_M_313 i_M_cross_44 o_M_partyFor (f1) rfl (rcv_ob (by repeat (first | assumption | exact upw_s | refine (upw_n (by omega)).trans ?_)) rfl (by first | assumption | omega)) rfl (by decide) (Nat.le_of_ble_eq_true rfl) ?_
          refine r_istore_4 i_M_cross_47 (by rw [l_M_cross]; decide) rfl ?_
          refine r_aload_n (i := 0) i_M_cross_49 rfl rfl ?_
          refine r_iload_n (i := 2) i_M_cross_50 rfl rfl ?_
          refine r_iload_n (i := 1) i_M_cross_51 rfl rfl ?_
          refine f_virtual o_M_cross k_M_partyFor v_M_partyFor x_M_313 i_M_cross_52 o_M_partyFor (f2) rfl (rcv_ob (by repeat (first | assumption | exact upw_s | refine (upw_n (by omega)).trans ?_)) rfl (by first | assumption | omega)) rfl (by decide) (Nat.le_of_ble_eq_true rfl) ?_
          refine r_istore_5 i_M_cross_55 (by rw [l_M_cross]; decide) rfl ?_
          refine r_iload (i := 4) i_M_cross_57 rfl ?_
          refine r_iconst (v := (-1 : Int32)) i_M_cross_59 rfl ?_
          refine r_icmp_eq 73 i_M_cross_60 (by decide) (fun h60 => ?_) (fun h60 => ?_)
          · skip
            rw [decide_eq_true h60]
            refine r_iconst (v := (0 : Int32)) i_M_cross_73 rfl ?_
            refine r_istore_6 i_M_cross_74 (by rw [l_M_cross]; decide) rfl ?_
            refine r_iload_n (i := 3) i_M_cross_76 rfl rfl ?_
            refine r_if_ne 91 i_M_cross_77 (by decide) (fun h77 => ?_) (fun h77 => ?_)
            · skip
              rw [if_neg h77]
              refine r_iload (i := 6) i_M_cross_91 rfl ?_
              refine r_if_eq 114 i_M_cross_93 (by decide) (fun h93 => ?_) (fun h93 => ?_)
              · first
                | exact absurd h93 (by decide)
                | skip
                  refine r_ldc o_M_cross i_M_cross_114 x_M_239 ?_
                  refine r_aload_n (i := 0) i_M_cross_116 rfl rfl ?_
                  refine r_bipush (v := (-5 : Int32)) i_M_cross_117 (by decide) ?_
                  refine m_virtual o_M_cross k_M_refuse v_M_refuse x_M_89 i_M_cross_119 o_M_refuse (c_M_refuse (i := 5) h (by decide)) rfl (rcv_ob (by repeat (first | assumption | exact upw_s | refine (upw_n (by omega)).trans ?_)) rfl (by first | assumption | omega)) rfl (by decide) (Nat.le_of_ble_eq_true rfl) (Nat.zero_le _) (Nat.zero_le _) (fun rr119 wr119 nr119 hp9 => ?_)
                  obtain ⟨rfl, hp9, rfl⟩ := hp9
                  refine r_iadd i_M_cross_122 ?_
                  refine r_ireturn i_M_cross_123 t_M_cross rfl ?_
                  first | exact ⟨rfl, hp9, rfl⟩ | exact ⟨rfl, ⟨h, fun _ _ => rfl⟩, rfl⟩
              · first
                | exact absurd h93 (by decide)
                | skip
                  refine r_aload_n (i := 0) i_M_cross_96 rfl rfl ?_
                  refine r_iload_n (i := 1) i_M_cross_97 rfl rfl ?_
                  refine r_iload (i := 4) i_M_cross_98 rfl ?_
                  refine f_virtual o_M_cross k_M_valueOf v_M_valueOf x_M_251 i_M_cross_100 o_M_valueOf (v1 h60) rfl (rcv_ob (by repeat (first | assumption | exact upw_s | refine (upw_n (by omega)).trans ?_)) rfl (by first | assumption | omega)) rfl (by decide) (Nat.le_of_ble_eq_true rfl) ?_
                  refine r_aload_n (i := 0) i_M_cross_103 rfl rfl ?_
                  refine r_iload_n (i := 2) i_M_cross_104 rfl rfl ?_
                  refine r_iload (i := 5) i_M_cross_105 rfl ?_
                  refine f_virtual o_M_cross k_M_valueOf v_M_valueOf x_M_251 i_M_cross_107 o_M_valueOf (v2 h66) rfl (rcv_ob (by repeat (first | assumption | exact upw_s | refine (upw_n (by omega)).trans ?_)) rfl (by first | assumption | omega)) rfl (by decide) (Nat.le_of_ble_eq_true rfl) ?_
                  refine r_iadd i_M_cross_110 ?_
                  refine r_goto 123 i_M_cross_111 (by decide) ?_
                  refine r_ireturn i_M_cross_123 t_M_cross rfl ?_
                  first | exact ⟨rfl, hp9, rfl⟩ | exact ⟨rfl, ⟨h, fun _ _ => rfl⟩, rfl⟩
            · skip
              rw [if_pos h77]
              refine r_iload (i := 6) i_M_cross_80 rfl ?_
              refine r_if_eq 89 i_M_cross_82 (by decide) (fun h82 => ?_) (fun h82 => ?_)
              · first
                | exact absurd h82 (by decide)
                | skip
                  refine r_iconst (v := (0 : Int32)) i_M_cross_89 rfl ?_
                  refine r_ireturn i_M_cross_90 t_M_cross rfl ?_
                  first | exact ⟨rfl, hp9, rfl⟩ | exact ⟨rfl, ⟨h, fun _ _ => rfl⟩, rfl⟩
              · first
                | exact absurd h82 (by decide)
                | skip
                  refine r_iconst (v := (1 : Int32)) i_M_cross_85 rfl ?_
                  refine r_goto 90 i_M_cross_86 (by decide) ?_
                  refine r_ireturn i_M_cross_90 t_M_cross rfl ?_
                  first | exact ⟨rfl, hp9, rfl⟩ | exact ⟨rfl, ⟨h, fun _ _ => rfl⟩, rfl⟩
          · skip
            rw [decide_eq_false h60]
            refine r_iload (i := 5) i_M_cross_63 rfl ?_
            refine r_iconst (v := (-1 : Int32)) i_M_cross_65 rfl ?_
            refine r_icmp_eq 73 i_M_cross_66 (by decide) (fun h66 => ?_) (fun h66 => ?_)
            · skip
              rw [decide_eq_true h66]
              refine r_iconst (v := (0 : Int32)) i_M_cross_73 rfl ?_
              refine r_istore_6 i_M_cross_74 (by rw [l_M_cross]; decide) rfl ?_
              refine r_iload_n (i := 3) i_M_cross_76 rfl rfl ?_
              refine r_if_ne 91 i_M_cross_77 (by decide) (fun h77 => ?_) (fun h77 => ?_)
              · skip
                rw [if_neg h77]
                refine r_iload (i := 6) i_M_cross_91 rfl ?_
                refine r_if_eq 114 i_M_cross_93 (by decide) (fun h93 => ?_) (fun h93 => ?_)
                · first
                  | exact absurd h93 (by decide)
                  | skip
                    refine r_ldc o_M_cross i_M_cross_114 x_M_239 ?_
                    refine r_aload_n (i := 0) i_M_cross_116 rfl rfl ?_
                    refine r_bipush (v := (-5 : Int32)) i_M_cross_117 (by decide) ?_
                    refine m_virtual o_M_cross k_M_refuse v_M_refuse x_M_89 i_M_cross_119 o_M_refuse (c_M_refuse (i := 5) h (by decide)) rfl (rcv_ob (by repeat (first | assumption | exact upw_s | refine (upw_n (by omega)).trans ?_)) rfl (by first | assumption | omega)) rfl (by decide) (Nat.le_of_ble_eq_true rfl) (Nat.zero_le _) (Nat.zero_le _) (fun rr119 wr119 nr119 hp9 => ?_)
                    obtain ⟨rfl, hp9, rfl⟩ := hp9
                    refine r_iadd i_M_cross_122 ?_
                    refine r_ireturn i_M_cross_123 t_M_cross rfl ?_
                    first | exact ⟨rfl, hp9, rfl⟩ | exact ⟨rfl, ⟨h, fun _ _ => rfl⟩, rfl⟩
                · first
                  | exact absurd h93 (by decide)
                  | skip
                    refine r_aload_n (i := 0) i_M_cross_96 rfl rfl ?_
                    refine r_iload_n (i := 1) i_M_cross_97 rfl rfl ?_
                    refine r_iload (i := 4) i_M_cross_98 rfl ?_
                    refine f_virtual o_M_cross k_M_valueOf v_M_valueOf x_M_251 i_M_cross_100 o_M_valueOf (v1 h60) rfl (rcv_ob (by repeat (first | assumption | exact upw_s | refine (upw_n (by omega)).trans ?_)) rfl (by first | assumption | omega)) rfl (by decide) (Nat.le_of_ble_eq_true rfl) ?_
                    refine r_aload_n (i := 0) i_M_cross_103 rfl rfl ?_
                    refine r_iload_n (i := 2) i_M_cross_104 rfl rfl ?_
                    refine r_iload (i := 5) i_M_cross_105 rfl ?_
                    refine f_virtual o_M_cross k_M_valueOf v_M_valueOf x_M_251 i_M_cross_107 o_M_valueOf (v2 h66) rfl (rcv_ob (by repeat (first | assumption | exact upw_s | refine (upw_n (by omega)).trans ?_)) rfl (by first | assumption | omega)) rfl (by decide) (Nat.le_of_ble_eq_true rfl) ?_
                    refine r_iadd i_M_cross_110 ?_
                    refine r_goto 123 i_M_cross_111 (by decide) ?_
                    refine r_ireturn i_M_cross_123 t_M_cross rfl ?_
                    first | exact ⟨rfl, hp9, rfl⟩ | exact ⟨rfl, ⟨h, fun _ _ => rfl⟩, rfl⟩
              · skip
                rw [if_pos h77]
                refine r_iload (i := 6) i_M_cross_80 rfl ?_
                refine r_if_eq 89 i_M_cross_82 (by decide) (fun h82 => ?_) (fun h82 => ?_)
                · first
                  | exact absurd h82 (by decide)
                  | skip
                    refine r_iconst (v := (0 : Int32)) i_M_cross_89 rfl ?_
                    refine r_ireturn i_M_cross_90 t_M_cross rfl ?_
                    first | exact ⟨rfl, hp9, rfl⟩ | exact ⟨rfl, ⟨h, fun _ _ => rfl⟩, rfl⟩
                · first
                  | exact absurd h82 (by decide)
                  | skip
                    refine r_iconst (v := (1 : Int32)) i_M_cross_85 rfl ?_
                    refine r_goto 90 i_M_cross_86 (by decide) ?_
                    refine r_ireturn i_M_cross_90 t_M_cross rfl ?_
                    first | exact ⟨rfl, hp9, rfl⟩ | exact ⟨rfl, ⟨h, fun _ _ => rfl⟩, rfl⟩
            · skip
              rw [decide_eq_false h66]
              refine r_iconst (v := (1 : Int32)) i_M_cross_69 rfl ?_
              refine r_goto 74 i_M_cross_70 (by decide) ?_
              refine r_istore_6 i_M_cross_74 (by rw [l_M_cross]; decide) rfl ?_
              refine r_iload_n (i := 3) i_M_cross_76 rfl rfl ?_
              refine r_if_ne 91 i_M_cross_77 (by decide) (fun h77 => ?_) (fun h77 => ?_)
              · skip
                rw [if_neg h77]
                refine r_iload (i := 6) i_M_cross_91 rfl ?_
                refine r_if_eq 114 i_M_cross_93 (by decide) (fun h93 => ?_) (fun h93 => ?_)
                · first
                  | exact absurd h93 (by decide)
                  | skip
                    refine r_ldc o_M_cross i_M_cross_114 x_M_239 ?_
                    refine r_aload_n (i := 0) i_M_cross_116 rfl rfl ?_
                    refine r_bipush (v := (-5 : Int32)) i_M_cross_117 (by decide) ?_
                    refine m_virtual o_M_cross k_M_refuse v_M_refuse x_M_89 i_M_cross_119 o_M_refuse (c_M_refuse (i := 5) h (by decide)) rfl (rcv_ob (by repeat (first | assumption | exact upw_s | refine (upw_n (by omega)).trans ?_)) rfl (by first | assumption | omega)) rfl (by decide) (Nat.le_of_ble_eq_true rfl) (Nat.zero_le _) (Nat.zero_le _) (fun rr119 wr119 nr119 hp9 => ?_)
                    obtain ⟨rfl, hp9, rfl⟩ := hp9
                    refine r_iadd i_M_cross_122 ?_
                    refine r_ireturn i_M_cross_123 t_M_cross rfl ?_
                    first | exact ⟨rfl, hp9, rfl⟩ | exact ⟨rfl, ⟨h, fun _ _ => rfl⟩, rfl⟩
                · first
                  | exact absurd h93 (by decide)
                  | skip
                    refine r_aload_n (i := 0) i_M_cross_96 rfl rfl ?_
                    refine r_iload_n (i := 1) i_M_cross_97 rfl rfl ?_
                    refine r_iload (i := 4) i_M_cross_98 rfl ?_
                    refine f_virtual o_M_cross k_M_valueOf v_M_valueOf x_M_251 i_M_cross_100 o_M_valueOf (v1 h60) rfl (rcv_ob (by repeat (first | assumption | exact upw_s | refine (upw_n (by omega)).trans ?_)) rfl (by first | assumption | omega)) rfl (by decide) (Nat.le_of_ble_eq_true rfl) ?_
                    refine r_aload_n (i := 0) i_M_cross_103 rfl rfl ?_
                    refine r_iload_n (i := 2) i_M_cross_104 rfl rfl ?_
                    refine r_iload (i := 5) i_M_cross_105 rfl ?_
                    refine f_virtual o_M_cross k_M_valueOf v_M_valueOf x_M_251 i_M_cross_107 o_M_valueOf (v2 h66) rfl (rcv_ob (by repeat (first | assumption | exact upw_s | refine (upw_n (by omega)).trans ?_)) rfl (by first | assumption | omega)) rfl (by decide) (Nat.le_of_ble_eq_true rfl) ?_
                    refine r_iadd i_M_cross_110 ?_
                    refine r_goto 123 i_M_cross_111 (by decide) ?_
                    refine r_ireturn i_M_cross_123 t_M_cross rfl ?_
                    first | exact ⟨rfl, hp9, rfl⟩ | exact ⟨rfl, ⟨h, fun _ _ => rfl⟩, rfl⟩
              · skip
                rw [if_pos h77]
                refine r_iload (i := 6) i_M_cross_80 rfl ?_
                refine r_if_eq 89 i_M_cross_82 (by decide) (fun h82 => ?_) (fun h82 => ?_)
                · first
                  | exact absurd h82 (by decide)
                  | skip
                    refine r_iconst (v := (0 : Int32)) i_M_cross_89 rfl ?_
                    refine r_ireturn i_M_cross_90 t_M_cross rfl ?_
                    first | exact ⟨rfl, hp9, rfl⟩ | exact ⟨rfl, ⟨h, fun _ _ => rfl⟩, rfl⟩
                · first
                  | exact absurd h82 (by decide)
                  | skip
                    refine r_iconst (v := (1 : Int32)) i_M_cross_85 rfl ?_
                    refine r_goto 90 i_M_cross_86 (by decide) ?_
                    refine r_ireturn i_M_cross_90 t_M_cross rfl ?_
                    first | exact ⟨rfl, hp9, rfl⟩ | exact ⟨rfl, ⟨h, fun _ _ => rfl⟩, rfl⟩
        · skip
          have h28 := bI_eq0.mp h28
          try rw [h28]
          refine r_ldc o_M_cross i_M_cross_31 x_M_239 ?_
          refine r_aload_n (i := 0) i_M_cross_33 rfl rfl ?_
          refine r_bipush (v := (-2 : Int32)) i_M_cross_34 (by decide) ?_
          refine m_virtual o_M_cross k_M_refuse v_M_refuse x_M_89 i_M_cross_36 o_M_refuse (c_M_refuse (i := 2) h (by decide)) rfl (rcv_ob (by repeat (first | assumption | exact upw_s | refine (upw_n (by omega)).trans ?_)) rfl (by first | assumption | omega)) rfl (by decide) (Nat.le_of_ble_eq_true rfl) (Nat.zero_le _) (Nat.zero_le _) (fun rr36 wr36 nr36 hp9 => ?_)
          obtain ⟨rfl, hp9, rfl⟩ := hp9
          refine r_iadd i_M_cross_39 ?_
          refine r_ireturn i_M_cross_40 t_M_cross rfl ?_
          first | exact ⟨rfl, hp9, rfl⟩ | exact ⟨rfl, ⟨h, fun _ _ => rfl⟩, rfl⟩
def m2_says (M : aM) (P : Nat) (s k : Int32) : Int32 × aM := if (lt0 s 8 && wi0 k 0 6) = true then (if M.2.1 1 s.toNatClampNeg = 1 ∨ (M.2.1 1 s.toNatClampNeg = 2 ∧ iuM (M.2.1 14 s.toNatClampNeg) k = false) then (-3, mR M 3) else if M.2.1 1 s.toNatClampNeg = 0 then (-4, mR M 4) else if k = 0 then (M.2.1 15 s.toNatClampNeg, M) else if M.1 13 = 0 then (-5, mR M 5) else (namM M P (M.2.1 14 s.toNatClampNeg).toNatClampNeg (M.2.1 15 s.toNatClampNeg).toNatClampNeg 0 0, M)) else (-2, mR M 2)
def RlOk (M : aM) : Prop := ∀ s, s < 8 → (M.2.1 1 s = 0 ∨ M.2.1 1 s = 1 ∨ M.2.1 1 s = 2 ∧ (∃ kd, 1 ≤ kd ∧ kd ≤ 6 ∧ M.2.1 14 s = nI kd) ∧ ∃ a, a ≤ 99 ∧ M.2.1 15 s = nI a)
theorem c_M_says {P : Nat} {s k : Int32} (h : MW w o M n) (hP : M.1 10 = nI P) (hP7 : P ≤ 7) (hR : RlOk M) : Mm G 5 y_M_says [.ref o, .int s, .int k] w o n (m2_says M P s k) := by
  obtain ⟨m0, mA', mL', m4, m20, m28, mn'⟩ := id h
  have a1 : w (o + 1) = ai 8 (M.2.1 1) := mA' 1 rfl
  have a14 : w (o + 14) = ai 8 (M.2.1 14) := mA' 14 rfl
  have a15 : w (o + 15) = ai 8 (M.2.1 15) := mA' 15 rfl
  refine Mm.of k_M_says l_M_says rfl rfl ?_
  unfold m2_says
  refine r_iload_n (i := 1) i_M_says_0 rfl rfl ?_
  refine r_i2l i_M_says_1 ?_
  refine r_lconst (v := (0 : Int64)) i_M_says_2 rfl ?_
  refine r_ldc2 o_M_says i_M_says_3 x_M_83 ?_
  refine f_static o_M_says k_M_in s_M_in x_M_76 i_M_says_6 (c_M_in) rfl rfl (by decide) (Nat.le_of_ble_eq_true rfl) ?_
  rw [in_07]
  refine r_if_eq 24 i_M_says_9 (by decide) (fun h9 => ?_) (fun h9 => ?_)
  · skip
    have h9 := bI_eq0.mp h9
    try rw [h9]
    refine r_aload_n (i := 0) i_M_says_24 rfl rfl ?_
    refine r_bipush (v := (-2 : Int32)) i_M_says_25 (by decide) ?_
    refine m_virtual o_M_says k_M_refuse v_M_refuse x_M_89 i_M_says_27 o_M_refuse (c_M_refuse (i := 2) h (by decide)) rfl (rcv_ob (by repeat (first | assumption | exact upw_s | refine (upw_n (by omega)).trans ?_)) rfl (by first | assumption | omega)) rfl (by decide) (Nat.le_of_ble_eq_true rfl) (Nat.zero_le _) (Nat.zero_le _) (fun rr27 wr27 nr27 hp9 => ?_)
    obtain ⟨rfl, hp9, rfl⟩ := hp9
    refine r_ireturn i_M_says_30 t_M_says rfl ?_
    first | exact ⟨rfl, hp9, rfl⟩ | exact ⟨rfl, ⟨h, fun _ _ => rfl⟩, rfl⟩
  · skip
    have h9 := bI_ne0.mp h9
    try rw [h9]
    refine r_iload_n (i := 2) i_M_says_12 rfl rfl ?_
    refine r_i2l i_M_says_13 ?_
    refine r_lconst (v := (0 : Int64)) i_M_says_14 rfl ?_
    refine r_ldc2 o_M_says i_M_says_15 x_M_100 ?_
    refine f_static o_M_says k_M_in s_M_in x_M_76 i_M_says_18 (c_M_in) rfl rfl (by decide) (Nat.le_of_ble_eq_true rfl) ?_
    rw [in_06]
    refine r_if_ne 31 i_M_says_21 (by decide) (fun h21 => ?_) (fun h21 => ?_)
    · skip
      have h21 := bI_ne0.mp h21
      try rw [h21]
      obtain ⟨s, hs, rfl⟩ := lt0_of (N := 8) (by decide) h9
      have is : vp_in (nI s) 8 := vp_in_nI hs (by decide)
      have ec : (nI s).toNatClampNeg = s := nI_clamp (by omega)
      rw [if_pos (show (true && true) = true from rfl), ec]
      have hr := hR s hs
      refine r_aload_n (i := 0) i_M_says_31 rfl rfl ?_
      refine r_getf (ci := 6) (T := Fk6) (k := 0) o_M_says i_M_says_32 x_M_7 rfl (by decide) rfl (by repeat (first | assumption | exact upw_s | refine (upw_n (by omega)).trans ?_)) (by first | assumption | omega) (by rfl) ?_
      refine r_iload_n (i := 1) i_M_says_35 rfl rfl ?_
      refine r_iald i_M_says_36 (by repeat (first | assumption | exact upw_s | refine (upw_n (by omega)).trans ?_)) (by first | assumption | omega) (by assumption) ?_
      rw [ec]
      refine r_iconst (v := (1 : Int32)) i_M_says_37 rfl ?_
      refine r_icmp_eq 64 i_M_says_38 (by decide) (fun h38 => ?_) (fun h38 => ?_)
      · skip
        rw [if_pos (Or.inl h38)]
        refine r_aload_n (i := 0) i_M_says_64 rfl rfl ?_
        refine r_bipush (v := (-3 : Int32)) i_M_says_65 (by decide) ?_
        refine m_virtual o_M_says k_M_refuse v_M_refuse x_M_89 i_M_says_67 o_M_refuse (c_M_refuse (i := 3) h (by decide)) rfl (rcv_ob (by repeat (first | assumption | exact upw_s | refine (upw_n (by omega)).trans ?_)) rfl (by first | assumption | omega)) rfl (by decide) (Nat.le_of_ble_eq_true rfl) (Nat.zero_le _) (Nat.zero_le _) (fun rr67 wr67 nr67 hp9 => ?_)
        obtain ⟨rfl, hp9, rfl⟩ := hp9
        refine r_ireturn i_M_says_70 t_M_says rfl ?_
        first | exact ⟨rfl, hp9, rfl⟩ | exact ⟨rfl, ⟨h, fun _ _ => rfl⟩, rfl⟩
      · skip
        refine r_aload_n (i := 0) i_M_says_41 rfl rfl ?_
        refine r_getf (ci := 6) (T := Fk6) (k := 0) o_M_says i_M_says_42 x_M_7 rfl (by decide) rfl (by repeat (first | assumption | exact upw_s | refine (upw_n (by omega)).trans ?_)) (by first | assumption | omega) (by rfl) ?_
        refine r_iload_n (i := 1) i_M_says_45 rfl rfl ?_
        refine r_iald i_M_says_46 (by repeat (first | assumption | exact upw_s | refine (upw_n (by omega)).trans ?_)) (by first | assumption | omega) (by assumption) ?_
        rw [ec]
        refine r_iconst (v := (2 : Int32)) i_M_says_47 rfl ?_
        refine r_icmp_ne 71 i_M_says_48 (by decide) (fun h48 => ?_) (fun h48 => ?_)
        · skip
          rw [if_neg (fun q => q.elim h38 (fun z => h48 z.1))]
          have h71 : M.2.1 1 s = 0 := hr.elim id (fun q => q.elim (fun z => absurd z h38) (fun z => absurd z.1 h48))
          rw [if_pos h71]
          refine r_aload_n (i := 0) i_M_says_71 rfl rfl ?_
          refine r_getf (ci := 6) (T := Fk6) (k := 0) o_M_says i_M_says_72 x_M_7 rfl (by decide) rfl (by repeat (first | assumption | exact upw_s | refine (upw_n (by omega)).trans ?_)) (by first | assumption | omega) (by rfl) ?_
          refine r_iload_n (i := 1) i_M_says_75 rfl rfl ?_
          refine r_iald i_M_says_76 (by repeat (first | assumption | exact upw_s | refine (upw_n (by omega)).trans ?_)) (by first | assumption | omega) (by assumption) ?_
          rw [ec]
          refine r_if_ne 87 i_M_says_77 (by decide) (fun h77 => ?_) (fun h77 => ?_)
          · first
            | exact absurd h77 (by decide)
            | first | exact absurd h71 h77 | exact absurd h77 h71
            | skip
              refine r_iload_n (i := 2) i_M_says_87 rfl rfl ?_
              refine r_if_ne 98 i_M_says_88 (by decide) (fun h88 => ?_) (fun h88 => ?_)
              · skip
                rw [if_neg h88]
                refine r_aload_n (i := 0) i_M_says_98 rfl rfl ?_
                refine r_getf (ci := 6) (T := Fk6) (k := 13) o_M_says i_M_says_99 x_M_80 rfl (by decide) rfl (by repeat (first | assumption | exact upw_s | refine (upw_n (by omega)).trans ?_)) (by first | assumption | omega) (by rfl) ?_
                refine r_if_ne 114 i_M_says_102 (by decide) (fun h102 => ?_) (fun h102 => ?_)
                · skip
                  rw [if_neg h102]
                  refine r_aload_n (i := 0) i_M_says_114 rfl rfl ?_
                  refine r_aload_n (i := 0) i_M_says_115 rfl rfl ?_
                  refine r_getf (ci := 6) (T := Fk6) (k := 5) o_M_says i_M_says_116 x_M_28 rfl (by decide) rfl (by repeat (first | assumption | exact upw_s | refine (upw_n (by omega)).trans ?_)) (by first | assumption | omega) (by rfl) ?_
                  refine r_iload_n (i := 1) i_M_says_119 rfl rfl ?_
                  refine r_iald i_M_says_120 (by repeat (first | assumption | exact upw_s | refine (upw_n (by omega)).trans ?_)) (by first | assumption | omega) (by assumption) ?_
                  refine r_aload_n (i := 0) i_M_says_121 rfl rfl ?_
                  refine r_getf (ci := 6) (T := Fk6) (k := 6) o_M_says i_M_says_122 x_M_31 rfl (by decide) rfl (by repeat (first | assumption | exact upw_s | refine (upw_n (by omega)).trans ?_)) (by first | assumption | omega) (by rfl) ?_
                  refine r_iload_n (i := 1) i_M_says_125 rfl rfl ?_
                  refine r_iald i_M_says_126 (by repeat (first | assumption | exact upw_s | refine (upw_n (by omega)).trans ?_)) (by first | assumption | omega) (by assumption) ?_
                  rw [ec, ek, ea]
                  refine r_iconst (v := (0 : Int32)) i_M_says_127 rfl ?_
                  refine r_iconst (v := (0 : Int32)) i_M_says_128 rfl ?_
                  refine f_virtual o_M_says k_M_names v_M_names x_M_108 i_M_says_129 o_M_names (c_M_names (b := 0) h (by decide) hP hP7 ha k1 k6) rfl (rcv_ob (by repeat (first | assumption | exact upw_s | refine (upw_n (by omega)).trans ?_)) rfl (by first | assumption | omega)) rfl (by decide) (Nat.le_of_ble_eq_true rfl) ?_
                  refine r_ireturn i_M_says_132 t_M_says rfl ?_
                  first | exact ⟨rfl, hp9, rfl⟩ | exact ⟨rfl, ⟨h, fun _ _ => rfl⟩, rfl⟩
                · skip
                  rw [if_pos h102]
                  refine r_aload_n (i := 0) i_M_says_105 rfl rfl ?_
                  refine r_bipush (v := (-5 : Int32)) i_M_says_106 (by decide) ?_
                  refine m_virtual o_M_says k_M_refuse v_M_refuse x_M_89 i_M_says_108 o_M_refuse (c_M_refuse (i := 5) h (by decide)) rfl (rcv_ob (by repeat (first | assumption | exact upw_s | refine (upw_n (by omega)).trans ?_)) rfl (by first | assumption | omega)) rfl (by decide) (Nat.le_of_ble_eq_true rfl) (Nat.zero_le _) (Nat.zero_le _) (fun rr108 wr108 nr108 hp9 => ?_)
                  obtain ⟨rfl, hp9, rfl⟩ := hp9
                  refine r_goto 132 i_M_says_111 (by decide) ?_
                  refine r_ireturn i_M_says_132 t_M_says rfl ?_
                  first | exact ⟨rfl, hp9, rfl⟩ | exact ⟨rfl, ⟨h, fun _ _ => rfl⟩, rfl⟩
              · skip
                rw [if_pos h88]
                refine r_aload_n (i := 0) i_M_says_91 rfl rfl ?_
                refine r_getf (ci := 6) (T := Fk6) (k := 6) o_M_says i_M_says_92 x_M_31 rfl (by decide) rfl (by repeat (first | assumption | exact upw_s | refine (upw_n (by omega)).trans ?_)) (by first | assumption | omega) (by rfl) ?_
                refine r_iload_n (i := 1) i_M_says_95 rfl rfl ?_
                refine r_iald i_M_says_96 (by repeat (first | assumption | exact upw_s | refine (upw_n (by omega)).trans ?_)) (by first | assumption | omega) (by assumption) ?_
                rw [ec, ea]
                refine r_ireturn i_M_says_97 t_M_says rfl ?_
                first | exact ⟨rfl, hp9, rfl⟩ | exact ⟨rfl, ⟨h, fun _ _ => rfl⟩, rfl⟩
          · first
            | exact absurd h77 (by decide)
            | first | exact absurd h71 h77 | exact absurd h77 h71
            | skip
              refine r_aload_n (i := 0) i_M_says_80 rfl rfl ?_
              refine r_bipush (v := (-4 : Int32)) i_M_says_81 (by decide) ?_
              refine m_virtual o_M_says k_M_refuse v_M_refuse x_M_89 i_M_says_83 o_M_refuse (c_M_refuse (i := 4) h (by decide)) rfl (rcv_ob (by repeat (first | assumption | exact upw_s | refine (upw_n (by omega)).trans ?_)) rfl (by first | assumption | omega)) rfl (by decide) (Nat.le_of_ble_eq_true rfl) (Nat.zero_le _) (Nat.zero_le _) (fun rr83 wr83 nr83 hp9 => ?_)
              obtain ⟨rfl, hp9, rfl⟩ := hp9
              refine r_ireturn i_M_says_86 t_M_says rfl ?_
              first | exact ⟨rfl, hp9, rfl⟩ | exact ⟨rfl, ⟨h, fun _ _ => rfl⟩, rfl⟩
        · skip
          refine r_aload_n (i := 0) i_M_says_51 rfl rfl ?_
          refine r_getf (ci := 6) (T := Fk6) (k := 5) o_M_says i_M_says_52 x_M_28 rfl (by decide) rfl (by repeat (first | assumption | exact upw_s | refine (upw_n (by omega)).trans ?_)) (by first | assumption | omega) (by rfl) ?_
          refine r_iload_n (i := 1) i_M_says_55 rfl rfl ?_
          refine r_iald i_M_says_56 (by repeat (first | assumption | exact upw_s | refine (upw_n (by omega)).trans ?_)) (by first | assumption | omega) (by assumption) ?_
          rw [ec]
          refine r_iload_n (i := 2) i_M_says_57 rfl rfl ?_
          refine f_static o_M_says k_M_isUnder s_M_isUnder x_M_104 i_M_says_58 (c_M_isUnder) rfl rfl (by decide) (Nat.le_of_ble_eq_true rfl) ?_
          refine r_if_ne 71 i_M_says_61 (by decide) (fun h61 => ?_) (fun h61 => ?_)
          · skip
            have h61 := bI_ne0.mp h61
            try rw [h61]
            rw [if_neg (fun q => q.elim h38 (fun z => absurd z.2 (by decide)))]
            have h71 : ¬ M.2.1 1 s = 0 := fun q => by rw [q] at h48; exact absurd h48 (by decide)
            rw [if_neg h71]
            obtain ⟨-, ⟨kd, k1, k6, ek⟩, a, ha, ea⟩ := (hr.resolve_left h71).resolve_left h38
            rw [ek, ea, nI_clamp (by omega), nI_clamp (by omega)]
            refine r_aload_n (i := 0) i_M_says_71 rfl rfl ?_
            refine r_getf (ci := 6) (T := Fk6) (k := 0) o_M_says i_M_says_72 x_M_7 rfl (by decide) rfl (by repeat (first | assumption | exact upw_s | refine (upw_n (by omega)).trans ?_)) (by first | assumption | omega) (by rfl) ?_
            refine r_iload_n (i := 1) i_M_says_75 rfl rfl ?_
            refine r_iald i_M_says_76 (by repeat (first | assumption | exact upw_s | refine (upw_n (by omega)).trans ?_)) (by first | assumption | omega) (by assumption) ?_
            rw [ec]
            refine r_if_ne 87 i_M_says_77 (by decide) (fun h77 => ?_) (fun h77 => ?_)
            · first
              | exact absurd h77 (by decide)
              | first | exact absurd h71 h77 | exact absurd h77 h71
              | skip
                refine r_iload_n (i := 2) i_M_says_87 rfl rfl ?_
                refine r_if_ne 98 i_M_says_88 (by decide) (fun h88 => ?_) (fun h88 => ?_)
                · skip
                  rw [if_neg h88]
                  refine r_aload_n (i := 0) i_M_says_98 rfl rfl ?_
                  refine r_getf (ci := 6) (T := Fk6) (k := 13) o_M_says i_M_says_99 x_M_80 rfl (by decide) rfl (by repeat (first | assumption | exact upw_s | refine (upw_n (by omega)).trans ?_)) (by first | assumption | omega) (by rfl) ?_
                  refine r_if_ne 114 i_M_says_102 (by decide) (fun h102 => ?_) (fun h102 => ?_)
                  · skip
                    rw [if_neg h102]
                    refine r_aload_n (i := 0) i_M_says_114 rfl rfl ?_
                    refine r_aload_n (i := 0) i_M_says_115 rfl rfl ?_
                    refine r_getf (ci := 6) (T := Fk6) (k := 5) o_M_says i_M_says_116 x_M_28 rfl (by decide) rfl (by repeat (first | assumption | exact upw_s | refine (upw_n (by omega)).trans ?_)) (by first | assumption | omega) (by rfl) ?_
                    refine r_iload_n (i := 1) i_M_says_119 rfl rfl ?_
                    refine r_iald i_M_says_120 (by repeat (first | assumption | exact upw_s | refine (upw_n (by omega)).trans ?_)) (by first | assumption | omega) (by assumption) ?_
                    refine r_aload_n (i := 0) i_M_says_121 rfl rfl ?_
                    refine r_getf (ci := 6) (T := Fk6) (k := 6) o_M_says i_M_says_122 x_M_31 rfl (by decide) rfl (by repeat (first | assumption | exact upw_s | refine (upw_n (by omega)).trans ?_)) (by first | assumption | omega) (by rfl) ?_
                    refine r_iload_n (i := 1) i_M_says_125 rfl rfl ?_
                    refine r_iald i_M_says_126 (by repeat (first | assumption | exact upw_s | refine (upw_n (by omega)).trans ?_)) (by first | assumption | omega) (by assumption) ?_
                    rw [ec, ek, ea]
                    refine r_iconst (v := (0 : Int32)) i_M_says_127 rfl ?_
                    refine r_iconst (v := (0 : Int32)) i_M_says_128 rfl ?_
                    refine f_virtual o_M_says k_M_names v_M_names x_M_108 i_M_says_129 o_M_names (c_M_names (b := 0) h (by decide) hP hP7 ha k1 k6) rfl (rcv_ob (by repeat (first | assumption | exact upw_s | refine (upw_n (by omega)).trans ?_)) rfl (by first | assumption | omega)) rfl (by decide) (Nat.le_of_ble_eq_true rfl) ?_
                    refine r_ireturn i_M_says_132 t_M_says rfl ?_
                    first | exact ⟨rfl, hp9, rfl⟩ | exact ⟨rfl, ⟨h, fun _ _ => rfl⟩, rfl⟩
                  · skip
                    rw [if_pos h102]
                    refine r_aload_n (i := 0) i_M_says_105 rfl rfl ?_
                    refine r_bipush (v := (-5 : Int32)) i_M_says_106 (by decide) ?_
                    refine m_virtual o_M_says k_M_refuse v_M_refuse x_M_89 i_M_says_108 o_M_refuse (c_M_refuse (i := 5) h (by decide)) rfl (rcv_ob (by repeat (first | assumption | exact upw_s | refine (upw_n (by omega)).trans ?_)) rfl (by first | assumption | omega)) rfl (by decide) (Nat.le_of_ble_eq_true rfl) (Nat.zero_le _) (Nat.zero_le _) (fun rr108 wr108 nr108 hp9 => ?_)
                    obtain ⟨rfl, hp9, rfl⟩ := hp9
                    refine r_goto 132 i_M_says_111 (by decide) ?_
                    refine r_ireturn i_M_says_132 t_M_says rfl ?_
                    first | exact ⟨rfl, hp9, rfl⟩ | exact ⟨rfl, ⟨h, fun _ _ => rfl⟩, rfl⟩
                · skip
                  rw [if_pos h88]
                  refine r_aload_n (i := 0) i_M_says_91 rfl rfl ?_
                  refine r_getf (ci := 6) (T := Fk6) (k := 6) o_M_says i_M_says_92 x_M_31 rfl (by decide) rfl (by repeat (first | assumption | exact upw_s | refine (upw_n (by omega)).trans ?_)) (by first | assumption | omega) (by rfl) ?_
                  refine r_iload_n (i := 1) i_M_says_95 rfl rfl ?_
                  refine r_iald i_M_says_96 (by repeat (first | assumption | exact upw_s | refine (upw_n (by omega)).trans ?_)) (by first | assumption | omega) (by assumption) ?_
                  rw [ec, ea]
                  refine r_ireturn i_M_says_97 t_M_says rfl ?_
                  first | exact ⟨rfl, hp9, rfl⟩ | exact ⟨rfl, ⟨h, fun _ _ => rfl⟩, rfl⟩
            · first
              | exact absurd h77 (by decide)
              | first | exact absurd h71 h77 | exact absurd h77 h71
              | skip
                refine r_aload_n (i := 0) i_M_says_80 rfl rfl ?_
                refine r_bipush (v := (-4 : Int32)) i_M_says_81 (by decide) ?_
                refine m_virtual o_M_says k_M_refuse v_M_refuse x_M_89 i_M_says_83 o_M_refuse (c_M_refuse (i := 4) h (by decide)) rfl (rcv_ob (by repeat (first | assumption | exact upw_s | refine (upw_n (by omega)).trans ?_)) rfl (by first | assumption | omega)) rfl (by decide) (Nat.le_of_ble_eq_true rfl) (Nat.zero_le _) (Nat.zero_le _) (fun rr83 wr83 nr83 hp9 => ?_)
                obtain ⟨rfl, hp9, rfl⟩ := hp9
                refine r_ireturn i_M_says_86 t_M_says rfl ?_
                first | exact ⟨rfl, hp9, rfl⟩ | exact ⟨rfl, ⟨h, fun _ _ => rfl⟩, rfl⟩
          · skip
            have h61 := bI_eq0.mp h61
            try rw [h61]
            rw [if_pos (Or.inr ⟨h48, rfl⟩)]
            refine r_aload_n (i := 0) i_M_says_64 rfl rfl ?_
            refine r_bipush (v := (-3 : Int32)) i_M_says_65 (by decide) ?_
            refine m_virtual o_M_says k_M_refuse v_M_refuse x_M_89 i_M_says_67 o_M_refuse (c_M_refuse (i := 3) h (by decide)) rfl (rcv_ob (by repeat (first | assumption | exact upw_s | refine (upw_n (by omega)).trans ?_)) rfl (by first | assumption | omega)) rfl (by decide) (Nat.le_of_ble_eq_true rfl) (Nat.zero_le _) (Nat.zero_le _) (fun rr67 wr67 nr67 hp9 => ?_)
            obtain ⟨rfl, hp9, rfl⟩ := hp9
            refine r_ireturn i_M_says_70 t_M_says rfl ?_
            first | exact ⟨rfl, hp9, rfl⟩ | exact ⟨rfl, ⟨h, fun _ _ => rfl⟩, rfl⟩
    · skip
      have h21 := bI_eq0.mp h21
      try rw [h21]
      refine r_aload_n (i := 0) i_M_says_24 rfl rfl ?_
      refine r_bipush (v := (-2 : Int32)) i_M_says_25 (by decide) ?_
      refine m_virtual o_M_says k_M_refuse v_M_refuse x_M_89 i_M_says_27 o_M_refuse (c_M_refuse (i := 2) h (by decide)) rfl (rcv_ob (by repeat (first | assumption | exact upw_s | refine (upw_n (by omega)).trans ?_)) rfl (by first | assumption | omega)) rfl (by decide) (Nat.le_of_ble_eq_true rfl) (Nat.zero_le _) (Nat.zero_le _) (fun rr27 wr27 nr27 hp9 => ?_)
      obtain ⟨rfl, hp9, rfl⟩ := hp9
      refine r_ireturn i_M_says_30 t_M_says rfl ?_
      first | exact ⟨rfl, hp9, rfl⟩ | exact ⟨rfl, ⟨h, fun _ _ => rfl⟩, rfl⟩
end MBY
