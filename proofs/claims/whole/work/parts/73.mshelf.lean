-- THE REFERENCE: SHELVES
theorem in_wi {v lo hi : Int32} : inL v.toInt64 lo.toInt64 hi.toInt64 = wi0 v lo hi := by
  unfold inL wi0
  rw [Bool.eq_iff_iff]
  simp only [Bool.and_eq_true, decide_eq_true_eq, Int64.le_iff_toInt_le, Int32.toInt_toInt64, Int32.lt_iff_toInt_lt]
  omega
theorem in_lt {v : Int32} {N : Nat} (hN : N < 2 ^ 31) : inL v.toInt64 0 (nI N - 1).toInt64 = lt0 v (nI N) := by
  have e : (nI N - 1).toInt = (N : Int) - 1 := by
    rw [Int32.toInt_sub, toInt_nI hN]
    exact Int.bmod_eq_of_le (by show -((2 ^ 32 : Nat) / 2 : Int) ≤ (N : Int) - 1; omega) (by show (N : Int) - 1 < _; omega)
  unfold inL lt0
  rw [Bool.eq_iff_iff]
  simp only [Bool.and_eq_true, decide_eq_true_eq, Int64.le_iff_toInt_le, Int32.toInt_toInt64, Int32.lt_iff_toInt_lt, Int32.le_iff_toInt_le, e, toInt_nI hN]
  rw [show (0 : Int64).toInt = 0 from rfl, show (0 : Int32).toInt = 0 from rfl]
  omega
theorem in_07 {v : Int32} : inL v.toInt64 0 7 = lt0 v 8 := in_lt (N := 8) (by decide)
theorem in_04 {v : Int32} : inL v.toInt64 0 4 = lt0 v 5 := in_lt (N := 5) (by decide)
theorem in_040 {v : Int32} : inL v.toInt64 0 40 = wi0 v 0 40 := in_wi (lo := 0) (hi := 40)
theorem in_16 {v : Int32} : inL v.toInt64 1 6 = wi0 v 1 6 := in_wi (lo := 1) (hi := 6)
theorem in_099 {v : Int32} : inL v.toInt64 0 99 = wi0 v 0 99 := in_wi (lo := 0) (hi := 99)
section MSHELF
variable {G : gE} {w : aW} {o n : Nat} {M : aM}
def norow (M : aM) (s : Int32) (c : Int32) : Nat := if lt0 s 8 = true then (if M.2.1 1 s.toNatClampNeg = c then 3 else if M.2.1 1 s.toNatClampNeg = 0 then 4 else 0) else 2
def mRz (M : aM) (i : Nat) : aM := if i = 0 then M else mR M i
theorem c_M_noRow {s : Int32} (h : MW w o M n) : Mt G 1 y_M_noRow [.ref o, .int s] w n 0 0 (fun r w' n' => r = some (.int (-nI (norow M s 2))) ∧ (MW w' o (mRz M (norow M s 2)) n ∧ mFr w w' o) ∧ n' = n) := by
  obtain ⟨m0, mA', mL', m4, m20, m28, mn'⟩ := id h
  have a1 : w (o + 1) = ai 8 (M.2.1 1) := mA' 1 rfl
  refine Mt.of k_M_noRow l_M_noRow (Nat.le_of_ble_eq_true rfl) rfl ?_
  unfold norow
  refine r_iload_n (i := 1) i_M_noRow_0 rfl rfl ?_
  refine r_i2l i_M_noRow_1 ?_
  refine r_lconst (v := (0 : Int64)) i_M_noRow_2 rfl ?_
  refine r_ldc2 o_M_noRow i_M_noRow_3 x_M_83 ?_
  refine f_static o_M_noRow k_M_in s_M_in x_M_76 i_M_noRow_6 (c_M_in) rfl rfl (by decide) (Nat.le_of_ble_eq_true rfl) ?_
  rw [in_07]
  refine r_if_ne 19 i_M_noRow_9 (by decide) (fun h9 => ?_) (fun h9 => ?_)
  · skip
    have h9 := bI_ne0.mp h9
    rw [if_pos h9]
    obtain ⟨s, hs, rfl⟩ := lt0_of (N := 8) (by decide) h9
    have is : vp_in (nI s) 8 := vp_in_nI hs (by decide)
    refine r_aload_n (i := 0) i_M_noRow_19 rfl rfl ?_
    refine r_getf (ci := 6) (T := Fk6) (k := 0) o_M_noRow i_M_noRow_20 x_M_7 rfl (by decide) rfl (by repeat (first | assumption | exact upw_s | refine (upw_n (by omega)).trans ?_)) (by first | assumption | omega) (by rfl) ?_
    refine r_iload_n (i := 1) i_M_noRow_23 rfl rfl ?_
    refine r_iald i_M_noRow_24 (by repeat (first | assumption | exact upw_s | refine (upw_n (by omega)).trans ?_)) (by first | assumption | omega) (by assumption) ?_
    refine r_iconst (v := (2 : Int32)) i_M_noRow_25 rfl ?_
    refine r_icmp_ne 36 i_M_noRow_26 (by decide) (fun h26 => ?_) (fun h26 => ?_)
    · skip
      rw [if_neg h26]
      refine r_aload_n (i := 0) i_M_noRow_36 rfl rfl ?_
      refine r_getf (ci := 6) (T := Fk6) (k := 0) o_M_noRow i_M_noRow_37 x_M_7 rfl (by decide) rfl (by repeat (first | assumption | exact upw_s | refine (upw_n (by omega)).trans ?_)) (by first | assumption | omega) (by rfl) ?_
      refine r_iload_n (i := 1) i_M_noRow_40 rfl rfl ?_
      refine r_iald i_M_noRow_41 (by repeat (first | assumption | exact upw_s | refine (upw_n (by omega)).trans ?_)) (by first | assumption | omega) (by assumption) ?_
      refine r_if_ne 54 i_M_noRow_42 (by decide) (fun h42 => ?_) (fun h42 => ?_)
      · skip
        rw [if_neg h42]
        refine r_iconst (v := (0 : Int32)) i_M_noRow_54 rfl ?_
        refine r_ireturn i_M_noRow_55 t_M_noRow rfl ?_
        first | exact ⟨rfl, hp9, rfl⟩ | exact ⟨rfl, ⟨h, fun _ _ => rfl⟩, rfl⟩
      · skip
        rw [if_pos h42]
        refine r_aload_n (i := 0) i_M_noRow_45 rfl rfl ?_
        refine r_bipush (v := (-4 : Int32)) i_M_noRow_46 (by decide) ?_
        refine m_virtual o_M_noRow k_M_refuse v_M_refuse x_M_89 i_M_noRow_48 o_M_refuse (c_M_refuse (i := 4) h (by decide)) rfl (rcv_ob (by repeat (first | assumption | exact upw_s | refine (upw_n (by omega)).trans ?_)) rfl (by first | assumption | omega)) rfl (by decide) (Nat.le_of_ble_eq_true rfl) (Nat.zero_le _) (Nat.zero_le _) (fun r1 w2 n1 hp9 => ?_)
        obtain ⟨rfl, hp9, rfl⟩ := hp9
        refine r_goto 55 i_M_noRow_51 (by decide) ?_
        refine r_ireturn i_M_noRow_55 t_M_noRow rfl ?_
        first | exact ⟨rfl, hp9, rfl⟩ | exact ⟨rfl, ⟨h, fun _ _ => rfl⟩, rfl⟩
    · skip
      rw [if_pos h26]
      refine r_aload_n (i := 0) i_M_noRow_29 rfl rfl ?_
      refine r_bipush (v := (-3 : Int32)) i_M_noRow_30 (by decide) ?_
      refine m_virtual o_M_noRow k_M_refuse v_M_refuse x_M_89 i_M_noRow_32 o_M_refuse (c_M_refuse (i := 3) h (by decide)) rfl (rcv_ob (by repeat (first | assumption | exact upw_s | refine (upw_n (by omega)).trans ?_)) rfl (by first | assumption | omega)) rfl (by decide) (Nat.le_of_ble_eq_true rfl) (Nat.zero_le _) (Nat.zero_le _) (fun r1 w2 n1 hp9 => ?_)
      obtain ⟨rfl, hp9, rfl⟩ := hp9
      refine r_ireturn i_M_noRow_35 t_M_noRow rfl ?_
      first | exact ⟨rfl, hp9, rfl⟩ | exact ⟨rfl, ⟨h, fun _ _ => rfl⟩, rfl⟩
  · skip
    have h9 := bI_eq0.mp h9
    rw [if_neg (by rw [h9]; decide)]
    refine r_aload_n (i := 0) i_M_noRow_12 rfl rfl ?_
    refine r_bipush (v := (-2 : Int32)) i_M_noRow_13 (by decide) ?_
    refine m_virtual o_M_noRow k_M_refuse v_M_refuse x_M_89 i_M_noRow_15 o_M_refuse (c_M_refuse (i := 2) h (by decide)) rfl (rcv_ob (by repeat (first | assumption | exact upw_s | refine (upw_n (by omega)).trans ?_)) rfl (by first | assumption | omega)) rfl (by decide) (Nat.le_of_ble_eq_true rfl) (Nat.zero_le _) (Nat.zero_le _) (fun r1 w2 n1 hp9 => ?_)
    obtain ⟨rfl, hp9, rfl⟩ := hp9
    refine r_ireturn i_M_noRow_18 t_M_noRow rfl ?_
    first | exact ⟨rfl, hp9, rfl⟩ | exact ⟨rfl, ⟨h, fun _ _ => rfl⟩, rfl⟩
theorem c_M_noRule {s : Int32} (h : MW w o M n) : Mt G 1 y_M_noRule [.ref o, .int s] w n 0 0 (fun r w' n' => r = some (.int (-nI (norow M s 1))) ∧ (MW w' o (mRz M (norow M s 1)) n ∧ mFr w w' o) ∧ n' = n) := by
  obtain ⟨m0, mA', mL', m4, m20, m28, mn'⟩ := id h
  have a1 : w (o + 1) = ai 8 (M.2.1 1) := mA' 1 rfl
  refine Mt.of k_M_noRule l_M_noRule (Nat.le_of_ble_eq_true rfl) rfl ?_
  unfold norow
  refine r_iload_n (i := 1) i_M_noRule_0 rfl rfl ?_
  refine r_i2l i_M_noRule_1 ?_
  refine r_lconst (v := (0 : Int64)) i_M_noRule_2 rfl ?_
  refine r_ldc2 o_M_noRule i_M_noRule_3 x_M_83 ?_
  refine f_static o_M_noRule k_M_in s_M_in x_M_76 i_M_noRule_6 (c_M_in) rfl rfl (by decide) (Nat.le_of_ble_eq_true rfl) ?_
  rw [in_07]
  refine r_if_ne 19 i_M_noRule_9 (by decide) (fun h9 => ?_) (fun h9 => ?_)
  · skip
    have h9 := bI_ne0.mp h9
    rw [if_pos h9]
    obtain ⟨s, hs, rfl⟩ := lt0_of (N := 8) (by decide) h9
    have is : vp_in (nI s) 8 := vp_in_nI hs (by decide)
    refine r_aload_n (i := 0) i_M_noRule_19 rfl rfl ?_
    refine r_getf (ci := 6) (T := Fk6) (k := 0) o_M_noRule i_M_noRule_20 x_M_7 rfl (by decide) rfl (by repeat (first | assumption | exact upw_s | refine (upw_n (by omega)).trans ?_)) (by first | assumption | omega) (by rfl) ?_
    refine r_iload_n (i := 1) i_M_noRule_23 rfl rfl ?_
    refine r_iald i_M_noRule_24 (by repeat (first | assumption | exact upw_s | refine (upw_n (by omega)).trans ?_)) (by first | assumption | omega) (by assumption) ?_
    refine r_iconst (v := (1 : Int32)) i_M_noRule_25 rfl ?_
    refine r_icmp_ne 36 i_M_noRule_26 (by decide) (fun h26 => ?_) (fun h26 => ?_)
    · skip
      rw [if_neg h26]
      refine r_aload_n (i := 0) i_M_noRule_36 rfl rfl ?_
      refine r_getf (ci := 6) (T := Fk6) (k := 0) o_M_noRule i_M_noRule_37 x_M_7 rfl (by decide) rfl (by repeat (first | assumption | exact upw_s | refine (upw_n (by omega)).trans ?_)) (by first | assumption | omega) (by rfl) ?_
      refine r_iload_n (i := 1) i_M_noRule_40 rfl rfl ?_
      refine r_iald i_M_noRule_41 (by repeat (first | assumption | exact upw_s | refine (upw_n (by omega)).trans ?_)) (by first | assumption | omega) (by assumption) ?_
      refine r_if_ne 54 i_M_noRule_42 (by decide) (fun h42 => ?_) (fun h42 => ?_)
      · skip
        rw [if_neg h42]
        refine r_iconst (v := (0 : Int32)) i_M_noRule_54 rfl ?_
        refine r_ireturn i_M_noRule_55 t_M_noRule rfl ?_
        first | exact ⟨rfl, hp9, rfl⟩ | exact ⟨rfl, ⟨h, fun _ _ => rfl⟩, rfl⟩
      · skip
        rw [if_pos h42]
        refine r_aload_n (i := 0) i_M_noRule_45 rfl rfl ?_
        refine r_bipush (v := (-4 : Int32)) i_M_noRule_46 (by decide) ?_
        refine m_virtual o_M_noRule k_M_refuse v_M_refuse x_M_89 i_M_noRule_48 o_M_refuse (c_M_refuse (i := 4) h (by decide)) rfl (rcv_ob (by repeat (first | assumption | exact upw_s | refine (upw_n (by omega)).trans ?_)) rfl (by first | assumption | omega)) rfl (by decide) (Nat.le_of_ble_eq_true rfl) (Nat.zero_le _) (Nat.zero_le _) (fun r1 w2 n1 hp9 => ?_)
        obtain ⟨rfl, hp9, rfl⟩ := hp9
        refine r_goto 55 i_M_noRule_51 (by decide) ?_
        refine r_ireturn i_M_noRule_55 t_M_noRule rfl ?_
        first | exact ⟨rfl, hp9, rfl⟩ | exact ⟨rfl, ⟨h, fun _ _ => rfl⟩, rfl⟩
    · skip
      rw [if_pos h26]
      refine r_aload_n (i := 0) i_M_noRule_29 rfl rfl ?_
      refine r_bipush (v := (-3 : Int32)) i_M_noRule_30 (by decide) ?_
      refine m_virtual o_M_noRule k_M_refuse v_M_refuse x_M_89 i_M_noRule_32 o_M_refuse (c_M_refuse (i := 3) h (by decide)) rfl (rcv_ob (by repeat (first | assumption | exact upw_s | refine (upw_n (by omega)).trans ?_)) rfl (by first | assumption | omega)) rfl (by decide) (Nat.le_of_ble_eq_true rfl) (Nat.zero_le _) (Nat.zero_le _) (fun r1 w2 n1 hp9 => ?_)
      obtain ⟨rfl, hp9, rfl⟩ := hp9
      refine r_ireturn i_M_noRule_35 t_M_noRule rfl ?_
      first | exact ⟨rfl, hp9, rfl⟩ | exact ⟨rfl, ⟨h, fun _ _ => rfl⟩, rfl⟩
  · skip
    have h9 := bI_eq0.mp h9
    rw [if_neg (by rw [h9]; decide)]
    refine r_aload_n (i := 0) i_M_noRule_12 rfl rfl ?_
    refine r_bipush (v := (-2 : Int32)) i_M_noRule_13 (by decide) ?_
    refine m_virtual o_M_noRule k_M_refuse v_M_refuse x_M_89 i_M_noRule_15 o_M_refuse (c_M_refuse (i := 2) h (by decide)) rfl (rcv_ob (by repeat (first | assumption | exact upw_s | refine (upw_n (by omega)).trans ?_)) rfl (by first | assumption | omega)) rfl (by decide) (Nat.le_of_ble_eq_true rfl) (Nat.zero_le _) (Nat.zero_le _) (fun r1 w2 n1 hp9 => ?_)
    obtain ⟨rfl, hp9, rfl⟩ := hp9
    refine r_ireturn i_M_noRule_18 t_M_noRule rfl ?_
    first | exact ⟨rfl, hp9, rfl⟩ | exact ⟨rfl, ⟨h, fun _ _ => rfl⟩, rfl⟩
def hldM (M : aM) (s : Int32) : Int32 := if lt0 s 8 = true ∧ ¬ M.2.1 1 s.toNatClampNeg = 0 then (if M.2.1 1 s.toNatClampNeg = 1 then M.2.1 2 s.toNatClampNeg else 10 + M.2.1 14 s.toNatClampNeg) else -1
theorem c_M_holds {s : Int32} (h : MW w o M n) : Fn G 1 y_M_holds [.ref o, .int s] w n (some (.int (hldM M s))) w := by
  obtain ⟨m0, mA', mL', m4, m20, m28, mn'⟩ := id h
  have a1 : w (o + 1) = ai 8 (M.2.1 1) := mA' 1 rfl
  have a2 : w (o + 2) = ai 8 (M.2.1 2) := mA' 2 rfl
  have a14 : w (o + 14) = ai 8 (M.2.1 14) := mA' 14 rfl
  refine Fn.of k_M_holds l_M_holds rfl rfl ?_
  unfold hldM
  refine r_iload_n (i := 1) i_M_holds_0 rfl rfl ?_
  refine r_i2l i_M_holds_1 ?_
  refine r_lconst (v := (0 : Int64)) i_M_holds_2 rfl ?_
  refine r_ldc2 o_M_holds i_M_holds_3 x_M_83 ?_
  refine f_static o_M_holds k_M_in s_M_in x_M_76 i_M_holds_6 (c_M_in) rfl rfl (by decide) (Nat.le_of_ble_eq_true rfl) ?_
  rw [in_07]
  refine r_if_eq 21 i_M_holds_9 (by decide) (fun h9 => ?_) (fun h9 => ?_)
  · skip
    have h9 := bI_eq0.mp h9
    rw [if_neg (fun q => by rw [h9] at q; exact absurd q.1 (by decide))]
    refine r_iconst (v := (-1 : Int32)) i_M_holds_21 rfl ?_
    refine r_ireturn i_M_holds_22 t_M_holds rfl ?_
    exact ⟨rfl, rfl, rfl⟩
  · skip
    have h9 := bI_ne0.mp h9
    obtain ⟨s, hs, rfl⟩ := lt0_of (N := 8) (by decide) h9
    have is : vp_in (nI s) 8 := vp_in_nI hs (by decide)
    refine r_aload_n (i := 0) i_M_holds_12 rfl rfl ?_
    refine r_getf (ci := 6) (T := Fk6) (k := 0) o_M_holds i_M_holds_13 x_M_7 rfl (by decide) rfl (by repeat (first | assumption | exact upw_s | refine (upw_n (by omega)).trans ?_)) (by first | assumption | omega) (by rfl) ?_
    refine r_iload_n (i := 1) i_M_holds_16 rfl rfl ?_
    refine r_iald i_M_holds_17 (by repeat (first | assumption | exact upw_s | refine (upw_n (by omega)).trans ?_)) (by first | assumption | omega) (by assumption) ?_
    refine r_if_ne 23 i_M_holds_18 (by decide) (fun h18 => ?_) (fun h18 => ?_)
    · skip
      rw [if_pos ⟨h9, h18⟩]
      refine r_aload_n (i := 0) i_M_holds_23 rfl rfl ?_
      refine r_getf (ci := 6) (T := Fk6) (k := 0) o_M_holds i_M_holds_24 x_M_7 rfl (by decide) rfl (by repeat (first | assumption | exact upw_s | refine (upw_n (by omega)).trans ?_)) (by first | assumption | omega) (by rfl) ?_
      refine r_iload_n (i := 1) i_M_holds_27 rfl rfl ?_
      refine r_iald i_M_holds_28 (by repeat (first | assumption | exact upw_s | refine (upw_n (by omega)).trans ?_)) (by first | assumption | omega) (by assumption) ?_
      refine r_iconst (v := (1 : Int32)) i_M_holds_29 rfl ?_
      refine r_icmp_ne 42 i_M_holds_30 (by decide) (fun h30 => ?_) (fun h30 => ?_)
      · skip
        rw [if_neg h30]
        refine r_bipush (v := (10 : Int32)) i_M_holds_42 (by decide) ?_
        refine r_aload_n (i := 0) i_M_holds_44 rfl rfl ?_
        refine r_getf (ci := 6) (T := Fk6) (k := 5) o_M_holds i_M_holds_45 x_M_28 rfl (by decide) rfl (by repeat (first | assumption | exact upw_s | refine (upw_n (by omega)).trans ?_)) (by first | assumption | omega) (by rfl) ?_
        refine r_iload_n (i := 1) i_M_holds_48 rfl rfl ?_
        refine r_iald i_M_holds_49 (by repeat (first | assumption | exact upw_s | refine (upw_n (by omega)).trans ?_)) (by first | assumption | omega) (by assumption) ?_
        refine r_iadd i_M_holds_50 ?_
        refine r_ireturn i_M_holds_51 t_M_holds rfl ?_
        exact ⟨rfl, rfl, rfl⟩
      · skip
        rw [if_pos h30]
        refine r_aload_n (i := 0) i_M_holds_33 rfl rfl ?_
        refine r_getf (ci := 6) (T := Fk6) (k := 1) o_M_holds i_M_holds_34 x_M_13 rfl (by decide) rfl (by repeat (first | assumption | exact upw_s | refine (upw_n (by omega)).trans ?_)) (by first | assumption | omega) (by rfl) ?_
        refine r_iload_n (i := 1) i_M_holds_37 rfl rfl ?_
        refine r_iald i_M_holds_38 (by repeat (first | assumption | exact upw_s | refine (upw_n (by omega)).trans ?_)) (by first | assumption | omega) (by assumption) ?_
        refine r_goto 51 i_M_holds_39 (by decide) ?_
        refine r_ireturn i_M_holds_51 t_M_holds rfl ?_
        exact ⟨rfl, rfl, rfl⟩
    · skip
      rw [if_neg (fun q => q.2 h18)]
      refine r_iconst (v := (-1 : Int32)) i_M_holds_21 rfl ?_
      refine r_ireturn i_M_holds_22 t_M_holds rfl ?_
      exact ⟨rfl, rfl, rfl⟩
def m2_rule (M : aM) (s k a : Int32) : Int32 × aM := if (lt0 s 8 && (wi0 k 1 6 && wi0 a 0 99)) = true then (1, mA (mA (mA M 1 (upd (M.2.1 1) s.toNatClampNeg 2)) 14 (upd (M.2.1 14) s.toNatClampNeg k)) 15 (upd (M.2.1 15) s.toNatClampNeg a)) else (-2, mR M 2)
def Mm (G : gE) (d z : Nat) (args : List Value) (w : aW) (o n : Nat) (m : Int32 × aM) : Prop := Mt G d z args w n 0 0 (fun r w' n' => r = some (.int m.1) ∧ (MW w' o m.2 n ∧ mFr w w' o) ∧ n' = n)
theorem Mm.of {d z na nL : Nat} {args : List Value} {m : Int32 × aM} {ls : List (Option Value)} (hz : okM z na) (hm : ml z = nL) (hfit : Nat.ble (ent args).length nL = true) (hls : ent args ++ List.replicate (nL - (ent args).length) none = ls)
    (h : Go G d z 0 ls [] w n 0 0 (fun r w' n' => r = some (.int m.1) ∧ (MW w' o m.2 n ∧ mFr w w' o) ∧ n' = n)) : Mm G d z args w o n m := Mt.of hz hm (Nat.le_of_ble_eq_true hfit) hls h
theorem c_M_rule {s k a : Int32} (h : MW w o M n) : Mm G 1 y_M_rule [.ref o, .int s, .int k, .int a] w o n (m2_rule M s k a) := by
  obtain ⟨m0, mA', mL', m4, m20, m28, mn'⟩ := id h
  have a1 : w (o + 1) = ai 8 (M.2.1 1) := mA' 1 rfl
  have a14 : w (o + 14) = ai 8 (M.2.1 14) := mA' 14 rfl
  have a15 : w (o + 15) = ai 8 (M.2.1 15) := mA' 15 rfl
  refine Mm.of k_M_rule l_M_rule rfl rfl ?_
  unfold m2_rule
  refine r_iload_n (i := 1) i_M_rule_0 rfl rfl ?_
  refine r_i2l i_M_rule_1 ?_
  refine r_lconst (v := (0 : Int64)) i_M_rule_2 rfl ?_
  refine r_ldc2 o_M_rule i_M_rule_3 x_M_83 ?_
  refine f_static o_M_rule k_M_in s_M_in x_M_76 i_M_rule_6 (c_M_in) rfl rfl (by decide) (Nat.le_of_ble_eq_true rfl) ?_
  rw [in_07]
  refine r_if_eq 36 i_M_rule_9 (by decide) (fun h9 => ?_) (fun h9 => ?_)
  · skip
    rw [bI_eq0.mp h9]
    refine r_aload_n (i := 0) i_M_rule_36 rfl rfl ?_
    refine r_bipush (v := (-2 : Int32)) i_M_rule_37 (by decide) ?_
    refine m_virtual o_M_rule k_M_refuse v_M_refuse x_M_89 i_M_rule_39 o_M_refuse (c_M_refuse (i := 2) h (by decide)) rfl (rcv_ob (by repeat (first | assumption | exact upw_s | refine (upw_n (by omega)).trans ?_)) rfl (by first | assumption | omega)) rfl (by decide) (Nat.le_of_ble_eq_true rfl) (Nat.zero_le _) (Nat.zero_le _) (fun r1 w2 n1 hp9 => ?_)
    obtain ⟨rfl, hp9, rfl⟩ := hp9
    refine r_ireturn i_M_rule_42 t_M_rule rfl ?_
    exact ⟨rfl, hp9, rfl⟩
  · skip
    have h9 := bI_ne0.mp h9
    rw [h9]
    refine r_iload_n (i := 2) i_M_rule_12 rfl rfl ?_
    refine r_i2l i_M_rule_13 ?_
    refine r_lconst (v := (1 : Int64)) i_M_rule_14 rfl ?_
    refine r_ldc2 o_M_rule i_M_rule_15 x_M_100 ?_
    refine f_static o_M_rule k_M_in s_M_in x_M_76 i_M_rule_18 (c_M_in) rfl rfl (by decide) (Nat.le_of_ble_eq_true rfl) ?_
    rw [in_16]
    refine r_if_eq 36 i_M_rule_21 (by decide) (fun h21 => ?_) (fun h21 => ?_)
    · skip
      rw [bI_eq0.mp h21]
      refine r_aload_n (i := 0) i_M_rule_36 rfl rfl ?_
      refine r_bipush (v := (-2 : Int32)) i_M_rule_37 (by decide) ?_
      refine m_virtual o_M_rule k_M_refuse v_M_refuse x_M_89 i_M_rule_39 o_M_refuse (c_M_refuse (i := 2) h (by decide)) rfl (rcv_ob (by repeat (first | assumption | exact upw_s | refine (upw_n (by omega)).trans ?_)) rfl (by first | assumption | omega)) rfl (by decide) (Nat.le_of_ble_eq_true rfl) (Nat.zero_le _) (Nat.zero_le _) (fun r1 w2 n1 hp9 => ?_)
      obtain ⟨rfl, hp9, rfl⟩ := hp9
      refine r_ireturn i_M_rule_42 t_M_rule rfl ?_
      exact ⟨rfl, hp9, rfl⟩
    · skip
      rw [bI_ne0.mp h21]
      refine r_iload_n (i := 3) i_M_rule_24 rfl rfl ?_
      refine r_i2l i_M_rule_25 ?_
      refine r_lconst (v := (0 : Int64)) i_M_rule_26 rfl ?_
      refine r_ldc2 o_M_rule i_M_rule_27 x_M_102 ?_
      refine f_static o_M_rule k_M_in s_M_in x_M_76 i_M_rule_30 (c_M_in) rfl rfl (by decide) (Nat.le_of_ble_eq_true rfl) ?_
      rw [in_099]
      refine r_if_ne 43 i_M_rule_33 (by decide) (fun h33 => ?_) (fun h33 => ?_)
      · skip
        rw [bI_ne0.mp h33]
        obtain ⟨s, hs, rfl⟩ := lt0_of (N := 8) (by decide) h9
        have is : vp_in (nI s) 8 := vp_in_nI hs (by decide)
        refine r_aload_n (i := 0) i_M_rule_43 rfl rfl ?_
        refine r_getf (ci := 6) (T := Fk6) (k := 0) o_M_rule i_M_rule_44 x_M_7 rfl (by decide) rfl (by repeat (first | assumption | exact upw_s | refine (upw_n (by omega)).trans ?_)) (by first | assumption | omega) (by rfl) ?_
        refine r_iload_n (i := 1) i_M_rule_47 rfl rfl ?_
        refine r_iconst (v := (2 : Int32)) i_M_rule_48 rfl ?_
        refine r_iast i_M_rule_49 (by repeat (first | assumption | exact upw_s | refine (upw_n (by omega)).trans ?_)) (by first | assumption | omega) (by assumption) ?_
        refine r_aload_n (i := 0) i_M_rule_50 rfl rfl ?_
        refine r_getf (ci := 6) (T := Fk6) (k := 5) o_M_rule i_M_rule_51 x_M_28 rfl (by decide) rfl (by repeat (first | assumption | exact upw_s | refine (upw_n (by omega)).trans ?_)) (by first | assumption | omega) (by rfl) ?_
        refine r_iload_n (i := 1) i_M_rule_54 rfl rfl ?_
        refine r_iload_n (i := 2) i_M_rule_55 rfl rfl ?_
        refine r_iast i_M_rule_56 (by repeat (first | assumption | exact upw_s | refine (upw_n (by omega)).trans ?_)) (by first | assumption | omega) (by assumption) ?_
        refine r_aload_n (i := 0) i_M_rule_57 rfl rfl ?_
        refine r_getf (ci := 6) (T := Fk6) (k := 6) o_M_rule i_M_rule_58 x_M_31 rfl (by decide) rfl (by repeat (first | assumption | exact upw_s | refine (upw_n (by omega)).trans ?_)) (by first | assumption | omega) (by rfl) ?_
        refine r_iload_n (i := 1) i_M_rule_61 rfl rfl ?_
        refine r_iload_n (i := 3) i_M_rule_62 rfl rfl ?_
        refine r_iast i_M_rule_63 (by repeat (first | assumption | exact upw_s | refine (upw_n (by omega)).trans ?_)) (by first | assumption | omega) (by assumption) ?_
        refine r_iconst (v := (1 : Int32)) i_M_rule_64 rfl ?_
        refine r_ireturn i_M_rule_65 t_M_rule rfl ?_
        exact ⟨rfl, ⟨((h.arr (j := 1) rfl).arr (j := 14) rfl).arr (j := 15) rfl, fun j hj => (by (repeat (refine (upw_n (by omega)).trans ?_)); rfl)⟩, rfl⟩
      · skip
        rw [bI_eq0.mp h33]
        refine r_aload_n (i := 0) i_M_rule_36 rfl rfl ?_
        refine r_bipush (v := (-2 : Int32)) i_M_rule_37 (by decide) ?_
        refine m_virtual o_M_rule k_M_refuse v_M_refuse x_M_89 i_M_rule_39 o_M_refuse (c_M_refuse (i := 2) h (by decide)) rfl (rcv_ob (by repeat (first | assumption | exact upw_s | refine (upw_n (by omega)).trans ?_)) rfl (by first | assumption | omega)) rfl (by decide) (Nat.le_of_ble_eq_true rfl) (Nat.zero_le _) (Nat.zero_le _) (fun r1 w2 n1 hp9 => ?_)
        obtain ⟨rfl, hp9, rfl⟩ := hp9
        refine r_ireturn i_M_rule_42 t_M_rule rfl ?_
        exact ⟨rfl, hp9, rfl⟩
end MSHELF
