-- SHELVES: what is copied
def stp (i j m k : Nat) : Nat := if i < j then m - 1 - k else k
def mvF (X : aH) (p q i j m : Nat) : Nat → aH
  | 0 => X
  | k + 1 => putE (mvF X p q i j m k) q (j + stp i j m k) (elemI (mvF X p q i j m k) p (nI (i + stp i j m k)))
theorem mvF_keep {X : aH} {p q i j m : Nat} : ∀ k, (mvF X p q i j m k).1 = X.1 ∧ (mvF X p q i j m k).2.1 = X.2.1 ∧ (mvF X p q i j m k).2.2.1 = X.2.2.1
  | 0 => ⟨rfl, rfl, rfl⟩
  | k + 1 => mvF_keep k
theorem sizeI_keep {X Y : aH} {s : Int32} (h1 : Y.1 = X.1) (h2 : Y.2.1 = X.2.1) : sizeI Y s = sizeI X s := by
  unfold sizeI isRow heldI
  rw [h1, h2]
theorem toInt_nI {k : Nat} (h : k < 2 ^ 31) : (nI k).toInt = (k : Int) := Int32.toInt_ofNat_of_lt h
theorem span_of {i m : Int32} {z : Nat} (hz : z ≤ 40) (h : spanB i m (nI z) = true) : ∃ i' m', i = nI i' ∧ m = nI m' ∧ i' + m' ≤ z := by
  unfold spanB at h
  simp only [Bool.and_eq_true, decide_eq_true_eq] at h
  obtain ⟨⟨h1, h2⟩, h3⟩ := h
  obtain ⟨i', hi, rfl⟩ := nI_of h1
  obtain ⟨m', hm, rfl⟩ := nI_of h2
  refine ⟨i', m', rfl, rfl, ?_⟩
  rw [Int32.lt_iff_toInt_lt, Int32.toInt_sub, toInt_nI (by omega), toInt_nI hi, toInt_nI hm] at h3
  rw [show ((z : Int) - (i' : Int)).bmod (2 ^ 32) = (z : Int) - (i' : Int) from Int.bmod_eq_of_le (by omega) (by omega)] at h3
  omega
section COPY
variable {G : gE} {w : aW} {n k : Nat} {X : aH}
theorem c_S_move {p q i j m a b c : Nat} (hX : SW w k X n) (hp : p < 8) (hq : q < 8) (ha : sizeI X (nI p) = nI a) (ha4 : a ≤ 40) (hia : i + m ≤ a) (hjb : j + m ≤ b) (hb4 : b ≤ 40) (hc : X.1 q = nI c) (hc5 : c < 5) : Sm G 5 y_S_move [.ref k, .int (nI p), .int (nI q), .int (nI i), .int (nI j), .int (nI m)] w n none k (mvF X p q i j m m) := by
  have hn : k + 4 < n := hX.2.2.2.2.2
  refine Sm.of k_S_move l_S_move rfl rfl ?_
  have hloop : ∀ r e, e + r = m → ∀ (x : Option Value) (w1 : aW), SW w1 k (mvF X p q i j m e) n → (∀ j, (j < k ∨ k + 4 < j) → w1 j = w j) → Go G 5 y_S_move 3 [some (.ref k), some (.int (nI p)), some (.int (nI q)), some (.int (nI i)), some (.int (nI j)), some (.int (nI m)), some (.int (nI e)), x] [] w1 n 0 0 (fun r w' n' => r = none ∧ SU w w' k (mvF X p q i j m m) n ∧ n' = n) := by
    intro r
    induction r with
    | zero =>
      intro e he x w1 hS hF
      have he : e = m := by omega
      subst he
      refine r_iload (i := 6) i_S_move_3 rfl ?_
      refine r_iload (i := 5) i_S_move_5 rfl ?_
      refine r_icmp_ge 55 i_S_move_7 (by decide) (fun h7 => ?_) (fun h7 => (absurd (nI_le (Nat.le_refl _) (by omega)) h7))
      refine r_return i_S_move_55 t_S_move ?_
      exact ⟨rfl, ⟨hS, hF⟩, rfl⟩
    | succ r ih =>
      intro e he x w1 hS hF
      have ih' := ih (e + 1) (by omega)
      obtain ⟨t1, t2, t3⟩ := mvF_keep (X := X) (p := p) (q := q) (i := i) (j := j) (m := m) e
      have e7 : mvF X p q i j m (e + 1) = putE (mvF X p q i j m e) q (j + stp i j m e) (elemI (mvF X p q i j m e) p (nI (i + stp i j m e))) := rfl
      rw [e7] at ih'
      have hs9 : sizeI (mvF X p q i j m e) (nI p) = nI a := (sizeI_keep t1 t2).trans ha
      have hc9 : (mvF X p q i j m e).1 q = nI c := by rw [t1]; exact hc
      generalize mvF X p q i j m e = Y at *
      have oS := hS.1
      have hst : stp i j m e < m := by unfold stp; split <;> omega
      refine r_iload (i := 6) i_S_move_3 rfl ?_
      refine r_iload (i := 5) i_S_move_5 rfl ?_
      refine r_icmp_ge 55 i_S_move_7 (by decide) (fun h7 => (absurd h7 (nI_ge (by omega) (by omega)))) (fun h7 => ?_)
      refine r_iload_n (i := 3) i_S_move_10 rfl rfl ?_
      refine r_iload (i := 4) i_S_move_11 rfl ?_
      refine r_icmp_ge 26 i_S_move_13 (by decide) (fun h13 => ?_) (fun h13 => ?_)
      · skip
        have q13 : ¬ i < j := fun q => absurd (nI_lt q (by omega)) (Int32.not_lt.mpr h13)
        rw [show stp i j m e = e from if_neg q13] at ih' hst
        refine r_iload (i := 6) i_S_move_26 rfl ?_
        refine r_istore_7 i_S_move_28 (by rw [l_S_move]; decide) rfl ?_
        refine r_aload_n (i := 0) i_S_move_30 rfl rfl ?_
        refine r_iload_n (i := 2) i_S_move_31 rfl rfl ?_
        refine r_iload (i := 4) i_S_move_32 rfl ?_
        refine r_iload (i := 7) i_S_move_34 rfl ?_
        refine r_iadd i_S_move_36 ?_
        refine r_aload_n (i := 0) i_S_move_37 rfl rfl ?_
        refine r_iload_n (i := 1) i_S_move_38 rfl rfl ?_
        refine r_iload_n (i := 3) i_S_move_39 rfl rfl ?_
        refine r_iload (i := 7) i_S_move_40 rfl ?_
        refine r_iadd i_S_move_42 ?_
        rw [nI_add, nI_add]
        refine f_virtual o_S_move k_S_elementAt v_S_elementAt x_S_63 i_S_move_43 o_S_elementAt (c_S_elementAt hS hp hs9 ha4) rfl (rcv_ob (by repeat (first | assumption | exact upw_s | refine (upw_n (by omega)).trans ?_)) rfl (by first | assumption | omega)) rfl (by decide) (Nat.le_of_ble_eq_true rfl) ?_
        refine m_virtual o_S_move k_S_putElement v_S_putElement x_S_55 i_S_move_46 o_S_putElement (c_S_putElement hS hq (by omega) hc9 hc5) rfl (rcv_ob (by repeat (first | assumption | exact upw_s | refine (upw_n (by omega)).trans ?_)) rfl (by first | assumption | omega)) rfl (by decide) (Nat.le_of_ble_eq_true rfl) (Nat.zero_le _) (Nat.zero_le _) (fun r1 w2 n1 hp9 => ?_)
        obtain ⟨rfl, ⟨hS2, hF2⟩, rfl⟩ := hp9
        refine r_iinc_6 (v := (1 : Int32)) i_S_move_49 rfl (by rw [l_S_move]; decide) rfl ?_
        refine r_goto 3 i_S_move_52 (by decide) ?_
        rw [nI_1]
        exact ih' _ w2 hS2 (fun j hj => (hF2 j hj).trans (hF j hj))
      · skip
        have q13 : i < j := Nat.not_le.mp (fun q => h13 (nI_le q (by omega)))
        rw [show stp i j m e = m - 1 - e from if_pos q13] at ih' hst
        refine r_iload (i := 5) i_S_move_16 rfl ?_
        refine r_iconst (v := (1 : Int32)) i_S_move_18 rfl ?_
        refine r_isub i_S_move_19 ?_
        refine r_iload (i := 6) i_S_move_20 rfl ?_
        refine r_isub i_S_move_22 ?_
        rw [show nI m - 1 = nI (m - 1) from pk_sub (b := 1) (by omega), show nI (m - 1) - nI e = nI (m - 1 - e) from pk_sub (by omega)]
        refine r_goto 28 i_S_move_23 (by decide) ?_
        refine r_istore_7 i_S_move_28 (by rw [l_S_move]; decide) rfl ?_
        refine r_aload_n (i := 0) i_S_move_30 rfl rfl ?_
        refine r_iload_n (i := 2) i_S_move_31 rfl rfl ?_
        refine r_iload (i := 4) i_S_move_32 rfl ?_
        refine r_iload (i := 7) i_S_move_34 rfl ?_
        refine r_iadd i_S_move_36 ?_
        refine r_aload_n (i := 0) i_S_move_37 rfl rfl ?_
        refine r_iload_n (i := 1) i_S_move_38 rfl rfl ?_
        refine r_iload_n (i := 3) i_S_move_39 rfl rfl ?_
        refine r_iload (i := 7) i_S_move_40 rfl ?_
        refine r_iadd i_S_move_42 ?_
        rw [nI_add, nI_add]
        refine f_virtual o_S_move k_S_elementAt v_S_elementAt x_S_63 i_S_move_43 o_S_elementAt (c_S_elementAt hS hp hs9 ha4) rfl (rcv_ob (by repeat (first | assumption | exact upw_s | refine (upw_n (by omega)).trans ?_)) rfl (by first | assumption | omega)) rfl (by decide) (Nat.le_of_ble_eq_true rfl) ?_
        refine m_virtual o_S_move k_S_putElement v_S_putElement x_S_55 i_S_move_46 o_S_putElement (c_S_putElement hS hq (by omega) hc9 hc5) rfl (rcv_ob (by repeat (first | assumption | exact upw_s | refine (upw_n (by omega)).trans ?_)) rfl (by first | assumption | omega)) rfl (by decide) (Nat.le_of_ble_eq_true rfl) (Nat.zero_le _) (Nat.zero_le _) (fun r1 w2 n1 hp9 => ?_)
        obtain ⟨rfl, ⟨hS2, hF2⟩, rfl⟩ := hp9
        refine r_iinc_6 (v := (1 : Int32)) i_S_move_49 rfl (by rw [l_S_move]; decide) rfl ?_
        refine r_goto 3 i_S_move_52 (by decide) ?_
        rw [nI_1]
        exact ih' _ w2 hS2 (fun j hj => (hF2 j hj).trans (hF j hj))
  refine r_iconst (v := (0 : Int32)) i_S_move_0 rfl ?_
  refine r_istore_6 i_S_move_1 (by rw [l_S_move]; decide) rfl ?_
  exact hloop m 0 (by omega) none w hX (fun _ _ => rfl)
def m_copy (Q : aQ) (p q i j m : Int32) : Int32 × aQ := if copyR Q.2.2.2.1 p q i j m = 0 then (m, qS Q (mvF Q.2.2.2.1 p.toNatClampNeg q.toNatClampNeg i.toNatClampNeg j.toNatClampNeg m.toNatClampNeg m.toNatClampNeg)) else rfz Q (copyR Q.2.2.2.1 p q i j m)
theorem copyR_0 {p q i j m : Int32} (hX : HOk X) (h : copyR X p q i j m = 0) : ∃ p' q' i' j' m' a b c, p' < 8 ∧ q' < 8 ∧ p = nI p' ∧ q = nI q' ∧ i = nI i' ∧ j = nI j' ∧ m = nI m' ∧ sizeI X (nI p') = nI a ∧ a ≤ 40 ∧ i' + m' ≤ a ∧ j' + m' ≤ b ∧ b ≤ 40 ∧ X.1 q' = nI c ∧ c < 5 ∧ sizeI X (nI q') = nI b := by
  unfold copyR at h
  split at h
  · exact absurd h (by decide)
  · rename_i h1
    split at h
    · exact absurd h (by decide)
    · split at h
      · rename_i h3
        split at h
        · split at h
          · rename_i h5
            simp only [Bool.or_eq_true, Bool.not_eq_true', not_or, Bool.not_eq_false] at h1
            rw [Bool.and_eq_true] at h3 h5
            obtain ⟨p', hp, rfl⟩ := lt0_of (N := 8) (by decide) h1.1
            obtain ⟨q', hq, rfl⟩ := lt0_of (N := 8) (by decide) h1.2
            obtain ⟨a, ha, ea⟩ := size_of hX p' hp
            obtain ⟨b, hb, eb⟩ := size_of hX q' hq
            rw [ea, eb] at h5
            obtain ⟨i', m', rfl, rfl, hi⟩ := span_of ha h5.1
            obtain ⟨j', m2, rfl, e2, hj⟩ := span_of hb h5.2
            obtain ⟨c, hc, ec⟩ := row_sort hX hq h3.2
            have e3 : m' = m2 := by
              have := congrArg Int32.toNatClampNeg e2
              rwa [nI_clamp (by omega), nI_clamp (by omega)] at this
            exact ⟨p', q', i', j', m', a, b, c, hp, hq, rfl, rfl, rfl, rfl, rfl, ea, ha, hi, by omega, hb, ec, hc, eb⟩
          · exact absurd h (by decide)
        · exact absurd h (by decide)
      · exact absurd h (by decide)
theorem c_N_copy {Q : aQ} {p q i j m : Int32} (hC : CW w Q n) (hQ : QOk Q) : Cm G 6 y_N_copy [.ref 0, .int p, .int q, .int i, .int j, .int m] w n (m_copy Q p q i j m) := by
  obtain ⟨D, L, fa, K, Z, hX⟩ := id hC
  obtain ⟨c0, cT, cK, cD, cS, cR, cW, cE, cF, cn⟩ := id hX
  have oT := cT.1
  have oK := cK.1
  have oD := cD.1
  have oS := cS.1
  have oR := cR.1
  have oW := cW.1
  have oE := cE.1
  refine Cm.of k_N_copy l_N_copy rfl rfl ?_
  unfold m_copy
  refine r_aload_n (i := 0) i_N_copy_0 rfl rfl ?_
  refine r_getf (ci := 0) (T := Fk0) (k := 4) o_N_copy i_N_copy_1 x_N_29 rfl (by decide) rfl (by repeat (first | assumption | exact upw_s | refine (upw_n (by omega)).trans ?_)) (by first | assumption | omega) (by rfl) ?_
  refine r_iload_n (i := 1) i_N_copy_4 rfl rfl ?_
  refine r_iload_n (i := 2) i_N_copy_5 rfl rfl ?_
  refine r_iload_n (i := 3) i_N_copy_6 rfl rfl ?_
  refine r_iload (i := 4) i_N_copy_7 rfl ?_
  refine r_iload (i := 5) i_N_copy_9 rfl ?_
  refine f_virtual o_N_copy k_S_copyRefusal v_S_copyRefusal x_N_84 i_N_copy_11 o_S_copyRefusal (c_S_copyRefusal cS) rfl (rcv_ob (by repeat (first | assumption | exact upw_s | refine (upw_n (by omega)).trans ?_)) rfl (by first | assumption | omega)) rfl (by decide) (Nat.le_of_ble_eq_true rfl) ?_
  refine r_istore_6 i_N_copy_14 (by rw [l_N_copy]; decide) rfl ?_
  refine r_iload (i := 6) i_N_copy_16 rfl ?_
  refine r_if_eq 28 i_N_copy_18 (by decide) (fun h18 => ?_) (fun h18 => ?_)
  · skip
    rw [if_pos h18]
    obtain ⟨p, q, i, j, m, a, b, c, hp, hq, rfl, rfl, rfl, rfl, rfl, ha, ha4, hia, hjb, hb4, hc, hc5, -⟩ := copyR_0 hQ.2.2.1 h18
    rw [nI_clamp (by omega), nI_clamp (by omega), nI_clamp (by omega), nI_clamp (by omega), nI_clamp (by omega)]
    refine r_aload_n (i := 0) i_N_copy_28 rfl rfl ?_
    refine r_getf (ci := 0) (T := Fk0) (k := 4) o_N_copy i_N_copy_29 x_N_29 rfl (by decide) rfl (by repeat (first | assumption | exact upw_s | refine (upw_n (by omega)).trans ?_)) (by first | assumption | omega) (by rfl) ?_
    refine r_iload_n (i := 1) i_N_copy_32 rfl rfl ?_
    refine r_iload_n (i := 2) i_N_copy_33 rfl rfl ?_
    refine r_iload_n (i := 3) i_N_copy_34 rfl rfl ?_
    refine r_iload (i := 4) i_N_copy_35 rfl ?_
    refine r_iload (i := 5) i_N_copy_37 rfl ?_
    refine m_virtual o_N_copy k_S_move v_S_move x_N_88 i_N_copy_39 o_S_move (c_S_move cS hp hq ha ha4 hia hjb hb4 hc hc5) rfl (rcv_ob (by repeat (first | assumption | exact upw_s | refine (upw_n (by omega)).trans ?_)) rfl (by first | assumption | omega)) rfl (by decide) (Nat.le_of_ble_eq_true rfl) (Nat.zero_le _) (Nat.zero_le _) (fun r1 w2 n1 hp9 => ?_)
    obtain ⟨rfl, ⟨hS2, hF2⟩, rfl⟩ := hp9
    have hp9 : CW w2 (qS Q _) n1 ∧ cFr w w2 := ⟨(hX.shel hS2 hF2).cw, fun j hj => hF2 j (by omega)⟩
    refine r_iload (i := 5) i_N_copy_42 rfl ?_
    refine r_ireturn i_N_copy_44 t_N_copy rfl ?_
    first | exact ⟨rfl, hp9, rfl⟩ | exact ⟨rfl, ⟨hC, cFr.rfl⟩, rfl⟩
  · skip
    rw [if_neg h18]
    refine r_aload_n (i := 0) i_N_copy_21 rfl rfl ?_
    refine r_iload (i := 6) i_N_copy_22 rfl ?_
    refine m_virtual o_N_copy k_N_refuse v_N_refuse x_N_66 i_N_copy_24 o_N_refuse (c_N_refuse hC) rfl (rcv_ob (by repeat (first | assumption | exact upw_s | refine (upw_n (by omega)).trans ?_)) rfl (by first | assumption | omega)) rfl (by decide) (Nat.le_of_ble_eq_true rfl) (Nat.zero_le _) (Nat.zero_le _) (fun rr24 wr24 nr24 hp9 => ?_)
    obtain ⟨rfl, hp9, rfl⟩ := hp9
    refine r_ireturn i_N_copy_27 t_N_copy rfl ?_
    first | exact ⟨rfl, hp9, rfl⟩ | exact ⟨rfl, ⟨hC, cFr.rfl⟩, rfl⟩
end COPY
