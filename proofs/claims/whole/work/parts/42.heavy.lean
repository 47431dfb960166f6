-- SEARCH: the heaviest set
def sumS (W : Nat → Int32) (j : Nat) : Nat → Int32
  | 0 => 0
  | b + 1 => if j.testBit b then sumS W j b + W b else sumS W j b
theorem sumS_split {W : Nat → Int32} {j r l : Nat} : ∀ m, (∀ b, b < m → r.testBit b = (j.testBit b && !decide (b = l))) → j.testBit l = true → sumS W j m = sumS W r m + (if l < m then W l else 0)
  | 0, _, _ => by simp [sumS]
  | b + 1, h, hl => by
    have ih := sumS_split (W := W) b (fun q hq => h q (by omega)) hl
    have hb := h b (by omega)
    unfold sumS
    by_cases e : b = l
    · subst e
      rw [hl, decide_eq_true rfl] at hb
      have hb : r.testBit b = false := hb
      rw [hl, hb, if_pos rfl, if_neg (by decide), ih, if_neg (by omega), if_pos (by omega), Int32.add_zero]
    · rw [decide_eq_false e, Bool.not_false, Bool.and_true] at hb
      rw [hb]
      by_cases c : l < b
      · rw [if_pos c] at ih
        rw [if_pos (show l < b + 1 by omega), ih]
        split
        · rw [Int32.add_assoc, Int32.add_assoc, Int32.add_comm (W l)]
        · rfl
      · rw [if_neg c] at ih
        rw [if_neg (show ¬ l < b + 1 by omega), ih, Int32.add_zero, Int32.add_zero]
theorem sumS_step {W : Nat → Int32} {j : Nat} (hj : j < 128) (h0 : 0 < j) : sumS W j 7 = sumS W (rstB j) 7 + W (lowB j) := by
  obtain ⟨-, -, -, -, t5, t6, -, t8⟩ := tabB j hj h0
  rw [sumS_split 7 (fun b hb => (t8 b hb).1) t6, if_pos t5]
theorem sumS_cong {W V : Nat → Int32} {j B : Nat} (hj : j < 2 ^ B) (h : ∀ b, b < B → W b = V b) : ∀ m, sumS W j m = sumS V j m
  | 0 => rfl
  | b + 1 => by
    have ih := sumS_cong hj h b
    unfold sumS
    rw [ih]
    by_cases c : b < B
    · rw [h b c]
    · have : j.testBit b = false := Nat.testBit_lt_two_pow (Nat.lt_of_lt_of_le hj (Nat.pow_le_pow_right (by decide) (by omega)))
      rw [this]
      rfl
def hvF (S : aS) (W : Nat → Int32) : Nat → Int32
  | 0 => 0
  | i + 1 => if apS S i then (if hvF S W i < sumS W i 7 then sumS W i 7 else hvF S W i) else hvF S W i
theorem hvF_cong {S : aS} {W V : Nat → Int32} {B : Nat} (h : ∀ b, b < B → W b = V b) : ∀ i, i ≤ 2 ^ B → hvF S W i = hvF S V i
  | 0, _ => rfl
  | i + 1, hi => by
    unfold hvF
    rw [hvF_cong h i (by omega), sumS_cong (by omega) h 7]
section HEAVY
variable {G : gE} {w : aW} {n k t : Nat} {Z : aZ} {S : aS}
theorem c_E_heaviest {B : Nat} (hZ : EW w k Z n) (hT : TW w t S n) (hd : k + 5 < t ∨ t + 8 < k) (hB : S.1 1 = nI B) (hB7 : B ≤ 7) : Mt G 3 y_E_heaviest [.ref k, .ref t] w n 0 0 (fun r w' n' => r = some (.int (hvF S Z.2.2.2.2 (2 ^ B))) ∧ ((∃ Z' : aZ, EW w' k Z' n) ∧ eFr w w' k) ∧ n' = n) := by
  have hp := pow7 hB7
  have hp0 : 0 < 2 ^ B := Nat.pow_pos (by decide)
  have hloop : ∀ m i : Nat, i + m = 2 ^ B → 0 < i → ∀ (ap : Nat → Int32) (wy : Nat → Int64) (w1 : aW), (∀ j, j < 2 ^ B → ap j = bI (apS S j)) → EW w1 k (ap, wy, Z.2.2) n → (∀ j, j < i → (wy j).toInt32 = sumS Z.2.2.2.2 j 7) → eFr w w1 k → Go G 3 y_E_heaviest 18 [some (.ref k), some (.ref t), some (.int (nI (2 ^ B))), some (.int (hvF S Z.2.2.2.2 i)), some (.int (nI i))] [] w1 n 0 0 (fun r w' n' => r = some (.int (hvF S Z.2.2.2.2 (2 ^ B))) ∧ ((∃ Z' : aZ, EW w' k Z' n) ∧ eFr w w' k) ∧ n' = n) := by
    intro m
    induction m with
    | zero =>
      intro i hi hi0 ap wy w1 hap hZ1 hwy hF1
      have hi : i = 2 ^ B := by omega
      subst hi
      refine r_iload (i := 4) i_E_heaviest_18 rfl ?_
      refine r_iload_n (i := 2) i_E_heaviest_20 rfl rfl ?_
      refine r_icmp_ge 86 i_E_heaviest_21 (by decide) (fun h21 => ?_) (fun h21 => (absurd (Int32.le_refl _) h21))
      refine r_iload_n (i := 3) i_E_heaviest_86 rfl rfl ?_
      refine r_ireturn i_E_heaviest_87 t_E_heaviest rfl ?_
      exact ⟨rfl, ⟨⟨_, hZ1⟩, hF1⟩, rfl⟩
    | succ m ih =>
      intro i hi hi0 ap wy w1 hap hZ1 hwy hF1
      obtain ⟨t1, t2, t3, t4, t5, -, -, -⟩ := tabB i (by omega) hi0
      obtain ⟨g0, g1, g2, g3, g4, g5, hn⟩ := hZ1
      have c1 : (nI (rstB i)).toNatClampNeg = rstB i := nI_clamp (by omega)
      have c2 : (nI i).toNatClampNeg = i := nI_clamp (by omega)
      have hs := sumS_step (W := Z.2.2.2.2) (j := i) (by omega) hi0
      have e1 : (wy (rstB i) + (Z.2.2.2.2 (lowB i)).toInt64).toInt32 = sumS Z.2.2.2.2 i 7 := by
        rw [Int64.toInt32_add, hwy (rstB i) t4, Int32.toInt32_toInt64, hs]
      have e2 : ∀ j, j < i + 1 → (vp_updL wy i (wy (rstB i) + (Z.2.2.2.2 (lowB i)).toInt64) j).toInt32 = sumS Z.2.2.2.2 j 7 := by
        intro j hj
        unfold vp_updL
        by_cases ej : j = i
        · subst ej; rw [if_pos rfl]; exact e1
        · rw [if_neg ej]; exact hwy j (by omega)
      have e3 : vp_updL wy i (wy (rstB i) + (Z.2.2.2.2 (lowB i)).toInt64) i = wy (rstB i) + (Z.2.2.2.2 (lowB i)).toInt64 := if_pos rfl
      have e9 : hvF S Z.2.2.2.2 (i + 1) = if apS S i then (if hvF S Z.2.2.2.2 i < sumS Z.2.2.2.2 i 7 then sumS Z.2.2.2.2 i 7 else hvF S Z.2.2.2.2 i) else hvF S Z.2.2.2.2 i := rfl
      refine r_iload (i := 4) i_E_heaviest_18 rfl ?_
      refine r_iload_n (i := 2) i_E_heaviest_20 rfl rfl ?_
      refine r_icmp_ge 86 i_E_heaviest_21 (by decide) (fun h21 => (absurd h21 (nI_ge (by omega) (by omega)))) (fun h21 => ?_)
      refine r_aload_n (i := 0) i_E_heaviest_24 rfl rfl ?_
      refine r_getf (ci := 5) (T := Fk5) (k := 1) o_E_heaviest i_E_heaviest_25 x_E_17 rfl (by decide) rfl (by repeat (first | assumption | exact upw_s | refine (upw_n (by omega)).trans ?_)) (by first | assumption | omega) (by rfl) ?_
      refine r_iload (i := 4) i_E_heaviest_28 rfl ?_
      refine r_aload_n (i := 0) i_E_heaviest_30 rfl rfl ?_
      refine r_getf (ci := 5) (T := Fk5) (k := 1) o_E_heaviest i_E_heaviest_31 x_E_17 rfl (by decide) rfl (by repeat (first | assumption | exact upw_s | refine (upw_n (by omega)).trans ?_)) (by first | assumption | omega) (by rfl) ?_
      refine r_iload (i := 4) i_E_heaviest_34 rfl ?_
      refine r_iload (i := 4) i_E_heaviest_36 rfl ?_
      refine r_iconst (v := (1 : Int32)) i_E_heaviest_38 rfl ?_
      refine r_isub i_E_heaviest_39 ?_
      refine r_iand i_E_heaviest_40 ?_
      rw [t1]
      refine r_lald i_E_heaviest_41 (by repeat (first | assumption | exact upw_s | refine (upw_n (by omega)).trans ?_)) (by first | assumption | omega) (vp_in_nI (by omega) (by decide)) ?_
      refine r_aload_n (i := 0) i_E_heaviest_42 rfl rfl ?_
      refine r_getf (ci := 5) (T := Fk5) (k := 4) o_E_heaviest i_E_heaviest_43 x_E_27 rfl (by decide) rfl (by repeat (first | assumption | exact upw_s | refine (upw_n (by omega)).trans ?_)) (by first | assumption | omega) (by rfl) ?_
      refine r_iload (i := 4) i_E_heaviest_46 rfl ?_
      refine f_static o_E_heaviest k_JI_numberOfTrailingZeros s_JI_numberOfTrailingZeros x_E_97 i_E_heaviest_48 (c_JI_numberOfTrailingZeros t3) rfl rfl (by decide) (Nat.le_of_ble_eq_true rfl) ?_
      rw [t2]
      refine f_staticN o_E_heaviest k_N_at s_N_at x_E_102 i_E_heaviest_51 (c_N_at (by repeat (first | assumption | exact upw_s | refine (upw_n (by omega)).trans ?_)) (by omega) (by decide)) rfl rfl (by decide) (Nat.le_of_ble_eq_true rfl) ?_
      rw [atI_in t5 (by decide)]
      rw [c1]
      refine r_i2l i_E_heaviest_54 ?_
      refine r_ladd i_E_heaviest_55 ?_
      refine r_last i_E_heaviest_56 (by repeat (first | assumption | exact upw_s | refine (upw_n (by omega)).trans ?_)) (by first | assumption | omega) (vp_in_nI (by omega) (by decide)) ?_
      rw [c2]
      refine r_aload_n (i := 0) i_E_heaviest_57 rfl rfl ?_
      refine r_getf (ci := 5) (T := Fk5) (k := 0) o_E_heaviest i_E_heaviest_58 x_E_13 rfl (by decide) rfl (by repeat (first | assumption | exact upw_s | refine (upw_n (by omega)).trans ?_)) (by first | assumption | omega) (by rfl) ?_
      refine r_iload (i := 4) i_E_heaviest_61 rfl ?_
      refine r_zald i_E_heaviest_63 (by repeat (first | assumption | exact upw_s | refine (upw_n (by omega)).trans ?_)) (by first | assumption | omega) (vp_in_nI (by omega) (by decide)) ?_
      rw [c2, show (ap, wy, Z.2.2).1 i = bI (apS S i) from hap i (by omega)]
      refine r_if_eq 80 i_E_heaviest_64 (by decide) (fun h64 => ?_) (fun h64 => ?_)
      · skip
        have h64 := bI_eq0.mp h64
        rw [h64] at e9
        have e9 : hvF S Z.2.2.2.2 (i + 1) = hvF S Z.2.2.2.2 i := e9
        refine r_iinc_4 (v := (1 : Int32)) i_E_heaviest_80 rfl (by rw [l_E_heaviest]; decide) rfl ?_
        refine r_goto 18 i_E_heaviest_83 (by decide) ?_
        rw [nI_1]
        first | rw [← e9] | skip
        exact ih (i + 1) (by omega) (by omega) ap _ _ hap ⟨(by repeat (first | assumption | exact upw_s | refine (upw_n (by omega)).trans ?_)), (by repeat (first | assumption | exact upw_s | refine (upw_n (by omega)).trans ?_)), upw_s, (by repeat (first | assumption | exact upw_s | refine (upw_n (by omega)).trans ?_)), (by repeat (first | assumption | exact upw_s | refine (upw_n (by omega)).trans ?_)), (by repeat (first | assumption | exact upw_s | refine (upw_n (by omega)).trans ?_)), hn⟩ e2 (fun j hj => (upw_n (by omega)).trans (hF1 j hj))
      · skip
        have h64 := bI_ne0.mp h64
        rw [h64, if_pos rfl] at e9
        refine r_iload_n (i := 3) i_E_heaviest_67 rfl rfl ?_
        refine r_aload_n (i := 0) i_E_heaviest_68 rfl rfl ?_
        refine r_getf (ci := 5) (T := Fk5) (k := 1) o_E_heaviest i_E_heaviest_69 x_E_17 rfl (by decide) rfl (by repeat (first | assumption | exact upw_s | refine (upw_n (by omega)).trans ?_)) (by first | assumption | omega) (by rfl) ?_
        refine r_iload (i := 4) i_E_heaviest_72 rfl ?_
        refine r_lald i_E_heaviest_74 (by repeat (first | assumption | exact upw_s | refine (upw_n (by omega)).trans ?_)) (by first | assumption | omega) (vp_in_nI (by omega) (by decide)) ?_
        rw [c2]
        refine r_l2i i_E_heaviest_75 ?_
        rw [e2 i (by omega)]
        refine f_static o_E_heaviest k_JM_max2 s_JM_max2 x_E_80 i_E_heaviest_76 (c_JM_max2) rfl rfl (by decide) (Nat.le_of_ble_eq_true rfl) ?_
        rw [← e9]
        refine r_istore_3 i_E_heaviest_79 (by rw [l_E_heaviest]; decide) rfl ?_
        refine r_iinc_4 (v := (1 : Int32)) i_E_heaviest_80 rfl (by rw [l_E_heaviest]; decide) rfl ?_
        refine r_goto 18 i_E_heaviest_83 (by decide) ?_
        rw [nI_1]
        first | rw [← e9] | skip
        exact ih (i + 1) (by omega) (by omega) ap _ _ hap ⟨(by repeat (first | assumption | exact upw_s | refine (upw_n (by omega)).trans ?_)), (by repeat (first | assumption | exact upw_s | refine (upw_n (by omega)).trans ?_)), upw_s, (by repeat (first | assumption | exact upw_s | refine (upw_n (by omega)).trans ?_)), (by repeat (first | assumption | exact upw_s | refine (upw_n (by omega)).trans ?_)), (by repeat (first | assumption | exact upw_s | refine (upw_n (by omega)).trans ?_)), hn⟩ e2 (fun j hj => (upw_n (by omega)).trans (hF1 j hj))
  have hZ0 := hZ
  refine Mt.of k_E_heaviest l_E_heaviest (Nat.le_of_ble_eq_true rfl) rfl ?_
  obtain ⟨g0, g1, g2, g3, g4, g5, hn⟩ := hZ
  refine r_aload_n (i := 0) i_E_heaviest_0 rfl rfl ?_
  refine r_aload_n (i := 1) i_E_heaviest_1 rfl rfl ?_
  refine m_virtual o_E_heaviest k_E_findApart v_E_findApart x_E_94 i_E_heaviest_2 o_E_findApart (c_E_findApart hZ0 hT hd hB hB7) rfl (rcv_ob (by repeat (first | assumption | exact upw_s | refine (upw_n (by omega)).trans ?_)) rfl (by first | assumption | omega)) rfl (by decide) (Nat.le_of_ble_eq_true rfl) (Nat.zero_le _) (Nat.zero_le _) (fun r1 w1 n1 hp9 => ?_)
  obtain ⟨rfl, ⟨ap, hap, hZ1, hF1⟩, rfl⟩ := hp9
  obtain ⟨g0, g1, g2, g3, g4, g5, hn⟩ := hZ1
  refine r_istore_2 i_E_heaviest_5 (by rw [l_E_heaviest]; decide) rfl ?_
  refine r_iconst (v := (0 : Int32)) i_E_heaviest_6 rfl ?_
  refine r_istore_3 i_E_heaviest_7 (by rw [l_E_heaviest]; decide) rfl ?_
  refine r_aload_n (i := 0) i_E_heaviest_8 rfl rfl ?_
  refine r_getf (ci := 5) (T := Fk5) (k := 1) o_E_heaviest i_E_heaviest_9 x_E_17 rfl (by decide) rfl (by repeat (first | assumption | exact upw_s | refine (upw_n (by omega)).trans ?_)) (by first | assumption | omega) (by rfl) ?_
  refine r_iconst (v := (0 : Int32)) i_E_heaviest_12 rfl ?_
  refine r_lconst (v := (0 : Int64)) i_E_heaviest_13 rfl ?_
  refine r_last i_E_heaviest_14 (by repeat (first | assumption | exact upw_s | refine (upw_n (by omega)).trans ?_)) (by first | assumption | omega) (vp_in_nI (n := 0) (by decide) (by decide)) ?_
  refine r_iconst (v := (1 : Int32)) i_E_heaviest_15 rfl ?_
  refine r_istore_4 i_E_heaviest_16 (by rw [l_E_heaviest]; decide) rfl ?_
  exact hloop (2 ^ B - 1) 1 (by omega) (by decide) ap _ _ hap ⟨(by repeat (first | assumption | exact upw_s | refine (upw_n (by omega)).trans ?_)), (by repeat (first | assumption | exact upw_s | refine (upw_n (by omega)).trans ?_)), upw_s, (by repeat (first | assumption | exact upw_s | refine (upw_n (by omega)).trans ?_)), (by repeat (first | assumption | exact upw_s | refine (upw_n (by omega)).trans ?_)), (by repeat (first | assumption | exact upw_s | refine (upw_n (by omega)).trans ?_)), hn⟩ (fun j hj => by rw [show j = 0 by omega]; rfl) (fun j hj => (upw_n (by omega)).trans (hF1 j hj))
end HEAVY
