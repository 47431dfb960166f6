-- SEARCH: what is held, sets apart
abbrev aZ : Type := (Nat → Int32) × (Nat → Int64) × (Nat → Int64) × (Nat → Int64) × (Nat → Int32)
abbrev az (len : Nat) (f : Nat → Int32) : aC := .inl (2, (len, .inl f))
def EW (w : aW) (k : Nat) (Z : aZ) (n : Nat) : Prop := w k = .inr (5, [.ref (k + 1), .ref (k + 2), .ref (k + 3), .ref (k + 4), .ref (k + 5)]) ∧ w (k + 1) = az 128 Z.1 ∧ w (k + 2) = al 128 Z.2.1 ∧ w (k + 3) = al 128 Z.2.2.1 ∧ w (k + 4) = al 7 Z.2.2.2.1 ∧ w (k + 5) = ai 7 Z.2.2.2.2 ∧ k + 5 < n
theorem EW.fr {w w' : aW} {t n : Nat} {S : aZ} (h : EW w t S n) (hf : ∀ j, t ≤ j → j ≤ t + 5 → w' j = w j) : EW w' t S n := by
  obtain ⟨g0, g1, g2, g3, g4, g5, hn⟩ := h
  exact ⟨(hf _ (by omega) (by omega)).trans g0, (hf _ (by omega) (by omega)).trans g1, (hf _ (by omega) (by omega)).trans g2, (hf _ (by omega) (by omega)).trans g3, (hf _ (by omega) (by omega)).trans g4, (hf _ (by omega) (by omega)).trans g5, hn⟩
def eFr (w w' : aW) (k : Nat) : Prop := ∀ j, (j < k ∨ k + 5 < j) → w' j = w j
def lowB (j : Nat) : Nat := ((List.range 7).find? (fun b => j.testBit b)).getD 0
def rstB (j : Nat) : Nat := j &&& (j - 1)
def hiB (j b : Nat) : Nat := (j >>> (b + 1)) <<< (b + 1)
theorem tabB : ∀ j, j < 128 → 0 < j → nI j &&& (nI j - 1) = nI (rstB j) ∧ ntzE (nI j) = nI (lowB j) ∧ nz0 (nI j) ≤ 256 ∧ rstB j < j ∧ lowB j < 7 ∧ j.testBit (lowB j) = true ∧ hiB j (lowB j) = rstB j ∧ ∀ b, b < 7 → (rstB j).testBit b = (j.testBit b && !decide (b = lowB j)) ∧ ((rstB j).testBit b = true → hiB (rstB j) b = hiB j b) := by decide +kernel
def apS (S : aS) (j : Nat) : Bool := (List.range 7).all (fun b => !j.testBit b || decide (S.2 6 b &&& nI (hiB j b) = 0))
theorem apS_iff {S : aS} {j : Nat} : apS S j = true ↔ ∀ b, b < 7 → j.testBit b = true → S.2 6 b &&& nI (hiB j b) = 0 := by
  unfold apS
  rw [List.all_eq_true]
  constructor
  · intro h b hb hj
    have := h b (List.mem_range.mpr hb)
    simpa [hj] using this
  · intro h b hb
    have := h b (List.mem_range.mp hb)
    cases hj : j.testBit b
    · simp
    · simpa [hj] using this hj
theorem apS_0 {S : aS} : apS S 0 = true := apS_iff.mpr (fun b _ h => by simp at h)
theorem apS_step {S : aS} {j : Nat} (hj : j < 128) (h0 : 0 < j) : apS S j = (apS S (rstB j) && decide (S.2 6 (lowB j) &&& nI (rstB j) = 0)) := by
  obtain ⟨-, -, -, -, t5, t6, t7, t8⟩ := tabB j hj h0
  rw [Bool.eq_iff_iff, Bool.and_eq_true, apS_iff, apS_iff, decide_eq_true_eq]
  constructor
  · intro h
    refine ⟨fun b hb hr => ?_, ?_⟩
    · have h1 := (t8 b hb).1
      rw [hr] at h1
      have h2 : j.testBit b = true := by
        cases hh : j.testBit b
        · rw [hh] at h1; cases h1
        · rfl
      rw [(t8 b hb).2 hr]
      exact h b hb h2
    · rw [← t7]
      exact h _ t5 t6
  · rintro ⟨h1, h2⟩ b hb hj2
    by_cases e : b = lowB j
    · subst e
      rw [t7]; exact h2
    · have h3 : (rstB j).testBit b = true := by rw [(t8 b hb).1, hj2, decide_eq_false e]; rfl
      rw [← (t8 b hb).2 h3]
      exact h1 b hb h3
theorem b1_pow : ∀ B, B ≤ 7 → (1 : Int32) <<< (nI B &&& 31) = nI (2 ^ B) := by decide
theorem pow7 {B : Nat} (h : B ≤ 7) : 2 ^ B ≤ 128 := Nat.pow_le_pow_right (by decide) h
section SEARCH
variable {G : gE} {w : aW} {n k t : Nat} {Z : aZ} {S : aS}
theorem c_E_findApart {B : Nat} (hZ : EW w k Z n) (hT : TW w t S n) (hd : k + 5 < t ∨ t + 8 < k) (hB : S.1 1 = nI B) (hB7 : B ≤ 7) : Mt G 2 y_E_findApart [.ref k, .ref t] w n 0 0 (fun r w' n' => r = some (.int (nI (2 ^ B))) ∧ (∃ ap : Nat → Int32, (∀ j, j < 2 ^ B → ap j = bI (apS S j)) ∧ EW w' k (ap, Z.2) n ∧ eFr w w' k) ∧ n' = n) := by
  have hp := pow7 hB7
  have hp0 : 0 < 2 ^ B := Nat.pow_pos (by decide)
  have hloop : ∀ m i : Nat, i + m = 2 ^ B → 0 < i → ∀ (ap : Nat → Int32) (w1 : aW), EW w1 k (ap, Z.2) n → (∀ j, j < i → ap j = bI (apS S j)) → eFr w w1 k → Go G 2 y_E_findApart 22 [some (.ref k), some (.ref t), some (.int (nI (2 ^ B))), some (.int (nI i)), none, none] [] w1 n 0 0 (fun r w' n' => r = some (.int (nI (2 ^ B))) ∧ (∃ ap : Nat → Int32, (∀ j, j < 2 ^ B → ap j = bI (apS S j)) ∧ EW w' k (ap, Z.2) n ∧ eFr w w' k) ∧ n' = n) := by
    intro m
    induction m with
    | zero =>
      intro i hi hi0 ap w1 hZ1 hap hF1
      have hi : i = 2 ^ B := by omega
      subst hi
      refine r_iload_n (i := 3) i_E_findApart_22 rfl rfl ?_
      refine r_iload_n (i := 2) i_E_findApart_23 rfl rfl ?_
      refine r_icmp_ge 79 i_E_findApart_24 (by decide) (fun h24 => ?_) (fun h24 => (absurd (Int32.le_refl _) h24))
      refine r_iload_n (i := 2) i_E_findApart_79 rfl rfl ?_
      refine r_ireturn i_E_findApart_80 t_E_findApart rfl ?_
      exact ⟨rfl, ⟨ap, hap, hZ1, hF1⟩, rfl⟩
    | succ m ih =>
      intro i hi hi0 ap w1 hZ1 hap hF1
      have hT1 : TW w1 t S n := hT.fr (fun j q1 q2 => hF1 j (by omega))
      obtain ⟨t1, t2, t3, t4, t5, -, -, -⟩ := tabB i (by omega) hi0
      obtain ⟨g0, g1, g2, g3, g4, g5, hn⟩ := hZ1
      have hst := apS_step (S := S) (j := i) (by omega) hi0
      have c1 : (nI (rstB i)).toNatClampNeg = rstB i := nI_clamp (by omega)
      have c2 : (nI i).toNatClampNeg = i := nI_clamp (by omega)
      have hr := hap (rstB i) t4
      have hT0 := hT1
      obtain ⟨e0, e1, e2, e3, e4, e5, e6, e7, e8, hm⟩ := hT1
      refine r_iload_n (i := 3) i_E_findApart_22 rfl rfl ?_
      refine r_iload_n (i := 2) i_E_findApart_23 rfl rfl ?_
      refine r_icmp_ge 79 i_E_findApart_24 (by decide) (fun h24 => (absurd h24 (nI_ge (by omega) (by omega)))) (fun h24 => ?_)
      refine r_iload_n (i := 3) i_E_findApart_27 rfl rfl ?_
      refine r_iload_n (i := 3) i_E_findApart_28 rfl rfl ?_
      refine r_iconst (v := (1 : Int32)) i_E_findApart_29 rfl ?_
      refine r_isub i_E_findApart_30 ?_
      refine r_iand i_E_findApart_31 ?_
      rw [t1]
      refine r_istore_4 i_E_findApart_32 (by rw [l_E_findApart]; decide) rfl ?_
      refine r_aload_n (i := 1) i_E_findApart_34 rfl rfl ?_
      refine r_iload_n (i := 3) i_E_findApart_35 rfl rfl ?_
      refine f_static o_E_findApart k_JI_numberOfTrailingZeros s_JI_numberOfTrailingZeros x_E_97 i_E_findApart_36 (c_JI_numberOfTrailingZeros t3) rfl rfl (by decide) (Nat.le_of_ble_eq_true rfl) ?_
      rw [t2]
      refine f_virtual o_E_findApart k_T_barredBy v_T_barredBy x_E_130 i_E_findApart_39 o_T_barredBy (c_T_barredBy hT0 t5) rfl (rcv_ob (by repeat (first | assumption | exact upw_s | refine (upw_n (by omega)).trans ?_)) rfl (by first | assumption | omega)) rfl (by decide) (Nat.le_of_ble_eq_true rfl) ?_
      refine r_istore_5 i_E_findApart_42 (by rw [l_E_findApart]; decide) rfl ?_
      refine r_aload_n (i := 0) i_E_findApart_44 rfl rfl ?_
      refine r_getf (ci := 5) (T := Fk5) (k := 0) o_E_findApart i_E_findApart_45 x_E_13 rfl (by decide) rfl (by repeat (first | assumption | exact upw_s | refine (upw_n (by omega)).trans ?_)) (by first | assumption | omega) (by rfl) ?_
      refine r_iload_n (i := 3) i_E_findApart_48 rfl rfl ?_
      refine r_aload_n (i := 0) i_E_findApart_49 rfl rfl ?_
      refine r_getf (ci := 5) (T := Fk5) (k := 0) o_E_findApart i_E_findApart_50 x_E_13 rfl (by decide) rfl (by repeat (first | assumption | exact upw_s | refine (upw_n (by omega)).trans ?_)) (by first | assumption | omega) (by rfl) ?_
      refine r_iload (i := 4) i_E_findApart_53 rfl ?_
      refine r_zald i_E_findApart_55 (by repeat (first | assumption | exact upw_s | refine (upw_n (by omega)).trans ?_)) (by first | assumption | omega) (vp_in_nI (by omega) (by decide)) ?_
      rw [c1, show (ap, Z.2).1 (rstB i) = bI (apS S (rstB i)) from hr]
      refine r_if_eq 71 i_E_findApart_56 (by decide) (fun h56 => ?_) (fun h56 => ?_)
      · skip
        have h56 := bI_eq0.mp h56
        have q9 : apS S i = false := by rw [hst, h56]; rfl
        refine r_iconst (v := (0 : Int32)) i_E_findApart_71 rfl ?_
        refine r_zast i_E_findApart_72 (by repeat (first | assumption | exact upw_s | refine (upw_n (by omega)).trans ?_)) (by first | assumption | omega) (vp_in_nI (by omega) (by decide)) rfl ?_
        refine r_iinc_3 (v := (1 : Int32)) i_E_findApart_73 rfl (by rw [l_E_findApart]; decide) rfl ?_
        refine r_goto 22 i_E_findApart_76 (by decide) ?_
        rw [nI_1, c2]
        refine r_fg_4 (r_fg_5 ?_)
        refine ih (i + 1) (by omega) (by omega) _ _ ⟨(by repeat (first | assumption | exact upw_s | refine (upw_n (by omega)).trans ?_)), upw_s, (by repeat (first | assumption | exact upw_s | refine (upw_n (by omega)).trans ?_)), (by repeat (first | assumption | exact upw_s | refine (upw_n (by omega)).trans ?_)), (by repeat (first | assumption | exact upw_s | refine (upw_n (by omega)).trans ?_)), (by repeat (first | assumption | exact upw_s | refine (upw_n (by omega)).trans ?_)), hn⟩ (fun j hj => ?_) (fun j hj => (upw_n (by omega)).trans (hF1 j hj))
        by_cases ej : j = i
        · subst ej; rw [q9]; exact if_pos rfl
        · exact (if_neg ej).trans (hap j (by omega))
      · skip
        have h56 := bI_ne0.mp h56
        refine r_iload (i := 5) i_E_findApart_59 rfl ?_
        refine r_iload (i := 4) i_E_findApart_61 rfl ?_
        refine r_iand i_E_findApart_63 ?_
        refine r_if_ne 71 i_E_findApart_64 (by decide) (fun h64 => ?_) (fun h64 => ?_)
        · skip
          have q9 : apS S i = false := by rw [hst, h56, decide_eq_false h64]; rfl
          refine r_iconst (v := (0 : Int32)) i_E_findApart_71 rfl ?_
          refine r_zast i_E_findApart_72 (by repeat (first | assumption | exact upw_s | refine (upw_n (by omega)).trans ?_)) (by first | assumption | omega) (vp_in_nI (by omega) (by decide)) rfl ?_
          refine r_iinc_3 (v := (1 : Int32)) i_E_findApart_73 rfl (by rw [l_E_findApart]; decide) rfl ?_
          refine r_goto 22 i_E_findApart_76 (by decide) ?_
          rw [nI_1, c2]
          refine r_fg_4 (r_fg_5 ?_)
          refine ih (i + 1) (by omega) (by omega) _ _ ⟨(by repeat (first | assumption | exact upw_s | refine (upw_n (by omega)).trans ?_)), upw_s, (by repeat (first | assumption | exact upw_s | refine (upw_n (by omega)).trans ?_)), (by repeat (first | assumption | exact upw_s | refine (upw_n (by omega)).trans ?_)), (by repeat (first | assumption | exact upw_s | refine (upw_n (by omega)).trans ?_)), (by repeat (first | assumption | exact upw_s | refine (upw_n (by omega)).trans ?_)), hn⟩ (fun j hj => ?_) (fun j hj => (upw_n (by omega)).trans (hF1 j hj))
          by_cases ej : j = i
          · subst ej; rw [q9]; exact if_pos rfl
          · exact (if_neg ej).trans (hap j (by omega))
        · skip
          have q9 : apS S i = true := by rw [hst, h56, decide_eq_true h64]; rfl
          refine r_iconst (v := (1 : Int32)) i_E_findApart_67 rfl ?_
          refine r_goto 72 i_E_findApart_68 (by decide) ?_
          refine r_zast i_E_findApart_72 (by repeat (first | assumption | exact upw_s | refine (upw_n (by omega)).trans ?_)) (by first | assumption | omega) (vp_in_nI (by omega) (by decide)) rfl ?_
          refine r_iinc_3 (v := (1 : Int32)) i_E_findApart_73 rfl (by rw [l_E_findApart]; decide) rfl ?_
          refine r_goto 22 i_E_findApart_76 (by decide) ?_
          rw [nI_1, c2]
          refine r_fg_4 (r_fg_5 ?_)
          refine ih (i + 1) (by omega) (by omega) _ _ ⟨(by repeat (first | assumption | exact upw_s | refine (upw_n (by omega)).trans ?_)), upw_s, (by repeat (first | assumption | exact upw_s | refine (upw_n (by omega)).trans ?_)), (by repeat (first | assumption | exact upw_s | refine (upw_n (by omega)).trans ?_)), (by repeat (first | assumption | exact upw_s | refine (upw_n (by omega)).trans ?_)), (by repeat (first | assumption | exact upw_s | refine (upw_n (by omega)).trans ?_)), hn⟩ (fun j hj => ?_) (fun j hj => (upw_n (by omega)).trans (hF1 j hj))
          by_cases ej : j = i
          · subst ej; rw [q9]; exact if_pos rfl
          · exact (if_neg ej).trans (hap j (by omega))
  obtain ⟨g0, g1, g2, g3, g4, g5, hn⟩ := hZ
  have hT0 := hT
  obtain ⟨e0, e1, e2, e3, e4, e5, e6, e7, e8, hm⟩ := hT
  refine Mt.of k_E_findApart l_E_findApart (Nat.le_of_ble_eq_true rfl) rfl ?_
  refine r_iconst (v := (1 : Int32)) i_E_findApart_0 rfl ?_
  refine r_aload_n (i := 1) i_E_findApart_1 rfl rfl ?_
  refine r_getfN (ci := 1) (T := Fk1) (k := 1) o_E_findApart i_E_findApart_2 x_E_57 rfl (by decide) rfl (by repeat (first | assumption | exact upw_s | refine (upw_n (by omega)).trans ?_)) (by first | assumption | omega) (by rfl) ?_
  refine r_ishl i_E_findApart_5 ?_
  rw [hB, b1_pow B hB7]
  refine r_sipush (v := (128 : Int32)) i_E_findApart_6 (by decide) ?_
  refine f_static o_E_findApart k_JM_min s_JM_min x_E_127 i_E_findApart_9 (c_JM_min) rfl rfl (by decide) (Nat.le_of_ble_eq_true rfl) ?_
  rw [show (if (128 : Int32) < nI (2 ^ B) then (128 : Int32) else nI (2 ^ B)) = nI (2 ^ B) from if_neg (nI_nlt (a := 128) hp (by decide))]
  refine r_istore_2 i_E_findApart_12 (by rw [l_E_findApart]; decide) rfl ?_
  refine r_aload_n (i := 0) i_E_findApart_13 rfl rfl ?_
  refine r_getf (ci := 5) (T := Fk5) (k := 0) o_E_findApart i_E_findApart_14 x_E_13 rfl (by decide) rfl (by repeat (first | assumption | exact upw_s | refine (upw_n (by omega)).trans ?_)) (by first | assumption | omega) (by rfl) ?_
  refine r_iconst (v := (0 : Int32)) i_E_findApart_17 rfl ?_
  refine r_iconst (v := (1 : Int32)) i_E_findApart_18 rfl ?_
  refine r_zast i_E_findApart_19 (by repeat (first | assumption | exact upw_s | refine (upw_n (by omega)).trans ?_)) (by first | assumption | omega) (vp_in_nI (n := 0) (by decide) (by decide)) rfl ?_
  refine r_iconst (v := (1 : Int32)) i_E_findApart_20 rfl ?_
  refine r_istore_3 i_E_findApart_21 (by rw [l_E_findApart]; decide) rfl ?_
  exact hloop (2 ^ B - 1) 1 (by omega) (by decide) _ _ ⟨(by repeat (first | assumption | exact upw_s | refine (upw_n (by omega)).trans ?_)), upw_s, (by repeat (first | assumption | exact upw_s | refine (upw_n (by omega)).trans ?_)), (by repeat (first | assumption | exact upw_s | refine (upw_n (by omega)).trans ?_)), (by repeat (first | assumption | exact upw_s | refine (upw_n (by omega)).trans ?_)), (by repeat (first | assumption | exact upw_s | refine (upw_n (by omega)).trans ?_)), hn⟩ (fun j hj => by rw [show j = 0 by omega, apS_0]; rfl) (fun j hj => upw_n (by omega))
end SEARCH
