-- THE CLASS: CROSS, RINGS, THE COURT
def lpF (g : Nat → Int32 → Int32) : Nat → Nat → Int32 → Int32
  | 0, _, x => x
  | m + 1, i, x => lpF g m (i + 1) (g i x)
theorem fmst_ne (ok : Nat → Bool) (sc : Nat → Int32) : ∀ k, k < 32 → (∃ t, t < k ∧ ok t = true) → ¬ (fmst ok sc k).1 = -1
  | 0, _, h => by obtain ⟨t, ht, -⟩ := h; omega
  | k + 1, hk, h => by
    unfold fmst
    by_cases q : (ok k && (decide ((fmst ok sc k).1 = -1) || decide ((fmst ok sc k).2 < sc k))) = true
    · rw [if_pos q]
      exact nI_nem1 (by omega)
    · rw [if_neg q]
      obtain ⟨t, ht, ho⟩ := h
      intro e
      by_cases e2 : t = k
      · subst e2
        refine q ?_
        rw [ho, decide_eq_true e]
        rfl
      · exact fmst_ne ok sc k (by omega) ⟨t, by omega, ho⟩ e
def ptyB (S : aS) (b : Nat) : Int32 := (1 : Int32) <<< (S.2 2 b &&& 31) ||| (1 : Int32) <<< (S.2 3 b &&& 31)
def gvF (S : aS) (P b : Nat) (may : Int32) : Int32 := (fmst (fun i => hbI may (nI i)) (scoreK S P 1 0 b) P).1
def gvN (S : aS) (P b : Nat) (may : Int32) : Int32 := valN S b (gvF S P b may).toNatClampNeg
theorem gv_in {S : aS} {P b : Nat} {x : Int32} (hP : P ≤ 7) (h : ¬ bitsOf (gd S b) P &&& x = 0) : ∃ i, i < P ∧ gvF S P b (bitsOf (gd S b) P &&& x) = nI i := by
  have hx : ∃ i, i < P ∧ bt (bitsOf (gd S b) P &&& x) i = true := by
    apply Classical.byContradiction
    intro hn
    refine h (b_ext (fun i hi => ?_))
    rw [b_0]
    by_cases e : i < P
    · by_cases e2 : bt (bitsOf (gd S b) P &&& x) i = true
      · exact absurd ⟨i, e, e2⟩ hn
      · exact Bool.eq_false_iff.mpr e2
    · rw [b_and, bits_bt hi P (by omega), decide_eq_false e]
      rfl
  obtain ⟨i, hi, hb⟩ := hx
  rcases fmst_cases (fun i => hbI (bitsOf (gd S b) P &&& x) (nI i)) (scoreK S P 1 0 b) P with e | ⟨t, ht, -, e⟩
  · exact absurd e (fmst_ne _ _ P (by omega) ⟨i, hi, by show hbI _ (nI i) = true; rw [hb_bt (by omega)]; exact hb⟩)
  · exact ⟨t, ht, e⟩
section PUBC
variable {G : gE} {w : aW} {n : Nat} {Q : aQ}
theorem c_N_greatestValue {P b : Nat} {x : Int32} (hC : CW w Q n) (hP : Q.1.1 0 = nI P) (hP7 : P ≤ 7) (hb : b < 7) (hx : ¬ bitsOf (gd Q.1 b) P &&& x = 0) : Fn G 4 y_N_greatestValue [.ref 0, .int (nI b), .int (bitsOf (gd Q.1 b) P &&& x)] w n (some (.int (gvN Q.1 P b (bitsOf (gd Q.1 b) P &&& x)))) w := by
  obtain ⟨D, L, fa, K, Z, hX⟩ := id hC
  obtain ⟨c0, cT, cK, cD, cS, cR, cW, cE, cF, cn⟩ := id hX
  have oT := cT.1
  have oK := cK.1
  have oD := cD.1
  have oS := cS.1
  have oR := cR.1
  have oW := cW.1
  have oE := cE.1
  refine Fn.of k_N_greatestValue l_N_greatestValue rfl rfl ?_
  unfold gvN
  obtain ⟨i, hi, e⟩ := gv_in hP7 hx
  rw [e, nI_clamp (by omega)]
  refine r_aload_n (i := 0) i_N_greatestValue_0 rfl rfl ?_
  refine r_getf (ci := 0) (T := Fk0) (k := 0) o_N_greatestValue i_N_greatestValue_1 x_N_10 rfl (by decide) rfl (by repeat (first | assumption | exact upw_s | refine (upw_n (by omega)).trans ?_)) (by first | assumption | omega) (by rfl) ?_
  refine r_iconst (v := (1 : Int32)) i_N_greatestValue_4 rfl ?_
  refine r_iconst (v := (0 : Int32)) i_N_greatestValue_5 rfl ?_
  refine r_iload_n (i := 1) i_N_greatestValue_6 rfl rfl ?_
  refine r_iload_n (i := 2) i_N_greatestValue_7 rfl rfl ?_
  refine f_static o_N_greatestValue k_U_foremost s_U_foremost x_N_351 i_N_greatestValue_8 (c_U_foremost (kd := 1) cT hb hP hP7 (by decide) (by decide)) rfl rfl (by decide) (Nat.le_of_ble_eq_true rfl) ?_
  rw [show (fmst (fun i => hbI (bitsOf (gd Q.1 b) P &&& x) (nI i)) (scoreK Q.1 P 1 0 b) P).1 = nI i from e]
  refine r_istore_3 i_N_greatestValue_11 (by rw [l_N_greatestValue]; decide) rfl ?_
  refine r_aload_n (i := 0) i_N_greatestValue_12 rfl rfl ?_
  refine r_getf (ci := 0) (T := Fk0) (k := 0) o_N_greatestValue i_N_greatestValue_13 x_N_10 rfl (by decide) rfl (by repeat (first | assumption | exact upw_s | refine (upw_n (by omega)).trans ?_)) (by first | assumption | omega) (by rfl) ?_
  refine r_iload_n (i := 1) i_N_greatestValue_16 rfl rfl ?_
  refine r_iload_n (i := 3) i_N_greatestValue_17 rfl rfl ?_
  refine f_virtual o_N_greatestValue k_T_valueBy v_T_valueBy x_N_224 i_N_greatestValue_18 o_T_valueBy (c_T_valueBy cT hb (by omega)) rfl (rcv_ob (by repeat (first | assumption | exact upw_s | refine (upw_n (by omega)).trans ?_)) rfl (by first | assumption | omega)) rfl (by decide) (Nat.le_of_ble_eq_true rfl) ?_
  refine r_ireturn i_N_greatestValue_21 t_N_greatestValue rfl ?_
  exact ⟨rfl, rfl, rfl⟩
def crA (Q : aQ) (b c : Nat) : Int32 := bitsOf (gd Q.1 b) (nP Q) &&& ptyB Q.1 c
def m_cross (Q : aQ) (b c k : Int32) : Int32 × aQ := if (lt0 b (Q.1.1 1) && lt0 c (Q.1.1 1) && !decide (b = c) && lt0 k 2) = true then (if k = 0 then (if crA Q b.toNatClampNeg c.toNatClampNeg = 0 ∨ crA Q c.toNatClampNeg b.toNatClampNeg = 0 then (0, Q) else (1, Q)) else if crA Q b.toNatClampNeg c.toNatClampNeg = 0 ∨ crA Q c.toNatClampNeg b.toNatClampNeg = 0 then rfb Q (-5) else (gvN Q.1 (nP Q) b.toNatClampNeg (crA Q b.toNatClampNeg c.toNatClampNeg) + gvN Q.1 (nP Q) c.toNatClampNeg (crA Q c.toNatClampNeg b.toNatClampNeg), Q)) else rfb Q (-2)
theorem c_N_cross {b c k : Int32} (hC : CW w Q n) (hQ : QOk Q) : Cm G 5 y_N_cross [.ref 0, .int b, .int c, .int k] w n (m_cross Q b c k) := by
  obtain ⟨D, L, fa, K, Z, hX⟩ := id hC
  obtain ⟨c0, cT, cK, cD, cS, cR, cW, cE, cF, cn⟩ := id hX
  have oT := cT.1
  have oK := cK.1
  have oD := cD.1
  have oS := cS.1
  have oR := cR.1
  have oW := cW.1
  have oE := cE.1
  obtain ⟨P, B, hP, hP7, hB, hB7, hPI⟩ := id hQ.1
  refine Cm.of k_N_cross l_N_cross rfl rfl ?_
  unfold m_cross crA
  rw [nP_eq hP hP7]
  have key : ∀ b c : Nat, b < 7 → c < 7 → Go G 5 y_N_cross 27 [some (.ref 0), some (.int (nI b)), some (.int (nI c)), some (.int k), none, none, none] [] w n 0 0 (fun r w' n' => r = some (.int (if k = 0 then (if bitsOf (gd Q.1 b) P &&& ptyB Q.1 c = 0 ∨ bitsOf (gd Q.1 c) P &&& ptyB Q.1 b = 0 then (0, Q) else (1, Q)) else if bitsOf (gd Q.1 b) P &&& ptyB Q.1 c = 0 ∨ bitsOf (gd Q.1 c) P &&& ptyB Q.1 b = 0 then rfb Q (-5) else (gvN Q.1 P b (bitsOf (gd Q.1 b) P &&& ptyB Q.1 c) + gvN Q.1 P c (bitsOf (gd Q.1 c) P &&& ptyB Q.1 b), Q)).1) ∧ (CW w' (if k = 0 then (if bitsOf (gd Q.1 b) P &&& ptyB Q.1 c = 0 ∨ bitsOf (gd Q.1 c) P &&& ptyB Q.1 b = 0 then (0, Q) else (1, Q)) else if bitsOf (gd Q.1 b) P &&& ptyB Q.1 c = 0 ∨ bitsOf (gd Q.1 c) P &&& ptyB Q.1 b = 0 then rfb Q (-5) else (gvN Q.1 P b (bitsOf (gd Q.1 b) P &&& ptyB Q.1 c) + gvN Q.1 P c (bitsOf (gd Q.1 c) P &&& ptyB Q.1 b), Q)).2 n ∧ cFr w w') ∧ n' = n) := by
    intro b c hb hc
    have e1 : (1 : Int32) <<< (Q.1.2 2 c &&& 31) ||| (1 : Int32) <<< (Q.1.2 3 c &&& 31) = ptyB Q.1 c := rfl
    have e2 : (1 : Int32) <<< (Q.1.2 2 b &&& 31) ||| (1 : Int32) <<< (Q.1.2 3 b &&& 31) = ptyB Q.1 b := rfl
    refine r_aload_n (i := 0) i_N_cross_27 rfl rfl ?_
    refine r_getf (ci := 0) (T := Fk0) (k := 0) o_N_cross i_N_cross_28 x_N_10 rfl (by decide) rfl (by repeat (first | assumption | exact upw_s | refine (upw_n (by omega)).trans ?_)) (by first | assumption | omega) (by rfl) ?_
    refine r_iload_n (i := 1) i_N_cross_31 rfl rfl ?_
    refine f_virtual o_N_cross k_T_goodBits v_T_goodBits x_N_218 i_N_cross_32 o_T_goodBits (c_T_goodBits cT hb hP hP7) rfl (rcv_ob (by repeat (first | assumption | exact upw_s | refine (upw_n (by omega)).trans ?_)) rfl (by first | assumption | omega)) rfl (by decide) (Nat.le_of_ble_eq_true rfl) ?_
    refine r_aload_n (i := 0) i_N_cross_35 rfl rfl ?_
    refine r_getf (ci := 0) (T := Fk0) (k := 0) o_N_cross i_N_cross_36 x_N_10 rfl (by decide) rfl (by repeat (first | assumption | exact upw_s | refine (upw_n (by omega)).trans ?_)) (by first | assumption | omega) (by rfl) ?_
    refine r_iload_n (i := 2) i_N_cross_39 rfl rfl ?_
    refine f_virtual o_N_cross k_T_partyBits v_T_partyBits x_N_283 i_N_cross_40 o_T_partyBits (c_T_partyBits cT hc) rfl (rcv_ob (by repeat (first | assumption | exact upw_s | refine (upw_n (by omega)).trans ?_)) rfl (by first | assumption | omega)) rfl (by decide) (Nat.le_of_ble_eq_true rfl) ?_
    rw [e1]
    refine r_iand i_N_cross_43 ?_
    refine r_istore_4 i_N_cross_44 (by rw [l_N_cross]; decide) rfl ?_
    refine r_aload_n (i := 0) i_N_cross_46 rfl rfl ?_
    refine r_getf (ci := 0) (T := Fk0) (k := 0) o_N_cross i_N_cross_47 x_N_10 rfl (by decide) rfl (by repeat (first | assumption | exact upw_s | refine (upw_n (by omega)).trans ?_)) (by first | assumption | omega) (by rfl) ?_
    refine r_iload_n (i := 2) i_N_cross_50 rfl rfl ?_
    refine f_virtual o_N_cross k_T_goodBits v_T_goodBits x_N_218 i_N_cross_51 o_T_goodBits (c_T_goodBits cT hc hP hP7) rfl (rcv_ob (by repeat (first | assumption | exact upw_s | refine (upw_n (by omega)).trans ?_)) rfl (by first | assumption | omega)) rfl (by decide) (Nat.le_of_ble_eq_true rfl) ?_
    refine r_aload_n (i := 0) i_N_cross_54 rfl rfl ?_
    refine r_getf (ci := 0) (T := Fk0) (k := 0) o_N_cross i_N_cross_55 x_N_10 rfl (by decide) rfl (by repeat (first | assumption | exact upw_s | refine (upw_n (by omega)).trans ?_)) (by first | assumption | omega) (by rfl) ?_
    refine r_iload_n (i := 1) i_N_cross_58 rfl rfl ?_
    refine f_virtual o_N_cross k_T_partyBits v_T_partyBits x_N_283 i_N_cross_59 o_T_partyBits (c_T_partyBits cT hb) rfl (rcv_ob (by repeat (first | assumption | exact upw_s | refine (upw_n (by omega)).trans ?_)) rfl (by first | assumption | omega)) rfl (by decide) (Nat.le_of_ble_eq_true rfl) ?_
    rw [e2]
    refine r_iand i_N_cross_62 ?_
    refine r_istore_5 i_N_cross_63 (by rw [l_N_cross]; decide) rfl ?_
    refine r_iload (i := 4) i_N_cross_65 rfl ?_
    refine r_if_eq 79 i_N_cross_67 (by decide) (fun h67 => ?_) (fun h67 => ?_)
    · skip
      rw [if_pos (Or.inl h67), if_pos (Or.inl h67)]
      refine r_iconst (v := (0 : Int32)) i_N_cross_79 rfl ?_
      refine r_istore_6 i_N_cross_80 (by rw [l_N_cross]; decide) rfl ?_
      refine r_iload_n (i := 3) i_N_cross_82 rfl rfl ?_
      refine r_if_ne 97 i_N_cross_83 (by decide) (fun h83 => ?_) (fun h83 => ?_)
      · skip
        rw [if_neg h83]
        refine r_iload (i := 6) i_N_cross_97 rfl ?_
        refine r_if_ne 109 i_N_cross_99 (by decide) (fun h99 => ?_) (fun h99 => ?_)
        · first
          | exact absurd h99 (by decide)
          | skip
            refine r_aload_n (i := 0) i_N_cross_109 rfl rfl ?_
            refine r_iload_n (i := 1) i_N_cross_110 rfl rfl ?_
            refine r_iload (i := 4) i_N_cross_111 rfl ?_
            refine f_virtual o_N_cross k_N_greatestValue v_N_greatestValue x_N_286 i_N_cross_113 o_N_greatestValue (c_N_greatestValue hC hP hP7 hb h67) rfl (rcv_ob (by repeat (first | assumption | exact upw_s | refine (upw_n (by omega)).trans ?_)) rfl (by first | assumption | omega)) rfl (by decide) (Nat.le_of_ble_eq_true rfl) ?_
            refine r_aload_n (i := 0) i_N_cross_116 rfl rfl ?_
            refine r_iload_n (i := 2) i_N_cross_117 rfl rfl ?_
            refine r_iload (i := 5) i_N_cross_118 rfl ?_
            refine f_virtual o_N_cross k_N_greatestValue v_N_greatestValue x_N_286 i_N_cross_120 o_N_greatestValue (c_N_greatestValue hC hP hP7 hc h72) rfl (rcv_ob (by repeat (first | assumption | exact upw_s | refine (upw_n (by omega)).trans ?_)) rfl (by first | assumption | omega)) rfl (by decide) (Nat.le_of_ble_eq_true rfl) ?_
            refine r_iadd i_N_cross_123 ?_
            refine r_ireturn i_N_cross_124 t_N_cross rfl ?_
            first | exact ⟨rfl, hp9, rfl⟩ | exact ⟨rfl, ⟨hC, cFr.rfl⟩, rfl⟩
        · first
          | exact absurd h99 (by decide)
          | skip
            refine r_aload_n (i := 0) i_N_cross_102 rfl rfl ?_
            refine r_bipush (v := (-5 : Int32)) i_N_cross_103 (by decide) ?_
            refine m_virtual o_N_cross k_N_refuseBelow v_N_refuseBelow x_N_212 i_N_cross_105 o_N_refuseBelow (c_N_refuseBelow hC) rfl (rcv_ob (by repeat (first | assumption | exact upw_s | refine (upw_n (by omega)).trans ?_)) rfl (by first | assumption | omega)) rfl (by decide) (Nat.le_of_ble_eq_true rfl) (Nat.zero_le _) (Nat.zero_le _) (fun rr105 wr105 nr105 hp9 => ?_)
            obtain ⟨rfl, hp9, rfl⟩ := hp9
            refine r_ireturn i_N_cross_108 t_N_cross rfl ?_
            first | exact ⟨rfl, hp9, rfl⟩ | exact ⟨rfl, ⟨hC, cFr.rfl⟩, rfl⟩
      · skip
        rw [if_pos h83]
        refine r_iload (i := 6) i_N_cross_86 rfl ?_
        refine r_if_eq 95 i_N_cross_88 (by decide) (fun h88 => ?_) (fun h88 => ?_)
        · first
          | exact absurd h88 (by decide)
          | skip
            refine r_iconst (v := (0 : Int32)) i_N_cross_95 rfl ?_
            refine r_ireturn i_N_cross_96 t_N_cross rfl ?_
            first | exact ⟨rfl, hp9, rfl⟩ | exact ⟨rfl, ⟨hC, cFr.rfl⟩, rfl⟩
        · first
          | exact absurd h88 (by decide)
          | skip
            refine r_iconst (v := (1 : Int32)) i_N_cross_91 rfl ?_
            refine r_goto 96 i_N_cross_92 (by decide) ?_
            refine r_ireturn i_N_cross_96 t_N_cross rfl ?_
            first | exact ⟨rfl, hp9, rfl⟩ | exact ⟨rfl, ⟨hC, cFr.rfl⟩, rfl⟩
    · skip
      refine r_iload (i := 5) i_N_cross_70 rfl ?_
      refine r_if_eq 79 i_N_cross_72 (by decide) (fun h72 => ?_) (fun h72 => ?_)
      · skip
        rw [if_pos (Or.inr h72), if_pos (Or.inr h72)]
        refine r_iconst (v := (0 : Int32)) i_N_cross_79 rfl ?_
        refine r_istore_6 i_N_cross_80 (by rw [l_N_cross]; decide) rfl ?_
        refine r_iload_n (i := 3) i_N_cross_82 rfl rfl ?_
        refine r_if_ne 97 i_N_cross_83 (by decide) (fun h83 => ?_) (fun h83 => ?_)
        · skip
          rw [if_neg h83]
          refine r_iload (i := 6) i_N_cross_97 rfl ?_
          refine r_if_ne 109 i_N_cross_99 (by decide) (fun h99 => ?_) (fun h99 => ?_)
          · first
            | exact absurd h99 (by decide)
            | skip
              refine r_aload_n (i := 0) i_N_cross_109 rfl rfl ?_
              refine r_iload_n (i := 1) i_N_cross_110 rfl rfl ?_
              refine r_iload (i := 4) i_N_cross_111 rfl ?_
              refine f_virtual o_N_cross k_N_greatestValue v_N_greatestValue x_N_286 i_N_cross_113 o_N_greatestValue (c_N_greatestValue hC hP hP7 hb h67) rfl (rcv_ob (by repeat (first | assumption | exact upw_s | refine (upw_n (by omega)).trans ?_)) rfl (by first | assumption | omega)) rfl (by decide) (Nat.le_of_ble_eq_true rfl) ?_
              refine r_aload_n (i := 0) i_N_cross_116 rfl rfl ?_
              refine r_iload_n (i := 2) i_N_cross_117 rfl rfl ?_
              refine r_iload (i := 5) i_N_cross_118 rfl ?_
              refine f_virtual o_N_cross k_N_greatestValue v_N_greatestValue x_N_286 i_N_cross_120 o_N_greatestValue (c_N_greatestValue hC hP hP7 hc h72) rfl (rcv_ob (by repeat (first | assumption | exact upw_s | refine (upw_n (by omega)).trans ?_)) rfl (by first | assumption | omega)) rfl (by decide) (Nat.le_of_ble_eq_true rfl) ?_
              refine r_iadd i_N_cross_123 ?_
              refine r_ireturn i_N_cross_124 t_N_cross rfl ?_
              first | exact ⟨rfl, hp9, rfl⟩ | exact ⟨rfl, ⟨hC, cFr.rfl⟩, rfl⟩
          · first
            | exact absurd h99 (by decide)
            | skip
              refine r_aload_n (i := 0) i_N_cross_102 rfl rfl ?_
              refine r_bipush (v := (-5 : Int32)) i_N_cross_103 (by decide) ?_
              refine m_virtual o_N_cross k_N_refuseBelow v_N_refuseBelow x_N_212 i_N_cross_105 o_N_refuseBelow (c_N_refuseBelow hC) rfl (rcv_ob (by repeat (first | assumption | exact upw_s | refine (upw_n (by omega)).trans ?_)) rfl (by first | assumption | omega)) rfl (by decide) (Nat.le_of_ble_eq_true rfl) (Nat.zero_le _) (Nat.zero_le _) (fun rr105 wr105 nr105 hp9 => ?_)
              obtain ⟨rfl, hp9, rfl⟩ := hp9
              refine r_ireturn i_N_cross_108 t_N_cross rfl ?_
              first | exact ⟨rfl, hp9, rfl⟩ | exact ⟨rfl, ⟨hC, cFr.rfl⟩, rfl⟩
        · skip
          rw [if_pos h83]
          refine r_iload (i := 6) i_N_cross_86 rfl ?_
          refine r_if_eq 95 i_N_cross_88 (by decide) (fun h88 => ?_) (fun h88 => ?_)
          · first
            | exact absurd h88 (by decide)
            | skip
              refine r_iconst (v := (0 : Int32)) i_N_cross_95 rfl ?_
              refine r_ireturn i_N_cross_96 t_N_cross rfl ?_
              first | exact ⟨rfl, hp9, rfl⟩ | exact ⟨rfl, ⟨hC, cFr.rfl⟩, rfl⟩
          · first
            | exact absurd h88 (by decide)
            | skip
              refine r_iconst (v := (1 : Int32)) i_N_cross_91 rfl ?_
              refine r_goto 96 i_N_cross_92 (by decide) ?_
              refine r_ireturn i_N_cross_96 t_N_cross rfl ?_
              first | exact ⟨rfl, hp9, rfl⟩ | exact ⟨rfl, ⟨hC, cFr.rfl⟩, rfl⟩
      · skip
        rw [if_neg (not_or.mpr ⟨h67, h72⟩), if_neg (not_or.mpr ⟨h67, h72⟩)]
        refine r_iconst (v := (1 : Int32)) i_N_cross_75 rfl ?_
        refine r_goto 80 i_N_cross_76 (by decide) ?_
        refine r_istore_6 i_N_cross_80 (by rw [l_N_cross]; decide) rfl ?_
        refine r_iload_n (i := 3) i_N_cross_82 rfl rfl ?_
        refine r_if_ne 97 i_N_cross_83 (by decide) (fun h83 => ?_) (fun h83 => ?_)
        · skip
          rw [if_neg h83]
          refine r_iload (i := 6) i_N_cross_97 rfl ?_
          refine r_if_ne 109 i_N_cross_99 (by decide) (fun h99 => ?_) (fun h99 => ?_)
          · first
            | exact absurd h99 (by decide)
            | skip
              refine r_aload_n (i := 0) i_N_cross_109 rfl rfl ?_
              refine r_iload_n (i := 1) i_N_cross_110 rfl rfl ?_
              refine r_iload (i := 4) i_N_cross_111 rfl ?_
              refine f_virtual o_N_cross k_N_greatestValue v_N_greatestValue x_N_286 i_N_cross_113 o_N_greatestValue (c_N_greatestValue hC hP hP7 hb h67) rfl (rcv_ob (by repeat (first | assumption | exact upw_s | refine (upw_n (by omega)).trans ?_)) rfl (by first | assumption | omega)) rfl (by decide) (Nat.le_of_ble_eq_true rfl) ?_
              refine r_aload_n (i := 0) i_N_cross_116 rfl rfl ?_
              refine r_iload_n (i := 2) i_N_cross_117 rfl rfl ?_
              refine r_iload (i := 5) i_N_cross_118 rfl ?_
              refine f_virtual o_N_cross k_N_greatestValue v_N_greatestValue x_N_286 i_N_cross_120 o_N_greatestValue (c_N_greatestValue hC hP hP7 hc h72) rfl (rcv_ob (by repeat (first | assumption | exact upw_s | refine (upw_n (by omega)).trans ?_)) rfl (by first | assumption | omega)) rfl (by decide) (Nat.le_of_ble_eq_true rfl) ?_
              refine r_iadd i_N_cross_123 ?_
              refine r_ireturn i_N_cross_124 t_N_cross rfl ?_
              first | exact ⟨rfl, hp9, rfl⟩ | exact ⟨rfl, ⟨hC, cFr.rfl⟩, rfl⟩
          · first
            | exact absurd h99 (by decide)
            | skip
              refine r_aload_n (i := 0) i_N_cross_102 rfl rfl ?_
              refine r_bipush (v := (-5 : Int32)) i_N_cross_103 (by decide) ?_
              refine m_virtual o_N_cross k_N_refuseBelow v_N_refuseBelow x_N_212 i_N_cross_105 o_N_refuseBelow (c_N_refuseBelow hC) rfl (rcv_ob (by repeat (first | assumption | exact upw_s | refine (upw_n (by omega)).trans ?_)) rfl (by first | assumption | omega)) rfl (by decide) (Nat.le_of_ble_eq_true rfl) (Nat.zero_le _) (Nat.zero_le _) (fun rr105 wr105 nr105 hp9 => ?_)
              obtain ⟨rfl, hp9, rfl⟩ := hp9
              refine r_ireturn i_N_cross_108 t_N_cross rfl ?_
              first | exact ⟨rfl, hp9, rfl⟩ | exact ⟨rfl, ⟨hC, cFr.rfl⟩, rfl⟩
        · skip
          rw [if_pos h83]
          refine r_iload (i := 6) i_N_cross_86 rfl ?_
          refine r_if_eq 95 i_N_cross_88 (by decide) (fun h88 => ?_) (fun h88 => ?_)
          · first
            | exact absurd h88 (by decide)
            | skip
              refine r_iconst (v := (0 : Int32)) i_N_cross_95 rfl ?_
              refine r_ireturn i_N_cross_96 t_N_cross rfl ?_
              first | exact ⟨rfl, hp9, rfl⟩ | exact ⟨rfl, ⟨hC, cFr.rfl⟩, rfl⟩
          · first
            | exact absurd h88 (by decide)
            | skip
              refine r_iconst (v := (1 : Int32)) i_N_cross_91 rfl ?_
              refine r_goto 96 i_N_cross_92 (by decide) ?_
              refine r_ireturn i_N_cross_96 t_N_cross rfl ?_
              first | exact ⟨rfl, hp9, rfl⟩ | exact ⟨rfl, ⟨hC, cFr.rfl⟩, rfl⟩
  refine r_aload_n (i := 0) i_N_cross_0 rfl rfl ?_
  refine r_getf (ci := 0) (T := Fk0) (k := 0) o_N_cross i_N_cross_1 x_N_10 rfl (by decide) rfl (by repeat (first | assumption | exact upw_s | refine (upw_n (by omega)).trans ?_)) (by first | assumption | omega) (by rfl) ?_
  refine r_iload_n (i := 1) i_N_cross_4 rfl rfl ?_
  refine r_iload_n (i := 2) i_N_cross_5 rfl rfl ?_
  refine f_virtual o_N_cross k_T_hasUnlike v_T_hasUnlike x_N_145 i_N_cross_6 o_T_hasUnlike (c_T_hasUnlike cT) rfl (rcv_ob (by repeat (first | assumption | exact upw_s | refine (upw_n (by omega)).trans ?_)) rfl (by first | assumption | omega)) rfl (by decide) (Nat.le_of_ble_eq_true rfl) ?_
  refine r_if_eq 20 i_N_cross_9 (by decide) (fun h9 => ?_) (fun h9 => ?_)
  · skip
    have h9 := bI_eq0.mp h9
    try rw [h9]
    refine r_aload_n (i := 0) i_N_cross_20 rfl rfl ?_
    refine r_bipush (v := (-2 : Int32)) i_N_cross_21 (by decide) ?_
    refine m_virtual o_N_cross k_N_refuseBelow v_N_refuseBelow x_N_212 i_N_cross_23 o_N_refuseBelow (c_N_refuseBelow hC) rfl (rcv_ob (by repeat (first | assumption | exact upw_s | refine (upw_n (by omega)).trans ?_)) rfl (by first | assumption | omega)) rfl (by decide) (Nat.le_of_ble_eq_true rfl) (Nat.zero_le _) (Nat.zero_le _) (fun rr23 wr23 nr23 hp9 => ?_)
    obtain ⟨rfl, hp9, rfl⟩ := hp9
    refine r_ireturn i_N_cross_26 t_N_cross rfl ?_
    first | exact ⟨rfl, hp9, rfl⟩ | exact ⟨rfl, ⟨hC, cFr.rfl⟩, rfl⟩
  · skip
    have h9 := bI_ne0.mp h9
    try rw [h9]
    refine r_iload_n (i := 3) i_N_cross_12 rfl rfl ?_
    refine r_iconst (v := (2 : Int32)) i_N_cross_13 rfl ?_
    refine f_static o_N_cross k_N_isBelow s_N_isBelow x_N_58 i_N_cross_14 (c_N_isBelow) rfl rfl (by decide) (Nat.le_of_ble_eq_true rfl) ?_
    refine r_if_ne 27 i_N_cross_17 (by decide) (fun h17 => ?_) (fun h17 => ?_)
    · skip
      have h17 := bI_ne0.mp h17
      try rw [h17]
      rw [Bool.and_eq_true, Bool.and_eq_true, hB] at h9
      obtain ⟨b, hb, rfl⟩ := lt0_of (by omega) h9.1.1
      obtain ⟨c, hc, rfl⟩ := lt0_of (by omega) h9.1.2
      rw [if_pos (show (true && true) = true from rfl), nI_clamp (by omega), nI_clamp (by omega)]
      exact key b c (by omega) (by omega)
    · skip
      have h17 := bI_eq0.mp h17
      try rw [h17]
      refine r_aload_n (i := 0) i_N_cross_20 rfl rfl ?_
      refine r_bipush (v := (-2 : Int32)) i_N_cross_21 (by decide) ?_
      refine m_virtual o_N_cross k_N_refuseBelow v_N_refuseBelow x_N_212 i_N_cross_23 o_N_refuseBelow (c_N_refuseBelow hC) rfl (rcv_ob (by repeat (first | assumption | exact upw_s | refine (upw_n (by omega)).trans ?_)) rfl (by first | assumption | omega)) rfl (by decide) (Nat.le_of_ble_eq_true rfl) (Nat.zero_le _) (Nat.zero_le _) (fun rr23 wr23 nr23 hp9 => ?_)
      obtain ⟨rfl, hp9, rfl⟩ := hp9
      refine r_ireturn i_N_cross_26 t_N_cross rfl ?_
      first | exact ⟨rfl, hp9, rfl⟩ | exact ⟨rfl, ⟨hC, cFr.rfl⟩, rfl⟩
def rgB (S : aS) (P a b c : Nat) : Bool := !decide (bitsOf (gd S a) P &&& ptyB S b = 0) && (!decide (bitsOf (gd S b) P &&& ptyB S c = 0) && !decide (bitsOf (gd S c) P &&& ptyB S a = 0))
theorem c_N_isRing {P a b c : Nat} (hC : CW w Q n) (hP : Q.1.1 0 = nI P) (hP7 : P ≤ 7) (ha : a < 7) (hb : b < 7) (hc : c < 7) : Fn G 3 y_N_isRing [.ref 0, .int (nI a), .int (nI b), .int (nI c)] w n (some (.int (bI (rgB Q.1 P a b c)))) w := by
  obtain ⟨D, L, fa, K, Z, hX⟩ := id hC
  obtain ⟨c0, cT, cK, cD, cS, cR, cW, cE, cF, cn⟩ := id hX
  have oT := cT.1
  have oK := cK.1
  have oD := cD.1
  have oS := cS.1
  have oR := cR.1
  have oW := cW.1
  have oE := cE.1
  refine Fn.of k_N_isRing l_N_isRing rfl rfl ?_
  unfold rgB
  have e1 : ∀ c, (1 : Int32) <<< (Q.1.2 2 c &&& 31) ||| (1 : Int32) <<< (Q.1.2 3 c &&& 31) = ptyB Q.1 c := fun _ => rfl
  refine r_aload_n (i := 0) i_N_isRing_0 rfl rfl ?_
  refine r_getf (ci := 0) (T := Fk0) (k := 0) o_N_isRing i_N_isRing_1 x_N_10 rfl (by decide) rfl (by repeat (first | assumption | exact upw_s | refine (upw_n (by omega)).trans ?_)) (by first | assumption | omega) (by rfl) ?_
  refine r_iload_n (i := 1) i_N_isRing_4 rfl rfl ?_
  refine f_virtual o_N_isRing k_T_goodBits v_T_goodBits x_N_218 i_N_isRing_5 o_T_goodBits (c_T_goodBits cT ha hP hP7) rfl (rcv_ob (by repeat (first | assumption | exact upw_s | refine (upw_n (by omega)).trans ?_)) rfl (by first | assumption | omega)) rfl (by decide) (Nat.le_of_ble_eq_true rfl) ?_
  refine r_aload_n (i := 0) i_N_isRing_8 rfl rfl ?_
  refine r_getf (ci := 0) (T := Fk0) (k := 0) o_N_isRing i_N_isRing_9 x_N_10 rfl (by decide) rfl (by repeat (first | assumption | exact upw_s | refine (upw_n (by omega)).trans ?_)) (by first | assumption | omega) (by rfl) ?_
  refine r_iload_n (i := 2) i_N_isRing_12 rfl rfl ?_
  refine f_virtual o_N_isRing k_T_partyBits v_T_partyBits x_N_283 i_N_isRing_13 o_T_partyBits (c_T_partyBits cT hb) rfl (rcv_ob (by repeat (first | assumption | exact upw_s | refine (upw_n (by omega)).trans ?_)) rfl (by first | assumption | omega)) rfl (by decide) (Nat.le_of_ble_eq_true rfl) ?_
  rw [e1]
  refine r_iand i_N_isRing_16 ?_
  refine r_if_eq 64 i_N_isRing_17 (by decide) (fun h17 => ?_) (fun h17 => ?_)
  · skip
    rw [decide_eq_true h17]
    refine r_iconst (v := (0 : Int32)) i_N_isRing_64 rfl ?_
    refine r_ireturn i_N_isRing_65 t_N_isRing (by first | rfl | exact nar_bI _) ?_
    exact ⟨rfl, rfl, rfl⟩
  · skip
    rw [decide_eq_false h17]
    refine r_aload_n (i := 0) i_N_isRing_20 rfl rfl ?_
    refine r_getf (ci := 0) (T := Fk0) (k := 0) o_N_isRing i_N_isRing_21 x_N_10 rfl (by decide) rfl (by repeat (first | assumption | exact upw_s | refine (upw_n (by omega)).trans ?_)) (by first | assumption | omega) (by rfl) ?_
    refine r_iload_n (i := 2) i_N_isRing_24 rfl rfl ?_
    refine f_virtual o_N_isRing k_T_goodBits v_T_goodBits x_N_218 i_N_isRing_25 o_T_goodBits (c_T_goodBits cT hb hP hP7) rfl (rcv_ob (by repeat (first | assumption | exact upw_s | refine (upw_n (by omega)).trans ?_)) rfl (by first | assumption | omega)) rfl (by decide) (Nat.le_of_ble_eq_true rfl) ?_
    refine r_aload_n (i := 0) i_N_isRing_28 rfl rfl ?_
    refine r_getf (ci := 0) (T := Fk0) (k := 0) o_N_isRing i_N_isRing_29 x_N_10 rfl (by decide) rfl (by repeat (first | assumption | exact upw_s | refine (upw_n (by omega)).trans ?_)) (by first | assumption | omega) (by rfl) ?_
    refine r_iload_n (i := 3) i_N_isRing_32 rfl rfl ?_
    refine f_virtual o_N_isRing k_T_partyBits v_T_partyBits x_N_283 i_N_isRing_33 o_T_partyBits (c_T_partyBits cT hc) rfl (rcv_ob (by repeat (first | assumption | exact upw_s | refine (upw_n (by omega)).trans ?_)) rfl (by first | assumption | omega)) rfl (by decide) (Nat.le_of_ble_eq_true rfl) ?_
    rw [e1]
    refine r_iand i_N_isRing_36 ?_
    refine r_if_eq 64 i_N_isRing_37 (by decide) (fun h37 => ?_) (fun h37 => ?_)
    · skip
      rw [decide_eq_true h37]
      refine r_iconst (v := (0 : Int32)) i_N_isRing_64 rfl ?_
      refine r_ireturn i_N_isRing_65 t_N_isRing (by first | rfl | exact nar_bI _) ?_
      exact ⟨rfl, rfl, rfl⟩
    · skip
      rw [decide_eq_false h37]
      refine r_aload_n (i := 0) i_N_isRing_40 rfl rfl ?_
      refine r_getf (ci := 0) (T := Fk0) (k := 0) o_N_isRing i_N_isRing_41 x_N_10 rfl (by decide) rfl (by repeat (first | assumption | exact upw_s | refine (upw_n (by omega)).trans ?_)) (by first | assumption | omega) (by rfl) ?_
      refine r_iload_n (i := 3) i_N_isRing_44 rfl rfl ?_
      refine f_virtual o_N_isRing k_T_goodBits v_T_goodBits x_N_218 i_N_isRing_45 o_T_goodBits (c_T_goodBits cT hc hP hP7) rfl (rcv_ob (by repeat (first | assumption | exact upw_s | refine (upw_n (by omega)).trans ?_)) rfl (by first | assumption | omega)) rfl (by decide) (Nat.le_of_ble_eq_true rfl) ?_
      refine r_aload_n (i := 0) i_N_isRing_48 rfl rfl ?_
      refine r_getf (ci := 0) (T := Fk0) (k := 0) o_N_isRing i_N_isRing_49 x_N_10 rfl (by decide) rfl (by repeat (first | assumption | exact upw_s | refine (upw_n (by omega)).trans ?_)) (by first | assumption | omega) (by rfl) ?_
      refine r_iload_n (i := 1) i_N_isRing_52 rfl rfl ?_
      refine f_virtual o_N_isRing k_T_partyBits v_T_partyBits x_N_283 i_N_isRing_53 o_T_partyBits (c_T_partyBits cT ha) rfl (rcv_ob (by repeat (first | assumption | exact upw_s | refine (upw_n (by omega)).trans ?_)) rfl (by first | assumption | omega)) rfl (by decide) (Nat.le_of_ble_eq_true rfl) ?_
      rw [e1]
      refine r_iand i_N_isRing_56 ?_
      refine r_if_eq 64 i_N_isRing_57 (by decide) (fun h57 => ?_) (fun h57 => ?_)
      · skip
        rw [decide_eq_true h57]
        refine r_iconst (v := (0 : Int32)) i_N_isRing_64 rfl ?_
        refine r_ireturn i_N_isRing_65 t_N_isRing (by first | rfl | exact nar_bI _) ?_
        exact ⟨rfl, rfl, rfl⟩
      · skip
        rw [decide_eq_false h57]
        refine r_iconst (v := (1 : Int32)) i_N_isRing_60 rfl ?_
        refine r_goto 65 i_N_isRing_61 (by decide) ?_
        refine r_ireturn i_N_isRing_65 t_N_isRing (by first | rfl | exact nar_bI _) ?_
        exact ⟨rfl, rfl, rfl⟩
def rg1 (S : aS) (P a b c : Nat) (x : Int32) : Int32 := if rgB S P a b c || rgB S P a c b then x + 1 else x
def rg2 (S : aS) (P B a b : Nat) (x : Int32) : Int32 := lpF (rg1 S P a b) (B - (b + 1)) (b + 1) x
def rg3 (S : aS) (P B a : Nat) (x : Int32) : Int32 := lpF (rg2 S P B a) (B - (a + 1)) (a + 1) x
def rgN (S : aS) (P B : Nat) : Int32 := lpF (rg3 S P B) B 0 0
def m_rings (Q : aQ) : Int32 × aQ := (rgN Q.1 (nP Q) (nB Q), Q)
theorem c_N_rings (hC : CW w Q n) (hQ : QOk Q) : Cm G 5 y_N_rings [.ref 0] w n (m_rings Q) := by
  obtain ⟨D, L, fa, K, Z, hX⟩ := id hC
  obtain ⟨c0, cT, cK, cD, cS, cR, cW, cE, cF, cn⟩ := id hX
  have oT := cT.1
  have oK := cK.1
  have oD := cD.1
  have oS := cS.1
  have oR := cR.1
  have oW := cW.1
  have oE := cE.1
  obtain ⟨P, B, hP, hP7, hB, hB7, hPI⟩ := id hQ.1
  refine Cm.of k_N_rings l_N_rings rfl rfl ?_
  unfold m_rings rgN
  rw [nP_eq hP hP7, nB_eq hB hB7]
  have l3 : ∀ (post : Option Value → aW → Nat → Prop) (a b : Nat), a < B → b < B → ∀ m c, c + m = B → ∀ x : Int32, (∀ (z : Option Value), Go G 5 y_N_rings 78 [some (.ref 0), some (.int (lpF (rg1 Q.1 P a b) m c x)), some (.int (nI a)), some (.int (nI b)), z] [] w n 0 0 post) → Go G 5 y_N_rings 35 [some (.ref 0), some (.int x), some (.int (nI a)), some (.int (nI b)), some (.int (nI c))] [] w n 0 0 post := by
    intro post a b ha hb m
    induction m with
    | zero =>
      intro c hc x hk
      have hc : c = B := by omega
      subst hc
      refine r_iload (i := 4) i_N_rings_35 rfl ?_
      refine r_aload_n (i := 0) i_N_rings_37 rfl rfl ?_
      refine r_getf (ci := 0) (T := Fk0) (k := 0) o_N_rings i_N_rings_38 x_N_10 rfl (by decide) rfl (by repeat (first | assumption | exact upw_s | refine (upw_n (by omega)).trans ?_)) (by first | assumption | omega) (by rfl) ?_
      refine r_getfN (ci := 1) (T := Fk1) (k := 1) o_N_rings i_N_rings_41 x_N_113 rfl (by decide) rfl (by repeat (first | assumption | exact upw_s | refine (upw_n (by omega)).trans ?_)) (by first | assumption | omega) (by rfl) ?_
      refine r_icmp_ge 78 i_N_rings_44 (by decide) (fun h44 => ?_) (fun h44 => (absurd (by rw [hB]; exact nI_le (Nat.le_refl _) (by omega)) h44))
      exact hk _
    | succ m ih =>
      intro c hc x hk
      have hk : ∀ (z : Option Value), Go G 5 y_N_rings 78 [some (.ref 0), some (.int (lpF (rg1 Q.1 P a b) m (c + 1) (if (rgB Q.1 P a b c || rgB Q.1 P a c b) = true then x + 1 else x))), some (.int (nI a)), some (.int (nI b)), z] [] w n 0 0 post := hk
      refine r_iload (i := 4) i_N_rings_35 rfl ?_
      refine r_aload_n (i := 0) i_N_rings_37 rfl rfl ?_
      refine r_getf (ci := 0) (T := Fk0) (k := 0) o_N_rings i_N_rings_38 x_N_10 rfl (by decide) rfl (by repeat (first | assumption | exact upw_s | refine (upw_n (by omega)).trans ?_)) (by first | assumption | omega) (by rfl) ?_
      refine r_getfN (ci := 1) (T := Fk1) (k := 1) o_N_rings i_N_rings_41 x_N_113 rfl (by decide) rfl (by repeat (first | assumption | exact upw_s | refine (upw_n (by omega)).trans ?_)) (by first | assumption | omega) (by rfl) ?_
      refine r_icmp_ge 78 i_N_rings_44 (by decide) (fun h44 => (absurd h44 (by rw [hB]; exact nI_ge (by omega) (by omega)))) (fun h44 => ?_)
      refine r_aload_n (i := 0) i_N_rings_47 rfl rfl ?_
      refine r_iload_n (i := 2) i_N_rings_48 rfl rfl ?_
      refine r_iload_n (i := 3) i_N_rings_49 rfl rfl ?_
      refine r_iload (i := 4) i_N_rings_50 rfl ?_
      refine f_virtual o_N_rings k_N_isRing v_N_isRing x_N_289 i_N_rings_52 o_N_isRing (c_N_isRing hC hP hP7 (by omega) (by omega) (by omega)) rfl (rcv_ob (by repeat (first | assumption | exact upw_s | refine (upw_n (by omega)).trans ?_)) rfl (by first | assumption | omega)) rfl (by decide) (Nat.le_of_ble_eq_true rfl) ?_
      refine r_if_ne 69 i_N_rings_55 (by decide) (fun h55 => ?_) (fun h55 => ?_)
      · skip
        have h55 := bI_ne0.mp h55
        rw [if_pos (by rw [h55]; rfl)] at hk
        refine r_iinc_1 (v := (1 : Int32)) i_N_rings_69 rfl (by rw [l_N_rings]; decide) rfl ?_
        refine r_iinc_4 (v := (1 : Int32)) i_N_rings_72 rfl (by rw [l_N_rings]; decide) rfl ?_
        refine r_goto 35 i_N_rings_75 (by decide) ?_
        rw [nI_1]
        exact ih (c + 1) (by omega) _ hk
      · skip
        have h55 := bI_eq0.mp h55
        refine r_aload_n (i := 0) i_N_rings_58 rfl rfl ?_
        refine r_iload_n (i := 2) i_N_rings_59 rfl rfl ?_
        refine r_iload (i := 4) i_N_rings_60 rfl ?_
        refine r_iload_n (i := 3) i_N_rings_62 rfl rfl ?_
        refine f_virtual o_N_rings k_N_isRing v_N_isRing x_N_289 i_N_rings_63 o_N_isRing (c_N_isRing hC hP hP7 (by omega) (by omega) (by omega)) rfl (rcv_ob (by repeat (first | assumption | exact upw_s | refine (upw_n (by omega)).trans ?_)) rfl (by first | assumption | omega)) rfl (by decide) (Nat.le_of_ble_eq_true rfl) ?_
        refine r_if_eq 72 i_N_rings_66 (by decide) (fun h66 => ?_) (fun h66 => ?_)
        · skip
          have h66 := bI_eq0.mp h66
          rw [if_neg (by rw [h55, h66]; decide)] at hk
          refine r_iinc_4 (v := (1 : Int32)) i_N_rings_72 rfl (by rw [l_N_rings]; decide) rfl ?_
          refine r_goto 35 i_N_rings_75 (by decide) ?_
          rw [nI_1]
          exact ih (c + 1) (by omega) _ hk
        · skip
          have h66 := bI_ne0.mp h66
          rw [if_pos (by rw [h55, h66]; rfl)] at hk
          refine r_iinc_1 (v := (1 : Int32)) i_N_rings_69 rfl (by rw [l_N_rings]; decide) rfl ?_
          refine r_iinc_4 (v := (1 : Int32)) i_N_rings_72 rfl (by rw [l_N_rings]; decide) rfl ?_
          refine r_goto 35 i_N_rings_75 (by decide) ?_
          rw [nI_1]
          exact ih (c + 1) (by omega) _ hk
  have l2 : ∀ (post : Option Value → aW → Nat → Prop) (a : Nat), a < B → ∀ m b, b + m = B → ∀ (x : Int32) (z : Option Value), (∀ (z z2 : Option Value), Go G 5 y_N_rings 84 [some (.ref 0), some (.int (lpF (rg2 Q.1 P B a) m b x)), some (.int (nI a)), z2, z] [] w n 0 0 post) → Go G 5 y_N_rings 19 [some (.ref 0), some (.int x), some (.int (nI a)), some (.int (nI b)), z] [] w n 0 0 post := by
    intro post a ha m
    induction m with
    | zero =>
      intro b hb x z hk
      have hb : b = B := by omega
      subst hb
      refine r_iload_n (i := 3) i_N_rings_19 rfl rfl ?_
      refine r_aload_n (i := 0) i_N_rings_20 rfl rfl ?_
      refine r_getf (ci := 0) (T := Fk0) (k := 0) o_N_rings i_N_rings_21 x_N_10 rfl (by decide) rfl (by repeat (first | assumption | exact upw_s | refine (upw_n (by omega)).trans ?_)) (by first | assumption | omega) (by rfl) ?_
      refine r_getfN (ci := 1) (T := Fk1) (k := 1) o_N_rings i_N_rings_24 x_N_113 rfl (by decide) rfl (by repeat (first | assumption | exact upw_s | refine (upw_n (by omega)).trans ?_)) (by first | assumption | omega) (by rfl) ?_
      refine r_icmp_ge 84 i_N_rings_27 (by decide) (fun h27 => ?_) (fun h27 => (absurd (by rw [hB]; exact nI_le (Nat.le_refl _) (by omega)) h27))
      exact hk _ _
    | succ m ih =>
      intro b hb x z hk
      have hk : ∀ (z z2 : Option Value), Go G 5 y_N_rings 84 [some (.ref 0), some (.int (lpF (rg2 Q.1 P B a) m (b + 1) (rg2 Q.1 P B a b x))), some (.int (nI a)), z2, z] [] w n 0 0 post := hk
      refine r_iload_n (i := 3) i_N_rings_19 rfl rfl ?_
      refine r_aload_n (i := 0) i_N_rings_20 rfl rfl ?_
      refine r_getf (ci := 0) (T := Fk0) (k := 0) o_N_rings i_N_rings_21 x_N_10 rfl (by decide) rfl (by repeat (first | assumption | exact upw_s | refine (upw_n (by omega)).trans ?_)) (by first | assumption | omega) (by rfl) ?_
      refine r_getfN (ci := 1) (T := Fk1) (k := 1) o_N_rings i_N_rings_24 x_N_113 rfl (by decide) rfl (by repeat (first | assumption | exact upw_s | refine (upw_n (by omega)).trans ?_)) (by first | assumption | omega) (by rfl) ?_
      refine r_icmp_ge 84 i_N_rings_27 (by decide) (fun h27 => (absurd h27 (by rw [hB]; exact nI_ge (by omega) (by omega)))) (fun h27 => ?_)
      refine r_iload_n (i := 3) i_N_rings_30 rfl rfl ?_
      refine r_iconst (v := (1 : Int32)) i_N_rings_31 rfl ?_
      refine r_iadd i_N_rings_32 ?_
      refine r_istore_4 i_N_rings_33 (by rw [l_N_rings]; decide) rfl ?_
      rw [nI_1]
      refine l3 _ a b ha (by omega) (B - (b + 1)) (b + 1) (by omega) x (fun z9 => ?_)
      have ih' := ih (b + 1) (by omega) (rg2 Q.1 P B a b x) z9 hk
      refine r_iinc_3 (v := (1 : Int32)) i_N_rings_78 rfl (by rw [l_N_rings]; decide) rfl ?_
      refine r_goto 19 i_N_rings_81 (by decide) ?_
      rw [nI_1]
      exact ih'
  have l1 : ∀ m a, a + m = B → ∀ (x : Int32) (z z2 : Option Value), lpF (rg3 Q.1 P B) m a x = lpF (rg3 Q.1 P B) B 0 0 → Go G 5 y_N_rings 4 [some (.ref 0), some (.int x), some (.int (nI a)), z2, z] [] w n 0 0 (fun r w' n' => r = some (.int (lpF (rg3 Q.1 P B) B 0 0)) ∧ (CW w' Q n ∧ cFr w w') ∧ n' = n) := by
    intro m
    induction m with
    | zero =>
      intro a ha x z z2 hx
      have ha : a = B := by omega
      subst ha
      have hx : x = _ := hx
      refine r_iload_n (i := 2) i_N_rings_4 rfl rfl ?_
      refine r_aload_n (i := 0) i_N_rings_5 rfl rfl ?_
      refine r_getf (ci := 0) (T := Fk0) (k := 0) o_N_rings i_N_rings_6 x_N_10 rfl (by decide) rfl (by repeat (first | assumption | exact upw_s | refine (upw_n (by omega)).trans ?_)) (by first | assumption | omega) (by rfl) ?_
      refine r_getfN (ci := 1) (T := Fk1) (k := 1) o_N_rings i_N_rings_9 x_N_113 rfl (by decide) rfl (by repeat (first | assumption | exact upw_s | refine (upw_n (by omega)).trans ?_)) (by first | assumption | omega) (by rfl) ?_
      refine r_icmp_ge 90 i_N_rings_12 (by decide) (fun h12 => ?_) (fun h12 => (absurd (by rw [hB]; exact nI_le (Nat.le_refl _) (by omega)) h12))
      refine r_iload_n (i := 1) i_N_rings_90 rfl rfl ?_
      refine r_ireturn i_N_rings_91 t_N_rings rfl ?_
      exact ⟨by rw [← hx], ⟨hC, cFr.rfl⟩, rfl⟩
    | succ m ih =>
      intro a ha x z z2 hx
      have hx : lpF (rg3 Q.1 P B) m (a + 1) (rg3 Q.1 P B a x) = _ := hx
      refine r_iload_n (i := 2) i_N_rings_4 rfl rfl ?_
      refine r_aload_n (i := 0) i_N_rings_5 rfl rfl ?_
      refine r_getf (ci := 0) (T := Fk0) (k := 0) o_N_rings i_N_rings_6 x_N_10 rfl (by decide) rfl (by repeat (first | assumption | exact upw_s | refine (upw_n (by omega)).trans ?_)) (by first | assumption | omega) (by rfl) ?_
      refine r_getfN (ci := 1) (T := Fk1) (k := 1) o_N_rings i_N_rings_9 x_N_113 rfl (by decide) rfl (by repeat (first | assumption | exact upw_s | refine (upw_n (by omega)).trans ?_)) (by first | assumption | omega) (by rfl) ?_
      refine r_icmp_ge 90 i_N_rings_12 (by decide) (fun h12 => (absurd h12 (by rw [hB]; exact nI_ge (by omega) (by omega)))) (fun h12 => ?_)
      refine r_iload_n (i := 2) i_N_rings_15 rfl rfl ?_
      refine r_iconst (v := (1 : Int32)) i_N_rings_16 rfl ?_
      refine r_iadd i_N_rings_17 ?_
      refine r_istore_3 i_N_rings_18 (by rw [l_N_rings]; decide) rfl ?_
      rw [nI_1]
      refine l2 _ a (by omega) (B - (a + 1)) (a + 1) (by omega) x _ (fun z9 z8 => ?_)
      have ih' := ih (a + 1) (by omega) (rg3 Q.1 P B a x) z9 z8 hx
      refine r_iinc_2 (v := (1 : Int32)) i_N_rings_84 rfl (by rw [l_N_rings]; decide) rfl ?_
      refine r_goto 4 i_N_rings_87 (by decide) ?_
      rw [nI_1]
      exact ih'
  refine r_iconst (v := (0 : Int32)) i_N_rings_0 rfl ?_
  refine r_istore_1 i_N_rings_1 (by rw [l_N_rings]; decide) rfl ?_
  refine r_iconst (v := (0 : Int32)) i_N_rings_2 rfl ?_
  refine r_istore_2 i_N_rings_3 (by rw [l_N_rings]; decide) rfl ?_
  exact l1 B 0 (by omega) 0 none none rfl
end PUBC
