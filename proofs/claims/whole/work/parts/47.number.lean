-- READER: words and numbers
def wlF (f : Nat → Int32) (st j : Nat) : Nat → Nat → Bool
  | 0, _ => true
  | m + 1, i => decide (f (st + i) = chN j i) && wlF f st j m (i + 1)
def wordB (f : Nat → Int32) (L : aL) (j : Nat) : Bool := decide (L.2.1 = 1) && (decide (L.1 - L.2.2 = strL.getD j 0) && wlF f L.2.2 j (strL.getD j 0) 0)
def nhF (f : Nat → Int32) : Nat → Nat → Int32 → Int32
  | 0, _, v => v
  | m + 1, i, v => nhF f m (i + 1) (v * 10 + (f i - 48))
def numV (f : Nat → Int32) (L : aL) : Int32 := if 3 < L.1 - L.2.2 then -1 else nhF f (L.1 - L.2.2) L.2.2 0
def rnV (f : Nat → Int32) (L : aL) : Int32 := if L.2.1 = 2 then numV f L else -1
def okN (v lo hi but : Int32) : Bool := wi0 v lo hi && !decide (v = but)
def faF (L : aL) (fa : Int32) : Int32 := if fa = -1 then nI L.2.2 else fa
def rnR (f : Nat → Int32) (z : Nat) (L : aL) (fa lo hi but : Int32) : Int32 × aL × Int32 := if okN (rnV f L) lo hi but then (rnV f L, lexF f z L.1, fa) else (-1, L, faF L fa)
theorem strL_lt : ∀ j, j < 9 → strL.getD j 0 < 10 := by decide
section NUMBER
variable {G : gE} {w : aW} {n k : Nat} {f : Nat → Int32} {z : Nat} {L : aL} {fa : Int32}
def LOk (L : aL) (z : Nat) : Prop := L.2.2 ≤ L.1 ∧ L.1 ≤ z ∧ L.2.1 ≤ 4
theorem c_R_isWord {j : Nat} (hfm : (gfm G).category = 1) (hR : RW w k f z L fa n) (hz : z ≤ 250) (hL : LOk L z) (hj : j < 9) : Fn G 4 y_R_isWord [.ref k, .ref (gB + j)] w n (some (.int (bI (wordB f L j)))) w := by
  have hl := strL_lt j hj
  obtain ⟨l1, l2, l3⟩ := hL
  obtain ⟨g0, g1, hn⟩ := hR
  have hloop : L.1 - L.2.2 = strL.getD j 0 → ∀ m i : Nat, i + m = strL.getD j 0 → Go G 4 y_R_isWord 28 [some (.ref k), some (.ref (gB + j)), some (.int (nI i))] [] w n 0 0 (fun r1 w1 n1 => r1 = some (.int (bI (wlF f L.2.2 j m i))) ∧ w1 = w ∧ n1 = n) := by
    intro hlen m
    induction m with
    | zero =>
      intro i hi
      have hi : i = strL.getD j 0 := by omega
      refine r_iload_n (i := 2) i_R_isWord_28 rfl rfl ?_
      refine r_aload_n (i := 1) i_R_isWord_29 rfl rfl ?_
      refine f_virtual o_R_isWord k_JS_length v_JS_length x_R_133 i_R_isWord_30 o_JS_length (c_JS_length hj) rfl (rcv_str hj) rfl (by decide) (Nat.le_of_ble_eq_true rfl) ?_
      refine r_icmp_ge 65 i_R_isWord_33 (by decide) (fun h33 => ?_) (fun h33 => (absurd (nI_le (by omega) (by omega)) h33))
      refine r_iconst (v := (1 : Int32)) i_R_isWord_65 rfl ?_
      refine r_ireturn i_R_isWord_66 t_R_isWord (by first | rfl | exact nar_bI _) ?_
      exact ⟨rfl, rfl, rfl⟩
    | succ m ih =>
      intro i hi
      have e9 : wlF f L.2.2 j (m + 1) i = (decide (f (L.2.2 + i) = chN j i) && wlF f L.2.2 j m (i + 1)) := rfl
      refine r_iload_n (i := 2) i_R_isWord_28 rfl rfl ?_
      refine r_aload_n (i := 1) i_R_isWord_29 rfl rfl ?_
      refine f_virtual o_R_isWord k_JS_length v_JS_length x_R_133 i_R_isWord_30 o_JS_length (c_JS_length hj) rfl (rcv_str hj) rfl (by decide) (Nat.le_of_ble_eq_true rfl) ?_
      refine r_icmp_ge 65 i_R_isWord_33 (by decide) (fun h33 => (absurd h33 (nI_ge (by omega) (by omega)))) (fun h33 => ?_)
      refine r_aload_n (i := 0) i_R_isWord_36 rfl rfl ?_
      refine r_getf (ci := 3) (T := Fk3) (k := 0) o_R_isWord i_R_isWord_37 x_R_11 rfl (by decide) rfl (by repeat (first | assumption | exact upw_s | refine (upw_n (by omega)).trans ?_)) (by first | assumption | omega) (by rfl) ?_
      refine r_aload_n (i := 0) i_R_isWord_40 rfl rfl ?_
      refine r_getf (ci := 3) (T := Fk3) (k := 4) o_R_isWord i_R_isWord_41 x_R_25 rfl (by decide) rfl (by repeat (first | assumption | exact upw_s | refine (upw_n (by omega)).trans ?_)) (by first | assumption | omega) (by rfl) ?_
      refine r_iload_n (i := 2) i_R_isWord_44 rfl rfl ?_
      refine r_iadd i_R_isWord_45 ?_
      rw [nI_add]
      refine f_staticN o_R_isWord k_N_at s_N_at x_R_129 i_R_isWord_46 (c_N_at (by repeat (first | assumption | exact upw_s | refine (upw_n (by omega)).trans ?_)) (by omega) (by decide)) rfl rfl (by decide) (Nat.le_of_ble_eq_true rfl) ?_
      rw [atI_in (show L.2.2 + i < 250 by omega) (by decide)]
      refine r_aload_n (i := 1) i_R_isWord_49 rfl rfl ?_
      refine r_iload_n (i := 2) i_R_isWord_50 rfl rfl ?_
      refine f_virtual o_R_isWord k_JS_charAt v_JS_charAt x_R_138 i_R_isWord_51 o_JS_charAt (c_JS_charAt hfm hj (by omega)) rfl (rcv_str hj) rfl (by decide) (Nat.le_of_ble_eq_true rfl) ?_
      refine r_icmp_eq 59 i_R_isWord_54 (by decide) (fun h54 => ?_) (fun h54 => ?_)
      · skip
        rw [decide_eq_true h54] at e9
        refine r_iinc_2 (v := (1 : Int32)) i_R_isWord_59 rfl (by rw [l_R_isWord]; decide) rfl ?_
        refine r_goto 28 i_R_isWord_62 (by decide) ?_
        rw [nI_1, e9, Bool.true_and]
        exact ih (i + 1) (by omega)
      · skip
        rw [decide_eq_false h54] at e9
        refine r_iconst (v := (0 : Int32)) i_R_isWord_57 rfl ?_
        refine r_ireturn i_R_isWord_58 t_R_isWord (by first | rfl | exact nar_bI _) ?_
        exact ⟨by rw [e9]; rfl, rfl, rfl⟩
  refine Fn.of k_R_isWord l_R_isWord rfl rfl ?_
  have e1 : nI L.2.1 = 1 ↔ L.2.1 = 1 := nI_eq (b := 1) (by omega) (by decide)
  have e2 : nI L.1 - nI L.2.2 = nI (L.1 - L.2.2) := pk_sub l1
  refine r_aload_n (i := 0) i_R_isWord_0 rfl rfl ?_
  refine r_getf (ci := 3) (T := Fk3) (k := 3) o_R_isWord i_R_isWord_1 x_R_22 rfl (by decide) rfl (by repeat (first | assumption | exact upw_s | refine (upw_n (by omega)).trans ?_)) (by first | assumption | omega) (by rfl) ?_
  refine r_iconst (v := (1 : Int32)) i_R_isWord_4 rfl ?_
  refine r_icmp_ne 24 i_R_isWord_5 (by decide) (fun h5 => ?_) (fun h5 => ?_)
  · skip
    have h5 : ¬ L.2.1 = 1 := fun q => h5 (e1.mpr q)
    have e9 : wordB f L j = false := by unfold wordB; rw [decide_eq_false h5]; rfl
    refine r_iconst (v := (0 : Int32)) i_R_isWord_24 rfl ?_
    refine r_ireturn i_R_isWord_25 t_R_isWord (by first | rfl | exact nar_bI _) ?_
    exact ⟨by rw [e9]; rfl, rfl, rfl⟩
  · skip
    have h5 := e1.mp h5
    refine r_aload_n (i := 0) i_R_isWord_8 rfl rfl ?_
    refine r_getf (ci := 3) (T := Fk3) (k := 2) o_R_isWord i_R_isWord_9 x_R_19 rfl (by decide) rfl (by repeat (first | assumption | exact upw_s | refine (upw_n (by omega)).trans ?_)) (by first | assumption | omega) (by rfl) ?_
    refine r_aload_n (i := 0) i_R_isWord_12 rfl rfl ?_
    refine r_getf (ci := 3) (T := Fk3) (k := 4) o_R_isWord i_R_isWord_13 x_R_25 rfl (by decide) rfl (by repeat (first | assumption | exact upw_s | refine (upw_n (by omega)).trans ?_)) (by first | assumption | omega) (by rfl) ?_
    refine r_isub i_R_isWord_16 ?_
    rw [e2]
    refine r_aload_n (i := 1) i_R_isWord_17 rfl rfl ?_
    refine f_virtual o_R_isWord k_JS_length v_JS_length x_R_133 i_R_isWord_18 o_JS_length (c_JS_length hj) rfl (rcv_str hj) rfl (by decide) (Nat.le_of_ble_eq_true rfl) ?_
    refine r_icmp_eq 26 i_R_isWord_21 (by decide) (fun h21 => ?_) (fun h21 => ?_)
    · skip
      have h21 : L.1 - L.2.2 = strL.getD j 0 := (nI_eq (by omega) (by omega)).mp h21
      refine r_iconst (v := (0 : Int32)) i_R_isWord_26 rfl ?_
      refine r_istore_2 i_R_isWord_27 (by rw [l_R_isWord]; decide) rfl ?_
      have h9 := hloop h21 (strL.getD j 0) 0 (by omega)
      have e9 : wordB f L j = wlF f L.2.2 j (strL.getD j 0) 0 := by unfold wordB; rw [decide_eq_true h5, decide_eq_true h21]; rfl
      rw [e9]
      exact h9
    · skip
      have h21 : ¬ L.1 - L.2.2 = strL.getD j 0 := fun q => h21 (by rw [q])
      have e9 : wordB f L j = false := by unfold wordB; rw [decide_eq_false h21, Bool.false_and, Bool.and_false]
      refine r_iconst (v := (0 : Int32)) i_R_isWord_24 rfl ?_
      refine r_ireturn i_R_isWord_25 t_R_isWord (by first | rfl | exact nar_bI _) ?_
      exact ⟨by rw [e9]; rfl, rfl, rfl⟩
theorem c_R_numberHere (hR : RW w k f z L fa n) (hz : z ≤ 250) (hL : LOk L z) : Fn G 1 y_R_numberHere [.ref k] w n (some (.int (numV f L))) w := by
  obtain ⟨l1, l2, l3⟩ := hL
  obtain ⟨g0, g1, hn⟩ := hR
  have e2 : nI L.1 - nI L.2.2 = nI (L.1 - L.2.2) := pk_sub l1
  have hloop : ∀ m i : Nat, i + m = L.1 → ∀ v : Int32, Go G 1 y_R_numberHere 22 [some (.ref k), some (.int v), some (.int (nI i))] [] w n 0 0 (fun r1 w1 n1 => r1 = some (.int (nhF f m i v)) ∧ w1 = w ∧ n1 = n) := by
    intro m
    induction m with
    | zero =>
      intro i hi v
      refine r_iload_n (i := 2) i_R_numberHere_22 rfl rfl ?_
      refine r_aload_n (i := 0) i_R_numberHere_23 rfl rfl ?_
      refine r_getf (ci := 3) (T := Fk3) (k := 2) o_R_numberHere i_R_numberHere_24 x_R_19 rfl (by decide) rfl (by repeat (first | assumption | exact upw_s | refine (upw_n (by omega)).trans ?_)) (by first | assumption | omega) (by rfl) ?_
      refine r_icmp_ge 53 i_R_numberHere_27 (by decide) (fun h27 => ?_) (fun h27 => (absurd (nI_le (by omega) (by omega)) h27))
      refine r_iload_n (i := 1) i_R_numberHere_53 rfl rfl ?_
      refine r_ireturn i_R_numberHere_54 t_R_numberHere rfl ?_
      exact ⟨rfl, rfl, rfl⟩
    | succ m ih =>
      intro i hi v
      refine r_iload_n (i := 2) i_R_numberHere_22 rfl rfl ?_
      refine r_aload_n (i := 0) i_R_numberHere_23 rfl rfl ?_
      refine r_getf (ci := 3) (T := Fk3) (k := 2) o_R_numberHere i_R_numberHere_24 x_R_19 rfl (by decide) rfl (by repeat (first | assumption | exact upw_s | refine (upw_n (by omega)).trans ?_)) (by first | assumption | omega) (by rfl) ?_
      refine r_icmp_ge 53 i_R_numberHere_27 (by decide) (fun h27 => (absurd h27 (nI_ge (by omega) (by omega)))) (fun h27 => ?_)
      refine r_iload_n (i := 1) i_R_numberHere_30 rfl rfl ?_
      refine r_bipush (v := (10 : Int32)) i_R_numberHere_31 (by decide) ?_
      refine r_imul i_R_numberHere_33 ?_
      refine r_aload_n (i := 0) i_R_numberHere_34 rfl rfl ?_
      refine r_getf (ci := 3) (T := Fk3) (k := 0) o_R_numberHere i_R_numberHere_35 x_R_11 rfl (by decide) rfl (by repeat (first | assumption | exact upw_s | refine (upw_n (by omega)).trans ?_)) (by first | assumption | omega) (by rfl) ?_
      refine r_iload_n (i := 2) i_R_numberHere_38 rfl rfl ?_
      refine f_staticN o_R_numberHere k_N_at s_N_at x_R_129 i_R_numberHere_39 (c_N_at (by repeat (first | assumption | exact upw_s | refine (upw_n (by omega)).trans ?_)) (by omega) (by decide)) rfl rfl (by decide) (Nat.le_of_ble_eq_true rfl) ?_
      rw [atI_in (show i < 250 by omega) (by decide)]
      refine r_bipush (v := (48 : Int32)) i_R_numberHere_42 (by decide) ?_
      refine r_isub i_R_numberHere_44 ?_
      refine r_iadd i_R_numberHere_45 ?_
      refine r_istore_1 i_R_numberHere_46 (by rw [l_R_numberHere]; decide) rfl ?_
      refine r_iinc_2 (v := (1 : Int32)) i_R_numberHere_47 rfl (by rw [l_R_numberHere]; decide) rfl ?_
      refine r_goto 22 i_R_numberHere_50 (by decide) ?_
      rw [nI_1]
      exact ih (i + 1) (by omega) _
  refine Fn.of k_R_numberHere l_R_numberHere rfl rfl ?_
  unfold numV
  refine r_aload_n (i := 0) i_R_numberHere_0 rfl rfl ?_
  refine r_getf (ci := 3) (T := Fk3) (k := 2) o_R_numberHere i_R_numberHere_1 x_R_19 rfl (by decide) rfl (by repeat (first | assumption | exact upw_s | refine (upw_n (by omega)).trans ?_)) (by first | assumption | omega) (by rfl) ?_
  refine r_aload_n (i := 0) i_R_numberHere_4 rfl rfl ?_
  refine r_getf (ci := 3) (T := Fk3) (k := 4) o_R_numberHere i_R_numberHere_5 x_R_25 rfl (by decide) rfl (by repeat (first | assumption | exact upw_s | refine (upw_n (by omega)).trans ?_)) (by first | assumption | omega) (by rfl) ?_
  refine r_isub i_R_numberHere_8 ?_
  rw [e2]
  refine r_iconst (v := (3 : Int32)) i_R_numberHere_9 rfl ?_
  refine r_icmp_le 15 i_R_numberHere_10 (by decide) (fun h10 => ?_) (fun h10 => ?_)
  · skip
    have h10 : ¬ 3 < L.1 - L.2.2 := fun q => absurd h10 (nI_ge (a := 3) q (by omega))
    rw [if_neg h10]
    refine r_iconst (v := (0 : Int32)) i_R_numberHere_15 rfl ?_
    refine r_istore_1 i_R_numberHere_16 (by rw [l_R_numberHere]; decide) rfl ?_
    refine r_aload_n (i := 0) i_R_numberHere_17 rfl rfl ?_
    refine r_getf (ci := 3) (T := Fk3) (k := 4) o_R_numberHere i_R_numberHere_18 x_R_25 rfl (by decide) rfl (by repeat (first | assumption | exact upw_s | refine (upw_n (by omega)).trans ?_)) (by first | assumption | omega) (by rfl) ?_
    refine r_istore_2 i_R_numberHere_21 (by rw [l_R_numberHere]; decide) rfl ?_
    exact hloop (L.1 - L.2.2) L.2.2 (by omega) 0
  · skip
    have h10 : 3 < L.1 - L.2.2 := Nat.not_le.mp (fun q => h10 (nI_le (b := 3) q (by decide)))
    rw [if_pos h10]
    refine r_iconst (v := (-1 : Int32)) i_R_numberHere_13 rfl ?_
    refine r_ireturn i_R_numberHere_14 t_R_numberHere rfl ?_
    exact ⟨rfl, rfl, rfl⟩
theorem c_R_readNumber {lo hi but : Int32} (hR : RW w k f z L fa n) (hz : z ≤ 250) (hL : LOk L z) : Mt G 3 y_R_readNumber [.ref k, .int lo, .int hi, .int but] w n 0 0 (fun r w' n' => r = some (.int (rnR f z L fa lo hi but).1) ∧ (RW w' k f z (rnR f z L fa lo hi but).2.1 (rnR f z L fa lo hi but).2.2 n ∧ rFr w w' k) ∧ n' = n) := by
  have hR0 := hR
  have hL0 := hL
  obtain ⟨l1, l2, l3⟩ := hL
  obtain ⟨g0, g1, hn⟩ := hR
  have e1 : nI L.2.1 = 2 ↔ L.2.1 = 2 := nI_eq (b := 2) (by omega) (by decide)
  have key : Go G 3 y_R_readNumber 16 [some (.ref k), some (.int lo), some (.int hi), some (.int but), none] [.int (rnV f L)] w n 0 0 (fun r w' n' => r = some (.int (rnR f z L fa lo hi but).1) ∧ (RW w' k f z (rnR f z L fa lo hi but).2.1 (rnR f z L fa lo hi but).2.2 n ∧ rFr w w' k) ∧ n' = n) := by
    unfold rnR okN
    generalize rnV f L = v
    refine r_istore_4 i_R_readNumber_16 (by rw [l_R_readNumber]; decide) rfl ?_
    refine r_iload (i := 4) i_R_readNumber_18 rfl ?_
    refine r_iload_n (i := 1) i_R_readNumber_20 rfl rfl ?_
    refine r_iload_n (i := 2) i_R_readNumber_21 rfl rfl ?_
    refine f_staticN o_R_readNumber k_N_isWithin s_N_isWithin x_R_125 i_R_readNumber_22 (c_N_isWithin) rfl rfl (by decide) (Nat.le_of_ble_eq_true rfl) ?_
    refine r_if_eq 34 i_R_readNumber_25 (by decide) (fun h25 => ?_) (fun h25 => ?_)
    · skip
      have h25 : wi0 v lo hi = false := bI_eq0.mp h25
      rw [h25, Bool.false_and]
      refine r_aload_n (i := 0) i_R_readNumber_34 rfl rfl ?_
      refine m_virtual o_R_readNumber k_R_fail v_R_fail x_R_42 i_R_readNumber_35 o_R_fail (c_R_fail hR0) rfl (rcv_ob (by repeat (first | assumption | exact upw_s | refine (upw_n (by omega)).trans ?_)) rfl (by first | assumption | omega)) rfl (by decide) (Nat.le_of_ble_eq_true rfl) (Nat.zero_le _) (Nat.zero_le _) (fun r1 w2 n1 hp9 => ?_)
      obtain ⟨rfl, ⟨hR2, hF2⟩, rfl⟩ := hp9
      refine r_iconst (v := (-1 : Int32)) i_R_readNumber_38 rfl ?_
      refine r_ireturn i_R_readNumber_39 t_R_readNumber rfl ?_
      exact ⟨rfl, ⟨hR2, hF2⟩, rfl⟩
    · skip
      have h25 : wi0 v lo hi = true := bI_ne0.mp h25
      rw [h25, Bool.true_and]
      refine r_iload (i := 4) i_R_readNumber_28 rfl ?_
      refine r_iload_n (i := 3) i_R_readNumber_30 rfl rfl ?_
      refine r_icmp_ne 40 i_R_readNumber_31 (by decide) (fun h31 => ?_) (fun h31 => ?_)
      · skip
        rw [decide_eq_false h31]
        refine r_aload_n (i := 0) i_R_readNumber_40 rfl rfl ?_
        refine m_virtual o_R_readNumber k_R_step v_R_step x_R_35 i_R_readNumber_41 o_R_step (c_R_step hR0 hz l2) rfl (rcv_ob (by repeat (first | assumption | exact upw_s | refine (upw_n (by omega)).trans ?_)) rfl (by first | assumption | omega)) rfl (by decide) (Nat.le_of_ble_eq_true rfl) (Nat.zero_le _) (Nat.zero_le _) (fun r1 w2 n1 hp9 => ?_)
        obtain ⟨rfl, ⟨hR2, hF2⟩, rfl⟩ := hp9
        refine r_iload (i := 4) i_R_readNumber_44 rfl ?_
        refine r_ireturn i_R_readNumber_46 t_R_readNumber rfl ?_
        exact ⟨rfl, ⟨hR2, hF2⟩, rfl⟩
      · skip
        rw [decide_eq_true h31]
        refine r_aload_n (i := 0) i_R_readNumber_34 rfl rfl ?_
        refine m_virtual o_R_readNumber k_R_fail v_R_fail x_R_42 i_R_readNumber_35 o_R_fail (c_R_fail hR0) rfl (rcv_ob (by repeat (first | assumption | exact upw_s | refine (upw_n (by omega)).trans ?_)) rfl (by first | assumption | omega)) rfl (by decide) (Nat.le_of_ble_eq_true rfl) (Nat.zero_le _) (Nat.zero_le _) (fun r1 w2 n1 hp9 => ?_)
        obtain ⟨rfl, ⟨hR2, hF2⟩, rfl⟩ := hp9
        refine r_iconst (v := (-1 : Int32)) i_R_readNumber_38 rfl ?_
        refine r_ireturn i_R_readNumber_39 t_R_readNumber rfl ?_
        exact ⟨rfl, ⟨hR2, hF2⟩, rfl⟩
  refine Mt.of k_R_readNumber l_R_readNumber (Nat.le_of_ble_eq_true rfl) rfl ?_
  refine r_aload_n (i := 0) i_R_readNumber_0 rfl rfl ?_
  refine r_getf (ci := 3) (T := Fk3) (k := 3) o_R_readNumber i_R_readNumber_1 x_R_22 rfl (by decide) rfl (by repeat (first | assumption | exact upw_s | refine (upw_n (by omega)).trans ?_)) (by first | assumption | omega) (by rfl) ?_
  refine r_iconst (v := (2 : Int32)) i_R_readNumber_4 rfl ?_
  refine r_icmp_ne 15 i_R_readNumber_5 (by decide) (fun h5 => ?_) (fun h5 => ?_)
  · skip
    have q5 : rnV f L = -1 := if_neg (fun q => h5 (e1.mpr q))
    refine r_iconst (v := (-1 : Int32)) i_R_readNumber_15 rfl ?_
    rw [q5] at key
    exact key
  · skip
    have q5 : rnV f L = numV f L := if_pos (e1.mp h5)
    refine r_aload_n (i := 0) i_R_readNumber_8 rfl rfl ?_
    refine f_virtual o_R_readNumber k_R_numberHere v_R_numberHere x_R_122 i_R_readNumber_9 o_R_numberHere (c_R_numberHere hR0 hz hL0) rfl (rcv_ob (by repeat (first | assumption | exact upw_s | refine (upw_n (by omega)).trans ?_)) rfl (by first | assumption | omega)) rfl (by decide) (Nat.le_of_ble_eq_true rfl) ?_
    refine r_goto 16 i_R_readNumber_12 (by decide) ?_
    rw [q5] at key
    exact key
theorem rn_ok {lo hi but : Int32} (hL : LOk L z) : LOk (rnR f z L fa lo hi but).2.1 z := by
  unfold rnR
  split
  · exact lex_le hL.2.1
  · exact hL
end NUMBER
