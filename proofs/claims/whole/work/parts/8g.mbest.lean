-- THE REFERENCE: best and what stands on it
def ngF (g : Nat → Int32) (B : Nat) : Nat → Int32 := fun j => if j < B then -1 else g j
def bbX (M : aM) (P B : Nat) (only : Int32) (X : aT) : aT := sekF M P B only B 0 0 0 (0, X.2.1, ngF X.2.2 B)
section MBEST
variable {G : gE} {w : aW} {o n : Nat} {M : aM}
theorem mX_xT : mX M (xT M) = M := by
  show mA (mA (mS M 32 (M.1 32)) 39 (M.2.1 39)) 40 (M.2.1 40) = M
  rw [mA_self (M := mA (mS M 32 (M.1 32)) 39 (M.2.1 39)) (j := 40) (f := M.2.1 40) rfl, mA_self (M := mS M 32 (M.1 32)) (j := 39) (f := M.2.1 39) rfl]
  refine Prod.ext (funext fun j => ?_) rfl
  show (if j = 32 then M.1 32 else M.1 j) = M.1 j
  by_cases e : j = 32
  · rw [if_pos e, e]
  · rw [if_neg e]
theorem c_M_bestBy {B P : Nat} {only : Int32} {X : aT} (h : MW w o (mX M X) n) (hB : M.1 13 = nI B) (hB7 : B ≤ 7) (hP : M.1 10 = nI P) (hP7 : P ≤ 7) : Mm G 11 y_M_bestBy [.ref o, .int only] w o n ((bbX M P B only X).1, mX M (bbX M P B only X)) := by
  refine Mm.of k_M_bestBy l_M_bestBy rfl rfl ?_
  have hloop : ∀ m k, k + m = B → ∀ w1, MW w1 o (mX M (0, X.2.1, ngF X.2.2 k)) n → mFr w w1 o → Go G 11 y_M_bestBy 7 [some (.ref o), some (.int only), some (.int (nI k))] [] w1 n 0 0 (fun r w' n' => r = some (.int (bbX M P B only X).1) ∧ (MW w' o (mX M (bbX M P B only X)) n ∧ mFr w w' o) ∧ n' = n) := by
    intro m
    induction m with
    | zero =>
      intro k hk w1 h1 hF
      have hk : k = B := by omega
      subst hk
      have hB1 : (mX M (0, X.2.1, ngF X.2.2 k)).1 13 = nI k := hB
      have hs := c_M_seek (G := G) (only := only) hB hB7 hP hP7 k 0 (by omega) 0 0 0 (0, X.2.1, ngF X.2.2 k) w1 h1
      rw [show sekF M P k only k 0 0 0 (0, X.2.1, ngF X.2.2 k) = bbX M P k only X from rfl] at hs
      generalize bbX M P k only X = R at *
      obtain ⟨m0, mA', mL', m4, m20, m28, mn'⟩ := id h1
      refine r_iload_n (i := 2) i_M_bestBy_7 rfl rfl ?_
      refine r_aload_n (i := 0) i_M_bestBy_8 rfl rfl ?_
      refine r_getf (ci := 6) (T := Fk6) (k := 13) o_M_bestBy i_M_bestBy_9 x_M_80 rfl (by decide) rfl (by repeat (first | assumption | exact upw_s | refine (upw_n (by omega)).trans ?_)) (by first | assumption | omega) (by rfl) ?_
      rw [hB1]
      refine r_icmp_ge 28 i_M_bestBy_12 (by decide) (fun h12 => ?_) (fun h12 => (absurd (nI_le (Nat.le_refl _) (by omega)) h12))
      refine r_aload_n (i := 0) i_M_bestBy_28 rfl rfl ?_
      refine r_iconst (v := (0 : Int32)) i_M_bestBy_29 rfl ?_
      refine r_iconst (v := (0 : Int32)) i_M_bestBy_30 rfl ?_
      refine r_iconst (v := (0 : Int32)) i_M_bestBy_31 rfl ?_
      refine r_iconst (v := (0 : Int32)) i_M_bestBy_32 rfl ?_
      refine r_iload_n (i := 1) i_M_bestBy_33 rfl rfl ?_
      refine m_virtual o_M_bestBy k_M_seek v_M_seek x_M_291 i_M_bestBy_34 o_M_seek (hs) rfl (rcv_ob (by repeat (first | assumption | exact upw_s | refine (upw_n (by omega)).trans ?_)) rfl (by first | assumption | omega)) rfl (by omega) (Nat.le_of_ble_eq_true rfl) (Nat.zero_le _) (Nat.zero_le _) (fun q1 w3 n1 hp9 => ?_)
      obtain ⟨rfl, ⟨hM3, hF3⟩, rfl⟩ := hp9
      obtain ⟨d0, dA', dL', d4, d20, d28, dn'⟩ := id hM3
      refine r_aload_n (i := 0) i_M_bestBy_37 rfl rfl ?_
      refine r_getf (ci := 6) (T := Fk6) (k := 32) o_M_bestBy i_M_bestBy_38 x_M_288 rfl (by decide) rfl (by repeat (first | assumption | exact upw_s | refine (upw_n (by omega)).trans ?_)) (by first | assumption | omega) (by rfl) ?_
      refine r_ireturn i_M_bestBy_41 t_M_bestBy rfl ?_
      exact ⟨rfl, ⟨hM3, hF.tr hF3⟩, rfl⟩
    | succ m ih =>
      intro k hk w1 h1 hF
      have ih' := ih (k + 1) (by omega)
      have hB1 : (mX M (0, X.2.1, ngF X.2.2 k)).1 13 = nI B := hB
      have h2 := h1.xbw (f := ngF X.2.2 (k + 1))
      have e9 : upd (ngF X.2.2 k) k (-1) = ngF X.2.2 (k + 1) := by
        funext j
        unfold upd ngF
        by_cases e1 : j = k
        · rw [if_pos e1, if_pos (by omega)]
        · rw [if_neg e1]
          by_cases e2 : j < k
          · rw [if_pos e2, if_pos (by omega)]
          · rw [if_neg e2, if_neg (by omega)]
      obtain ⟨m0, mA', mL', m4, m20, m28, mn'⟩ := id h1
      have a40 : w1 (o + 40) = ai 7 (ngF X.2.2 k) := mA' 40 rfl
      have ik : vp_in (nI k) 7 := vp_in_nI (by omega) (by decide)
      have ec : (nI k).toNatClampNeg = k := nI_clamp (by omega)
      refine r_iload_n (i := 2) i_M_bestBy_7 rfl rfl ?_
      refine r_aload_n (i := 0) i_M_bestBy_8 rfl rfl ?_
      refine r_getf (ci := 6) (T := Fk6) (k := 13) o_M_bestBy i_M_bestBy_9 x_M_80 rfl (by decide) rfl (by repeat (first | assumption | exact upw_s | refine (upw_n (by omega)).trans ?_)) (by first | assumption | omega) (by rfl) ?_
      rw [hB1]
      refine r_icmp_ge 28 i_M_bestBy_12 (by decide) (fun h12 => (absurd h12 (nI_ge (by omega) (by omega)))) (fun h12 => ?_)
      refine r_aload_n (i := 0) i_M_bestBy_15 rfl rfl ?_
      refine r_getf (ci := 6) (T := Fk6) (k := 31) o_M_bestBy i_M_bestBy_16 x_M_70 rfl (by decide) rfl (by repeat (first | assumption | exact upw_s | refine (upw_n (by omega)).trans ?_)) (by first | assumption | omega) (by rfl) ?_
      refine r_iload_n (i := 2) i_M_bestBy_19 rfl rfl ?_
      refine r_iconst (v := (-1 : Int32)) i_M_bestBy_20 rfl ?_
      refine r_iast i_M_bestBy_21 (by repeat (first | assumption | exact upw_s | refine (upw_n (by omega)).trans ?_)) (by first | assumption | omega) (by assumption) ?_
      rw [ec, e9]
      refine r_iinc_2 (v := (1 : Int32)) i_M_bestBy_22 rfl (by rw [l_M_bestBy]; decide) rfl ?_
      refine r_goto 7 i_M_bestBy_25 (by decide) ?_
      rw [nI_1]
      exact ih' _ h2 (hF.up (by omega) (by omega))
  have h2 := h.xbv (v := 0)
  obtain ⟨m0, mA', mL', m4, m20, m28, mn'⟩ := id h
  refine r_aload_n (i := 0) i_M_bestBy_0 rfl rfl ?_
  refine r_iconst (v := (0 : Int32)) i_M_bestBy_1 rfl ?_
  refine r_putf (ci := 6) (T := Fk6) (k := 32) o_M_bestBy i_M_bestBy_2 x_M_288 rfl (by decide) rfl rfl (ok6 32 (by decide)) rfl (by repeat (first | assumption | exact upw_s | refine (upw_n (by omega)).trans ?_)) (by first | assumption | omega) (by exact Nat.le_of_ble_eq_true rfl) ?_
  refine r_iconst (v := (0 : Int32)) i_M_bestBy_5 rfl ?_
  refine r_istore_2 i_M_bestBy_6 (by rw [l_M_bestBy]; decide) rfl ?_
  refine hloop B 0 (by omega) _ ?_ (mFr.rf.up (by omega) (by omega))
  rw [show ngF X.2.2 0 = X.2.2 from funext fun j => if_neg (by omega)]
  exact h2
/-- the search out of a model as it is -/
def bbM (M : aM) (P B : Nat) (only : Int32) : aT := bbX M P B only (xT M)
theorem c_M_bestBy0 {B P : Nat} {only : Int32} (h : MW w o M n) (hB : M.1 13 = nI B) (hB7 : B ≤ 7) (hP : M.1 10 = nI P) (hP7 : P ≤ 7) : Mm G 11 y_M_bestBy [.ref o, .int only] w o n ((bbM M P B only).1, mX M (bbM M P B only)) := by
  have h9 := c_M_bestBy (G := G) (only := only) (M := M) (X := xT M) (by rw [mX_xT]; exact h) hB hB7 hP hP7
  exact h9
theorem c_M_best {B P : Nat} (h : MW w o M n) (hB : M.1 13 = nI B) (hB7 : B ≤ 7) (hP : M.1 10 = nI P) (hP7 : P ≤ 7) : Mm G 12 y_M_best [.ref o] w o n ((bbM M P B (allW P)).1, mX M (bbM M P B (allW P))) := by
  obtain ⟨m0, mA', mL', m4, m20, m28, mn'⟩ := id h
  refine Mm.of k_M_best l_M_best rfl rfl ?_
  refine r_aload_n (i := 0) i_M_best_0 rfl rfl ?_
  refine r_aload_n (i := 0) i_M_best_1 rfl rfl ?_
  refine f_virtual o_M_best k_M_all v_M_all x_M_298 i_M_best_2 o_M_all (c_M_all h hP) rfl (rcv_ob (by repeat (first | assumption | exact upw_s | refine (upw_n (by omega)).trans ?_)) rfl (by first | assumption | omega)) rfl (by decide) (Nat.le_of_ble_eq_true rfl) ?_
  refine m_virtual o_M_best k_M_bestBy v_M_bestBy x_M_301 i_M_best_5 o_M_bestBy (c_M_bestBy0 h hB hB7 hP hP7) rfl (rcv_ob (by repeat (first | assumption | exact upw_s | refine (upw_n (by omega)).trans ?_)) rfl (by first | assumption | omega)) rfl (by decide) (Nat.le_of_ble_eq_true rfl) (Nat.zero_le _) (Nat.zero_le _) (fun q1 w3 n1 hp9 => ?_)
  obtain ⟨rfl, hp9, rfl⟩ := hp9
  refine r_ireturn i_M_best_8 t_M_best rfl ?_
  exact ⟨rfl, hp9, rfl⟩
def m2_bestOf (M : aM) (P B : Nat) (b : Int32) : Int32 × aM := if lt0 b (M.1 13) = true then ((bbM M P B (allW P)).2.2 b.toNatClampNeg, mX M (bbM M P B (allW P))) else (-2, mR M 2)
theorem c_M_bestOf {B P : Nat} {b : Int32} (h : MW w o M n) (hB : M.1 13 = nI B) (hB7 : B ≤ 7) (hP : M.1 10 = nI P) (hP7 : P ≤ 7) : Mm G 12 y_M_bestOf [.ref o, .int b] w o n (m2_bestOf M P B b) := by
  obtain ⟨m0, mA', mL', m4, m20, m28, mn'⟩ := id h
  refine Mm.of k_M_bestOf l_M_bestOf rfl rfl ?_
  unfold m2_bestOf
  rw [hB]
  have hs := c_M_bestBy0 (G := G) (only := allW P) h hB hB7 hP hP7
  generalize bbM M P B (allW P) = R at *
  refine r_aload_n (i := 0) i_M_bestOf_0 rfl rfl ?_
  refine r_iload_n (i := 1) i_M_bestOf_1 rfl rfl ?_
  refine f_virtual o_M_bestOf k_M_isBargain v_M_isBargain x_M_116 i_M_bestOf_2 o_M_isBargain (c_M_isBargain h) rfl (rcv_ob (by repeat (first | assumption | exact upw_s | refine (upw_n (by omega)).trans ?_)) rfl (by first | assumption | omega)) rfl (by decide) (Nat.le_of_ble_eq_true rfl) ?_
  rw [hB, in_lt (by omega)]
  refine r_if_ne 15 i_M_bestOf_5 (by decide) (fun h5 => ?_) (fun h5 => ?_)
  · skip
    have h5 := bI_ne0.mp h5
    try rw [h5]
    obtain ⟨b, hb, rfl⟩ := lt0_of (by omega) h5
    have ib : vp_in (nI b) 7 := vp_in_nI (by omega) (by decide)
    refine r_aload_n (i := 0) i_M_bestOf_15 rfl rfl ?_
    refine r_aload_n (i := 0) i_M_bestOf_16 rfl rfl ?_
    refine f_virtual o_M_bestOf k_M_all v_M_all x_M_298 i_M_bestOf_17 o_M_all (c_M_all h hP) rfl (rcv_ob (by repeat (first | assumption | exact upw_s | refine (upw_n (by omega)).trans ?_)) rfl (by first | assumption | omega)) rfl (by decide) (Nat.le_of_ble_eq_true rfl) ?_
    refine m_virtual o_M_bestOf k_M_bestBy v_M_bestBy x_M_301 i_M_bestOf_20 o_M_bestBy (hs) rfl (rcv_ob (by repeat (first | assumption | exact upw_s | refine (upw_n (by omega)).trans ?_)) rfl (by first | assumption | omega)) rfl (by decide) (Nat.le_of_ble_eq_true rfl) (Nat.zero_le _) (Nat.zero_le _) (fun q1 w3 n1 hp9 => ?_)
    obtain ⟨rfl, ⟨hM3, hF3⟩, rfl⟩ := hp9
    obtain ⟨d0, dA', dL', d4, d20, d28, dn'⟩ := id hM3
    have a40 : w3 (o + 40) = ai 7 R.2.2 := dA' 40 rfl
    refine r_pop i_M_bestOf_23 rfl ?_
    refine r_aload_n (i := 0) i_M_bestOf_24 rfl rfl ?_
    refine r_getf (ci := 6) (T := Fk6) (k := 31) o_M_bestOf i_M_bestOf_25 x_M_70 rfl (by decide) rfl (by repeat (first | assumption | exact upw_s | refine (upw_n (by omega)).trans ?_)) (by first | assumption | omega) (by rfl) ?_
    refine r_iload_n (i := 1) i_M_bestOf_28 rfl rfl ?_
    refine r_iald i_M_bestOf_29 (by repeat (first | assumption | exact upw_s | refine (upw_n (by omega)).trans ?_)) (by first | assumption | omega) (by assumption) ?_
    refine r_ireturn i_M_bestOf_30 t_M_bestOf rfl ?_
    exact ⟨rfl, ⟨hM3, hF3⟩, rfl⟩
  · skip
    have h5 := bI_eq0.mp h5
    try rw [h5]
    refine r_aload_n (i := 0) i_M_bestOf_8 rfl rfl ?_
    refine r_bipush (v := (-2 : Int32)) i_M_bestOf_9 (by decide) ?_
    refine m_virtual o_M_bestOf k_M_refuse v_M_refuse x_M_89 i_M_bestOf_11 o_M_refuse (c_M_refuse (i := 2) h (by decide)) rfl (rcv_ob (by repeat (first | assumption | exact upw_s | refine (upw_n (by omega)).trans ?_)) rfl (by first | assumption | omega)) rfl (by decide) (Nat.le_of_ble_eq_true rfl) (Nat.zero_le _) (Nat.zero_le _) (fun rr11 wr11 nr11 hp9 => ?_)
    obtain ⟨rfl, hp9, rfl⟩ := hp9
    refine r_ireturn i_M_bestOf_14 t_M_bestOf rfl ?_
    first | exact ⟨rfl, hp9, rfl⟩ | exact ⟨rfl, ⟨h, fun _ _ => rfl⟩, rfl⟩
/-- who is left without one -/
def lsM (P : Nat) (i : Int32) : Int32 := allW P &&& ((1 : Int32) <<< (i &&& 31) ^^^ (-1))
def woX (M : aM) (P B : Nat) (i : Int32) (X : aT) : Int32 × aT := ((bbX M P B (allW P) X).1 - (bbX M P B (lsM P i) (bbX M P B (allW P) X)).1, bbX M P B (lsM P i) (bbX M P B (allW P) X))
theorem c_M_worthOf {B P : Nat} {i : Int32} {X : aT} (h : MW w o (mX M X) n) (hB : M.1 13 = nI B) (hB7 : B ≤ 7) (hP : M.1 10 = nI P) (hP7 : P ≤ 7) : Mm G 12 y_M_worthOf [.ref o, .int i] w o n ((woX M P B i X).1, mX M (woX M P B i X).2) := by
  obtain ⟨m0, mA', mL', m4, m20, m28, mn'⟩ := id h
  refine Mm.of k_M_worthOf l_M_worthOf rfl rfl ?_
  unfold woX
  have hs1 := c_M_bestBy (G := G) (only := allW P) h hB hB7 hP hP7
  have hs2 := fun X w h => c_M_bestBy (G := G) (only := lsM P i) (M := M) (X := X) (w := w) (o := o) (n := n) h hB hB7 hP hP7
  generalize bbX M P B (allW P) X = R at *
  have hs2 := hs2 R
  generalize bbX M P B (lsM P i) R = R2 at *
  refine r_aload_n (i := 0) i_M_worthOf_0 rfl rfl ?_
  refine r_aload_n (i := 0) i_M_worthOf_1 rfl rfl ?_
  refine f_virtual o_M_worthOf k_M_all v_M_all x_M_298 i_M_worthOf_2 o_M_all (c_M_all h hP) rfl (rcv_ob (by repeat (first | assumption | exact upw_s | refine (upw_n (by omega)).trans ?_)) rfl (by first | assumption | omega)) rfl (by decide) (Nat.le_of_ble_eq_true rfl) ?_
  refine m_virtual o_M_worthOf k_M_bestBy v_M_bestBy x_M_301 i_M_worthOf_5 o_M_bestBy (hs1) rfl (rcv_ob (by repeat (first | assumption | exact upw_s | refine (upw_n (by omega)).trans ?_)) rfl (by first | assumption | omega)) rfl (by decide) (Nat.le_of_ble_eq_true rfl) (Nat.zero_le _) (Nat.zero_le _) (fun q1 w3 n1 hp9 => ?_)
  obtain ⟨rfl, ⟨hM3, hF3⟩, rfl⟩ := hp9
  obtain ⟨d0, dA', dL', d4, d20, d28, dn'⟩ := id hM3
  refine r_aload_n (i := 0) i_M_worthOf_8 rfl rfl ?_
  refine r_aload_n (i := 0) i_M_worthOf_9 rfl rfl ?_
  refine f_virtual o_M_worthOf k_M_all v_M_all x_M_298 i_M_worthOf_10 o_M_all (c_M_all hM3 hP) rfl (rcv_ob (by repeat (first | assumption | exact upw_s | refine (upw_n (by omega)).trans ?_)) rfl (by first | assumption | omega)) rfl (by decide) (Nat.le_of_ble_eq_true rfl) ?_
  refine r_iconst (v := (1 : Int32)) i_M_worthOf_13 rfl ?_
  refine r_iload_n (i := 1) i_M_worthOf_14 rfl rfl ?_
  refine r_ishl i_M_worthOf_15 ?_
  refine r_iconst (v := (-1 : Int32)) i_M_worthOf_16 rfl ?_
  refine r_ixor i_M_worthOf_17 ?_
  refine r_iand i_M_worthOf_18 ?_
  refine m_virtual o_M_worthOf k_M_bestBy v_M_bestBy x_M_301 i_M_worthOf_19 o_M_bestBy (hs2 _ hM3) rfl (rcv_ob (by repeat (first | assumption | exact upw_s | refine (upw_n (by omega)).trans ?_)) rfl (by first | assumption | omega)) rfl (by decide) (Nat.le_of_ble_eq_true rfl) (Nat.zero_le _) (Nat.zero_le _) (fun q2 w4 n2 hp8 => ?_)
  obtain ⟨rfl, ⟨hM4, hF4⟩, rfl⟩ := hp8
  refine r_isub i_M_worthOf_22 ?_
  refine r_ireturn i_M_worthOf_23 t_M_worthOf rfl ?_
  exact ⟨rfl, ⟨hM4, hF3.tr hF4⟩, rfl⟩
def m2_worth (M : aM) (P B : Nat) (i : Int32) : Int32 × aM := if lt0 i (M.1 10) = true then ((woX M P B i (xT M)).1, mX M (woX M P B i (xT M)).2) else (-2, mR M 2)
theorem c_M_worth {B P : Nat} {i : Int32} (h : MW w o M n) (hB : M.1 13 = nI B) (hB7 : B ≤ 7) (hP : M.1 10 = nI P) (hP7 : P ≤ 7) : Mm G 13 y_M_worth [.ref o, .int i] w o n (m2_worth M P B i) := by
  obtain ⟨m0, mA', mL', m4, m20, m28, mn'⟩ := id h
  refine Mm.of k_M_worth l_M_worth rfl rfl ?_
  unfold m2_worth
  rw [hP]
  have hs := c_M_worthOf (G := G) (i := i) (M := M) (X := xT M) (by rw [mX_xT]; exact h) hB hB7 hP hP7
  generalize woX M P B i (xT M) = R at *
  refine r_aload_n (i := 0) i_M_worth_0 rfl rfl ?_
  refine r_iload_n (i := 1) i_M_worth_1 rfl rfl ?_
  refine r_i2l i_M_worth_2 ?_
  refine f_virtual o_M_worth k_M_isOne v_M_isOne x_M_112 i_M_worth_3 o_M_isOne (c_M_isOne h) rfl (rcv_ob (by repeat (first | assumption | exact upw_s | refine (upw_n (by omega)).trans ?_)) rfl (by first | assumption | omega)) rfl (by decide) (Nat.le_of_ble_eq_true rfl) ?_
  rw [hP, in_lt (by omega)]
  refine r_if_eq 17 i_M_worth_6 (by decide) (fun h6 => ?_) (fun h6 => ?_)
  · skip
    have h6 := bI_eq0.mp h6
    try rw [h6]
    refine r_aload_n (i := 0) i_M_worth_17 rfl rfl ?_
    refine r_bipush (v := (-2 : Int32)) i_M_worth_18 (by decide) ?_
    refine m_virtual o_M_worth k_M_refuse v_M_refuse x_M_89 i_M_worth_20 o_M_refuse (c_M_refuse (i := 2) h (by decide)) rfl (rcv_ob (by repeat (first | assumption | exact upw_s | refine (upw_n (by omega)).trans ?_)) rfl (by first | assumption | omega)) rfl (by decide) (Nat.le_of_ble_eq_true rfl) (Nat.zero_le _) (Nat.zero_le _) (fun rr20 wr20 nr20 hp9 => ?_)
    obtain ⟨rfl, hp9, rfl⟩ := hp9
    refine r_ireturn i_M_worth_23 t_M_worth rfl ?_
    first | exact ⟨rfl, hp9, rfl⟩ | exact ⟨rfl, ⟨h, fun _ _ => rfl⟩, rfl⟩
  · skip
    have h6 := bI_ne0.mp h6
    try rw [h6]
    refine r_aload_n (i := 0) i_M_worth_9 rfl rfl ?_
    refine r_iload_n (i := 1) i_M_worth_10 rfl rfl ?_
    refine m_virtual o_M_worth k_M_worthOf v_M_worthOf x_M_304 i_M_worth_11 o_M_worthOf (hs) rfl (rcv_ob (by repeat (first | assumption | exact upw_s | refine (upw_n (by omega)).trans ?_)) rfl (by first | assumption | omega)) rfl (by decide) (Nat.le_of_ble_eq_true rfl) (Nat.zero_le _) (Nat.zero_le _) (fun q1 w3 n1 hp9 => ?_)
    obtain ⟨rfl, hp9, rfl⟩ := hp9
    refine r_goto 23 i_M_worth_14 (by decide) ?_
    refine r_ireturn i_M_worth_23 t_M_worth rfl ?_
    first | exact ⟨rfl, hp9, rfl⟩ | exact ⟨rfl, ⟨h, fun _ _ => rfl⟩, rfl⟩
/-- the dearest: (who, by how much), the search's state -/
def drX (M : aM) (P B : Nat) (X : aT) : Nat → (Int32 × Int32) × aT
  | 0 => ((-1, 0), X)
  | t + 1 => (if (drX M P B X t).1.1 = -1 ∨ (drX M P B X t).1.2 < (woX M P B (nI t) (drX M P B X t).2).1 then (nI t, (woX M P B (nI t) (drX M P B X t).2).1) else (drX M P B X t).1, (woX M P B (nI t) (drX M P B X t).2).2)
def frM (M : aM) (v : Int32) : Int32 × aM := if v = -1 then (-5, mR M 5) else (v, M)
theorem c_M_dearest {B P : Nat} (h : MW w o M n) (hB : M.1 13 = nI B) (hB7 : B ≤ 7) (hP : M.1 10 = nI P) (hP7 : P ≤ 7) : Mm G 13 y_M_dearest [.ref o] w o n (frM (mX M (drX M P B (xT M) P).2) (drX M P B (xT M) P).1.1) := by
  refine Mm.of k_M_dearest l_M_dearest rfl rfl ?_
  have hloop : ∀ R : (Int32 × Int32) × aT, drX M P B (xT M) P = R → ∀ m t, t + m = P → ∀ w1 z, MW w1 o (mX M (drX M P B (xT M) t).2) n → mFr w w1 o → Go G 13 y_M_dearest 6 [some (.ref o), some (.int (drX M P B (xT M) t).1.1), some (.int (drX M P B (xT M) t).1.2), some (.int (nI t)), z] [] w1 n 0 0 (fun r w' n' => r = some (.int (frM (mX M R.2) R.1.1).1) ∧ (MW w' o (frM (mX M R.2) R.1.1).2 n ∧ mFr w w' o) ∧ n' = n) := by
    intro R hR m
    induction m with
    | zero =>
      intro t ht w1 z h1 hF
      have ht : t = P := by omega
      subst ht
      rw [hR] at h1 ⊢
      have hP1 : (mX M R.2).1 10 = nI t := hP
      unfold frM
      generalize mX M R.2 = N at *
      obtain ⟨m0, mA', mL', m4, m20, m28, mn'⟩ := id h1
      refine r_iload_n (i := 3) i_M_dearest_6 rfl rfl ?_
      refine r_aload_n (i := 0) i_M_dearest_7 rfl rfl ?_
      refine r_getf (ci := 6) (T := Fk6) (k := 10) o_M_dearest i_M_dearest_8 x_M_73 rfl (by decide) rfl (by repeat (first | assumption | exact upw_s | refine (upw_n (by omega)).trans ?_)) (by first | assumption | omega) (by rfl) ?_
      rw [hP1]
      refine r_icmp_ge 43 i_M_dearest_11 (by decide) (fun h11 => ?_) (fun h11 => (absurd (nI_le (Nat.le_refl _) (by omega)) h11))
      refine r_iload_n (i := 1) i_M_dearest_43 rfl rfl ?_
      refine r_iconst (v := (-1 : Int32)) i_M_dearest_44 rfl ?_
      refine r_icmp_ne 57 i_M_dearest_45 (by decide) (fun h45 => ?_) (fun h45 => ?_)
      · skip
        rw [if_neg h45]
        refine r_iload_n (i := 1) i_M_dearest_57 rfl rfl ?_
        refine r_ireturn i_M_dearest_58 t_M_dearest rfl ?_
        first | exact ⟨rfl, ⟨hp9.1, hF.tr hp9.2⟩, rfl⟩ | exact ⟨rfl, ⟨h1, hF⟩, rfl⟩
      · skip
        rw [if_pos h45]
        refine r_aload_n (i := 0) i_M_dearest_48 rfl rfl ?_
        refine r_bipush (v := (-5 : Int32)) i_M_dearest_49 (by decide) ?_
        refine m_virtual o_M_dearest k_M_refuse v_M_refuse x_M_89 i_M_dearest_51 o_M_refuse (c_M_refuse (i := 5) h1 (by decide)) rfl (rcv_ob (by repeat (first | assumption | exact upw_s | refine (upw_n (by omega)).trans ?_)) rfl (by first | assumption | omega)) rfl (by decide) (Nat.le_of_ble_eq_true rfl) (Nat.zero_le _) (Nat.zero_le _) (fun rr51 wr51 nr51 hp9 => ?_)
        obtain ⟨rfl, hp9, rfl⟩ := hp9
        refine r_goto 58 i_M_dearest_54 (by decide) ?_
        refine r_ireturn i_M_dearest_58 t_M_dearest rfl ?_
        first | exact ⟨rfl, ⟨hp9.1, hF.tr hp9.2⟩, rfl⟩ | exact ⟨rfl, ⟨h1, hF⟩, rfl⟩
    | succ m ih =>
      intro t ht w1 z h1 hF
      have ih' := ih (t + 1) (by omega)
      have e7 : drX M P B (xT M) (t + 1) = (if (drX M P B (xT M) t).1.1 = -1 ∨ (drX M P B (xT M) t).1.2 < (woX M P B (nI t) (drX M P B (xT M) t).2).1 then (nI t, (woX M P B (nI t) (drX M P B (xT M) t).2).1) else (drX M P B (xT M) t).1, (woX M P B (nI t) (drX M P B (xT M) t).2).2) := rfl
      rw [e7] at ih'
      generalize drX M P B (xT M) t = D at *
      have hs := c_M_worthOf (G := G) (i := nI t) h1 hB hB7 hP hP7
      generalize woX M P B (nI t) D.2 = V at *
      have hP1 : (mX M D.2).1 10 = nI P := hP
      obtain ⟨m0, mA', mL', m4, m20, m28, mn'⟩ := id h1
      refine r_iload_n (i := 3) i_M_dearest_6 rfl rfl ?_
      refine r_aload_n (i := 0) i_M_dearest_7 rfl rfl ?_
      refine r_getf (ci := 6) (T := Fk6) (k := 10) o_M_dearest i_M_dearest_8 x_M_73 rfl (by decide) rfl (by repeat (first | assumption | exact upw_s | refine (upw_n (by omega)).trans ?_)) (by first | assumption | omega) (by rfl) ?_
      rw [hP1]
      refine r_icmp_ge 43 i_M_dearest_11 (by decide) (fun h11 => (absurd h11 (nI_ge (by omega) (by omega)))) (fun h11 => ?_)
      refine r_aload_n (i := 0) i_M_dearest_14 rfl rfl ?_
      refine r_iload_n (i := 3) i_M_dearest_15 rfl rfl ?_
      refine m_virtual o_M_dearest k_M_worthOf v_M_worthOf x_M_304 i_M_dearest_16 o_M_worthOf (hs) rfl (rcv_ob (by repeat (first | assumption | exact upw_s | refine (upw_n (by omega)).trans ?_)) rfl (by first | assumption | omega)) rfl (by decide) (Nat.le_of_ble_eq_true rfl) (Nat.zero_le _) (Nat.zero_le _) (fun q1 w3 n1 hp9 => ?_)
      obtain ⟨rfl, ⟨hM3, hF3⟩, rfl⟩ := hp9
      refine r_istore_4 i_M_dearest_19 (by rw [l_M_dearest]; decide) rfl ?_
      refine r_iload_n (i := 1) i_M_dearest_21 rfl rfl ?_
      refine r_iconst (v := (-1 : Int32)) i_M_dearest_22 rfl ?_
      refine r_icmp_eq 32 i_M_dearest_23 (by decide) (fun h23 => ?_) (fun h23 => ?_)
      · skip
        rw [if_pos (Or.inl h23)] at ih'
        refine r_iload_n (i := 3) i_M_dearest_32 rfl rfl ?_
        refine r_istore_1 i_M_dearest_33 (by rw [l_M_dearest]; decide) rfl ?_
        refine r_iload (i := 4) i_M_dearest_34 rfl ?_
        refine r_istore_2 i_M_dearest_36 (by rw [l_M_dearest]; decide) rfl ?_
        refine r_iinc_3 (v := (1 : Int32)) i_M_dearest_37 rfl (by rw [l_M_dearest]; decide) rfl ?_
        refine r_goto 6 i_M_dearest_40 (by decide) ?_
        rw [nI_1]
        exact ih' _ _ hM3 (hF.tr hF3)
      · skip
        refine r_iload (i := 4) i_M_dearest_26 rfl ?_
        refine r_iload_n (i := 2) i_M_dearest_28 rfl rfl ?_
        refine r_icmp_le 37 i_M_dearest_29 (by decide) (fun h29 => ?_) (fun h29 => ?_)
        · skip
          rw [if_neg (fun q => q.elim h23 (fun z => absurd z (Int32.not_lt.mpr h29)))] at ih'
          refine r_iinc_3 (v := (1 : Int32)) i_M_dearest_37 rfl (by rw [l_M_dearest]; decide) rfl ?_
          refine r_goto 6 i_M_dearest_40 (by decide) ?_
          rw [nI_1]
          exact ih' _ _ hM3 (hF.tr hF3)
        · skip
          rw [if_pos (Or.inr (Int32.not_le.mp h29))] at ih'
          refine r_iload_n (i := 3) i_M_dearest_32 rfl rfl ?_
          refine r_istore_1 i_M_dearest_33 (by rw [l_M_dearest]; decide) rfl ?_
          refine r_iload (i := 4) i_M_dearest_34 rfl ?_
          refine r_istore_2 i_M_dearest_36 (by rw [l_M_dearest]; decide) rfl ?_
          refine r_iinc_3 (v := (1 : Int32)) i_M_dearest_37 rfl (by rw [l_M_dearest]; decide) rfl ?_
          refine r_goto 6 i_M_dearest_40 (by decide) ?_
          rw [nI_1]
          exact ih' _ _ hM3 (hF.tr hF3)
  refine r_iconst (v := (-1 : Int32)) i_M_dearest_0 rfl ?_
  refine r_istore_1 i_M_dearest_1 (by rw [l_M_dearest]; decide) rfl ?_
  refine r_iconst (v := (0 : Int32)) i_M_dearest_2 rfl ?_
  refine r_istore_2 i_M_dearest_3 (by rw [l_M_dearest]; decide) rfl ?_
  refine r_iconst (v := (0 : Int32)) i_M_dearest_4 rfl ?_
  refine r_istore_3 i_M_dearest_5 (by rw [l_M_dearest]; decide) rfl ?_
  refine hloop _ rfl P 0 (by omega) w none ?_ mFr.rf
  rw [show (drX M P B (xT M) 0).2 = xT M from rfl, mX_xT]
  exact h
end MBEST
