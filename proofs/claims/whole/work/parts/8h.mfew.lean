-- THE REFERENCE: fewest, other laws, hiding
def fwX (M : aM) (P B : Nat) (v : Int32) : Nat → Int32 → aT → Int32 × aT
  | 0, best, X => (best, X)
  | k + 1, best, X => if bitF best 8 < bitF (nI k) 8 then fwX M P B v k best X else if (bbX M P B (nI k) X).1 = v then fwX M P B v k (nI k) (bbX M P B (nI k) X) else fwX M P B v k best (bbX M P B (nI k) X)
def lsA (M : aM) (l : Int32) : aM := mA M 36 (upd (M.2.1 36) 0 l)
def blX (M : aM) (P B : Nat) : Nat → Int32 × aT
  | 0 => (1, xT M)
  | k + 1 => (if (bbX (lsA M (blX M P B k).1) P B (allW P) (bbX (lsA M (nI (k + 2))) P B (allW P) (blX M P B k).2)).1 < (bbX (lsA M (nI (k + 2))) P B (allW P) (blX M P B k).2).1 then nI (k + 2) else (blX M P B k).1, bbX (lsA M (blX M P B k).1) P B (allW P) (bbX (lsA M (nI (k + 2))) P B (allW P) (blX M P B k).2))
theorem upd_back {f : Nat → Int32} {k : Nat} {x : Int32} : upd (upd f k x) k (f k) = f := by
  funext j
  unfold upd
  by_cases e : j = k
  · rw [if_pos e, e]
  · rw [if_neg e, if_neg e]
theorem mA_X {M : aM} {j : Nat} {f : Nat → Int32} {X : aT} (hj : j < 39) : mA (mX M X) j f = mX (mA M j f) X := by
  refine Prod.ext rfl (Prod.ext (funext fun i => ?_) rfl)
  show (if i = j then f else if i = 40 then X.2.2 else if i = 39 then X.2.1 else M.2.1 i) = if i = 40 then X.2.2 else if i = 39 then X.2.1 else if i = j then f else M.2.1 i
  by_cases e : i = j
  · rw [if_pos e, if_neg (by omega), if_neg (by omega), if_pos e]
  · rw [if_neg e, if_neg e]
theorem fw_sub {k : Nat} : nI (k + 1) - 1 = nI k := by
  rw [← nI_1]
  exact Int32.add_sub_cancel _ _
section MFEW
variable {G : gE} {w : aW} {o n : Nat} {M : aM}
def m2_fewest (M : aM) (P B : Nat) : Int32 × aM := ((fwX M P B (bbM M P B (allW P)).1 (2 ^ P) (allW P) (bbM M P B (allW P))).1, mX M (fwX M P B (bbM M P B (allW P)).1 (2 ^ P) (allW P) (bbM M P B (allW P))).2)
theorem c_M_fewest {B P : Nat} (h : MW w o M n) (hB : M.1 13 = nI B) (hB7 : B ≤ 7) (hP : M.1 10 = nI P) (hP7 : P ≤ 7) : Mm G 13 y_M_fewest [.ref o] w o n (m2_fewest M P B) := by
  refine Mm.of k_M_fewest l_M_fewest rfl rfl ?_
  unfold m2_fewest
  have hp7 := pow7 hP7
  have hloop : ∀ (v : Int32) (R : Int32 × aT), ∀ k, k ≤ 128 → ∀ (best : Int32) (X : aT), fwX M P B v k best X = R → ∀ w1, MW w1 o (mX M X) n → mFr w w1 o → Go G 13 y_M_fewest 19 [some (.ref o), some (.int v), some (.int best), some (.int (nI k - 1))] [] w1 n 0 0 (fun r w' n' => r = some (.int R.1) ∧ (MW w' o (mX M R.2) n ∧ mFr w w' o) ∧ n' = n) := by
    intro v R k
    induction k with
    | zero =>
      intro hk best X hR w1 h1 hF
      have hR : (best, X) = R := hR
      subst hR
      refine r_iload_n (i := 3) i_M_fewest_19 rfl rfl ?_
      refine r_if_lt 51 i_M_fewest_20 (by decide) (fun h20 => ?_) (fun h20 => (absurd (show nI 0 - 1 < 0 by decide) h20))
      refine r_iload_n (i := 2) i_M_fewest_51 rfl rfl ?_
      refine r_ireturn i_M_fewest_52 t_M_fewest rfl ?_
      exact ⟨rfl, ⟨h1, hF⟩, rfl⟩
    | succ k ih =>
      intro hk best X hR w1 h1 hF
      have e7 : fwX M P B v (k + 1) best X = if bitF best 8 < bitF (nI k) 8 then fwX M P B v k best X else if (bbX M P B (nI k) X).1 = v then fwX M P B v k (nI k) (bbX M P B (nI k) X) else fwX M P B v k best (bbX M P B (nI k) X) := rfl
      rw [e7] at hR
      have hs := c_M_bestBy (G := G) (only := nI k) h1 hB hB7 hP hP7
      generalize bbX M P B (nI k) X = Y at *
      have ih' := fun best X => ih (by omega) best X
      have em : ∀ best (X : aT) w1, fwX M P B v k best X = R → MW w1 o (mX M X) n → mFr w w1 o → Go G 13 y_M_fewest 45 [some (.ref o), some (.int v), some (.int best), some (.int (nI k))] [] w1 n 0 0 (fun r w' n' => r = some (.int R.1) ∧ (MW w' o (mX M R.2) n ∧ mFr w w' o) ∧ n' = n) := by
        intro best X w1 hR h1 hF
        refine r_iinc_3 (v := (-1 : Int32)) i_M_fewest_45 rfl (by rw [l_M_fewest]; decide) rfl ?_
        refine r_goto 19 i_M_fewest_48 (by decide) ?_
        rw [← Int32.sub_eq_add_neg]
        exact ih' best X hR w1 h1 hF
      obtain ⟨m0, mA', mL', m4, m20, m28, mn'⟩ := id h1
      rw [fw_sub]
      refine r_iload_n (i := 3) i_M_fewest_19 rfl rfl ?_
      refine r_if_lt 51 i_M_fewest_20 (by decide) (fun h20 => (absurd h20 (nI_pos (by omega)))) (fun h20 => ?_)
      refine r_iload_n (i := 3) i_M_fewest_23 rfl rfl ?_
      refine f_static o_M_fewest k_M_bits s_M_bits x_M_307 i_M_fewest_24 (c_M_bits) rfl rfl (by decide) (Nat.le_of_ble_eq_true rfl) ?_
      refine r_iload_n (i := 2) i_M_fewest_27 rfl rfl ?_
      refine f_static o_M_fewest k_M_bits s_M_bits x_M_307 i_M_fewest_28 (c_M_bits) rfl rfl (by decide) (Nat.le_of_ble_eq_true rfl) ?_
      refine r_icmp_gt 45 i_M_fewest_31 (by decide) (fun h31 => ?_) (fun h31 => ?_)
      · skip
        rw [if_pos h31] at hR
        first | exact em _ _ _ hR h1 hF | exact em _ _ _ hR hM3 (hF.tr hF3)
      · skip
        rw [if_neg h31] at hR
        refine r_aload_n (i := 0) i_M_fewest_34 rfl rfl ?_
        refine r_iload_n (i := 3) i_M_fewest_35 rfl rfl ?_
        refine m_virtual o_M_fewest k_M_bestBy v_M_bestBy x_M_301 i_M_fewest_36 o_M_bestBy (hs) rfl (rcv_ob (by repeat (first | assumption | exact upw_s | refine (upw_n (by omega)).trans ?_)) rfl (by first | assumption | omega)) rfl (by decide) (Nat.le_of_ble_eq_true rfl) (Nat.zero_le _) (Nat.zero_le _) (fun q1 w3 n1 hp9 => ?_)
        obtain ⟨rfl, ⟨hM3, hF3⟩, rfl⟩ := hp9
        refine r_iload_n (i := 1) i_M_fewest_39 rfl rfl ?_
        refine r_icmp_ne 45 i_M_fewest_40 (by decide) (fun h40 => ?_) (fun h40 => ?_)
        · skip
          rw [if_neg h40] at hR
          first | exact em _ _ _ hR h1 hF | exact em _ _ _ hR hM3 (hF.tr hF3)
        · skip
          rw [if_pos h40] at hR
          refine r_iload_n (i := 3) i_M_fewest_43 rfl rfl ?_
          refine r_istore_2 i_M_fewest_44 (by rw [l_M_fewest]; decide) rfl ?_
          first | exact em _ _ _ hR h1 hF | exact em _ _ _ hR hM3 (hF.tr hF3)
  obtain ⟨m0, mA', mL', m4, m20, m28, mn'⟩ := id h
  have hs := c_M_bestBy0 (G := G) (only := allW P) h hB hB7 hP hP7
  generalize bbM M P B (allW P) = R at *
  refine r_aload_n (i := 0) i_M_fewest_0 rfl rfl ?_
  refine r_aload_n (i := 0) i_M_fewest_1 rfl rfl ?_
  refine f_virtual o_M_fewest k_M_all v_M_all x_M_298 i_M_fewest_2 o_M_all (c_M_all h hP) rfl (rcv_ob (by repeat (first | assumption | exact upw_s | refine (upw_n (by omega)).trans ?_)) rfl (by first | assumption | omega)) rfl (by decide) (Nat.le_of_ble_eq_true rfl) ?_
  refine m_virtual o_M_fewest k_M_bestBy v_M_bestBy x_M_301 i_M_fewest_5 o_M_bestBy (hs) rfl (rcv_ob (by repeat (first | assumption | exact upw_s | refine (upw_n (by omega)).trans ?_)) rfl (by first | assumption | omega)) rfl (by decide) (Nat.le_of_ble_eq_true rfl) (Nat.zero_le _) (Nat.zero_le _) (fun q1 w3 n1 hp9 => ?_)
  obtain ⟨rfl, ⟨hM3, hF3⟩, rfl⟩ := hp9
  obtain ⟨d0, dA', dL', d4, d20, d28, dn'⟩ := id hM3
  refine r_istore_1 i_M_fewest_8 (by rw [l_M_fewest]; decide) rfl ?_
  refine r_aload_n (i := 0) i_M_fewest_9 rfl rfl ?_
  refine f_virtual o_M_fewest k_M_all v_M_all x_M_298 i_M_fewest_10 o_M_all (c_M_all hM3 hP) rfl (rcv_ob (by repeat (first | assumption | exact upw_s | refine (upw_n (by omega)).trans ?_)) rfl (by first | assumption | omega)) rfl (by decide) (Nat.le_of_ble_eq_true rfl) ?_
  refine r_istore_2 i_M_fewest_13 (by rw [l_M_fewest]; decide) rfl ?_
  refine r_aload_n (i := 0) i_M_fewest_14 rfl rfl ?_
  refine f_virtual o_M_fewest k_M_all v_M_all x_M_298 i_M_fewest_15 o_M_all (c_M_all hM3 hP) rfl (rcv_ob (by repeat (first | assumption | exact upw_s | refine (upw_n (by omega)).trans ?_)) rfl (by first | assumption | omega)) rfl (by decide) (Nat.le_of_ble_eq_true rfl) ?_
  refine r_istore_3 i_M_fewest_18 (by rw [l_M_fewest]; decide) rfl ?_
  have h9 := hloop R.1 _ (2 ^ P) (by omega) (allW P) R rfl w3 hM3 hF3
  rw [show nI (2 ^ P) - 1 = allW P from by unfold allW; rw [b1_pow P hP7]] at h9
  exact h9
theorem c_M_underOf {B P : Nat} {l : Int32} {X : aT} (h : MW w o (mX M X) n) (hB : M.1 13 = nI B) (hB7 : B ≤ 7) (hP : M.1 10 = nI P) (hP7 : P ≤ 7) : Mm G 12 y_M_underOf [.ref o, .int l] w o n ((bbX (lsA M l) P B (allW P) X).1, mX M (bbX (lsA M l) P B (allW P) X)) := by
  obtain ⟨m0, mA', mL', m4, m20, m28, mn'⟩ := id h
  have a36 : w (o + 36) = ai 4 (M.2.1 36) := mA' 36 rfl
  obtain ⟨i0, i1, i2, i3⟩ := v4
  refine Mm.of k_M_underOf l_M_underOf rfl rfl ?_
  have h2 := h.arr (j := 36) (f := upd (M.2.1 36) 0 l) rfl
  rw [mA_X (by omega)] at h2
  have hs := c_M_bestBy (G := G) (only := allW P) (M := lsA M l) h2 hB hB7 hP hP7
  have hal := c_M_all (G := G) h2 hP
  generalize bbX (lsA M l) P B (allW P) X = R at *
  refine r_aload_n (i := 0) i_M_underOf_0 rfl rfl ?_
  refine r_getf (ci := 6) (T := Fk6) (k := 16) o_M_underOf i_M_underOf_1 x_M_54 rfl (by decide) rfl (by repeat (first | assumption | exact upw_s | refine (upw_n (by omega)).trans ?_)) (by first | assumption | omega) (by rfl) ?_
  refine r_iconst (v := (0 : Int32)) i_M_underOf_4 rfl ?_
  refine r_iald i_M_underOf_5 (by repeat (first | assumption | exact upw_s | refine (upw_n (by omega)).trans ?_)) (by first | assumption | omega) (by assumption) ?_
  refine r_istore_2 i_M_underOf_6 (by rw [l_M_underOf]; decide) rfl ?_
  refine r_aload_n (i := 0) i_M_underOf_7 rfl rfl ?_
  refine r_getf (ci := 6) (T := Fk6) (k := 16) o_M_underOf i_M_underOf_8 x_M_54 rfl (by decide) rfl (by repeat (first | assumption | exact upw_s | refine (upw_n (by omega)).trans ?_)) (by first | assumption | omega) (by rfl) ?_
  refine r_iconst (v := (0 : Int32)) i_M_underOf_11 rfl ?_
  refine r_iload_n (i := 1) i_M_underOf_12 rfl rfl ?_
  refine r_iast i_M_underOf_13 (by repeat (first | assumption | exact upw_s | refine (upw_n (by omega)).trans ?_)) (by first | assumption | omega) (by assumption) ?_
  refine r_aload_n (i := 0) i_M_underOf_14 rfl rfl ?_
  refine r_aload_n (i := 0) i_M_underOf_15 rfl rfl ?_
  refine f_virtual o_M_underOf k_M_all v_M_all x_M_298 i_M_underOf_16 o_M_all (hal) rfl (rcv_ob (by repeat (first | assumption | exact upw_s | refine (upw_n (by omega)).trans ?_)) rfl (by first | assumption | omega)) rfl (by decide) (Nat.le_of_ble_eq_true rfl) ?_
  refine m_virtual o_M_underOf k_M_bestBy v_M_bestBy x_M_301 i_M_underOf_19 o_M_bestBy (hs) rfl (rcv_ob (by repeat (first | assumption | exact upw_s | refine (upw_n (by omega)).trans ?_)) rfl (by first | assumption | omega)) rfl (by decide) (Nat.le_of_ble_eq_true rfl) (Nat.zero_le _) (Nat.zero_le _) (fun q1 w3 n1 hp9 => ?_)
  obtain ⟨rfl, ⟨hM3, hF3⟩, rfl⟩ := hp9
  have h4 := hM3.arr (j := 36) (f := upd (upd (M.2.1 36) 0 l) 0 (M.2.1 36 0)) rfl
  rw [mA_X (by omega)] at h4
  unfold lsA at h4
  rw [mA_A, upd_back, mA_self rfl] at h4
  have b36 : w3 (o + 36) = ai 4 (upd (M.2.1 36) 0 l) := hM3.2.1 36 rfl
  have d0 := hM3.1
  refine r_istore_3 i_M_underOf_22 (by rw [l_M_underOf]; decide) rfl ?_
  refine r_aload_n (i := 0) i_M_underOf_23 rfl rfl ?_
  refine r_getf (ci := 6) (T := Fk6) (k := 16) o_M_underOf i_M_underOf_24 x_M_54 rfl (by decide) rfl (by repeat (first | assumption | exact upw_s | refine (upw_n (by omega)).trans ?_)) (by first | assumption | omega) (by rfl) ?_
  refine r_iconst (v := (0 : Int32)) i_M_underOf_27 rfl ?_
  refine r_iload_n (i := 2) i_M_underOf_28 rfl rfl ?_
  refine r_iast i_M_underOf_29 (by repeat (first | assumption | exact upw_s | refine (upw_n (by omega)).trans ?_)) (by first | assumption | omega) (by assumption) ?_
  refine r_iload_n (i := 3) i_M_underOf_30 rfl rfl ?_
  refine r_ireturn i_M_underOf_31 t_M_underOf rfl ?_
  refine ⟨rfl, ⟨?_, ((mFr.rf.up (by omega) (by omega)).tr hF3).up (by omega) (by omega)⟩, rfl⟩
  have e9 : upd (upd (M.2.1 36) 0 l) 0 (M.2.1 36 0) = M.2.1 36 := upd_back
  rw [← e9] at h4
  exact h4
def m2_under (M : aM) (P B : Nat) (l : Int32) : Int32 × aM := if wi0 l 1 99 = true then ((bbX (lsA M l) P B (allW P) (xT M)).1, mX M (bbX (lsA M l) P B (allW P) (xT M))) else (-2, mR M 2)
theorem c_M_under {B P : Nat} {l : Int32} (h : MW w o M n) (hB : M.1 13 = nI B) (hB7 : B ≤ 7) (hP : M.1 10 = nI P) (hP7 : P ≤ 7) : Mm G 13 y_M_under [.ref o, .int l] w o n (m2_under M P B l) := by
  obtain ⟨m0, mA', mL', m4, m20, m28, mn'⟩ := id h
  refine Mm.of k_M_under l_M_under rfl rfl ?_
  unfold m2_under
  have hs := c_M_underOf (G := G) (l := l) (M := M) (X := xT M) (by rw [mX_xT]; exact h) hB hB7 hP hP7
  generalize bbX (lsA M l) P B (allW P) (xT M) = R at *
  refine r_iload_n (i := 1) i_M_under_0 rfl rfl ?_
  refine r_i2l i_M_under_1 ?_
  refine r_lconst (v := (1 : Int64)) i_M_under_2 rfl ?_
  refine r_ldc2 o_M_under i_M_under_3 x_M_102 ?_
  refine f_static o_M_under k_M_in s_M_in x_M_76 i_M_under_6 (c_M_in) rfl rfl (by decide) (Nat.le_of_ble_eq_true rfl) ?_
  rw [in_199]
  refine r_if_eq 20 i_M_under_9 (by decide) (fun h9 => ?_) (fun h9 => ?_)
  · skip
    have h9 := bI_eq0.mp h9
    try rw [h9]
    refine r_aload_n (i := 0) i_M_under_20 rfl rfl ?_
    refine r_bipush (v := (-2 : Int32)) i_M_under_21 (by decide) ?_
    refine m_virtual o_M_under k_M_refuse v_M_refuse x_M_89 i_M_under_23 o_M_refuse (c_M_refuse (i := 2) h (by decide)) rfl (rcv_ob (by repeat (first | assumption | exact upw_s | refine (upw_n (by omega)).trans ?_)) rfl (by first | assumption | omega)) rfl (by decide) (Nat.le_of_ble_eq_true rfl) (Nat.zero_le _) (Nat.zero_le _) (fun rr23 wr23 nr23 hp9 => ?_)
    obtain ⟨rfl, hp9, rfl⟩ := hp9
    refine r_ireturn i_M_under_26 t_M_under rfl ?_
    first | exact ⟨rfl, hp9, rfl⟩ | exact ⟨rfl, ⟨h, fun _ _ => rfl⟩, rfl⟩
  · skip
    have h9 := bI_ne0.mp h9
    try rw [h9]
    refine r_aload_n (i := 0) i_M_under_12 rfl rfl ?_
    refine r_iload_n (i := 1) i_M_under_13 rfl rfl ?_
    refine m_virtual o_M_under k_M_underOf v_M_underOf x_M_332 i_M_under_14 o_M_underOf (hs) rfl (rcv_ob (by repeat (first | assumption | exact upw_s | refine (upw_n (by omega)).trans ?_)) rfl (by first | assumption | omega)) rfl (by decide) (Nat.le_of_ble_eq_true rfl) (Nat.zero_le _) (Nat.zero_le _) (fun q1 w3 n1 hp9 => ?_)
    obtain ⟨rfl, hp9, rfl⟩ := hp9
    refine r_goto 26 i_M_under_17 (by decide) ?_
    refine r_ireturn i_M_under_26 t_M_under rfl ?_
    first | exact ⟨rfl, hp9, rfl⟩ | exact ⟨rfl, ⟨h, fun _ _ => rfl⟩, rfl⟩
theorem c_M_bestLaw {B P : Nat} (h : MW w o M n) (hB : M.1 13 = nI B) (hB7 : B ≤ 7) (hP : M.1 10 = nI P) (hP7 : P ≤ 7) : Mm G 13 y_M_bestLaw [.ref o] w o n ((blX M P B 19).1, mX M (blX M P B 19).2) := by
  refine Mm.of k_M_bestLaw l_M_bestLaw rfl rfl ?_
  have hloop : ∀ R : Int32 × aT, blX M P B 19 = R → ∀ m k, k + m = 19 → ∀ w1, MW w1 o (mX M (blX M P B k).2) n → mFr w w1 o → Go G 13 y_M_bestLaw 4 [some (.ref o), some (.int (blX M P B k).1), some (.int (nI (k + 2)))] [] w1 n 0 0 (fun r w' n' => r = some (.int R.1) ∧ (MW w' o (mX M R.2) n ∧ mFr w w' o) ∧ n' = n) := by
    intro R hR m
    induction m with
    | zero =>
      intro k hk w1 h1 hF
      have hk : k = 19 := by omega
      subst hk
      rw [hR] at h1 ⊢
      refine r_iload_n (i := 2) i_M_bestLaw_4 rfl rfl ?_
      refine r_bipush (v := (20 : Int32)) i_M_bestLaw_5 (by decide) ?_
      refine r_icmp_gt 35 i_M_bestLaw_7 (by decide) (fun h7 => ?_) (fun h7 => (absurd (show (20 : Int32) < nI (19 + 2) by decide) h7))
      refine r_iload_n (i := 1) i_M_bestLaw_35 rfl rfl ?_
      refine r_ireturn i_M_bestLaw_36 t_M_bestLaw rfl ?_
      exact ⟨rfl, ⟨h1, hF⟩, rfl⟩
    | succ m ih =>
      intro k hk w1 h1 hF
      have ih' := ih (k + 1) (by omega)
      have e7 : blX M P B (k + 1) = (if (bbX (lsA M (blX M P B k).1) P B (allW P) (bbX (lsA M (nI (k + 2))) P B (allW P) (blX M P B k).2)).1 < (bbX (lsA M (nI (k + 2))) P B (allW P) (blX M P B k).2).1 then nI (k + 2) else (blX M P B k).1, bbX (lsA M (blX M P B k).1) P B (allW P) (bbX (lsA M (nI (k + 2))) P B (allW P) (blX M P B k).2)) := rfl
      rw [e7] at ih'
      generalize blX M P B k = D at *
      have hs1 := c_M_underOf (G := G) (l := nI (k + 2)) h1 hB hB7 hP hP7
      generalize bbX (lsA M (nI (k + 2))) P B (allW P) D.2 = Y at *
      have hs2 := fun w h => c_M_underOf (G := G) (w := w) (o := o) (n := n) (l := D.1) (M := M) (X := Y) h hB hB7 hP hP7
      generalize bbX (lsA M D.1) P B (allW P) Y = Z at *
      have hng : ¬ (20 : Int32) < nI (k + 2) := by
        rw [Int32.lt_iff_toInt_lt, toInt_nI (by omega), show (20 : Int32).toInt = 20 from rfl]
        omega
      obtain ⟨m0, mA', mL', m4, m20, m28, mn'⟩ := id h1
      refine r_iload_n (i := 2) i_M_bestLaw_4 rfl rfl ?_
      refine r_bipush (v := (20 : Int32)) i_M_bestLaw_5 (by decide) ?_
      refine r_icmp_gt 35 i_M_bestLaw_7 (by decide) (fun h7 => (absurd h7 hng)) (fun h7 => ?_)
      refine r_aload_n (i := 0) i_M_bestLaw_10 rfl rfl ?_
      refine r_iload_n (i := 2) i_M_bestLaw_11 rfl rfl ?_
      refine m_virtual o_M_bestLaw k_M_underOf v_M_underOf x_M_332 i_M_bestLaw_12 o_M_underOf (hs1) rfl (rcv_ob (by repeat (first | assumption | exact upw_s | refine (upw_n (by omega)).trans ?_)) rfl (by first | assumption | omega)) rfl (by decide) (Nat.le_of_ble_eq_true rfl) (Nat.zero_le _) (Nat.zero_le _) (fun q1 w3 n1 hp9 => ?_)
      obtain ⟨rfl, ⟨hM3, hF3⟩, rfl⟩ := hp9
      obtain ⟨d0, dA', dL', d4, d20, d28, dn'⟩ := id hM3
      refine r_aload_n (i := 0) i_M_bestLaw_15 rfl rfl ?_
      refine r_iload_n (i := 1) i_M_bestLaw_16 rfl rfl ?_
      refine m_virtual o_M_bestLaw k_M_underOf v_M_underOf x_M_332 i_M_bestLaw_17 o_M_underOf (hs2 _ hM3) rfl (rcv_ob (by repeat (first | assumption | exact upw_s | refine (upw_n (by omega)).trans ?_)) rfl (by first | assumption | omega)) rfl (by decide) (Nat.le_of_ble_eq_true rfl) (Nat.zero_le _) (Nat.zero_le _) (fun q2 w4 n2 hp8 => ?_)
      obtain ⟨rfl, ⟨hM4, hF4⟩, rfl⟩ := hp8
      refine r_icmp_le 27 i_M_bestLaw_20 (by decide) (fun h20 => ?_) (fun h20 => ?_)
      · skip
        rw [if_neg (Int32.not_lt.mpr h20)] at ih'
        refine r_iload_n (i := 1) i_M_bestLaw_27 rfl rfl ?_
        refine r_istore_1 i_M_bestLaw_28 (by rw [l_M_bestLaw]; decide) rfl ?_
        refine r_iinc_2 (v := (1 : Int32)) i_M_bestLaw_29 rfl (by rw [l_M_bestLaw]; decide) rfl ?_
        refine r_goto 4 i_M_bestLaw_32 (by decide) ?_
        rw [nI_1]
        exact ih' _ hM4 ((hF.tr hF3).tr hF4)
      · skip
        rw [if_pos (Int32.not_le.mp h20)] at ih'
        refine r_iload_n (i := 2) i_M_bestLaw_23 rfl rfl ?_
        refine r_goto 28 i_M_bestLaw_24 (by decide) ?_
        refine r_istore_1 i_M_bestLaw_28 (by rw [l_M_bestLaw]; decide) rfl ?_
        refine r_iinc_2 (v := (1 : Int32)) i_M_bestLaw_29 rfl (by rw [l_M_bestLaw]; decide) rfl ?_
        refine r_goto 4 i_M_bestLaw_32 (by decide) ?_
        rw [nI_1]
        exact ih' _ hM4 ((hF.tr hF3).tr hF4)
  refine r_iconst (v := (1 : Int32)) i_M_bestLaw_0 rfl ?_
  refine r_istore_1 i_M_bestLaw_1 (by rw [l_M_bestLaw]; decide) rfl ?_
  refine r_iconst (v := (2 : Int32)) i_M_bestLaw_2 rfl ?_
  refine r_istore_2 i_M_bestLaw_3 (by rw [l_M_bestLaw]; decide) rfl ?_
  refine hloop _ rfl 19 0 (by omega) w ?_ mFr.rf
  rw [show (blX M P B 0).2 = xT M from rfl, mX_xT]
  exact h
def hdA (M : aM) (b t : Nat) : aM := mA M (29 + b) (upd (M.2.1 (29 + b)) t (M.2.1 36 0))
def m2_hiding (M : aM) (P B : Nat) (b t : Int32) : Int32 × aM := if (lt0 b (M.1 13) && lt0 t (M.1 10)) = true then (if partyN (tM M) b.toNatClampNeg t = true then (-5, mR M 5) else ((bbX (hdA M b.toNatClampNeg t.toNatClampNeg) P B (allW P) (bbM M P B (allW P))).1 - (bbM M P B (allW P)).1, mX M (bbX (hdA M b.toNatClampNeg t.toNatClampNeg) P B (allW P) (bbM M P B (allW P))))) else (-2, mR M 2)
theorem c_M_hiding {B P : Nat} {b t : Int32} (h : MW w o M n) (hB : M.1 13 = nI B) (hB7 : B ≤ 7) (hP : M.1 10 = nI P) (hP7 : P ≤ 7) : Mm G 12 y_M_hiding [.ref o, .int b, .int t] w o n (m2_hiding M P B b t) := by
  obtain ⟨m0, mA', mL', m4, m20, m28, mn'⟩ := id h
  refine Mm.of k_M_hiding l_M_hiding rfl rfl ?_
  unfold m2_hiding
  rw [hB, hP]
  obtain ⟨i0, i1, i2, i3⟩ := v4
  refine r_aload_n (i := 0) i_M_hiding_0 rfl rfl ?_
  refine r_iload_n (i := 1) i_M_hiding_1 rfl rfl ?_
  refine f_virtual o_M_hiding k_M_isBargain v_M_isBargain x_M_116 i_M_hiding_2 o_M_isBargain (c_M_isBargain h) rfl (rcv_ob (by repeat (first | assumption | exact upw_s | refine (upw_n (by omega)).trans ?_)) rfl (by first | assumption | omega)) rfl (by decide) (Nat.le_of_ble_eq_true rfl) ?_
  rw [hB, in_lt (by omega)]
  refine r_if_eq 17 i_M_hiding_5 (by decide) (fun h5 => ?_) (fun h5 => ?_)
  · skip
    have h5 := bI_eq0.mp h5
    try rw [h5]
    refine r_aload_n (i := 0) i_M_hiding_17 rfl rfl ?_
    refine r_bipush (v := (-2 : Int32)) i_M_hiding_18 (by decide) ?_
    refine m_virtual o_M_hiding k_M_refuse v_M_refuse x_M_89 i_M_hiding_20 o_M_refuse (c_M_refuse (i := 2) h (by decide)) rfl (rcv_ob (by repeat (first | assumption | exact upw_s | refine (upw_n (by omega)).trans ?_)) rfl (by first | assumption | omega)) rfl (by decide) (Nat.le_of_ble_eq_true rfl) (Nat.zero_le _) (Nat.zero_le _) (fun rr20 wr20 nr20 hp9 => ?_)
    obtain ⟨rfl, hp9, rfl⟩ := hp9
    refine r_ireturn i_M_hiding_23 t_M_hiding rfl ?_
    first | exact ⟨rfl, hp9, rfl⟩ | exact ⟨rfl, ⟨h, fun _ _ => rfl⟩, rfl⟩
  · skip
    have h5 := bI_ne0.mp h5
    try rw [h5]
    refine r_aload_n (i := 0) i_M_hiding_8 rfl rfl ?_
    refine r_iload_n (i := 2) i_M_hiding_9 rfl rfl ?_
    refine r_i2l i_M_hiding_10 ?_
    refine f_virtual o_M_hiding k_M_isOne v_M_isOne x_M_112 i_M_hiding_11 o_M_isOne (c_M_isOne h) rfl (rcv_ob (by repeat (first | assumption | exact upw_s | refine (upw_n (by omega)).trans ?_)) rfl (by first | assumption | omega)) rfl (by decide) (Nat.le_of_ble_eq_true rfl) ?_
    rw [hP, in_lt (by omega)]
    refine r_if_ne 24 i_M_hiding_14 (by decide) (fun h14 => ?_) (fun h14 => ?_)
    · skip
      have h14 := bI_ne0.mp h14
      try rw [h14]
      obtain ⟨b, hb, rfl⟩ := lt0_of (by omega) h5
      obtain ⟨t, ht, rfl⟩ := lt0_of (by omega) h14
      rw [nI_clamp (by omega), nI_clamp (by omega)]
      have it : vp_in (nI t) 7 := vp_in_nI (by omega) (by decide)
      have ec : (nI t).toNatClampNeg = t := nI_clamp (by omega)
      have hs := c_M_bestBy0 (G := G) (only := allW P) h hB hB7 hP hP7
      generalize bbM M P B (allW P) = R at *
      have hs2 := fun w h => c_M_bestBy (G := G) (w := w) (o := o) (n := n) (only := allW P) (M := hdA M b t) (X := R) h hB hB7 hP hP7
      generalize bbX (hdA M b t) P B (allW P) R = Y at *
      refine r_aload_n (i := 0) i_M_hiding_24 rfl rfl ?_
      refine r_iload_n (i := 1) i_M_hiding_25 rfl rfl ?_
      refine r_iload_n (i := 2) i_M_hiding_26 rfl rfl ?_
      refine f_virtual o_M_hiding k_M_isParty v_M_isParty x_M_240 i_M_hiding_27 o_M_isParty (c_M_isParty h (by omega)) rfl (rcv_ob (by repeat (first | assumption | exact upw_s | refine (upw_n (by omega)).trans ?_)) rfl (by first | assumption | omega)) rfl (by decide) (Nat.le_of_ble_eq_true rfl) ?_
      refine r_if_eq 40 i_M_hiding_30 (by decide) (fun h30 => ?_) (fun h30 => ?_)
      · skip
        have h30 := bI_eq0.mp h30
        try rw [h30]
        refine r_aload_n (i := 0) i_M_hiding_40 rfl rfl ?_
        refine r_aload_n (i := 0) i_M_hiding_41 rfl rfl ?_
        refine f_virtual o_M_hiding k_M_all v_M_all x_M_298 i_M_hiding_42 o_M_all (c_M_all h hP) rfl (rcv_ob (by repeat (first | assumption | exact upw_s | refine (upw_n (by omega)).trans ?_)) rfl (by first | assumption | omega)) rfl (by decide) (Nat.le_of_ble_eq_true rfl) ?_
        refine m_virtual o_M_hiding k_M_bestBy v_M_bestBy x_M_301 i_M_hiding_45 o_M_bestBy (hs) rfl (rcv_ob (by repeat (first | assumption | exact upw_s | refine (upw_n (by omega)).trans ?_)) rfl (by first | assumption | omega)) rfl (by decide) (Nat.le_of_ble_eq_true rfl) (Nat.zero_le _) (Nat.zero_le _) (fun q1 w3 n1 hp9 => ?_)
        obtain ⟨rfl, ⟨hM3, hF3⟩, rfl⟩ := hp9
        obtain ⟨d0, dA', dL', d4, d20, d28, dn'⟩ := id hM3
        obtain ⟨r1, r2, r3, r4, r5⟩ := row_of hM3 (show b < 7 by omega)
        have r2 : w3 (o + 29 + b) = ai 7 (M.2.1 (29 + b)) := r2.trans (congrArg (ai 7) (mX_lt (by omega)))
        have b36 : w3 (o + 36) = ai 4 (M.2.1 36) := dA' 36 rfl
        have h4 := hM3.rlo (show b < 7 by omega) (f := upd (M.2.1 (29 + b)) t (M.2.1 36 0))
        rw [mA_X (by omega)] at h4
        refine r_istore_3 i_M_hiding_48 (by rw [l_M_hiding]; decide) rfl ?_
        refine r_aload_n (i := 0) i_M_hiding_49 rfl rfl ?_
        refine r_getf (ci := 6) (T := Fk6) (k := 15) o_M_hiding i_M_hiding_50 x_M_51 rfl (by decide) rfl (by repeat (first | assumption | exact upw_s | refine (upw_n (by omega)).trans ?_)) (by first | assumption | omega) (by rfl) ?_
        refine r_iload_n (i := 1) i_M_hiding_53 rfl rfl ?_
        refine r_aald i_M_hiding_54 (by repeat (first | assumption | exact upw_s | refine (upw_n (by omega)).trans ?_)) (by decide) (by first | assumption | omega) (by assumption) r4 ?_
        refine r_iload_n (i := 2) i_M_hiding_55 rfl rfl ?_
        refine r_iald i_M_hiding_56 (by repeat (first | assumption | exact upw_s | refine (upw_n (by omega)).trans ?_)) (by first | assumption | omega) (by assumption) ?_
        rw [ec]
        refine r_istore_4 i_M_hiding_57 (by rw [l_M_hiding]; decide) rfl ?_
        refine r_aload_n (i := 0) i_M_hiding_59 rfl rfl ?_
        refine r_getf (ci := 6) (T := Fk6) (k := 15) o_M_hiding i_M_hiding_60 x_M_51 rfl (by decide) rfl (by repeat (first | assumption | exact upw_s | refine (upw_n (by omega)).trans ?_)) (by first | assumption | omega) (by rfl) ?_
        refine r_iload_n (i := 1) i_M_hiding_63 rfl rfl ?_
        refine r_aald i_M_hiding_64 (by repeat (first | assumption | exact upw_s | refine (upw_n (by omega)).trans ?_)) (by decide) (by first | assumption | omega) (by assumption) r4 ?_
        refine r_iload_n (i := 2) i_M_hiding_65 rfl rfl ?_
        refine r_aload_n (i := 0) i_M_hiding_66 rfl rfl ?_
        refine r_getf (ci := 6) (T := Fk6) (k := 16) o_M_hiding i_M_hiding_67 x_M_54 rfl (by decide) rfl (by repeat (first | assumption | exact upw_s | refine (upw_n (by omega)).trans ?_)) (by first | assumption | omega) (by rfl) ?_
        refine r_iconst (v := (0 : Int32)) i_M_hiding_70 rfl ?_
        refine r_iald i_M_hiding_71 (by repeat (first | assumption | exact upw_s | refine (upw_n (by omega)).trans ?_)) (by first | assumption | omega) (by assumption) ?_
        refine r_iast i_M_hiding_72 (by repeat (first | assumption | exact upw_s | refine (upw_n (by omega)).trans ?_)) (by first | assumption | omega) (by assumption) ?_
        rw [ec]
        refine r_aload_n (i := 0) i_M_hiding_73 rfl rfl ?_
        refine r_aload_n (i := 0) i_M_hiding_74 rfl rfl ?_
        refine f_virtual o_M_hiding k_M_all v_M_all x_M_298 i_M_hiding_75 o_M_all (c_M_all h4 hP) rfl (rcv_ob (by repeat (first | assumption | exact upw_s | refine (upw_n (by omega)).trans ?_)) rfl (by first | assumption | omega)) rfl (by decide) (Nat.le_of_ble_eq_true rfl) ?_
        refine m_virtual o_M_hiding k_M_bestBy v_M_bestBy x_M_301 i_M_hiding_78 o_M_bestBy (hs2 _ h4) rfl (rcv_ob (by repeat (first | assumption | exact upw_s | refine (upw_n (by omega)).trans ?_)) rfl (by first | assumption | omega)) rfl (by decide) (Nat.le_of_ble_eq_true rfl) (Nat.zero_le _) (Nat.zero_le _) (fun q2 w5 n2 hp8 => ?_)
        obtain ⟨rfl, ⟨hM5, hF5⟩, rfl⟩ := hp8
        obtain ⟨e0, eA', eL', e4, e20, e28, en'⟩ := id hM5
        obtain ⟨s1, s2, s3, s4, s5⟩ := row_of hM5 (show b < 7 by omega)
        have s2 : w5 (o + 29 + b) = ai 7 (upd (M.2.1 (29 + b)) t (M.2.1 36 0)) := s2.trans (congrArg (ai 7) ((mX_lt (by omega)).trans mA_eq))
        have h6 := hM5.rlo (show b < 7 by omega) (f := upd (upd (M.2.1 (29 + b)) t (M.2.1 36 0)) t (M.2.1 (29 + b) t))
        rw [mA_X (by omega)] at h6
        unfold hdA at h6
        rw [mA_A, show mA M (29 + b) (upd (upd (M.2.1 (29 + b)) t (M.2.1 36 0)) t (M.2.1 (29 + b) t)) = M from mA_self upd_back] at h6
        refine r_istore_5 i_M_hiding_81 (by rw [l_M_hiding]; decide) rfl ?_
        refine r_aload_n (i := 0) i_M_hiding_83 rfl rfl ?_
        refine r_getf (ci := 6) (T := Fk6) (k := 15) o_M_hiding i_M_hiding_84 x_M_51 rfl (by decide) rfl (by repeat (first | assumption | exact upw_s | refine (upw_n (by omega)).trans ?_)) (by first | assumption | omega) (by rfl) ?_
        refine r_iload_n (i := 1) i_M_hiding_87 rfl rfl ?_
        refine r_aald i_M_hiding_88 (by repeat (first | assumption | exact upw_s | refine (upw_n (by omega)).trans ?_)) (by decide) (by first | assumption | omega) (by assumption) r4 ?_
        refine r_iload_n (i := 2) i_M_hiding_89 rfl rfl ?_
        refine r_iload (i := 4) i_M_hiding_90 rfl ?_
        refine r_iast i_M_hiding_92 (by repeat (first | assumption | exact upw_s | refine (upw_n (by omega)).trans ?_)) (by first | assumption | omega) (by assumption) ?_
        rw [ec]
        refine r_iload (i := 5) i_M_hiding_93 rfl ?_
        refine r_iload_n (i := 3) i_M_hiding_95 rfl rfl ?_
        refine r_isub i_M_hiding_96 ?_
        refine r_ireturn i_M_hiding_97 t_M_hiding rfl ?_
        exact ⟨rfl, ⟨h6, ((hF3.up (by omega) (by omega)).tr hF5).up (by omega) (by omega)⟩, rfl⟩
      · skip
        have h30 := bI_ne0.mp h30
        try rw [h30]
        refine r_aload_n (i := 0) i_M_hiding_33 rfl rfl ?_
        refine r_bipush (v := (-5 : Int32)) i_M_hiding_34 (by decide) ?_
        refine m_virtual o_M_hiding k_M_refuse v_M_refuse x_M_89 i_M_hiding_36 o_M_refuse (c_M_refuse (i := 5) h (by decide)) rfl (rcv_ob (by repeat (first | assumption | exact upw_s | refine (upw_n (by omega)).trans ?_)) rfl (by first | assumption | omega)) rfl (by decide) (Nat.le_of_ble_eq_true rfl) (Nat.zero_le _) (Nat.zero_le _) (fun rr36 wr36 nr36 hp9 => ?_)
        obtain ⟨rfl, hp9, rfl⟩ := hp9
        refine r_ireturn i_M_hiding_39 t_M_hiding rfl ?_
        first | exact ⟨rfl, hp9, rfl⟩ | exact ⟨rfl, ⟨h, fun _ _ => rfl⟩, rfl⟩
    · skip
      have h14 := bI_eq0.mp h14
      try rw [h14]
      refine r_aload_n (i := 0) i_M_hiding_17 rfl rfl ?_
      refine r_bipush (v := (-2 : Int32)) i_M_hiding_18 (by decide) ?_
      refine m_virtual o_M_hiding k_M_refuse v_M_refuse x_M_89 i_M_hiding_20 o_M_refuse (c_M_refuse (i := 2) h (by decide)) rfl (rcv_ob (by repeat (first | assumption | exact upw_s | refine (upw_n (by omega)).trans ?_)) rfl (by first | assumption | omega)) rfl (by decide) (Nat.le_of_ble_eq_true rfl) (Nat.zero_le _) (Nat.zero_le _) (fun rr20 wr20 nr20 hp9 => ?_)
      obtain ⟨rfl, hp9, rfl⟩ := hp9
      refine r_ireturn i_M_hiding_23 t_M_hiding rfl ?_
      first | exact ⟨rfl, hp9, rfl⟩ | exact ⟨rfl, ⟨h, fun _ _ => rfl⟩, rfl⟩
end MFEW
