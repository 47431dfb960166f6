-- READER: statements
abbrev aP : Type := aL × Int32 × aS
def putLS (S : aS) (b c v : Int32) : aS := upA S 7 (upd (S.2 7) (7 * b.toNatClampNeg + c.toNatClampNeg) v)
def stOne (f : Nat → Int32) (z : Nat) (q : aP) : aP := if q.2.2.1 0 < 7 then (lexF f z q.1.1, q.2.1, upS q.2.2 0 (q.2.2.1 0 + 1)) else (q.1, faF q.1 q.2.1, q.2.2)
abbrev aV : Type := Int32 × aL × Int32
def rn1 (f : Nat → Int32) (z : Nat) (N : Int32) (q : aP) : aV := rnR f z (lexF f z q.1.1) q.2.1 0 (N - 1) (-1)
def rnP (f : Nat → Int32) (z : Nat) (N but : Int32) (v : aV) : aV := rnR f z v.2.1 v.2.2 0 (N - 1) but
def rn9 (f : Nat → Int32) (z : Nat) (v : aV) : aV := rnR f z v.2.1 v.2.2 0 99 (-1)
def huS (b : Int32) (q : aP) (v1 v2 : aV) : aP := (v2.2.1, v2.2.2, if v2.2.2 = -1 then putLS q.2.2 b v1.1 v2.1 else q.2.2)
def hurF (f : Nat → Int32) (z : Nat) (b : Int32) : Nat → aP → aP
  | 0, q => q
  | m + 1, q => if q.2.1 = -1 ∧ wordB f q.1 2 = true then hurF f z b m (huS b q (rn1 f z (q.2.2.1 0) q) (rn9 f z (rn1 f z (q.2.2.1 0) q))) else q
def dlS (f : Nat → Int32) (z : Nat) (q : aP) (v1 v2 v3 v4 : aV) : aP := if v4.2.2 = -1 then hurF f z (q.2.2.1 1) 250 (v4.2.1, v4.2.2, addB q.2.2 (q.2.2.1 1).toNatClampNeg v1.1 v2.1 v3.1 v4.1) else (v4.2.1, v4.2.2, q.2.2)
def stDeal (f : Nat → Int32) (z : Nat) (q : aP) : aP := if q.2.2.1 1 < 7 then dlS f z q (rn1 f z (q.2.2.1 0) q) (rnP f z (q.2.2.1 0) (rn1 f z (q.2.2.1 0) q).1 (rn1 f z (q.2.2.1 0) q)) (rn9 f z (rnP f z (q.2.2.1 0) (rn1 f z (q.2.2.1 0) q).1 (rn1 f z (q.2.2.1 0) q))) (rn9 f z (rn9 f z (rnP f z (q.2.2.1 0) (rn1 f z (q.2.2.1 0) q).1 (rn1 f z (q.2.2.1 0) q)))) else (q.1, faF q.1 q.2.1, q.2.2)
def gnS (q : aP) (v1 v2 v3 : aV) : aP := (v3.2.1, v3.2.2, if v3.2.2 = -1 then putLS q.2.2 v1.1 v2.1 (-v3.1) else q.2.2)
def stGains (f : Nat → Int32) (z : Nat) (q : aP) : aP := gnS q (rn1 f z (q.2.2.1 1) q) (rnP f z (q.2.2.1 0) (-1) (rn1 f z (q.2.2.1 1) q)) (rn9 f z (rnP f z (q.2.2.1 0) (-1) (rn1 f z (q.2.2.1 1) q)))
def brS (q : aP) (v1 v2 : aV) : aP := (v2.2.1, v2.2.2, if v2.2.2 = -1 then putB q.2.2 v1.1.toNatClampNeg v2.1.toNatClampNeg 1 else q.2.2)
def stBars (f : Nat → Int32) (z : Nat) (q : aP) : aP := brS q (rn1 f z (q.2.2.1 1) q) (rnP f z (q.2.2.1 1) (rn1 f z (q.2.2.1 1) q).1 (rn1 f z (q.2.2.1 1) q))
def lwS (c : Nat) (q : aP) (v : aV) : aP := (v.2.1, v.2.2, if v.2.2 = -1 then upS q.2.2 (2 + c) v.1 else q.2.2)
def lw1 (f : Nat → Int32) (z c : Nat) (q : aP) : aV := rnR f z (lexF f z q.1.1) q.2.1 (if nI c = 0 then 1 else 0) (mostN c) (-1)
def stLaw (f : Nat → Int32) (z c : Nat) (q : aP) : aP := lwS c q (lw1 f z c q)
theorem faF_ne {L : aL} {z : Nat} {fa : Int32} (hL : LOk L z) (hz : z ≤ 250) : ¬ faF L fa = -1 := by
  unfold faF
  split
  · exact nI_nem1 (by have := hL.1; have := hL.2.1; omega)
  · assumption
theorem rn_val {f : Nat → Int32} {z N : Nat} {L : aL} {fa but : Int32} (hL : LOk L z) (hz : z ≤ 250) (hN : N ≤ 7) (h : (rnR f z L fa 0 (nI N - 1) but).2.2 = -1) : fa = -1 ∧ ∃ j, j < N ∧ (rnR f z L fa 0 (nI N - 1) but).1 = nI j ∧ ¬ (rnR f z L fa 0 (nI N - 1) but).1 = but := by
  unfold rnR at h ⊢
  split at h
  · rename_i hok
    rw [if_pos hok]
    refine ⟨h, ?_⟩
    unfold okN wi0 at hok
    simp only [Bool.and_eq_true, Bool.not_eq_true', decide_eq_true_eq, decide_eq_false_iff_not] at hok
    obtain ⟨⟨h1, h2⟩, h3⟩ := hok
    obtain ⟨j, hj, e⟩ := nI_of h1
    refine ⟨j, ?_, e, h3⟩
    rw [e] at h2
    rcases Nat.lt_or_ge j N with q | q
    · exact q
    · exfalso
      apply h2
      rcases Nat.eq_zero_or_pos N with r | r
      · subst r
        exact Int32.lt_of_lt_of_le (by decide) (Int32.not_lt.mp (nI_pos hj))
      · rw [show nI N - 1 = nI (N - 1) from pk_sub (b := 1) r]
        exact nI_lt (by omega) hj
  · exact absurd h (faF_ne hL hz)
theorem rn_v99 {f : Nat → Int32} {z : Nat} {L : aL} {fa but : Int32} (hL : LOk L z) (hz : z ≤ 250) (h : (rnR f z L fa 0 99 but).2.2 = -1) : fa = -1 ∧ ∃ j, j ≤ 99 ∧ (rnR f z L fa 0 99 but).1 = nI j := by
  unfold rnR at h ⊢
  split at h
  · rename_i hok
    rw [if_pos hok]
    refine ⟨h, ?_⟩
    unfold okN wi0 at hok
    simp only [Bool.and_eq_true, Bool.not_eq_true', decide_eq_true_eq, decide_eq_false_iff_not] at hok
    obtain ⟨⟨h1, h2⟩, h3⟩ := hok
    obtain ⟨j, hj, e⟩ := nI_of h1
    refine ⟨j, ?_, e⟩
    rw [e] at h2
    rcases Nat.lt_or_ge 99 j with q | q
    · exact absurd (nI_lt q hj) h2
    · exact q
  · exact absurd h (faF_ne hL hz)
theorem rn_valE {f : Nat → Int32} {z N : Nat} {L : aL} {fa but : Int32} {v : aV} (hE : rnR f z L fa 0 (nI N - 1) but = v) (hL : LOk L z) (hz : z ≤ 250) (hN : N ≤ 7) (h : v.2.2 = -1) : fa = -1 ∧ ∃ j, j < N ∧ v.1 = nI j ∧ ¬ v.1 = but := by
  subst hE
  exact rn_val hL hz hN h
theorem rn_v99E {f : Nat → Int32} {z : Nat} {L : aL} {fa but : Int32} {v : aV} (hE : rnR f z L fa 0 99 but = v) (hL : LOk L z) (hz : z ≤ 250) (h : v.2.2 = -1) : fa = -1 ∧ ∃ j, j ≤ 99 ∧ v.1 = nI j := by
  subst hE
  exact rn_v99 hL hz h
theorem rn_okE {f : Nat → Int32} {z : Nat} {L : aL} {fa lo hi but : Int32} {v : aV} (hE : rnR f z L fa lo hi but = v) (hL : LOk L z) : LOk v.2.1 z := by
  subst hE
  exact rn_ok hL
def rtFr (w w' : aW) (k t : Nat) : Prop := ∀ j, ¬ j = k → (j < t ∨ t + 8 < j) → w' j = w j
def PW (w w' : aW) (k t : Nat) (f : Nat → Int32) (z : Nat) (q : aP) (n : Nat) : Prop := RW w' k f z q.1 q.2.1 n ∧ TW w' t q.2.2 n ∧ rtFr w w' k t
section STMTS
variable {G : gE} {w : aW} {n k t : Nat} {f : Nat → Int32} {z : Nat} {q : aP}
theorem c_R_readNumberE {L : aL} {fa lo hi but : Int32} {v : aV} (hE : rnR f z L fa lo hi but = v) (hR : RW w k f z L fa n) (hz : z ≤ 250) (hL : LOk L z) : Mt G 3 y_R_readNumber [.ref k, .int lo, .int hi, .int but] w n 0 0 (fun r w' n' => r = some (.int v.1) ∧ (RW w' k f z v.2.1 v.2.2 n ∧ rFr w w' k) ∧ n' = n) := by
  subst hE
  exact c_R_readNumber hR hz hL
theorem c_R_readOne (hR : RW w k f z q.1 q.2.1 n) (hT : TW w t q.2.2 n) (hd : k + 1 < t ∨ t + 8 < k) (hz : z ≤ 250) (hL : LOk q.1 z) : Mt G 3 y_R_readOne [.ref k, .ref t] w n 0 0 (fun r w' n' => r = none ∧ PW w w' k t f z (stOne f z q) n ∧ n' = n) := by
  refine Mt.of k_R_readOne l_R_readOne (Nat.le_of_ble_eq_true rfl) rfl ?_
  have hR0 := hR
  have hT0 := hT
  obtain ⟨g0, g1, hn⟩ := hR
  obtain ⟨e0, e1, e2, e3, e4, e5, e6, e7, e8, hm⟩ := hT
  unfold stOne
  refine r_aload_n (i := 1) i_R_readOne_0 rfl rfl ?_
  refine r_getfN (ci := 1) (T := Fk1) (k := 0) o_R_readOne i_R_readOne_1 x_R_83 rfl (by decide) rfl (by repeat (first | assumption | exact upw_s | refine (upw_n (by omega)).trans ?_)) (by first | assumption | omega) (by rfl) ?_
  refine r_bipush (v := (7 : Int32)) i_R_readOne_4 (by decide) ?_
  refine r_icmp_lt 16 i_R_readOne_6 (by decide) (fun h6 => ?_) (fun h6 => ?_)
  · skip
    rw [if_pos h6]
    refine r_aload_n (i := 1) i_R_readOne_16 rfl rfl ?_
    refine m_virtual o_R_readOne k_T_addPerson v_T_addPerson x_R_86 i_R_readOne_17 o_T_addPerson (c_T_addPerson hT0) rfl (rcv_ob (by repeat (first | assumption | exact upw_s | refine (upw_n (by omega)).trans ?_)) rfl (by first | assumption | omega)) rfl (by decide) (Nat.le_of_ble_eq_true rfl) (Nat.zero_le _) (Nat.zero_le _) (fun r1 w2 n1 hp9 => ?_)
    obtain ⟨rfl, ⟨hT2, hF2⟩, rfl⟩ := hp9
    have hR2 : RW w2 k f z q.1 q.2.1 n1 := hR0.fr (fun j q1 q2 => hF2 j (by omega))
    obtain ⟨p0, p1, hpn⟩ := id hR2
    refine r_pop i_R_readOne_20 rfl ?_
    refine r_aload_n (i := 0) i_R_readOne_21 rfl rfl ?_
    refine m_virtual o_R_readOne k_R_step v_R_step x_R_35 i_R_readOne_22 o_R_step (c_R_step hR2 hz hL.2.1) rfl (rcv_ob (by repeat (first | assumption | exact upw_s | refine (upw_n (by omega)).trans ?_)) rfl (by first | assumption | omega)) rfl (by decide) (Nat.le_of_ble_eq_true rfl) (Nat.zero_le _) (Nat.zero_le _) (fun r1 w3 n1 hp9 => ?_)
    obtain ⟨rfl, ⟨hR3, hF3⟩, rfl⟩ := hp9
    refine r_return i_R_readOne_25 t_R_readOne ?_
    first | exact ⟨rfl, ⟨hR3, hT2.fr (fun j q1 q2 => hF3 j (by omega)), fun j q1 q2 => (hF3 j q1).trans (hF2 j q2)⟩, rfl⟩ | exact ⟨rfl, ⟨hR2, hT0.fr (fun j q1 q2 => hF2 j (by omega)), fun j q1 q2 => hF2 j q1⟩, rfl⟩
  · skip
    rw [if_neg h6]
    refine r_aload_n (i := 0) i_R_readOne_9 rfl rfl ?_
    refine m_virtual o_R_readOne k_R_fail v_R_fail x_R_42 i_R_readOne_10 o_R_fail (c_R_fail hR0) rfl (rcv_ob (by repeat (first | assumption | exact upw_s | refine (upw_n (by omega)).trans ?_)) rfl (by first | assumption | omega)) rfl (by decide) (Nat.le_of_ble_eq_true rfl) (Nat.zero_le _) (Nat.zero_le _) (fun r1 w2 n1 hp9 => ?_)
    obtain ⟨rfl, ⟨hR2, hF2⟩, rfl⟩ := hp9
    refine r_goto 25 i_R_readOne_13 (by decide) ?_
    refine r_return i_R_readOne_25 t_R_readOne ?_
    first | exact ⟨rfl, ⟨hR3, hT2.fr (fun j q1 q2 => hF3 j (by omega)), fun j q1 q2 => (hF3 j q1).trans (hF2 j q2)⟩, rfl⟩ | exact ⟨rfl, ⟨hR2, hT0.fr (fun j q1 q2 => hF2 j (by omega)), fun j q1 q2 => hF2 j q1⟩, rfl⟩
theorem c_R_readLaw {c : Nat} (hc : c < 4) (hR : RW w k f z q.1 q.2.1 n) (hT : TW w t q.2.2 n) (hd : k + 1 < t ∨ t + 8 < k) (hz : z ≤ 250) (hL : LOk q.1 z) : Mt G 4 y_R_readLaw [.ref k, .ref t, .int (nI c)] w n 0 0 (fun r w' n' => r = none ∧ PW w w' k t f z (stLaw f z c q) n ∧ n' = n) := by
  refine Mt.of k_R_readLaw l_R_readLaw (Nat.le_of_ble_eq_true rfl) rfl ?_
  have hR0 := hR
  have hT0 := hT
  obtain ⟨g0, g1, hn⟩ := hR
  obtain ⟨e0, e1, e2, e3, e4, e5, e6, e7, e8, hm⟩ := hT
  have hlx := lex_le (f := f) hL.2.1
  obtain ⟨v, E1⟩ : ∃ v, rnR f z (lexF f z q.1.1) q.2.1 (if nI c = 0 then 1 else 0) (mostN c) (-1) = v := ⟨_, rfl⟩
  have hst : stLaw f z c q = lwS c q v := by unfold stLaw lw1; rw [E1]
  rw [hst]
  refine r_aload_n (i := 0) i_R_readLaw_0 rfl rfl ?_
  refine m_virtual o_R_readLaw k_R_step v_R_step x_R_35 i_R_readLaw_1 o_R_step (c_R_step hR0 hz hL.2.1) rfl (rcv_ob (by repeat (first | assumption | exact upw_s | refine (upw_n (by omega)).trans ?_)) rfl (by first | assumption | omega)) rfl (by decide) (Nat.le_of_ble_eq_true rfl) (Nat.zero_le _) (Nat.zero_le _) (fun r1 w2 n1 hp9 => ?_)
  obtain ⟨rfl, ⟨hR2, hF2⟩, rfl⟩ := hp9
  obtain ⟨p0, p1, hpn⟩ := id hR2
  refine r_aload_n (i := 0) i_R_readLaw_4 rfl rfl ?_
  refine r_iload_n (i := 2) i_R_readLaw_5 rfl rfl ?_
  refine f_static o_R_readLaw k_T_leastOfLaw s_T_leastOfLaw x_R_111 i_R_readLaw_6 (c_T_leastOfLaw) rfl rfl (by decide) (Nat.le_of_ble_eq_true rfl) ?_
  refine r_iload_n (i := 2) i_R_readLaw_9 rfl rfl ?_
  refine f_static o_R_readLaw k_T_mostOfLaw s_T_mostOfLaw x_R_115 i_R_readLaw_10 (c_T_mostOfLaw hc) rfl rfl (by decide) (Nat.le_of_ble_eq_true rfl) ?_
  refine r_iconst (v := (-1 : Int32)) i_R_readLaw_13 rfl ?_
  refine m_virtual o_R_readLaw k_R_readNumber v_R_readNumber x_R_93 i_R_readLaw_14 o_R_readNumber (c_R_readNumberE E1 hR2 hz hlx) rfl (rcv_ob (by repeat (first | assumption | exact upw_s | refine (upw_n (by omega)).trans ?_)) rfl (by first | assumption | omega)) rfl (by decide) (Nat.le_of_ble_eq_true rfl) (Nat.zero_le _) (Nat.zero_le _) (fun r1 w3 n1 hp9 => ?_)
  obtain ⟨rfl, ⟨hR3, hF3⟩, rfl⟩ := hp9
  have hT3 : TW w3 t q.2.2 n1 := hT0.fr (fun j q1 q2 => (hF3 j (by omega)).trans (hF2 j (by omega)))
  obtain ⟨s0, s1, hsn⟩ := id hR3
  obtain ⟨e0, e1, e2, e3, e4, e5, e6, e7, e8, hm⟩ := id hT3
  refine r_istore_3 i_R_readLaw_17 (by rw [l_R_readLaw]; decide) rfl ?_
  refine r_aload_n (i := 0) i_R_readLaw_18 rfl rfl ?_
  refine r_getf (ci := 3) (T := Fk3) (k := 5) o_R_readLaw i_R_readLaw_19 x_R_28 rfl (by decide) rfl (by repeat (first | assumption | exact upw_s | refine (upw_n (by omega)).trans ?_)) (by first | assumption | omega) (by rfl) ?_
  refine r_iconst (v := (-1 : Int32)) i_R_readLaw_22 rfl ?_
  refine r_icmp_ne 32 i_R_readLaw_23 (by decide) (fun h23 => ?_) (fun h23 => ?_)
  · skip
    refine r_return i_R_readLaw_32 t_R_readLaw ?_
    unfold lwS
    first | (rw [if_neg h23]; exact ⟨rfl, ⟨hR3, hT3, fun j q1 q2 => (hF3 j q1).trans (hF2 j q1)⟩, rfl⟩) | (rw [if_pos h23]; exact ⟨rfl, ⟨hR3.fr (fun j q1 q2 => hF4 j (by omega)), hT4, fun j q1 q2 => (hF4 j q2).trans ((hF3 j q1).trans (hF2 j q1))⟩, rfl⟩)
  · skip
    refine r_aload_n (i := 1) i_R_readLaw_26 rfl rfl ?_
    refine r_iload_n (i := 2) i_R_readLaw_27 rfl rfl ?_
    refine r_iload_n (i := 3) i_R_readLaw_28 rfl rfl ?_
    refine m_virtual o_R_readLaw k_T_putLaw v_T_putLaw x_R_118 i_R_readLaw_29 o_T_putLaw (c_T_putLaw hc hT3) rfl (rcv_ob (by repeat (first | assumption | exact upw_s | refine (upw_n (by omega)).trans ?_)) rfl (by first | assumption | omega)) rfl (by decide) (Nat.le_of_ble_eq_true rfl) (Nat.zero_le _) (Nat.zero_le _) (fun r1 w4 n1 hp9 => ?_)
    obtain ⟨rfl, ⟨hT4, hF4⟩, rfl⟩ := hp9
    refine r_return i_R_readLaw_32 t_R_readLaw ?_
    unfold lwS
    first | (rw [if_neg h23]; exact ⟨rfl, ⟨hR3, hT3, fun j q1 q2 => (hF3 j q1).trans (hF2 j q1)⟩, rfl⟩) | (rw [if_pos h23]; exact ⟨rfl, ⟨hR3.fr (fun j q1 q2 => hF4 j (by omega)), hT4, fun j q1 q2 => (hF4 j q2).trans ((hF3 j q1).trans (hF2 j q1))⟩, rfl⟩)
theorem c_R_readGains {P B : Nat} (hP : q.2.2.1 0 = nI P) (hP7 : P ≤ 7) (hB : q.2.2.1 1 = nI B) (hB7 : B ≤ 7) (hR : RW w k f z q.1 q.2.1 n) (hT : TW w t q.2.2 n) (hd : k + 1 < t ∨ t + 8 < k) (hz : z ≤ 250) (hL : LOk q.1 z) : Mt G 4 y_R_readGains [.ref k, .ref t] w n 0 0 (fun r w' n' => r = none ∧ PW w w' k t f z (stGains f z q) n ∧ n' = n) := by
  refine Mt.of k_R_readGains l_R_readGains (Nat.le_of_ble_eq_true rfl) rfl ?_
  have hR0 := hR
  have hT0 := hT
  obtain ⟨g0, g1, hn⟩ := hR
  obtain ⟨e0, e1, e2, e3, e4, e5, e6, e7, e8, hm⟩ := hT
  have hlx := lex_le (f := f) hL.2.1
  obtain ⟨v1, E1⟩ : ∃ v, rnR f z (lexF f z q.1.1) q.2.1 0 (q.2.2.1 1 - 1) (-1) = v := ⟨_, rfl⟩
  have hl1 : LOk v1.2.1 z := rn_okE E1 hlx
  obtain ⟨v2, E2⟩ : ∃ v, rnR f z v1.2.1 v1.2.2 0 (q.2.2.1 0 - 1) (-1) = v := ⟨_, rfl⟩
  have hl2 : LOk v2.2.1 z := rn_okE E2 hl1
  obtain ⟨v3, E3⟩ : ∃ v, rnR f z v2.2.1 v2.2.2 0 99 (-1) = v := ⟨_, rfl⟩
  have hst : stGains f z q = gnS q v1 v2 v3 := by unfold stGains rn9 rnP rn1; rw [E1, E2, E3]
  rw [hst]
  refine r_aload_n (i := 0) i_R_readGains_0 rfl rfl ?_
  refine m_virtual o_R_readGains k_R_step v_R_step x_R_35 i_R_readGains_1 o_R_step (c_R_step hR0 hz hL.2.1) rfl (rcv_ob (by repeat (first | assumption | exact upw_s | refine (upw_n (by omega)).trans ?_)) rfl (by first | assumption | omega)) rfl (by decide) (Nat.le_of_ble_eq_true rfl) (Nat.zero_le _) (Nat.zero_le _) (fun r1 w2 n1 hp9 => ?_)
  obtain ⟨rfl, ⟨hR2, hF2⟩, rfl⟩ := hp9
  have hT2 : TW w2 t q.2.2 n1 := hT0.fr (fun j q1 q2 => hF2 j (by omega))
  obtain ⟨p0, p1, hpn⟩ := id hR2
  obtain ⟨e0, e1, e2, e3, e4, e5, e6, e7, e8, hm⟩ := id hT2
  refine r_aload_n (i := 0) i_R_readGains_4 rfl rfl ?_
  refine r_iconst (v := (0 : Int32)) i_R_readGains_5 rfl ?_
  refine r_aload_n (i := 1) i_R_readGains_6 rfl rfl ?_
  refine r_getfN (ci := 1) (T := Fk1) (k := 1) o_R_readGains i_R_readGains_7 x_R_90 rfl (by decide) rfl (by repeat (first | assumption | exact upw_s | refine (upw_n (by omega)).trans ?_)) (by first | assumption | omega) (by rfl) ?_
  refine r_iconst (v := (1 : Int32)) i_R_readGains_10 rfl ?_
  refine r_isub i_R_readGains_11 ?_
  refine r_iconst (v := (-1 : Int32)) i_R_readGains_12 rfl ?_
  refine m_virtual o_R_readGains k_R_readNumber v_R_readNumber x_R_93 i_R_readGains_13 o_R_readNumber (c_R_readNumberE E1 hR2 hz hlx) rfl (rcv_ob (by repeat (first | assumption | exact upw_s | refine (upw_n (by omega)).trans ?_)) rfl (by first | assumption | omega)) rfl (by decide) (Nat.le_of_ble_eq_true rfl) (Nat.zero_le _) (Nat.zero_le _) (fun r1 w3 n1 hp9 => ?_)
  obtain ⟨rfl, ⟨hR3, hF3⟩, rfl⟩ := hp9
  have hT3 : TW w3 t q.2.2 n1 := hT2.fr (fun j q1 q2 => hF3 j (by omega))
  obtain ⟨s0, s1, hsn⟩ := id hR3
  obtain ⟨e0, e1, e2, e3, e4, e5, e6, e7, e8, hm⟩ := id hT3
  refine r_istore_2 i_R_readGains_16 (by rw [l_R_readGains]; decide) rfl ?_
  refine r_aload_n (i := 0) i_R_readGains_17 rfl rfl ?_
  refine r_iconst (v := (0 : Int32)) i_R_readGains_18 rfl ?_
  refine r_aload_n (i := 1) i_R_readGains_19 rfl rfl ?_
  refine r_getfN (ci := 1) (T := Fk1) (k := 0) o_R_readGains i_R_readGains_20 x_R_83 rfl (by decide) rfl (by repeat (first | assumption | exact upw_s | refine (upw_n (by omega)).trans ?_)) (by first | assumption | omega) (by rfl) ?_
  refine r_iconst (v := (1 : Int32)) i_R_readGains_23 rfl ?_
  refine r_isub i_R_readGains_24 ?_
  refine r_iconst (v := (-1 : Int32)) i_R_readGains_25 rfl ?_
  refine m_virtual o_R_readGains k_R_readNumber v_R_readNumber x_R_93 i_R_readGains_26 o_R_readNumber (c_R_readNumberE E2 hR3 hz hl1) rfl (rcv_ob (by repeat (first | assumption | exact upw_s | refine (upw_n (by omega)).trans ?_)) rfl (by first | assumption | omega)) rfl (by decide) (Nat.le_of_ble_eq_true rfl) (Nat.zero_le _) (Nat.zero_le _) (fun r1 w4 n1 hp9 => ?_)
  obtain ⟨rfl, ⟨hR4, hF4⟩, rfl⟩ := hp9
  have hT4 : TW w4 t q.2.2 n1 := hT3.fr (fun j q1 q2 => hF4 j (by omega))
  obtain ⟨s0, s1, hsn⟩ := id hR4
  refine r_istore_3 i_R_readGains_29 (by rw [l_R_readGains]; decide) rfl ?_
  refine r_aload_n (i := 0) i_R_readGains_30 rfl rfl ?_
  refine r_iconst (v := (0 : Int32)) i_R_readGains_31 rfl ?_
  refine r_bipush (v := (99 : Int32)) i_R_readGains_32 (by decide) ?_
  refine r_iconst (v := (-1 : Int32)) i_R_readGains_34 rfl ?_
  refine m_virtual o_R_readGains k_R_readNumber v_R_readNumber x_R_93 i_R_readGains_35 o_R_readNumber (c_R_readNumberE E3 hR4 hz hl2) rfl (rcv_ob (by repeat (first | assumption | exact upw_s | refine (upw_n (by omega)).trans ?_)) rfl (by first | assumption | omega)) rfl (by decide) (Nat.le_of_ble_eq_true rfl) (Nat.zero_le _) (Nat.zero_le _) (fun r1 w5 n1 hp9 => ?_)
  obtain ⟨rfl, ⟨hR5, hF5⟩, rfl⟩ := hp9
  have hT5 : TW w5 t q.2.2 n1 := hT4.fr (fun j q1 q2 => hF5 j (by omega))
  have hF : rFr w w5 k := fun j q1 => (hF5 j q1).trans ((hF4 j q1).trans ((hF3 j q1).trans (hF2 j q1)))
  obtain ⟨s0, s1, hsn⟩ := id hR5
  obtain ⟨e0, e1, e2, e3, e4, e5, e6, e7, e8, hm⟩ := id hT5
  refine r_istore_4 i_R_readGains_38 (by rw [l_R_readGains]; decide) rfl ?_
  refine r_aload_n (i := 0) i_R_readGains_40 rfl rfl ?_
  refine r_getf (ci := 3) (T := Fk3) (k := 5) o_R_readGains i_R_readGains_41 x_R_28 rfl (by decide) rfl (by repeat (first | assumption | exact upw_s | refine (upw_n (by omega)).trans ?_)) (by first | assumption | omega) (by rfl) ?_
  refine r_iconst (v := (-1 : Int32)) i_R_readGains_44 rfl ?_
  refine r_icmp_ne 57 i_R_readGains_45 (by decide) (fun h45 => ?_) (fun h45 => ?_)
  · skip
    refine r_return i_R_readGains_57 t_R_readGains ?_
    unfold gnS
    first
      | (rw [if_neg h45]; exact ⟨rfl, ⟨hR5, hT5, fun j q1 q2 => hF j q1⟩, rfl⟩)
      | (rw [if_pos h45]; refine ⟨rfl, ⟨hR5.fr (fun j q1 q2 => hF6 j (by omega)), ?_, fun j q1 q2 => (hF6 j q2).trans (hF j q1)⟩, rfl⟩; show TW w6 t (putLS q.2.2 v1.1 v2.1 (-v3.1)) _; unfold putLS; rw [u1, u2, nI_clamp (by omega), nI_clamp (by omega)]; exact hT6)
  · skip
    obtain ⟨f2, j3, b3, u3⟩ := rn_v99E E3 hl2 hz h45
    obtain ⟨f1, j2, b2, u2, -⟩ := rn_valE (by rw [hP] at E2; exact E2) hl1 hz hP7 f2
    obtain ⟨f0, j1, b1, u1, -⟩ := rn_valE (by rw [hB] at E1; exact E1) hlx hz hB7 f1
    refine r_aload_n (i := 1) i_R_readGains_48 rfl rfl ?_
    refine r_iload_n (i := 2) i_R_readGains_49 rfl rfl ?_
    refine r_iload_n (i := 3) i_R_readGains_50 rfl rfl ?_
    refine r_iload (i := 4) i_R_readGains_51 rfl ?_
    refine r_ineg i_R_readGains_53 ?_
    rw [u1, u2]
    refine m_virtual o_R_readGains k_T_putLoss v_T_putLoss x_R_103 i_R_readGains_54 o_T_putLoss (c_T_putLoss hT5 (by omega) (by omega)) rfl (rcv_ob (by repeat (first | assumption | exact upw_s | refine (upw_n (by omega)).trans ?_)) rfl (by first | assumption | omega)) rfl (by decide) (Nat.le_of_ble_eq_true rfl) (Nat.zero_le _) (Nat.zero_le _) (fun r1 w6 n1 hp9 => ?_)
    obtain ⟨rfl, ⟨hT6, hF6⟩, rfl⟩ := hp9
    refine r_return i_R_readGains_57 t_R_readGains ?_
    unfold gnS
    first
      | (rw [if_neg h45]; exact ⟨rfl, ⟨hR5, hT5, fun j q1 q2 => hF j q1⟩, rfl⟩)
      | (rw [if_pos h45]; refine ⟨rfl, ⟨hR5.fr (fun j q1 q2 => hF6 j (by omega)), ?_, fun j q1 q2 => (hF6 j q2).trans (hF j q1)⟩, rfl⟩; show TW w6 t (putLS q.2.2 v1.1 v2.1 (-v3.1)) _; unfold putLS; rw [u1, u2, nI_clamp (by omega), nI_clamp (by omega)]; exact hT6)
theorem c_R_readBars {B : Nat} (hB : q.2.2.1 1 = nI B) (hB7 : B ≤ 7) (hR : RW w k f z q.1 q.2.1 n) (hT : TW w t q.2.2 n) (hd : k + 1 < t ∨ t + 8 < k) (hz : z ≤ 250) (hL : LOk q.1 z) : Mt G 4 y_R_readBars [.ref k, .ref t] w n 0 0 (fun r w' n' => r = none ∧ PW w w' k t f z (stBars f z q) n ∧ n' = n) := by
  refine Mt.of k_R_readBars l_R_readBars (Nat.le_of_ble_eq_true rfl) rfl ?_
  have hR0 := hR
  have hT0 := hT
  obtain ⟨g0, g1, hn⟩ := hR
  obtain ⟨e0, e1, e2, e3, e4, e5, e6, e7, e8, hm⟩ := hT
  have hlx := lex_le (f := f) hL.2.1
  obtain ⟨v1, E1⟩ : ∃ v, rnR f z (lexF f z q.1.1) q.2.1 0 (q.2.2.1 1 - 1) (-1) = v := ⟨_, rfl⟩
  have hl1 : LOk v1.2.1 z := rn_okE E1 hlx
  obtain ⟨v2, E2⟩ : ∃ v, rnR f z v1.2.1 v1.2.2 0 (q.2.2.1 1 - 1) v1.1 = v := ⟨_, rfl⟩
  have hst : stBars f z q = brS q v1 v2 := by unfold stBars rnP rn1; rw [E1, E2]
  rw [hst]
  refine r_aload_n (i := 0) i_R_readBars_0 rfl rfl ?_
  refine m_virtual o_R_readBars k_R_step v_R_step x_R_35 i_R_readBars_1 o_R_step (c_R_step hR0 hz hL.2.1) rfl (rcv_ob (by repeat (first | assumption | exact upw_s | refine (upw_n (by omega)).trans ?_)) rfl (by first | assumption | omega)) rfl (by decide) (Nat.le_of_ble_eq_true rfl) (Nat.zero_le _) (Nat.zero_le _) (fun r1 w2 n1 hp9 => ?_)
  obtain ⟨rfl, ⟨hR2, hF2⟩, rfl⟩ := hp9
  have hT2 : TW w2 t q.2.2 n1 := hT0.fr (fun j q1 q2 => hF2 j (by omega))
  obtain ⟨p0, p1, hpn⟩ := id hR2
  obtain ⟨e0, e1, e2, e3, e4, e5, e6, e7, e8, hm⟩ := id hT2
  refine r_aload_n (i := 0) i_R_readBars_4 rfl rfl ?_
  refine r_iconst (v := (0 : Int32)) i_R_readBars_5 rfl ?_
  refine r_aload_n (i := 1) i_R_readBars_6 rfl rfl ?_
  refine r_getfN (ci := 1) (T := Fk1) (k := 1) o_R_readBars i_R_readBars_7 x_R_90 rfl (by decide) rfl (by repeat (first | assumption | exact upw_s | refine (upw_n (by omega)).trans ?_)) (by first | assumption | omega) (by rfl) ?_
  refine r_iconst (v := (1 : Int32)) i_R_readBars_10 rfl ?_
  refine r_isub i_R_readBars_11 ?_
  refine r_iconst (v := (-1 : Int32)) i_R_readBars_12 rfl ?_
  refine m_virtual o_R_readBars k_R_readNumber v_R_readNumber x_R_93 i_R_readBars_13 o_R_readNumber (c_R_readNumberE E1 hR2 hz hlx) rfl (rcv_ob (by repeat (first | assumption | exact upw_s | refine (upw_n (by omega)).trans ?_)) rfl (by first | assumption | omega)) rfl (by decide) (Nat.le_of_ble_eq_true rfl) (Nat.zero_le _) (Nat.zero_le _) (fun r1 w3 n1 hp9 => ?_)
  obtain ⟨rfl, ⟨hR3, hF3⟩, rfl⟩ := hp9
  have hT3 : TW w3 t q.2.2 n1 := hT2.fr (fun j q1 q2 => hF3 j (by omega))
  obtain ⟨s0, s1, hsn⟩ := id hR3
  obtain ⟨e0, e1, e2, e3, e4, e5, e6, e7, e8, hm⟩ := id hT3
  refine r_istore_2 i_R_readBars_16 (by rw [l_R_readBars]; decide) rfl ?_
  refine r_aload_n (i := 0) i_R_readBars_17 rfl rfl ?_
  refine r_iconst (v := (0 : Int32)) i_R_readBars_18 rfl ?_
  refine r_aload_n (i := 1) i_R_readBars_19 rfl rfl ?_
  refine r_getfN (ci := 1) (T := Fk1) (k := 1) o_R_readBars i_R_readBars_20 x_R_90 rfl (by decide) rfl (by repeat (first | assumption | exact upw_s | refine (upw_n (by omega)).trans ?_)) (by first | assumption | omega) (by rfl) ?_
  refine r_iconst (v := (1 : Int32)) i_R_readBars_23 rfl ?_
  refine r_isub i_R_readBars_24 ?_
  refine r_iload_n (i := 2) i_R_readBars_25 rfl rfl ?_
  refine m_virtual o_R_readBars k_R_readNumber v_R_readNumber x_R_93 i_R_readBars_26 o_R_readNumber (c_R_readNumberE E2 hR3 hz hl1) rfl (rcv_ob (by repeat (first | assumption | exact upw_s | refine (upw_n (by omega)).trans ?_)) rfl (by first | assumption | omega)) rfl (by decide) (Nat.le_of_ble_eq_true rfl) (Nat.zero_le _) (Nat.zero_le _) (fun r1 w4 n1 hp9 => ?_)
  obtain ⟨rfl, ⟨hR4, hF4⟩, rfl⟩ := hp9
  have hT4 : TW w4 t q.2.2 n1 := hT3.fr (fun j q1 q2 => hF4 j (by omega))
  have hF : rFr w w4 k := fun j q1 => (hF4 j q1).trans ((hF3 j q1).trans (hF2 j q1))
  obtain ⟨s0, s1, hsn⟩ := id hR4
  obtain ⟨e0, e1, e2, e3, e4, e5, e6, e7, e8, hm⟩ := id hT4
  refine r_istore_3 i_R_readBars_29 (by rw [l_R_readBars]; decide) rfl ?_
  refine r_aload_n (i := 0) i_R_readBars_30 rfl rfl ?_
  refine r_getf (ci := 3) (T := Fk3) (k := 5) o_R_readBars i_R_readBars_31 x_R_28 rfl (by decide) rfl (by repeat (first | assumption | exact upw_s | refine (upw_n (by omega)).trans ?_)) (by first | assumption | omega) (by rfl) ?_
  refine r_iconst (v := (-1 : Int32)) i_R_readBars_34 rfl ?_
  refine r_icmp_ne 45 i_R_readBars_35 (by decide) (fun h35 => ?_) (fun h35 => ?_)
  · skip
    refine r_return i_R_readBars_45 t_R_readBars ?_
    unfold brS
    first
      | (rw [if_neg h35]; exact ⟨rfl, ⟨hR4, hT4, fun j q1 q2 => hF j q1⟩, rfl⟩)
      | (rw [if_pos h35]; refine ⟨rfl, ⟨hR4.fr (fun j q1 q2 => hF6 j (by omega)), ?_, fun j q1 q2 => (hF6 j q2).trans (hF j q1)⟩, rfl⟩; rw [u1, u2, nI_clamp (by omega), nI_clamp (by omega)]; exact hT6)
  · skip
    obtain ⟨f1, j2, b2, u2, -⟩ := rn_valE (by rw [hB] at E2; exact E2) hl1 hz hB7 h35
    obtain ⟨f0, j1, b1, u1, -⟩ := rn_valE (by rw [hB] at E1; exact E1) hlx hz hB7 f1
    refine r_aload_n (i := 1) i_R_readBars_38 rfl rfl ?_
    refine r_iload_n (i := 2) i_R_readBars_39 rfl rfl ?_
    refine r_iload_n (i := 3) i_R_readBars_40 rfl rfl ?_
    refine r_iconst (v := (1 : Int32)) i_R_readBars_41 rfl ?_
    rw [u1, u2]
    refine m_virtual o_R_readBars k_T_putBar v_T_putBar x_R_107 i_R_readBars_42 o_T_putBar (c_T_putBar hT4 (by omega) (by omega)) rfl (rcv_ob (by repeat (first | assumption | exact upw_s | refine (upw_n (by omega)).trans ?_)) rfl (by first | assumption | omega)) rfl (by decide) (Nat.le_of_ble_eq_true rfl) (Nat.zero_le _) (Nat.zero_le _) (fun r1 w6 n1 hp9 => ?_)
    obtain ⟨rfl, ⟨hT6, hF6⟩, rfl⟩ := hp9
    refine r_return i_R_readBars_45 t_R_readBars ?_
    unfold brS
    first
      | (rw [if_neg h35]; exact ⟨rfl, ⟨hR4, hT4, fun j q1 q2 => hF j q1⟩, rfl⟩)
      | (rw [if_pos h35]; refine ⟨rfl, ⟨hR4.fr (fun j q1 q2 => hF6 j (by omega)), ?_, fun j q1 q2 => (hF6 j q2).trans (hF j q1)⟩, rfl⟩; rw [u1, u2, nI_clamp (by omega), nI_clamp (by omega)]; exact hT6)
end STMTS
