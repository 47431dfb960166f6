-- READER: statements
abbrev aP : Type := aL × Int32 × aS
def putLS (S : aS) (b c v : Int32) : aS := upA S 7 (upd (S.2 7) (7 * b.toNatClampNeg + c.toNatClampNeg) v)
def stOne (f : Nat → Int32) (z : Nat) (q : aP) : aP := if q.2.2.1 0 < 7 then (lexF f z q.1.1, q.2.1, upS q.2.2 0 (q.2.2.1 0 + 1)) else (q.1, faF q.1 q.2.1, q.2.2)
def hurF (f : Nat → Int32) (z : Nat) (b : Int32) : Nat → aP → aP
  | 0, q => q
  | m + 1, q => if q.2.1 = -1 ∧ wordB f q.1 2 = true then
      hurF f z b m ((rnR f z (rnR f z (lexF f z q.1.1) q.2.1 0 (q.2.2.1 0 - 1) (-1)).2.1 (rnR f z (lexF f z q.1.1) q.2.1 0 (q.2.2.1 0 - 1) (-1)).2.2 0 99 (-1)).2.1, (rnR f z (rnR f z (lexF f z q.1.1) q.2.1 0 (q.2.2.1 0 - 1) (-1)).2.1 (rnR f z (lexF f z q.1.1) q.2.1 0 (q.2.2.1 0 - 1) (-1)).2.2 0 99 (-1)).2.2, if (rnR f z (rnR f z (lexF f z q.1.1) q.2.1 0 (q.2.2.1 0 - 1) (-1)).2.1 (rnR f z (lexF f z q.1.1) q.2.1 0 (q.2.2.1 0 - 1) (-1)).2.2 0 99 (-1)).2.2 = -1 then putLS q.2.2 b (rnR f z (lexF f z q.1.1) q.2.1 0 (q.2.2.1 0 - 1) (-1)).1 (rnR f z (rnR f z (lexF f z q.1.1) q.2.1 0 (q.2.2.1 0 - 1) (-1)).2.1 (rnR f z (lexF f z q.1.1) q.2.1 0 (q.2.2.1 0 - 1) (-1)).2.2 0 99 (-1)).1 else q.2.2) else q
def dl1 (f : Nat → Int32) (z : Nat) (q : aP) : Int32 × aL × Int32 := rnR f z (lexF f z q.1.1) q.2.1 0 (q.2.2.1 0 - 1) (-1)
def dl2 (f : Nat → Int32) (z : Nat) (q : aP) : Int32 × aL × Int32 := rnR f z (dl1 f z q).2.1 (dl1 f z q).2.2 0 (q.2.2.1 0 - 1) (dl1 f z q).1
def dl3 (f : Nat → Int32) (z : Nat) (q : aP) : Int32 × aL × Int32 := rnR f z (dl2 f z q).2.1 (dl2 f z q).2.2 0 99 (-1)
def dl4 (f : Nat → Int32) (z : Nat) (q : aP) : Int32 × aL × Int32 := rnR f z (dl3 f z q).2.1 (dl3 f z q).2.2 0 99 (-1)
def stDeal (f : Nat → Int32) (z : Nat) (q : aP) : aP := if q.2.2.1 1 < 7 then (if (dl4 f z q).2.2 = -1 then hurF f z (q.2.2.1 1) 250 ((dl4 f z q).2.1, (dl4 f z q).2.2, addB q.2.2 (q.2.2.1 1).toNatClampNeg (dl1 f z q).1 (dl2 f z q).1 (dl3 f z q).1 (dl4 f z q).1) else ((dl4 f z q).2.1, (dl4 f z q).2.2, q.2.2)) else (q.1, faF q.1 q.2.1, q.2.2)
def gn1 (f : Nat → Int32) (z : Nat) (q : aP) : Int32 × aL × Int32 := rnR f z (lexF f z q.1.1) q.2.1 0 (q.2.2.1 1 - 1) (-1)
def gn2 (f : Nat → Int32) (z : Nat) (q : aP) : Int32 × aL × Int32 := rnR f z (gn1 f z q).2.1 (gn1 f z q).2.2 0 (q.2.2.1 0 - 1) (-1)
def gn3 (f : Nat → Int32) (z : Nat) (q : aP) : Int32 × aL × Int32 := rnR f z (gn2 f z q).2.1 (gn2 f z q).2.2 0 99 (-1)
def stGains (f : Nat → Int32) (z : Nat) (q : aP) : aP := ((gn3 f z q).2.1, (gn3 f z q).2.2, if (gn3 f z q).2.2 = -1 then putLS q.2.2 (gn1 f z q).1 (gn2 f z q).1 (-(gn3 f z q).1) else q.2.2)
def br2 (f : Nat → Int32) (z : Nat) (q : aP) : Int32 × aL × Int32 := rnR f z (gn1 f z q).2.1 (gn1 f z q).2.2 0 (q.2.2.1 1 - 1) (gn1 f z q).1
def stBars (f : Nat → Int32) (z : Nat) (q : aP) : aP := ((br2 f z q).2.1, (br2 f z q).2.2, if (br2 f z q).2.2 = -1 then putB q.2.2 (gn1 f z q).1.toNatClampNeg (br2 f z q).1.toNatClampNeg 1 else q.2.2)
def lw1 (f : Nat → Int32) (z c : Nat) (q : aP) : Int32 × aL × Int32 := rnR f z (lexF f z q.1.1) q.2.1 (if nI c = 0 then 1 else 0) (mostN c) (-1)
def stLaw (f : Nat → Int32) (z c : Nat) (q : aP) : aP := ((lw1 f z c q).2.1, (lw1 f z c q).2.2, if (lw1 f z c q).2.2 = -1 then upS q.2.2 (2 + c) (lw1 f z c q).1 else q.2.2)
theorem faF_ne {L : aL} {z : Nat} {fa : Int32} (hL : LOk L z) (hz : z ≤ 250) : ¬ faF L fa = -1 := by
  unfold faF
  split
  · exact nI_nem1 (by have := hL.1; have := hL.2.1; omega)
  · assumption
theorem rn_val {f : Nat → Int32} {z N : Nat} {L : aL} {fa but : Int32} (hL : LOk L z) (hz : z ≤ 250) (hN : N ≤ 7) (h : (rnR f z L fa 0 (nI N - 1) but).2.2 = -1) : fa = -1 ∧ ∃ j, j < N ∧ (rnR f z L fa 0 (nI N - 1) but).1 = nI j ∧ ¬ (rnR f z L fa 0 (nI N - 1) but).1 = but := by
  unfold rnR at h ⊢
  split at h
  · rename_i hok
    rw [if_pos hok]
    refine ⟨h, ?_⟩
    unfold okN wi0 at hok
    simp only [Bool.and_eq_true, Bool.not_eq_true', decide_eq_true_eq, decide_eq_false_iff_not] at hok
    obtain ⟨⟨h1, h2⟩, h3⟩ := hok
    obtain ⟨j, hj, e⟩ := nI_of h1
    refine ⟨j, ?_, e, h3⟩
    rw [e] at h2
    rcases Nat.lt_or_ge j N with q | q
    · exact q
    · exfalso
      apply h2
      rcases Nat.eq_zero_or_pos N with r | r
      · subst r
        exact Int32.lt_of_lt_of_le (by decide) (Int32.not_lt.mp (nI_pos hj))
      · rw [show nI N - 1 = nI (N - 1) from pk_sub (b := 1) r]
        exact nI_lt (by omega) hj
  · exact absurd h (faF_ne hL hz)
theorem rn_v99 {f : Nat → Int32} {z : Nat} {L : aL} {fa but : Int32} (hL : LOk L z) (hz : z ≤ 250) (h : (rnR f z L fa 0 99 but).2.2 = -1) : fa = -1 ∧ ∃ j, j ≤ 99 ∧ (rnR f z L fa 0 99 but).1 = nI j := by
  unfold rnR at h ⊢
  split at h
  · rename_i hok
    rw [if_pos hok]
    refine ⟨h, ?_⟩
    unfold okN wi0 at hok
    simp only [Bool.and_eq_true, Bool.not_eq_true', decide_eq_true_eq, decide_eq_false_iff_not] at hok
    obtain ⟨⟨h1, h2⟩, h3⟩ := hok
    obtain ⟨j, hj, e⟩ := nI_of h1
    refine ⟨j, ?_, e⟩
    rw [e] at h2
    rcases Nat.lt_or_ge 99 j with q | q
    · exact absurd (nI_lt q hj) h2
    · exact q
  · exact absurd h (faF_ne hL hz)
def rtFr (w w' : aW) (k t : Nat) : Prop := ∀ j, ¬ j = k → (j < t ∨ t + 8 < j) → w' j = w j
def PW (w w' : aW) (k t : Nat) (f : Nat → Int32) (z : Nat) (q : aP) (n : Nat) : Prop := RW w' k f z q.1 q.2.1 n ∧ TW w' t q.2.2 n ∧ rtFr w w' k t
section STMTS
variable {G : gE} {w : aW} {n k t : Nat} {f : Nat → Int32} {z : Nat} {q : aP}
theorem c_R_readOne (hR : RW w k f z q.1 q.2.1 n) (hT : TW w t q.2.2 n) (hd : k + 1 < t ∨ t + 8 < k) (hz : z ≤ 250) (hL : LOk q.1 z) : Mt G 3 y_R_readOne [.ref k, .ref t] w n 0 0 (fun r w' n' => r = none ∧ PW w w' k t f z (stOne f z q) n ∧ n' = n) := by
  refine Mt.of k_R_readOne l_R_readOne (Nat.le_of_ble_eq_true rfl) rfl ?_
  have hR0 := hR
  have hT0 := hT
  obtain ⟨g0, g1, hn⟩ := hR
  obtain ⟨e0, e1, e2, e3, e4, e5, e6, e7, e8, hm⟩ := hT
  unfold stOne
  refine r_aload_n (i := 1) i_R_readOne_0 rfl rfl ?_
  refine r_getfN (ci := 1) (T := Fk1) (k := 0) o_R_readOne i_R_readOne_1 x_R_83 rfl (by decide) rfl (by repeat (first | assumption | exact upw_s | refine (upw_n (by omega)).trans ?_)) (by first | assumption | omega) (by rfl) ?_
  refine r_bipush (v := (7 : Int32)) i_R_readOne_4 (by decide) ?_
  refine r_icmp_lt 16 i_R_readOne_6 (by decide) (fun h6 => ?_) (fun h6 => ?_)
  · skip
    rw [if_pos h6]
    refine r_aload_n (i := 1) i_R_readOne_16 rfl rfl ?_
    refine m_virtual o_R_readOne k_T_addPerson v_T_addPerson x_R_86 i_R_readOne_17 o_T_addPerson (c_T_addPerson hT0) rfl (rcv_ob (by repeat (first | assumption | exact upw_s | refine (upw_n (by omega)).trans ?_)) rfl (by first | assumption | omega)) rfl (by decide) (Nat.le_of_ble_eq_true rfl) (Nat.zero_le _) (Nat.zero_le _) (fun r1 w2 n1 hp9 => ?_)
    obtain ⟨rfl, ⟨hT2, hF2⟩, rfl⟩ := hp9
    have hR2 : RW w2 k f z q.1 q.2.1 n1 := hR0.fr (fun j q1 q2 => hF2 j (by omega))
    obtain ⟨p0, p1, hpn⟩ := id hR2
    refine r_pop i_R_readOne_20 rfl ?_
    refine r_aload_n (i := 0) i_R_readOne_21 rfl rfl ?_
    refine m_virtual o_R_readOne k_R_step v_R_step x_R_35 i_R_readOne_22 o_R_step (c_R_step hR2 hz hL.2.1) rfl (rcv_ob (by repeat (first | assumption | exact upw_s | refine (upw_n (by omega)).trans ?_)) rfl (by first | assumption | omega)) rfl (by decide) (Nat.le_of_ble_eq_true rfl) (Nat.zero_le _) (Nat.zero_le _) (fun r1 w3 n1 hp9 => ?_)
    obtain ⟨rfl, ⟨hR3, hF3⟩, rfl⟩ := hp9
    refine r_return i_R_readOne_25 t_R_readOne ?_
    first | exact ⟨rfl, ⟨hR3, hT2.fr (fun j q1 q2 => hF3 j (by omega)), fun j q1 q2 => (hF3 j q1).trans (hF2 j q2)⟩, rfl⟩ | exact ⟨rfl, ⟨hR2, hT0.fr (fun j q1 q2 => hF2 j (by omega)), fun j q1 q2 => hF2 j q1⟩, rfl⟩
  · skip
    rw [if_neg h6]
    refine r_aload_n (i := 0) i_R_readOne_9 rfl rfl ?_
    refine m_virtual o_R_readOne k_R_fail v_R_fail x_R_42 i_R_readOne_10 o_R_fail (c_R_fail hR0) rfl (rcv_ob (by repeat (first | assumption | exact upw_s | refine (upw_n (by omega)).trans ?_)) rfl (by first | assumption | omega)) rfl (by decide) (Nat.le_of_ble_eq_true rfl) (Nat.zero_le _) (Nat.zero_le _) (fun r1 w2 n1 hp9 => ?_)
    obtain ⟨rfl, ⟨hR2, hF2⟩, rfl⟩ := hp9
    refine r_goto 25 i_R_readOne_13 (by decide) ?_
    refine r_return i_R_readOne_25 t_R_readOne ?_
    first | exact ⟨rfl, ⟨hR3, hT2.fr (fun j q1 q2 => hF3 j (by omega)), fun j q1 q2 => (hF3 j q1).trans (hF2 j q2)⟩, rfl⟩ | exact ⟨rfl, ⟨hR2, hT0.fr (fun j q1 q2 => hF2 j (by omega)), fun j q1 q2 => hF2 j q1⟩, rfl⟩
theorem c_R_readLaw {c : Nat} (hc : c < 4) (hR : RW w k f z q.1 q.2.1 n) (hT : TW w t q.2.2 n) (hd : k + 1 < t ∨ t + 8 < k) (hz : z ≤ 250) (hL : LOk q.1 z) : Mt G 4 y_R_readLaw [.ref k, .ref t, .int (nI c)] w n 0 0 (fun r w' n' => r = none ∧ PW w w' k t f z (stLaw f z c q) n ∧ n' = n) := by
  refine Mt.of k_R_readLaw l_R_readLaw (Nat.le_of_ble_eq_true rfl) rfl ?_
  have hR0 := hR
  have hT0 := hT
  obtain ⟨g0, g1, hn⟩ := hR
  obtain ⟨e0, e1, e2, e3, e4, e5, e6, e7, e8, hm⟩ := hT
  have hlx := lex_le (f := f) hL.2.1
  refine r_aload_n (i := 0) i_R_readLaw_0 rfl rfl ?_
  refine m_virtual o_R_readLaw k_R_step v_R_step x_R_35 i_R_readLaw_1 o_R_step (c_R_step hR0 hz hL.2.1) rfl (rcv_ob (by repeat (first | assumption | exact upw_s | refine (upw_n (by omega)).trans ?_)) rfl (by first | assumption | omega)) rfl (by decide) (Nat.le_of_ble_eq_true rfl) (Nat.zero_le _) (Nat.zero_le _) (fun r1 w2 n1 hp9 => ?_)
  obtain ⟨rfl, ⟨hR2, hF2⟩, rfl⟩ := hp9
  obtain ⟨p0, p1, hpn⟩ := id hR2
  refine r_aload_n (i := 0) i_R_readLaw_4 rfl rfl ?_
  refine r_iload_n (i := 2) i_R_readLaw_5 rfl rfl ?_
  refine f_static o_R_readLaw k_T_leastOfLaw s_T_leastOfLaw x_R_111 i_R_readLaw_6 (c_T_leastOfLaw) rfl rfl (by decide) (Nat.le_of_ble_eq_true rfl) ?_
  refine r_iload_n (i := 2) i_R_readLaw_9 rfl rfl ?_
  refine f_static o_R_readLaw k_T_mostOfLaw s_T_mostOfLaw x_R_115 i_R_readLaw_10 (c_T_mostOfLaw hc) rfl rfl (by decide) (Nat.le_of_ble_eq_true rfl) ?_
  refine r_iconst (v := (-1 : Int32)) i_R_readLaw_13 rfl ?_
  refine m_virtual o_R_readLaw k_R_readNumber v_R_readNumber x_R_93 i_R_readLaw_14 o_R_readNumber (c_R_readNumber hR2 hz hlx) rfl (rcv_ob (by repeat (first | assumption | exact upw_s | refine (upw_n (by omega)).trans ?_)) rfl (by first | assumption | omega)) rfl (by decide) (Nat.le_of_ble_eq_true rfl) (Nat.zero_le _) (Nat.zero_le _) (fun r1 w3 n1 hp9 => ?_)
  obtain ⟨rfl, ⟨hR3, hF3⟩, rfl⟩ := hp9
  have hR3 : RW w3 k f z (lw1 f z c q).2.1 (lw1 f z c q).2.2 n1 := hR3
  have hT3 : TW w3 t q.2.2 n1 := hT0.fr (fun j q1 q2 => (hF3 j (by omega)).trans (hF2 j (by omega)))
  obtain ⟨s0, s1, hsn⟩ := id hR3
  obtain ⟨e0, e1, e2, e3, e4, e5, e6, e7, e8, hm⟩ := id hT3
  refine r_istore_3 i_R_readLaw_17 (by rw [l_R_readLaw]; decide) rfl ?_
  refine r_aload_n (i := 0) i_R_readLaw_18 rfl rfl ?_
  refine r_getf (ci := 3) (T := Fk3) (k := 5) o_R_readLaw i_R_readLaw_19 x_R_28 rfl (by decide) rfl (by repeat (first | assumption | exact upw_s | refine (upw_n (by omega)).trans ?_)) (by first | assumption | omega) (by rfl) ?_
  refine r_iconst (v := (-1 : Int32)) i_R_readLaw_22 rfl ?_
  refine r_icmp_ne 32 i_R_readLaw_23 (by decide) (fun h23 => ?_) (fun h23 => ?_)
  · skip
    refine r_return i_R_readLaw_32 t_R_readLaw ?_
    unfold stLaw
    first | (rw [if_neg h23]; exact ⟨rfl, ⟨hR3, hT3, fun j q1 q2 => (hF3 j q1).trans (hF2 j q1)⟩, rfl⟩) | (rw [if_pos h23]; exact ⟨rfl, ⟨hR3.fr (fun j q1 q2 => hF4 j (by omega)), hT4, fun j q1 q2 => (hF4 j q2).trans ((hF3 j q1).trans (hF2 j q1))⟩, rfl⟩)
  · skip
    refine r_aload_n (i := 1) i_R_readLaw_26 rfl rfl ?_
    refine r_iload_n (i := 2) i_R_readLaw_27 rfl rfl ?_
    refine r_iload_n (i := 3) i_R_readLaw_28 rfl rfl ?_
    refine m_virtual o_R_readLaw k_T_putLaw v_T_putLaw x_R_118 i_R_readLaw_29 o_T_putLaw (c_T_putLaw hc hT3) rfl (rcv_ob (by repeat (first | assumption | exact upw_s | refine (upw_n (by omega)).trans ?_)) rfl (by first | assumption | omega)) rfl (by decide) (Nat.le_of_ble_eq_true rfl) (Nat.zero_le _) (Nat.zero_le _) (fun r1 w4 n1 hp9 => ?_)
    obtain ⟨rfl, ⟨hT4, hF4⟩, rfl⟩ := hp9
    refine r_return i_R_readLaw_32 t_R_readLaw ?_
    unfold stLaw
    first | (rw [if_neg h23]; exact ⟨rfl, ⟨hR3, hT3, fun j q1 q2 => (hF3 j q1).trans (hF2 j q1)⟩, rfl⟩) | (rw [if_pos h23]; exact ⟨rfl, ⟨hR3.fr (fun j q1 q2 => hF4 j (by omega)), hT4, fun j q1 q2 => (hF4 j q2).trans ((hF3 j q1).trans (hF2 j q1))⟩, rfl⟩)
theorem c_R_readGains {P B : Nat} (hP : q.2.2.1 0 = nI P) (hP7 : P ≤ 7) (hB : q.2.2.1 1 = nI B) (hB7 : B ≤ 7) (hR : RW w k f z q.1 q.2.1 n) (hT : TW w t q.2.2 n) (hd : k + 1 < t ∨ t + 8 < k) (hz : z ≤ 250) (hL : LOk q.1 z) : Mt G 4 y_R_readGains [.ref k, .ref t] w n 0 0 (fun r w' n' => r = none ∧ PW w w' k t f z (stGains f z q) n ∧ n' = n) := by
  refine Mt.of k_R_readGains l_R_readGains (Nat.le_of_ble_eq_true rfl) rfl ?_
  have hR0 := hR
  have hT0 := hT
  obtain ⟨g0, g1, hn⟩ := hR
  obtain ⟨e0, e1, e2, e3, e4, e5, e6, e7, e8, hm⟩ := hT
  have hlx := lex_le (f := f) hL.2.1
  have hl1 : LOk (gn1 f z q).2.1 z := rn_ok hlx
  have hl2 : LOk (gn2 f z q).2.1 z := rn_ok hl1
  refine r_aload_n (i := 0) i_R_readGains_0 rfl rfl ?_
  refine m_virtual o_R_readGains k_R_step v_R_step x_R_35 i_R_readGains_1 o_R_step (c_R_step hR0 hz hL.2.1) rfl (rcv_ob (by repeat (first | assumption | exact upw_s | refine (upw_n (by omega)).trans ?_)) rfl (by first | assumption | omega)) rfl (by decide) (Nat.le_of_ble_eq_true rfl) (Nat.zero_le _) (Nat.zero_le _) (fun r1 w2 n1 hp9 => ?_)
  obtain ⟨rfl, ⟨hR2, hF2⟩, rfl⟩ := hp9
  have hT2 : TW w2 t q.2.2 n1 := hT0.fr (fun j q1 q2 => hF2 j (by omega))
  obtain ⟨p0, p1, hpn⟩ := id hR2
  obtain ⟨e0, e1, e2, e3, e4, e5, e6, e7, e8, hm⟩ := id hT2
  refine r_aload_n (i := 0) i_R_readGains_4 rfl rfl ?_
  refine r_iconst (v := (0 : Int32)) i_R_readGains_5 rfl ?_
  refine r_aload_n (i := 1) i_R_readGains_6 rfl rfl ?_
  refine r_getfN (ci := 1) (T := Fk1) (k := 1) o_R_readGains i_R_readGains_7 x_R_90 rfl (by decide) rfl (by repeat (first | assumption | exact upw_s | refine (upw_n (by omega)).trans ?_)) (by first | assumption | omega) (by rfl) ?_
  refine r_iconst (v := (1 : Int32)) i_R_readGains_10 rfl ?_
  refine r_isub i_R_readGains_11 ?_
  refine r_iconst (v := (-1 : Int32)) i_R_readGains_12 rfl ?_
  refine m_virtual o_R_readGains k_R_readNumber v_R_readNumber x_R_93 i_R_readGains_13 o_R_readNumber (c_R_readNumber hR2 hz hlx) rfl (rcv_ob (by repeat (first | assumption | exact upw_s | refine (upw_n (by omega)).trans ?_)) rfl (by first | assumption | omega)) rfl (by decide) (Nat.le_of_ble_eq_true rfl) (Nat.zero_le _) (Nat.zero_le _) (fun r1 w3 n1 hp9 => ?_)
  obtain ⟨rfl, ⟨hR3, hF3⟩, rfl⟩ := hp9
  have hR3 : RW w3 k f z (gn1 f z q).2.1 (gn1 f z q).2.2 n1 := hR3
  have hT3 : TW w3 t q.2.2 n1 := hT2.fr (fun j q1 q2 => hF3 j (by omega))
  obtain ⟨s0, s1, hsn⟩ := id hR3
  obtain ⟨e0, e1, e2, e3, e4, e5, e6, e7, e8, hm⟩ := id hT3
  refine r_istore_2 i_R_readGains_16 (by rw [l_R_readGains]; decide) rfl ?_
  refine r_aload_n (i := 0) i_R_readGains_17 rfl rfl ?_
  refine r_iconst (v := (0 : Int32)) i_R_readGains_18 rfl ?_
  refine r_aload_n (i := 1) i_R_readGains_19 rfl rfl ?_
  refine r_getfN (ci := 1) (T := Fk1) (k := 0) o_R_readGains i_R_readGains_20 x_R_83 rfl (by decide) rfl (by repeat (first | assumption | exact upw_s | refine (upw_n (by omega)).trans ?_)) (by first | assumption | omega) (by rfl) ?_
  refine r_iconst (v := (1 : Int32)) i_R_readGains_23 rfl ?_
  refine r_isub i_R_readGains_24 ?_
  refine r_iconst (v := (-1 : Int32)) i_R_readGains_25 rfl ?_
  refine m_virtual o_R_readGains k_R_readNumber v_R_readNumber x_R_93 i_R_readGains_26 o_R_readNumber (c_R_readNumber hR3 hz hl1) rfl (rcv_ob (by repeat (first | assumption | exact upw_s | refine (upw_n (by omega)).trans ?_)) rfl (by first | assumption | omega)) rfl (by decide) (Nat.le_of_ble_eq_true rfl) (Nat.zero_le _) (Nat.zero_le _) (fun r1 w4 n1 hp9 => ?_)
  obtain ⟨rfl, ⟨hR4, hF4⟩, rfl⟩ := hp9
  have hR4 : RW w4 k f z (gn2 f z q).2.1 (gn2 f z q).2.2 n1 := hR4
  have hT4 : TW w4 t q.2.2 n1 := hT3.fr (fun j q1 q2 => hF4 j (by omega))
  obtain ⟨s0, s1, hsn⟩ := id hR4
  refine r_istore_3 i_R_readGains_29 (by rw [l_R_readGains]; decide) rfl ?_
  refine r_aload_n (i := 0) i_R_readGains_30 rfl rfl ?_
  refine r_iconst (v := (0 : Int32)) i_R_readGains_31 rfl ?_
  refine r_bipush (v := (99 : Int32)) i_R_readGains_32 (by decide) ?_
  refine r_iconst (v := (-1 : Int32)) i_R_readGains_34 rfl ?_
  refine m_virtual o_R_readGains k_R_readNumber v_R_readNumber x_R_93 i_R_readGains_35 o_R_readNumber (c_R_readNumber hR4 hz hl2) rfl (rcv_ob (by repeat (first | assumption | exact upw_s | refine (upw_n (by omega)).trans ?_)) rfl (by first | assumption | omega)) rfl (by decide) (Nat.le_of_ble_eq_true rfl) (Nat.zero_le _) (Nat.zero_le _) (fun r1 w5 n1 hp9 => ?_)
  obtain ⟨rfl, ⟨hR5, hF5⟩, rfl⟩ := hp9
  have hR5 : RW w5 k f z (gn3 f z q).2.1 (gn3 f z q).2.2 n1 := hR5
  have hT5 : TW w5 t q.2.2 n1 := hT4.fr (fun j q1 q2 => hF5 j (by omega))
  have hF : rFr w w5 k := fun j q1 => (hF5 j q1).trans ((hF4 j q1).trans ((hF3 j q1).trans (hF2 j q1)))
  obtain ⟨s0, s1, hsn⟩ := id hR5
  obtain ⟨e0, e1, e2, e3, e4, e5, e6, e7, e8, hm⟩ := id hT5
  refine r_istore_4 i_R_readGains_38 (by rw [l_R_readGains]; decide) rfl ?_
  refine r_aload_n (i := 0) i_R_readGains_40 rfl rfl ?_
  refine r_getf (ci := 3) (T := Fk3) (k := 5) o_R_readGains i_R_readGains_41 x_R_28 rfl (by decide) rfl (by repeat (first | assumption | exact upw_s | refine (upw_n (by omega)).trans ?_)) (by first | assumption | omega) (by rfl) ?_
  refine r_iconst (v := (-1 : Int32)) i_R_readGains_44 rfl ?_
  refine r_icmp_ne 57 i_R_readGains_45 (by decide) (fun h45 => ?_) (fun h45 => ?_)
  · skip
    refine r_return i_R_readGains_57 t_R_readGains ?_
    unfold stGains
    first | (rw [if_neg h45]; exact ⟨rfl, ⟨hR5, hT5, fun j q1 q2 => hF j q1⟩, rfl⟩) | skip
    rw [if_pos h45]
    refine ⟨rfl, ⟨hR5.fr (fun j q1 q2 => hF6 j (by omega)), ?_, fun j q1 q2 => (hF6 j q2).trans (hF j q1)⟩, rfl⟩
    show TW w6 t (putLS q.2.2 (gn1 f z q).1 (gn2 f z q).1 (-(gn3 f z q).1)) _
    unfold putLS
    rw [v1, v2, nI_clamp (by omega), nI_clamp (by omega)]
    exact hT6
  · skip
    obtain ⟨f2, j3, b3, v3⟩ := rn_v99 hl2 hz h45
    have k2 := rn_val (f := f) (z := z) (N := P) (L := (gn1 f z q).2.1) (fa := (gn1 f z q).2.2) (but := -1) hl1 hz hP7
    rw [← hP] at k2
    obtain ⟨f1, j2, b2, v2, -⟩ := k2 f2
    have k1 := rn_val (f := f) (z := z) (N := B) (L := lexF f z q.1.1) (fa := q.2.1) (but := -1) hlx hz hB7
    rw [← hB] at k1
    obtain ⟨f0, j1, b1, v1, -⟩ := k1 f1
    have v1 : (gn1 f z q).1 = nI j1 := v1
    have v2 : (gn2 f z q).1 = nI j2 := v2
    refine r_aload_n (i := 1) i_R_readGains_48 rfl rfl ?_
    refine r_iload_n (i := 2) i_R_readGains_49 rfl rfl ?_
    refine r_iload_n (i := 3) i_R_readGains_50 rfl rfl ?_
    refine r_iload (i := 4) i_R_readGains_51 rfl ?_
    refine r_ineg i_R_readGains_53 ?_
    rw [show (rnR f z (lexF f z q.1.1) q.2.1 0 (q.2.2.1 1 - 1) (-1)).1 = nI j1 from v1, show (rnR f z (gn1 f z q).2.1 (gn1 f z q).2.2 0 (q.2.2.1 0 - 1) (-1)).1 = nI j2 from v2]
    refine m_virtual o_R_readGains k_T_putLoss v_T_putLoss x_R_103 i_R_readGains_54 o_T_putLoss (c_T_putLoss hT5 (by omega) (by omega)) rfl (rcv_ob (by repeat (first | assumption | exact upw_s | refine (upw_n (by omega)).trans ?_)) rfl (by first | assumption | omega)) rfl (by decide) (Nat.le_of_ble_eq_true rfl) (Nat.zero_le _) (Nat.zero_le _) (fun r1 w6 n1 hp9 => ?_)
    obtain ⟨rfl, ⟨hT6, hF6⟩, rfl⟩ := hp9
    refine r_return i_R_readGains_57 t_R_readGains ?_
    unfold stGains
    first | (rw [if_neg h45]; exact ⟨rfl, ⟨hR5, hT5, fun j q1 q2 => hF j q1⟩, rfl⟩) | skip
    rw [if_pos h45]
    refine ⟨rfl, ⟨hR5.fr (fun j q1 q2 => hF6 j (by omega)), ?_, fun j q1 q2 => (hF6 j q2).trans (hF j q1)⟩, rfl⟩
    show TW w6 t (putLS q.2.2 (gn1 f z q).1 (gn2 f z q).1 (-(gn3 f z q).1)) _
    unfold putLS
    rw [v1, v2, nI_clamp (by omega), nI_clamp (by omega)]
    exact hT6
end STMTS
