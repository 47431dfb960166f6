-- READER: deals, a whole text
section DEAL
variable {G : gE} {w : aW} {n k t : Nat} {f : Nat → Int32} {z : Nat} {q : aP}
theorem hur_P {b : Int32} : ∀ m (q : aP), (hurF f z b m q).2.2.1 = q.2.2.1
  | 0, _ => rfl
  | m + 1, q => by
    unfold hurF
    split
    · rw [hur_P m]
      unfold huS
      dsimp only
      split
      · rfl
      · rfl
    · rfl
theorem hur_ok {b : Int32} : ∀ m (q : aP), LOk q.1 z → LOk (hurF f z b m q).1 z
  | 0, _, h => h
  | m + 1, q, h => by
    unfold hurF
    split
    · exact hur_ok m _ (rn_ok (rn_ok (lex_le h.2.1)))
    · exact h
def dLoc (k t : Nat) (a b c d e : Option Value) (m : Nat) (x y : Option Value) : List (Option Value) := [some (.ref k), some (.ref t), a, b, c, d, e, some (.int (nI m)), x, y]
theorem c_deal_loop {P B : Nat} {w0 : aW} (hfm : (gfm G).category = 1) (hP7 : P ≤ 7) (hB7 : B < 7) (hd : k + 1 < t ∨ t + 8 < k) (hz : z ≤ 250) (a b c d : Option Value) : ∀ m i : Nat, i + m = 250 → ∀ (q : aP) (w : aW) (x y : Option Value), q.2.2.1 0 = nI P → LOk q.1 z → RW w k f z q.1 q.2.1 n → TW w t q.2.2 n → rtFr w0 w k t → Go G 6 y_R_readDeal 88 (dLoc k t a b c d (some (.int (nI B))) i x y) [] w n 0 0 (fun r w' n' => r = none ∧ PW w0 w' k t f z (hurF f z (nI B) m q) n ∧ n' = n) := by
  intro m
  induction m with
  | zero =>
    intro i hi q w x y hP hL hR hT hF
    have hi : i = 250 := by omega
    subst hi
    unfold dLoc
    refine r_iload (i := 7) i_R_readDeal_88 rfl ?_
    refine r_sipush (v := (250 : Int32)) i_R_readDeal_90 (by decide) ?_
    refine r_icmp_ge 165 i_R_readDeal_93 (by decide) (fun h93 => ?_) (fun h93 => (absurd (by decide) h93))
    refine r_return i_R_readDeal_165 t_R_readDeal ?_
    exact ⟨rfl, ⟨hR, hT, hF⟩, rfl⟩
  | succ m ih =>
    intro i hi q w x y hP hL hR hT hF
    have hR0 := hR
    have hT0 := hT
    obtain ⟨g0, g1, hn⟩ := hR
    obtain ⟨e0, e1, e2, e3, e4, e5, e6, e7, e8, hm⟩ := hT
    have hlx := lex_le (f := f) hL.2.1
    obtain ⟨v1, E1⟩ : ∃ v, rnR f z (lexF f z q.1.1) q.2.1 0 (q.2.2.1 0 - 1) (-1) = v := ⟨_, rfl⟩
    have hl1 : LOk v1.2.1 z := rn_okE E1 hlx
    obtain ⟨v2, E2⟩ : ∃ v, rnR f z v1.2.1 v1.2.2 0 99 (-1) = v := ⟨_, rfl⟩
    have hl2 : LOk v2.2.1 z := rn_okE E2 hl1
    have hst : hurF f z (nI B) (m + 1) q = if q.2.1 = -1 ∧ wordB f q.1 2 = true then hurF f z (nI B) m (huS (nI B) q v1 v2) else q := by
      show (if q.2.1 = -1 ∧ wordB f q.1 2 = true then hurF f z (nI B) m (huS (nI B) q (rn1 f z (q.2.2.1 0) q) (rn9 f z (rn1 f z (q.2.2.1 0) q))) else q) = _
      unfold rn9 rn1
      rw [E1, E2]
    rw [hst]
    unfold dLoc
    refine r_iload (i := 7) i_R_readDeal_88 rfl ?_
    refine r_sipush (v := (250 : Int32)) i_R_readDeal_90 (by decide) ?_
    refine r_icmp_ge 165 i_R_readDeal_93 (by decide) (fun h93 => (absurd h93 (nI_ge (b := 250) (by omega) (by decide)))) (fun h93 => ?_)
    refine r_aload_n (i := 0) i_R_readDeal_96 rfl rfl ?_
    refine r_getf (ci := 3) (T := Fk3) (k := 5) o_R_readDeal i_R_readDeal_97 x_R_28 rfl (by decide) rfl (by repeat (first | assumption | exact upw_s | refine (upw_n (by omega)).trans ?_)) (by first | assumption | omega) (by rfl) ?_
    refine r_iconst (v := (-1 : Int32)) i_R_readDeal_100 rfl ?_
    refine r_icmp_ne 165 i_R_readDeal_101 (by decide) (fun h101 => ?_) (fun h101 => ?_)
    · skip
      rw [if_neg (fun q => h101 q.1)]
      refine r_return i_R_readDeal_165 t_R_readDeal ?_
      exact ⟨rfl, ⟨hR0, hT0, hF⟩, rfl⟩
    · skip
      refine r_aload_n (i := 0) i_R_readDeal_104 rfl rfl ?_
      refine r_ldcS (j := 2) (tx := "hurts") o_R_readDeal i_R_readDeal_105 (by decide) ?_
      refine f_virtual o_R_readDeal k_R_isWord v_R_isWord x_R_47 i_R_readDeal_107 o_R_isWord (c_R_isWord hfm hR0 hz hL (by decide)) rfl (rcv_ob (by repeat (first | assumption | exact upw_s | refine (upw_n (by omega)).trans ?_)) rfl (by first | assumption | omega)) rfl (by decide) (Nat.le_of_ble_eq_true rfl) ?_
      refine r_if_eq 165 i_R_readDeal_110 (by decide) (fun h110 => ?_) (fun h110 => ?_)
      · skip
        have h110 := bI_eq0.mp h110
        rw [if_neg (fun q => by rw [h110] at q; exact absurd q.2 (by decide))]
        refine r_return i_R_readDeal_165 t_R_readDeal ?_
        exact ⟨rfl, ⟨hR0, hT0, hF⟩, rfl⟩
      · skip
        have h110 := bI_ne0.mp h110
        rw [if_pos ⟨h101, h110⟩]
        refine r_aload_n (i := 0) i_R_readDeal_113 rfl rfl ?_
        refine m_virtual o_R_readDeal k_R_step v_R_step x_R_35 i_R_readDeal_114 o_R_step (c_R_step hR0 hz hL.2.1) rfl (rcv_ob (by repeat (first | assumption | exact upw_s | refine (upw_n (by omega)).trans ?_)) rfl (by first | assumption | omega)) rfl (by decide) (Nat.le_of_ble_eq_true rfl) (Nat.zero_le _) (Nat.zero_le _) (fun r1 w2 n1 hp9 => ?_)
        obtain ⟨rfl, ⟨hR2, hF2⟩, rfl⟩ := hp9
        have hT2 : TW w2 t q.2.2 n1 := hT0.fr (fun j q1 q2 => hF2 j (by omega))
        obtain ⟨p0, p1, hpn⟩ := id hR2
        obtain ⟨e0, e1, e2, e3, e4, e5, e6, e7, e8, hm⟩ := id hT2
        refine r_aload_n (i := 0) i_R_readDeal_117 rfl rfl ?_
        refine r_iconst (v := (0 : Int32)) i_R_readDeal_118 rfl ?_
        refine r_aload_n (i := 1) i_R_readDeal_119 rfl rfl ?_
        refine r_getfN (ci := 1) (T := Fk1) (k := 0) o_R_readDeal i_R_readDeal_120 x_R_83 rfl (by decide) rfl (by repeat (first | assumption | exact upw_s | refine (upw_n (by omega)).trans ?_)) (by first | assumption | omega) (by rfl) ?_
        refine r_iconst (v := (1 : Int32)) i_R_readDeal_123 rfl ?_
        refine r_isub i_R_readDeal_124 ?_
        refine r_iconst (v := (-1 : Int32)) i_R_readDeal_125 rfl ?_
        refine m_virtual o_R_readDeal k_R_readNumber v_R_readNumber x_R_93 i_R_readDeal_126 o_R_readNumber (c_R_readNumberE E1 hR2 hz hlx) rfl (rcv_ob (by repeat (first | assumption | exact upw_s | refine (upw_n (by omega)).trans ?_)) rfl (by first | assumption | omega)) rfl (by decide) (Nat.le_of_ble_eq_true rfl) (Nat.zero_le _) (Nat.zero_le _) (fun r1 w3 n1 hp9 => ?_)
        obtain ⟨rfl, ⟨hR3, hF3⟩, rfl⟩ := hp9
        have hT3 : TW w3 t q.2.2 n1 := hT2.fr (fun j q1 q2 => hF3 j (by omega))
        obtain ⟨s0, s1, hsn⟩ := id hR3
        refine r_istore_8 i_R_readDeal_129 (by rw [l_R_readDeal]; decide) rfl ?_
        refine r_aload_n (i := 0) i_R_readDeal_131 rfl rfl ?_
        refine r_iconst (v := (0 : Int32)) i_R_readDeal_132 rfl ?_
        refine r_bipush (v := (99 : Int32)) i_R_readDeal_133 (by decide) ?_
        refine r_iconst (v := (-1 : Int32)) i_R_readDeal_135 rfl ?_
        refine m_virtual o_R_readDeal k_R_readNumber v_R_readNumber x_R_93 i_R_readDeal_136 o_R_readNumber (c_R_readNumberE E2 hR3 hz hl1) rfl (rcv_ob (by repeat (first | assumption | exact upw_s | refine (upw_n (by omega)).trans ?_)) rfl (by first | assumption | omega)) rfl (by decide) (Nat.le_of_ble_eq_true rfl) (Nat.zero_le _) (Nat.zero_le _) (fun r1 w4 n1 hp9 => ?_)
        obtain ⟨rfl, ⟨hR4, hF4⟩, rfl⟩ := hp9
        have hT4 : TW w4 t q.2.2 n1 := hT3.fr (fun j q1 q2 => hF4 j (by omega))
        have hF' : rtFr w0 w4 k t := fun j q1 q2 => (hF4 j q1).trans ((hF3 j q1).trans ((hF2 j q1).trans (hF j q1 q2)))
        obtain ⟨s0, s1, hsn⟩ := id hR4
        obtain ⟨e0, e1, e2, e3, e4, e5, e6, e7, e8, hm⟩ := id hT4
        refine r_istore_9 i_R_readDeal_139 (by rw [l_R_readDeal]; decide) rfl ?_
        refine r_aload_n (i := 0) i_R_readDeal_141 rfl rfl ?_
        refine r_getf (ci := 3) (T := Fk3) (k := 5) o_R_readDeal i_R_readDeal_142 x_R_28 rfl (by decide) rfl (by repeat (first | assumption | exact upw_s | refine (upw_n (by omega)).trans ?_)) (by first | assumption | omega) (by rfl) ?_
        refine r_iconst (v := (-1 : Int32)) i_R_readDeal_145 rfl ?_
        refine r_icmp_ne 159 i_R_readDeal_146 (by decide) (fun h146 => ?_) (fun h146 => ?_)
        · skip
          have e9 : huS (nI B) q v1 v2 = (v2.2.1, v2.2.2, q.2.2) := by unfold huS; rw [if_neg h146]
          rw [e9]
          refine r_iinc_7 (v := (1 : Int32)) i_R_readDeal_159 rfl (by rw [l_R_readDeal]; decide) rfl ?_
          refine r_goto 88 i_R_readDeal_162 (by decide) ?_
          rw [nI_1]
          first
            | exact ih (i + 1) (by omega) (v2.2.1, v2.2.2, q.2.2) _ (some (.int v1.1)) (some (.int v2.1)) hP hl2 hR4 hT4 hF'
            | exact ih (i + 1) (by omega) (v2.2.1, v2.2.2, putLS q.2.2 (nI B) (nI j1) v2.1) _ (some (.int (nI j1))) (some (.int v2.1)) hP hl2 (hR4.fr (fun j q1 q2 => hF6 j (by omega))) (by show TW w6 t (putLS q.2.2 (nI B) (nI j1) v2.1) _; unfold putLS; rw [nI_clamp (by omega), nI_clamp (by omega)]; exact hT6) (fun j q1 q2 => (hF6 j q2).trans (hF' j q1 q2))
        · skip
          obtain ⟨f1, j2, b2, u2⟩ := rn_v99E E2 hl1 hz h146
          obtain ⟨f0, j1, b1, u1, -⟩ := rn_valE (by rw [hP] at E1; exact E1) hlx hz hP7 f1
          have e9 : huS (nI B) q v1 v2 = (v2.2.1, v2.2.2, putLS q.2.2 (nI B) v1.1 v2.1) := by unfold huS; rw [if_pos h146]
          rw [e9]
          refine r_aload_n (i := 1) i_R_readDeal_149 rfl rfl ?_
          refine r_iload (i := 6) i_R_readDeal_150 rfl ?_
          refine r_iload (i := 8) i_R_readDeal_152 rfl ?_
          refine r_iload (i := 9) i_R_readDeal_154 rfl ?_
          rw [u1]
          refine m_virtual o_R_readDeal k_T_putLoss v_T_putLoss x_R_103 i_R_readDeal_156 o_T_putLoss (c_T_putLoss hT4 (by omega) (by omega)) rfl (rcv_ob (by repeat (first | assumption | exact upw_s | refine (upw_n (by omega)).trans ?_)) rfl (by first | assumption | omega)) rfl (by decide) (Nat.le_of_ble_eq_true rfl) (Nat.zero_le _) (Nat.zero_le _) (fun r1 w6 n1 hp9 => ?_)
          obtain ⟨rfl, ⟨hT6, hF6⟩, rfl⟩ := hp9
          refine r_iinc_7 (v := (1 : Int32)) i_R_readDeal_159 rfl (by rw [l_R_readDeal]; decide) rfl ?_
          refine r_goto 88 i_R_readDeal_162 (by decide) ?_
          rw [nI_1]
          first
            | exact ih (i + 1) (by omega) (v2.2.1, v2.2.2, q.2.2) _ (some (.int v1.1)) (some (.int v2.1)) hP hl2 hR4 hT4 hF'
            | exact ih (i + 1) (by omega) (v2.2.1, v2.2.2, putLS q.2.2 (nI B) (nI j1) v2.1) _ (some (.int (nI j1))) (some (.int v2.1)) hP hl2 (hR4.fr (fun j q1 q2 => hF6 j (by omega))) (by show TW w6 t (putLS q.2.2 (nI B) (nI j1) v2.1) _; unfold putLS; rw [nI_clamp (by omega), nI_clamp (by omega)]; exact hT6) (fun j q1 q2 => (hF6 j q2).trans (hF' j q1 q2))
theorem c_R_readDeal {P B : Nat} (hfm : (gfm G).category = 1) (hP : q.2.2.1 0 = nI P) (hP7 : P ≤ 7) (hB : q.2.2.1 1 = nI B) (hB7 : B ≤ 7) (hR : RW w k f z q.1 q.2.1 n) (hT : TW w t q.2.2 n) (hd : k + 1 < t ∨ t + 8 < k) (hz : z ≤ 250) (hL : LOk q.1 z) : Mt G 6 y_R_readDeal [.ref k, .ref t] w n 0 0 (fun r w' n' => r = none ∧ PW w w' k t f z (stDeal f z q) n ∧ n' = n) := by
  refine Mt.of k_R_readDeal l_R_readDeal (Nat.le_of_ble_eq_true rfl) rfl ?_
  have hR0 := hR
  have hT0 := hT
  obtain ⟨g0, g1, hn⟩ := hR
  obtain ⟨e0, e1, e2, e3, e4, e5, e6, e7, e8, hm⟩ := hT
  have hlx := lex_le (f := f) hL.2.1
  obtain ⟨v1, E1⟩ : ∃ v, rnR f z (lexF f z q.1.1) q.2.1 0 (q.2.2.1 0 - 1) (-1) = v := ⟨_, rfl⟩
  have hl1 : LOk v1.2.1 z := rn_okE E1 hlx
  obtain ⟨v2, E2⟩ : ∃ v, rnR f z v1.2.1 v1.2.2 0 (q.2.2.1 0 - 1) v1.1 = v := ⟨_, rfl⟩
  have hl2 : LOk v2.2.1 z := rn_okE E2 hl1
  obtain ⟨v3, E3⟩ : ∃ v, rnR f z v2.2.1 v2.2.2 0 99 (-1) = v := ⟨_, rfl⟩
  have hl3 : LOk v3.2.1 z := rn_okE E3 hl2
  obtain ⟨v4, E4⟩ : ∃ v, rnR f z v3.2.1 v3.2.2 0 99 (-1) = v := ⟨_, rfl⟩
  have hl4 : LOk v4.2.1 z := rn_okE E4 hl3
  have hst : stDeal f z q = if q.2.2.1 1 < 7 then dlS f z q v1 v2 v3 v4 else (q.1, faF q.1 q.2.1, q.2.2) := by unfold stDeal rn9 rnP rn1; rw [E1, E2, E3, E4]
  rw [hst]
  refine r_aload_n (i := 1) i_R_readDeal_0 rfl rfl ?_
  refine r_getfN (ci := 1) (T := Fk1) (k := 1) o_R_readDeal i_R_readDeal_1 x_R_90 rfl (by decide) rfl (by repeat (first | assumption | exact upw_s | refine (upw_n (by omega)).trans ?_)) (by first | assumption | omega) (by rfl) ?_
  refine r_bipush (v := (7 : Int32)) i_R_readDeal_4 (by decide) ?_
  refine r_icmp_lt 14 i_R_readDeal_6 (by decide) (fun h6 => ?_) (fun h6 => ?_)
  · skip
    rw [if_pos h6]
    have hB8 : B < 7 := by
      rcases Nat.lt_or_ge B 7 with r | r
      · exact r
      · exact absurd h6 (by rw [hB]; exact nI_nlt (b := 7) r (by omega))
    refine r_aload_n (i := 0) i_R_readDeal_14 rfl rfl ?_
    refine m_virtual o_R_readDeal k_R_step v_R_step x_R_35 i_R_readDeal_15 o_R_step (c_R_step hR0 hz hL.2.1) rfl (rcv_ob (by repeat (first | assumption | exact upw_s | refine (upw_n (by omega)).trans ?_)) rfl (by first | assumption | omega)) rfl (by decide) (Nat.le_of_ble_eq_true rfl) (Nat.zero_le _) (Nat.zero_le _) (fun r1 w2 n1 hp9 => ?_)
    obtain ⟨rfl, ⟨hR2, hF2⟩, rfl⟩ := hp9
    have hT2 : TW w2 t q.2.2 n1 := hT0.fr (fun j q1 q2 => hF2 j (by omega))
    obtain ⟨p0, p1, hpn⟩ := id hR2
    obtain ⟨e0, e1, e2, e3, e4, e5, e6, e7, e8, hm⟩ := id hT2
    refine r_aload_n (i := 0) i_R_readDeal_18 rfl rfl ?_
    refine r_iconst (v := (0 : Int32)) i_R_readDeal_19 rfl ?_
    refine r_aload_n (i := 1) i_R_readDeal_20 rfl rfl ?_
    refine r_getfN (ci := 1) (T := Fk1) (k := 0) o_R_readDeal i_R_readDeal_21 x_R_83 rfl (by decide) rfl (by repeat (first | assumption | exact upw_s | refine (upw_n (by omega)).trans ?_)) (by first | assumption | omega) (by rfl) ?_
    refine r_iconst (v := (1 : Int32)) i_R_readDeal_24 rfl ?_
    refine r_isub i_R_readDeal_25 ?_
    refine r_iconst (v := (-1 : Int32)) i_R_readDeal_26 rfl ?_
    refine m_virtual o_R_readDeal k_R_readNumber v_R_readNumber x_R_93 i_R_readDeal_27 o_R_readNumber (c_R_readNumberE E1 hR2 hz hlx) rfl (rcv_ob (by repeat (first | assumption | exact upw_s | refine (upw_n (by omega)).trans ?_)) rfl (by first | assumption | omega)) rfl (by decide) (Nat.le_of_ble_eq_true rfl) (Nat.zero_le _) (Nat.zero_le _) (fun r1 w3 n1 hp9 => ?_)
    obtain ⟨rfl, ⟨hR3, hF3⟩, rfl⟩ := hp9
    have hT3 : TW w3 t q.2.2 n1 := hT2.fr (fun j q1 q2 => hF3 j (by omega))
    obtain ⟨s0, s1, hsn⟩ := id hR3
    obtain ⟨e0, e1, e2, e3, e4, e5, e6, e7, e8, hm⟩ := id hT3
    refine r_istore_2 i_R_readDeal_30 (by rw [l_R_readDeal]; decide) rfl ?_
    refine r_aload_n (i := 0) i_R_readDeal_31 rfl rfl ?_
    refine r_iconst (v := (0 : Int32)) i_R_readDeal_32 rfl ?_
    refine r_aload_n (i := 1) i_R_readDeal_33 rfl rfl ?_
    refine r_getfN (ci := 1) (T := Fk1) (k := 0) o_R_readDeal i_R_readDeal_34 x_R_83 rfl (by decide) rfl (by repeat (first | assumption | exact upw_s | refine (upw_n (by omega)).trans ?_)) (by first | assumption | omega) (by rfl) ?_
    refine r_iconst (v := (1 : Int32)) i_R_readDeal_37 rfl ?_
    refine r_isub i_R_readDeal_38 ?_
    refine r_iload_n (i := 2) i_R_readDeal_39 rfl rfl ?_
    refine m_virtual o_R_readDeal k_R_readNumber v_R_readNumber x_R_93 i_R_readDeal_40 o_R_readNumber (c_R_readNumberE E2 hR3 hz hl1) rfl (rcv_ob (by repeat (first | assumption | exact upw_s | refine (upw_n (by omega)).trans ?_)) rfl (by first | assumption | omega)) rfl (by decide) (Nat.le_of_ble_eq_true rfl) (Nat.zero_le _) (Nat.zero_le _) (fun r1 w4 n1 hp9 => ?_)
    obtain ⟨rfl, ⟨hR4, hF4⟩, rfl⟩ := hp9
    have hT4 : TW w4 t q.2.2 n1 := hT3.fr (fun j q1 q2 => hF4 j (by omega))
    obtain ⟨s0, s1, hsn⟩ := id hR4
    refine r_istore_3 i_R_readDeal_43 (by rw [l_R_readDeal]; decide) rfl ?_
    refine r_aload_n (i := 0) i_R_readDeal_44 rfl rfl ?_
    refine r_iconst (v := (0 : Int32)) i_R_readDeal_45 rfl ?_
    refine r_bipush (v := (99 : Int32)) i_R_readDeal_46 (by decide) ?_
    refine r_iconst (v := (-1 : Int32)) i_R_readDeal_48 rfl ?_
    refine m_virtual o_R_readDeal k_R_readNumber v_R_readNumber x_R_93 i_R_readDeal_49 o_R_readNumber (c_R_readNumberE E3 hR4 hz hl2) rfl (rcv_ob (by repeat (first | assumption | exact upw_s | refine (upw_n (by omega)).trans ?_)) rfl (by first | assumption | omega)) rfl (by decide) (Nat.le_of_ble_eq_true rfl) (Nat.zero_le _) (Nat.zero_le _) (fun r1 w5 n1 hp9 => ?_)
    obtain ⟨rfl, ⟨hR5, hF5⟩, rfl⟩ := hp9
    have hT5 : TW w5 t q.2.2 n1 := hT4.fr (fun j q1 q2 => hF5 j (by omega))
    obtain ⟨s0, s1, hsn⟩ := id hR5
    refine r_istore_4 i_R_readDeal_52 (by rw [l_R_readDeal]; decide) rfl ?_
    refine r_aload_n (i := 0) i_R_readDeal_54 rfl rfl ?_
    refine r_iconst (v := (0 : Int32)) i_R_readDeal_55 rfl ?_
    refine r_bipush (v := (99 : Int32)) i_R_readDeal_56 (by decide) ?_
    refine r_iconst (v := (-1 : Int32)) i_R_readDeal_58 rfl ?_
    refine m_virtual o_R_readDeal k_R_readNumber v_R_readNumber x_R_93 i_R_readDeal_59 o_R_readNumber (c_R_readNumberE E4 hR5 hz hl3) rfl (rcv_ob (by repeat (first | assumption | exact upw_s | refine (upw_n (by omega)).trans ?_)) rfl (by first | assumption | omega)) rfl (by decide) (Nat.le_of_ble_eq_true rfl) (Nat.zero_le _) (Nat.zero_le _) (fun r1 w6 n1 hp9 => ?_)
    obtain ⟨rfl, ⟨hR6, hF6⟩, rfl⟩ := hp9
    have hT6 : TW w6 t q.2.2 n1 := hT5.fr (fun j q1 q2 => hF6 j (by omega))
    have hF : rFr w w6 k := fun j q1 => (hF6 j q1).trans ((hF5 j q1).trans ((hF4 j q1).trans ((hF3 j q1).trans (hF2 j q1))))
    obtain ⟨s0, s1, hsn⟩ := id hR6
    obtain ⟨e0, e1, e2, e3, e4, e5, e6, e7, e8, hm⟩ := id hT6
    refine r_istore_5 i_R_readDeal_62 (by rw [l_R_readDeal]; decide) rfl ?_
    refine r_aload_n (i := 0) i_R_readDeal_64 rfl rfl ?_
    refine r_getf (ci := 3) (T := Fk3) (k := 5) o_R_readDeal i_R_readDeal_65 x_R_28 rfl (by decide) rfl (by repeat (first | assumption | exact upw_s | refine (upw_n (by omega)).trans ?_)) (by first | assumption | omega) (by rfl) ?_
    refine r_iconst (v := (-1 : Int32)) i_R_readDeal_68 rfl ?_
    refine r_icmp_eq 73 i_R_readDeal_69 (by decide) (fun h69 => ?_) (fun h69 => ?_)
    · skip
      have e9 : dlS f z q v1 v2 v3 v4 = hurF f z (nI B) 250 (v4.2.1, v4.2.2, addB q.2.2 B v1.1 v2.1 v3.1 v4.1) := by unfold dlS; rw [if_pos h69, hB, nI_clamp (by omega)]
      rw [e9]
      refine r_aload_n (i := 1) i_R_readDeal_73 rfl rfl ?_
      refine r_iload_n (i := 2) i_R_readDeal_74 rfl rfl ?_
      refine r_iload_n (i := 3) i_R_readDeal_75 rfl rfl ?_
      refine r_iload (i := 4) i_R_readDeal_76 rfl ?_
      refine r_iload (i := 5) i_R_readDeal_78 rfl ?_
      refine m_virtual o_R_readDeal k_T_addBargain v_T_addBargain x_R_97 i_R_readDeal_80 o_T_addBargain (c_T_addBargain hT6 hB hB8) rfl (rcv_ob (by repeat (first | assumption | exact upw_s | refine (upw_n (by omega)).trans ?_)) rfl (by first | assumption | omega)) rfl (by decide) (Nat.le_of_ble_eq_true rfl) (Nat.zero_le _) (Nat.zero_le _) (fun r1 w7 n1 hp9 => ?_)
      obtain ⟨rfl, ⟨hT7, hF7⟩, rfl⟩ := hp9
      refine r_istore_6 i_R_readDeal_83 (by rw [l_R_readDeal]; decide) rfl ?_
      refine r_iconst (v := (0 : Int32)) i_R_readDeal_85 rfl ?_
      refine r_istore_7 i_R_readDeal_86 (by rw [l_R_readDeal]; decide) rfl ?_
      exact c_deal_loop hfm hP7 hB8 hd hz _ _ _ _ 250 0 (by omega) (v4.2.1, v4.2.2, addB q.2.2 B v1.1 v2.1 v3.1 v4.1) _ none none hP hl4 (hR6.fr (fun j q1 q2 => hF7 j (by omega))) hT7 (fun j q1 q2 => (hF7 j q2).trans (hF j q1))
    · skip
      have e9 : dlS f z q v1 v2 v3 v4 = (v4.2.1, v4.2.2, q.2.2) := by unfold dlS; rw [if_neg h69]
      rw [e9]
      refine r_return i_R_readDeal_72 t_R_readDeal ?_
      exact ⟨rfl, ⟨hR6, hT6, fun j q1 q2 => hF j q1⟩, rfl⟩
  · skip
    rw [if_neg h6]
    refine r_aload_n (i := 0) i_R_readDeal_9 rfl rfl ?_
    refine m_virtual o_R_readDeal k_R_fail v_R_fail x_R_42 i_R_readDeal_10 o_R_fail (c_R_fail hR0) rfl (rcv_ob (by repeat (first | assumption | exact upw_s | refine (upw_n (by omega)).trans ?_)) rfl (by first | assumption | omega)) rfl (by decide) (Nat.le_of_ble_eq_true rfl) (Nat.zero_le _) (Nat.zero_le _) (fun r1 w2 n1 hp9 => ?_)
    obtain ⟨rfl, ⟨hR2, hF2⟩, rfl⟩ := hp9
    refine r_return i_R_readDeal_13 t_R_readDeal ?_
    exact ⟨rfl, ⟨hR2, hT0.fr (fun j q1 q2 => hF2 j (by omega)), fun j q1 q2 => hF2 j q1⟩, rfl⟩
end DEAL
