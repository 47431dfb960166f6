-- READER: a whole text
def cnt7 (S : aS) : Prop := ∃ P B : Nat, S.1 0 = nI P ∧ P ≤ 7 ∧ S.1 1 = nI B ∧ B ≤ 7
def stM (f : Nat → Int32) (z : Nat) (q : aP) : aP := if wordB f q.1 0 = true then stOne f z q else if wordB f q.1 1 = true then stDeal f z q else if wordB f q.1 3 = true then stGains f z q else if wordB f q.1 4 = true then stBars f z q else if wordB f q.1 5 = true then stLaw f z 0 q else if wordB f q.1 6 = true then stLaw f z 1 q else if wordB f q.1 7 = true then stLaw f z 2 q else if wordB f q.1 8 = true then stLaw f z 3 q else (q.1, faF q.1 q.2.1, q.2.2)
def rdF (f : Nat → Int32) (z : Nat) : Nat → Nat → aP → Nat × aP
  | 0, c, q => (c, q)
  | m + 1, c, q => if (stM f z q).2.1 = -1 ∧ (stM f z q).1.2.1 = 3 then rdF f z m (c + 1) (lexF f z (stM f z q).1.1, (stM f z q).2.1, (stM f z q).2.2) else (c + 1, stM f z q)
def rdE (q : aP) : aP := if q.1.2.1 = 0 then q else (q.1, faF q.1 q.2.1, q.2.2)
def rdA (c : Nat) (q : aP) : Int32 := if q.2.1 = -1 then nI c else -20 - q.2.1
def readS (f : Nat → Int32) (z : Nat) (S : aS) : Nat × aP := rdF f z 251 0 (lexF f z 0, -1, S)
def readA (f : Nat → Int32) (z : Nat) (S : aS) : Int32 := rdA (readS f z S).1 (rdE (readS f z S).2)
theorem stM_ind {Pr : aP → Prop} {f : Nat → Int32} {z : Nat} {q : aP} (h1 : Pr (stOne f z q)) (h2 : Pr (stDeal f z q)) (h3 : Pr (stGains f z q)) (h4 : Pr (stBars f z q)) (h5 : ∀ c, Pr (stLaw f z c q)) (h6 : Pr (q.1, faF q.1 q.2.1, q.2.2)) : Pr (stM f z q) := by
  unfold stM
  split
  · exact h1
  split
  · exact h2
  split
  · exact h3
  split
  · exact h4
  split
  · exact h5 0
  split
  · exact h5 1
  split
  · exact h5 2
  split
  · exact h5 3
  · exact h6
theorem rn1_ok {f : Nat → Int32} {z : Nat} {N : Int32} {q : aP} (h : LOk q.1 z) : LOk (rn1 f z N q).2.1 z := rn_ok (lex_le h.2.1)
theorem rnP_ok {f : Nat → Int32} {z : Nat} {N but : Int32} {v : aV} (h : LOk v.2.1 z) : LOk (rnP f z N but v).2.1 z := rn_ok h
theorem rn9_ok {f : Nat → Int32} {z : Nat} {v : aV} (h : LOk v.2.1 z) : LOk (rn9 f z v).2.1 z := rn_ok h
theorem dlS_ok {f : Nat → Int32} {z : Nat} {q : aP} {v1 v2 v3 v4 : aV} (h : LOk v4.2.1 z) : LOk (dlS f z q v1 v2 v3 v4).1 z := by
  unfold dlS
  split
  · exact hur_ok _ _ h
  · exact h
theorem stOne_ok {f : Nat → Int32} {z : Nat} {q : aP} (h : LOk q.1 z) : LOk (stOne f z q).1 z := by
  unfold stOne
  split
  · exact lex_le h.2.1
  · exact h
theorem stDeal_ok {f : Nat → Int32} {z : Nat} {q : aP} (h : LOk q.1 z) : LOk (stDeal f z q).1 z := by
  unfold stDeal
  split
  · exact dlS_ok (rn9_ok (rn9_ok (rnP_ok (rn1_ok h))))
  · exact h
theorem gnS_ok {z : Nat} {q : aP} {v1 v2 v3 : aV} (h : LOk v3.2.1 z) : LOk (gnS q v1 v2 v3).1 z := h
theorem brS_ok {z : Nat} {q : aP} {v1 v2 : aV} (h : LOk v2.2.1 z) : LOk (brS q v1 v2).1 z := h
theorem lwS_ok {c z : Nat} {q : aP} {v : aV} (h : LOk v.2.1 z) : LOk (lwS c q v).1 z := h
theorem lw1_ok {f : Nat → Int32} {c z : Nat} {q : aP} (h : LOk q.1 z) : LOk (lw1 f z c q).2.1 z := by
  unfold lw1
  exact rn_ok (lex_le h.2.1)
theorem stGains_ok {f : Nat → Int32} {z : Nat} {q : aP} (h : LOk q.1 z) : LOk (stGains f z q).1 z := by
  unfold stGains
  exact gnS_ok (rn9_ok (rnP_ok (rn1_ok h)))
theorem stBars_ok {f : Nat → Int32} {z : Nat} {q : aP} (h : LOk q.1 z) : LOk (stBars f z q).1 z := by
  unfold stBars
  exact brS_ok (rnP_ok (rn1_ok h))
theorem stLaw_ok {f : Nat → Int32} {z c : Nat} {q : aP} (h : LOk q.1 z) : LOk (stLaw f z c q).1 z := by
  unfold stLaw
  exact lwS_ok (lw1_ok h)
theorem stM_ok {f : Nat → Int32} {z : Nat} {q : aP} (h : LOk q.1 z) : LOk (stM f z q).1 z := stM_ind (Pr := fun x => LOk x.1 z) (stOne_ok h) (stDeal_ok h) (stGains_ok h) (stBars_ok h) (fun _ => stLaw_ok h) h
theorem dlS_cnt {f : Nat → Int32} {z : Nat} {q : aP} {v1 v2 v3 v4 : aV} (h : cnt7 q.2.2) (hlt : q.2.2.1 1 < 7) : cnt7 (dlS f z q v1 v2 v3 v4).2.2 := by
  obtain ⟨P, B, hP, hP7, hB, hB7⟩ := h
  unfold dlS
  split
  · refine ⟨P, B + 1, ?_, hP7, ?_, ?_⟩
    · rw [hur_P]; exact hP
    · rw [hur_P]
      show q.2.2.1 1 + 1 = _
      rw [hB]; exact nI_1 _
    · rcases Nat.lt_or_ge B 7 with r | r
      · exact r
      · exact absurd hlt (by rw [hB]; exact nI_nlt (b := 7) r (by omega))
  · exact ⟨P, B, hP, hP7, hB, hB7⟩
theorem gnS_cnt {q : aP} {v1 v2 v3 : aV} (h : cnt7 q.2.2) : cnt7 (gnS q v1 v2 v3).2.2 := by
  unfold gnS
  dsimp only
  split
  · exact h
  · exact h
theorem brS_cnt {q : aP} {v1 v2 : aV} (h : cnt7 q.2.2) : cnt7 (brS q v1 v2).2.2 := by
  unfold brS
  dsimp only
  split
  · exact h
  · exact h
theorem lwS_cnt {c : Nat} {q : aP} {v : aV} (h : cnt7 q.2.2) : cnt7 (lwS c q v).2.2 := by
  obtain ⟨P, B, hP, hP7, hB, hB7⟩ := h
  unfold lwS
  dsimp only
  split
  · refine ⟨P, B, ?_, hP7, ?_, hB7⟩
    · show (if (0 : Nat) = 2 + c then _ else q.2.2.1 0) = _
      rw [if_neg (by omega)]; exact hP
    · show (if (1 : Nat) = 2 + c then _ else q.2.2.1 1) = _
      rw [if_neg (by omega)]; exact hB
  · exact ⟨P, B, hP, hP7, hB, hB7⟩
theorem stM_cnt {f : Nat → Int32} {z : Nat} {q : aP} (h : cnt7 q.2.2) : cnt7 (stM f z q).2.2 := by
  obtain ⟨P, B, hP, hP7, hB, hB7⟩ := h
  have h0 : cnt7 q.2.2 := ⟨P, B, hP, hP7, hB, hB7⟩
  have h1 : cnt7 (stOne f z q).2.2 := by
    unfold stOne
    split
    · rename_i hlt
      refine ⟨P + 1, B, ?_, ?_, hB, hB7⟩
      · show q.2.2.1 0 + 1 = _
        rw [hP]; exact nI_1 _
      · rcases Nat.lt_or_ge P 7 with r | r
        · exact r
        · exact absurd hlt (by rw [hP]; exact nI_nlt (b := 7) r (by omega))
    · exact h0
  have h2 : cnt7 (stDeal f z q).2.2 := by
    unfold stDeal
    split
    · rename_i hlt
      exact dlS_cnt h0 hlt
    · exact h0
  have h3 : cnt7 (stGains f z q).2.2 := gnS_cnt h0
  have h4 : cnt7 (stBars f z q).2.2 := brS_cnt h0
  have h5 : ∀ c, cnt7 (stLaw f z c q).2.2 := fun c => lwS_cnt h0
  exact stM_ind (Pr := fun x => cnt7 x.2.2) h1 h2 h3 h4 h5 h0
section READ
variable {G : gE} {w : aW} {n k t : Nat} {f : Nat → Int32} {z : Nat} {q : aP}
theorem c_R_readStatement (hfm : (gfm G).category = 1) (hc : cnt7 q.2.2) (hR : RW w k f z q.1 q.2.1 n) (hT : TW w t q.2.2 n) (hd : k + 1 < t ∨ t + 8 < k) (hz : z ≤ 250) (hL : LOk q.1 z) : Mt G 7 y_R_readStatement [.ref k, .ref t] w n 0 0 (fun r w' n' => r = none ∧ PW w w' k t f z (stM f z q) n ∧ n' = n) := by
  obtain ⟨P, B, hP, hP7, hB, hB7⟩ := hc
  refine Mt.of k_R_readStatement l_R_readStatement (Nat.le_of_ble_eq_true rfl) rfl ?_
  have hR0 := hR
  obtain ⟨g0, g1, hn⟩ := hR
  obtain ⟨e0, e1, e2, e3, e4, e5, e6, e7, e8, hm⟩ := id hT
  unfold stM
  refine r_aload_n (i := 0) i_R_readStatement_0 rfl rfl ?_
  refine r_ldcS (j := 0) (tx := "one") o_R_readStatement i_R_readStatement_1 (by decide) ?_
  refine f_virtual o_R_readStatement k_R_isWord v_R_isWord x_R_47 i_R_readStatement_3 o_R_isWord (c_R_isWord hfm hR0 hz hL (by decide)) rfl (rcv_ob (by repeat (first | assumption | exact upw_s | refine (upw_n (by omega)).trans ?_)) rfl (by first | assumption | omega)) rfl (by decide) (Nat.le_of_ble_eq_true rfl) ?_
  refine r_if_eq 17 i_R_readStatement_6 (by decide) (fun h6 => ?_) (fun h6 => ?_)
  · skip
    have h6 := bI_eq0.mp h6
    rw [if_neg (fun q => by rw [h6] at q; exact absurd q (by decide))]
    refine r_aload_n (i := 0) i_R_readStatement_17 rfl rfl ?_
    refine r_ldcS (j := 1) (tx := "deal") o_R_readStatement i_R_readStatement_18 (by decide) ?_
    refine f_virtual o_R_readStatement k_R_isWord v_R_isWord x_R_47 i_R_readStatement_20 o_R_isWord (c_R_isWord hfm hR0 hz hL (by decide)) rfl (rcv_ob (by repeat (first | assumption | exact upw_s | refine (upw_n (by omega)).trans ?_)) rfl (by first | assumption | omega)) rfl (by decide) (Nat.le_of_ble_eq_true rfl) ?_
    refine r_if_eq 34 i_R_readStatement_23 (by decide) (fun h23 => ?_) (fun h23 => ?_)
    · skip
      have h23 := bI_eq0.mp h23
      rw [if_neg (fun q => by rw [h23] at q; exact absurd q (by decide))]
      refine r_aload_n (i := 0) i_R_readStatement_34 rfl rfl ?_
      refine r_ldcS (j := 3) (tx := "gains") o_R_readStatement i_R_readStatement_35 (by decide) ?_
      refine f_virtual o_R_readStatement k_R_isWord v_R_isWord x_R_47 i_R_readStatement_37 o_R_isWord (c_R_isWord hfm hR0 hz hL (by decide)) rfl (rcv_ob (by repeat (first | assumption | exact upw_s | refine (upw_n (by omega)).trans ?_)) rfl (by first | assumption | omega)) rfl (by decide) (Nat.le_of_ble_eq_true rfl) ?_
      refine r_if_eq 51 i_R_readStatement_40 (by decide) (fun h40 => ?_) (fun h40 => ?_)
      · skip
        have h40 := bI_eq0.mp h40
        rw [if_neg (fun q => by rw [h40] at q; exact absurd q (by decide))]
        refine r_aload_n (i := 0) i_R_readStatement_51 rfl rfl ?_
        refine r_ldcS (j := 4) (tx := "bars") o_R_readStatement i_R_readStatement_52 (by decide) ?_
        refine f_virtual o_R_readStatement k_R_isWord v_R_isWord x_R_47 i_R_readStatement_54 o_R_isWord (c_R_isWord hfm hR0 hz hL (by decide)) rfl (rcv_ob (by repeat (first | assumption | exact upw_s | refine (upw_n (by omega)).trans ?_)) rfl (by first | assumption | omega)) rfl (by decide) (Nat.le_of_ble_eq_true rfl) ?_
        refine r_if_eq 68 i_R_readStatement_57 (by decide) (fun h57 => ?_) (fun h57 => ?_)
        · skip
          have h57 := bI_eq0.mp h57
          rw [if_neg (fun q => by rw [h57] at q; exact absurd q (by decide))]
          refine r_aload_n (i := 0) i_R_readStatement_68 rfl rfl ?_
          refine r_ldcS (j := 5) (tx := "law") o_R_readStatement i_R_readStatement_69 (by decide) ?_
          refine f_virtual o_R_readStatement k_R_isWord v_R_isWord x_R_47 i_R_readStatement_71 o_R_isWord (c_R_isWord hfm hR0 hz hL (by decide)) rfl (rcv_ob (by repeat (first | assumption | exact upw_s | refine (upw_n (by omega)).trans ?_)) rfl (by first | assumption | omega)) rfl (by decide) (Nat.le_of_ble_eq_true rfl) ?_
          refine r_if_eq 86 i_R_readStatement_74 (by decide) (fun h74 => ?_) (fun h74 => ?_)
          · skip
            have h74 := bI_eq0.mp h74
            rw [if_neg (fun q => by rw [h74] at q; exact absurd q (by decide))]
            refine r_aload_n (i := 0) i_R_readStatement_86 rfl rfl ?_
            refine r_ldcS (j := 6) (tx := "once") o_R_readStatement i_R_readStatement_87 (by decide) ?_
            refine f_virtual o_R_readStatement k_R_isWord v_R_isWord x_R_47 i_R_readStatement_89 o_R_isWord (c_R_isWord hfm hR0 hz hL (by decide)) rfl (rcv_ob (by repeat (first | assumption | exact upw_s | refine (upw_n (by omega)).trans ?_)) rfl (by first | assumption | omega)) rfl (by decide) (Nat.le_of_ble_eq_true rfl) ?_
            refine r_if_eq 104 i_R_readStatement_92 (by decide) (fun h92 => ?_) (fun h92 => ?_)
            · skip
              have h92 := bI_eq0.mp h92
              rw [if_neg (fun q => by rw [h92] at q; exact absurd q (by decide))]
              refine r_aload_n (i := 0) i_R_readStatement_104 rfl rfl ?_
              refine r_ldcS (j := 7) (tx := "court") o_R_readStatement i_R_readStatement_105 (by decide) ?_
              refine f_virtual o_R_readStatement k_R_isWord v_R_isWord x_R_47 i_R_readStatement_107 o_R_isWord (c_R_isWord hfm hR0 hz hL (by decide)) rfl (rcv_ob (by repeat (first | assumption | exact upw_s | refine (upw_n (by omega)).trans ?_)) rfl (by first | assumption | omega)) rfl (by decide) (Nat.le_of_ble_eq_true rfl) ?_
              refine r_if_eq 122 i_R_readStatement_110 (by decide) (fun h110 => ?_) (fun h110 => ?_)
              · skip
                have h110 := bI_eq0.mp h110
                rw [if_neg (fun q => by rw [h110] at q; exact absurd q (by decide))]
                refine r_aload_n (i := 0) i_R_readStatement_122 rfl rfl ?_
                refine r_ldcS (j := 8) (tx := "fine") o_R_readStatement i_R_readStatement_123 (by decide) ?_
                refine f_virtual o_R_readStatement k_R_isWord v_R_isWord x_R_47 i_R_readStatement_125 o_R_isWord (c_R_isWord hfm hR0 hz hL (by decide)) rfl (rcv_ob (by repeat (first | assumption | exact upw_s | refine (upw_n (by omega)).trans ?_)) rfl (by first | assumption | omega)) rfl (by decide) (Nat.le_of_ble_eq_true rfl) ?_
                refine r_if_eq 140 i_R_readStatement_128 (by decide) (fun h128 => ?_) (fun h128 => ?_)
                · skip
                  have h128 := bI_eq0.mp h128
                  rw [if_neg (fun q => by rw [h128] at q; exact absurd q (by decide))]
                  refine r_aload_n (i := 0) i_R_readStatement_140 rfl rfl ?_
                  refine m_virtual o_R_readStatement k_R_fail v_R_fail x_R_42 i_R_readStatement_141 o_R_fail (c_R_fail hR0) rfl (rcv_ob (by repeat (first | assumption | exact upw_s | refine (upw_n (by omega)).trans ?_)) rfl (by first | assumption | omega)) rfl (by decide) (Nat.le_of_ble_eq_true rfl) (Nat.zero_le _) (Nat.zero_le _) (fun r1 w2 n1 hp9 => ?_)
                  obtain ⟨rfl, ⟨hR2, hF2⟩, rfl⟩ := hp9
                  have hp9 : PW w w2 k t f z (q.1, faF q.1 q.2.1, q.2.2) n1 := ⟨hR2, hT.fr (fun j q1 q2 => hF2 j (by omega)), fun j q1 q2 => hF2 j q1⟩
                  refine r_return i_R_readStatement_144 t_R_readStatement ?_
                  exact ⟨rfl, hp9, rfl⟩
                · skip
                  have h128 := bI_ne0.mp h128
                  rw [if_pos h128]
                  refine r_aload_n (i := 0) i_R_readStatement_131 rfl rfl ?_
                  refine r_aload_n (i := 1) i_R_readStatement_132 rfl rfl ?_
                  refine r_iconst (v := (3 : Int32)) i_R_readStatement_133 rfl ?_
                  refine m_virtual o_R_readStatement k_R_readLaw v_R_readLaw x_R_73 i_R_readStatement_134 o_R_readLaw (c_R_readLaw (c := 3) (by decide) hR0 hT hd hz hL) rfl (rcv_ob (by repeat (first | assumption | exact upw_s | refine (upw_n (by omega)).trans ?_)) rfl (by first | assumption | omega)) rfl (by decide) (Nat.le_of_ble_eq_true rfl) (Nat.zero_le _) (Nat.zero_le _) (fun r1 w2 n1 hp9 => ?_)
                  obtain ⟨rfl, hp9, rfl⟩ := hp9
                  refine r_goto 144 i_R_readStatement_137 (by decide) ?_
                  refine r_return i_R_readStatement_144 t_R_readStatement ?_
                  exact ⟨rfl, hp9, rfl⟩
              · skip
                have h110 := bI_ne0.mp h110
                rw [if_pos h110]
                refine r_aload_n (i := 0) i_R_readStatement_113 rfl rfl ?_
                refine r_aload_n (i := 1) i_R_readStatement_114 rfl rfl ?_
                refine r_iconst (v := (2 : Int32)) i_R_readStatement_115 rfl ?_
                refine m_virtual o_R_readStatement k_R_readLaw v_R_readLaw x_R_73 i_R_readStatement_116 o_R_readLaw (c_R_readLaw (c := 2) (by decide) hR0 hT hd hz hL) rfl (rcv_ob (by repeat (first | assumption | exact upw_s | refine (upw_n (by omega)).trans ?_)) rfl (by first | assumption | omega)) rfl (by decide) (Nat.le_of_ble_eq_true rfl) (Nat.zero_le _) (Nat.zero_le _) (fun r1 w2 n1 hp9 => ?_)
                obtain ⟨rfl, hp9, rfl⟩ := hp9
                refine r_goto 144 i_R_readStatement_119 (by decide) ?_
                refine r_return i_R_readStatement_144 t_R_readStatement ?_
                exact ⟨rfl, hp9, rfl⟩
            · skip
              have h92 := bI_ne0.mp h92
              rw [if_pos h92]
              refine r_aload_n (i := 0) i_R_readStatement_95 rfl rfl ?_
              refine r_aload_n (i := 1) i_R_readStatement_96 rfl rfl ?_
              refine r_iconst (v := (1 : Int32)) i_R_readStatement_97 rfl ?_
              refine m_virtual o_R_readStatement k_R_readLaw v_R_readLaw x_R_73 i_R_readStatement_98 o_R_readLaw (c_R_readLaw (c := 1) (by decide) hR0 hT hd hz hL) rfl (rcv_ob (by repeat (first | assumption | exact upw_s | refine (upw_n (by omega)).trans ?_)) rfl (by first | assumption | omega)) rfl (by decide) (Nat.le_of_ble_eq_true rfl) (Nat.zero_le _) (Nat.zero_le _) (fun r1 w2 n1 hp9 => ?_)
              obtain ⟨rfl, hp9, rfl⟩ := hp9
              refine r_goto 144 i_R_readStatement_101 (by decide) ?_
              refine r_return i_R_readStatement_144 t_R_readStatement ?_
              exact ⟨rfl, hp9, rfl⟩
          · skip
            have h74 := bI_ne0.mp h74
            rw [if_pos h74]
            refine r_aload_n (i := 0) i_R_readStatement_77 rfl rfl ?_
            refine r_aload_n (i := 1) i_R_readStatement_78 rfl rfl ?_
            refine r_iconst (v := (0 : Int32)) i_R_readStatement_79 rfl ?_
            refine m_virtual o_R_readStatement k_R_readLaw v_R_readLaw x_R_73 i_R_readStatement_80 o_R_readLaw (c_R_readLaw (c := 0) (by decide) hR0 hT hd hz hL) rfl (rcv_ob (by repeat (first | assumption | exact upw_s | refine (upw_n (by omega)).trans ?_)) rfl (by first | assumption | omega)) rfl (by decide) (Nat.le_of_ble_eq_true rfl) (Nat.zero_le _) (Nat.zero_le _) (fun r1 w2 n1 hp9 => ?_)
            obtain ⟨rfl, hp9, rfl⟩ := hp9
            refine r_goto 144 i_R_readStatement_83 (by decide) ?_
            refine r_return i_R_readStatement_144 t_R_readStatement ?_
            exact ⟨rfl, hp9, rfl⟩
        · skip
          have h57 := bI_ne0.mp h57
          rw [if_pos h57]
          refine r_aload_n (i := 0) i_R_readStatement_60 rfl rfl ?_
          refine r_aload_n (i := 1) i_R_readStatement_61 rfl rfl ?_
          refine m_virtual o_R_readStatement k_R_readBars v_R_readBars x_R_66 i_R_readStatement_62 o_R_readBars (c_R_readBars hB hB7 hR0 hT hd hz hL) rfl (rcv_ob (by repeat (first | assumption | exact upw_s | refine (upw_n (by omega)).trans ?_)) rfl (by first | assumption | omega)) rfl (by decide) (Nat.le_of_ble_eq_true rfl) (Nat.zero_le _) (Nat.zero_le _) (fun r1 w2 n1 hp9 => ?_)
          obtain ⟨rfl, hp9, rfl⟩ := hp9
          refine r_goto 144 i_R_readStatement_65 (by decide) ?_
          refine r_return i_R_readStatement_144 t_R_readStatement ?_
          exact ⟨rfl, hp9, rfl⟩
      · skip
        have h40 := bI_ne0.mp h40
        rw [if_pos h40]
        refine r_aload_n (i := 0) i_R_readStatement_43 rfl rfl ?_
        refine r_aload_n (i := 1) i_R_readStatement_44 rfl rfl ?_
        refine m_virtual o_R_readStatement k_R_readGains v_R_readGains x_R_61 i_R_readStatement_45 o_R_readGains (c_R_readGains hP hP7 hB hB7 hR0 hT hd hz hL) rfl (rcv_ob (by repeat (first | assumption | exact upw_s | refine (upw_n (by omega)).trans ?_)) rfl (by first | assumption | omega)) rfl (by decide) (Nat.le_of_ble_eq_true rfl) (Nat.zero_le _) (Nat.zero_le _) (fun r1 w2 n1 hp9 => ?_)
        obtain ⟨rfl, hp9, rfl⟩ := hp9
        refine r_goto 144 i_R_readStatement_48 (by decide) ?_
        refine r_return i_R_readStatement_144 t_R_readStatement ?_
        exact ⟨rfl, hp9, rfl⟩
    · skip
      have h23 := bI_ne0.mp h23
      rw [if_pos h23]
      refine r_aload_n (i := 0) i_R_readStatement_26 rfl rfl ?_
      refine r_aload_n (i := 1) i_R_readStatement_27 rfl rfl ?_
      refine m_virtual o_R_readStatement k_R_readDeal v_R_readDeal x_R_56 i_R_readStatement_28 o_R_readDeal (c_R_readDeal hfm hP hP7 hB hB7 hR0 hT hd hz hL) rfl (rcv_ob (by repeat (first | assumption | exact upw_s | refine (upw_n (by omega)).trans ?_)) rfl (by first | assumption | omega)) rfl (by decide) (Nat.le_of_ble_eq_true rfl) (Nat.zero_le _) (Nat.zero_le _) (fun r1 w2 n1 hp9 => ?_)
      obtain ⟨rfl, hp9, rfl⟩ := hp9
      refine r_goto 144 i_R_readStatement_31 (by decide) ?_
      refine r_return i_R_readStatement_144 t_R_readStatement ?_
      exact ⟨rfl, hp9, rfl⟩
  · skip
    have h6 := bI_ne0.mp h6
    rw [if_pos h6]
    refine r_aload_n (i := 0) i_R_readStatement_9 rfl rfl ?_
    refine r_aload_n (i := 1) i_R_readStatement_10 rfl rfl ?_
    refine m_virtual o_R_readStatement k_R_readOne v_R_readOne x_R_51 i_R_readStatement_11 o_R_readOne (c_R_readOne hR0 hT hd hz hL) rfl (rcv_ob (by repeat (first | assumption | exact upw_s | refine (upw_n (by omega)).trans ?_)) rfl (by first | assumption | omega)) rfl (by decide) (Nat.le_of_ble_eq_true rfl) (Nat.zero_le _) (Nat.zero_le _) (fun r1 w2 n1 hp9 => ?_)
    obtain ⟨rfl, hp9, rfl⟩ := hp9
    refine r_goto 144 i_R_readStatement_14 (by decide) ?_
    refine r_return i_R_readStatement_144 t_R_readStatement ?_
    exact ⟨rfl, hp9, rfl⟩
theorem c_R_isFull {L : aL} {fa : Int32} (hR : RW w k f z L fa n) (hz : z ≤ 250) : Fn G 0 y_R_isFull [.ref k] w n (some (.int (bI (decide (250 ≤ z))))) w := by
  obtain ⟨g0, g1, hn⟩ := hR
  refine Fn.of k_R_isFull l_R_isFull rfl rfl ?_
  refine r_aload_n (i := 0) i_R_isFull_0 rfl rfl ?_
  refine r_getf (ci := 3) (T := Fk3) (k := 1) o_R_isFull i_R_isFull_1 x_R_15 rfl (by decide) rfl (by repeat (first | assumption | exact upw_s | refine (upw_n (by omega)).trans ?_)) (by first | assumption | omega) (by rfl) ?_
  refine r_sipush (v := (250 : Int32)) i_R_isFull_4 (by decide) ?_
  refine r_icmp_lt 14 i_R_isFull_7 (by decide) (fun h7 => ?_) (fun h7 => ?_)
  · skip
    have q7 : ¬ 250 ≤ z := fun q => absurd h7 (nI_nlt (b := 250) q (by omega))
    rw [decide_eq_false q7]
    refine r_iconst (v := (0 : Int32)) i_R_isFull_14 rfl ?_
    refine r_ireturn i_R_isFull_15 t_R_isFull (by first | rfl | exact nar_bI _) ?_
    exact ⟨rfl, rfl, rfl⟩
  · skip
    have q7 : 250 ≤ z := by
      rcases Nat.lt_or_ge z 250 with r | r
      · exact absurd (nI_lt (b := 250) r (by decide)) h7
      · exact r
    rw [decide_eq_true q7]
    refine r_iconst (v := (1 : Int32)) i_R_isFull_10 rfl ?_
    refine r_goto 15 i_R_isFull_11 (by decide) ?_
    refine r_ireturn i_R_isFull_15 t_R_isFull (by first | rfl | exact nar_bI _) ?_
    exact ⟨rfl, rfl, rfl⟩
theorem c_R_add {L : aL} {fa v : Int32} (hR : RW w k f z L fa n) (hz : z < 250) : Mt G 1 y_R_add [.ref k, .int v] w n 0 0 (fun r w' n' => r = some (.int (nI (z + 1))) ∧ (RW w' k (upd f z v) (z + 1) L fa n ∧ ∀ j, (j < k ∨ k + 1 < j) → w' j = w j) ∧ n' = n) := by
  obtain ⟨g0, g1, hn⟩ := hR
  refine Mt.of k_R_add l_R_add (Nat.le_of_ble_eq_true rfl) rfl ?_
  refine r_aload_n (i := 0) i_R_add_0 rfl rfl ?_
  refine r_getf (ci := 3) (T := Fk3) (k := 0) o_R_add i_R_add_1 x_R_11 rfl (by decide) rfl (by repeat (first | assumption | exact upw_s | refine (upw_n (by omega)).trans ?_)) (by first | assumption | omega) (by rfl) ?_
  refine r_aload_n (i := 0) i_R_add_4 rfl rfl ?_
  refine r_getf (ci := 3) (T := Fk3) (k := 1) o_R_add i_R_add_5 x_R_15 rfl (by decide) rfl (by repeat (first | assumption | exact upw_s | refine (upw_n (by omega)).trans ?_)) (by first | assumption | omega) (by rfl) ?_
  refine r_iload_n (i := 1) i_R_add_8 rfl rfl ?_
  refine f_staticN o_R_add k_N_put s_N_put x_R_31 i_R_add_9 (c_N_put (by repeat (first | assumption | exact upw_s | refine (upw_n (by omega)).trans ?_)) (by omega) (by decide)) rfl rfl (by decide) (Nat.le_of_ble_eq_true rfl) ?_
  rw [puI_in (by omega) (by decide)]
  refine r_aload_n (i := 0) i_R_add_12 rfl rfl ?_
  refine r_dup i_R_add_13 rfl ?_
  refine r_getf (ci := 3) (T := Fk3) (k := 1) o_R_add i_R_add_14 x_R_15 rfl (by decide) rfl (by repeat (first | assumption | exact upw_s | refine (upw_n (by omega)).trans ?_)) (by first | assumption | omega) (by rfl) ?_
  refine r_iconst (v := (1 : Int32)) i_R_add_17 rfl ?_
  refine r_iadd i_R_add_18 ?_
  refine r_putf (ci := 3) (T := Fk3) (k := 1) o_R_add i_R_add_19 x_R_15 rfl (by decide) rfl rfl (ok3 1 (by decide)) rfl (by repeat (first | assumption | exact upw_s | refine (upw_n (by omega)).trans ?_)) (by first | assumption | omega) (by exact Nat.le_of_ble_eq_true rfl) ?_
  refine r_aload_n (i := 0) i_R_add_22 rfl rfl ?_
  refine r_getf (ci := 3) (T := Fk3) (k := 1) o_R_add i_R_add_23 x_R_15 rfl (by decide) rfl (by repeat (first | assumption | exact upw_s | refine (upw_n (by omega)).trans ?_)) (by first | assumption | omega) (by rfl) ?_
  refine r_ireturn i_R_add_26 t_R_add rfl ?_
  exact ⟨(by rw [nI_1]), ⟨⟨(by rw [← nI_1]; exact upw_s), (by repeat (first | assumption | exact upw_s | refine (upw_n (by omega)).trans ?_)), hn⟩, fun j hj => (by (repeat (refine (upw_n (by omega)).trans ?_)); rfl)⟩, rfl⟩
theorem c_R_clear {L : aL} {fa : Int32} (hR : RW w k f z L fa n) : Mt G 0 y_R_clear [.ref k] w n 0 0 (fun r w' n' => r = some (.int (nI z)) ∧ (RW w' k f 0 L fa n ∧ rFr w w' k) ∧ n' = n) := by
  obtain ⟨g0, g1, hn⟩ := hR
  refine Mt.of k_R_clear l_R_clear (Nat.le_of_ble_eq_true rfl) rfl ?_
  refine r_aload_n (i := 0) i_R_clear_0 rfl rfl ?_
  refine r_getf (ci := 3) (T := Fk3) (k := 1) o_R_clear i_R_clear_1 x_R_15 rfl (by decide) rfl (by repeat (first | assumption | exact upw_s | refine (upw_n (by omega)).trans ?_)) (by first | assumption | omega) (by rfl) ?_
  refine r_istore_1 i_R_clear_4 (by rw [l_R_clear]; decide) rfl ?_
  refine r_aload_n (i := 0) i_R_clear_5 rfl rfl ?_
  refine r_iconst (v := (0 : Int32)) i_R_clear_6 rfl ?_
  refine r_putf (ci := 3) (T := Fk3) (k := 1) o_R_clear i_R_clear_7 x_R_15 rfl (by decide) rfl rfl (ok3 1 (by decide)) rfl (by repeat (first | assumption | exact upw_s | refine (upw_n (by omega)).trans ?_)) (by first | assumption | omega) (by exact Nat.le_of_ble_eq_true rfl) ?_
  refine r_iload_n (i := 1) i_R_clear_10 rfl rfl ?_
  refine r_ireturn i_R_clear_11 t_R_clear rfl ?_
  exact ⟨rfl, ⟨⟨(by repeat (first | assumption | exact upw_s | refine (upw_n (by omega)).trans ?_)), (by repeat (first | assumption | exact upw_s | refine (upw_n (by omega)).trans ?_)), hn⟩, fun j hj => upw_n hj⟩, rfl⟩
def rdP (w0 : aW) (k t : Nat) (f : Nat → Int32) (z n : Nat) (c : Nat) (q : aP) : Option Value → aW → Nat → Prop := fun r w' n' => r = some (.int (rdA c (rdE q))) ∧ PW w0 w' k t f z (rdE q) n ∧ n' = n
theorem c_read_end {w0 : aW} {c : Nat} (y : Option Value) (hL : LOk q.1 z) (hR : RW w k f z q.1 q.2.1 n) (hT : TW w t q.2.2 n) (hF : rtFr w0 w k t) (hd : k + 1 < t ∨ t + 8 < k) (hz : z ≤ 250) : Go G 8 y_R_read 70 [some (.ref k), some (.ref t), some (.int (nI c)), y] [] w n 0 0 (rdP w0 k t f z n c q) := by
  have hR0 := hR
  have hT0 := hT
  obtain ⟨g0, g1, hn⟩ := hR
  have hl3 := hL.2.2
  unfold rdP rdE
  refine r_aload_n (i := 0) i_R_read_70 rfl rfl ?_
  refine r_getf (ci := 3) (T := Fk3) (k := 3) o_R_read i_R_read_71 x_R_22 rfl (by decide) rfl (by repeat (first | assumption | exact upw_s | refine (upw_n (by omega)).trans ?_)) (by first | assumption | omega) (by rfl) ?_
  refine r_if_eq 81 i_R_read_74 (by decide) (fun h74 => ?_) (fun h74 => ?_)
  · skip
    have q74 : q.1.2.1 = 0 := (nI_eq (b := 0) (by omega) (by decide)).mp h74
    rw [if_pos q74]
    unfold rdA
    refine r_aload_n (i := 0) i_R_read_81 rfl rfl ?_
    refine r_getf (ci := 3) (T := Fk3) (k := 5) o_R_read i_R_read_82 x_R_28 rfl (by decide) rfl (by repeat (first | assumption | exact upw_s | refine (upw_n (by omega)).trans ?_)) (by first | assumption | omega) (by rfl) ?_
    refine r_iconst (v := (-1 : Int32)) i_R_read_85 rfl ?_
    refine r_icmp_ne 93 i_R_read_86 (by decide) (fun h86 => ?_) (fun h86 => ?_)
    · skip
      refine r_bipush (v := (-20 : Int32)) i_R_read_93 (by decide) ?_
      refine r_aload_n (i := 0) i_R_read_95 rfl rfl ?_
      refine r_getf (ci := 3) (T := Fk3) (k := 5) o_R_read i_R_read_96 x_R_28 rfl (by decide) rfl (by repeat (first | assumption | exact upw_s | refine (upw_n (by omega)).trans ?_)) (by first | assumption | omega) (by rfl) ?_
      refine r_isub i_R_read_99 ?_
      refine r_ireturn i_R_read_100 t_R_read rfl ?_
      first
        | (rw [if_pos h86]; exact ⟨rfl, ⟨hR0, hT0, hF⟩, rfl⟩)
        | (rw [if_neg h86]; exact ⟨rfl, ⟨hR0, hT0, hF⟩, rfl⟩)
        | (exact absurd h86 hff)
        | (refine ⟨?_, ⟨hR2, hT2, fun j q1 q2 => (hF2 j q1).trans (hF j q1 q2)⟩, rfl⟩; show _ = some (Value.int (if faF q.1 q.2.1 = -1 then _ else _)); rw [if_neg hff]; rfl)
    · skip
      refine r_iload_n (i := 2) i_R_read_89 rfl rfl ?_
      refine r_goto 100 i_R_read_90 (by decide) ?_
      refine r_ireturn i_R_read_100 t_R_read rfl ?_
      first
        | (rw [if_pos h86]; exact ⟨rfl, ⟨hR0, hT0, hF⟩, rfl⟩)
        | (rw [if_neg h86]; exact ⟨rfl, ⟨hR0, hT0, hF⟩, rfl⟩)
        | (exact absurd h86 hff)
        | (refine ⟨?_, ⟨hR2, hT2, fun j q1 q2 => (hF2 j q1).trans (hF j q1 q2)⟩, rfl⟩; show _ = some (Value.int (if faF q.1 q.2.1 = -1 then _ else _)); rw [if_neg hff]; rfl)
  · skip
    have q74 : ¬ q.1.2.1 = 0 := fun r => h74 (by rw [r]; rfl)
    rw [if_neg q74]
    have hff := faF_ne (fa := q.2.1) hL hz
    refine r_aload_n (i := 0) i_R_read_77 rfl rfl ?_
    refine m_virtual o_R_read k_R_fail v_R_fail x_R_42 i_R_read_78 o_R_fail (c_R_fail hR0) rfl (rcv_ob (by repeat (first | assumption | exact upw_s | refine (upw_n (by omega)).trans ?_)) rfl (by first | assumption | omega)) rfl (by decide) (Nat.le_of_ble_eq_true rfl) (Nat.zero_le _) (Nat.zero_le _) (fun r1 w2 n1 hp9 => ?_)
    obtain ⟨rfl, ⟨hR2, hF2⟩, rfl⟩ := hp9
    have hT2 : TW w2 t q.2.2 n1 := hT0.fr (fun j q1 q2 => hF2 j (by omega))
    obtain ⟨s0, s1, hsn⟩ := id hR2
    unfold rdA
    refine r_aload_n (i := 0) i_R_read_81 rfl rfl ?_
    refine r_getf (ci := 3) (T := Fk3) (k := 5) o_R_read i_R_read_82 x_R_28 rfl (by decide) rfl (by repeat (first | assumption | exact upw_s | refine (upw_n (by omega)).trans ?_)) (by first | assumption | omega) (by rfl) ?_
    refine r_iconst (v := (-1 : Int32)) i_R_read_85 rfl ?_
    refine r_icmp_ne 93 i_R_read_86 (by decide) (fun h86 => ?_) (fun h86 => ?_)
    · skip
      refine r_bipush (v := (-20 : Int32)) i_R_read_93 (by decide) ?_
      refine r_aload_n (i := 0) i_R_read_95 rfl rfl ?_
      refine r_getf (ci := 3) (T := Fk3) (k := 5) o_R_read i_R_read_96 x_R_28 rfl (by decide) rfl (by repeat (first | assumption | exact upw_s | refine (upw_n (by omega)).trans ?_)) (by first | assumption | omega) (by rfl) ?_
      refine r_isub i_R_read_99 ?_
      refine r_ireturn i_R_read_100 t_R_read rfl ?_
      first
        | (rw [if_pos h86]; exact ⟨rfl, ⟨hR0, hT0, hF⟩, rfl⟩)
        | (rw [if_neg h86]; exact ⟨rfl, ⟨hR0, hT0, hF⟩, rfl⟩)
        | (exact absurd h86 hff)
        | (refine ⟨?_, ⟨hR2, hT2, fun j q1 q2 => (hF2 j q1).trans (hF j q1 q2)⟩, rfl⟩; show _ = some (Value.int (if faF q.1 q.2.1 = -1 then _ else _)); rw [if_neg hff]; rfl)
    · skip
      refine r_iload_n (i := 2) i_R_read_89 rfl rfl ?_
      refine r_goto 100 i_R_read_90 (by decide) ?_
      refine r_ireturn i_R_read_100 t_R_read rfl ?_
      first
        | (rw [if_pos h86]; exact ⟨rfl, ⟨hR0, hT0, hF⟩, rfl⟩)
        | (rw [if_neg h86]; exact ⟨rfl, ⟨hR0, hT0, hF⟩, rfl⟩)
        | (exact absurd h86 hff)
        | (refine ⟨?_, ⟨hR2, hT2, fun j q1 q2 => (hF2 j q1).trans (hF j q1 q2)⟩, rfl⟩; show _ = some (Value.int (if faF q.1 q.2.1 = -1 then _ else _)); rw [if_neg hff]; rfl)
theorem c_read_out {w0 : aW} {c : Nat} (hL : LOk q.1 z) (hR : RW w k f z q.1 q.2.1 n) (hT : TW w t q.2.2 n) (hF : rtFr w0 w k t) (hd : k + 1 < t ∨ t + 8 < k) (hz : z ≤ 250) : Go G 8 y_R_read 18 [some (.ref k), some (.ref t), some (.int (nI c)), some (.int 0)] [] w n 0 0 (rdP w0 k t f z n c q) := by
  refine r_iload_n (i := 3) i_R_read_18 rfl rfl ?_
  refine r_if_eq 70 i_R_read_19 (by decide) (fun h19 => ?_) (fun h19 => (absurd (by decide) h19))
  exact c_read_end _ hL hR hT hF hd hz
theorem c_read_loop {w0 : aW} (hfm : (gfm G).category = 1) (hd : k + 1 < t ∨ t + 8 < k) (hz : z ≤ 250) : ∀ m c : Nat, c + m = 251 → ∀ (q : aP) (w : aW), cnt7 q.2.2 → LOk q.1 z → RW w k f z q.1 q.2.1 n → TW w t q.2.2 n → rtFr w0 w k t → Go G 8 y_R_read 18 [some (.ref k), some (.ref t), some (.int (nI c)), some (.int 1)] [] w n 0 0 (rdP w0 k t f z n (rdF f z m c q).1 (rdF f z m c q).2) := by
  intro m
  induction m with
  | zero =>
    intro c hc q w hq hL hR hT hF
    have hc : c = 251 := by omega
    subst hc
    show Go G 8 y_R_read 18 [some (.ref k), some (.ref t), some (.int (nI 251)), some (.int 1)] [] w n 0 0 (rdP w0 k t f z n 251 q)
    refine r_iload_n (i := 3) i_R_read_18 rfl rfl ?_
    refine r_if_eq 70 i_R_read_19 (by decide) (fun h19 => (absurd h19 (by decide))) (fun h19 => ?_)
    refine r_iload_n (i := 2) i_R_read_22 rfl rfl ?_
    refine r_sipush (v := (250 : Int32)) i_R_read_23 (by decide) ?_
    refine r_icmp_gt 70 i_R_read_26 (by decide) (fun h26 => ?_) (fun h26 => (absurd (by decide) h26))
    exact c_read_end _ hL hR hT hF hd hz
  | succ m ih =>
    intro c hc q w hq hL hR hT hF
    obtain ⟨g0, g1, hn⟩ := id hR
    obtain ⟨e0, e1, e2, e3, e4, e5, e6, e7, e8, hm⟩ := id hT
    have hok := stM_ok (f := f) hL
    have hcn := stM_cnt (f := f) (z := z) hq
    have hst : rdF f z (m + 1) c q = if (stM f z q).2.1 = -1 ∧ (stM f z q).1.2.1 = 3 then rdF f z m (c + 1) (lexF f z (stM f z q).1.1, (stM f z q).2.1, (stM f z q).2.2) else (c + 1, stM f z q) := rfl
    rw [hst]
    have call := c_R_readStatement (G := G) hfm hq hR hT hd hz hL
    clear hst
    generalize stM f z q = q' at *
    refine r_iload_n (i := 3) i_R_read_18 rfl rfl ?_
    refine r_if_eq 70 i_R_read_19 (by decide) (fun h19 => (absurd h19 (by decide))) (fun h19 => ?_)
    refine r_iload_n (i := 2) i_R_read_22 rfl rfl ?_
    refine r_sipush (v := (250 : Int32)) i_R_read_23 (by decide) ?_
    refine r_icmp_gt 70 i_R_read_26 (by decide) (fun h26 => (absurd h26 (nI_nlt (a := 250) (b := c) (by omega) (by omega)))) (fun h26 => ?_)
    refine r_aload_n (i := 0) i_R_read_29 rfl rfl ?_
    refine r_aload_n (i := 1) i_R_read_30 rfl rfl ?_
    refine m_virtual o_R_read k_R_readStatement v_R_readStatement x_R_38 i_R_read_31 o_R_readStatement (call) rfl (rcv_ob (by repeat (first | assumption | exact upw_s | refine (upw_n (by omega)).trans ?_)) rfl (by first | assumption | omega)) rfl (by decide) (Nat.le_of_ble_eq_true rfl) (Nat.zero_le _) (Nat.zero_le _) (fun r1 w2 n1 hp9 => ?_)
    obtain ⟨rfl, ⟨hR2, hT2, hF2⟩, rfl⟩ := hp9
    have hF' : rtFr w0 w2 k t := fun j q1 q2 => (hF2 j q1 q2).trans (hF j q1 q2)
    obtain ⟨s0, s1, hsn⟩ := id hR2
    refine r_iinc_2 (v := (1 : Int32)) i_R_read_34 rfl (by rw [l_R_read]; decide) rfl ?_
    refine r_aload_n (i := 0) i_R_read_37 rfl rfl ?_
    refine r_getf (ci := 3) (T := Fk3) (k := 5) o_R_read i_R_read_38 x_R_28 rfl (by decide) rfl (by repeat (first | assumption | exact upw_s | refine (upw_n (by omega)).trans ?_)) (by first | assumption | omega) (by rfl) ?_
    refine r_iconst (v := (-1 : Int32)) i_R_read_41 rfl ?_
    refine r_icmp_ne 57 i_R_read_42 (by decide) (fun h42 => ?_) (fun h42 => ?_)
    · skip
      rw [if_neg (fun r => h42 r.1)]
      refine r_iconst (v := (0 : Int32)) i_R_read_57 rfl ?_
      refine r_istore_3 i_R_read_58 (by rw [l_R_read]; decide) rfl ?_
      refine r_iload_n (i := 3) i_R_read_59 rfl rfl ?_
      refine r_if_eq 18 i_R_read_60 (by decide) (fun h60 => ?_) (fun h60 => ?_)
      · first
        | exact absurd h60 (by decide)
        | skip
          rw [nI_1]
          first
            | exact c_read_out hok hR2 hT2 hF' hd hz
            | exact ih (c + 1) (by omega) (lexF f z q'.1.1, q'.2.1, q'.2.2) _ hcn (lex_le hok.2.1) hR3 (hT2.fr (fun j q1 q2 => hF3 j (by omega))) (fun j q1 q2 => (hF3 j q1).trans (hF' j q1 q2))
      · first
        | exact absurd h60 (by decide)
        | skip
          refine r_aload_n (i := 0) i_R_read_63 rfl rfl ?_
          refine m_virtual o_R_read k_R_step v_R_step x_R_35 i_R_read_64 o_R_step (c_R_step hR2 hz hok.2.1) rfl (rcv_ob (by repeat (first | assumption | exact upw_s | refine (upw_n (by omega)).trans ?_)) rfl (by first | assumption | omega)) rfl (by decide) (Nat.le_of_ble_eq_true rfl) (Nat.zero_le _) (Nat.zero_le _) (fun r1 w3 n1 hp9 => ?_)
          obtain ⟨rfl, ⟨hR3, hF3⟩, rfl⟩ := hp9
          refine r_goto 18 i_R_read_67 (by decide) ?_
          rw [nI_1]
          first
            | exact c_read_out hok hR2 hT2 hF' hd hz
            | exact ih (c + 1) (by omega) (lexF f z q'.1.1, q'.2.1, q'.2.2) _ hcn (lex_le hok.2.1) hR3 (hT2.fr (fun j q1 q2 => hF3 j (by omega))) (fun j q1 q2 => (hF3 j q1).trans (hF' j q1 q2))
    · skip
      refine r_aload_n (i := 0) i_R_read_45 rfl rfl ?_
      refine r_getf (ci := 3) (T := Fk3) (k := 3) o_R_read i_R_read_46 x_R_22 rfl (by decide) rfl (by repeat (first | assumption | exact upw_s | refine (upw_n (by omega)).trans ?_)) (by first | assumption | omega) (by rfl) ?_
      refine r_iconst (v := (3 : Int32)) i_R_read_49 rfl ?_
      refine r_icmp_ne 57 i_R_read_50 (by decide) (fun h50 => ?_) (fun h50 => ?_)
      · skip
        rw [if_neg (fun r => h50 (by rw [r.2]; rfl))]
        refine r_iconst (v := (0 : Int32)) i_R_read_57 rfl ?_
        refine r_istore_3 i_R_read_58 (by rw [l_R_read]; decide) rfl ?_
        refine r_iload_n (i := 3) i_R_read_59 rfl rfl ?_
        refine r_if_eq 18 i_R_read_60 (by decide) (fun h60 => ?_) (fun h60 => ?_)
        · first
          | exact absurd h60 (by decide)
          | skip
            rw [nI_1]
            first
              | exact c_read_out hok hR2 hT2 hF' hd hz
              | exact ih (c + 1) (by omega) (lexF f z q'.1.1, q'.2.1, q'.2.2) _ hcn (lex_le hok.2.1) hR3 (hT2.fr (fun j q1 q2 => hF3 j (by omega))) (fun j q1 q2 => (hF3 j q1).trans (hF' j q1 q2))
        · first
          | exact absurd h60 (by decide)
          | skip
            refine r_aload_n (i := 0) i_R_read_63 rfl rfl ?_
            refine m_virtual o_R_read k_R_step v_R_step x_R_35 i_R_read_64 o_R_step (c_R_step hR2 hz hok.2.1) rfl (rcv_ob (by repeat (first | assumption | exact upw_s | refine (upw_n (by omega)).trans ?_)) rfl (by first | assumption | omega)) rfl (by decide) (Nat.le_of_ble_eq_true rfl) (Nat.zero_le _) (Nat.zero_le _) (fun r1 w3 n1 hp9 => ?_)
            obtain ⟨rfl, ⟨hR3, hF3⟩, rfl⟩ := hp9
            refine r_goto 18 i_R_read_67 (by decide) ?_
            rw [nI_1]
            first
              | exact c_read_out hok hR2 hT2 hF' hd hz
              | exact ih (c + 1) (by omega) (lexF f z q'.1.1, q'.2.1, q'.2.2) _ hcn (lex_le hok.2.1) hR3 (hT2.fr (fun j q1 q2 => hF3 j (by omega))) (fun j q1 q2 => (hF3 j q1).trans (hF' j q1 q2))
      · skip
        have q50 : q'.1.2.1 = 3 := (nI_eq (b := 3) (by have := hok.2.2; omega) (by decide)).mp h50
        rw [if_pos ⟨h42, q50⟩]
        refine r_iconst (v := (1 : Int32)) i_R_read_53 rfl ?_
        refine r_goto 58 i_R_read_54 (by decide) ?_
        refine r_istore_3 i_R_read_58 (by rw [l_R_read]; decide) rfl ?_
        refine r_iload_n (i := 3) i_R_read_59 rfl rfl ?_
        refine r_if_eq 18 i_R_read_60 (by decide) (fun h60 => ?_) (fun h60 => ?_)
        · first
          | exact absurd h60 (by decide)
          | skip
            rw [nI_1]
            first
              | exact c_read_out hok hR2 hT2 hF' hd hz
              | exact ih (c + 1) (by omega) (lexF f z q'.1.1, q'.2.1, q'.2.2) _ hcn (lex_le hok.2.1) hR3 (hT2.fr (fun j q1 q2 => hF3 j (by omega))) (fun j q1 q2 => (hF3 j q1).trans (hF' j q1 q2))
        · first
          | exact absurd h60 (by decide)
          | skip
            refine r_aload_n (i := 0) i_R_read_63 rfl rfl ?_
            refine m_virtual o_R_read k_R_step v_R_step x_R_35 i_R_read_64 o_R_step (c_R_step hR2 hz hok.2.1) rfl (rcv_ob (by repeat (first | assumption | exact upw_s | refine (upw_n (by omega)).trans ?_)) rfl (by first | assumption | omega)) rfl (by decide) (Nat.le_of_ble_eq_true rfl) (Nat.zero_le _) (Nat.zero_le _) (fun r1 w3 n1 hp9 => ?_)
            obtain ⟨rfl, ⟨hR3, hF3⟩, rfl⟩ := hp9
            refine r_goto 18 i_R_read_67 (by decide) ?_
            rw [nI_1]
            first
              | exact c_read_out hok hR2 hT2 hF' hd hz
              | exact ih (c + 1) (by omega) (lexF f z q'.1.1, q'.2.1, q'.2.2) _ hcn (lex_le hok.2.1) hR3 (hT2.fr (fun j q1 q2 => hF3 j (by omega))) (fun j q1 q2 => (hF3 j q1).trans (hF' j q1 q2))
theorem c_R_read {S : aS} {L : aL} {fa : Int32} (hfm : (gfm G).category = 1) (hR : RW w k f z L fa n) (hT : TW w t S n) (hd : k + 1 < t ∨ t + 8 < k) (hz : z ≤ 250) (hS : cnt7 S) : Mt G 8 y_R_read [.ref k, .ref t] w n 0 0 (fun r w' n' => r = some (.int (readA f z S)) ∧ PW w w' k t f z (rdE (readS f z S).2) n ∧ n' = n) := by
  refine Mt.of k_R_read l_R_read (Nat.le_of_ble_eq_true rfl) rfl ?_
  obtain ⟨g0, g1, hn⟩ := hR
  have hR2 : RW (upw w k (.inr (3, [.ref (k + 1), .int (nI z), .int (nI 0), .int (nI L.2.1), .int (nI L.2.2), .int (-1)]))) k f z (0, L.2.1, L.2.2) (-1) n := ⟨(by repeat (first | assumption | exact upw_s | refine (upw_n (by omega)).trans ?_)), (by repeat (first | assumption | exact upw_s | refine (upw_n (by omega)).trans ?_)), hn⟩
  refine r_aload_n (i := 0) i_R_read_0 rfl rfl ?_
  refine r_iconst (v := (0 : Int32)) i_R_read_1 rfl ?_
  refine r_putf (ci := 3) (T := Fk3) (k := 2) o_R_read i_R_read_2 x_R_19 rfl (by decide) rfl rfl (ok3 2 (by decide)) rfl (by repeat (first | assumption | exact upw_s | refine (upw_n (by omega)).trans ?_)) (by first | assumption | omega) (by exact Nat.le_of_ble_eq_true rfl) ?_
  refine r_aload_n (i := 0) i_R_read_5 rfl rfl ?_
  refine r_iconst (v := (-1 : Int32)) i_R_read_6 rfl ?_
  refine r_putf (ci := 3) (T := Fk3) (k := 5) o_R_read i_R_read_7 x_R_28 rfl (by decide) rfl rfl (ok3 5 (by decide)) rfl (by repeat (first | assumption | exact upw_s | refine (upw_n (by omega)).trans ?_)) (by first | assumption | omega) (by exact Nat.le_of_ble_eq_true rfl) ?_
  refine r_aload_n (i := 0) i_R_read_10 rfl rfl ?_
  refine m_virtual o_R_read k_R_step v_R_step x_R_35 i_R_read_11 o_R_step (c_R_step (L := (0, L.2.1, L.2.2)) (fa := -1) (f := f) (z := z) ⟨(by exact upw_s), (by repeat (first | assumption | exact upw_s | refine (upw_n (by omega)).trans ?_)), hn⟩ hz (Nat.zero_le _)) rfl (rcv_ob (by repeat (first | assumption | exact upw_s | refine (upw_n (by omega)).trans ?_)) rfl (by first | assumption | omega)) rfl (by decide) (Nat.le_of_ble_eq_true rfl) (Nat.zero_le _) (Nat.zero_le _) (fun r1 w3 n1 hp9 => ?_)
  obtain ⟨rfl, ⟨hR3, hF3⟩, rfl⟩ := hp9
  refine r_iconst (v := (0 : Int32)) i_R_read_14 rfl ?_
  refine r_istore_2 i_R_read_15 (by rw [l_R_read]; decide) rfl ?_
  refine r_iconst (v := (1 : Int32)) i_R_read_16 rfl ?_
  refine r_istore_3 i_R_read_17 (by rw [l_R_read]; decide) rfl ?_
  exact c_read_loop hfm hd hz 251 0 (by omega) (lexF f z 0, -1, S) _ hS (lex_le (Nat.zero_le _)) hR3 (hT.fr (fun j q1 q2 => (hF3 j (by omega)).trans ((upw_n (by omega)).trans (upw_n (by omega))))) (fun j q1 q2 => (hF3 j q1).trans ((upw_n q1).trans (upw_n q1)))
end READ
