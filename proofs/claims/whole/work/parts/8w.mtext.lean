-- THE REFERENCE: the whole text, town
section MTEXT
variable {G : gE} {w : aW} {o n : Nat} {M : aM} {f : Nat → Int32} {z : Nat} {L : aL}
/-- what stays when a text is read: all but the town and the reader's own; how many statements stand -/
def keepR (M N : aM) : Prop := (∀ j, j < 18 → N.2.1 j = M.2.1 j) ∧ N.1 8 = M.1 8 ∧ N.2.2 = M.2.2
theorem keepM.R {M N : aM} (h : keepM M N) : keepR M N := ⟨h.1, h.2.1, h.2.2.2⟩
theorem keepR.tr {M N O : aM} (h : keepR M N) (h2 : keepR N O) : keepR M O := ⟨fun j hj => (h2.1 j hj).trans (h.1 j hj), h2.2.1.trans h.2.1, h2.2.2.trans h.2.2⟩
def rdPM (w : aW) (o n : Nat) (M : aM) (r : Nat × aP) : Option Value → aW → Nat → Prop := fun v w' n' => n' = n ∧ mFr w w' o ∧ ∃ x : Int32, v = some (.int x) ∧ ((x = 1 ∧ (rdE r.2).2.1 = -1 ∧ ∃ N, MW w' o N n ∧ keepR M N ∧ TQ (rdE r.2).2.2 N ∧ N.1 28 = nI r.1) ∨ (x = 0 ∧ ¬ (rdE r.2).2.1 = -1 ∧ ∃ N, MW w' o N n ∧ keepR M N ∧ N.1 26 = (rdE r.2).2.1))
theorem st_word {L : aL} {S : aS} (hz : z ≤ 250) (hL : LOk L z) (h : (stM f z (L, -1, S)).2.1 = -1) : L.2.1 = 1 := by
  refine Classical.byContradiction (fun q => ?_)
  have hw : ∀ j, ¬ wordB f L j = true := fun j hj => by
    unfold wordB at hj
    rw [decide_eq_false q, Bool.false_and] at hj
    exact absurd hj (by decide)
  unfold stM at h
  rw [if_neg (hw 0), if_neg (hw 1), if_neg (hw 3), if_neg (hw 4), if_neg (hw 5), if_neg (hw 6), if_neg (hw 7), if_neg (hw 8)] at h
  have h : faF L (-1) = -1 := h
  exact faF_ne hL hz h
theorem rdE_fa {q : aP} (h : ¬ q.2.1 = -1) : (rdE q).2.1 = q.2.1 := by
  unfold rdE
  split
  · rfl
  · show (if q.2.1 = -1 then nI q.1.2.2 else q.2.1) = q.2.1
    exact if_neg h
theorem rn_ge {lo hi but fa : Int32} {L : aL} (hL : LOk L z) : L.1 ≤ (rnR f z L fa lo hi but).2.1.1 := by
  unfold rnR
  split
  · have := (lex_le (f := f) (z := z) hL.2.1).1
    have := lx_ge (f := f) (z := z) (p := L.1)
    show L.1 ≤ (lexF f z L.1).1
    omega
  · exact Nat.le_refl _
theorem lex_ge {L : aL} (hL : LOk L z) : L.1 ≤ (lexF f z L.1).1 := by
  have := (lex_le (f := f) (z := z) hL.2.1).1
  have := lx_ge (f := f) (z := z) (p := L.1)
  omega
theorem hur_ge {b : Int32} : ∀ m (q : aP), LOk q.1 z → q.1.1 ≤ (hurF f z b m q).1.1
  | 0, q, _ => Nat.le_refl _
  | m + 1, q, hL => by
    unfold hurF
    split
    · have l0 : LOk (lexF f z q.1.1) z := lex_le hL.2.1
      have l1 : LOk (rn1 f z (q.2.2.1 0) q).2.1 z := rn1_ok hL
      have l2 : LOk (rn9 f z (rn1 f z (q.2.2.1 0) q)).2.1 z := rn9_ok l1
      have a1 : q.1.1 ≤ (lexF f z q.1.1).1 := lex_ge hL
      have a2 : (lexF f z q.1.1).1 ≤ (rn1 f z (q.2.2.1 0) q).2.1.1 := rn_ge l0
      have a3 : (rn1 f z (q.2.2.1 0) q).2.1.1 ≤ (rn9 f z (rn1 f z (q.2.2.1 0) q)).2.1.1 := rn_ge l1
      have a4 := hur_ge (b := b) m (huS b q (rn1 f z (q.2.2.1 0) q) (rn9 f z (rn1 f z (q.2.2.1 0) q))) l2
      have a5 : (huS b q (rn1 f z (q.2.2.1 0) q) (rn9 f z (rn1 f z (q.2.2.1 0) q))).1.1 = (rn9 f z (rn1 f z (q.2.2.1 0) q)).2.1.1 := rfl
      omega
    · exact Nat.le_refl _
theorem stM_ge {q : aP} (hL : LOk q.1 z) : q.1.1 ≤ (stM f z q).1.1 := by
  have l0 : LOk (lexF f z q.1.1) z := lex_le hL.2.1
  have a0 : q.1.1 ≤ (lexF f z q.1.1).1 := lex_ge hL
  have a1 : ∀ N, (lexF f z q.1.1).1 ≤ (rn1 f z N q).2.1.1 := fun N => rn_ge l0
  have aP : ∀ N but v, LOk v.2.1 z → v.2.1.1 ≤ (rnP f z N but v).2.1.1 := fun N but v h => rn_ge h
  have a9 : ∀ v, LOk v.2.1 z → v.2.1.1 ≤ (rn9 f z v).2.1.1 := fun v h => rn_ge h
  refine stM_ind (Pr := fun x => q.1.1 ≤ x.1.1) ?_ ?_ ?_ ?_ ?_ (Nat.le_refl _)
  · unfold stOne
    split
    · exact a0
    · exact Nat.le_refl _
  · unfold stDeal
    split
    · have l1 : LOk (rn1 f z (q.2.2.1 0) q).2.1 z := rn1_ok hL
      have b1 := a1 (q.2.2.1 0)
      generalize rn1 f z (q.2.2.1 0) q = v1 at *
      have l2 : LOk (rnP f z (q.2.2.1 0) v1.1 v1).2.1 z := rnP_ok l1
      have b2 := aP (q.2.2.1 0) v1.1 v1 l1
      generalize rnP f z (q.2.2.1 0) v1.1 v1 = v2 at *
      have l3 : LOk (rn9 f z v2).2.1 z := rn9_ok l2
      have b3 := a9 v2 l2
      generalize rn9 f z v2 = v3 at *
      have l4 : LOk (rn9 f z v3).2.1 z := rn9_ok l3
      have b4 := a9 v3 l3
      generalize rn9 f z v3 = v4' at *
      unfold dlS
      split
      · have := hur_ge (f := f) (z := z) (b := q.2.2.1 1) 250 (v4'.2.1, v4'.2.2, addB q.2.2 (q.2.2.1 1).toNatClampNeg v1.1 v2.1 v3.1 v4'.1) l4
        have : v4'.2.1.1 ≤ (hurF f z (q.2.2.1 1) 250 (v4'.2.1, v4'.2.2, addB q.2.2 (q.2.2.1 1).toNatClampNeg v1.1 v2.1 v3.1 v4'.1)).1.1 := this
        omega
      · show q.1.1 ≤ v4'.2.1.1
        omega
    · exact Nat.le_refl _
  · unfold stGains
    have l1 : LOk (rn1 f z (q.2.2.1 1) q).2.1 z := rn1_ok hL
    have b1 := a1 (q.2.2.1 1)
    generalize rn1 f z (q.2.2.1 1) q = v1 at *
    have l2 : LOk (rnP f z (q.2.2.1 0) (-1) v1).2.1 z := rnP_ok l1
    have b2 := aP (q.2.2.1 0) (-1) v1 l1
    generalize rnP f z (q.2.2.1 0) (-1) v1 = v2 at *
    have b3 := a9 v2 l2
    generalize rn9 f z v2 = v3 at *
    show q.1.1 ≤ v3.2.1.1
    omega
  · unfold stBars
    have l1 : LOk (rn1 f z (q.2.2.1 1) q).2.1 z := rn1_ok hL
    have b1 := a1 (q.2.2.1 1)
    generalize rn1 f z (q.2.2.1 1) q = v1 at *
    have b2 := aP (q.2.2.1 1) v1.1 v1 l1
    generalize rnP f z (q.2.2.1 1) v1.1 v1 = v2 at *
    show q.1.1 ≤ v2.2.1.1
    omega
  · intro c
    have b1 : (lexF f z q.1.1).1 ≤ (lw1 f z c q).2.1.1 := rn_ge l0
    show q.1.1 ≤ (lw1 f z c q).2.1.1
    omega
theorem c_R_loop {M0 : aM} (hfm : (gfm G).category = 1) (hz : z ≤ 250) : ∀ (m c : Nat) (q : aP) (w1 : aW) (N : aM), q.2.1 = -1 → MW w1 o N n → mFr w w1 o → keepR M0 N → RS N f z q.1 → isLx f z q.1 → TQ q.2.2 N → ZBS q.2.2 → 250 < q.1.1 + m → N.1 28 = nI (c + 1) → Go G 9 y_M_readAll 23 [some (.ref o)] [] w1 n 0 0 (rdPM w o n M0 (if q.1.2.1 = 3 then rdF f z m (c + 1) (lexF f z q.1.1, -1, q.2.2) else (c + 1, q))) := by
  intro m
  induction m with
  | zero =>
    intro c q w1 N _ _ _ _ _ hL _ _ hm
    have := hL.ok.2.1
    omega
  | succ m ih =>
    intro c q w1 N hq h1 hF hk hR hL hT hZ hm hN
    have g0 := h1.1
    have hn := h1.2.2.2.2.2.2
    have hok := hL.ok
    have hk4 := hok.2.2
    by_cases h0 : q.1.2.1 = 0
    · rw [if_neg (fun z => by rw [h0] at z; exact absurd z (by decide))]
      have er : rdE q = q := if_pos h0
      refine r_aload_n (i := 0) i_M_readAll_23 rfl rfl ?_
      refine r_getf (ci := 6) (T := Fk6) (k := 23) o_M_readAll i_M_readAll_24 x_M_144 rfl (by decide) rfl (by repeat (first | assumption | exact upw_s | refine (upw_n (by omega)).trans ?_)) (by first | assumption | omega) (by rfl) ?_
      rw [hR.2.1, h0]
      refine r_if_eq 69 i_M_readAll_27 (by decide) (fun h27 => ?_) (fun h27 => (absurd rfl h27))
      refine r_iconst (v := (1 : Int32)) i_M_readAll_69 rfl ?_
      refine r_ireturn i_M_readAll_70 t_M_readAll rfl ⟨rfl, hF, 1, rfl, Or.inl ⟨rfl, by show (rdE q).2.1 = -1; rw [er]; exact hq, N, h1, hk, by show TQ (rdE q).2.2 N; rw [er]; exact hT, hN⟩⟩
      skip
    · by_cases h3 : q.1.2.1 = 3
      · rw [if_pos h3]
        have hlk := c_M_look (G := G) (p := q.1.1) (z := z) (f := f) h1 hR.1 hok.2.1 hz hR.2.2.2.2.1 hR.2.2.2.2.2
        have hRS : RS (mLk N f z (lexF f z q.1.1)) f z (lexF f z q.1.1) := RS.lk hR.2.2.2.2.1 hR.2.2.2.2.2
        have hT2 := hT.scr (N := mLk N f z (lexF f z q.1.1)) scr_P
        have hk2 : keepM N (mLk N f z (lexF f z q.1.1)) := scr_P.keep
        generalize mLk N f z (lexF f z q.1.1) = N2 at *
        have hst := fun w h => c_M_statement (G := G) (w := w) (o := o) (n := n) (M := N2) (S := q.2.2) hfm h hRS hz hL.nx hT2 hZ
        have e7 : rdF f z (m + 1) (c + 1) (lexF f z q.1.1, -1, q.2.2) = if (stM f z (lexF f z q.1.1, -1, q.2.2)).2.1 = -1 ∧ (stM f z (lexF f z q.1.1, -1, q.2.2)).1.2.1 = 3 then rdF f z m (c + 1 + 1) (lexF f z (stM f z (lexF f z q.1.1, -1, q.2.2)).1.1, (stM f z (lexF f z q.1.1, -1, q.2.2)).2.1, (stM f z (lexF f z q.1.1, -1, q.2.2)).2.2) else (c + 1 + 1, stM f z (lexF f z q.1.1, -1, q.2.2)) := rfl
        rw [e7]
        have hge := stM_ge (f := f) (z := z) (q := (lexF f z q.1.1, -1, q.2.2)) hL.nx.ok
        have hwd := st_word (f := f) (z := z) (L := lexF f z q.1.1) (S := q.2.2) hz hL.nx.ok
        have hzb := zbs_stM (f := f) (z := z) (q := (lexF f z q.1.1, -1, q.2.2)) hz hL.nx.ok hZ
        generalize stM f z (lexF f z q.1.1, -1, q.2.2) = q' at *
        refine r_aload_n (i := 0) i_M_readAll_23 rfl rfl ?_
        refine r_getf (ci := 6) (T := Fk6) (k := 23) o_M_readAll i_M_readAll_24 x_M_144 rfl (by decide) rfl (by repeat (first | assumption | exact upw_s | refine (upw_n (by omega)).trans ?_)) (by first | assumption | omega) (by rfl) ?_
        rw [hR.2.1]
        refine r_if_eq 69 i_M_readAll_27 (by decide) (fun h27 => (absurd ((nI_eq (b := 0) (by omega) (by decide)).mp h27) h0)) (fun h27 => ?_)
        refine r_aload_n (i := 0) i_M_readAll_30 rfl rfl ?_
        refine r_getf (ci := 6) (T := Fk6) (k := 23) o_M_readAll i_M_readAll_31 x_M_144 rfl (by decide) rfl (by repeat (first | assumption | exact upw_s | refine (upw_n (by omega)).trans ?_)) (by first | assumption | omega) (by rfl) ?_
        refine r_iconst (v := (3 : Int32)) i_M_readAll_34 rfl ?_
        rw [hR.2.1]
        refine r_icmp_eq 43 i_M_readAll_35 (by decide) (fun h35 => ?_) (fun h35 => (absurd (by rw [h3]; rfl) h35))
        refine r_aload_n (i := 0) i_M_readAll_43 rfl rfl ?_
        refine m_virtual o_M_readAll k_M_look v_M_look x_M_171 i_M_readAll_44 o_M_look (hlk) rfl (rcv_ob g0 rfl (by omega)) rfl (by decide) (Nat.le_of_ble_eq_true rfl) (Nat.zero_le _) (Nat.zero_le _) (fun q1 w2 n1 hp9 => ?_)
        obtain ⟨rfl, ⟨hM2, hF2⟩, rfl⟩ := hp9
        have m2 := hM2.1
        refine r_aload_n (i := 0) i_M_readAll_47 rfl rfl ?_
        refine m_virtual o_M_readAll k_M_statement v_M_statement x_M_225 i_M_readAll_48 o_M_statement (hst _ hM2) rfl (rcv_ob m2 rfl (by omega)) rfl (by decide) (Nat.le_of_ble_eq_true rfl) (Nat.zero_le _) (Nat.zero_le _) (fun q2 w3 n2 hp8 => ?_)
        obtain ⟨rfl, hF3, x, rfl, hx⟩ := hp8
        refine r_if_ne 56 i_M_readAll_51 (by decide) (fun h51 => ?_) (fun h51 => ?_)
        · skip
          obtain ⟨-, e1, N3, hN3, d1, d2, d3, d4⟩ := hx.resolve_right (fun q => h51 q.1)
          have m3 := hN3.1
          have hm4 := (hN3.obj (M' := mS N3 28 (N3.1 28 + 1)) rfl rfl)
          have adv := lx_adv hL.nx (by rw [hwd e1]; decide)
          have g1 : q.1.1 ≤ (lexF f z q.1.1).2.2 := lx_ge
          have hge : (lexF f z q.1.1).1 ≤ q'.1.1 := hge
          refine r_aload_n (i := 0) i_M_readAll_56 rfl rfl ?_
          refine r_dup i_M_readAll_57 rfl ?_
          refine r_getf (ci := 6) (T := Fk6) (k := 28) o_M_readAll i_M_readAll_58 x_M_222 rfl (by decide) rfl (by repeat (first | assumption | exact upw_s | refine (upw_n (by omega)).trans ?_)) (by first | assumption | omega) (by rfl) ?_
          refine r_iconst (v := (1 : Int32)) i_M_readAll_61 rfl ?_
          refine r_iadd i_M_readAll_62 ?_
          refine r_putf (ci := 6) (T := Fk6) (k := 28) o_M_readAll i_M_readAll_63 x_M_222 rfl (by decide) rfl rfl (ok6 28 (by decide)) rfl (by repeat (first | assumption | exact upw_s | refine (upw_n (by omega)).trans ?_)) (by first | assumption | omega) (by exact Nat.le_of_ble_eq_true rfl) ?_
          refine r_goto 23 i_M_readAll_66 (by decide) ?_
          have hfin := ih (c + 1) q' _ (mS N3 28 (N3.1 28 + 1)) e1 hm4 (((hF.tr hF2).tr hF3).up (by omega) (by omega)) ((hk.tr hk2.R).tr (d1.R.tr ⟨fun _ _ => rfl, rfl, rfl⟩)) (d2.of (fun k hk => if_neg (by omega)) rfl) d3 d4 hzb (by omega) (by show N3.1 28 + 1 = _; rw [d1.2.2.1, hk2.2.2.1, hN, nI_1])
          by_cases h33 : q'.1.2.1 = 3
          · rw [if_pos ⟨e1, h33⟩, e1]
            rw [if_pos h33] at hfin
            exact hfin
          · rw [if_neg (fun z => h33 z.2)]
            rw [if_neg h33] at hfin
            exact hfin
        · skip
          obtain ⟨-, e1, N3, hN3, d1, d2⟩ := hx.resolve_left (fun q => by rw [q.1] at h51; exact absurd h51 (by decide))
          rw [if_neg (fun z => e1 z.1)]
          refine r_iconst (v := (0 : Int32)) i_M_readAll_54 rfl ?_
          refine r_ireturn i_M_readAll_55 t_M_readAll rfl ⟨rfl, (hF.tr hF2).tr hF3, 0, rfl, Or.inr ⟨rfl, by show ¬ (rdE q').2.1 = -1; rw [rdE_fa e1]; exact e1, N3, hN3, (hk.tr hk2.R).tr d1.R, by show N3.1 26 = (rdE q').2.1; rw [rdE_fa e1]; exact d2⟩⟩
          skip
      · rw [if_neg h3]
        have er : rdE q = (q.1, faF q.1 q.2.1, q.2.2) := if_neg h0
        have hwr : Mt G 0 y_M_wrong [.ref o] w1 n 0 0 (fun r w' n' => r = some (.int 0) ∧ (MW w' o (mS N 26 (N.1 24)) n ∧ mFr w1 w' o) ∧ n' = n) := c_M_wrong h1
        refine r_aload_n (i := 0) i_M_readAll_23 rfl rfl ?_
        refine r_getf (ci := 6) (T := Fk6) (k := 23) o_M_readAll i_M_readAll_24 x_M_144 rfl (by decide) rfl (by repeat (first | assumption | exact upw_s | refine (upw_n (by omega)).trans ?_)) (by first | assumption | omega) (by rfl) ?_
        rw [hR.2.1]
        refine r_if_eq 69 i_M_readAll_27 (by decide) (fun h27 => (absurd ((nI_eq (b := 0) (by omega) (by decide)).mp h27) h0)) (fun h27 => ?_)
        refine r_aload_n (i := 0) i_M_readAll_30 rfl rfl ?_
        refine r_getf (ci := 6) (T := Fk6) (k := 23) o_M_readAll i_M_readAll_31 x_M_144 rfl (by decide) rfl (by repeat (first | assumption | exact upw_s | refine (upw_n (by omega)).trans ?_)) (by first | assumption | omega) (by rfl) ?_
        refine r_iconst (v := (3 : Int32)) i_M_readAll_34 rfl ?_
        rw [hR.2.1]
        refine r_icmp_eq 43 i_M_readAll_35 (by decide) (fun h35 => (absurd ((nI_eq (b := 3) (by omega) (by decide)).mp h35) h3)) (fun h35 => ?_)
        refine r_aload_n (i := 0) i_M_readAll_38 rfl rfl ?_
        refine m_virtual o_M_readAll k_M_wrong v_M_wrong x_M_167 i_M_readAll_39 o_M_wrong (hwr) rfl (rcv_ob g0 rfl (by omega)) rfl (by decide) (Nat.le_of_ble_eq_true rfl) (Nat.zero_le _) (Nat.zero_le _) (fun q1 w3 n1 hp9 => ?_)
        obtain ⟨rfl, ⟨hM3, hF3⟩, rfl⟩ := hp9
        refine r_ireturn i_M_readAll_42 t_M_readAll rfl ⟨rfl, hF.tr hF3, 0, rfl, Or.inr ⟨rfl, by show ¬ (rdE q).2.1 = -1; rw [er]; exact faF_ne hok hz, _, hM3, hk.tr scr_26.keep.R, ?_⟩⟩
        show N.1 24 = (rdE q).2.1
        rw [er, hq]
        show N.1 24 = faF q.1 (-1)
        rw [fa_m1]
        exact hR.2.2.1
theorem c_M_readAll {S : aS} (hfm : (gfm G).category = 1) (h : MW w o M n) (hz : z ≤ 250) (ez : M.1 8 = nI z) (ef : M.2.1 16 = f) (hT : TQ S M) (hZ : ZBS S) : Mt G 9 y_M_readAll [.ref o] w n 0 0 (rdPM w o n M (readS f z S)) := by
  refine Mt.of k_M_readAll l_M_readAll (Nat.le_of_ble_eq_true rfl) rfl ?_
  have g0 := h.1
  have hn := h.2.2.2.2.2.2
  have h1 := h.obj (M' := mS M 28 1) rfl rfl
  have h2 := h1.obj (M' := mS (mS M 28 1) 22 0) rfl rfl
  have hlk := c_M_look (G := G) (M := mS (mS M 28 1) 22 0) (p := 0) (z := z) (f := f) h2 rfl (Nat.zero_le _) hz ez ef
  have hL0 : isLx f z (lexF f z 0) := ⟨0, Nat.zero_le _, rfl⟩
  have hRS : RS (mLk (mS (mS M 28 1) 22 0) f z (lexF f z 0)) f z (lexF f z 0) := RS.lk ez ef
  have hT2 : TQ S (mLk (mS (mS M 28 1) 22 0) f z (lexF f z 0)) := by
    refine TQ.scr (M := mS (mS M 28 1) 22 0) ?_ scr_P
    exact hT
  have hk2 : keepR M (mLk (mS (mS M 28 1) 22 0) f z (lexF f z 0)) := ⟨fun _ _ => rfl, rfl, rfl⟩
  have hs28 : (mLk (mS (mS M 28 1) 22 0) f z (lexF f z 0)).1 28 = 1 := rfl
  generalize mLk (mS (mS M 28 1) 22 0) f z (lexF f z 0) = N2 at *
  have hst := fun w h => c_M_statement (G := G) (w := w) (o := o) (n := n) (M := N2) (S := S) hfm h hRS hz hL0 hT2 hZ
  have e7 : readS f z S = if (stM f z (lexF f z 0, -1, S)).2.1 = -1 ∧ (stM f z (lexF f z 0, -1, S)).1.2.1 = 3 then rdF f z 250 (0 + 1) (lexF f z (stM f z (lexF f z 0, -1, S)).1.1, (stM f z (lexF f z 0, -1, S)).2.1, (stM f z (lexF f z 0, -1, S)).2.2) else (0 + 1, stM f z (lexF f z 0, -1, S)) := rfl
  rw [e7]
  have hge := stM_ge (f := f) (z := z) (q := (lexF f z 0, -1, S)) hL0.ok
  have hwd := st_word (f := f) (z := z) (L := lexF f z 0) (S := S) hz hL0.ok
  have hzb := zbs_stM (f := f) (z := z) (q := (lexF f z 0, -1, S)) hz hL0.ok hZ
  generalize stM f z (lexF f z 0, -1, S) = q' at *
  refine r_aload_n (i := 0) i_M_readAll_0 rfl rfl ?_
  refine r_iconst (v := (1 : Int32)) i_M_readAll_1 rfl ?_
  refine r_putf (ci := 6) (T := Fk6) (k := 28) o_M_readAll i_M_readAll_2 x_M_222 rfl (by decide) rfl rfl (ok6 28 (by decide)) rfl (by repeat (first | assumption | exact upw_s | refine (upw_n (by omega)).trans ?_)) (by first | assumption | omega) (by exact Nat.le_of_ble_eq_true rfl) ?_
  refine r_aload_n (i := 0) i_M_readAll_5 rfl rfl ?_
  refine r_iconst (v := (0 : Int32)) i_M_readAll_6 rfl ?_
  refine r_putf (ci := 6) (T := Fk6) (k := 22) o_M_readAll i_M_readAll_7 x_M_135 rfl (by decide) rfl rfl (ok6 22 (by decide)) rfl (by repeat (first | assumption | exact upw_s | refine (upw_n (by omega)).trans ?_)) (by first | assumption | omega) (by exact Nat.le_of_ble_eq_true rfl) ?_
  refine r_aload_n (i := 0) i_M_readAll_10 rfl rfl ?_
  refine m_virtual o_M_readAll k_M_look v_M_look x_M_171 i_M_readAll_11 o_M_look (hlk) rfl (rcv_ob (by repeat (first | assumption | exact upw_s | refine (upw_n (by omega)).trans ?_)) rfl (by first | assumption | omega)) rfl (by decide) (Nat.le_of_ble_eq_true rfl) (Nat.zero_le _) (Nat.zero_le _) (fun q1 w2 n1 hp9 => ?_)
  obtain ⟨rfl, ⟨hM2, hF2⟩, rfl⟩ := hp9
  have hF2 := ((mFr.rf (w := w) (o := o)).up (j := o) (c := .inr (6, mob o (mS M 28 1))) (by omega) (by omega)).up (j := o) (c := .inr (6, mob o (mS (mS M 28 1) 22 0))) (by omega) (by omega) |>.tr hF2
  have m2 := hM2.1
  refine r_aload_n (i := 0) i_M_readAll_14 rfl rfl ?_
  refine m_virtual o_M_readAll k_M_statement v_M_statement x_M_225 i_M_readAll_15 o_M_statement (hst _ hM2) rfl (rcv_ob m2 rfl (by omega)) rfl (by decide) (Nat.le_of_ble_eq_true rfl) (Nat.zero_le _) (Nat.zero_le _) (fun q2 w3 n2 hp8 => ?_)
  obtain ⟨rfl, hF3, x, rfl, hx⟩ := hp8
  refine r_if_ne 23 i_M_readAll_18 (by decide) (fun h18 => ?_) (fun h18 => ?_)
  · skip
    obtain ⟨-, e1, N3, hN3, d1, d2, d3, d4⟩ := hx.resolve_right (fun q => h18 q.1)
    have adv := lx_adv hL0 (by rw [hwd e1]; decide)
    have hge : (lexF f z 0).1 ≤ q'.1.1 := hge
    have hfin := c_R_loop (G := G) (w := w) hfm hz 250 0 q' _ N3 e1 hN3 (hF2.tr hF3) (hk2.tr d1.R) d2 d3 d4 hzb (by omega) (by rw [d1.2.2.1, hs28]; rfl)
    by_cases h33 : q'.1.2.1 = 3
    · rw [if_pos ⟨e1, h33⟩, e1]
      rw [if_pos h33] at hfin
      exact hfin
    · rw [if_neg (fun z => h33 z.2)]
      rw [if_neg h33] at hfin
      exact hfin
  · skip
    obtain ⟨-, e1, N3, hN3, d1, d2⟩ := hx.resolve_left (fun q => by rw [q.1] at h18; exact absurd h18 (by decide))
    rw [if_neg (fun z => e1 z.1)]
    refine r_iconst (v := (0 : Int32)) i_M_readAll_21 rfl ?_
    refine r_ireturn i_M_readAll_22 t_M_readAll rfl ⟨rfl, hF2.tr hF3, 0, rfl, Or.inr ⟨rfl, by show ¬ (rdE q').2.1 = -1; rw [rdE_fa e1]; exact e1, N3, hN3, hk2.tr d1.R, by show N3.1 26 = (rdE q').2.1; rw [rdE_fa e1]; exact d2⟩⟩
    skip
theorem TQ_of {S : aS} {M N : aM} (h : TQ S M) (hG : tG N M) : TQ S N := by
  obtain ⟨h1, h2, h3, ⟨h4, h5, h6⟩, h7, h8, h9⟩ := h
  obtain ⟨s1, s2⟩ := hG
  refine ⟨h1.trans (s1 10 (by omega)).symm, h2.trans (s1 13 (by omega)).symm, fun k hk => ?_, ⟨h4.trans (s1 19 (by omega)).symm, h5.trans (s1 17 (by omega)).symm, h6.trans (s1 18 (by omega)).symm⟩, fun t ht => ?_, fun j b hj hb => ?_, fun b t hb ht => ?_⟩
  · rw [s2 36 (by omega)]
    exact h3 k hk
  · rw [s2 18 (by omega), s2 19 (by omega)]
    exact h7 t ht
  · rw [s2 (21 + b) (by omega)]
    exact h8 j b hj hb
  · rw [s2 (29 + b) (by omega)]
    exact h9 b t hb ht
end MTEXT
