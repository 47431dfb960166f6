-- THE REFERENCE: town
def faOk (fa : Int32) : Prop := fa = -1 ∨ ∃ s, s ≤ 250 ∧ fa = nI s
section FAOK
variable {f : Nat → Int32} {z : Nat}
theorem fa_F {L : aL} {fa : Int32} (hL : LOk L z) (hz : z ≤ 250) (h : faOk fa) : faOk (faF L fa) := by
  unfold faF
  split
  · exact Or.inr ⟨L.2.2, by have := hL.1; have := hL.2.1; omega, rfl⟩
  · exact h
theorem fa_rn {L : aL} {fa lo hi but : Int32} (hL : LOk L z) (hz : z ≤ 250) (h : faOk fa) : faOk (rnR f z L fa lo hi but).2.2 := by
  unfold rnR
  split
  · exact h
  · exact fa_F hL hz h
theorem fa_hur {b : Int32} (hz : z ≤ 250) : ∀ m (q : aP), LOk q.1 z → faOk q.2.1 → faOk (hurF f z b m q).2.1
  | 0, q, _, h => h
  | m + 1, q, hL, h => by
    unfold hurF
    split
    · have l0 : LOk (lexF f z q.1.1) z := lex_le hL.2.1
      have l1 : LOk (rn1 f z (q.2.2.1 0) q).2.1 z := rn1_ok hL
      have l2 : LOk (rn9 f z (rn1 f z (q.2.2.1 0) q)).2.1 z := rn9_ok l1
      exact fa_hur hz m _ l2 (fa_rn l1 hz (fa_rn l0 hz h))
    · exact h
theorem fa_stM {q : aP} (hz : z ≤ 250) (hL : LOk q.1 z) (h : faOk q.2.1) : faOk (stM f z q).2.1 := by
  have l0 : LOk (lexF f z q.1.1) z := lex_le hL.2.1
  refine stM_ind (Pr := fun x => faOk x.2.1) ?_ ?_ ?_ ?_ ?_ (fa_F hL hz h)
  · unfold stOne
    split
    · exact h
    · exact fa_F hL hz h
  · unfold stDeal
    split
    · have l1 : LOk (rn1 f z (q.2.2.1 0) q).2.1 z := rn1_ok hL
      have b1 : faOk (rn1 f z (q.2.2.1 0) q).2.2 := fa_rn l0 hz h
      generalize rn1 f z (q.2.2.1 0) q = v1 at *
      have l2 : LOk (rnP f z (q.2.2.1 0) v1.1 v1).2.1 z := rnP_ok l1
      have b2 : faOk (rnP f z (q.2.2.1 0) v1.1 v1).2.2 := fa_rn l1 hz b1
      generalize rnP f z (q.2.2.1 0) v1.1 v1 = v2 at *
      have l3 : LOk (rn9 f z v2).2.1 z := rn9_ok l2
      have b3 : faOk (rn9 f z v2).2.2 := fa_rn l2 hz b2
      generalize rn9 f z v2 = v3 at *
      have l4 : LOk (rn9 f z v3).2.1 z := rn9_ok l3
      have b4 : faOk (rn9 f z v3).2.2 := fa_rn l3 hz b3
      generalize rn9 f z v3 = v4' at *
      unfold dlS
      split
      · exact fa_hur hz 250 _ l4 b4
      · exact b4
    · exact fa_F hL hz h
  · unfold stGains
    have l1 : LOk (rn1 f z (q.2.2.1 1) q).2.1 z := rn1_ok hL
    have b1 : faOk (rn1 f z (q.2.2.1 1) q).2.2 := fa_rn l0 hz h
    generalize rn1 f z (q.2.2.1 1) q = v1 at *
    have l2 : LOk (rnP f z (q.2.2.1 0) (-1) v1).2.1 z := rnP_ok l1
    have b2 : faOk (rnP f z (q.2.2.1 0) (-1) v1).2.2 := fa_rn l1 hz b1
    generalize rnP f z (q.2.2.1 0) (-1) v1 = v2 at *
    have b3 : faOk (rn9 f z v2).2.2 := fa_rn l2 hz b2
    generalize rn9 f z v2 = v3 at *
    exact b3
  · unfold stBars
    have l1 : LOk (rn1 f z (q.2.2.1 1) q).2.1 z := rn1_ok hL
    have b1 : faOk (rn1 f z (q.2.2.1 1) q).2.2 := fa_rn l0 hz h
    generalize rn1 f z (q.2.2.1 1) q = v1 at *
    have b2 : faOk (rnP f z (q.2.2.1 1) v1.1 v1).2.2 := fa_rn l1 hz b1
    generalize rnP f z (q.2.2.1 1) v1.1 v1 = v2 at *
    exact b2
  · intro c
    have b1 : faOk (lw1 f z c q).2.2 := fa_rn l0 hz h
    unfold stLaw
    generalize lw1 f z c q = v1 at *
    exact b1
theorem fa_rdF (hz : z ≤ 250) : ∀ m c (q : aP), LOk q.1 z → faOk q.2.1 → faOk (rdF f z m c q).2.2.1 ∧ LOk (rdF f z m c q).2.1 z ∧ (rdF f z m c q).1 ≤ c + m
  | 0, c, q, hL, h => ⟨h, hL, Nat.le_refl _⟩
  | m + 1, c, q, hL, h => by
    have h2 := fa_stM (f := f) hz hL h
    have l2 := stM_ok (f := f) hL
    unfold rdF
    split
    · obtain ⟨a, b, d⟩ := fa_rdF hz m (c + 1) (lexF f z (stM f z q).1.1, (stM f z q).2.1, (stM f z q).2.2) (lex_le l2.2.1) h2
      exact ⟨a, b, by omega⟩
    · exact ⟨h2, l2, by show c + 1 ≤ _; omega⟩
theorem readA_of {S : aS} (hz : z ≤ 250) : ((rdE (readS f z S).2).2.1 = -1 → readA f z S = nI (readS f z S).1 ∧ -20 < readA f z S) ∧ (¬ (rdE (readS f z S).2).2.1 = -1 → readA f z S = -20 - (rdE (readS f z S).2).2.1 ∧ ¬ -20 < readA f z S) := by
  obtain ⟨a, b, c⟩ := fa_rdF (f := f) hz 251 0 (lexF f z 0, -1, S) (lex_le (Nat.zero_le _)) (Or.inl rfl)
  have a : faOk (readS f z S).2.2.1 := a
  have b : LOk (readS f z S).2.1 z := b
  have c : (readS f z S).1 ≤ 0 + 251 := c
  unfold readA rdA
  generalize readS f z S = R at *
  have a2 : faOk (rdE R.2).2.1 := by
    unfold rdE
    split
    · exact a
    · exact fa_F b hz a
  refine ⟨fun e => ?_, fun e => ?_⟩
  · rw [if_pos e]
    refine ⟨rfl, ?_⟩
    rw [Int32.lt_iff_toInt_lt, toInt_nI (by omega), show (-20 : Int32).toInt = -20 from rfl]
    omega
  · rw [if_neg e]
    refine ⟨rfl, ?_⟩
    obtain ⟨s, hs, e2⟩ := a2.resolve_left e
    rw [e2, Int32.lt_iff_toInt_lt, Int32.toInt_sub, toInt_nI (by omega), show (-20 : Int32).toInt = -20 from rfl, Int.bmod_eq_of_le (by omega) (by omega)]
    omega
end FAOK
theorem tf_lo {M K : aM} {j : Nat} (hj : j < 18) : (tfM M K).2.1 j = M.2.1 j := by
  show (if j = 36 then K.2.1 36 else if (21 ≤ j ∧ j < 21 + 7) ∨ (29 ≤ j ∧ j < 29 + 7) then K.2.1 j else if j = 19 then K.2.1 19 else if j = 18 then K.2.1 18 else M.2.1 j) = M.2.1 j
  rw [if_neg (by omega), if_neg (by omega), if_neg (by omega), if_neg (by omega)]
section MTOWN9
variable {G : gE} {w : aW} {n : Nat} {M K : aM} {f : Nat → Int32} {z : Nat}
theorem c_X_town {S : aS} (hfm : (gfm G).category = 1) (h : XW w M K n) (hz : z ≤ 250) (ez : M.1 8 = nI z) (ef : M.2.1 16 = f) (hT : TQ S M) (hZ : ZBS S) : Mt G 10 y_M_town [.ref 44] w n 41 840 (fun r w' n' => ∃ N, r = some (.int (readA f z S)) ∧ XW w' N K n' ∧ xFr w w' ∧ N.2.2.2.1 = M.2.2.2.1 ∧ (∀ j, j < 17 → N.2.1 j = M.2.1 j) ∧ N.2.2.1 = M.2.2.1 ∧ N.1 8 = 0 ∧ ((-20 < readA f z S ∧ TQ (rdE (readS f z S).2).2.2 N ∧ N.2.1 17 = M.2.1 17) ∨ (¬ -20 < readA f z S ∧ TQ S N ∧ N.2.1 17 = upd (M.2.1 17) 2 (M.2.1 17 2 + 1)))) := by
  refine Mt.of k_M_town l_M_town (Nat.le_of_ble_eq_true rfl) rfl ?_
  have g0 := h.1.1
  have hn := h.1.2.2.2.2.2.2
  have hfr := c_X_fresh (G := G) h
  obtain ⟨hA1, hA2⟩ := readA_of (f := f) (S := S) hz
  have hTv : ∀ v, TQ S (mT M v) := fun v => hT
  have hrd := fun v w n h => c_M_readAll (G := G) (w := w) (o := 44) (n := n) (M := mT M v) (S := S) (f := f) (z := z) hfm h hz ez ef (hTv v) hZ
  generalize readS f z S = R at *
  generalize readA f z S = A at *
  refine r_aload_n (i := 0) i_M_town_0 rfl rfl ?_
  refine m_virtual o_M_town k_M_fresh v_M_fresh x_M_228 i_M_town_1 o_M_fresh (hfr) rfl (rcv_ob g0 rfl (by omega)) rfl (by decide) (Nat.le_of_ble_eq_true rfl) (Nat.le_refl _) (Nat.le_refl _) (fun q1 w2 n1 hp9 => ?_)
  obtain ⟨k, T, rfl, hk85, hX2, hMT, hGT, hF2⟩ := hp9
  have m2 := hX2.1.1
  have hn2 := hX2.1.2.2.2.2.2.2
  refine r_astore_1 i_M_town_4 (by rw [l_M_town]; decide) rfl ?_
  refine r_aload_n (i := 0) i_M_town_5 rfl rfl ?_
  refine m_virtual o_M_town k_M_readAll v_M_readAll x_M_232 i_M_town_6 o_M_readAll (hrd _ _ _ hX2.1) rfl (rcv_ob m2 rfl (by omega)) rfl (by decide) (Nat.le_of_ble_eq_true rfl) (Nat.zero_le _) (Nat.zero_le _) (fun q2 w3 n2 hp8 => ?_)
  obtain ⟨rfl, hF3, x, rfl, hx⟩ := hp8
  have hMT3 : MW w3 k T n2 := hMT.fr (fun j q1 q2 => hF3 j (by omega))
  have hx3 : xFr w w3 := fun j hj => (hF3 j (by omega)).trans (hF2 j hj)
  rcases hx with ⟨rfl, e1, N, hN, d1, d2, d3⟩ | ⟨rfl, e1, N, hN, d1, d2⟩
  · have m3 := hN.1
    obtain ⟨a1, a2⟩ := hA1 e1
    have e22 : N.2.2.1 = M.2.2.1 := by rw [d1.2.2]; rfl
    have hN1 := hN.obj (M' := mS N 8 0) rfl rfl
    have hF4 := hF3.up (j := 44) (c := .inr (6, mob 44 (mS N 8 0))) (by omega) (by omega)
    have hX4 := (hX2.mm hN1 hF4 (congrArg Prod.snd d1.2.2)).1
    refine r_istore_2 i_M_town_9 (by rw [l_M_town]; decide) rfl ?_
    refine r_aload_n (i := 0) i_M_town_10 rfl rfl ?_
    refine r_iconst (v := (0 : Int32)) i_M_town_11 rfl ?_
    refine r_putf (ci := 6) (T := Fk6) (k := 8) o_M_town i_M_town_12 x_M_132 rfl (by decide) rfl rfl (ok6 8 (by decide)) rfl m3 (by omega) (by exact Nat.le_of_ble_eq_true rfl) ?_
    refine r_iload_n (i := 2) i_M_town_15 rfl rfl ?_
    refine r_if_ne 39 i_M_town_16 (by decide) (fun h16 => ?_) (fun h16 => absurd h16 (by decide))
    refine r_aload_n (i := 0) i_M_town_39 rfl rfl ?_
    refine r_getf (ci := 6) (T := Fk6) (k := 28) o_M_town i_M_town_40 x_M_222 rfl (by decide) rfl upw_s (by omega) (by rfl) ?_
    refine r_ireturn i_M_town_43 t_M_town rfl ?_
    refine ⟨mS N 8 0, ?_, hX4, fun j hj => (upw_n (by omega)).trans (hx3 j hj), (congrArg (fun y => y.2.1) d1.2.2), fun j hj => d1.1 j (by omega), e22, rfl, Or.inl ⟨a2, d2, d1.1 17 (by omega)⟩⟩
    rw [a1]
    exact congrArg (fun y => some (Value.int y)) d3
  · have m3 := hN.1
    obtain ⟨a1, a2⟩ := hA2 e1
    have e22 : N.2.2.1 = M.2.2.1 := by rw [d1.2.2]; rfl
    have hN1 := hN.obj (M' := mS N 8 0) rfl rfl
    have hF4 := hF3.up (j := 44) (c := .inr (6, mob 44 (mS N 8 0))) (by omega) (by omega)
    have hX4 := (hX2.mm hN1 hF4 (congrArg Prod.snd d1.2.2)).1
    have hMT4 := hMT3.fr (w' := upw w3 44 (.inr (6, mob 44 (mS N 8 0)))) (fun j q1 q2 => upw_n (by omega))
    have htk := c_M_takeFrom (G := G) hN1 hMT4 (by omega)
    have m4 := hN1.1
    refine r_istore_2 i_M_town_9 (by rw [l_M_town]; decide) rfl ?_
    refine r_aload_n (i := 0) i_M_town_10 rfl rfl ?_
    refine r_iconst (v := (0 : Int32)) i_M_town_11 rfl ?_
    refine r_putf (ci := 6) (T := Fk6) (k := 8) o_M_town i_M_town_12 x_M_132 rfl (by decide) rfl rfl (ok6 8 (by decide)) rfl m3 (by omega) (by exact Nat.le_of_ble_eq_true rfl) ?_
    refine r_iload_n (i := 2) i_M_town_15 rfl rfl ?_
    refine r_if_ne 39 i_M_town_16 (by decide) (fun h16 => absurd rfl h16) (fun h16 => ?_)
    refine r_aload_n (i := 0) i_M_town_19 rfl rfl ?_
    refine r_aload_n (i := 1) i_M_town_20 rfl rfl ?_
    refine m_virtual o_M_town k_M_takeFrom v_M_takeFrom x_M_235 i_M_town_21 o_M_takeFrom htk rfl (rcv_ob m4 rfl (by omega)) rfl (by decide) (Nat.le_of_ble_eq_true rfl) (Nat.zero_le _) (Nat.zero_le _) (fun q3 w5 n3 hp7 => ?_)
    obtain ⟨rfl, ⟨hM5, hF5⟩, rfl⟩ := hp7
    have m5 := hM5.1
    refine r_aload_n (i := 0) i_M_town_24 rfl rfl ?_
    refine r_bipush (v := (-2 : Int32)) i_M_town_25 (by decide) ?_
    refine m_virtual o_M_town k_M_refuse v_M_refuse x_M_89 i_M_town_27 o_M_refuse (c_M_refuse (i := 2) hM5 (by decide)) rfl (rcv_ob m5 rfl (by omega)) rfl (by decide) (Nat.le_of_ble_eq_true rfl) (Nat.zero_le _) (Nat.zero_le _) (fun q4 w6 n4 hp6 => ?_)
    obtain ⟨rfl, ⟨hM6, hF6⟩, rfl⟩ := hp6
    have m6 := hM6.1
    refine r_pop i_M_town_30 rfl ?_
    refine r_bipush (v := (-20 : Int32)) i_M_town_31 (by decide) ?_
    refine r_aload_n (i := 0) i_M_town_33 rfl rfl ?_
    refine r_getf (ci := 6) (T := Fk6) (k := 26) o_M_town i_M_town_34 x_M_154 rfl (by decide) rfl m6 (by omega) (by rfl) ?_
    refine r_isub i_M_town_37 ?_
    refine r_ireturn i_M_town_38 t_M_town rfl ?_
    have hX6 := (hX4.mm hM6 (hF5.tr hF6) rfl).1
    refine ⟨mR (tfM (mS N 8 0) T) 2, ?_, hX6, fun j hj => ((hF5.tr hF6) j (by omega)).trans ((upw_n (by omega)).trans (hx3 j hj)), (congrArg (fun y => y.2.1) d1.2.2), fun j hj => ?_, e22, rfl, Or.inr ⟨a2, ?_, ?_⟩⟩
    · rw [a1, ← d2]
      rfl
    · exact (mA_ne (by omega)).trans ((tf_lo (by omega)).trans (d1.1 j (by omega)))
    · have hT9 : TQ S (tfM (mS N 8 0) T) := TQ_of (TQ_of hT hGT) tf_G
      obtain ⟨h1, h2, h3, h4, h7, h8, h9⟩ := hT9
      refine ⟨h1, h2, fun k hk => ?_, h4, fun t ht => ?_, fun j b hj hb => ?_, fun b t hb ht => ?_⟩
      · unfold mR
        rw [mA_ne (by omega)]
        exact h3 k hk
      · unfold mR
        rw [mA_ne (by omega), mA_ne (by omega)]
        exact h7 t ht
      · unfold mR
        rw [mA_ne (by omega)]
        exact h8 j b hj hb
      · unfold mR
        rw [mA_ne (by omega)]
        exact h9 b t hb ht
    · have e17 : (tfM (mS N 8 0) T).2.1 17 = M.2.1 17 := (tf_lo (by omega)).trans (d1.1 17 (by omega))
      unfold mR
      rw [mA_eq, e17]
  skip
end MTOWN9
