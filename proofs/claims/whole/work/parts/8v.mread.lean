-- THE REFERENCE: deals, statements, the whole text
theorem wl_first {f : Nat → Int32} {st j m i : Nat} (h : wlF f st j (m + 1) i = true) : f (st + i) = chN j i := by
  unfold wlF at h
  rw [Bool.and_eq_true] at h
  exact of_decide_eq_true h.1
theorem word_x {f : Nat → Int32} {L : aL} {i j : Nat} (hi : i < 9) (hj : j < 9) (h1 : wordB f L i = true) (h2 : wordB f L j = true) : i = j := by
  unfold wordB at h1 h2
  simp only [Bool.and_eq_true, decide_eq_true_eq] at h1 h2
  obtain ⟨-, a1, a2⟩ := h1
  obtain ⟨-, b1, b2⟩ := h2
  have tab : ∀ i, i < 9 → ∀ j, j < 9 → strL.getD i 0 = strL.getD j 0 → chN i 0 = chN j 0 → i = j := by decide
  have pos : ∀ i, i < 9 → strL.getD i 0 = strL.getD i 0 - 1 + 1 := by decide
  refine tab i hi j hj (a1.symm.trans b1) ?_
  rw [pos i hi] at a2
  rw [pos j hj] at b2
  exact (wl_first a2).symm.trans (wl_first b2)
def ZBS (S : aS) : Prop := ∃ P B : Nat, S.1 0 = nI P ∧ P ≤ 7 ∧ S.1 1 = nI B ∧ B ≤ 7 ∧ ZB S P B
section ZBST
variable {f : Nat → Int32} {z : Nat}
theorem zb_hur {P B b : Nat} (hz : z ≤ 250) (hb : b < B) (hP7 : P ≤ 7) (hB7 : B ≤ 7) : ∀ m (q : aP), LOk q.1 z → q.2.2.1 0 = nI P → ZB q.2.2 P B → ZB (hurF f z (nI b) m q).2.2 P B
  | 0, q, _, _, h => h
  | m + 1, q, hL, hP, h => by
    unfold hurF
    split
    · rename_i hc
      obtain ⟨v1, hv1⟩ : ∃ v, rn1 f z (nI P) q = v := ⟨_, rfl⟩
      obtain ⟨v2, hv2⟩ : ∃ v, rn9 f z v1 = v := ⟨_, rfl⟩
      rw [hP, hv1, hv2]
      have l1 : LOk v1.2.1 z := by rw [← hv1]; exact rn1_ok hL
      have l2 : LOk v2.2.1 z := by rw [← hv2]; exact rn9_ok l1
      refine zb_hur hz hb hP7 hB7 m _ l2 ?_ ?_
      · unfold huS
        show (if v2.2.2 = -1 then putLS q.2.2 (nI b) v1.1 v2.1 else q.2.2).1 0 = nI P
        split <;> exact hP
      · unfold huS
        show ZB (if v2.2.2 = -1 then putLS q.2.2 (nI b) v1.1 v2.1 else q.2.2) P B
        split
        · rename_i e
          have hv2' : rnR f z v1.2.1 v1.2.2 0 99 (-1) = v2 := hv2
          obtain ⟨e1, -⟩ := rn_v99E hv2' l1 hz e
          have hv1' : rnR f z (lexF f z q.1.1) q.2.1 0 (nI P - 1) (-1) = v1 := hv1
          obtain ⟨-, y, hy, ey, -⟩ := rn_valE hv1' (lex_le hL.2.1) hz hP7 e1
          rw [ey]
          exact h.loss hb hy hB7 hP7
        · exact h
    · exact h
theorem zbs_stM {q : aP} (hz : z ≤ 250) (hL : LOk q.1 z) (h : ZBS q.2.2) : ZBS (stM f z q).2.2 := by
  obtain ⟨P, B, hP, hP7, hB, hB7, h⟩ := h
  refine stM_ind (Pr := fun x => ZBS x.2.2) ?_ ?_ ?_ ?_ ?_ ⟨P, B, hP, hP7, hB, hB7, h⟩
  · unfold stOne
    split
    · rename_i hlt
      have hP6 : P < 7 := by
        rw [hP] at hlt
        exact Nat.lt_of_not_le (fun q => absurd (Int32.not_lt.mpr (nI_le (a := 7) q (by omega))) (fun z => z hlt))
      refine ⟨P + 1, B, ?_, by omega, hB, hB7, h.one⟩
      show q.2.2.1 0 + 1 = nI (P + 1)
      rw [hP, nI_1]
    · exact ⟨P, B, hP, hP7, hB, hB7, h⟩
  · unfold stDeal
    split
    · rename_i hlt
      have hB6 : B < 7 := by
        rw [hB] at hlt
        exact Nat.lt_of_not_le (fun q => absurd (Int32.not_lt.mpr (nI_le (a := 7) q (by omega))) (fun z => z hlt))
      obtain ⟨v1, hv1⟩ : ∃ v, rn1 f z (q.2.2.1 0) q = v := ⟨_, rfl⟩
      rw [hv1]
      obtain ⟨v2, hv2⟩ : ∃ v, rnP f z (q.2.2.1 0) v1.1 v1 = v := ⟨_, rfl⟩
      rw [hv2]
      obtain ⟨v3, hv3⟩ : ∃ v, rn9 f z v2 = v := ⟨_, rfl⟩
      rw [hv3]
      obtain ⟨v4, hv4⟩ : ∃ v, rn9 f z v3 = v := ⟨_, rfl⟩
      rw [hv4]
      have l4 : LOk v4.2.1 z := by rw [← hv4, ← hv3, ← hv2, ← hv1]; exact rn9_ok (rn9_ok (rnP_ok (rn1_ok hL)))
      unfold dlS
      split
      · rw [hB]
        have hA : ∀ (S' : aP), S'.2.2.1 0 = nI P → S'.2.2.1 1 = nI (B + 1) → LOk S'.1 z → ZB S'.2.2 P (B + 1) → ZBS (hurF f z (nI B) 250 S').2.2 := by
          intro S' a b c d
          have e := hur_P (f := f) (z := z) (b := nI B) 250 S'
          exact ⟨P, B + 1, by rw [e]; exact a, hP7, by rw [e]; exact b, by omega, zb_hur hz (Nat.lt_succ_self B) hP7 (by omega) 250 S' c a d⟩
        refine hA _ hP ?_ l4 ?_
        · show q.2.2.1 1 + 1 = nI (B + 1)
          rw [hB, nI_1]
        · rw [nI_clamp (by omega)]
          exact h.deal
      · exact ⟨P, B, hP, hP7, hB, hB7, h⟩
    · exact ⟨P, B, hP, hP7, hB, hB7, h⟩
  · unfold stGains
    obtain ⟨v1, hv1⟩ : ∃ v, rn1 f z (q.2.2.1 1) q = v := ⟨_, rfl⟩
    rw [hv1]
    obtain ⟨v2, hv2⟩ : ∃ v, rnP f z (q.2.2.1 0) (-1) v1 = v := ⟨_, rfl⟩
    rw [hv2]
    obtain ⟨v3, hv3⟩ : ∃ v, rn9 f z v2 = v := ⟨_, rfl⟩
    rw [hv3]
    unfold gnS
    show ZBS (if v3.2.2 = -1 then putLS q.2.2 v1.1 v2.1 (-v3.1) else q.2.2)
    split
    · rename_i e
      have l1 : LOk v1.2.1 z := by rw [← hv1]; exact rn1_ok hL
      have l2 : LOk v2.2.1 z := by rw [← hv2]; exact rnP_ok l1
      have hv3' : rnR f z v2.2.1 v2.2.2 0 99 (-1) = v3 := hv3
      obtain ⟨e2, -⟩ := rn_v99E hv3' l2 hz e
      have hv2' : rnR f z v1.2.1 v1.2.2 0 (nI P - 1) (-1) = v2 := by rw [← hP]; exact hv2
      obtain ⟨e1, y, hy, ey, -⟩ := rn_valE hv2' l1 hz hP7 e2
      have hv1' : rnR f z (lexF f z q.1.1) q.2.1 0 (nI B - 1) (-1) = v1 := by rw [← hB]; exact hv1
      obtain ⟨-, x, hx, ex, -⟩ := rn_valE hv1' (lex_le hL.2.1) hz hB7 e1
      rw [ex, ey]
      exact ⟨P, B, hP, hP7, hB, hB7, h.loss hx hy hB7 hP7⟩
    · exact ⟨P, B, hP, hP7, hB, hB7, h⟩
  · unfold stBars
    obtain ⟨v1, hv1⟩ : ∃ v, rn1 f z (q.2.2.1 1) q = v := ⟨_, rfl⟩
    rw [hv1]
    obtain ⟨v2, hv2⟩ : ∃ v, rnP f z (q.2.2.1 1) v1.1 v1 = v := ⟨_, rfl⟩
    rw [hv2]
    unfold brS
    show ZBS (if v2.2.2 = -1 then putB q.2.2 v1.1.toNatClampNeg v2.1.toNatClampNeg 1 else q.2.2)
    split
    · rename_i e
      have l1 : LOk v1.2.1 z := by rw [← hv1]; exact rn1_ok hL
      have hv2' : rnR f z v1.2.1 v1.2.2 0 (nI B - 1) v1.1 = v2 := by rw [← hB]; exact hv2
      obtain ⟨e1, y, hy, ey, -⟩ := rn_valE hv2' l1 hz hB7 e
      have hv1' : rnR f z (lexF f z q.1.1) q.2.1 0 (nI B - 1) (-1) = v1 := by rw [← hB]; exact hv1
      obtain ⟨-, x, hx, ex, -⟩ := rn_valE hv1' (lex_le hL.2.1) hz hB7 e1
      rw [ex, ey, nI_clamp (by omega), nI_clamp (by omega)]
      exact ⟨P, B, hP, hP7, hB, hB7, h.bar hx hy⟩
    · exact ⟨P, B, hP, hP7, hB, hB7, h⟩
  · intro c
    unfold stLaw lwS
    show ZBS (if (lw1 f z c q).2.2 = -1 then upS q.2.2 (2 + c) (lw1 f z c q).1 else q.2.2)
    split
    · exact ⟨P, B, (if_neg (by omega)).trans hP, hP7, (if_neg (by omega)).trans hB, hB7, h⟩
    · exact ⟨P, B, hP, hP7, hB, hB7, h⟩
end ZBST
section MREAD
variable {G : gE} {w : aW} {o n : Nat} {M : aM} {f : Nat → Int32} {z : Nat} {L : aL}
theorem c_M_dealTold {P B : Nat} {S : aS} (hfm : (gfm G).category = 1) (h : MW w o M n) (hR : RS M f z L) (hz : z ≤ 250) (hL : isLx f z L) (hT : TQ S M) (hZ : ZB S P B) (hP : S.1 0 = nI P) (hP7 : P ≤ 7) (hB : S.1 1 = nI B) (hB6 : B < 7) (hw : wordB f L 1 = true) : Mt G 7 y_M_dealTold [.ref o] w n 0 0 (stP w o n M f z (stDeal f z (L, -1, S))) := by
  refine Mt.of k_M_dealTold l_M_dealTold (Nat.le_of_ble_eq_true rfl) rfl ?_
  have g0 := h.1
  have hn := h.2.2.2.2.2.2
  obtain ⟨j0, j1, j2, j3⟩ := v4
  have hPM : M.1 10 = nI P := hT.1.symm.trans hP
  have hBM : M.1 13 = nI B := hT.2.1.symm.trans hB
  obtain ⟨v1, hv1⟩ : ∃ v, rn1 f z (nI P) (L, -1, S) = v := ⟨_, rfl⟩
  obtain ⟨v2, hv2⟩ : ∃ v, rnP f z (nI P) v1.1 v1 = v := ⟨_, rfl⟩
  obtain ⟨v3, hv3⟩ : ∃ v, rn9 f z v2 = v := ⟨_, rfl⟩
  obtain ⟨v4', hv4⟩ : ∃ v, rn9 f z v3 = v := ⟨_, rfl⟩
  have e9 : stDeal f z (L, -1, S) = if v4'.2.2 = -1 then hurF f z (nI B) 250 (v4'.2.1, v4'.2.2, addB S B v1.1 v2.1 v3.1 v4'.1) else (v4'.2.1, v4'.2.2, S) := by
    unfold stDeal
    rw [if_pos (show ((L, -1, S) : aP).2.2.1 1 < 7 by show S.1 1 < 7; rw [hB]; exact nI_lt (b := 7) hB6 (by decide))]
    rw [show ((L, -1, S) : aP).2.2.1 0 = nI P from hP, hv1, hv2, hv3, hv4]
    unfold dlS
    rw [show ((L, -1, S) : aP).2.2.1 1 = nI B from hB, nI_clamp (by omega)]
  rw [e9]
  have hv1 : rnR f z (lexF f z L.1) (-1) 0 (nI P - 1) (-1) = v1 := hv1
  have hv2 : rnR f z v1.2.1 v1.2.2 0 (nI P - 1) v1.1 = v2 := hv2
  have hv3 : rnR f z v2.2.1 v2.2.2 0 99 (-1) = v3 := hv3
  have hv4 : rnR f z v3.2.1 v3.2.2 0 99 (-1) = v4' := hv4
  have htl := c_tel (G := G) (i := 0) (j := 1) (lo := 0) (hi := nI P - 1) (v := v1) hfm h hR hz hL (by decide) (by decide) (by decide) (hi_le hP7) hw hv1
  refine r_aload_n (i := 0) i_M_dealTold_0 rfl rfl ?_
  refine r_ldcS (j := 1) (tx := "deal") o_M_dealTold i_M_dealTold_1 (by decide) ?_
  refine r_iconst (v := (0 : Int32)) i_M_dealTold_3 rfl ?_
  refine r_iconst (v := (0 : Int32)) i_M_dealTold_4 rfl ?_
  refine r_aload_n (i := 0) i_M_dealTold_5 rfl rfl ?_
  refine r_getf (ci := 6) (T := Fk6) (k := 10) o_M_dealTold i_M_dealTold_6 x_M_73 rfl (by decide) rfl (by repeat (first | assumption | exact upw_s | refine (upw_n (by omega)).trans ?_)) (by first | assumption | omega) (by rfl) ?_
  refine r_iconst (v := (1 : Int32)) i_M_dealTold_9 rfl ?_
  rw [hPM]
  refine r_isub i_M_dealTold_10 ?_
  refine m_virtual o_M_dealTold k_M_tells v_M_tells x_M_184 i_M_dealTold_11 o_M_tells (htl) rfl (rcv_ob g0 rfl (by omega)) rfl (by decide) (Nat.le_of_ble_eq_true rfl) (Nat.zero_le _) (Nat.zero_le _) (fun q1 w2 n1 hp9 => ?_)
  obtain ⟨rfl, hF, x, rfl, hx⟩ := hp9
  refine r_if_eq 53 i_M_dealTold_14 (by decide) (fun h14 => ?_) (fun h14 => ?_)
  · skip
    obtain ⟨-, e1, N, hN, d1, d2⟩ := hx.resolve_left (fun q => by rw [q.1] at h14; exact absurd h14 (by decide))
    have f2 : v2.2.2 = v1.2.2 := by rw [← hv2]; exact rn_fa e1
    have f3 : v3.2.2 = v1.2.2 := by rw [← hv3]; exact (rn_fa (by rw [f2]; exact e1)).trans f2
    have f4 : v4'.2.2 = v1.2.2 := by rw [← hv4]; exact (rn_fa (by rw [f3]; exact e1)).trans f3
    rw [← f4] at e1 d2
    rw [if_neg e1]
    have hF4 := hF
    have d1 := d1.keep
    refine r_iconst (v := (0 : Int32)) i_M_dealTold_53 rfl ?_
    refine r_ireturn i_M_dealTold_54 t_M_dealTold rfl ⟨rfl, hF4, 0, rfl, Or.inr ⟨rfl, e1, N, hN, d1, d2⟩⟩
    skip
  · skip
    obtain ⟨-, e1, N1, hN1, d1, d2, d3, d4⟩ := hx.resolve_right (fun q => h14 q.1)
    rw [e1] at hv2
    obtain ⟨-, x9, hx9, ex9, -⟩ := rn_valE hv1 (lex_le hL.ok.2.1) hz hP7 e1
    have hnm := c_unl (G := G) (i := 1) (hi := nI P - 1) (but := v1.1) (v := v2) hN1 d1 hz d2 (by decide) (by decide) (hi_le hP7) (by rw [d3]; rfl) (by rw [ex9, toInt_nI (by omega)]; omega) hv2
    have m1 := hN1.1
    refine r_aload_n (i := 0) i_M_dealTold_17 rfl rfl ?_
    refine r_iconst (v := (1 : Int32)) i_M_dealTold_18 rfl ?_
    refine r_aload_n (i := 0) i_M_dealTold_19 rfl rfl ?_
    refine r_getf (ci := 6) (T := Fk6) (k := 10) o_M_dealTold i_M_dealTold_20 x_M_73 rfl (by decide) rfl (by repeat (first | assumption | exact upw_s | refine (upw_n (by omega)).trans ?_)) (by first | assumption | omega) (by rfl) ?_
    refine r_iconst (v := (1 : Int32)) i_M_dealTold_23 rfl ?_
    rw [show N1.1 10 = nI P from (d4.2.1 10 (by omega)).trans hPM]
    refine r_isub i_M_dealTold_24 ?_
    refine m_virtual o_M_dealTold k_M_unlike v_M_unlike x_M_188 i_M_dealTold_25 o_M_unlike (hnm) rfl (rcv_ob m1 rfl (by omega)) rfl (by decide) (Nat.le_of_ble_eq_true rfl) (Nat.zero_le _) (Nat.zero_le _) (fun q2 w3 n2 hp8 => ?_)
    obtain ⟨rfl, hF3, x2, rfl, hx2⟩ := hp8
    refine r_if_eq 53 i_M_dealTold_28 (by decide) (fun h28 => ?_) (fun h28 => ?_)
    · skip
      obtain ⟨-, c1, N, hN, c2, d2⟩ := hx2.resolve_left (fun q => by rw [q.1] at h28; exact absurd h28 (by decide))
      have f3 : v3.2.2 = v2.2.2 := by rw [← hv3]; exact rn_fa c1
      have f4 : v4'.2.2 = v2.2.2 := by rw [← hv4]; exact (rn_fa (by rw [f3]; exact c1)).trans f3
      rw [← f4] at c1 d2
      have e1 := c1
      rw [if_neg e1]
      have hF4 := hF.tr hF3
      have d1 := (d4.tr c2).keep
      refine r_iconst (v := (0 : Int32)) i_M_dealTold_53 rfl ?_
      refine r_ireturn i_M_dealTold_54 t_M_dealTold rfl ⟨rfl, hF4, 0, rfl, Or.inr ⟨rfl, e1, N, hN, d1, d2⟩⟩
      skip
    · skip
      obtain ⟨-, c1, N2, hN2, c2, c3, c4, c5⟩ := hx2.resolve_right (fun q => h28 q.1)
      rw [c1] at hv3
      obtain ⟨-, y9, hy9, ey9, hne⟩ := rn_valE hv2 d2.ok hz hP7 c1
      have hnm2 := c_num (G := G) (i := 2) (lo := 0) (hi := 99) (v := v3) hN2 c2 hz c3 (by decide) (by decide) (by decide) hv3
      have m2 := hN2.1
      refine r_aload_n (i := 0) i_M_dealTold_31 rfl rfl ?_
      refine r_iconst (v := (2 : Int32)) i_M_dealTold_32 rfl ?_
      refine r_iconst (v := (0 : Int32)) i_M_dealTold_33 rfl ?_
      refine r_bipush (v := (99 : Int32)) i_M_dealTold_34 (by decide) ?_
      refine m_virtual o_M_dealTold k_M_number v_M_number x_M_178 i_M_dealTold_36 o_M_number (hnm2) rfl (rcv_ob m2 rfl (by omega)) rfl (by decide) (Nat.le_of_ble_eq_true rfl) (Nat.zero_le _) (Nat.zero_le _) (fun q3 w4 n3 hp7 => ?_)
      obtain ⟨rfl, hF5, x3, rfl, hx3⟩ := hp7
      refine r_if_eq 53 i_M_dealTold_39 (by decide) (fun h39 => ?_) (fun h39 => ?_)
      · skip
        obtain ⟨-, b1, N, hN, b2, d2⟩ := hx3.resolve_left (fun q => by rw [q.1] at h39; exact absurd h39 (by decide))
        have f4 : v4'.2.2 = v3.2.2 := by rw [← hv4]; exact rn_fa b1
        rw [← f4] at b1 d2
        have e1 := b1
        rw [if_neg e1]
        have hF4 := (hF.tr hF3).tr hF5
        have d1 := ((d4.tr c5).tr b2).keep
        refine r_iconst (v := (0 : Int32)) i_M_dealTold_53 rfl ?_
        refine r_ireturn i_M_dealTold_54 t_M_dealTold rfl ⟨rfl, hF4, 0, rfl, Or.inr ⟨rfl, e1, N, hN, d1, d2⟩⟩
        skip
      · skip
        obtain ⟨-, b1, N3, hN3, b2, b3, b4, b5⟩ := hx3.resolve_right (fun q => h39 q.1)
        rw [b1] at hv4
        obtain ⟨-, g9, hg9, eg9⟩ := rn_v99E hv3 c3.ok hz b1
        have hnm3 := c_num (G := G) (i := 3) (lo := 0) (hi := 99) (v := v4') hN3 b2 hz b3 (by decide) (by decide) (by decide) hv4
        have m3 := hN3.1
        refine r_aload_n (i := 0) i_M_dealTold_42 rfl rfl ?_
        refine r_iconst (v := (3 : Int32)) i_M_dealTold_43 rfl ?_
        refine r_iconst (v := (0 : Int32)) i_M_dealTold_44 rfl ?_
        refine r_bipush (v := (99 : Int32)) i_M_dealTold_45 (by decide) ?_
        refine m_virtual o_M_dealTold k_M_number v_M_number x_M_178 i_M_dealTold_47 o_M_number (hnm3) rfl (rcv_ob m3 rfl (by omega)) rfl (by decide) (Nat.le_of_ble_eq_true rfl) (Nat.zero_le _) (Nat.zero_le _) (fun q4 w5 n4 hp6 => ?_)
        obtain ⟨rfl, hF6, x4, rfl, hx4⟩ := hp6
        refine r_if_ne 55 i_M_dealTold_50 (by decide) (fun h50 => ?_) (fun h50 => ?_)
        · skip
          obtain ⟨-, a1, N4, hN4, a2, a3, a4, a5⟩ := hx4.resolve_right (fun q => h50 q.1)
          rw [if_pos a1]
          have m4 := hN4.1
          obtain ⟨-, k9, hk9, ek9⟩ := rn_v99E hv4 b3.ok hz a1
          have a37 : w5 (o + 37) = ai 4 (N4.2.1 37) := hN4.2.1 37 rfl
          have t0 : N4.2.1 37 0 = nI x9 := by rw [a4, b4, c4, d3, ← ex9]; rfl
          have t1 : N4.2.1 37 1 = nI y9 := by rw [a4, b4, c4, ← ey9]; rfl
          have t2 : N4.2.1 37 2 = nI g9 := by rw [a4, b4, ← eg9]; rfl
          have t3 : N4.2.1 37 3 = nI k9 := by rw [a4, ← ek9]; rfl
          have hsc := ((d4.tr c5).tr b5).tr a5
          have hP4 : N4.1 10 = nI P := (hsc.2.1 10 (by omega)).trans hPM
          have hB4 : N4.1 13 = nI B := (hsc.2.1 13 (by omega)).trans hBM
          have hne2 : ¬ nI x9 = nI y9 := fun q => hne (by rw [ex9, ey9, q])
          have hbg := c_M_bargain (G := G) (p := nI x9) (q := nI y9) (g := nI g9) (z := nI k9) hN4 hP4 hP7 hB4 (Nat.le_of_lt hB6)
          have ebg : m2_bargain N4 B (nI x9) (nI y9) (nI g9) (nI k9) = (nI B, bgM N4 B (nI x9) (nI y9) (nI g9) (nI k9)) := by
            unfold m2_bargain
            rw [hP4, lt0_in hx9 (by omega), lt0_in hy9 (by omega), decide_eq_false hne2, wi_99 hg9, wi_99 hk9, if_pos (show (true && (true && (!false && (true && true)))) = true from rfl), if_neg (by omega)]
          rw [ebg] at hbg
          have hq9 := (hT.scr hsc).deal (p := nI x9) (q := nI y9) (g := nI g9) (k := nI k9) hZ hB hB6
          have n1 : ∀ j, (j < 21 ∨ 35 < j) → (bgM N4 B (nI x9) (nI y9) (nI g9) (nI k9)).2.1 j = N4.2.1 j := fun j hj => (mA_ne (by omega)).trans (mA_ne (by omega))
          rw [ex9, ey9, eg9, ek9]
          refine r_aload_n (i := 0) i_M_dealTold_55 rfl rfl ?_
          refine r_aload_n (i := 0) i_M_dealTold_56 rfl rfl ?_
          refine r_getf (ci := 6) (T := Fk6) (k := 27) o_M_dealTold i_M_dealTold_57 x_M_61 rfl (by decide) rfl (by repeat (first | assumption | exact upw_s | refine (upw_n (by omega)).trans ?_)) (by first | assumption | omega) (by rfl) ?_
          refine r_iconst (v := (0 : Int32)) i_M_dealTold_60 rfl ?_
          refine r_iald i_M_dealTold_61 (by repeat (first | assumption | exact upw_s | refine (upw_n (by omega)).trans ?_)) (by first | assumption | omega) (by assumption) ?_
          rw [show N4.2.1 37 (Int32.toNatClampNeg 0) = nI x9 from t0]
          refine r_aload_n (i := 0) i_M_dealTold_62 rfl rfl ?_
          refine r_getf (ci := 6) (T := Fk6) (k := 27) o_M_dealTold i_M_dealTold_63 x_M_61 rfl (by decide) rfl (by repeat (first | assumption | exact upw_s | refine (upw_n (by omega)).trans ?_)) (by first | assumption | omega) (by rfl) ?_
          refine r_iconst (v := (1 : Int32)) i_M_dealTold_66 rfl ?_
          refine r_iald i_M_dealTold_67 (by repeat (first | assumption | exact upw_s | refine (upw_n (by omega)).trans ?_)) (by first | assumption | omega) (by assumption) ?_
          rw [show N4.2.1 37 (Int32.toNatClampNeg 1) = nI y9 from t1]
          refine r_aload_n (i := 0) i_M_dealTold_68 rfl rfl ?_
          refine r_getf (ci := 6) (T := Fk6) (k := 27) o_M_dealTold i_M_dealTold_69 x_M_61 rfl (by decide) rfl (by repeat (first | assumption | exact upw_s | refine (upw_n (by omega)).trans ?_)) (by first | assumption | omega) (by rfl) ?_
          refine r_iconst (v := (2 : Int32)) i_M_dealTold_72 rfl ?_
          refine r_iald i_M_dealTold_73 (by repeat (first | assumption | exact upw_s | refine (upw_n (by omega)).trans ?_)) (by first | assumption | omega) (by assumption) ?_
          rw [show N4.2.1 37 (Int32.toNatClampNeg 2) = nI g9 from t2]
          refine r_aload_n (i := 0) i_M_dealTold_74 rfl rfl ?_
          refine r_getf (ci := 6) (T := Fk6) (k := 27) o_M_dealTold i_M_dealTold_75 x_M_61 rfl (by decide) rfl (by repeat (first | assumption | exact upw_s | refine (upw_n (by omega)).trans ?_)) (by first | assumption | omega) (by rfl) ?_
          refine r_iconst (v := (3 : Int32)) i_M_dealTold_78 rfl ?_
          refine r_iald i_M_dealTold_79 (by repeat (first | assumption | exact upw_s | refine (upw_n (by omega)).trans ?_)) (by first | assumption | omega) (by assumption) ?_
          rw [show N4.2.1 37 (Int32.toNatClampNeg 3) = nI k9 from t3]
          refine m_virtual o_M_dealTold k_M_bargain v_M_bargain x_M_191 i_M_dealTold_80 o_M_bargain (hbg) rfl (rcv_ob m4 rfl (by omega)) rfl (by decide) (Nat.le_of_ble_eq_true rfl) (Nat.zero_le _) (Nat.zero_le _) (fun q5 w6 n5 hp5 => ?_)
          obtain ⟨rfl, ⟨hM6, hF7⟩, rfl⟩ := hp5
          refine r_istore_1 i_M_dealTold_83 (by rw [l_M_dealTold]; decide) rfl ?_
          refine c_D_loop hfm hz hP7 hB6 250 (v4'.2.1, v4'.2.2, addB S B (nI x9) (nI y9) (nI g9) (nI k9)) _ _ a1 hM6 ((((hF.tr hF3).tr hF5).tr hF6).tr hF7) (hsc.keep.tr ⟨fun j hj => n1 j (by omega), rfl, rfl, rfl⟩) (a2.of (fun k hk => if_neg (by omega)) (n1 16 (by omega))) a3 hq9 hP ?_
          have adv4 := num_adv b3 hz (by decide) hv4 a1
          have g1 : v3.2.1.1 ≤ (lexF f z v3.2.1.1).2.2 := lx_ge
          have g2 := a3.ok.1
          show 250 < v4'.2.1.1 + 250
          have g5 : v4'.2.1.2.2 = (lexF f z v3.2.1.1).2.2 := by rw [adv4.2]
          have g8 := adv4.1
          omega
        · skip
          obtain ⟨-, a1, N, hN, a2, d2⟩ := hx4.resolve_left (fun q => by rw [q.1] at h50; exact absurd h50 (by decide))
          have e1 := a1
          rw [if_neg e1]
          have hF4 := ((hF.tr hF3).tr hF5).tr hF6
          have d1 := (((d4.tr c5).tr b5).tr a2).keep
          refine r_iconst (v := (0 : Int32)) i_M_dealTold_53 rfl ?_
          refine r_ireturn i_M_dealTold_54 t_M_dealTold rfl ⟨rfl, hF4, 0, rfl, Or.inr ⟨rfl, e1, N, hN, d1, d2⟩⟩
          skip
theorem c_M_statement {S : aS} (hfm : (gfm G).category = 1) (h : MW w o M n) (hR : RS M f z L) (hz : z ≤ 250) (hL : isLx f z L) (hT : TQ S M) (hZ : ZBS S) : Mt G 8 y_M_statement [.ref o] w n 0 0 (stP w o n M f z (stM f z (L, -1, S))) := by
  obtain ⟨P, B, hP, hP7, hB, hB7, hZ⟩ := hZ
  refine Mt.of k_M_statement l_M_statement (Nat.le_of_ble_eq_true rfl) rfl ?_
  have g0 := h.1
  have hn := h.2.2.2.2.2.2
  have hPM : M.1 10 = nI P := hT.1.symm.trans hP
  have hBM : M.1 13 = nI B := hT.2.1.symm.trans hB
  have hw := fun j hj => c_M_isWord (G := G) (j := j) hfm h hR hz hL.ok hj
  have xx := fun i j hi hj h1 h2 => word_x (f := f) (L := L) (i := i) (j := j) hi hj h1 h2
  have e9 : stM f z (L, -1, S) = if wordB f L 0 = true then stOne f z (L, -1, S) else if wordB f L 1 = true then stDeal f z (L, -1, S) else if wordB f L 3 = true then stGains f z (L, -1, S) else if wordB f L 4 = true then stBars f z (L, -1, S) else if wordB f L 5 = true then stLaw f z 0 (L, -1, S) else if wordB f L 6 = true then stLaw f z 1 (L, -1, S) else if wordB f L 7 = true then stLaw f z 2 (L, -1, S) else if wordB f L 8 = true then stLaw f z 3 (L, -1, S) else (L, faF L (-1), S) := rfl
  rw [e9]
  have hone := fun q => c_S_one (G := G) (w := w) h hR hz hL hT hZ hP q
  have hfull1 : ¬ P < 7 → stOne f z (L, -1, S) = (L, faF L (-1), S) := fun q => by
    unfold stOne
    rw [if_neg (show ¬ ((L, -1, S) : aP).2.2.1 0 < 7 by show ¬ S.1 0 < 7; rw [hP]; exact Int32.not_lt.mpr (nI_le (a := 7) (by omega) (by omega)))]
  have hfull2 : ¬ B < 7 → stDeal f z (L, -1, S) = (L, faF L (-1), S) := fun q => by
    unfold stDeal
    rw [if_neg (show ¬ ((L, -1, S) : aP).2.2.1 1 < 7 by show ¬ S.1 1 < 7; rw [hB]; exact Int32.not_lt.mpr (nI_le (a := 7) (by omega) (by omega)))]
  have hdl := fun q b6 => c_M_dealTold (G := G) hfm h hR hz hL hT hZ hP hP7 hB b6 q
  have hgn := fun q => c_S_gains (G := G) (w := w) hfm h hR hz hL hT hP hP7 hB hB7 q
  have hbr := c_S_bars (G := G) (w := w) hfm h hR hz hL hT hB hB7
  have hlw := fun c hc q => c_M_askedTold (G := G) (c := c) hfm h hR hz hL hT hc q
  have fin : ∀ (q : aP) x w' , (∃ y : Int32, some (.int x) = some (Value.int y) ∧ ((y = 1 ∧ q.2.1 = -1 ∧ ∃ N, MW w' o N n ∧ keepM M N ∧ RS N f z q.1 ∧ isLx f z q.1 ∧ TQ q.2.2 N) ∨ (y = 0 ∧ ¬ q.2.1 = -1 ∧ ∃ N, MW w' o N n ∧ keepM M N ∧ N.1 26 = q.2.1))) → narrow .boolean (.int x) = .int x := by
    rintro q x w' ⟨y, e, hy⟩
    have e : Value.int x = .int y := Option.some.inj e
    have e : x = y := Value.int.inj e
    rw [e]
    rcases hy with ⟨rfl, -⟩ | ⟨rfl, -⟩ <;> rfl
  by_cases w0 : wordB f L 0 = true
  · have x1 : wordB f L 1 = false := Bool.eq_false_iff.mpr (fun q => absurd (xx 0 1 (by decide) (by decide) w0 q) (by decide))
    have x3 : wordB f L 3 = false := Bool.eq_false_iff.mpr (fun q => absurd (xx 0 3 (by decide) (by decide) w0 q) (by decide))
    have x4 : ¬ wordB f L 4 = true := fun q => absurd (xx 0 4 (by decide) (by decide) w0 q) (by decide)
    have x5 : wordB f L 5 = false := Bool.eq_false_iff.mpr (fun q => absurd (xx 0 5 (by decide) (by decide) w0 q) (by decide))
    have x6 : wordB f L 6 = false := Bool.eq_false_iff.mpr (fun q => absurd (xx 0 6 (by decide) (by decide) w0 q) (by decide))
    have x7 : wordB f L 7 = false := Bool.eq_false_iff.mpr (fun q => absurd (xx 0 7 (by decide) (by decide) w0 q) (by decide))
    have x8 : wordB f L 8 = false := Bool.eq_false_iff.mpr (fun q => absurd (xx 0 8 (by decide) (by decide) w0 q) (by decide))
    have u0 := hw 0 (by decide)
    have u1 := hw 1 (by decide)
    have u3 := hw 3 (by decide)
    have u5 := hw 5 (by decide)
    have u6 := hw 6 (by decide)
    have u7 := hw 7 (by decide)
    have u8 := hw 8 (by decide)
    rw [w0] at u0
    rw [x1] at u1
    rw [x3] at u3
    rw [x5] at u5
    rw [x6] at u6
    rw [x7] at u7
    rw [x8] at u8
    rw [if_pos w0]
    rw [if_neg x4] at hbr
    refine r_aload_n (i := 0) i_M_statement_0 rfl rfl ?_
    refine r_ldcS (j := 0) (tx := "one") o_M_statement i_M_statement_1 (by decide) ?_
    refine f_virtual o_M_statement k_M_isWord v_M_isWord x_M_174 i_M_statement_3 o_M_isWord (u0) rfl (rcv_ob (by repeat (first | assumption | exact upw_s | refine (upw_n (by omega)).trans ?_)) rfl (by first | assumption | omega)) rfl (by decide) (Nat.le_of_ble_eq_true rfl) ?_
    refine r_if_eq 29 i_M_statement_6 (by decide) (fun h6 => (absurd h6 (by decide))) (fun h6 => ?_)
    refine r_aload_n (i := 0) i_M_statement_9 rfl rfl ?_
    refine r_getf (ci := 6) (T := Fk6) (k := 10) o_M_statement i_M_statement_10 x_M_73 rfl (by decide) rfl (by repeat (first | assumption | exact upw_s | refine (upw_n (by omega)).trans ?_)) (by first | assumption | omega) (by rfl) ?_
    refine r_bipush (v := (7 : Int32)) i_M_statement_13 (by decide) ?_
    rw [hPM]
    refine r_icmp_ge 29 i_M_statement_15 (by decide) (fun h15 => ?_) (fun h15 => ?_)
    · skip
      have q15 : ¬ P < 7 := fun q => absurd (nI_lt (b := 7) q (by decide)) (Int32.not_lt.mpr h15)
      rw [hfull1 q15]
      refine r_aload_n (i := 0) i_M_statement_29 rfl rfl ?_
      refine r_ldcS (j := 1) (tx := "deal") o_M_statement i_M_statement_30 (by decide) ?_
      refine f_virtual o_M_statement k_M_isWord v_M_isWord x_M_174 i_M_statement_32 o_M_isWord (u1) rfl (rcv_ob (by repeat (first | assumption | exact upw_s | refine (upw_n (by omega)).trans ?_)) rfl (by first | assumption | omega)) rfl (by decide) (Nat.le_of_ble_eq_true rfl) ?_
      refine r_if_eq 52 i_M_statement_35 (by decide) (fun h35 => ?_) (fun h35 => (absurd rfl h35))
      refine r_aload_n (i := 0) i_M_statement_52 rfl rfl ?_
      refine r_ldcS (j := 3) (tx := "gains") o_M_statement i_M_statement_53 (by decide) ?_
      refine f_virtual o_M_statement k_M_isWord v_M_isWord x_M_174 i_M_statement_55 o_M_isWord (u3) rfl (rcv_ob (by repeat (first | assumption | exact upw_s | refine (upw_n (by omega)).trans ?_)) rfl (by first | assumption | omega)) rfl (by decide) (Nat.le_of_ble_eq_true rfl) ?_
      refine r_if_eq 133 i_M_statement_58 (by decide) (fun h58 => ?_) (fun h58 => (absurd rfl h58))
      refine r_aload_n (i := 0) i_M_statement_133 rfl rfl ?_
      refine r_ldcS (j := 5) (tx := "law") o_M_statement i_M_statement_134 (by decide) ?_
      refine f_virtual o_M_statement k_M_isWord v_M_isWord x_M_174 i_M_statement_136 o_M_isWord (u5) rfl (rcv_ob (by repeat (first | assumption | exact upw_s | refine (upw_n (by omega)).trans ?_)) rfl (by first | assumption | omega)) rfl (by decide) (Nat.le_of_ble_eq_true rfl) ?_
      refine r_if_eq 150 i_M_statement_139 (by decide) (fun h139 => ?_) (fun h139 => (absurd rfl h139))
      refine r_aload_n (i := 0) i_M_statement_150 rfl rfl ?_
      refine r_ldcS (j := 6) (tx := "once") o_M_statement i_M_statement_151 (by decide) ?_
      refine f_virtual o_M_statement k_M_isWord v_M_isWord x_M_174 i_M_statement_153 o_M_isWord (u6) rfl (rcv_ob (by repeat (first | assumption | exact upw_s | refine (upw_n (by omega)).trans ?_)) rfl (by first | assumption | omega)) rfl (by decide) (Nat.le_of_ble_eq_true rfl) ?_
      refine r_if_eq 167 i_M_statement_156 (by decide) (fun h156 => ?_) (fun h156 => (absurd rfl h156))
      refine r_aload_n (i := 0) i_M_statement_167 rfl rfl ?_
      refine r_ldcS (j := 7) (tx := "court") o_M_statement i_M_statement_168 (by decide) ?_
      refine f_virtual o_M_statement k_M_isWord v_M_isWord x_M_174 i_M_statement_170 o_M_isWord (u7) rfl (rcv_ob (by repeat (first | assumption | exact upw_s | refine (upw_n (by omega)).trans ?_)) rfl (by first | assumption | omega)) rfl (by decide) (Nat.le_of_ble_eq_true rfl) ?_
      refine r_if_eq 184 i_M_statement_173 (by decide) (fun h173 => ?_) (fun h173 => (absurd rfl h173))
      refine r_aload_n (i := 0) i_M_statement_184 rfl rfl ?_
      refine r_ldcS (j := 8) (tx := "fine") o_M_statement i_M_statement_185 (by decide) ?_
      refine f_virtual o_M_statement k_M_isWord v_M_isWord x_M_174 i_M_statement_187 o_M_isWord (u8) rfl (rcv_ob (by repeat (first | assumption | exact upw_s | refine (upw_n (by omega)).trans ?_)) rfl (by first | assumption | omega)) rfl (by decide) (Nat.le_of_ble_eq_true rfl) ?_
      refine r_if_eq 201 i_M_statement_190 (by decide) (fun h190 => ?_) (fun h190 => (absurd rfl h190))
      exact hbr
    · skip
      have q15 : P < 7 := Nat.lt_of_not_le (fun q => h15 (nI_le (a := 7) q (by omega)))
      exact hone q15
  · rw [if_neg w0]
    have u0 := hw 0 (by decide)
    rw [Bool.not_eq_true] at w0
    rw [w0] at u0
    by_cases w1 : wordB f L 1 = true
    · have x3 : wordB f L 3 = false := Bool.eq_false_iff.mpr (fun q => absurd (xx 1 3 (by decide) (by decide) w1 q) (by decide))
      have x4 : ¬ wordB f L 4 = true := fun q => absurd (xx 1 4 (by decide) (by decide) w1 q) (by decide)
      have x5 : wordB f L 5 = false := Bool.eq_false_iff.mpr (fun q => absurd (xx 1 5 (by decide) (by decide) w1 q) (by decide))
      have x6 : wordB f L 6 = false := Bool.eq_false_iff.mpr (fun q => absurd (xx 1 6 (by decide) (by decide) w1 q) (by decide))
      have x7 : wordB f L 7 = false := Bool.eq_false_iff.mpr (fun q => absurd (xx 1 7 (by decide) (by decide) w1 q) (by decide))
      have x8 : wordB f L 8 = false := Bool.eq_false_iff.mpr (fun q => absurd (xx 1 8 (by decide) (by decide) w1 q) (by decide))
      have u1 := hw 1 (by decide)
      have u3 := hw 3 (by decide)
      have u5 := hw 5 (by decide)
      have u6 := hw 6 (by decide)
      have u7 := hw 7 (by decide)
      have u8 := hw 8 (by decide)
      rw [w1] at u1
      rw [x3] at u3
      rw [x5] at u5
      rw [x6] at u6
      rw [x7] at u7
      rw [x8] at u8
      rw [if_pos w1]
      rw [if_neg x4] at hbr
      refine r_aload_n (i := 0) i_M_statement_0 rfl rfl ?_
      refine r_ldcS (j := 0) (tx := "one") o_M_statement i_M_statement_1 (by decide) ?_
      refine f_virtual o_M_statement k_M_isWord v_M_isWord x_M_174 i_M_statement_3 o_M_isWord (u0) rfl (rcv_ob (by repeat (first | assumption | exact upw_s | refine (upw_n (by omega)).trans ?_)) rfl (by first | assumption | omega)) rfl (by decide) (Nat.le_of_ble_eq_true rfl) ?_
      refine r_if_eq 29 i_M_statement_6 (by decide) (fun h6 => ?_) (fun h6 => (absurd rfl h6))
      refine r_aload_n (i := 0) i_M_statement_29 rfl rfl ?_
      refine r_ldcS (j := 1) (tx := "deal") o_M_statement i_M_statement_30 (by decide) ?_
      refine f_virtual o_M_statement k_M_isWord v_M_isWord x_M_174 i_M_statement_32 o_M_isWord (u1) rfl (rcv_ob (by repeat (first | assumption | exact upw_s | refine (upw_n (by omega)).trans ?_)) rfl (by first | assumption | omega)) rfl (by decide) (Nat.le_of_ble_eq_true rfl) ?_
      refine r_if_eq 52 i_M_statement_35 (by decide) (fun h35 => (absurd h35 (by decide))) (fun h35 => ?_)
      refine r_aload_n (i := 0) i_M_statement_38 rfl rfl ?_
      refine r_getf (ci := 6) (T := Fk6) (k := 13) o_M_statement i_M_statement_39 x_M_80 rfl (by decide) rfl (by repeat (first | assumption | exact upw_s | refine (upw_n (by omega)).trans ?_)) (by first | assumption | omega) (by rfl) ?_
      refine r_bipush (v := (7 : Int32)) i_M_statement_42 (by decide) ?_
      rw [hBM]
      refine r_icmp_ge 52 i_M_statement_44 (by decide) (fun h44 => ?_) (fun h44 => ?_)
      · skip
        have q44 : ¬ B < 7 := fun q => absurd (nI_lt (b := 7) q (by decide)) (Int32.not_lt.mpr h44)
        rw [hfull2 q44]
        refine r_aload_n (i := 0) i_M_statement_52 rfl rfl ?_
        refine r_ldcS (j := 3) (tx := "gains") o_M_statement i_M_statement_53 (by decide) ?_
        refine f_virtual o_M_statement k_M_isWord v_M_isWord x_M_174 i_M_statement_55 o_M_isWord (u3) rfl (rcv_ob (by repeat (first | assumption | exact upw_s | refine (upw_n (by omega)).trans ?_)) rfl (by first | assumption | omega)) rfl (by decide) (Nat.le_of_ble_eq_true rfl) ?_
        refine r_if_eq 133 i_M_statement_58 (by decide) (fun h58 => ?_) (fun h58 => (absurd rfl h58))
        refine r_aload_n (i := 0) i_M_statement_133 rfl rfl ?_
        refine r_ldcS (j := 5) (tx := "law") o_M_statement i_M_statement_134 (by decide) ?_
        refine f_virtual o_M_statement k_M_isWord v_M_isWord x_M_174 i_M_statement_136 o_M_isWord (u5) rfl (rcv_ob (by repeat (first | assumption | exact upw_s | refine (upw_n (by omega)).trans ?_)) rfl (by first | assumption | omega)) rfl (by decide) (Nat.le_of_ble_eq_true rfl) ?_
        refine r_if_eq 150 i_M_statement_139 (by decide) (fun h139 => ?_) (fun h139 => (absurd rfl h139))
        refine r_aload_n (i := 0) i_M_statement_150 rfl rfl ?_
        refine r_ldcS (j := 6) (tx := "once") o_M_statement i_M_statement_151 (by decide) ?_
        refine f_virtual o_M_statement k_M_isWord v_M_isWord x_M_174 i_M_statement_153 o_M_isWord (u6) rfl (rcv_ob (by repeat (first | assumption | exact upw_s | refine (upw_n (by omega)).trans ?_)) rfl (by first | assumption | omega)) rfl (by decide) (Nat.le_of_ble_eq_true rfl) ?_
        refine r_if_eq 167 i_M_statement_156 (by decide) (fun h156 => ?_) (fun h156 => (absurd rfl h156))
        refine r_aload_n (i := 0) i_M_statement_167 rfl rfl ?_
        refine r_ldcS (j := 7) (tx := "court") o_M_statement i_M_statement_168 (by decide) ?_
        refine f_virtual o_M_statement k_M_isWord v_M_isWord x_M_174 i_M_statement_170 o_M_isWord (u7) rfl (rcv_ob (by repeat (first | assumption | exact upw_s | refine (upw_n (by omega)).trans ?_)) rfl (by first | assumption | omega)) rfl (by decide) (Nat.le_of_ble_eq_true rfl) ?_
        refine r_if_eq 184 i_M_statement_173 (by decide) (fun h173 => ?_) (fun h173 => (absurd rfl h173))
        refine r_aload_n (i := 0) i_M_statement_184 rfl rfl ?_
        refine r_ldcS (j := 8) (tx := "fine") o_M_statement i_M_statement_185 (by decide) ?_
        refine f_virtual o_M_statement k_M_isWord v_M_isWord x_M_174 i_M_statement_187 o_M_isWord (u8) rfl (rcv_ob (by repeat (first | assumption | exact upw_s | refine (upw_n (by omega)).trans ?_)) rfl (by first | assumption | omega)) rfl (by decide) (Nat.le_of_ble_eq_true rfl) ?_
        refine r_if_eq 201 i_M_statement_190 (by decide) (fun h190 => ?_) (fun h190 => (absurd rfl h190))
        exact hbr
      · skip
        have q44 : B < 7 := Nat.lt_of_not_le (fun q => h44 (nI_le (a := 7) q (by omega)))
        refine r_aload_n (i := 0) i_M_statement_47 rfl rfl ?_
        refine m_virtual o_M_statement k_M_dealTold v_M_dealTold x_M_200 i_M_statement_48 o_M_dealTold (hdl w1 q44) rfl (rcv_ob (by repeat (first | assumption | exact upw_s | refine (upw_n (by omega)).trans ?_)) rfl (by first | assumption | omega)) rfl (by decide) (Nat.le_of_ble_eq_true rfl) (Nat.zero_le _) (Nat.zero_le _) (fun q1 w2 n1 hp9 => ?_)
        obtain ⟨rfl, hF2, x, rfl, hx⟩ := hp9
        refine r_ireturn i_M_statement_51 t_M_statement (fin _ x w2 ⟨x, rfl, hx⟩) ⟨rfl, hF2, x, rfl, hx⟩
        skip
    · rw [if_neg w1]
      have u1 := hw 1 (by decide)
      rw [Bool.not_eq_true] at w1
      rw [w1] at u1
      by_cases w3 : wordB f L 3 = true
      · have u3 := hw 3 (by decide)
        rw [w3] at u3
        rw [if_pos w3]
        refine r_aload_n (i := 0) i_M_statement_0 rfl rfl ?_
        refine r_ldcS (j := 0) (tx := "one") o_M_statement i_M_statement_1 (by decide) ?_
        refine f_virtual o_M_statement k_M_isWord v_M_isWord x_M_174 i_M_statement_3 o_M_isWord (u0) rfl (rcv_ob (by repeat (first | assumption | exact upw_s | refine (upw_n (by omega)).trans ?_)) rfl (by first | assumption | omega)) rfl (by decide) (Nat.le_of_ble_eq_true rfl) ?_
        refine r_if_eq 29 i_M_statement_6 (by decide) (fun h6 => ?_) (fun h6 => (absurd rfl h6))
        refine r_aload_n (i := 0) i_M_statement_29 rfl rfl ?_
        refine r_ldcS (j := 1) (tx := "deal") o_M_statement i_M_statement_30 (by decide) ?_
        refine f_virtual o_M_statement k_M_isWord v_M_isWord x_M_174 i_M_statement_32 o_M_isWord (u1) rfl (rcv_ob (by repeat (first | assumption | exact upw_s | refine (upw_n (by omega)).trans ?_)) rfl (by first | assumption | omega)) rfl (by decide) (Nat.le_of_ble_eq_true rfl) ?_
        refine r_if_eq 52 i_M_statement_35 (by decide) (fun h35 => ?_) (fun h35 => (absurd rfl h35))
        refine r_aload_n (i := 0) i_M_statement_52 rfl rfl ?_
        refine r_ldcS (j := 3) (tx := "gains") o_M_statement i_M_statement_53 (by decide) ?_
        refine f_virtual o_M_statement k_M_isWord v_M_isWord x_M_174 i_M_statement_55 o_M_isWord (u3) rfl (rcv_ob (by repeat (first | assumption | exact upw_s | refine (upw_n (by omega)).trans ?_)) rfl (by first | assumption | omega)) rfl (by decide) (Nat.le_of_ble_eq_true rfl) ?_
        refine r_if_eq 133 i_M_statement_58 (by decide) (fun h58 => (absurd h58 (by decide))) (fun h58 => ?_)
        exact hgn w3
      · rw [if_neg w3]
        have u3 := hw 3 (by decide)
        rw [Bool.not_eq_true] at w3
        rw [w3] at u3
        by_cases w4 : wordB f L 4 = true
        · have x5 : wordB f L 5 = false := Bool.eq_false_iff.mpr (fun q => absurd (xx 4 5 (by decide) (by decide) w4 q) (by decide))
          have x6 : wordB f L 6 = false := Bool.eq_false_iff.mpr (fun q => absurd (xx 4 6 (by decide) (by decide) w4 q) (by decide))
          have x7 : wordB f L 7 = false := Bool.eq_false_iff.mpr (fun q => absurd (xx 4 7 (by decide) (by decide) w4 q) (by decide))
          have x8 : wordB f L 8 = false := Bool.eq_false_iff.mpr (fun q => absurd (xx 4 8 (by decide) (by decide) w4 q) (by decide))
          have u5 := hw 5 (by decide)
          have u6 := hw 6 (by decide)
          have u7 := hw 7 (by decide)
          have u8 := hw 8 (by decide)
          rw [x5] at u5
          rw [x6] at u6
          rw [x7] at u7
          rw [x8] at u8
          rw [if_pos w4] at hbr ⊢
          refine r_aload_n (i := 0) i_M_statement_0 rfl rfl ?_
          refine r_ldcS (j := 0) (tx := "one") o_M_statement i_M_statement_1 (by decide) ?_
          refine f_virtual o_M_statement k_M_isWord v_M_isWord x_M_174 i_M_statement_3 o_M_isWord (u0) rfl (rcv_ob (by repeat (first | assumption | exact upw_s | refine (upw_n (by omega)).trans ?_)) rfl (by first | assumption | omega)) rfl (by decide) (Nat.le_of_ble_eq_true rfl) ?_
          refine r_if_eq 29 i_M_statement_6 (by decide) (fun h6 => ?_) (fun h6 => (absurd rfl h6))
          refine r_aload_n (i := 0) i_M_statement_29 rfl rfl ?_
          refine r_ldcS (j := 1) (tx := "deal") o_M_statement i_M_statement_30 (by decide) ?_
          refine f_virtual o_M_statement k_M_isWord v_M_isWord x_M_174 i_M_statement_32 o_M_isWord (u1) rfl (rcv_ob (by repeat (first | assumption | exact upw_s | refine (upw_n (by omega)).trans ?_)) rfl (by first | assumption | omega)) rfl (by decide) (Nat.le_of_ble_eq_true rfl) ?_
          refine r_if_eq 52 i_M_statement_35 (by decide) (fun h35 => ?_) (fun h35 => (absurd rfl h35))
          refine r_aload_n (i := 0) i_M_statement_52 rfl rfl ?_
          refine r_ldcS (j := 3) (tx := "gains") o_M_statement i_M_statement_53 (by decide) ?_
          refine f_virtual o_M_statement k_M_isWord v_M_isWord x_M_174 i_M_statement_55 o_M_isWord (u3) rfl (rcv_ob (by repeat (first | assumption | exact upw_s | refine (upw_n (by omega)).trans ?_)) rfl (by first | assumption | omega)) rfl (by decide) (Nat.le_of_ble_eq_true rfl) ?_
          refine r_if_eq 133 i_M_statement_58 (by decide) (fun h58 => ?_) (fun h58 => (absurd rfl h58))
          refine r_aload_n (i := 0) i_M_statement_133 rfl rfl ?_
          refine r_ldcS (j := 5) (tx := "law") o_M_statement i_M_statement_134 (by decide) ?_
          refine f_virtual o_M_statement k_M_isWord v_M_isWord x_M_174 i_M_statement_136 o_M_isWord (u5) rfl (rcv_ob (by repeat (first | assumption | exact upw_s | refine (upw_n (by omega)).trans ?_)) rfl (by first | assumption | omega)) rfl (by decide) (Nat.le_of_ble_eq_true rfl) ?_
          refine r_if_eq 150 i_M_statement_139 (by decide) (fun h139 => ?_) (fun h139 => (absurd rfl h139))
          refine r_aload_n (i := 0) i_M_statement_150 rfl rfl ?_
          refine r_ldcS (j := 6) (tx := "once") o_M_statement i_M_statement_151 (by decide) ?_
          refine f_virtual o_M_statement k_M_isWord v_M_isWord x_M_174 i_M_statement_153 o_M_isWord (u6) rfl (rcv_ob (by repeat (first | assumption | exact upw_s | refine (upw_n (by omega)).trans ?_)) rfl (by first | assumption | omega)) rfl (by decide) (Nat.le_of_ble_eq_true rfl) ?_
          refine r_if_eq 167 i_M_statement_156 (by decide) (fun h156 => ?_) (fun h156 => (absurd rfl h156))
          refine r_aload_n (i := 0) i_M_statement_167 rfl rfl ?_
          refine r_ldcS (j := 7) (tx := "court") o_M_statement i_M_statement_168 (by decide) ?_
          refine f_virtual o_M_statement k_M_isWord v_M_isWord x_M_174 i_M_statement_170 o_M_isWord (u7) rfl (rcv_ob (by repeat (first | assumption | exact upw_s | refine (upw_n (by omega)).trans ?_)) rfl (by first | assumption | omega)) rfl (by decide) (Nat.le_of_ble_eq_true rfl) ?_
          refine r_if_eq 184 i_M_statement_173 (by decide) (fun h173 => ?_) (fun h173 => (absurd rfl h173))
          refine r_aload_n (i := 0) i_M_statement_184 rfl rfl ?_
          refine r_ldcS (j := 8) (tx := "fine") o_M_statement i_M_statement_185 (by decide) ?_
          refine f_virtual o_M_statement k_M_isWord v_M_isWord x_M_174 i_M_statement_187 o_M_isWord (u8) rfl (rcv_ob (by repeat (first | assumption | exact upw_s | refine (upw_n (by omega)).trans ?_)) rfl (by first | assumption | omega)) rfl (by decide) (Nat.le_of_ble_eq_true rfl) ?_
          refine r_if_eq 201 i_M_statement_190 (by decide) (fun h190 => ?_) (fun h190 => (absurd rfl h190))
          exact hbr
        · rw [if_neg w4] at hbr ⊢
          have u5 := hw 5 (by decide)
          have u6 := hw 6 (by decide)
          have u7 := hw 7 (by decide)
          have u8 := hw 8 (by decide)
          refine r_aload_n (i := 0) i_M_statement_0 rfl rfl ?_
          refine r_ldcS (j := 0) (tx := "one") o_M_statement i_M_statement_1 (by decide) ?_
          refine f_virtual o_M_statement k_M_isWord v_M_isWord x_M_174 i_M_statement_3 o_M_isWord (u0) rfl (rcv_ob (by repeat (first | assumption | exact upw_s | refine (upw_n (by omega)).trans ?_)) rfl (by first | assumption | omega)) rfl (by decide) (Nat.le_of_ble_eq_true rfl) ?_
          refine r_if_eq 29 i_M_statement_6 (by decide) (fun h6 => ?_) (fun h6 => (absurd rfl h6))
          refine r_aload_n (i := 0) i_M_statement_29 rfl rfl ?_
          refine r_ldcS (j := 1) (tx := "deal") o_M_statement i_M_statement_30 (by decide) ?_
          refine f_virtual o_M_statement k_M_isWord v_M_isWord x_M_174 i_M_statement_32 o_M_isWord (u1) rfl (rcv_ob (by repeat (first | assumption | exact upw_s | refine (upw_n (by omega)).trans ?_)) rfl (by first | assumption | omega)) rfl (by decide) (Nat.le_of_ble_eq_true rfl) ?_
          refine r_if_eq 52 i_M_statement_35 (by decide) (fun h35 => ?_) (fun h35 => (absurd rfl h35))
          refine r_aload_n (i := 0) i_M_statement_52 rfl rfl ?_
          refine r_ldcS (j := 3) (tx := "gains") o_M_statement i_M_statement_53 (by decide) ?_
          refine f_virtual o_M_statement k_M_isWord v_M_isWord x_M_174 i_M_statement_55 o_M_isWord (u3) rfl (rcv_ob (by repeat (first | assumption | exact upw_s | refine (upw_n (by omega)).trans ?_)) rfl (by first | assumption | omega)) rfl (by decide) (Nat.le_of_ble_eq_true rfl) ?_
          refine r_if_eq 133 i_M_statement_58 (by decide) (fun h58 => ?_) (fun h58 => (absurd rfl h58))
          refine r_aload_n (i := 0) i_M_statement_133 rfl rfl ?_
          refine r_ldcS (j := 5) (tx := "law") o_M_statement i_M_statement_134 (by decide) ?_
          refine f_virtual o_M_statement k_M_isWord v_M_isWord x_M_174 i_M_statement_136 o_M_isWord (u5) rfl (rcv_ob (by repeat (first | assumption | exact upw_s | refine (upw_n (by omega)).trans ?_)) rfl (by first | assumption | omega)) rfl (by decide) (Nat.le_of_ble_eq_true rfl) ?_
          refine r_if_eq 150 i_M_statement_139 (by decide) (fun h139 => ?_) (fun h139 => ?_)
          · skip
            rw [if_neg (by rw [bI_eq0.mp h139]; decide)]
            refine r_aload_n (i := 0) i_M_statement_150 rfl rfl ?_
            refine r_ldcS (j := 6) (tx := "once") o_M_statement i_M_statement_151 (by decide) ?_
            refine f_virtual o_M_statement k_M_isWord v_M_isWord x_M_174 i_M_statement_153 o_M_isWord (u6) rfl (rcv_ob (by repeat (first | assumption | exact upw_s | refine (upw_n (by omega)).trans ?_)) rfl (by first | assumption | omega)) rfl (by decide) (Nat.le_of_ble_eq_true rfl) ?_
            refine r_if_eq 167 i_M_statement_156 (by decide) (fun h156 => ?_) (fun h156 => ?_)
            · skip
              rw [if_neg (by rw [bI_eq0.mp h156]; decide)]
              refine r_aload_n (i := 0) i_M_statement_167 rfl rfl ?_
              refine r_ldcS (j := 7) (tx := "court") o_M_statement i_M_statement_168 (by decide) ?_
              refine f_virtual o_M_statement k_M_isWord v_M_isWord x_M_174 i_M_statement_170 o_M_isWord (u7) rfl (rcv_ob (by repeat (first | assumption | exact upw_s | refine (upw_n (by omega)).trans ?_)) rfl (by first | assumption | omega)) rfl (by decide) (Nat.le_of_ble_eq_true rfl) ?_
              refine r_if_eq 184 i_M_statement_173 (by decide) (fun h173 => ?_) (fun h173 => ?_)
              · skip
                rw [if_neg (by rw [bI_eq0.mp h173]; decide)]
                refine r_aload_n (i := 0) i_M_statement_184 rfl rfl ?_
                refine r_ldcS (j := 8) (tx := "fine") o_M_statement i_M_statement_185 (by decide) ?_
                refine f_virtual o_M_statement k_M_isWord v_M_isWord x_M_174 i_M_statement_187 o_M_isWord (u8) rfl (rcv_ob (by repeat (first | assumption | exact upw_s | refine (upw_n (by omega)).trans ?_)) rfl (by first | assumption | omega)) rfl (by decide) (Nat.le_of_ble_eq_true rfl) ?_
                refine r_if_eq 201 i_M_statement_190 (by decide) (fun h190 => ?_) (fun h190 => ?_)
                · skip
                  rw [if_neg (by rw [bI_eq0.mp h190]; decide)]
                  exact hbr
                · skip
                  rw [if_pos (bI_ne0.mp h190)]
                  refine r_aload_n (i := 0) i_M_statement_193 rfl rfl ?_
                  refine r_ldcS (j := 8) (tx := "fine") o_M_statement i_M_statement_194 (by decide) ?_
                  refine r_iconst (v := (3 : Int32)) i_M_statement_196 rfl ?_
                  refine m_virtual o_M_statement k_M_askedTold v_M_askedTold x_M_207 i_M_statement_197 o_M_askedTold (hlw 3 (by decide) (bI_ne0.mp h190)) rfl (rcv_ob (by repeat (first | assumption | exact upw_s | refine (upw_n (by omega)).trans ?_)) rfl (by first | assumption | omega)) rfl (by decide) (Nat.le_of_ble_eq_true rfl) (Nat.zero_le _) (Nat.zero_le _) (fun q1 w2 n1 hp9 => ?_)
                  obtain ⟨rfl, hF2, x, rfl, hx⟩ := hp9
                  refine r_ireturn i_M_statement_200 t_M_statement (fin _ x w2 ⟨x, rfl, hx⟩) ⟨rfl, hF2, x, rfl, hx⟩
                  skip
              · skip
                rw [if_pos (bI_ne0.mp h173)]
                refine r_aload_n (i := 0) i_M_statement_176 rfl rfl ?_
                refine r_ldcS (j := 7) (tx := "court") o_M_statement i_M_statement_177 (by decide) ?_
                refine r_iconst (v := (2 : Int32)) i_M_statement_179 rfl ?_
                refine m_virtual o_M_statement k_M_askedTold v_M_askedTold x_M_207 i_M_statement_180 o_M_askedTold (hlw 2 (by decide) (bI_ne0.mp h173)) rfl (rcv_ob (by repeat (first | assumption | exact upw_s | refine (upw_n (by omega)).trans ?_)) rfl (by first | assumption | omega)) rfl (by decide) (Nat.le_of_ble_eq_true rfl) (Nat.zero_le _) (Nat.zero_le _) (fun q1 w2 n1 hp9 => ?_)
                obtain ⟨rfl, hF2, x, rfl, hx⟩ := hp9
                refine r_ireturn i_M_statement_183 t_M_statement (fin _ x w2 ⟨x, rfl, hx⟩) ⟨rfl, hF2, x, rfl, hx⟩
                skip
            · skip
              rw [if_pos (bI_ne0.mp h156)]
              refine r_aload_n (i := 0) i_M_statement_159 rfl rfl ?_
              refine r_ldcS (j := 6) (tx := "once") o_M_statement i_M_statement_160 (by decide) ?_
              refine r_iconst (v := (1 : Int32)) i_M_statement_162 rfl ?_
              refine m_virtual o_M_statement k_M_askedTold v_M_askedTold x_M_207 i_M_statement_163 o_M_askedTold (hlw 1 (by decide) (bI_ne0.mp h156)) rfl (rcv_ob (by repeat (first | assumption | exact upw_s | refine (upw_n (by omega)).trans ?_)) rfl (by first | assumption | omega)) rfl (by decide) (Nat.le_of_ble_eq_true rfl) (Nat.zero_le _) (Nat.zero_le _) (fun q1 w2 n1 hp9 => ?_)
              obtain ⟨rfl, hF2, x, rfl, hx⟩ := hp9
              refine r_ireturn i_M_statement_166 t_M_statement (fin _ x w2 ⟨x, rfl, hx⟩) ⟨rfl, hF2, x, rfl, hx⟩
              skip
          · skip
            rw [if_pos (bI_ne0.mp h139)]
            refine r_aload_n (i := 0) i_M_statement_142 rfl rfl ?_
            refine r_ldcS (j := 5) (tx := "law") o_M_statement i_M_statement_143 (by decide) ?_
            refine r_iconst (v := (0 : Int32)) i_M_statement_145 rfl ?_
            refine m_virtual o_M_statement k_M_askedTold v_M_askedTold x_M_207 i_M_statement_146 o_M_askedTold (hlw 0 (by decide) (bI_ne0.mp h139)) rfl (rcv_ob (by repeat (first | assumption | exact upw_s | refine (upw_n (by omega)).trans ?_)) rfl (by first | assumption | omega)) rfl (by decide) (Nat.le_of_ble_eq_true rfl) (Nat.zero_le _) (Nat.zero_le _) (fun q1 w2 n1 hp9 => ?_)
            obtain ⟨rfl, hF2, x, rfl, hx⟩ := hp9
            refine r_ireturn i_M_statement_149 t_M_statement (fin _ x w2 ⟨x, rfl, hx⟩) ⟨rfl, hF2, x, rfl, hx⟩
            skip
end MREAD
