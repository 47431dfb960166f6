-- THE TWO SIDES: the reader's town, the image and back
section EQVK
variable {Q : aQ} {M K : aM} {P B : Nat}
theorem vok_hur {f : Nat → Int32} {z b : Nat} (hz : z ≤ 250) (hP7 : P ≤ 7) (hB7 : B ≤ 7) (hb : b < B) : ∀ m (q : aP), LOk q.1 z → q.2.2.1 0 = nI P → q.2.2.1 1 = nI B → VOk q.2.2 → VOk (hurF f z (nI b) m q).2.2
  | 0, q, _, _, _, h => h
  | m + 1, q, hL, hP, hB, h => by
    unfold hurF
    split
    · rename_i hc
      obtain ⟨v1, hv1⟩ : ∃ v, rn1 f z (nI P) q = v := ⟨_, rfl⟩
      obtain ⟨v2, hv2⟩ : ∃ v, rn9 f z v1 = v := ⟨_, rfl⟩
      rw [hP, hv1, hv2]
      have l1 : LOk v1.2.1 z := by rw [← hv1]; exact rn1_ok hL
      have l2 : LOk v2.2.1 z := by rw [← hv2]; exact rn9_ok l1
      refine vok_hur hz hP7 hB7 hb m _ l2 ?_ ?_ ?_
      · unfold huS
        show (if v2.2.2 = -1 then putLS q.2.2 (nI b) v1.1 v2.1 else q.2.2).1 0 = nI P
        split <;> exact hP
      · unfold huS
        show (if v2.2.2 = -1 then putLS q.2.2 (nI b) v1.1 v2.1 else q.2.2).1 1 = nI B
        split <;> exact hB
      · unfold huS
        show VOk (if v2.2.2 = -1 then putLS q.2.2 (nI b) v1.1 v2.1 else q.2.2)
        split
        · rename_i e
          have hv2' : rnR f z v1.2.1 v1.2.2 0 99 (-1) = v2 := hv2
          obtain ⟨e1, j, hj, ej⟩ := rn_v99E hv2' l1 hz e
          have hv1' : rnR f z (lexF f z q.1.1) q.2.1 0 (nI P - 1) (-1) = v1 := hv1
          obtain ⟨-, y, hy, ey, -⟩ := rn_valE hv1' (lex_le hL.2.1) hz hP7 e1
          rw [ey, ej]
          exact h.loss hP hP7 hB hB7 hb hy (by rw [toInt_nI (by omega)]; omega)
        · exact h
    · exact h
theorem vok_stM {f : Nat → Int32} {z : Nat} {q : aP} (hz : z ≤ 250) (hL : LOk q.1 z) (h : VOk q.2.2) : VOk (stM f z q).2.2 := by
  obtain ⟨P, B, hP, hP7, hB, hB7, hZ⟩ := id h.1
  refine stM_ind (Pr := fun x => VOk x.2.2) ?_ ?_ ?_ ?_ ?_ h
  · unfold stOne
    split
    · rename_i hlt
      have hP6 : P < 7 := by
        rw [hP] at hlt
        exact Nat.lt_of_not_le (fun q => absurd (Int32.not_lt.mpr (nI_le (a := 7) q (by omega))) (fun z => z hlt))
      exact h.one (B := B) hP hP6
    · exact h
  · unfold stDeal
    split
    · rename_i hlt
      have hB6 : B < 7 := by
        rw [hB] at hlt
        exact Nat.lt_of_not_le (fun q => absurd (Int32.not_lt.mpr (nI_le (a := 7) q (by omega))) (fun z => z hlt))
      obtain ⟨v1, hv1⟩ : ∃ v, rn1 f z (q.2.2.1 0) q = v := ⟨_, rfl⟩
      rw [hv1]
      obtain ⟨v2, hv2⟩ : ∃ v, rnP f z (q.2.2.1 0) v1.1 v1 = v := ⟨_, rfl⟩
      rw [hv2]
      obtain ⟨v3, hv3⟩ : ∃ v, rn9 f z v2 = v := ⟨_, rfl⟩
      rw [hv3]
      obtain ⟨v4, hv4⟩ : ∃ v, rn9 f z v3 = v := ⟨_, rfl⟩
      rw [hv4]
      have l1 : LOk v1.2.1 z := by rw [← hv1]; exact rn1_ok hL
      have l2 : LOk v2.2.1 z := by rw [← hv2]; exact rnP_ok l1
      have l3 : LOk v3.2.1 z := by rw [← hv3]; exact rn9_ok l2
      have l4 : LOk v4.2.1 z := by rw [← hv4]; exact rn9_ok l3
      unfold dlS
      split
      · rename_i e
        have hv4' : rnR f z v3.2.1 v3.2.2 0 99 (-1) = v4 := hv4
        obtain ⟨e3, k, hk, ek⟩ := rn_v99E hv4' l3 hz e
        have hv3' : rnR f z v2.2.1 v2.2.2 0 99 (-1) = v3 := hv3
        obtain ⟨e2, g, hg, eg⟩ := rn_v99E hv3' l2 hz e3
        have hv2' : rnR f z v1.2.1 v1.2.2 0 (nI P - 1) v1.1 = v2 := by rw [← hP]; exact hv2
        obtain ⟨e1, y, hy, ey, -⟩ := rn_valE hv2' l1 hz hP7 e2
        have hv1' : rnR f z (lexF f z q.1.1) q.2.1 0 (nI P - 1) (-1) = v1 := by rw [← hP]; exact hv1
        obtain ⟨-, x, hx, ex, -⟩ := rn_valE hv1' (lex_le hL.2.1) hz hP7 e1
        rw [hB, nI_clamp (by omega), ex, ey, eg, ek]
        refine vok_hur hz hP7 (show B + 1 ≤ 7 by omega) (Nat.lt_succ_self B) 250 _ l4 hP ?_ (h.deal hP hP7 hB hB6 hg hk)
        show q.2.2.1 1 + 1 = nI (B + 1)
        rw [hB, nI_1]
      · exact h
    · exact h
  · unfold stGains
    obtain ⟨v1, hv1⟩ : ∃ v, rn1 f z (q.2.2.1 1) q = v := ⟨_, rfl⟩
    rw [hv1]
    obtain ⟨v2, hv2⟩ : ∃ v, rnP f z (q.2.2.1 0) (-1) v1 = v := ⟨_, rfl⟩
    rw [hv2]
    obtain ⟨v3, hv3⟩ : ∃ v, rn9 f z v2 = v := ⟨_, rfl⟩
    rw [hv3]
    unfold gnS
    show VOk (if v3.2.2 = -1 then putLS q.2.2 v1.1 v2.1 (-v3.1) else q.2.2)
    split
    · rename_i e
      have l1 : LOk v1.2.1 z := by rw [← hv1]; exact rn1_ok hL
      have l2 : LOk v2.2.1 z := by rw [← hv2]; exact rnP_ok l1
      have hv3' : rnR f z v2.2.1 v2.2.2 0 99 (-1) = v3 := hv3
      obtain ⟨e2, j, hj, ej⟩ := rn_v99E hv3' l2 hz e
      have hv2' : rnR f z v1.2.1 v1.2.2 0 (nI P - 1) (-1) = v2 := by rw [← hP]; exact hv2
      obtain ⟨e1, y, hy, ey, -⟩ := rn_valE hv2' l1 hz hP7 e2
      have hv1' : rnR f z (lexF f z q.1.1) q.2.1 0 (nI B - 1) (-1) = v1 := by rw [← hB]; exact hv1
      obtain ⟨-, x, hx, ex, -⟩ := rn_valE hv1' (lex_le hL.2.1) hz hB7 e1
      rw [ex, ey, ej]
      refine h.loss hP hP7 hB hB7 hx hy ?_
      rw [Int32.toInt_neg, toInt_nI (by omega), Int.bmod_eq_of_le (by omega) (by omega)]
      omega
    · exact h
  · unfold stBars
    obtain ⟨v1, hv1⟩ : ∃ v, rn1 f z (q.2.2.1 1) q = v := ⟨_, rfl⟩
    rw [hv1]
    obtain ⟨v2, hv2⟩ : ∃ v, rnP f z (q.2.2.1 1) v1.1 v1 = v := ⟨_, rfl⟩
    rw [hv2]
    unfold brS
    show VOk (if v2.2.2 = -1 then putB q.2.2 v1.1.toNatClampNeg v2.1.toNatClampNeg 1 else q.2.2)
    split
    · rename_i e
      have l1 : LOk v1.2.1 z := by rw [← hv1]; exact rn1_ok hL
      have hv2' : rnR f z v1.2.1 v1.2.2 0 (nI B - 1) v1.1 = v2 := by rw [← hB]; exact hv2
      obtain ⟨e1, y, hy, ey, hne⟩ := rn_valE hv2' l1 hz hB7 e
      have hv1' : rnR f z (lexF f z q.1.1) q.2.1 0 (nI B - 1) (-1) = v1 := by rw [← hB]; exact hv1
      obtain ⟨-, x, hx, ex, -⟩ := rn_valE hv1' (lex_le hL.2.1) hz hB7 e1
      rw [ex, ey] at hne
      rw [ex, ey, nI_clamp (by omega), nI_clamp (by omega)]
      exact h.bar hP hP7 hB hB7 hx hy (fun e => hne (by rw [e]))
    · exact h
  · intro c
    unfold stLaw lwS
    show VOk (if (lw1 f z c q).2.2 = -1 then upS q.2.2 (2 + c) (lw1 f z c q).1 else q.2.2)
    split
    · rename_i e
      by_cases hc : c < 4
      · refine h.law hc ?_
        unfold lw1 rnR at e ⊢
        by_cases ok : okN (rnV f (lexF f z q.1.1)) (if nI c = 0 then 1 else 0) (mostN c) (-1) = true
        · rw [if_pos ok]
          unfold okN at ok
          simp only [Bool.and_eq_true] at ok
          first | exact ok.1 | exact ok.1.1 | exact ok.1.2 | exact ok.2
        · rw [if_neg ok] at e
          exact absurd e (faF_ne (lex_le hL.2.1) hz)
      · obtain ⟨v1, v2, v3, v4, v5, v6, v7, v8⟩ := h
        have ne : ∀ k, k < 6 → (upS q.2.2 (2 + c) (lw1 f z c q).1).1 k = q.2.2.1 k := fun k hk => if_neg (by omega)
        exact ⟨⟨P, B, (ne 0 (by decide)).trans hP, hP7, (ne 1 (by decide)).trans hB, hB7, hZ⟩, v2, v3, by rw [ne 2 (by decide)]; exact v4, by rw [ne 3 (by decide)]; exact v5, by rw [ne 4 (by decide)]; exact v6, by rw [ne 5 (by decide)]; exact v7, v8⟩
    · exact h
theorem vok_rdF {f : Nat → Int32} {z : Nat} (hz : z ≤ 250) : ∀ m c (q : aP), LOk q.1 z → VOk q.2.2 → VOk (rdF f z m c q).2.2.2
  | 0, _, _, _, h => h
  | m + 1, c, q, hL, h => by
    have hok := stM_ok (f := f) hL
    have h2 := vok_stM (f := f) hz hL h
    unfold rdF
    generalize stM f z q = q' at *
    split
    · exact vok_rdF hz m (c + 1) (lexF f z q'.1.1, q'.2.1, q'.2.2) (lex_le hok.2.1) h2
    · exact h2
theorem vok_read {f : Nat → Int32} {z : Nat} {S : aS} (hz : z ≤ 250) (h : VOk S) : VOk (rdE (readS f z S).2).2.2 := by
  have h1 := vok_rdF (f := f) hz 251 0 (lexF f z 0, -1, S) (lex_le (Nat.zero_le _)) h
  unfold readS rdE
  generalize (rdF f z 251 0 (lexF f z 0, -1, S)).2 = q' at *
  split
  · exact h1
  · exact h1
theorem rl_image {k : Nat} {K' : aM} (h : Rl Q M K) (hG : tG K' M) : Rl (m_image Q).2 (mK M (.ref k)) K' := by
  have hok := ok_image h.2.2.2.2.2.1
  obtain ⟨h0, hk, hs, ht, hr, hq, hv⟩ := h
  refine ⟨h0, Or.inr ⟨?_, ?_, TQ_of h0 hG, hv⟩, hs, ht, hr, hok, hv⟩
  · show ¬ (1 : Int32) = 0
    decide
  · intro z
    cases z
theorem rl_back (h : Rl Q M K) : (M.2.2.2.1 = .null → (m_back Q).1 = -5 ∧ Rl (m_back Q).2 (mR M 5) K) ∧ (¬ M.2.2.2.1 = .null → (m_back Q).1 = 1 ∧ Rl (m_back Q).2 (tfM M K) K) := by
  have hok := ok_back h.2.2.2.2.2.1
  unfold m_back at *
  constructor
  · intro hn
    have hz : Q.2.2.1 = 0 := by
      rcases h.2.1 with z | z
      · exact z.1
      · exact absurd hn z.2.1
    rw [if_pos hz]
    exact ⟨rfl, (eqv_5 h).2.1⟩
  · intro hn
    rcases h.2.1 with z | ⟨z1, z2, z3, z4⟩
    · exact absurd z.2 hn
    · rw [if_neg z1] at hok ⊢
      obtain ⟨h0, hk, hs, ⟨ht, hz⟩, hr, hq, hv⟩ := h
      refine ⟨rfl, TQ_of z3 tf_G, hk, fun s hs8 => (hs s hs8).of (fun j hj => ?_) rfl, ⟨ht, hz⟩, hr, hok, z4⟩
      rcases hj with rfl | rfl | rfl | rfl | rfl <;> rfl
theorem rl_town {N : aM} (h : Rl Q M K) (h1 : N.2.2.2.1 = M.2.2.2.1) (h2 : ∀ j, j < 17 → N.2.1 j = M.2.1 j) (h3 : N.2.2.1 = M.2.2.1) (h4 : N.1 8 = 0) (h5 : (-20 < readA Q.2.2.2.2.1 Q.2.2.2.2.2.1 Q.1 ∧ TQ (rdE (readS Q.2.2.2.2.1 Q.2.2.2.2.2.1 Q.1).2).2.2 N ∧ N.2.1 17 = M.2.1 17) ∨ (¬ -20 < readA Q.2.2.2.2.1 Q.2.2.2.2.2.1 Q.1 ∧ TQ Q.1 N ∧ N.2.1 17 = upd (M.2.1 17) 2 (M.2.1 17 2 + 1))) : Rl (m_town Q).2 N K := by
  have hok := ok_town h.2.2.2.2.2.1
  obtain ⟨h0, hk, hs, ⟨ht, hz⟩, hr, hq, hv⟩ := h
  have hv2 := vok_read (f := Q.2.2.2.2.1) hq.2.2.2 hv
  have hk' : KR Q N K := by
    unfold KR at hk ⊢
    rw [h1]
    exact hk
  have hs' : SR Q.2.2.2.1 N := fun s hs8 => (hs s hs8).of (fun j hj => by rw [h2 j (by omega)]) (by rw [h3])
  have ht' : N.2.1 16 = Q.2.2.2.2.1 := (h2 16 (by decide)).trans ht
  unfold m_town at *
  generalize rdE (readS Q.2.2.2.2.1 Q.2.2.2.2.2.1 Q.1).2 = q' at *
  generalize readA Q.2.2.2.2.1 Q.2.2.2.2.2.1 Q.1 = a at *
  rcases h5 with ⟨e, hT, e17⟩ | ⟨e, hT, e17⟩
  · rw [if_pos e] at hok ⊢
    refine ⟨hT, hk', hs', ⟨ht', h4⟩, fun k hk => ?_, hok, hv2⟩
    rw [e17]
    exact hr k hk
  · rw [if_neg e] at hok ⊢
    refine ⟨hT, hk', hs', ⟨ht', h4⟩, fun k hk => ?_, hok, hv⟩
    show rfF Q.2.2.2.2.2.2 (-nI 2) k = _
    rw [rfF_at (by decide) (by decide) hk, e17]
    unfold upd
    by_cases q : k = 2 - 2
    · rw [if_pos q, if_pos (by omega), hr k hk, show k + 2 = 2 by omega]
    · rw [if_neg q, if_neg (by omega)]
      exact hr k hk
end EQVK
