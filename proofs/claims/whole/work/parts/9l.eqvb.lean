-- THE TWO SIDES: best and what is told of it
section EQVB
variable {Q : aQ} {M K : aM} {P B : Nat}
theorem eqv_mx {v v2 : Int32} {X : aT} (h : Rl Q M K) (e : v = v2) : Eqv (v, Q) (v2, mX M X) M K := ⟨e, h.mE mX_E rfl, rfl⟩
theorem bst_M {N : aM} {who : Int32} {X : aT} (h : Rl Q M K) (hE : mE N M) (hC : Cnt Q M P B) : bst Q who = (bbX N P B who X).1 ∧ -10000 ≤ (bst Q who).toInt ∧ (bst Q who).toInt ≤ 10000 := by
  have h9 := best_eq (X := X) (who := who) (h.1.mE hE) h.2.2.2.2.2.2 hC.1 hC.2.1
  unfold bst
  rw [hC.2.2.2.2.2.2.2.1, hC.2.2.2.2.2.2.2.2, h9.1]
  exact ⟨rfl, h9.2.2.1⟩
theorem eqv_best (h : Rl Q M K) (hC : Cnt Q M P B) : Eqv (m_best Q) ((bbM M P B (allW P)).1, mX M (bbM M P B (allW P))) M K := by
  unfold m_best
  rw [hC.2.2.2.2.2.2.2.1]
  exact eqv_mx h (bst_M h mE.rf hC).1
theorem eqv_bestOf {b : Int32} (h : Rl Q M K) (hC : Cnt Q M P B) : Eqv (m_bestOf Q b) (m2_bestOf M P B b) M K := by
  have h9 := best_eq (X := xT M) (who := allW P) (P := P) (B := B) h.1 h.2.2.2.2.2.2 hC.1 hC.2.1
  obtain ⟨hP7, hB7, hP, hB, hPM, hBM, hI, eP, eB⟩ := hC
  unfold m_bestOf m2_bestOf
  rw [hB, hBM, eP, eB]
  by_cases q : lt0 b (nI B) = true
  · rw [if_pos q, if_pos q]
    obtain ⟨b, hb, rfl⟩ := lt0_of (by omega) q
    rw [nI_clamp (by omega)]
    exact eqv_mx h (h9.2.1 b hb)
  · rw [if_neg q, if_neg q]
    exact eqv_2 h
theorem less_M {i : Int32} (hC : Cnt Q M P B) : less1 Q i = lsM P i := by
  unfold less1 lsM
  rw [hC.2.2.2.2.2.2.2.1]
theorem wo_M {i : Int32} {X : aT} (h : Rl Q M K) (hC : Cnt Q M P B) : (woX M P B i X).1 = bst Q (allW P) - bst Q (less1 Q i) := by
  unfold woX
  rw [less_M hC, (bst_M (X := X) h mE.rf hC).1, (bst_M (who := lsM P i) (X := bbX M P B (allW P) X) h mE.rf hC).1]
theorem eqv_worth {i : Int32} (h : Rl Q M K) (hC : Cnt Q M P B) : Eqv (m_worth Q i) (m2_worth M P B i) M K := by
  have hw := wo_M (i := i) (X := xT M) h hC
  obtain ⟨hP7, hB7, hP, hB, hPM, hBM, hI, eP, eB⟩ := hC
  unfold m_worth m2_worth
  rw [hP, hPM, eP]
  split
  · exact eqv_mx h hw.symm
  · exact eqv_2 h
theorem dr_eq {X : aT} (h : Rl Q M K) (hC : Cnt Q M P B) : ∀ k, k ≤ 7 → (drX M P B X k).1.1 = (argL (fun i => bst Q (less1 Q (nI i))) k).1 ∧ (¬ (argL (fun i => bst Q (less1 Q (nI i))) k).1 = -1 → (drX M P B X k).1.2 = bst Q (allW P) - (argL (fun i => bst Q (less1 Q (nI i))) k).2 ∧ -10000 ≤ (argL (fun i => bst Q (less1 Q (nI i))) k).2.toInt ∧ (argL (fun i => bst Q (less1 Q (nI i))) k).2.toInt ≤ 10000)
  | 0, _ => ⟨rfl, fun z => absurd rfl z⟩
  | k + 1, hk => by
    obtain ⟨i1, i2⟩ := dr_eq (X := X) h hC k (by omega)
    have e1 : drX M P B X (k + 1) = (if (drX M P B X k).1.1 = -1 ∨ (drX M P B X k).1.2 < (woX M P B (nI k) (drX M P B X k).2).1 then (nI k, (woX M P B (nI k) (drX M P B X k).2).1) else (drX M P B X k).1, (woX M P B (nI k) (drX M P B X k).2).2) := rfl
    have e2 : argL (fun i => bst Q (less1 Q (nI i))) (k + 1) = if (argL (fun i => bst Q (less1 Q (nI i))) k).1 = -1 ∨ bst Q (less1 Q (nI k)) < (argL (fun i => bst Q (less1 Q (nI i))) k).2 then (nI k, bst Q (less1 Q (nI k))) else argL (fun i => bst Q (less1 Q (nI i))) k := rfl
    have hb := (bst_M (who := allW P) (X := X) h mE.rf hC).2
    have hk2 := (bst_M (who := less1 Q (nI k)) (X := X) h mE.rf hC).2
    rw [e1, e2, wo_M h hC]
    generalize argL (fun i => bst Q (less1 Q (nI i))) k = A at *
    generalize drX M P B X k = D at *
    generalize bst Q (allW P) = V at *
    generalize bst Q (less1 Q (nI k)) = W at *
    by_cases q : A.1 = -1
    · rw [if_pos (Or.inl q), if_pos (Or.inl (i1.trans q))]
      exact ⟨rfl, fun _ => ⟨rfl, hk2⟩⟩
    · obtain ⟨j1, j2, j3⟩ := i2 q
      have iff : D.1.2 < V - W ↔ W < A.2 := by
        rw [j1, Int32.lt_iff_toInt_lt, Int32.lt_iff_toInt_lt, i_sub (by omega) (by omega), i_sub (by omega) (by omega)]
        omega
      by_cases q2 : W < A.2
      · rw [if_pos (Or.inr q2), if_pos (Or.inr (iff.mpr q2))]
        exact ⟨rfl, fun _ => ⟨rfl, hk2⟩⟩
      · rw [if_neg (show ¬ (D.1.1 = -1 ∨ D.1.2 < V - W) from fun z => z.elim (fun y => q (i1.symm.trans y)) (fun y => q2 (iff.mp y))), if_neg (show ¬ (A.1 = -1 ∨ W < A.2) from fun z => z.elim q q2)]
        exact ⟨i1, fun _ => ⟨j1, j2, j3⟩⟩
theorem eqv_dearest (h : Rl Q M K) (hC : Cnt Q M P B) : Eqv (m_dearest Q) (frM (mX M (drX M P B (xT M) P).2) (drX M P B (xT M) P).1.1) M K := by
  unfold m_dearest
  rw [hC.2.2.2.2.2.2.2.1]
  exact eqv_fr (M := mX M (drX M P B (xT M) P).2) (h.mE mX_E rfl) (dr_eq (X := xT M) h hC P hC.1).1.symm
theorem eqv_gap {s : Int32} (h : Rl Q M K) (hQ : Q.1 = tM M) (hC : Cnt Q M P B) : Eqv (m_gap Q s) (m2_gap M P B s) M K := by
  unfold m_gap m2_gap
  rw [ruleR_M h.2.2.1]
  have hlt := norow_lt (M := M) (s := s) (c := 1)
  have hz := nI_n0 (r := norow M s 1) (by omega)
  by_cases z : norow M s 1 = 0
  · obtain ⟨s, hs, rfl, e1⟩ := norow1' h z
    obtain ⟨Y, hY, eY⟩ := wk_wr h hQ hC mE.rf hs e1
    rw [if_pos (hz.mpr z), if_pos z, nI_clamp (by omega), hC.2.2.2.2.2.2.2.1]
    refine ⟨?_, (h.mE wkM_E rfl).mE mX_E rfl, rfl⟩
    have e2 := (bst_M (N := wkM M P B s) (who := allW P) (X := xT (wkM M P B s)) h wkM_E hC).1
    have e3 : tls Q (nI s) 0 = owA (mX (wkM M P B s) (bbM (wkM M P B s) P B (allW P))) B 0 := by
      unfold tls
      rw [hQ, hC.2.2.2.2.2.2.2.2]
      exact tell_eq hY ((mX_lt (by decide)).trans eY.symm) hC.2.1 hC.1 (fun b t hb ht => (mX_E.tr wkM_E).val hb ht)
    show bst Q (allW P) - tls Q (nI s) 0 = (bbM (wkM M P B s) P B (allW P)).1 - _
    rw [e2, e3]
    rfl
  · rw [if_neg (fun y => z (hz.mp y)), if_neg z]
    exact eqv_b h (norow_ge z) (by omega)
theorem eqv_under {l : Int32} (h : Rl Q M K) (hC : Cnt Q M P B) : Eqv (m_under Q l) (m2_under M P B l) M K := by
  unfold m_under m2_under
  rw [hC.2.2.2.2.2.2.2.1, hC.2.2.2.2.2.2.2.2]
  by_cases q : wi0 l 1 99 = true
  · rw [if_pos q, if_pos q]
    exact eqv_mx h (best_eq (S := upS Q.1 2 l) (M := lsA M l) (h.1.law (c := 0) (by decide)) (h.2.2.2.2.2.2.law (c := 0) (by decide) q) hC.1 hC.2.1).1
  · rw [if_neg q, if_neg q]
    exact eqv_2 h
theorem eqv_hiding {b t : Int32} (h : Rl Q M K) (hQ : Q.1 = tM M) (hC : Cnt Q M P B) : Eqv (m_hiding Q b t) (m2_hiding M P B b t) M K := by
  have hb1 := (bst_M (who := allW P) (X := xT M) h mE.rf hC).1
  obtain ⟨hP7, hB7, hP, hB, hPM, hBM, hI, eP, eB⟩ := hC
  unfold m_hiding m2_hiding
  rw [hB, hBM, hP, hPM, eP, eB]
  by_cases q : (lt0 b (nI B) && lt0 t (nI P)) = true
  · rw [if_pos q, if_pos q]
    rw [Bool.and_eq_true] at q
    obtain ⟨b, hb, rfl⟩ := lt0_of (by omega) q.1
    obtain ⟨t, ht, rfl⟩ := lt0_of (by omega) q.2
    rw [nI_clamp (by omega), nI_clamp (by omega), hb1, hQ]
    by_cases q2 : partyN (tM M) b (nI t) = true
    · rw [if_pos q2, if_pos q2]
      exact eqv_5 h
    · rw [if_neg q2, if_neg q2]
      have hv := h.2.2.2.2.2.2
      have hT := h.1
      have h4 := hv.2.2.2.1
      rw [hQ] at hv hT hP hB h4
      have h9 := (best_eq (who := allW P) (X := bbM M P B (allW P)) (hT.loss (b := b) (c := t) (x := (tM M).1 2) (by omega) (by omega)) (hv.loss (x := (tM M).1 2) hP hP7 hB hB7 hb ht (by omega)) hP7 hB7).1
      refine eqv_mx h ?_
      rw [h9]
      rfl
  · rw [if_neg q, if_neg q]
    exact eqv_2 h
theorem eqv_bestLaw (h : Rl Q M K) (hC : Cnt Q M P B) : Eqv (m_bestLaw Q) ((blX M P B 19).1, mX M (blX M P B 19).2) M K := by
  refine eqv_mx h ?_
  have hv := h.2.2.2.2.2.2
  obtain ⟨hP7, hB7, hP, hB, hPM, hBM, hI, eP, eB⟩ := hC
  have gen : ∀ k, k ≤ 19 → (blX M P B k).1 = 1 := by
    intro k
    induction k with
    | zero => exact fun _ => rfl
    | succ k ih =>
      intro hk
      have ih := ih (by omega)
      have e : (blX M P B (k + 1)).1 = if (bbX (lsA M (blX M P B k).1) P B (allW P) (bbX (lsA M (nI (k + 2))) P B (allW P) (blX M P B k).2)).1 < (bbX (lsA M (nI (k + 2))) P B (allW P) (blX M P B k).2).1 then nI (k + 2) else (blX M P B k).1 := rfl
      rw [e, ih]
      have w1 : wi0 (1 : Int32) 1 99 = true := by decide
      have w2 : ∀ k, k < 20 → wi0 (nI (k + 2)) 1 99 = true := by decide
      have w3 : ∀ k, k < 20 → (1 : Int32) ≤ nI (k + 2) := by decide
      obtain ⟨-, -, -, f, f1, f2, f3⟩ := best_eq (who := allW P) (X := bbX (lsA M (nI (k + 2))) P B (allW P) (blX M P B k).2) (h.1.law (c := 0) (x := 1) (by decide)) (hv.law (c := 0) (by decide) w1) hP7 hB7
      obtain ⟨-, -, -, g, g1, g2, g3⟩ := best_eq (who := allW P) (X := (blX M P B k).2) (h.1.law (c := 0) (x := nI (k + 2)) (by decide)) (hv.law (c := 0) (by decide) (w2 k (by omega))) hP7 hB7
      have hsub : Av (upS Q.1 (2 + 0) 1) P B (allW P) g := Av_of (S := upS Q.1 (2 + 0) (nI (k + 2))) (S' := upS Q.1 (2 + 0) 1) hP7 hB7 (fun _ _ => rfl) (fun b t hb ht hg => by
        unfold gd at hg ⊢
        rw [Bool.and_eq_true, decide_eq_true_iff] at hg ⊢
        refine ⟨fun z => hg.1 ?_, hg.2⟩
        have z : lossN Q.1 b t < 1 := z
        show lossN Q.1 b t < nI (k + 2)
        exact Int32.lt_of_lt_of_le z (w3 k (by omega))) rfl g1
      have h9 := f3 g hsub
      have e2 : vl (upS Q.1 (2 + 0) 1) g = vl (upS Q.1 (2 + 0) (nI (k + 2))) g := rfl
      rw [if_neg (fun z => ?_)]
      have z : (bbX (lsA M 1) P B (allW P) (bbX (lsA M (nI (k + 2))) P B (allW P) (blX M P B k).2)).1 < (bbX (lsA M (nI (k + 2))) P B (allW P) (blX M P B k).2).1 := z
      rw [Int32.lt_iff_toInt_lt] at z
      have g2 : vl (upS Q.1 (2 + 0) (nI (k + 2))) g = (bbX (lsA M (nI (k + 2))) P B (allW P) (blX M P B k).2).1.toInt := g2
      have h9 : vl (upS Q.1 (2 + 0) 1) g ≤ (bbX (lsA M 1) P B (allW P) (bbX (lsA M (nI (k + 2))) P B (allW P) (blX M P B k).2)).1.toInt := h9
      omega
  exact (gen 19 (Nat.le_refl _)).symm
end EQVB
