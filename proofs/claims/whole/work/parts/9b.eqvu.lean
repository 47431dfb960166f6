-- THE TWO SIDES: what rules say
theorem iu_tab : ∀ kd, kd < 7 → 1 ≤ kd → ∀ q, q < 7 → isU (nI q) 7 (nI (10 + kd) - 10) = iuM (nI kd) (nI q) := by decide +kernel
theorem kd_tab : ∀ kd, kd < 7 → (nI (10 + kd) - 10).toNatClampNeg = kd := by decide +kernel
section EQVU
variable {Q : aQ} {M K : aM} {P B : Nat}
theorem Rl.ru (h : Rl Q M K) : RlOk M := by
  intro s hs
  rcases (h.2.2.1 s hs).2.2 with ⟨e1, -⟩ | ⟨e1, -⟩ | ⟨e1, kd, a, k1, k6, ha, e14, -, e15, -⟩
  · exact Or.inl e1
  · exact Or.inr (Or.inl e1)
  · exact Or.inr (Or.inr ⟨e1, ⟨kd, k1, k6, e14⟩, ⟨a, ha, e15⟩⟩)
theorem rule_at {s : Nat} (h : Rl Q M K) (hs : s < 8) (h2 : M.2.1 1 s = 2) : ∃ kd a, 1 ≤ kd ∧ kd ≤ 6 ∧ a ≤ 99 ∧ M.2.1 14 s = nI kd ∧ M.2.1 15 s = nI a ∧ heldI (sh Q) (nI s) = nI (10 + kd) ∧ kdI Q (nI s) = kd ∧ noI Q (nI s) = nI a ∧ kdM M s = kd ∧ noM M s = a := by
  rcases (h.2.2.1 s hs).2.2 with ⟨e1, -⟩ | ⟨e1, -⟩ | ⟨e1, kd, a, k1, k6, ha, e14, x0, e15, x2⟩
  · exact absurd (e1.symm.trans h2) (by decide)
  · exact absurd (e1.symm.trans h2) (by decide)
  · have hh : heldI (sh Q) (nI s) = nI (10 + kd) := (heldI_in hs).trans x0
    refine ⟨kd, a, k1, k6, ha, e14, e15, hh, ?_, ?_, ?_, ?_⟩
    · unfold kdI
      rw [hh, kd_tab kd (by omega)]
    · unfold noI
      exact (atI_in hs (by decide)).trans x2
    · unfold kdM
      rw [e14, nI_clamp (by omega)]
    · unfold noM
      rw [e15, nI_clamp (by omega)]
theorem norow1' {s : Int32} (h : Rl Q M K) (hn : norow M s 1 = 0) : ∃ s', s' < 8 ∧ s = nI s' ∧ M.2.1 1 s' = 2 := by
  have hn2 := hn
  unfold norow at hn
  by_cases q1 : lt0 s 8 = true
  · obtain ⟨s, hs, rfl⟩ := lt0_of (N := 8) (by decide) q1
    exact ⟨s, hs, rfl, norow_r hs h.ru hn2⟩
  · rw [if_neg q1] at hn
    exact absurd hn (by decide)
theorem eqv_says {s k : Int32} (h : Rl Q M K) (hQ : Q.1 = tM M) (hC : Cnt Q M P B) : Eqv (m_says Q s k) (m2_says M P s k) M K := by
  have hv : VOk Q.1 := h.2.2.2.2.2.2
  obtain ⟨hP7, hB7, hP, hB, hPM, hBM, hI, eP, eB⟩ := hC
  unfold m_says m2_says
  by_cases q : (lt0 s 8 && wi0 k 0 6) = true
  · rw [if_pos q, if_pos q]
    rw [Bool.and_eq_true] at q
    obtain ⟨s, hs, rfl⟩ := lt0_of (N := 8) (by decide) q.1
    obtain ⟨k, hk, rfl⟩ := wi0_of (N := 6) (by decide) q.2
    have hk0 : nI k = 0 ↔ k = 0 := nI_eq (b := 0) (by omega) (by decide)
    rw [nI_clamp (by omega)]
    unfold r_says2 r_says1
    have e0 : ruleR (sh Q) (nI s) = -nI (norow M (nI s) 1) := ruleR_M h.2.2.1
    have en : norow M (nI s) 1 = if M.2.1 1 s = 1 then 3 else if M.2.1 1 s = 0 then 4 else 0 := by
      unfold norow
      rw [if_pos q.1, nI_clamp (by omega)]
    rw [e0, en]
    rcases h.ru s hs with e1 | e1 | ⟨e1, -⟩
    · rw [if_neg (show ¬ (M.2.1 1 s = 1) by rw [e1]; decide), if_pos e1, if_neg (show ¬ -nI 4 = 0 by decide), if_neg (show ¬ (-nI 4 = 0 ∧ ¬ nI k = 0 ∧ Q.1.1 1 = 0) from fun z => absurd z.1 (by decide)), if_neg (show ¬ -nI 4 = 0 by decide), if_neg (fun z => z.elim (fun y => absurd (e1.symm.trans y) (by decide)) (fun y => absurd (e1.symm.trans y.1) (by decide))), if_pos e1]
      exact eqv_r (i := 4) h (by decide) (by decide)
    · rw [if_pos e1, if_neg (show ¬ -nI 3 = 0 by decide), if_neg (show ¬ (-nI 3 = 0 ∧ ¬ nI k = 0 ∧ Q.1.1 1 = 0) from fun z => absurd z.1 (by decide)), if_neg (show ¬ -nI 3 = 0 by decide), if_pos (Or.inl e1)]
      exact eqv_r (i := 3) h (by decide) (by decide)
    · obtain ⟨kd, a, k1, k6, ha, e14, e15, hh, hkd, hno, -, -⟩ := rule_at h hs e1
      rw [if_neg (show ¬ (M.2.1 1 s = 1) by rw [e1]; decide), if_neg (show ¬ (M.2.1 1 s = 0) by rw [e1]; decide), if_pos (show -nI 0 = 0 by decide), hh, iu_tab kd (by omega) k1 k (by omega), e14, e15, nI_clamp (by omega), nI_clamp (by omega)]
      by_cases q2 : iuM (nI kd) (nI k) = true
      · rw [q2, if_pos (show true = true from rfl), if_neg (show ¬ (M.2.1 1 s = 1 ∨ M.2.1 1 s = 2 ∧ true = false) from fun z => z.elim (fun y => absurd (e1.symm.trans y) (by decide)) (fun y => absurd y.2 (by decide))), if_neg (show ¬ (M.2.1 1 s = 0) by rw [e1]; decide)]
        by_cases q3 : nI k = 0
        · rw [if_neg (show ¬ ((0 : Int32) = 0 ∧ ¬ nI k = 0 ∧ Q.1.1 1 = 0) from fun z => z.2.1 q3), if_pos (show (0 : Int32) = 0 from rfl), if_pos q3, if_pos q3]
          exact eqv_v h hno
        · rw [if_neg q3, if_neg q3, hBM]
          by_cases q4 : nI B = 0
          · rw [if_pos (show ((0 : Int32) = 0 ∧ ¬ nI k = 0 ∧ Q.1.1 1 = 0) from ⟨rfl, q3, hB.trans q4⟩), if_neg (show ¬ (-5 : Int32) = 0 by decide), if_pos q4]
            exact eqv_5 h
          · rw [if_neg (show ¬ ((0 : Int32) = 0 ∧ ¬ nI k = 0 ∧ Q.1.1 1 = 0) from fun z => q4 (hB.symm.trans z.2.2)), if_pos (show (0 : Int32) = 0 from rfl), if_neg q4]
            refine eqv_v h ?_
            unfold tbs
            rw [hkd, hno, eP]
            rw [hQ] at hv ⊢
            exact third_eq hv hP7 (by decide) k1 k6 ha
      · rw [Bool.not_eq_true] at q2
        rw [q2, if_neg (show ¬ false = true by decide), if_neg (show ¬ ((-3 : Int32) = 0 ∧ ¬ nI k = 0 ∧ Q.1.1 1 = 0) from fun z => absurd z.1 (by decide)), if_neg (show ¬ (-3 : Int32) = 0 by decide), if_pos (Or.inr ⟨e1, rfl⟩)]
        exact eqv_r (i := 3) h (by decide) (by decide)
  · rw [if_neg q, if_neg q]
    exact eqv_2 h
theorem allw_eq (hP7 : P ≤ 7) {x : Int32} : inL x.toInt64 0 (allW P).toInt64 = lt0 x ((1 : Int32) <<< (nI P &&& 31)) := by
  unfold allW
  rw [b1_pow P hP7]
  exact in_lt (N := 2 ^ P) (Nat.lt_of_le_of_lt (pow7 hP7) (by decide))
theorem eqv_name {s b x : Int32} (h : Rl Q M K) (hQ : Q.1 = tM M) (hC : Cnt Q M P B) : Eqv (m_name Q s b x) (m2_name M P s b x) M K := by
  have hv : VOk Q.1 := h.2.2.2.2.2.2
  obtain ⟨hP7, hB7, hP, hB, hPM, hBM, hI, eP, eB⟩ := hC
  unfold m_name m2_name
  rw [hP, hB, hBM, allw_eq hP7, ← Bool.and_assoc]
  by_cases q : (lt0 s 8 && lt0 b (nI B) && lt0 x ((1 : Int32) <<< (nI P &&& 31))) = true
  · rw [if_pos q, if_pos q, ruleR_M h.2.2.1]
    simp only [Bool.and_eq_true] at q
    have hlt := norow_lt (M := M) (s := s) (c := 1)
    have hz := nI_n0 (r := norow M s 1) (by omega)
    by_cases z : norow M s 1 = 0
    · obtain ⟨s, hs, rfl, e1⟩ := norow1' h z
      obtain ⟨b, hb, rfl⟩ := lt0_of (by omega) q.1.2
      obtain ⟨kd, a, k1, k6, ha, e14, e15, hh, hkd, hno, -, -⟩ := rule_at h hs e1
      rw [if_pos (hz.mpr z), if_pos z, nI_clamp (by omega), nI_clamp (by omega), e14, e15, nI_clamp (by omega), nI_clamp (by omega)]
      refine eqv_v h ?_
      unfold tbs
      rw [hkd, hno, eP]
      rw [hQ] at hv ⊢
      exact third_eq hv hP7 (by omega) k1 k6 ha
    · rw [if_neg (fun y => z (hz.mp y)), if_neg z]
      exact eqv_r h (norow_ge z) (by omega)
  · rw [if_neg q, if_neg q]
    exact eqv_2 h
theorem wk_wr {N : aM} {s : Nat} (h : Rl Q M K) (hQ : Q.1 = tM M) (hC : Cnt Q M P B) (hE : mE N M) (hs : s < 8) (h2 : M.2.1 1 s = 2) : ∃ Y, Wr P (wkR Q (nI s)) Y B ∧ Y.2.2 = (wkM N P B s).2.1 38 := by
  have hv : VOk Q.1 := h.2.2.2.2.2.2
  obtain ⟨hP7, hB7, hP, hB, hPM, hBM, hI, eP, eB⟩ := hC
  obtain ⟨kd, a, k1, k6, ha, e14, e15, hh, hkd, hno, kM, nM⟩ := rule_at h hs h2
  have kM' : kdM N s = kd := by
    unfold kdM at kM ⊢
    rw [hE.2 14 (by decide)]
    exact kM
  have nM' : noM N s = a := by
    unfold noM at nM ⊢
    rw [hE.2 15 (by decide)]
    exact nM
  unfold wkR wkM
  rw [hkd, hno, eP, eB, kM', nM', mA_eq]
  rw [hQ] at hv ⊢
  exact ⟨_, wr_by hv hE hP7 k1 k6 ha B hB7, rfl⟩
theorem tls_M {N : aM} {s : Nat} {q : Int32} (h : Rl Q M K) (hQ : Q.1 = tM M) (hC : Cnt Q M P B) (hE : mE N M) (hs : s < 8) (h2 : M.2.1 1 s = 2) : tls Q (nI s) q = owA (wkM N P B s) B q := by
  obtain ⟨Y, hY, eY⟩ := wk_wr h hQ hC hE hs h2
  unfold tls
  rw [hQ, hC.2.2.2.2.2.2.2.2]
  exact tell_eq hY eY.symm hC.2.1 hC.1 (fun b t hb ht => (wkM_E.tr hE).val hb ht)
theorem eqv_by {s q : Int32} (h : Rl Q M K) (hQ : Q.1 = tM M) (hC : Cnt Q M P B) : Eqv (m_by Q s q) (m2_by M P B s q) M K := by
  unfold m_by m2_by r_by
  have hlt := norow_lt (M := M) (s := s) (c := 1)
  have hz := nI_n0 (r := norow M s 1) (by omega)
  by_cases q1 : lt0 q 3 = true
  · rw [if_pos q1, ruleR_M h.2.2.1, q1, Bool.and_true]
    by_cases z : norow M s 1 = 0
    · obtain ⟨s, hs, rfl, e1⟩ := norow1' h z
      rw [if_pos (hz.mpr z), if_pos (show lt0 (nI s) 8 = true from lt0_in (N := 8) hs (by decide)), if_pos z, nI_clamp (by omega)]
      exact ⟨tls_M h hQ hC mE.rf hs e1, h.mE wkM_E rfl, rfl⟩
    · rw [if_neg (fun y => z (hz.mp y))]
      by_cases q2 : lt0 s 8 = true
      · rw [if_pos q2, if_neg z]
        exact eqv_b h (norow_ge z) (by omega)
      · rw [if_neg q2]
        have : norow M s 1 = 2 := if_neg q2
        rw [this]
        exact eqv_b2 h
  · rw [if_neg q1, if_neg (show ¬ (-2 : Int32) = 0 by decide), if_neg (fun z => q1 (by rw [Bool.and_eq_true] at z; exact z.2))]
    exact eqv_b2 h
theorem eqv_lives {s : Int32} (h : Rl Q M K) (hQ : Q.1 = tM M) (hC : Cnt Q M P B) : Eqv (m_lives Q s) (m2_lives M P B s) M K := by
  have hok := ok_lives (s := s) h.2.2.2.2.2.1
  have hv : VOk Q.1 := h.2.2.2.2.2.2
  have hi := hC.i hQ
  have hT := h.1
  unfold m_lives m2_lives at *
  rw [ruleR_M h.2.2.1] at hok ⊢
  have hlt := norow_lt (M := M) (s := s) (c := 1)
  have hz := nI_n0 (r := norow M s 1) (by omega)
  by_cases z : norow M s 1 = 0
  · obtain ⟨s, hs, rfl, e1⟩ := norow1' h z
    obtain ⟨Y, hY, eY⟩ := wk_wr h hQ hC mE.rf hs e1
    obtain ⟨hP7, hB7, hP, hB, hPM, hBM, hI, eP, eB⟩ := hC
    rw [if_pos (hz.mpr z)] at hok ⊢
    rw [if_pos z, nI_clamp (by omega)]
    rw [eB, hQ] at hok ⊢
    rw [hQ] at hv hT hP
    exact eqv_comes (N := wkM M P B s) h (hT.mE wkM_E) (fun j hj => mA_ne (by omega)) rfl rfl hv eY.symm hY hi hP hP7 hB7 hok
  · rw [if_neg (fun y => z (hz.mp y)), if_neg z]
    exact eqv_r h (norow_ge z) (by omega)
theorem hd_eq (h : Rl Q M K) (hQ : Q.1 = tM M) (hC : Cnt Q M P B) : ∀ s, s ≤ 8 → hdF Q s = (hdX M P B s).1
  | 0, _ => rfl
  | s + 1, hs => by
    have ih := hd_eq h hQ hC s (by omega)
    have e1 : hdF Q (s + 1) = if ruleR Q.2.2.2.1 (nI s) = 0 ∧ ((hdF Q s).1 = -1 ∨ (hdF Q s).2 < tls Q (nI s) 0) then (nI s, tls Q (nI s) 0) else hdF Q s := rfl
    have e2 : hdX M P B (s + 1) = if M.2.1 1 s = 2 then (if (hdX M P B s).1.1 = -1 ∨ (hdX M P B s).1.2 < owA (wkM (mA M 38 (hdX M P B s).2) P B s) B 0 then (nI s, owA (wkM (mA M 38 (hdX M P B s).2) P B s) B 0) else (hdX M P B s).1, (wkM (mA M 38 (hdX M P B s).2) P B s).2.1 38) else hdX M P B s := rfl
    rw [e1, e2, ih]
    have e0 : ruleR Q.2.2.2.1 (nI s) = -nI (norow M (nI s) 1) := ruleR_M h.2.2.1
    have hlt := norow_lt (M := M) (s := nI s) (c := 1)
    have hz := nI_n0 (r := norow M (nI s) 1) (by omega)
    by_cases q : M.2.1 1 s = 2
    · have en : norow M (nI s) 1 = 0 := by
        unfold norow
        rw [if_pos (show lt0 (nI s) 8 = true from lt0_in (N := 8) (by omega) (by decide)), nI_clamp (by omega), q]
        rfl
      rw [e0, if_pos q, tls_M h hQ hC (N := mA M 38 (hdX M P B s).2) (mE.A (by decide)) (by omega) q]
      by_cases z : (hdX M P B s).1.1 = -1 ∨ (hdX M P B s).1.2 < owA (wkM (mA M 38 (hdX M P B s).2) P B s) B 0
      · rw [if_pos ⟨hz.mpr en, z⟩, if_pos z]
      · rw [if_neg (fun y => z y.2), if_neg z]
    · rw [if_neg q, if_neg (fun y => q ?_)]
      have := hz.mp (e0.symm.trans y.1)
      exact norow_r (by omega) h.ru this
theorem eqv_head (h : Rl Q M K) (hQ : Q.1 = tM M) (hC : Cnt Q M P B) : Eqv (m_head Q) (frM (mA M 38 (hdX M P B 8).2) (hdX M P B 8).1.1) M K := by
  unfold m_head
  rw [hd_eq h hQ hC 8 (Nat.le_refl _)]
  exact eqv_fr (M := mA M 38 (hdX M P B 8).2) (h.mE (mE.A (by decide)) rfl) rfl
end EQVU
