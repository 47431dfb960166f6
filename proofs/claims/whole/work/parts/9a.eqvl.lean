-- THE TWO SIDES: by rule, as told
theorem tkV_in {P : Nat} {v : Int64} (hP : P ≤ 7) (q : inL v 0 (nI P - 1).toInt64 = true) : ∃ t, t < P ∧ v.toInt32 = nI t := by
  unfold inL at q
  simp only [Bool.and_eq_true, decide_eq_true_eq, Int64.le_iff_toInt_le, Int32.toInt_toInt64] at q
  have e : (nI P - 1).toInt = (P : Int) - 1 := by
    rw [Int32.toInt_sub, toInt_nI (by omega)]
    exact Int.bmod_eq_of_le (by show -((2 ^ 32 : Nat) / 2 : Int) ≤ (P : Int) - 1; omega) (by show (P : Int) - 1 < _; omega)
  rw [e] at q
  have q1 : (0 : Int) ≤ v.toInt := q.1
  refine ⟨v.toInt.toNat, by omega, Int32.toInt_inj.mp ?_⟩
  rw [toInt_nI (by omega), Int64.toInt_toInt32]
  rw [Int.bmod_eq_of_le (by show -((2 ^ 32 : Nat) / 2 : Int) ≤ _; omega) (by show _ < _; omega)]
  omega
theorem tkV_iff {P : Nat} {v : Int64} (hP : P ≤ 7) : (0 ≤ v ∧ v < (nI P).toInt64) ↔ inL v 0 (nI P - 1).toInt64 = true := by
  have e : (nI P - 1).toInt = (P : Int) - 1 := by
    rw [Int32.toInt_sub, toInt_nI (by omega)]
    exact Int.bmod_eq_of_le (by show -((2 ^ 32 : Nat) / 2 : Int) ≤ (P : Int) - 1; omega) (by show (P : Int) - 1 < _; omega)
  unfold inL
  simp only [Bool.and_eq_true, decide_eq_true_eq, Int64.le_iff_toInt_le, Int64.lt_iff_toInt_lt, Int32.toInt_toInt64]
  rw [e, toInt_nI (by omega)]
  omega
section EQVL
variable {Q : aQ} {M K : aM} {P B : Nat}
theorem wr_by {N : aM} {kd a : Nat} {X : aK} {f : Nat → Int32} (hv : VOk (tM M)) (hE : mE N M) (hP7 : P ≤ 7) (k1 : 1 ≤ kd) (k6 : kd ≤ 6) (ha : a ≤ 99) : ∀ b, b ≤ 7 → Wr P (fbr (tM M) P kd (nI a) X b) (wbM N P kd a f b) b
  | 0, _ => Wr.z
  | b + 1, hb => by
    have ih := wr_by (X := X) (f := f) hv hE hP7 k1 k6 ha b (by omega)
    have e1 : fbr (tM M) P kd (nI a) X (b + 1) = if barN (tM M) (fbr (tM M) P kd (nI a) X b) b then fbr (tM M) P kd (nI a) X b else takeW (fbr (tM M) P kd (nI a) X b) b (thirdN (tM M) P kd (nI a) b (mayB (tM M) b P (fbr (tM M) P kd (nI a) X b).2.1)) := rfl
    have e2 : wbM N P kd a f (b + 1) = tkW (wbM N P kd a f b) b (if N.2.1 (21 + b) 4 &&& (wbM N P kd a f b).1 = 0 then namM N P kd a b (wbM N P kd a f b).2.1 else -1) := rfl
    rw [e1, e2]
    generalize fbr (tM M) P kd (nI a) X b = F at *
    generalize wbM N P kd a f b = W at *
    have e3 : N.2.1 (21 + b) 4 = (tM M).2 6 b := congrFun (hE.2 (21 + b) (by omega)) 4
    rw [e3, ← ih.1, hE.nam (by omega) hP7, ← ih.2.1]
    unfold barN
    by_cases q : (tM M).2 6 b &&& F.1 = 0
    · rw [decide_eq_true q, if_pos q, if_neg (show ¬ (!true) = true by decide), third_eq hv hP7 (by omega) k1 k6 ha]
      refine ih.take hP7 (by omega) ?_
      rcases nam_cases (M := M) (b := b) (P := P) (kd := kd) (a := a) (x := F.2.1) hP7 k1 k6 with z | ⟨i, hi, -, z⟩
      · exact Or.inl z
      · exact Or.inr ⟨i, hi, z⟩
    · rw [decide_eq_false q, if_neg q, if_pos (show (!false) = true from rfl)]
      have := ih.take hP7 (b := b) (c := -1) (by omega) (Or.inl rfl)
      rwa [show takeW F b (-1) = F from if_pos rfl] at this
theorem wr_told {row row2 : Nat → Int64} {X : aK} (hv : VOk (tM M)) (hP7 : P ≤ 7) (hB7 : B ≤ 7) (hr : ∀ b, b < B → row b = row2 b) : ∀ m b Y, b + m = B → (ftold (tM M) P row X b).2 = -1 → Wr P (ftold (tM M) P row X b).1 Y b → (ftold (tM M) P row X B).2 = (twF M P row2 m b Y).1 ∧ ((twF M P row2 m b Y).1 = -1 → ∃ Y', Wr P (ftold (tM M) P row X B).1 Y' B ∧ Y'.2.2 = (twF M P row2 m b Y).2)
  | 0, b, Y, hb, h2, hW => by
    have hb : b = B := by omega
    subst hb
    exact ⟨h2, fun _ => ⟨Y, hW, rfl⟩⟩
  | m + 1, b, Y, hb, h2, hW => by
    have e1 : ftold (tM M) P row X (b + 1) = if (ftold (tM M) P row X b).2 = -1 then (if 0 ≤ row b ∧ row b < (nI P).toInt64 then (if barN (tM M) (ftold (tM M) P row X b).1 b || !hbI (mayB (tM M) b P (ftold (tM M) P row X b).1.2.1) (row b).toInt32 then ((ftold (tM M) P row X b).1, nI b) else (takeW (ftold (tM M) P row X b).1 b (row b).toInt32, -1)) else ftold (tM M) P row X b) else ftold (tM M) P row X b := rfl
    have e2 : twF M P row2 (m + 1) b Y = if tkV P (row2 b) = -1 then twF M P row2 m (b + 1) (tkW Y b (-1)) else if mayM M b (tkV P (row2 b)).toNatClampNeg Y.2.1 = true ∧ M.2.1 (21 + b) 4 &&& Y.1 = 0 then twF M P row2 m (b + 1) (tkW Y b (tkV P (row2 b))) else (nI b, upd Y.2.2 b (tkV P (row2 b))) := rfl
    have stop := ftold_stop (S := tM M) (P := P) (row := row) (X := X) (b := b + 1)
    have ih := fun Y' => wr_told (X := X) hv hP7 hB7 hr m (b + 1) Y' (by omega)
    rw [if_pos h2] at e1
    rw [e2, ← hr b (by omega)]
    generalize hF : ftold (tM M) P row X b = F at *
    unfold tkV
    by_cases q : inL (row b) 0 (nI P - 1).toInt64 = true
    · obtain ⟨t, ht, et⟩ := tkV_in hP7 q
      rw [if_pos ((tkV_iff hP7).mpr q), et, may_M hv hP7 ht] at e1
      rw [if_pos q, et, if_neg (nI_nem1 (by omega)), nI_clamp (by omega), ← hW.1, ← hW.2.1]
      have e3 : (tM M).2 6 b = M.2.1 (21 + b) 4 := rfl
      unfold barN at e1
      rw [e3] at e1
      by_cases z : mayM M b t F.1.2.1 = true ∧ M.2.1 (21 + b) 4 &&& F.1.1 = 0
      · rw [if_pos z]
        rw [z.1, decide_eq_true z.2, if_neg (show ¬ (!true || !true) = true by decide)] at e1
        have := ih (tkW Y b (nI t))
        rw [e1] at this
        exact this rfl (hW.take hP7 (by omega) (Or.inr ⟨t, ht, rfl⟩))
      · rw [if_neg z]
        have zz : (!decide (M.2.1 (21 + b) 4 &&& F.1.1 = 0) || !mayM M b t F.1.2.1) = true := by
          rw [Bool.or_eq_true, Bool.not_eq_true', Bool.not_eq_true', decide_eq_false_iff_not]
          by_cases y : M.2.1 (21 + b) 4 &&& F.1.1 = 0
          · exact Or.inr (Bool.not_eq_true _ ▸ fun x => z ⟨x, y⟩)
          · exact Or.inl y
        rw [if_pos zz] at e1
        rw [e1] at stop
        have hs := stop (nI_nem1 (k := b) (by omega)) m
        rw [show b + 1 + m = B by omega] at hs
        rw [hs]
        exact ⟨rfl, fun y => absurd y (nI_nem1 (by omega))⟩
    · rw [if_neg (fun y => q ((tkV_iff hP7).mp y))] at e1
      rw [if_neg q, if_pos rfl]
      have := ih (tkW Y b (-1))
      rw [e1] at this
      have hW2 := hW.take hP7 (b := b) (c := -1) (by omega) (Or.inl rfl)
      rw [show takeW F.1 b (-1) = F.1 from if_pos rfl] at hW2
      exact this h2 hW2
theorem tldR_M {s : Int32} (h : Rl Q M K) : tldR Q s = -nI (nowk M s) := by
  have hS := h.2.2.1
  unfold tldR nowk
  rw [rowR_M hS]
  have hlt := norow_lt (M := M) (s := s) (c := 2)
  have hz := nI_n0 (r := norow M s 2) (by omega)
  by_cases q : norow M s 2 = 0
  · rw [if_pos (hz.mpr q), if_pos q]
    unfold norow at q
    by_cases q1 : lt0 s 8 = true
    · rw [if_pos q1] at q
      obtain ⟨s, hs, rfl⟩ := lt0_of (N := 8) (by decide) q1
      rw [nI_clamp (by omega)] at q ⊢
      have e1 : M.2.1 1 s = 1 := by
        rcases (hS s hs).2.2 with ⟨e1, -⟩ | ⟨e1, -⟩ | ⟨e1, -⟩
        · rw [e1] at q
          exact absurd q (by decide)
        · exact e1
        · rw [e1] at q
          exact absurd q (by decide)
      rw [(size_M hS hs).1 e1, h.1.2.1]
      split <;> rfl
    · rw [if_neg q1] at q
      exact absurd q (by decide)
  · rw [if_neg (fun z => q (hz.mp z)), if_neg q]
theorem row_at {s : Int32} {b : Nat} (h : Rl Q M K) (hn : nowk M s = 0) (hC : Cnt Q M P B) (hb : b < B) : ∃ s', s' < 8 ∧ s = nI s' ∧ elemI (sh Q) s.toNatClampNeg (nI b) = M.2.2.1 (5 + s') b := by
  have hS := h.2.2.1
  obtain ⟨q, q2⟩ := nowk_0 hn
  unfold norow at q
  by_cases q1 : lt0 s 8 = true
  · rw [if_pos q1] at q
    obtain ⟨s, hs, rfl⟩ := lt0_of (N := 8) (by decide) q1
    rw [nI_clamp (by omega)] at q q2 ⊢
    refine ⟨s, hs, rfl, ?_⟩
    have e1 : M.2.1 1 s = 1 := by
      rcases (hS s hs).2.2 with ⟨e1, -⟩ | ⟨e1, -⟩ | ⟨e1, -⟩
      · rw [e1] at q
        exact absurd q (by decide)
      · exact e1
      · rw [e1] at q
        exact absurd q (by decide)
    obtain ⟨⟨c, hc, ec⟩, ⟨m, hm, em⟩, h3⟩ := hS s hs
    obtain ⟨-, -, -, e4⟩ := (h3.resolve_left (fun q => by rw [q.1] at e1; exact absurd e1 (by decide))).resolve_right (fun q => by rw [q.1] at e1; exact absurd e1 (by decide))
    have hbm : b < m := by
      have hB7 := hC.2.1
      rw [em, hC.2.2.2.2.2.1] at q2
      exact Nat.lt_of_not_le (fun z => q2 (nI_lt (by omega) (by omega)))
    unfold elemI
    rw [(size_M hS hs).1 e1, em, lt0_in hbm (by omega), if_pos rfl, nI_clamp (by omega)]
    exact (e4 b (by rw [em, nI_clamp (by omega)]; exact hbm)).1
  · rw [if_neg q1] at q
    exact absurd q (by decide)
theorem told_wr {s : Int32} (h : Rl Q M K) (hQ : Q.1 = tM M) (hC : Cnt Q M P B) (hn : nowk M s = 0) : (tldW Q s).2 = (tlR M P B s.toNatClampNeg).1 ∧ ((tlR M P B s.toNatClampNeg).1 = -1 → ∃ Y, Wr P (tldW Q s).1 Y B ∧ Y.2.2 = (tlR M P B s.toNatClampNeg).2) := by
  have hv : VOk Q.1 := h.2.2.2.2.2.2
  have hrow := fun b hb => row_at (b := b) h hn hC hb
  obtain ⟨hP7, hB7, hP, hB, hPM, hBM, hI, eP, eB⟩ := hC
  unfold tldW tlR
  rw [hQ] at hv ⊢
  rw [eP, eB]
  refine wr_told hv hP7 hB7 (fun b hb => ?_) B 0 _ (Nat.zero_add B) rfl Wr.z
  obtain ⟨s', hs', rfl, e⟩ := hrow b hb
  rw [nI_clamp (by omega)] at e ⊢
  exact e
theorem nowk_i {s : Int32} (h : ¬ nowk M s = 0) : 2 ≤ nowk M s ∧ nowk M s ≤ 6 := by
  have h1 := nowk_lt (M := M) (s := s)
  have h2 := norow_ge (M := M) (s := s) (c := 2)
  refine ⟨?_, by omega⟩
  unfold nowk at h ⊢
  by_cases q : norow M s 2 = 0
  · rw [if_pos q] at h ⊢
    by_cases q2 : M.2.1 3 s.toNatClampNeg < M.1 13
    · rw [if_pos q2]
      decide
    · rw [if_neg q2] at h
      exact absurd rfl h
  · rw [if_neg q]
    exact h2 q
theorem eqv_judge {s : Int32} (h : Rl Q M K) (hQ : Q.1 = tM M) (hC : Cnt Q M P B) : Eqv (m_judge Q s) (m2_judge M P B s) M K := by
  unfold m_judge m2_judge
  rw [tldR_M h]
  have hlt := nowk_lt (M := M) (s := s)
  by_cases q : nowk M s = 0
  · rw [if_pos ((nI_n0 (by omega)).mpr q), if_pos q]
    exact ⟨(told_wr h hQ hC q).1, h.mE (mE.A (by omega)) rfl, rfl⟩
  · rw [if_neg (fun z => q ((nI_n0 (by omega)).mp z)), if_neg q]
    exact eqv_r h (nowk_i q).1 (nowk_i q).2
theorem eqv_told {s q : Int32} (h : Rl Q M K) (hQ : Q.1 = tM M) (hC : Cnt Q M P B) : Eqv (m_told Q s q) (m2_told M P B s q) M K := by
  have hw := told_wr (s := s) h hQ hC
  obtain ⟨hP7, hB7, hP, hB, hPM, hBM, hI, eP, eB⟩ := hC
  unfold m_told m2_told r_told
  by_cases qq : lt0 q 3 = true
  · rw [if_pos qq, if_pos qq, tldR_M h]
    have hlt := nowk_lt (M := M) (s := s)
    have hz := nI_n0 (r := nowk M s) (by omega)
    unfold fin_told
    by_cases z : nowk M s = 0
    · obtain ⟨w1, w2⟩ := hw z
      rw [if_pos (hz.mpr z), if_pos z, w1]
      by_cases y : (tlR M P B s.toNatClampNeg).1 = -1
      · rw [if_pos y, if_pos y, if_pos rfl]
        obtain ⟨Y, hY, eY⟩ := w2 y
        refine ⟨?_, h.mE (mE.A (by omega)) rfl, rfl⟩
        rw [hQ, eB]
        exact tell_eq (N := tlM M P B s.toNatClampNeg) hY (mA_eq.trans eY.symm) hB7 hP7 (fun b t hb ht => (mE.A (M := M) (j := 38) (f := (tlR M P B s.toNatClampNeg).2) (by decide)).val hb ht)
      · rw [if_neg y, if_neg y, if_neg (show ¬ (-5 : Int32) = 0 by decide)]
        exact eqv_b5 (M := tlM M P B s.toNatClampNeg) (h.mE (mE.A (by omega)) rfl)
    · rw [if_neg (fun y => z (hz.mp y)), if_neg z, if_neg (fun y => z (hz.mp y))]
      exact eqv_b h (nowk_i z).1 (nowk_i z).2
  · rw [if_neg qq, if_neg qq]
    exact eqv_b2 h
theorem Cnt.i {Q : aQ} {M : aM} (hC : Cnt Q M P B) (hQ : Q.1 = tM M) : ∀ b, b < B → ∃ p q, p < P ∧ q < P ∧ (tM M).2 2 b = nI p ∧ (tM M).2 3 b = nI q := by
  exact hC.2.2.2.2.2.2.1
theorem eqv_makes {s : Int32} (h : Rl Q M K) (hQ : Q.1 = tM M) (hC : Cnt Q M P B) : Eqv (m_makes Q s) (m2_makes M P B s) M K := by
  have hok := ok_makes (s := s) h.2.2.2.2.2.1
  have hv : VOk Q.1 := h.2.2.2.2.2.2
  have hw := told_wr (s := s) h hQ hC
  have hi := hC.i hQ
  have hT := h.1
  obtain ⟨hP7, hB7, hP, hB, hPM, hBM, hI, eP, eB⟩ := hC
  unfold m_makes m2_makes at *
  rw [tldR_M h] at hok ⊢
  have hlt := nowk_lt (M := M) (s := s)
  have hz := nI_n0 (r := nowk M s) (by omega)
  unfold fin_told at hok ⊢
  by_cases z : nowk M s = 0
  · obtain ⟨w1, w2⟩ := hw z
    rw [if_pos (hz.mpr z), w1] at hok ⊢
    rw [if_pos z]
    by_cases y : (tlR M P B s.toNatClampNeg).1 = -1
    · rw [if_pos y, if_pos rfl] at hok ⊢
      rw [if_pos y]
      obtain ⟨Y, hY, eY⟩ := w2 y
      rw [eB, hQ] at hok ⊢
      rw [hQ] at hv hT hP
      exact eqv_comes (N := tlM M P B s.toNatClampNeg) h (hT.mE (mE.A (by decide))) (fun j hj => mA_ne (by omega)) rfl rfl hv (mA_eq.trans eY.symm) hY hi hP hP7 hB7 hok
    · rw [if_neg y, if_neg y, if_neg (show ¬ (-5 : Int32) = 0 by decide)]
      exact eqv_5 (M := tlM M P B s.toNatClampNeg) (h.mE (mE.A (by omega)) rfl)
  · rw [if_neg (fun y => z (hz.mp y)), if_neg (fun y => z (hz.mp y)), if_neg z]
    exact eqv_r h (nowk_i z).1 (nowk_i z).2
end EQVL
