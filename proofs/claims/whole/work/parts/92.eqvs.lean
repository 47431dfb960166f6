-- THE TWO SIDES: bargain, bars, the tape, shelves
theorem hs_bt {x : Int32} {k : Nat} (hk : k < 32) : hsB x (nI k) = bt x k := by
  unfold hsB
  have e := b_sshr k hk x (i := 0) (by decide)
  rw [if_pos (by omega), Nat.add_zero] at e
  rw [and1, e]
  cases bt x k <;> rfl
theorem wbit_bt {x z : Int32} {p i : Nat} (hp : p < 32) (hi : i < 32) : bt (wbit x (nI p) z) i = if z = 0 then (bt x i && !decide (i = p)) else (bt x i || decide (i = p)) := by
  unfold wbit
  have e : (1 : Int32) <<< (nI p &&& 31) = b1 p := rfl
  rw [e]
  split
  · rw [b_and, not_bt hi, b1_bt hp hi]
  · rw [b_or, b1_bt hp hi]
theorem rowR_M {X : aH} {M : aM} {s : Int32} (h : SR X M) : rowR X s = -nI (norow M s 2) := by
  unfold rowR norow
  by_cases q : lt0 s 8 = true
  · obtain ⟨s, hs, rfl⟩ := lt0_of (N := 8) (by decide) q
    rw [if_pos q, if_pos q, nI_clamp (by omega)]
    unfold isRule isRow
    rw [heldI_in hs]
    rcases (h s hs).2.2 with ⟨e1, e2⟩ | ⟨e1, e2, -⟩ | ⟨e1, kd, a, k1, k6, ha, -, e2, -⟩
    · rw [e1, e2]
      rfl
    · obtain ⟨c, hc, ec⟩ := (h s hs).1
      rw [e1, e2, ec]
      rcases (show c = 0 ∨ c = 1 ∨ c = 2 ∨ c = 3 ∨ c = 4 by omega) with rfl | rfl | rfl | rfl | rfl <;> rfl
    · rw [e1, e2]
      rcases (show kd = 1 ∨ kd = 2 ∨ kd = 3 ∨ kd = 4 ∨ kd = 5 ∨ kd = 6 by omega) with rfl | rfl | rfl | rfl | rfl | rfl <;> rfl
  · rw [if_neg q, if_neg q]
    rfl
theorem ruleR_M {X : aH} {M : aM} {s : Int32} (h : SR X M) : ruleR X s = -nI (norow M s 1) := by
  unfold ruleR norow
  by_cases q : lt0 s 8 = true
  · obtain ⟨s, hs, rfl⟩ := lt0_of (N := 8) (by decide) q
    rw [if_pos q, if_pos q, nI_clamp (by omega)]
    unfold isRule isRow
    rw [heldI_in hs]
    rcases (h s hs).2.2 with ⟨e1, e2⟩ | ⟨e1, e2, -⟩ | ⟨e1, kd, a, k1, k6, ha, -, e2, -⟩
    · rw [e1, e2]
      rfl
    · obtain ⟨c, hc, ec⟩ := (h s hs).1
      rw [e1, e2, ec]
      rcases (show c = 0 ∨ c = 1 ∨ c = 2 ∨ c = 3 ∨ c = 4 by omega) with rfl | rfl | rfl | rfl | rfl <;> rfl
    · rw [e1, e2]
      rcases (show kd = 1 ∨ kd = 2 ∨ kd = 3 ∨ kd = 4 ∨ kd = 5 ∨ kd = 6 by omega) with rfl | rfl | rfl | rfl | rfl | rfl <;> rfl
  · rw [if_neg q, if_neg q]
    rfl
theorem size_M {X : aH} {M : aM} {s : Nat} (h : SR X M) (hs : s < 8) : (M.2.1 1 s = 1 → sizeI X (nI s) = M.2.1 3 s) ∧ (¬ M.2.1 1 s = 1 → sizeI X (nI s) = 0) := by
  unfold sizeI isRow
  rw [heldI_in hs]
  rcases (h s hs).2.2 with ⟨e1, e2⟩ | ⟨e1, e2, e3, -⟩ | ⟨e1, kd, a, k1, k6, ha, -, e2, -⟩
  · rw [e1, e2]
    exact ⟨fun q => absurd q (by decide), fun _ => rfl⟩
  · obtain ⟨c, hc, ec⟩ := (h s hs).1
    rw [e1, e2, ec, if_pos (show lt0 (nI c) 5 = true from lt0_in (N := 5) hc (by decide)), atI_in hs (by decide), e3]
    exact ⟨fun _ => rfl, fun q => absurd rfl q⟩
  · rw [e1, e2]
    refine ⟨fun q => absurd q (by decide), fun _ => ?_⟩
    rcases (show kd = 1 ∨ kd = 2 ∨ kd = 3 ∨ kd = 4 ∨ kd = 5 ∨ kd = 6 by omega) with rfl | rfl | rfl | rfl | rfl | rfl <;> rfl
section EQVS
variable {Q : aQ} {M K : aM} {P B : Nat}
theorem VOk.deal {S : aS} {P B p q g k : Nat} (h : VOk S) (hP : S.1 0 = nI P) (hP7 : P ≤ 7) (hB : S.1 1 = nI B) (hB6 : B < 7) (hg : g ≤ 99) (hk : k ≤ 99) : VOk (addB S B (nI p) (nI q) (nI g) (nI k)) := by
  obtain ⟨⟨P', B', hP', hP7', hB', hB7', hz⟩, h2, h3, h4, h5, h6, h7, h8⟩ := h
  have e1 : P' = P := (nI_eq (by omega) (by omega)).mp (hP'.symm.trans hP)
  have e2 : B' = B := (nI_eq (by omega) (by omega)).mp (hB'.symm.trans hB)
  subst e1
  subst e2
  refine ⟨⟨P', B' + 1, hP, hP7, ?_, by omega, hz.deal⟩, fun b hb => ?_, h3, h4, h5, h6, h7, h8⟩
  · show S.1 1 + 1 = nI (B' + 1)
    rw [hB, nI_1]
  · obtain ⟨⟨g1, a1, a2⟩, g2, b1, b2⟩ := h2 b hb
    show (∃ g9, g9 ≤ 99 ∧ upd (S.2 4) B' (nI g) b = nI g9) ∧ ∃ g9, g9 ≤ 99 ∧ upd (S.2 5) B' (nI k) b = nI g9
    unfold upd
    by_cases e : b = B'
    · rw [if_pos e, if_pos e]
      exact ⟨⟨g, hg, rfl⟩, k, hk, rfl⟩
    · rw [if_neg e, if_neg e]
      exact ⟨⟨g1, a1, a2⟩, g2, b1, b2⟩
theorem wi099_of {v : Int32} (h : wi0 v 0 99 = true) : ∃ g, g ≤ 99 ∧ v = nI g := by
  obtain ⟨g, hg, e⟩ := wi0_of (N := 99) (by decide) h
  exact ⟨g, hg, e⟩
theorem eqv_bargain {p q g k : Int32} (h : Rl Q M K) (hC : Cnt Q M P B) : Eqv (m_bargain Q p q g k) (m2_bargain M B p q g k) M K := by
  have hok := ok_bargain (p := p) (q := q) (g := g) (k := k) h.2.2.2.2.2.1
  have hz := h.zb hC
  obtain ⟨hP7, hB7, hP, hB, hPM, hBM, hI, eP, eB⟩ := hC
  unfold m_bargain m2_bargain at *
  rw [hP, hB] at hok ⊢
  rw [hPM]
  by_cases c : (lt0 p (nI P) && lt0 q (nI P) && !decide (p = q) && wi0 g 0 99 && wi0 k 0 99) = true
  · rw [if_pos c] at hok ⊢
    rw [if_pos (show (lt0 p (nI P) && (lt0 q (nI P) && (!decide (p = q) && (wi0 g 0 99 && wi0 k 0 99)))) = true from by simp only [Bool.and_assoc] at c; exact c)]
    simp only [Bool.and_eq_true] at c
    obtain ⟨p, hp, rfl⟩ := lt0_of (by omega) c.1.1.1.1
    obtain ⟨q, hq, rfl⟩ := lt0_of (by omega) c.1.1.1.2
    obtain ⟨g, hg, rfl⟩ := wi099_of c.1.2
    obtain ⟨k, hk, rfl⟩ := wi099_of c.2
    by_cases e : B = 7
    · rw [if_pos e, if_neg (show ¬ nI B < 7 by rw [e]; decide)]
      exact eqv_6 h
    · have e2 : nI B < 7 := nI_lt (b := 7) (by omega) (by decide)
      rw [if_pos e2] at hok ⊢
      rw [if_neg e]
      rw [nI_clamp (by omega)] at hok ⊢
      refine eqv_t h rfl (h.1.deal hz hB (by omega)) (fun j hj => (mA_ne (by omega)).trans (mA_ne (by omega))) rfl rfl hok (h.2.2.2.2.2.2.deal hP hP7 hB (by omega) hg hk)
  · rw [if_neg c, if_neg (fun z => c (by simp only [Bool.and_assoc]; exact z))]
    exact eqv_2 h
theorem VOk.bar {S : aS} {P B b c : Nat} {z : Int32} (h : VOk S) (hP : S.1 0 = nI P) (hP7 : P ≤ 7) (hB : S.1 1 = nI B) (hB7 : B ≤ 7) (hb : b < B) (hc : c < B) (hne : ¬ b = c) : VOk (putB S b c z) := by
  obtain ⟨⟨P', B', hP', hP7', hB', hB7', hz⟩, h2, h3, h4, h5, h6, h7, h8⟩ := h
  have e2 : B' = B := (nI_eq (by omega) (by omega)).mp (hB'.symm.trans hB)
  subst e2
  refine ⟨⟨P', B', hP', hP7', hB', hB7', hz.bar hb hc⟩, h2, h3, h4, h5, h6, h7, ?_⟩
  have ev : ∀ i j, i < 7 → j < 7 → bt ((putB S b c z).2 6 i) j = if (i = b ∧ j = c) ∨ (i = c ∧ j = b) then !decide (z = 0) else bt (S.2 6 i) j := by
    intro i j hi hj
    have hS : (putB S b c z).2 6 i = if i = c then wbit (S.2 6 c) (nI b) z else if i = b then wbit (S.2 6 b) (nI c) z else S.2 6 i := by
      show upd (upd (S.2 6) b (wbit (S.2 6 b) (nI c) z)) c (wbit (upd (S.2 6) b (wbit (S.2 6 b) (nI c) z) c) (nI b) z) i = _
      unfold upd
      rw [if_neg (fun q : c = b => hne q.symm)]
    rw [hS]
    by_cases e1 : i = c
    · rw [if_pos e1, wbit_bt (by omega) (by omega), e1]
      by_cases e3 : j = b
      · rw [if_pos (Or.inr ⟨rfl, e3⟩), decide_eq_true e3]
        by_cases ez : z = 0
        · rw [if_pos ez, decide_eq_true ez, Bool.not_true, Bool.and_false]
        · rw [if_neg ez, decide_eq_false ez, Bool.or_true]
          rfl
      · rw [if_neg (show ¬ ((c = b ∧ j = c) ∨ (c = c ∧ j = b)) by omega), decide_eq_false e3, Bool.not_false, Bool.and_true, Bool.or_false]
        split <;> rfl
    · rw [if_neg e1]
      by_cases e4 : i = b
      · rw [if_pos e4, wbit_bt (by omega) (by omega), e4]
        by_cases e3 : j = c
        · rw [if_pos (Or.inl ⟨rfl, e3⟩), decide_eq_true e3]
          by_cases ez : z = 0
          · rw [if_pos ez, decide_eq_true ez, Bool.not_true, Bool.and_false]
          · rw [if_neg ez, decide_eq_false ez, Bool.or_true]
            rfl
        · rw [if_neg (show ¬ ((b = b ∧ j = c) ∨ (b = c ∧ j = b)) by omega), decide_eq_false e3, Bool.not_false, Bool.and_true, Bool.or_false]
          split <;> rfl
      · rw [if_neg e4, if_neg (by omega)]
  intro i j hi hj
  rw [ev i j hi hj, ev j i hj hi, ev i i hi hi, if_neg (show ¬ ((i = b ∧ i = c) ∨ (i = c ∧ i = b)) by omega)]
  refine ⟨?_, (h8 i i hi hi).2⟩
  by_cases e : (i = b ∧ j = c) ∨ (i = c ∧ j = b)
  · rw [if_pos e, if_pos (by omega)]
  · rw [if_neg e, if_neg (by omega)]
    exact (h8 i j hi hj).1
theorem eqv_bars {b c z : Int32} (h : Rl Q M K) (hC : Cnt Q M P B) (hz : z = 0 ∨ z = 1) : Eqv (m_bars Q b c z) (m2_bars M b c z) M K := by
  have hok := ok_bars (b := b) (c := c) (v := z) h.2.2.2.2.2.1
  obtain ⟨hP7, hB7, hP, hB, hPM, hBM, hI, eP, eB⟩ := hC
  unfold m_bars m2_bars at *
  rw [hB] at hok ⊢
  rw [hBM]
  by_cases q : (lt0 b (nI B) && lt0 c (nI B) && !decide (b = c)) = true
  · rw [if_pos q] at hok ⊢
    rw [if_pos (show (lt0 b (nI B) && (lt0 c (nI B) && !decide (b = c))) = true from by rw [Bool.and_assoc] at q; exact q)]
    simp only [Bool.and_eq_true] at q
    obtain ⟨b, hb, rfl⟩ := lt0_of (by omega) q.1.1
    obtain ⟨c, hc, rfl⟩ := lt0_of (by omega) q.1.2
    have hne : ¬ b = c := fun e => by
      have q2 := q.2
      rw [e, decide_eq_true rfl] at q2
      exact absurd q2 (by decide)
    rw [nI_clamp (by omega), nI_clamp (by omega)] at hok ⊢
    have e6 : ∀ i, i < 7 → Q.1.2 6 i = M.2.1 (21 + i) 4 := fun i hi => h.1.2.2.2.2.2.1 4 i (by decide) hi
    have hlo : ∀ j, j < 18 → (brM M b c z).2.1 j = M.2.1 j := fun j hj => (mA_ne (by omega)).trans (mA_ne (by omega))
    have hTb := h.1.bar (is := z) (show b < 7 by omega) (show c < 7 by omega) hne
    rw [hb_bt (by omega)] at hok ⊢
    rw [hs_bt (by omega), ← e6 b (by omega)]
    by_cases e : bI (bt (Q.1.2 6 b) c) = z
    · rw [if_pos e, if_pos e]
      refine ⟨rfl, ?_, rfl⟩
      -- nothing changed
      have hsy := h.2.2.2.2.2.2.2.2.2.2.2.2.2 b c (by omega) (by omega)
      have hT2 : TQ Q.1 (brM M b c z) := by
        obtain ⟨h1, h2, h3, h4, h7, h8, h9⟩ := hTb
        refine ⟨h1, h2, h3, h4, h7, fun j i hj hi => ?_, h9⟩
        rw [← h8 j i hj hi]
        show Q.1.2 (2 + j) i = (if 2 + j = 6 then upd (upd (Q.1.2 6) b (wbit (Q.1.2 6 b) (nI c) z)) c (wbit (upd (Q.1.2 6) b (wbit (Q.1.2 6 b) (nI c) z) c) (nI b) z) else Q.1.2 (2 + j)) i
        by_cases ej : 2 + j = 6
        · rw [if_pos ej, ej]
          unfold upd
          rw [if_neg (fun q : c = b => hne q.symm)]
          have wid : ∀ x : Int32, ∀ p, p < 32 → bI (bt x p) = z → wbit x (nI p) z = x := by
            intro x p hp hx
            refine b_ext (fun k hk => ?_)
            rw [wbit_bt hp hk]
            by_cases ek : k = p
            · subst ek
              rw [← hx]
              cases bt x k <;> simp [bI]
            · rw [decide_eq_false ek, Bool.not_false, Bool.and_true, Bool.or_false]
              split <;> rfl
          by_cases e1 : i = c
          · rw [if_pos e1, wid _ b (by omega) (by rw [← hsy.1]; exact e), e1]
          · rw [if_neg e1]
            by_cases e2 : i = b
            · rw [if_pos e2, wid _ c (by omega) e, e2]
            · rw [if_neg e2]
        · rw [if_neg ej]
      obtain ⟨-, hk, hs, ⟨ht, hzz⟩, hr, hq, hv⟩ := h
      exact ⟨hT2, hk, fun s hs8 => (hs s hs8).of (fun j hj => by rw [hlo j (by omega)]) rfl, ⟨(hlo 16 (by omega)).trans ht, hzz⟩, fun k hk => by rw [hlo 17 (by omega)]; exact hr k hk, hq, hv⟩
    · rw [if_neg e] at hok ⊢
      rw [if_neg e]
      exact eqv_t h rfl hTb hlo rfl rfl hok (h.2.2.2.2.2.2.bar hP hP7 hB hB7 hb hc hne)
  · rw [if_neg q, if_neg (fun y => q (by rw [Bool.and_assoc]; exact y))]
    exact eqv_2 h
/-- shelves move on, all else stays -/
theorem Rl.sh {X : aH} {N : aM} (h : Rl Q M K) (hS : SR X N) (h1 : ∀ j, 16 ≤ j → N.2.1 j = M.2.1 j) (h0 : N.1 = M.1) (h2 : N.2.2.2 = M.2.2.2) (hq : QOk (qS Q X)) : Rl (qS Q X) N K := by
  obtain ⟨⟨t1, t2, t3, t4, t7, t8, t9⟩, hk, hs, ⟨ht, hz⟩, hr, -, hv⟩ := h
  refine ⟨⟨by rw [h0]; exact t1, by rw [h0]; exact t2, fun k hk => by rw [h1 36 (by omega)]; exact t3 k hk, by rw [h0]; exact t4, fun t ht => by rw [h1 18 (by omega), h1 19 (by omega)]; exact t7 t ht, fun j b hj hb => by rw [h1 (21 + b) (by omega)]; exact t8 j b hj hb, fun b t hb ht => by rw [h1 (29 + b) (by omega)]; exact t9 b t hb ht⟩, ?_, hS, ⟨(h1 16 (by omega)).trans ht, by rw [h0]; exact hz⟩, fun k hk => by rw [h1 17 (by omega)]; exact hr k hk, hq, hv⟩
  unfold KR at hk ⊢
  rw [h2]
  exact hk
theorem eqv_s {v v2 : Int32} {X : aH} {N : aM} (h : Rl Q M K) (e : v = v2) (hS : SR X N) (h1 : ∀ j, 16 ≤ j → N.2.1 j = M.2.1 j) (h0 : N.1 = M.1) (h2 : N.2.2.2 = M.2.2.2) (hq : QOk (qS Q X)) : Eqv (v, qS Q X) (v2, N) M K := ⟨e, h.sh hS h1 h0 h2 hq, h2⟩
theorem eqv_row {s c m : Int32} (h : Rl Q M K) : Eqv (m_row Q s c m) (m2_row M s c m) M K := by
  have hok := ok_row (s := s) (c := c) (m := m) h.2.2.2.2.2.1
  unfold m_row m2_row at *
  by_cases q : (lt0 s 8 && lt0 c 5 && wi0 m 0 40) = true
  · rw [if_pos q] at hok ⊢
    rw [if_pos (by rw [Bool.and_assoc] at q; exact q)]
    simp only [Bool.and_eq_true] at q
    obtain ⟨s, hs, rfl⟩ := lt0_of (N := 8) (by decide) q.1.1
    obtain ⟨c, hc, rfl⟩ := lt0_of (N := 5) (by decide) q.1.2
    obtain ⟨m, hm, rfl⟩ := wi0_of (N := 40) (by decide) q.2
    rw [nI_clamp (by omega), nI_clamp (by omega), nI_clamp (by omega)] at hok ⊢
    refine eqv_s h rfl (fun s' hs' => ?_) (fun j hj => (mA_ne (by omega)).trans ((mA_ne (by omega)).trans (mA_ne (by omega)))) rfl rfl hok
    have hold := h.2.2.1 s' hs'
    by_cases e : s' = s
    · subst e
      refine ⟨⟨c, hc, ?_⟩, ⟨m, hm, ?_⟩, Or.inr (Or.inl ⟨?_, ?_, ?_, fun i hi => ?_⟩)⟩
      · exact upd_at
      · exact upd_at
      · exact upd_at
      · exact (upd_at (f := (sh Q).1) (k := s') (x := nI c)).trans (upd_at (f := M.2.1 2) (k := s') (x := nI c)).symm
      · exact (upd_at (f := (sh Q).2.1) (k := s') (x := nI m)).trans (upd_at (f := M.2.1 3) (k := s') (x := nI m)).symm
      · have hi : i < (upd (M.2.1 3) s' (nI m) s').toNatClampNeg := hi
        rw [upd_at, nI_clamp (by omega)] at hi
        have e0 : (mL (rwM M s' (nI c) (nI m)) (5 + s') (zrL (M.2.2.1 (5 + s')) 40)).2.2.1 (5 + s') i = 0 := by
          rw [mL_eq]
          unfold zrL
          rw [if_pos (by omega)]
        have ec : (mL (rwM M s' (nI c) (nI m)) (5 + s') (zrL (M.2.2.1 (5 + s')) 40)).2.1 2 s' = nI c := upd_at
        rw [e0, ec]
        refine ⟨?_, low0 c hc⟩
        show (if 40 * s' ≤ 40 * s' + i ∧ 40 * s' + i < 40 * s' + m then 0 else _) = (0 : Int64)
        rw [if_pos (by omega)]
    · have e1 : (rwM M s (nI c) (nI m)).2.1 1 s' = M.2.1 1 s' := if_neg e
      have e2 : (rwM M s (nI c) (nI m)).2.1 2 s' = M.2.1 2 s' := if_neg e
      have e3 : (rwM M s (nI c) (nI m)).2.1 3 s' = M.2.1 3 s' := if_neg e
      have el : (mL (rwM M s (nI c) (nI m)) (5 + s) (zrL (M.2.2.1 (5 + s)) 40)).2.2.1 (5 + s') = M.2.2.1 (5 + s') := mL_ne (by omega)
      have x1 : (rowX (sh Q) s c m m).1 s' = (sh Q).1 s' := if_neg e
      have x2 : (rowX (sh Q) s c m m).2.1 s' = (sh Q).2.1 s' := if_neg e
      obtain ⟨a1, a2, a3⟩ := hold
      refine ⟨?_, ?_, ?_⟩
      · obtain ⟨c', hc', ec⟩ := a1
        exact ⟨c', hc', e2.trans ec⟩
      · obtain ⟨m', hm', em⟩ := a2
        exact ⟨m', hm', e3.trans em⟩
      · rcases a3 with ⟨b1, b2⟩ | ⟨b1, b2, b3, b4⟩ | ⟨b1, b2⟩
        · exact Or.inl ⟨e1.trans b1, x1.trans b2⟩
        · refine Or.inr (Or.inl ⟨e1.trans b1, x1.trans (b2.trans e2.symm), x2.trans (b3.trans e3.symm), fun i hi => ?_⟩)
          have hi : i < ((rwM M s (nI c) (nI m)).2.1 3 s').toNatClampNeg := hi
          rw [e3] at hi
          obtain ⟨b41, b42⟩ := b4 i hi
          have e2' : (mL (rwM M s (nI c) (nI m)) (5 + s) (zrL (M.2.2.1 (5 + s)) 40)).2.1 2 s' = M.2.1 2 s' := e2
          rw [el, e2', b42]
          refine ⟨?_, rfl⟩
          obtain ⟨m', hm', em⟩ := a2
          rw [em, nI_clamp (by omega)] at hi
          rw [← b41]
          show (if 40 * s ≤ 40 * s' + i ∧ 40 * s' + i < 40 * s + m then 0 else _) = _
          rw [if_neg (by omega)]
        · refine Or.inr (Or.inr ⟨e1.trans b1, ?_⟩)
          obtain ⟨kd, a, k1, k6, ha, c1, c2, c3, c4⟩ := b2
          exact ⟨kd, a, k1, k6, ha, c1, x1.trans c2, c3, c4⟩
  · rw [if_neg q, if_neg (fun y => q (by rw [Bool.and_assoc]; exact y))]
    exact eqv_2 h
theorem eqv_rule {s k a : Int32} (h : Rl Q M K) : Eqv (m_rule Q s k a) (m2_rule M s k a) M K := by
  have hok := ok_rule (s := s) (k := k) (a := a) h.2.2.2.2.2.1
  unfold m_rule m2_rule at *
  by_cases q : (lt0 s 8 && wi0 k 1 6 && wi0 a 0 99) = true
  · rw [if_pos q] at hok ⊢
    rw [if_pos (by rw [Bool.and_assoc] at q; exact q)]
    simp only [Bool.and_eq_true] at q
    obtain ⟨s, hs, rfl⟩ := lt0_of (N := 8) (by decide) q.1.1
    obtain ⟨a, ha, rfl⟩ := wi099_of q.2
    obtain ⟨kd, k1, k6, rfl⟩ : ∃ kd, 1 ≤ kd ∧ kd ≤ 6 ∧ k = nI kd := by
      have q2 := of_decide_eq_true q.1.2
      rw [Int32.lt_iff_toInt_lt, Int32.lt_iff_toInt_lt, show (1 : Int32).toInt = 1 from rfl, show (6 : Int32).toInt = 6 from rfl] at q2
      exact ⟨k.toInt.toNat, by omega, by omega, Int32.toInt_inj.mp (by rw [toInt_nI (by omega)]; omega)⟩
    rw [nI_clamp (by omega)] at hok ⊢
    refine eqv_s h rfl (fun s' hs' => ?_) (fun j hj => (mA_ne (by omega)).trans ((mA_ne (by omega)).trans (mA_ne (by omega)))) rfl rfl hok
    obtain ⟨a1, a2, a3⟩ := h.2.2.1 s' hs'
    refine ⟨a1, a2, ?_⟩
    by_cases e : s' = s
    · subst e
      refine Or.inr (Or.inr ⟨upd_at, kd, a, k1, k6, ha, upd_at, ?_, upd_at, upd_at⟩)
      exact (upd_at (f := (sh Q).1) (k := s') (x := 10 + nI kd)).trans (by rw [show (10 : Int32) = nI 10 from rfl, nI_add])
    · have e1 : (mA (mA (mA M 1 (upd (M.2.1 1) s 2)) 14 (upd (M.2.1 14) s (nI kd))) 15 (upd (M.2.1 15) s (nI a))).2.1 1 s' = M.2.1 1 s' := if_neg e
      have e2 : (mA (mA (mA M 1 (upd (M.2.1 1) s 2)) 14 (upd (M.2.1 14) s (nI kd))) 15 (upd (M.2.1 15) s (nI a))).2.1 14 s' = M.2.1 14 s' := if_neg e
      have e3 : (mA (mA (mA M 1 (upd (M.2.1 1) s 2)) 14 (upd (M.2.1 14) s (nI kd))) 15 (upd (M.2.1 15) s (nI a))).2.1 15 s' = M.2.1 15 s' := if_neg e
      have x1 : upd (sh Q).1 s (10 + nI kd) s' = (sh Q).1 s' := if_neg e
      have x2 : upd (sh Q).2.2.1 s (nI a) s' = (sh Q).2.2.1 s' := if_neg e
      rcases a3 with ⟨b1, b2⟩ | ⟨b1, b2, b3, b4⟩ | ⟨b1, kd', a', c1, c2, c3, c4, c5, c6, c7⟩
      · exact Or.inl ⟨e1.trans b1, x1.trans b2⟩
      · exact Or.inr (Or.inl ⟨e1.trans b1, x1.trans b2, b3, b4⟩)
      · exact Or.inr (Or.inr ⟨e1.trans b1, kd', a', c1, c2, c3, e2.trans c4, x1.trans c5, e3.trans c6, x2.trans c7⟩)
  · rw [if_neg q, if_neg (fun y => q (by rw [Bool.and_assoc]; exact y))]
    exact eqv_2 h
end EQVS
