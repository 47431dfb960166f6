-- THE TWO SIDES: copy, feed, wipe, rings, cross, said
section EQVC
variable {Q : aQ} {M K : aM} {P B : Nat}
theorem eqv_feed {v : Int32} (h : Rl Q M K) : Eqv (m_feed Q v) (m2_feed M v) M K := by
  have hz2 := h.2.2.2.2.2.1.2.2.2
  obtain ⟨hf, hz⟩ := h.2.2.2.1
  unfold m_feed m2_feed
  split
  · by_cases q : 250 ≤ Q.2.2.2.2.2.1
    · rw [if_pos (decide_eq_true q), if_pos (by rw [hz, show Q.2.2.2.2.2.1 = 250 by omega]; rfl)]
      exact eqv_6 h
    · rw [if_neg (by rw [decide_eq_false q]; decide), if_neg (fun e => by
        rw [hz] at e
        have := (nI_eq (a := Q.2.2.2.2.2.1) (b := 250) (by omega) (by decide)).mp e
        omega)]
      refine ⟨by rw [hz, nI_1], ?_, rfl⟩
      refine h.tp (fun j hj => mA_ne hj) (fun k hk => if_neg hk) rfl ?_ ?_ (by omega)
      · refine mA_eq.trans ?_
        rw [hf, hz, nI_clamp (by omega)]
      · show M.1 8 + 1 = nI (Q.2.2.2.2.2.1 + 1)
        rw [hz, nI_1]
  · exact eqv_2 h
theorem eqv_wipe (h : Rl Q M K) : Eqv (m_wipe Q) (m2_wipe M) M K := by
  obtain ⟨hf, hz⟩ := h.2.2.2.1
  refine ⟨hz.symm, ?_, rfl⟩
  exact h.tp (fun j hj => rfl) (fun k hk => if_neg hk) rfl hf rfl (Nat.zero_le _)
theorem span_eq {i m : Int32} {z : Nat} (hz : z ≤ 40) : spanB i m (nI z) = true ↔ ¬ (m < 0 ∨ i < 0 ∨ nI z < m ∨ nI z - m < i) := by
  unfold spanB
  simp only [Bool.and_eq_true, decide_eq_true_eq]
  have hi := Int32.toInt_lt i
  have hm := Int32.toInt_lt m
  constructor
  · rintro ⟨⟨h1, h2⟩, h3⟩
    rw [Int32.lt_iff_toInt_lt, Int32.toInt_sub, toInt_nI (by omega)] at h3
    rw [Int32.lt_iff_toInt_lt, show (0 : Int32).toInt = 0 from rfl] at h1 h2
    rw [Int.bmod_eq_of_le (by omega) (by omega)] at h3
    rintro (q | q | q | q)
    · rw [Int32.lt_iff_toInt_lt, show (0 : Int32).toInt = 0 from rfl] at q
      omega
    · rw [Int32.lt_iff_toInt_lt, show (0 : Int32).toInt = 0 from rfl] at q
      omega
    · rw [Int32.lt_iff_toInt_lt, toInt_nI (by omega)] at q
      omega
    · rw [Int32.lt_iff_toInt_lt, Int32.toInt_sub, toInt_nI (by omega), Int.bmod_eq_of_le (by omega) (by omega)] at q
      omega
  · intro h
    have h1 : ¬ m < 0 := fun q => h (Or.inl q)
    have h2 : ¬ i < 0 := fun q => h (Or.inr (Or.inl q))
    have h3 : ¬ nI z - m < i := fun q => h (Or.inr (Or.inr (Or.inr q)))
    refine ⟨⟨h2, h1⟩, fun q => h3 ?_⟩
    rw [Int32.lt_iff_toInt_lt, show (0 : Int32).toInt = 0 from rfl] at h1 h2
    rw [Int32.lt_iff_toInt_lt, Int32.toInt_sub, toInt_nI (by omega), Int.bmod_eq_of_le (by omega) (by omega)] at q ⊢
    omega
theorem copyR_M {p q i j m : Int32} (h : SR Q.2.2.2.1 M) : copyR Q.2.2.2.1 p q i j m = if (lt0 p 8 && lt0 q 8) = true then -nI (cpR M p q i j m) else -2 := by
  unfold copyR
  by_cases a : lt0 p 8 = true
  · by_cases b : lt0 q 8 = true
    · rw [a, b, if_neg (by decide), if_pos (show (true && true) = true from rfl)]
      obtain ⟨p, hp, rfl⟩ := lt0_of (N := 8) (by decide) a
      obtain ⟨q, hq, rfl⟩ := lt0_of (N := 8) (by decide) b
      unfold cpR
      rw [nI_clamp (by omega), nI_clamp (by omega)]
      have rw1 : ∀ s, s < 8 → (M.2.1 1 s = 0 → isRule Q.2.2.2.1 (nI s) = false ∧ isRow Q.2.2.2.1 (nI s) = false) ∧ (M.2.1 1 s = 1 → isRule Q.2.2.2.1 (nI s) = false ∧ isRow Q.2.2.2.1 (nI s) = true) ∧ (M.2.1 1 s = 2 → isRule Q.2.2.2.1 (nI s) = true ∧ isRow Q.2.2.2.1 (nI s) = false) ∧ (M.2.1 1 s = 0 ∨ M.2.1 1 s = 1 ∨ M.2.1 1 s = 2) := by
        intro s hs
        unfold isRule isRow
        rw [heldI_in hs]
        rcases (h s hs).2.2 with ⟨e1, e2⟩ | ⟨e1, e2, -⟩ | ⟨e1, kd, a, k1, k6, ha, -, e2, -⟩
        · rw [e1, e2]
          exact ⟨fun _ => ⟨rfl, rfl⟩, fun z => absurd z (by decide), fun z => absurd z (by decide), Or.inl rfl⟩
        · obtain ⟨c, hc, ec⟩ := (h s hs).1
          rw [e1, e2, ec]
          refine ⟨fun z => absurd z (by decide), fun _ => ?_, fun z => absurd z (by decide), Or.inr (Or.inl rfl)⟩
          rcases (show c = 0 ∨ c = 1 ∨ c = 2 ∨ c = 3 ∨ c = 4 by omega) with rfl | rfl | rfl | rfl | rfl <;> exact ⟨rfl, rfl⟩
        · rw [e1, e2]
          refine ⟨fun z => absurd z (by decide), fun z => absurd z (by decide), fun _ => ?_, Or.inr (Or.inr rfl)⟩
          rcases (show kd = 1 ∨ kd = 2 ∨ kd = 3 ∨ kd = 4 ∨ kd = 5 ∨ kd = 6 by omega) with rfl | rfl | rfl | rfl | rfl | rfl <;> exact ⟨rfl, rfl⟩
      obtain ⟨p0, p1, p2, pc⟩ := rw1 p hp
      obtain ⟨q0, q1, q2, qc⟩ := rw1 q hq
      rcases pc with e | e | e
      · obtain ⟨a1, a2⟩ := p0 e
        rw [a1, a2, e]
        rcases qc with g | g | g
        · obtain ⟨b1, b2⟩ := q0 g
          rw [b1, b2, g]
          rfl
        · obtain ⟨b1, b2⟩ := q1 g
          rw [b1, b2, g]
          rfl
        · obtain ⟨b1, b2⟩ := q2 g
          rw [b1, b2, g]
          rfl
      · obtain ⟨a1, a2⟩ := p1 e
        rw [a1, a2, e]
        rcases qc with g | g | g
        · obtain ⟨b1, b2⟩ := q0 g
          rw [b1, b2, g]
          rfl
        · obtain ⟨b1, b2⟩ := q1 g
          rw [b1, b2, g, if_neg (by decide), if_pos (show (true && true) = true from rfl)]
          obtain ⟨⟨c, hc, ec⟩, ⟨za, hza, eza⟩, h3⟩ := h p hp
          obtain ⟨⟨d, hd, ed⟩, ⟨zb, hzb, ezb⟩, k3⟩ := h q hq
          have ep : heldI Q.2.2.2.1 (nI p) = M.2.1 2 p := by
            rw [heldI_in hp]
            exact ((h3.resolve_left (fun z => by rw [z.1] at e; exact absurd e (by decide))).resolve_right (fun z => by rw [z.1] at e; exact absurd e (by decide))).2.1
          have eq : heldI Q.2.2.2.1 (nI q) = M.2.1 2 q := by
            rw [heldI_in hq]
            exact ((k3.resolve_left (fun z => by rw [z.1] at g; exact absurd g (by decide))).resolve_right (fun z => by rw [z.1] at g; exact absurd g (by decide))).2.1
          rw [ep, eq, (size_M h hp).1 e, (size_M h hq).1 g]
          by_cases es : M.2.1 2 p = M.2.1 2 q
          · rw [if_pos es, if_neg (show ¬ ((1 : Int32) = 2 ∨ (1 : Int32) = 2 ∨ (1 : Int32) = 1 ∧ (1 : Int32) = 1 ∧ ¬ M.2.1 2 p = M.2.1 2 q) from fun z => z.elim (fun z => absurd z (by decide)) (fun z => z.elim (fun z => absurd z (by decide)) (fun z => z.2.2 es))), if_neg (show ¬ ((1 : Int32) = 0 ∨ (1 : Int32) = 0) by decide)]
            rw [eza, ezb]
            have s1 := span_eq (i := i) (m := m) hza
            have s2 := span_eq (i := j) (m := m) hzb
            by_cases f1 : spanB i m (nI za) = true
            · by_cases f2 : spanB j m (nI zb) = true
              · rw [f1, f2, if_pos (show (true && true) = true from rfl), if_neg]
                · rfl
                · have g1 := s1.mp f1
                  have g2 := s2.mp f2
                  rintro (z | z | z | z | z | z | z)
                  · exact g1 (Or.inl z)
                  · exact g1 (Or.inr (Or.inl z))
                  · exact g2 (Or.inr (Or.inl z))
                  · exact g1 (Or.inr (Or.inr (Or.inl z)))
                  · exact g2 (Or.inr (Or.inr (Or.inl z)))
                  · exact g1 (Or.inr (Or.inr (Or.inr z)))
                  · exact g2 (Or.inr (Or.inr (Or.inr z)))
              · have g2 := Classical.byContradiction (fun z => f2 (s2.mpr z))
                rw [Bool.not_eq_true] at f2
                rw [f1, f2, if_neg (by decide), if_pos]
                · rfl
                · rcases g2 with z | z | z | z
                  · exact Or.inl z
                  · exact Or.inr (Or.inr (Or.inl z))
                  · exact Or.inr (Or.inr (Or.inr (Or.inr (Or.inl z))))
                  · exact Or.inr (Or.inr (Or.inr (Or.inr (Or.inr (Or.inr z)))))
            · have g1 := Classical.byContradiction (fun z => f1 (s1.mpr z))
              rw [Bool.not_eq_true] at f1
              rw [f1, Bool.false_and, if_neg (by decide), if_pos]
              · rfl
              · rcases g1 with z | z | z | z
                · exact Or.inl z
                · exact Or.inr (Or.inl z)
                · exact Or.inr (Or.inr (Or.inr (Or.inl z)))
                · exact Or.inr (Or.inr (Or.inr (Or.inr (Or.inr (Or.inl z)))))
          · rw [if_neg es, if_pos (show ((1 : Int32) = 2 ∨ (1 : Int32) = 2 ∨ (1 : Int32) = 1 ∧ (1 : Int32) = 1 ∧ ¬ M.2.1 2 p = M.2.1 2 q) from Or.inr (Or.inr ⟨rfl, rfl, es⟩))]
            rfl
        · obtain ⟨b1, b2⟩ := q2 g
          rw [b1, b2, g]
          rfl
      · obtain ⟨a1, a2⟩ := p2 e
        rw [a1, a2, e]
        rfl
    · rw [Bool.not_eq_true] at b
      rw [b, if_neg (show ¬ (lt0 p 8 && false) = true by rw [Bool.and_false]; decide), if_pos (by rw [Bool.not_false, Bool.or_true])]
  · rw [Bool.not_eq_true] at a
    rw [a]
    rfl
/-- what a move leaves -/
theorem mvF_at {X : aH} {p q i j m : Nat} (hp : p < 8) (hq : q < 8) {a : Nat} (ha : sizeI X (nI p) = nI a) (ha4 : a ≤ 40) (hia : i + m ≤ a) (hjm : j + m ≤ 40) (hc : ∀ x, x < a → lowb (X.1 q) (X.2.2.2 (40 * p + x)) = X.2.2.2 (40 * p + x)) : ∀ k, k ≤ m → ∀ x, (mvF X p q i j m k).2.2.2 x = if (∃ t, t < k ∧ x = 40 * q + (j + stp i j m t)) then X.2.2.2 (40 * p + (i + (x - (40 * q + j)))) else X.2.2.2 x := by
  intro k
  induction k with
  | zero =>
    intro _ x
    rw [if_neg (fun ⟨t, ht, _⟩ => absurd ht (by omega))]
    rfl
  | succ k ih =>
    intro hk x
    have ih := ih (by omega)
    obtain ⟨t1, t2, t3⟩ := mvF_keep (X := X) (p := p) (q := q) (i := i) (j := j) (m := m) k
    have hs : ∀ t, t < m → stp i j m t < m := fun t ht => by unfold stp; split <;> omega
    have hinj : ∀ t u, t < m → u < m → stp i j m t = stp i j m u → t = u := fun t u ht hu => by unfold stp; split <;> omega
    have hsk := hs k (by omega)
    have hel : elemI (mvF X p q i j m k) p (nI (i + stp i j m k)) = X.2.2.2 (40 * p + (i + stp i j m k)) := by
      unfold elemI
      rw [(sizeI_keep (s := nI p) t1 t2).trans ha, if_pos (lt0_in (by omega) (by omega)), nI_clamp (by omega), ih]
      split
      · rename_i hx
        obtain ⟨t, ht, e⟩ := hx
        exfalso
        have := hs t (by omega)
        have hpq : p = q := by omega
        subst hpq
        have f1 : stp i j m k = if i < j then m - 1 - k else k := rfl
        have f2 : stp i j m t = if i < j then m - 1 - t else t := rfl
        by_cases q5 : i < j
        · rw [if_pos q5] at f1 f2
          omega
        · rw [if_neg q5] at f1 f2
          omega
      · rfl
    show vp_updL (mvF X p q i j m k).2.2.2 (40 * q + (j + stp i j m k)) (lowb ((mvF X p q i j m k).1 q) (elemI (mvF X p q i j m k) p (nI (i + stp i j m k)))) x = _
    rw [hel, t1, hc _ (by omega)]
    unfold vp_updL
    by_cases e : x = 40 * q + (j + stp i j m k)
    · rw [if_pos e, if_pos ⟨k, by omega, e⟩, e]
      exact congrArg X.2.2.2 (by omega)
    · rw [if_neg e, ih]
      by_cases e2 : ∃ t, t < k ∧ x = 40 * q + (j + stp i j m t)
      · rw [if_pos e2, if_pos (by obtain ⟨t, ht, e3⟩ := e2; exact ⟨t, by omega, e3⟩)]
      · rw [if_neg e2, if_neg (fun ⟨t, ht, e3⟩ => e2 ⟨t, Nat.lt_of_le_of_ne (by omega) (fun z => e (by rw [← z]; exact e3)), e3⟩)]
theorem eqv_copy {p q i j m : Int32} (h : Rl Q M K) : Eqv (m_copy Q p q i j m) (m2_copy M p q i j m) M K := by
  have hok := ok_copy (p := p) (q := q) (i := i) (j := j) (m := m) h.2.2.2.2.2.1
  have hS := h.2.2.1
  unfold m_copy m2_copy at *
  rw [copyR_M hS] at hok ⊢
  by_cases ab : (lt0 p 8 && lt0 q 8) = true
  · rw [if_pos ab] at hok ⊢
    rw [if_pos ab]
    rw [Bool.and_eq_true] at ab
    have hR : cpR M p q i j m < 5 := by
      unfold cpR
      repeat' split
      all_goals omega
    have hge : ¬ cpR M p q i j m = 0 → 2 ≤ cpR M p q i j m := by
      unfold cpR
      repeat' split
      all_goals omega
    by_cases e : cpR M p q i j m = 0
    · rw [if_pos (by rw [e]; rfl)] at hok ⊢
      rw [if_pos e]
      obtain ⟨p, hp, rfl⟩ := lt0_of (N := 8) (by decide) ab.1
      obtain ⟨q, hq, rfl⟩ := lt0_of (N := 8) (by decide) ab.2
      have e9 := e
      unfold cpR at e
      rw [nI_clamp (by omega), nI_clamp (by omega)] at *
      split at e
      · omega
      rename_i c1
      split at e
      · omega
      rename_i c2
      split at e
      · omega
      rename_i c3
      obtain ⟨⟨c, hc, ec⟩, ⟨za, hza, eza⟩, h3⟩ := hS p hp
      obtain ⟨⟨d, hd, ed⟩, ⟨zb, hzb, ezb⟩, k3⟩ := hS q hq
      obtain ⟨e1, e2, e3, e4⟩ := (h3.resolve_left (fun z => c2 (Or.inl z.1))).resolve_right (fun z => c1 (Or.inl z.1))
      obtain ⟨g1, g2, g3, g4⟩ := (k3.resolve_left (fun z => c2 (Or.inr z.1))).resolve_right (fun z => c1 (Or.inr (Or.inl z.1)))
      have es : M.2.1 2 p = M.2.1 2 q := Classical.byContradiction (fun z => c1 (Or.inr (Or.inr ⟨e1, g1, z⟩)))
      have s1 := (span_eq (i := i) (m := m) hza).mpr (by
        rw [eza, ezb] at c3
        rintro (z | z | z | z)
        · exact c3 (Or.inl z)
        · exact c3 (Or.inr (Or.inl z))
        · exact c3 (Or.inr (Or.inr (Or.inr (Or.inl z))))
        · exact c3 (Or.inr (Or.inr (Or.inr (Or.inr (Or.inr (Or.inl z)))))))
      have s2 := (span_eq (i := j) (m := m) hzb).mpr (by
        rw [eza, ezb] at c3
        rintro (z | z | z | z)
        · exact c3 (Or.inl z)
        · exact c3 (Or.inr (Or.inr (Or.inl z)))
        · exact c3 (Or.inr (Or.inr (Or.inr (Or.inr (Or.inl z)))))
        · exact c3 (Or.inr (Or.inr (Or.inr (Or.inr (Or.inr (Or.inr z)))))))
      obtain ⟨i, m', rfl, em, him⟩ := span_of hza s1
      obtain ⟨j, m2, rfl, em2, hjm⟩ := span_of hzb s2
      have hmm : m' = m2 := by
        have hb := em.symm.trans em2
        have h5 : (nI m').toNatClampNeg = (nI m2).toNatClampNeg := by rw [hb]
        rwa [nI_clamp (by omega), nI_clamp (by omega)] at h5
      subst hmm
      subst em
      rw [nI_clamp (by omega), nI_clamp (by omega), nI_clamp (by omega)] at *
      have ha : sizeI (sh Q) (nI p) = nI za := ((size_M hS hp).1 e1).trans eza
      have hmv := mvF_at (X := sh Q) (i := i) (j := j) (m := m') hp hq ha hza him (by omega) (fun x hx => by
        obtain ⟨w1, w2⟩ := e4 x (by rw [eza, nI_clamp (by omega)]; exact hx)
        rw [w1, show (sh Q).1 q = M.2.1 2 q from g2, ← es]
        exact w2) m' (Nat.le_refl _)
      obtain ⟨x1, x2, x3⟩ := mvF_keep (X := sh Q) (p := p) (q := q) (i := i) (j := j) (m := m') m'
      refine eqv_s h rfl (fun s hs => ?_) (fun j hj => rfl) rfl rfl hok
      obtain ⟨a1, a2, a3⟩ := hS s hs
      refine ⟨a1, a2, ?_⟩
      rcases a3 with ⟨b1, b2⟩ | ⟨b1, b2, b3, b4⟩ | ⟨b1, kd, a, d1, d2, d3, d4, d5, d6, d7⟩
      · exact Or.inl ⟨b1, by rw [x1]; exact b2⟩
      · refine Or.inr (Or.inl ⟨b1, by rw [x1]; exact b2, by rw [x2]; exact b3, fun k hk => ?_⟩)
        obtain ⟨zs, hzs, ezs⟩ := a2
        have hk : k < (M.2.1 3 s).toNatClampNeg := hk
        have b4 := b4 k hk
        rw [ezs, nI_clamp (by omega)] at hk
        have hM : (cpM M p q i j m').2.2.1 (5 + s) k = if s = q ∧ j ≤ k ∧ k < j + m' then M.2.2.1 (5 + p) (i + (k - j)) else M.2.2.1 (5 + s) k := by
          unfold cpM
          by_cases e : s = q
          · subst e
            rw [mL_eq]
            unfold cpL
            by_cases e5 : j ≤ k ∧ k < j + m'
            · rw [if_pos e5, if_pos ⟨rfl, e5⟩]
              unfold mvL
              rw [if_pos (by omega)]
            · rw [if_neg e5, if_neg (fun z => e5 z.2)]
          · rw [mL_ne (by omega), if_neg (fun z => e z.1)]
            exact congrFun (mL_ne (M := M) (i := 5 + s) (j := 13) (by omega)) k
        have e2M : (cpM M p q i j m').2.1 2 s = M.2.1 2 s := rfl
        rw [hM, e2M, hmv]
        have hiff : (∃ t, t < m' ∧ 40 * s + k = 40 * q + (j + stp i j m' t)) ↔ (s = q ∧ j ≤ k ∧ k < j + m') := by
          constructor
          · rintro ⟨t, ht, e⟩
            have : stp i j m' t < m' := by unfold stp; split <;> omega
            omega
          · rintro ⟨rfl, h1, h2⟩
            by_cases q5 : i < j
            · exact ⟨m' - 1 - (k - j), by omega, by unfold stp; rw [if_pos q5]; omega⟩
            · exact ⟨k - j, by omega, by unfold stp; rw [if_neg q5]; omega⟩
        by_cases e5 : s = q ∧ j ≤ k ∧ k < j + m'
        · rw [if_pos (hiff.mpr e5), if_pos e5]
          obtain ⟨rfl, l1, l2⟩ := e5
          obtain ⟨w1, w2⟩ := e4 (i + (k - j)) (by rw [eza, nI_clamp (by omega)]; omega)
          rw [← es]
          exact ⟨(congrArg (sh Q).2.2.2 (by omega)).trans w1, w2⟩
        · rw [if_neg (fun z => e5 (hiff.mp z)), if_neg e5]
          exact b4
      · exact Or.inr (Or.inr ⟨b1, kd, a, d1, d2, d3, d4, by rw [x1]; exact d5, d6, by rw [x3]; exact d7⟩)
    · rw [if_neg (fun z => e ((nI_n0 (by omega)).mp z)), if_neg e]
      exact eqv_r h (hge e) (by omega)
  · rw [if_neg ab, if_neg (show ¬ (-2 : Int32) = 0 by decide), if_neg ab]
    exact eqv_2 h
end EQVC
