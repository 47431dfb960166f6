-- THE TWO SIDES: harm, worst
theorem bit_one : ∀ s, s < 128 → ¬ (1 : Int32) < bitF (nI s) 8 → s = 0 ∨ ∃ b, b < 7 ∧ s = 2 ^ b := by decide +kernel
theorem bit_two : ∀ b, b < 7 → ¬ (1 : Int32) < bitF (nI (2 ^ b)) 8 := by decide +kernel
theorem hmI_v {M : aM} {t s : Nat} {c : Bool} (hs : s < 128) : ∀ m, m ≤ 7 → (hmI M t s c m).2 = sumS (fun b => M.2.1 (29 + b) t) s m
  | 0, _ => rfl
  | m + 1, hm => by
    have e : (hmI M t s c (m + 1)).2 = if hsB (nI s) (nI m) = true then (hmI M t s c m).2 + M.2.1 (29 + m) t else (hmI M t s c m).2 := rfl
    rw [e, hmI_v hs m (by omega), hs_test s hs m (by omega)]
    rfl
theorem hmI_c {M : aM} {t s : Nat} {c : Bool} (hs : s < 128) : ∀ m, m ≤ 7 → ((hmI M t s c m).1 = true ↔ c = true ∧ ∀ b, b < m → s.testBit b = true → gd (tM M) b t = true)
  | 0, _ => ⟨fun h => ⟨h, fun b hb => absurd hb (by omega)⟩, fun h => h.1⟩
  | m + 1, hm => by
    have e : (hmI M t s c (m + 1)).1 = ((hmI M t s c m).1 && (!hsB (nI s) (nI m) || gd (tM M) m t)) := rfl
    rw [e, Bool.and_eq_true, hmI_c hs m (by omega), hs_test s hs m (by omega), Bool.or_eq_true, Bool.not_eq_true']
    constructor
    · intro ⟨⟨h1, h2⟩, h3⟩
      refine ⟨h1, fun b hb ht => ?_⟩
      rcases Nat.lt_or_ge b m with z | z
      · exact h2 b z ht
      · have e : b = m := by omega
        subst e
        rcases h3 with h3 | h3
        · rw [h3] at ht
          exact absurd ht (by decide)
        · exact h3
    · intro ⟨h1, h2⟩
      refine ⟨⟨h1, fun b hb ht => h2 b (by omega) ht⟩, ?_⟩
      cases z : s.testBit m
      · exact Or.inl rfl
      · exact Or.inr (h2 m (by omega) z)
theorem sum_congr {W V : Nat → Int32} {s : Nat} : ∀ m, (∀ b, b < m → s.testBit b = true → W b = V b) → sumS W s m = sumS V s m
  | 0, _ => rfl
  | m + 1, h => by
    show (if s.testBit m then sumS W s m + W m else sumS W s m) = if s.testBit m then sumS V s m + V m else sumS V s m
    rw [sum_congr m (fun b hb => h b (by omega))]
    cases z : s.testBit m
    · rw [if_neg (by decide), if_neg (by decide)]
    · rw [if_pos rfl, if_pos rfl, h m (by omega) z]
theorem sum_sub {W : Nat → Int32} {s r : Nat} (h : ∀ b, r.testBit b = true → s.testBit b = true) (h0 : ∀ b, s.testBit b = true → r.testBit b = false → W b = 0) : ∀ m, sumS W r m = sumS W s m
  | 0 => rfl
  | m + 1 => by
    show (if r.testBit m then sumS W r m + W m else sumS W r m) = if s.testBit m then sumS W s m + W m else sumS W s m
    rw [sum_sub h h0 m]
    cases z : r.testBit m
    · rw [if_neg (by decide)]
      cases y : s.testBit m
      · rw [if_neg (by decide)]
      · rw [if_pos rfl, h0 m y z, Int32.add_zero]
    · rw [if_pos rfl, h m z, if_pos rfl]
theorem ap_sub {S : aS} {s r : Nat} (hs : s < 128) (hr : r < 128) (h : ∀ b, r.testBit b = true → s.testBit b = true) (hA : apS S s = true) : apS S r = true := by
  have lt : ∀ x, x < 128 → ∀ b, hiB x b < 128 := fun x hx b => by
    unfold hiB
    rw [Nat.shiftRight_eq_div_pow, Nat.shiftLeft_eq]
    exact Nat.lt_of_le_of_lt (Nat.div_mul_le_self _ _) hx
  rw [apS_iff] at hA ⊢
  intro b hb hrb
  have h1 := hA b hb (h b hrb)
  rw [and0_iff (lt s hs b)] at h1
  rw [and0_iff (lt r hr b)]
  intro i hi hi2
  refine h1 i hi ?_
  rw [hi_test, Bool.and_eq_true] at hi2 ⊢
  exact ⟨hi2.1, h i hi2.2⟩
theorem tb_mask {g : Nat → Bool} : ∀ B, B ≤ 7 → ∃ k, k < 2 ^ B ∧ ∀ b, k.testBit b = (decide (b < B) && g b)
  | 0, _ => ⟨0, by decide, fun b => by rw [Nat.zero_testBit, decide_eq_false (by omega)]; rfl⟩
  | B + 1, hB => by
    obtain ⟨k, hk, hb⟩ := tb_mask (g := g) B (by omega)
    cases z : g B
    · refine ⟨k, by rw [Nat.pow_succ]; omega, fun b => ?_⟩
      rw [hb b]
      rcases Nat.lt_trichotomy b B with y | y | y
      · rw [decide_eq_true y, decide_eq_true (show b < B + 1 by omega)]
      · rw [y, z, Bool.and_false, Bool.and_false]
      · rw [decide_eq_false (show ¬ b < B by omega), decide_eq_false (show ¬ b < B + 1 by omega)]
    · refine ⟨2 ^ B + k, by rw [Nat.pow_succ]; omega, fun b => ?_⟩
      rcases Nat.lt_trichotomy b B with y | y | y
      · rw [Nat.testBit_two_pow_add_gt y, hb b, decide_eq_true y, decide_eq_true (show b < B + 1 by omega)]
      · rw [y, Nat.testBit_two_pow_add_eq, hb B, decide_eq_false (Nat.lt_irrefl B), decide_eq_true (Nat.lt_succ_self B), z]
        rfl
      · rw [decide_eq_false (show ¬ b < B + 1 by omega), Bool.false_and]
        refine Nat.testBit_lt_two_pow (Nat.lt_of_lt_of_le (m := 2 ^ (B + 1)) (by rw [Nat.pow_succ]; omega) (Nat.pow_le_pow_right (by decide) (by omega)))
section EQVH
variable {Q : aQ} {M K : aM} {P B : Nat}
theorem most_max {S : aS} {t : Nat} : ∀ B, 0 ≤ mostF S t B ∧ (∀ b, b < B → lossH S t b ≤ mostF S t B) ∧ (mostF S t B = 0 ∨ ∃ b, b < B ∧ mostF S t B = lossH S t b)
  | 0 => ⟨Int32.le_refl _, fun b hb => absurd hb (by omega), Or.inl rfl⟩
  | B + 1 => by
    obtain ⟨h1, h2, h3⟩ := most_max (S := S) (t := t) B
    have e : mostF S t (B + 1) = if mostF S t B < lossH S t B then lossH S t B else mostF S t B := rfl
    rw [e]
    by_cases q : mostF S t B < lossH S t B
    · rw [if_pos q]
      refine ⟨Int32.le_trans h1 (Int32.le_of_lt q), fun b hb => ?_, Or.inr ⟨B, by omega, rfl⟩⟩
      rcases Nat.lt_or_ge b B with z | z
      · exact Int32.le_trans (h2 b z) (Int32.le_of_lt q)
      · rw [show b = B by omega]
        exact Int32.le_refl _
    · rw [if_neg q]
      refine ⟨h1, fun b hb => ?_, ?_⟩
      · rcases Nat.lt_or_ge b B with z | z
        · exact h2 b z
        · rw [show b = B by omega]
          exact Int32.not_lt.mp q
      · rcases h3 with h3 | ⟨b, hb, h3⟩
        · exact Or.inl h3
        · exact Or.inr ⟨b, by omega, h3⟩
theorem sum_pow {W : Nat → Int32} {b : Nat} : ∀ m, sumS W (2 ^ b) m = if b < m then W b else 0
  | 0 => by rw [if_neg (by omega)]; rfl
  | m + 1 => by
    show (if (2 ^ b).testBit m then sumS W (2 ^ b) m + W m else sumS W (2 ^ b) m) = _
    rw [sum_pow m, Nat.testBit_two_pow]
    by_cases z : b = m
    · rw [z, decide_eq_true rfl, if_pos rfl, if_neg (by omega), if_pos (by omega), Int32.zero_add]
    · rw [decide_eq_false z, if_neg (by decide)]
      by_cases y : b < m
      · rw [if_pos y, if_pos (by omega)]
      · rw [if_neg y, if_neg (by omega)]
theorem sum_nil {W : Nat → Int32} : ∀ m, sumS W 0 m = 0
  | 0 => rfl
  | m + 1 => by
    show (if (0 : Nat).testBit m then sumS W 0 m + W m else sumS W 0 m) = _
    rw [Nat.zero_testBit, if_neg (by decide), sum_nil m]
theorem harm_eq {t : Nat} (hv : VOk (tM M)) (hT : TQ (tM M) M) (ht : t < 7) (hB7 : B ≤ 7) : hmO M t B = harmV (tM M) t B := by
  have hb : bSym (tM M) := hv.2.2.2.2.2.2.2
  have hone := hv.2.2.2.2.1
  have e : hmO M t B = lpF (mxS (fun s => (hmI M t s (hmC M B s) B).1) (fun s => (hmI M t s (hmC M B s) B).2)) (2 ^ B) 0 0 := rfl
  obtain ⟨m1, m2, m3⟩ := lpF_max (c := fun s => (hmI M t s (hmC M B s) B).1) (v := fun s => (hmI M t s (hmC M B s) B).2) (2 ^ B) 0 0
  rw [← e] at m1 m2 m3
  have hvv : ∀ s, s < 2 ^ B → (hmI M t s (hmC M B s) B).2 = sumS (fun b => M.2.1 (29 + b) t) s B := fun s hs => hmI_v (Nat.lt_of_lt_of_le hs (pow7 hB7)) B hB7
  have hcc : ∀ s, s < 2 ^ B → ((hmI M t s (hmC M B s) B).1 = true ↔ ((tM M).1 3 = 0 ∨ ¬ 1 < bitF (nI s) 8) ∧ apS (tM M) s = true ∧ ∀ b, b < B → s.testBit b = true → gd (tM M) b t = true) := by
    intro s hs
    rw [hmI_c (Nat.lt_of_lt_of_le hs (pow7 hB7)) B hB7]
    unfold hmC
    rw [ap_ib hb hT hB7 hs, Bool.not_not, Bool.and_eq_true, Bool.or_eq_true, decide_eq_true_iff, Bool.not_eq_true', decide_eq_false_iff_not, and_assoc]
    exact Iff.rfl
  have hlo : ∀ s, s < 2 ^ B → (∀ b, b < B → s.testBit b = true → gd (tM M) b t = true) → sumS (fun b => M.2.1 (29 + b) t) s B = sumS (lossH (tM M) t) s B := by
    intro s hs hg
    refine sum_congr B (fun b hb hsb => ?_)
    unfold lossH
    rw [if_pos (hg b hb hsb)]
    exact (hT.2.2.2.2.2.2 b t (by omega) ht).symm
  unfold harmV
  rcases hone with h0 | h1
  · rw [if_neg (by rw [h0]; decide)]
    rw [hvF_lp]
    obtain ⟨n1, n2, n3⟩ := lpF_max (c := apS (tM M)) (v := fun s => sumS (lossH (tM M) t) s 7) (2 ^ B) 0 0
    generalize lpF (mxS (apS (tM M)) fun s => sumS (lossH (tM M) t) s 7) (2 ^ B) 0 0 = y at *
    have e7 : ∀ s, s < 2 ^ B → sumS (lossH (tM M) t) s 7 = sumS (lossH (tM M) t) s B := by
      intro s hs
      have := sumS_B (W := lossH (tM M) t) hs (7 - B)
      rwa [show B + (7 - B) = 7 by omega] at this
    refine Int32.le_antisymm ?_ ?_
    · rcases m3 with m3 | ⟨s, _, s2, s3, s4⟩
      · rw [m3]
        exact n1
      · have hs : s < 2 ^ B := by omega
        obtain ⟨k1, k2, k3⟩ := (hcc s hs).mp s3
        rw [s4, hvv s hs, hlo s hs k3, ← e7 s hs]
        exact n2 s (Nat.zero_le _) s2 k2
    · rcases n3 with n3 | ⟨s, _, s2, s3, s4⟩
      · rw [n3]
        exact m1
      · have hs : s < 2 ^ B := by omega
        obtain ⟨k, hk, hkb⟩ := tb_mask (g := fun b => s.testBit b && gd (tM M) b t) B hB7
        have sub : ∀ b, k.testBit b = true → s.testBit b = true := by
          intro b hb
          rw [hkb, Bool.and_eq_true, Bool.and_eq_true] at hb
          exact hb.2.1
        have hap := ap_sub (Nat.lt_of_lt_of_le hs (pow7 hB7)) (Nat.lt_of_lt_of_le hk (pow7 hB7)) sub s3
        have hall : ∀ b, b < B → k.testBit b = true → gd (tM M) b t = true := by
          intro b _ hb
          rw [hkb, Bool.and_eq_true, Bool.and_eq_true] at hb
          exact hb.2.2
        have h9 := m2 k (Nat.zero_le _) (by omega) ((hcc k hk).mpr ⟨Or.inl h0, hap, hall⟩)
        rw [hvv k hk, hlo k hk hall] at h9
        rw [s4, e7 s hs]
        rwa [sum_sub (W := lossH (tM M) t) sub (fun b hb hkf => ?_) B] at h9
        have hbB : b < B := Nat.lt_of_not_le (fun z => by rw [test_big hs z] at hb; exact absurd hb (by decide))
        rw [hkb, decide_eq_true hbB, hb, Bool.true_and, Bool.true_and] at hkf
        unfold lossH
        rw [hkf, if_neg (by decide)]
  · rw [if_pos h1]
    obtain ⟨n1, n2, n3⟩ := most_max (S := tM M) (t := t) B
    generalize mostF (tM M) t B = y at *
    refine Int32.le_antisymm ?_ ?_
    · rcases m3 with m3 | ⟨s, _, s2, s3, s4⟩
      · rw [m3]
        exact n1
      · have hs : s < 2 ^ B := by omega
        obtain ⟨k1, k2, k3⟩ := (hcc s hs).mp s3
        rw [s4, hvv s hs, hlo s hs k3]
        rcases bit_one s (Nat.lt_of_lt_of_le hs (pow7 hB7)) (k1.elim (fun z => absurd (z.symm.trans h1) (by decide)) id) with rfl | ⟨b, hb, rfl⟩
        · rw [sum_nil]
          exact n1
        · rw [sum_pow]
          by_cases z : b < B
          · rw [if_pos z]
            exact n2 b z
          · rw [if_neg z]
            exact n1
    · rcases n3 with n3 | ⟨b, hb, n3⟩
      · rw [n3]
        exact m1
      · by_cases g : gd (tM M) b t = true
        · have hk : 2 ^ b < 2 ^ B := Nat.pow_lt_pow_right (by decide) hb
          have hap : apS (tM M) (2 ^ b) = true := by
            rw [apS_iff]
            intro i hi hib
            rw [Nat.testBit_two_pow, decide_eq_true_iff] at hib
            subst hib
            rw [and0_iff (show hiB (2 ^ b) b < 128 from by
              unfold hiB
              rw [Nat.shiftRight_eq_div_pow, Nat.shiftLeft_eq]
              exact Nat.lt_of_le_of_lt (Nat.div_mul_le_self _ _) (Nat.lt_of_lt_of_le hk (pow7 hB7)))]
            intro i hi hi2
            rw [hi_test, Bool.and_eq_true, decide_eq_true_iff, Nat.testBit_two_pow, decide_eq_true_iff] at hi2
            omega
          have h9 := m2 (2 ^ b) (Nat.zero_le _) (by omega) ((hcc _ hk).mpr ⟨Or.inr (bit_two b (by omega)), hap, fun i hi hib => by
            rw [Nat.testBit_two_pow, decide_eq_true_iff] at hib
            rw [← hib]
            exact g⟩)
          rw [hvv _ hk, hlo _ hk (fun i hi hib => by
            rw [Nat.testBit_two_pow, decide_eq_true_iff] at hib
            rw [← hib]
            exact g), sum_pow, if_pos hb] at h9
          rw [n3]
          exact h9
        · have : lossH (tM M) t b = 0 := if_neg g
          rw [n3, this]
          exact m1
theorem eqv_harm {t : Int32} (h : Rl Q M K) (hQ : Q.1 = tM M) (hC : Cnt Q M P B) : Eqv (m_harm Q t) (m2_harm M B t) M K := by
  have hv : VOk Q.1 := h.2.2.2.2.2.2
  have hT := h.1
  obtain ⟨hP7, hB7, hP, hB, hPM, hBM, hI, eP, eB⟩ := hC
  unfold m_harm m2_harm
  rw [hP, hPM, eB]
  rw [hQ] at hv hT ⊢
  by_cases q : lt0 t (nI P) = true
  · rw [if_pos q, if_pos q]
    obtain ⟨t, ht, rfl⟩ := lt0_of (by omega) q
    rw [nI_clamp (by omega), harm_eq hv hT (by omega) hB7]
    exact eqv_id h
  · rw [if_neg q, if_neg q]
    exact eqv_2 h
theorem eqv_worst (h : Rl Q M K) (hQ : Q.1 = tM M) (hC : Cnt Q M P B) : Eqv (m_worst Q) (frM M (pkF (fun _ => true) (gtF (fun t => hmO M t B)) P)) M K := by
  have hv : VOk Q.1 := h.2.2.2.2.2.2
  have hT := h.1
  obtain ⟨hP7, hB7, hP, hB, hPM, hBM, hI, eP, eB⟩ := hC
  unfold m_worst
  refine eqv_fr h ?_
  rw [eP, ← (arg_eq (f := fun t => hmO M t B) P hP7).1]
  refine congrArg Prod.fst (argM_cong P (fun i hi => ?_))
  rw [hQ] at hv hT ⊢
  rw [eB, harm_eq hv hT (by omega) hB7]
end EQVH
