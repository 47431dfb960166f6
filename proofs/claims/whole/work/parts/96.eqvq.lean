-- THE TWO SIDES: said, dares, deters, rings, cross
theorem i_mul {x y : Int32} (h1 : -2147483648 ≤ x.toInt * y.toInt) (h2 : x.toInt * y.toInt < 2147483648) : (x * y).toInt = x.toInt * y.toInt := by
  rw [Int32.toInt_mul, Int.bmod_eq_of_le (by omega) (by omega)]
theorem i_sub {x y : Int32} (h1 : -2147483648 ≤ x.toInt - y.toInt) (h2 : x.toInt - y.toInt < 2147483648) : (x - y).toInt = x.toInt - y.toInt := by
  rw [Int32.toInt_sub, Int.bmod_eq_of_le (by omega) (by omega)]
theorem i_add {x y : Int32} (h1 : -2147483648 ≤ x.toInt + y.toInt) (h2 : x.toInt + y.toInt < 2147483648) : (x + y).toInt = x.toInt + y.toInt := by
  rw [Int32.toInt_add, Int.bmod_eq_of_le (by omega) (by omega)]
theorem i_div {a b : Nat} (ha : a < 2 ^ 31) (hb : b < 2 ^ 31) : nI a / nI b = nI (a / b) := by
  have hd : a / b < 2 ^ 31 := Nat.lt_of_le_of_lt (Nat.div_le_self a b) ha
  refine Int32.toInt_inj.mp ?_
  rw [Int32.toInt_div, toInt_nI ha, toInt_nI hb, toInt_nI hd, ← Int.ofNat_tdiv]
  generalize a / b = d at hd ⊢
  rw [Int.bmod_eq_of_le (by omega) (by omega)]
theorem vok_gain {S : aS} {b : Nat} (hv : VOk S) (hb : b < 7) : 0 ≤ (gainN S b).toInt ∧ (gainN S b).toInt ≤ 198 := by
  obtain ⟨⟨g, hg, e1⟩, g', hg', e2⟩ := hv.2.1 b hb
  unfold gainN
  rw [e1, e2, i_add (by rw [toInt_nI (by omega), toInt_nI (by omega)]; omega) (by rw [toInt_nI (by omega), toInt_nI (by omega)]; omega), toInt_nI (by omega), toInt_nI (by omega)]
  omega
theorem vok_val {S : aS} {b t : Nat} (hv : VOk S) (hb : b < 7) (ht : t < 7) : (valN S b t).toInt = (gainN S b).toInt - (lossN S b t).toInt ∧ -99 ≤ (valN S b t).toInt ∧ (valN S b t).toInt ≤ 297 := by
  have hg := vok_gain hv hb
  have hl := hv.2.2.1 b t hb ht
  have e : (valN S b t).toInt = (gainN S b).toInt - (lossN S b t).toInt := i_sub (by omega) (by omega)
  omega
theorem mul10 {c v : Int} (h0 : 0 ≤ c) (h1 : c ≤ 10) (h2 : -99 ≤ v) (h3 : v ≤ 297) : -990 ≤ c * v ∧ c * v ≤ 2970 := by
  rcases (show c = 0 ∨ c = 1 ∨ c = 2 ∨ c = 3 ∨ c = 4 ∨ c = 5 ∨ c = 6 ∨ c = 7 ∨ c = 8 ∨ c = 9 ∨ c = 10 by omega) with rfl | rfl | rfl | rfl | rfl | rfl | rfl | rfl | rfl | rfl | rfl <;> omega
theorem mul10n {c f : Nat} (h1 : c ≤ 10) (h2 : f ≤ 999) : c * f ≤ 9990 := by
  have := Nat.mul_le_mul h1 h2
  omega
theorem vok_c {S : aS} (hv : VOk S) : ∃ c, c ≤ 10 ∧ S.1 4 = nI c := by
  have h := hv.2.2.2.2.2.1
  obtain ⟨c, hc, e⟩ := nI_of (x := S.1 4) (fun z => by
    rw [Int32.lt_iff_toInt_lt, show (0 : Int32).toInt = 0 from rfl] at z
    omega)
  rw [e, toInt_nI hc] at h
  exact ⟨c, by omega, e⟩
theorem vok_fine {S : aS} (hv : VOk S) : ∃ f, f ≤ 999 ∧ S.1 5 = nI f := by
  have h := hv.2.2.2.2.2.2.1
  obtain ⟨c, hc, e⟩ := nI_of (x := S.1 5) (fun z => by
    rw [Int32.lt_iff_toInt_lt, show (0 : Int32).toInt = 0 from rfl] at z
    omega)
  rw [e, toInt_nI hc] at h
  exact ⟨c, by omega, e⟩
theorem vok_shr {S : aS} {b t : Nat} (hv : VOk S) (hb : b < 7) (ht : t < 7) : -990 ≤ (shrN S b t).toInt ∧ (shrN S b t).toInt ≤ 2970 := by
  obtain ⟨c, hc, e⟩ := vok_c hv
  have h1 := vok_val hv hb ht
  have e10 : (10 - S.1 4 : Int32).toInt = 10 - (c : Int) := by
    rw [i_sub (by rw [e, toInt_nI (by omega), show (10 : Int32).toInt = 10 from rfl]; omega) (by rw [e, toInt_nI (by omega), show (10 : Int32).toInt = 10 from rfl]; omega), e, toInt_nI (by omega)]
    rfl
  have h2 := mul10 (c := 10 - (c : Int)) (v := (valN S b t).toInt) (by omega) (by omega) h1.2.1 h1.2.2
  unfold shrN
  rw [i_mul (by rw [e10]; omega) (by rw [e10]; omega), e10]
  exact h2
theorem vok_cf {S : aS} {f : Nat} (hv : VOk S) (hf : f ≤ 999) : ∃ c, c ≤ 10 ∧ S.1 4 = nI c ∧ (S.1 4 * nI f).toInt = (c * f : Nat) := by
  obtain ⟨c, hc, e⟩ := vok_c hv
  have h := mul10n hc hf
  refine ⟨c, hc, e, ?_⟩
  have e1 : (S.1 4).toInt * (nI f).toInt = (c * f : Nat) := by
    rw [e, toInt_nI (by omega), toInt_nI (by omega)]
    exact (Int.natCast_mul c f).symm
  rw [i_mul (by rw [e1]; omega) (by rw [e1]; omega), e1]
theorem cbs_iff {S : aS} {b t : Nat} : cbs S b t = true ↔ gd S b t = false ∧ partyN S b (nI t) = false := by
  unfold cbs gd
  by_cases q : lossN S b t < S.1 2 <;> cases partyN S b (nI t) <;> simp [q]
theorem sub_pos' {x y : Int32} (h1 : -2147483648 ≤ x.toInt - y.toInt) (h2 : x.toInt - y.toInt < 2147483648) : 0 < x - y ↔ y < x := by
  rw [Int32.lt_iff_toInt_lt, Int32.lt_iff_toInt_lt, i_sub h1 h2, show (0 : Int32).toInt = 0 from rfl]
  omega
/-- counts that cannot run over -/
theorem cnt1 {p : Nat → Prop} [DecidablePred p] : ∀ m i x, x + m < 2147483648 → ∃ y, lpF (fun t z => if p t then z + 1 else z) m i (nI x) = nI y ∧ x ≤ y ∧ y ≤ x + m ∧ (y = x ↔ ∀ t, i ≤ t → t < i + m → ¬ p t)
  | 0, i, x, _ => ⟨x, rfl, Nat.le_refl _, Nat.le_refl _, fun _ t h1 h2 => absurd h2 (by omega), fun _ => rfl⟩
  | m + 1, i, x, h => by
    have e : lpF (fun t z => if p t then z + 1 else z) (m + 1) i (nI x) = lpF (fun t z => if p t then z + 1 else z) m (i + 1) (if p i then nI x + 1 else nI x) := rfl
    rw [e]
    by_cases q : p i
    · rw [if_pos q, nI_1]
      obtain ⟨y, h1, h2, h3, h4⟩ := cnt1 (p := p) m (i + 1) (x + 1) (by omega)
      refine ⟨y, h1, by omega, by omega, fun z => absurd z (by omega), fun z => absurd q (z i (Nat.le_refl _) (by omega))⟩
    · rw [if_neg q]
      obtain ⟨y, h1, h2, h3, h4⟩ := cnt1 (p := p) m (i + 1) x (by omega)
      refine ⟨y, h1, h2, by omega, fun z t t1 t2 => ?_, fun z => h4.mpr (fun t t1 t2 => z t (by omega) (by omega))⟩
      by_cases e : t = i
      · rw [e]
        exact q
      · exact h4.mp z t (by omega) (by omega)
theorem cnt2 {p : Nat → Nat → Prop} [∀ b, DecidablePred (p b)] {P : Nat} (hP : P ≤ 7) : ∀ m i x, x + 7 * m < 2147483648 → ∃ y, lpF (fun b z => lpF (fun t z => if p b t then z + 1 else z) P 0 z) m i (nI x) = nI y ∧ x ≤ y ∧ y ≤ x + 7 * m ∧ (y = x ↔ ∀ b, i ≤ b → b < i + m → ∀ t, t < P → ¬ p b t)
  | 0, i, x, _ => ⟨x, rfl, Nat.le_refl _, Nat.le_refl _, fun _ t h1 h2 => absurd h2 (by omega), fun _ => rfl⟩
  | m + 1, i, x, h => by
    obtain ⟨z, z1, z2, z3, z4⟩ := cnt1 (p := p i) P 0 x (by omega)
    have e : lpF (fun b z => lpF (fun t z => if p b t then z + 1 else z) P 0 z) (m + 1) i (nI x) = lpF (fun b z => lpF (fun t z => if p b t then z + 1 else z) P 0 z) m (i + 1) (lpF (fun t z => if p i t then z + 1 else z) P 0 (nI x)) := rfl
    rw [e, z1]
    obtain ⟨y, h1, h2, h3, h4⟩ := cnt2 (p := p) hP m (i + 1) z (by omega)
    refine ⟨y, h1, by omega, by omega, fun q b b1 b2 t ht => ?_, fun q => ?_⟩
    · by_cases e : b = i
      · rw [e]
        exact z4.mp (by omega) t (Nat.zero_le _) (by omega)
      · exact h4.mp (by omega) b (by omega) (by omega) t ht
    · have a1 := z4.mpr (fun t _ t2 => q i (Nat.le_refl _) (by omega) t (by omega))
      have a2 := h4.mpr (fun b b1 b2 t ht => q b (by omega) (by omega) t ht)
      omega
theorem lpF2_max {c : Nat → Nat → Bool} {v : Nat → Nat → Int32} {P : Nat} : ∀ m i x, x ≤ lpF (fun b z => lpF (mxS (c b) (v b)) P 0 z) m i x ∧ (∀ b, i ≤ b → b < i + m → ∀ t, t < P → c b t = true → v b t ≤ lpF (fun b z => lpF (mxS (c b) (v b)) P 0 z) m i x) ∧ (lpF (fun b z => lpF (mxS (c b) (v b)) P 0 z) m i x = x ∨ ∃ b t, i ≤ b ∧ b < i + m ∧ t < P ∧ c b t = true ∧ lpF (fun b z => lpF (mxS (c b) (v b)) P 0 z) m i x = v b t)
  | 0, i, x => ⟨Int32.le_refl _, fun s h1 h2 => absurd h2 (by omega), Or.inl rfl⟩
  | m + 1, i, x => by
    obtain ⟨g1, g2, g3⟩ := lpF_max (c := c i) (v := v i) P 0 x
    have e : lpF (fun b z => lpF (mxS (c b) (v b)) P 0 z) (m + 1) i x = lpF (fun b z => lpF (mxS (c b) (v b)) P 0 z) m (i + 1) (lpF (mxS (c i) (v i)) P 0 x) := rfl
    rw [e]
    generalize lpF (mxS (c i) (v i)) P 0 x = y at *
    obtain ⟨h1, h2, h3⟩ := lpF2_max (c := c) (v := v) (P := P) m (i + 1) y
    refine ⟨Int32.le_trans g1 h1, fun b b1 b2 t ht hc => ?_, ?_⟩
    · by_cases e : b = i
      · subst e
        exact Int32.le_trans (g2 t (Nat.zero_le _) (by omega) hc) h1
      · exact h2 b (by omega) (by omega) t ht hc
    · rcases h3 with h3 | ⟨b, t, b1, b2, ht, hc, hb⟩
      · rcases g3 with g3 | ⟨t, _, t2, t3, t4⟩
        · exact Or.inl (h3.trans g3)
        · exact Or.inr ⟨i, t, Nat.le_refl _, by omega, by omega, t3, h3.trans t4⟩
      · exact Or.inr ⟨b, t, by omega, by omega, ht, hc, hb⟩
section EQVQ
variable {Q : aQ} {M K : aM} {P B : Nat}
theorem eqv_said {b t : Int32} (h : Rl Q M K) (hQ : Q.1 = tM M) (hC : Cnt Q M P B) : Eqv (m_said Q b t) (m2_said M b t) M K := by
  obtain ⟨hP7, hB7, hP, hB, hPM, hBM, hI, eP, eB⟩ := hC
  unfold m_said m2_said
  rw [hB, hBM, hP, hPM]
  by_cases q : (lt0 b (nI B) && lt0 t (nI P)) = true
  · rw [if_pos q, if_pos q]
    rw [Bool.and_eq_true] at q
    obtain ⟨b, hb, rfl⟩ := lt0_of (by omega) q.1
    obtain ⟨t, ht, rfl⟩ := lt0_of (by omega) q.2
    rw [nI_clamp (by omega), nI_clamp (by omega), hQ]
    by_cases q1 : gd (tM M) b t = true
    · rw [if_pos q1, if_neg (fun z => by rw [(cbs_iff.mp z).1] at q1; exact absurd q1 (by decide))]
      exact eqv_b5 h
    · by_cases q2 : partyN (tM M) b (nI t) = true
      · rw [if_neg q1, if_pos q2, if_neg (fun z => by rw [(cbs_iff.mp z).2] at q2; exact absurd q2 (by decide))]
        exact eqv_b5 h
      · rw [if_neg q1, if_neg q2, if_pos (cbs_iff.mpr ⟨Bool.not_eq_true _ ▸ q1, Bool.not_eq_true _ ▸ q2⟩)]
        exact eqv_v h rfl
  · rw [if_neg q, if_neg q]
    exact eqv_b2 h
theorem dare_iff {S : aS} {b t f : Nat} (hv : VOk S) (hb : b < 7) (ht : t < 7) (hf : f ≤ 999) : 0 < (10 - S.1 4) * valN S b t - S.1 4 * nI f ↔ S.1 4 * nI f < shrN S b t := by
  obtain ⟨c, hc, e, e2⟩ := vok_cf hv hf
  have h1 := mul10n hc hf
  have h2 := vok_shr hv hb ht
  refine sub_pos' (x := shrN S b t) ?_ ?_ <;> rw [e2] <;> omega
theorem eqv_dares (h : Rl Q M K) (hQ : Q.1 = tM M) (hC : Cnt Q M P B) : Eqv (m_dares Q) (lpF (dbB M (M.2.1 36 3) P) B 0 0, M) M K := by
  have hv : VOk Q.1 := h.2.2.2.2.2.2
  obtain ⟨hP7, hB7, hP, hB, hPM, hBM, hI, eP, eB⟩ := hC
  refine eqv_v h ?_
  rw [eP, eB]
  rw [hQ] at hv ⊢
  obtain ⟨f, hf, ef⟩ := vok_fine hv
  refine lpF_cong _ _ _ (fun b _ hb y => ?_)
  refine lpF_cong _ _ _ (fun t _ ht y => ?_)
  have hd := dare_iff hv (b := b) (t := t) (by omega) (by omega) hf
  rw [← ef] at hd
  show (if cbs (tM M) b t = true ∧ (tM M).1 4 * (tM M).1 5 < shrN (tM M) b t then y + 1 else y) = if (gd (tM M) b t = false ∧ partyN (tM M) b (nI t) = false) ∧ 0 < (10 - (tM M).1 4) * valN (tM M) b t - (tM M).1 4 * (tM M).1 5 then y + 1 else y
  by_cases q : cbs (tM M) b t = true ∧ (tM M).1 4 * (tM M).1 5 < shrN (tM M) b t
  · rw [if_pos q, if_pos ⟨cbs_iff.mp q.1, hd.mpr q.2⟩]
  · rw [if_neg q, if_neg (fun z => q ⟨cbs_iff.mpr z.1, hd.mp z.2⟩)]
/-- what the court must fear for none to break -/
theorem dt_spec {S : aS} {P B : Nat} (hv : VOk S) (hP7 : P ≤ 7) (hB7 : B ≤ 7) : ∃ g, g ≤ 2970 ∧ dtG S P B = nI g ∧ (∀ b t, b < B → t < P → cbs S b t = true → (shrN S b t).toInt ≤ g) ∧ (g = 0 ∨ ∃ b t, b < B ∧ t < P ∧ cbs S b t = true ∧ (shrN S b t).toInt = g) := by
  have e : dtG S P B = lpF (fun b z => lpF (mxS (cbs S b) (shrN S b)) P 0 z) B 0 0 := by
    refine lpF_cong _ _ _ (fun b _ _ y => ?_)
    refine lpF_cong _ _ _ (fun t _ _ y => ?_)
    unfold dtT mxS
    by_cases q : cbs S b t = true
    · rw [if_pos q]
      by_cases q2 : y < shrN S b t
      · rw [if_pos q2, if_pos ⟨q, q2⟩]
      · rw [if_neg q2, if_neg (fun z => q2 z.2)]
    · rw [if_neg q, if_neg (fun z => q z.1)]
  obtain ⟨h1, h2, h3⟩ := lpF2_max (c := cbs S) (v := shrN S) (P := P) B 0 0
  rw [← e] at h1 h2 h3
  rw [Int32.le_iff_toInt_le, show (0 : Int32).toInt = 0 from rfl] at h1
  have hb : (dtG S P B).toInt ≤ 2970 := by
    rcases h3 with h3 | ⟨b, t, _, b2, ht, _, h3⟩
    · rw [h3]
      decide
    · rw [h3]
      exact (vok_shr hv (by omega) (by omega)).2
  obtain ⟨g, hg, eg⟩ := nI_of (x := dtG S P B) (fun z => by
    rw [Int32.lt_iff_toInt_lt, show (0 : Int32).toInt = 0 from rfl] at z
    omega)
  rw [eg, toInt_nI hg] at hb
  rw [eg] at h2 h3
  refine ⟨g, by omega, eg, fun b t hb' ht hc => ?_, ?_⟩
  · have := Int32.le_iff_toInt_le.mp (h2 b (Nat.zero_le _) (by omega) t ht hc)
    rwa [toInt_nI hg] at this
  · rcases h3 with h3 | ⟨b, t, _, b2, ht, hc, h3⟩
    · exact Or.inl ((nI_eq (b := 0) (by omega) (by decide)).mp h3)
    · refine Or.inr ⟨b, t, by omega, ht, hc, ?_⟩
      rw [← h3, toInt_nI hg]
theorem db_zero {f : Nat} (hv : VOk (tM M)) (hP7 : P ≤ 7) (hB7 : B ≤ 7) (hf : f ≤ 999) : lpF (dbB M (nI f) P) B 0 0 = 0 ↔ ∀ b, b < B → ∀ t, t < P → cbs (tM M) b t = true → ¬ (tM M).1 4 * nI f < shrN (tM M) b t := by
  obtain ⟨y, h1, h2, h3, h4⟩ := cnt2 (p := fun b t => (gd (tM M) b t = false ∧ partyN (tM M) b (nI t) = false) ∧ 0 < (10 - M.2.1 36 2) * valN (tM M) b t - M.2.1 36 2 * nI f) (P := P) hP7 B 0 0 (by omega)
  have e : lpF (dbB M (nI f) P) B 0 0 = nI y := h1
  rw [e]
  have e0 : nI y = 0 ↔ y = 0 := nI_eq (b := 0) (by omega) (by decide)
  rw [e0, h4]
  constructor
  · intro h b hb t ht hc hd
    exact h b (Nat.zero_le _) (by omega) t ht ⟨cbs_iff.mp hc, (dare_iff hv (b := b) (t := t) (by omega) (by omega) hf).mpr hd⟩
  · intro h b _ hb t ht hc
    exact h b (by omega) t ht (cbs_iff.mpr hc.1) ((dare_iff hv (b := b) (t := t) (by omega) (by omega) hf).mp hc.2)
theorem eqv_deters (h : Rl Q M K) (hQ : Q.1 = tM M) (hC : Cnt Q M P B) : Eqv (m_deters Q) (dtM M P B 1000 0, M) M K := by
  have hv : VOk Q.1 := h.2.2.2.2.2.2
  obtain ⟨hP7, hB7, hP, hB, hPM, hBM, hI, eP, eB⟩ := hC
  refine eqv_v h ?_
  rw [eP, eB]
  rw [hQ] at hv ⊢
  obtain ⟨g, hg, eg, g1, g2⟩ := dt_spec (P := P) (B := B) hv hP7 hB7
  obtain ⟨c, hc, ec⟩ := vok_c hv
  have iff : ∀ f, f ≤ 999 → (lpF (dbB M (nI f) P) B 0 0 = 0 ↔ g ≤ c * f) := by
    intro f hf
    obtain ⟨c', _, ec', e2⟩ := vok_cf hv hf
    have : c' = c := (nI_eq (by omega) (by omega)).mp (ec'.symm.trans ec)
    subst this
    rw [db_zero hv hP7 hB7 hf]
    constructor
    · intro q
      rcases g2 with rfl | ⟨b, t, hb, ht, hcb, e⟩
      · exact Nat.zero_le _
      · have := q b hb t ht hcb
        rw [Int32.lt_iff_toInt_lt, e2, e] at this
        omega
    · intro q b hb t ht hcb z
      rw [Int32.lt_iff_toInt_lt, e2] at z
      have := g1 b t hb ht hcb
      omega
  rw [eg]
  have gen : ∀ m f, f + m = 1000 → (∀ f', f' < f → ¬ g ≤ c * f') → dtA (tM M) (nI g) = dtM M P B m f := by
    intro m
    induction m with
    | zero =>
      intro f hf hn
      have hf : f = 1000 := by omega
      subst hf
      have a0 := hn 0 (by decide)
      have a9 := hn 999 (by decide)
      have g0 : ¬ nI g = 0 := fun z => a0 (by rw [(nI_eq (b := 0) (by omega) (by decide)).mp z]; exact Nat.zero_le _)
      show (if nI g = 0 then 0 else if (tM M).1 4 = 0 then -1 else if 999 < (nI g + (tM M).1 4 - 1) / (tM M).1 4 then -1 else (nI g + (tM M).1 4 - 1) / (tM M).1 4) = (-1 : Int32)
      rw [if_neg g0, ec]
      by_cases q : nI c = 0
      · rw [if_pos q]
      · have hc0 : ¬ c = 0 := fun z => q (by rw [z]; rfl)
        have e1 : nI g + nI c - 1 = nI (g + c - 1) := by
          refine Int32.toInt_inj.mp ?_
          have : (nI g + nI c).toInt = g + c := by
            rw [i_add (by rw [toInt_nI (by omega), toInt_nI (by omega)]; omega) (by rw [toInt_nI (by omega), toInt_nI (by omega)]; omega), toInt_nI (by omega), toInt_nI (by omega)]
          rw [i_sub (by rw [this, show (1 : Int32).toInt = 1 from rfl]; omega) (by rw [this, show (1 : Int32).toInt = 1 from rfl]; omega), this, toInt_nI (by omega), show (1 : Int32).toInt = 1 from rfl]
          omega
        have hdv : 1000 ≤ (g + c - 1) / c := (Nat.le_div_iff_mul_le (by omega)).mpr (by omega)
        have hle : (g + c - 1) / c ≤ g + c - 1 := Nat.div_le_self _ _
        rw [if_neg q, e1, i_div (by omega) (by omega), if_pos (show (999 : Int32) < nI ((g + c - 1) / c) from nI_lt (a := 999) (by omega) (by omega))]
    | succ m ih =>
      intro f hf hn
      show _ = if lpF (dbB M (nI f) P) B 0 0 = 0 then nI f else dtM M P B m (f + 1)
      by_cases q : g ≤ c * f
      · rw [if_pos ((iff f (by omega)).mpr q)]
        unfold dtA
        by_cases q0 : g = 0
        · subst q0
          have f0 : f = 0 := Classical.byContradiction (fun z => hn 0 (by omega) (Nat.zero_le _))
          rw [f0, if_pos (show nI 0 = 0 from rfl)]
          rfl
        · have hf0 : ¬ f = 0 := fun z => by
            rw [z, Nat.mul_zero] at q
            omega
          have hc0 : ¬ c = 0 := fun z => by
            rw [z, Nat.zero_mul] at q
            omega
          have hp := hn (f - 1) (by omega)
          have e1 : nI g + nI c - 1 = nI (g + c - 1) := by
            refine Int32.toInt_inj.mp ?_
            have : (nI g + nI c).toInt = g + c := by
              rw [i_add (by rw [toInt_nI (by omega), toInt_nI (by omega)]; omega) (by rw [toInt_nI (by omega), toInt_nI (by omega)]; omega), toInt_nI (by omega), toInt_nI (by omega)]
            rw [i_sub (by rw [this, show (1 : Int32).toInt = 1 from rfl]; omega) (by rw [this, show (1 : Int32).toInt = 1 from rfl]; omega), this, toInt_nI (by omega), show (1 : Int32).toInt = 1 from rfl]
            omega
          have hmul : c * f = c * (f - 1) + c := by
            have := Nat.mul_succ c (f - 1)
            rwa [Nat.succ_eq_add_one, show f - 1 + 1 = f by omega] at this
          have hdv : (g + c - 1) / c = f := by
            refine Nat.le_antisymm ?_ ?_
            · refine Nat.lt_succ_iff.mp ((Nat.div_lt_iff_lt_mul (by omega)).mpr ?_)
              rw [Nat.mul_comm, Nat.mul_succ]
              omega
            · refine (Nat.le_div_iff_mul_le (by omega)).mpr ?_
              rw [Nat.mul_comm]
              omega
          rw [if_neg (show ¬ nI g = 0 from fun z => q0 ((nI_eq (b := 0) (by omega) (by decide)).mp z)), ec, if_neg (show ¬ nI c = 0 from fun z => hc0 ((nI_eq (b := 0) (by omega) (by decide)).mp z)), e1, i_div (by omega) (by omega), hdv, if_neg (show ¬ (999 : Int32) < nI f from nI_nlt (a := 999) (b := f) (by omega) (by omega))]
      · rw [if_neg (fun z => q ((iff f (by omega)).mp z))]
        refine ih (f + 1) (by omega) (fun f' hf' => ?_)
        by_cases e : f' = f
        · rw [e]
          exact q
        · exact hn f' (by omega)
  exact gen 1000 0 (by omega) (fun f hf => absurd hf (by omega))
theorem pf_m1 {a b p q : Nat} (ep : M.2.1 (21 + b) 0 = nI p) (eq : M.2.1 (21 + b) 1 = nI q) (hp : p < P) (hq : q < P) (hP7 : P ≤ 7) : (bitsOf (gd (tM M) a) P &&& ptyB (tM M) b = 0 ↔ pfN M a b = -1) ∧ (bitsOf (gd (tM M) a) P &&& ptyB (tM M) b = 0 ↔ gd (tM M) a p = false ∧ gd (tM M) a q = false) := by
  have e0 : ptyB (tM M) b = b1 p ||| b1 q := by
    show (1 : Int32) <<< (M.2.1 (21 + b) 0 &&& 31) ||| (1 : Int32) <<< (M.2.1 (21 + b) 1 &&& 31) = _
    rw [ep, eq]
    rfl
  have k1 : bitsOf (gd (tM M) a) P &&& ptyB (tM M) b = 0 ↔ gd (tM M) a p = false ∧ gd (tM M) a q = false := by
    rw [e0]
    constructor
    · intro h
      have hb : ∀ i, i < P → (i = p ∨ i = q) → gd (tM M) a i = false := by
        intro i hi hpq
        have := congrArg (fun y => bt y i) h
        simp only [b_and, b_or, b_0] at this
        rw [bits_bt (by omega) P (by omega), b1_bt (by omega) (by omega), b1_bt (by omega) (by omega), decide_eq_true hi, Bool.true_and] at this
        have e : (decide (i = p) || decide (i = q)) = true := by
          rcases hpq with z | z <;> simp [z]
        rwa [e, Bool.and_true] at this
      exact ⟨hb p hp (Or.inl rfl), hb q hq (Or.inr rfl)⟩
    · intro h
      refine b_ext (fun i hi => ?_)
      rw [b_and, b_or, b_0, bits_bt hi P (by omega), b1_bt (by omega) hi, b1_bt (by omega) hi]
      by_cases z1 : i = p
      · rw [z1, h.1, Bool.and_false, Bool.false_and]
      · by_cases z2 : i = q
        · rw [z2, h.2, Bool.and_false, Bool.false_and]
        · rw [decide_eq_false z1, decide_eq_false z2]
          exact Bool.and_false _
  refine ⟨?_, k1⟩
  rw [k1]
  unfold pfN
  rw [ep, eq, nI_clamp (by omega), nI_clamp (by omega)]
  unfold pfM
  by_cases z1 : gd (tM M) a p = true
  · rw [if_pos z1]
    refine ⟨fun z => absurd z.1 (by rw [z1]; decide), fun z => ?_⟩
    split at z
    · exact absurd z (nI_nem1 (by omega))
    · exact absurd z (nI_nem1 (by omega))
  · rw [if_neg z1]
    by_cases z2 : gd (tM M) a q = true
    · rw [if_pos z2]
      exact ⟨fun z => absurd z.2 (by rw [z2]; decide), fun z => absurd z (nI_nem1 (by omega))⟩
    · rw [if_neg z2]
      exact ⟨fun _ => rfl, fun _ => ⟨Bool.not_eq_true _ ▸ z1, Bool.not_eq_true _ ▸ z2⟩⟩
theorem Cnt.pf {a b : Nat} (hC : Cnt Q M P B) (hb : b < B) : bitsOf (gd (tM M) a) P &&& ptyB (tM M) b = 0 ↔ pfN M a b = -1 := by
  obtain ⟨hP7, hB7, hP, hB, hPM, hBM, hI, eP, eB⟩ := hC
  obtain ⟨p, q, hp, hq, ep, eq⟩ := hI b hb
  exact (pf_m1 ep eq hp hq hP7).1
theorem eqv_rings (h : Rl Q M K) (hQ : Q.1 = tM M) (hC : Cnt Q M P B) : Eqv (m_rings Q) (lpF (rn3M M B) B 0 0, M) M K := by
  have hpf := fun (a b : Nat) (hb : b < B) => hC.pf (a := a) hb
  obtain ⟨hP7, hB7, hP, hB, hPM, hBM, hI, eP, eB⟩ := hC
  refine eqv_v h ?_
  rw [eP, eB, hQ]
  have e : ∀ a b c, a < B → b < B → c < B → rgB (tM M) P a b c = rgM M a b c := by
    intro a b c ha hb hc
    unfold rgB rgM
    rw [decide_eq_decide.mpr (hpf a b hb), decide_eq_decide.mpr (hpf b c hc), decide_eq_decide.mpr (hpf c a ha)]
  refine lpF_cong _ _ _ (fun a _ ha y => lpF_cong _ _ _ (fun b _ hb y => lpF_cong _ _ _ (fun c _ hc y => ?_)))
  unfold rg1 rn1M
  rw [e a b c (by omega) (by omega) (by omega), e a c b (by omega) (by omega) (by omega)]
/-- the first of the greatest -/
theorem fmst_max {ok : Nat → Bool} {sc : Nat → Int32} : ∀ k, k ≤ 32 → ((∀ t, t < k → ok t = false) ∧ (fmst ok sc k).1 = -1) ∨ ∃ t, t < k ∧ ok t = true ∧ (fmst ok sc k).1 = nI t ∧ (fmst ok sc k).2 = sc t ∧ (∀ u, u < k → ok u = true → sc u ≤ sc t) ∧ ∀ u, u < t → ok u = true → sc u < sc t
  | 0, _ => Or.inl ⟨fun t ht => absurd ht (by omega), rfl⟩
  | k + 1, hk => by
    have e : fmst ok sc (k + 1) = if ok k && (decide ((fmst ok sc k).1 = -1) || decide ((fmst ok sc k).2 < sc k)) then (nI k, sc k) else fmst ok sc k := rfl
    rw [e]
    by_cases q : ok k = true
    · rcases fmst_max (ok := ok) (sc := sc) k (by omega) with ⟨h1, h2⟩ | ⟨t, h1, h2, h3, h4, h5, h6⟩
      · rw [q, h2, if_pos (by rw [decide_eq_true (show (-1 : Int32) = -1 from rfl)]; rfl)]
        refine Or.inr ⟨k, by omega, q, rfl, rfl, fun u hu hok => ?_, fun u hu hok => absurd hok (by rw [h1 u hu]; decide)⟩
        rcases Nat.lt_or_ge u k with z | z
        · exact absurd hok (by rw [h1 u z]; decide)
        · rw [show u = k by omega]
          exact Int32.le_refl _
      · rw [q, h3, h4, decide_eq_false (nI_nem1 (by omega)), Bool.true_and, Bool.false_or]
        by_cases z : sc t < sc k
        · rw [if_pos (decide_eq_true z)]
          refine Or.inr ⟨k, by omega, q, rfl, rfl, fun u hu hok => ?_, fun u hu hok => Int32.lt_of_le_of_lt (h5 u hu hok) z⟩
          rcases Nat.lt_or_ge u k with z2 | z2
          · exact Int32.le_trans (h5 u z2 hok) (Int32.le_of_lt z)
          · rw [show u = k by omega]
            exact Int32.le_refl _
        · rw [if_neg (by rw [decide_eq_false z]; decide)]
          refine Or.inr ⟨t, by omega, h2, h3, h4, fun u hu hok => ?_, h6⟩
          rcases Nat.lt_or_ge u k with z2 | z2
          · exact h5 u z2 hok
          · rw [show u = k by omega]
            exact Int32.not_lt.mp z
    · rw [Bool.not_eq_true] at q
      rw [q, Bool.false_and, if_neg (by decide)]
      rcases fmst_max (ok := ok) (sc := sc) k (by omega) with ⟨h1, h2⟩ | ⟨t, h1, h2, h3, h4, h5, h6⟩
      · refine Or.inl ⟨fun t ht => ?_, h2⟩
        rcases Nat.lt_or_ge t k with z2 | z2
        · exact h1 t z2
        · rw [show t = k by omega]
          exact q
      · refine Or.inr ⟨t, by omega, h2, h3, h4, fun u hu hok => ?_, h6⟩
        rcases Nat.lt_or_ge u k with z2 | z2
        · exact h5 u z2 hok
        · rw [show u = k by omega, q] at hok
          exact absurd hok (by decide)
theorem val_le {S : aS} {b t u : Nat} (hv : VOk S) (hb : b < 7) (ht : t < 7) (hu : u < 7) : -lossN S b t ≤ -lossN S b u ↔ valN S b t ≤ valN S b u := by
  have h1 := vok_val hv hb ht
  have h2 := vok_val hv hb hu
  have l1 := hv.2.2.1 b t hb ht
  have l2 := hv.2.2.1 b u hb hu
  have n1 : (-lossN S b t).toInt = -(lossN S b t).toInt := by
    rw [Int32.toInt_neg, Int.bmod_eq_of_le (by omega) (by omega)]
  have n2 : (-lossN S b u).toInt = -(lossN S b u).toInt := by
    rw [Int32.toInt_neg, Int.bmod_eq_of_le (by omega) (by omega)]
  rw [Int32.le_iff_toInt_le, Int32.le_iff_toInt_le, n1, n2]
  omega
theorem gv_eq {a b : Nat} (hv : VOk (tM M)) (hC : Cnt Q M P B) (ha : a < B) (hb : b < B) (hn : ¬ pfN M a b = -1) : gvN (tM M) P a (bitsOf (gd (tM M) a) P &&& ptyB (tM M) b) = valN (tM M) a (pfN M a b).toNatClampNeg := by
  obtain ⟨hP7, hB7, hP, hB, hPM, hBM, hI, eP, eB⟩ := hC
  obtain ⟨p, q, hp, hq, ep, eq⟩ := hI b hb
  have e0 : ptyB (tM M) b = b1 p ||| b1 q := by
    show (1 : Int32) <<< (M.2.1 (21 + b) 0 &&& 31) ||| (1 : Int32) <<< (M.2.1 (21 + b) 1 &&& 31) = _
    rw [ep, eq]
    rfl
  have hok : ∀ t, t < P → (hbI (bitsOf (gd (tM M) a) P &&& ptyB (tM M) b) (nI t) = true ↔ gd (tM M) a t = true ∧ (t = p ∨ t = q)) := by
    intro t ht
    rw [hb_bt (by omega), b_and, bits_bt (by omega) P (by omega), e0, b_or, b1_bt (by omega) (by omega), b1_bt (by omega) (by omega), decide_eq_true ht, Bool.true_and, Bool.and_eq_true, Bool.or_eq_true, decide_eq_true_iff, decide_eq_true_iff]
  have hsc : ∀ t, scoreK (tM M) P 1 0 a t = -lossN (tM M) a t := fun t => rfl
  unfold gvN gvF
  have epf : pfN M a b = pfM M a p q := by
    unfold pfN
    rw [ep, eq, nI_clamp (by omega), nI_clamp (by omega)]
  have hpm : ∃ t, t < P ∧ gd (tM M) a t = true ∧ (t = p ∨ t = q) ∧ pfN M a b = nI t ∧ (gd (tM M) a p = true → valN (tM M) a p ≤ valN (tM M) a t) ∧ (gd (tM M) a q = true → valN (tM M) a q ≤ valN (tM M) a t) := by
    rw [epf]
    unfold pfM
    by_cases z1 : gd (tM M) a p = true
    · rw [if_pos z1]
      by_cases z2 : gd (tM M) a q = true ∧ valN (tM M) a p < valN (tM M) a q
      · rw [if_pos z2]
        exact ⟨q, hq, z2.1, Or.inr rfl, rfl, fun _ => Int32.le_of_lt z2.2, fun _ => Int32.le_refl _⟩
      · rw [if_neg z2]
        exact ⟨p, hp, z1, Or.inl rfl, rfl, fun _ => Int32.le_refl _, fun z => Int32.not_lt.mp (fun y => z2 ⟨z, y⟩)⟩
    · rw [if_neg z1]
      by_cases z2 : gd (tM M) a q = true
      · rw [if_pos z2]
        exact ⟨q, hq, z2, Or.inr rfl, rfl, fun z => absurd z z1, fun _ => Int32.le_refl _⟩
      · refine absurd ?_ hn
        rw [epf]
        unfold pfM
        rw [if_neg z1, if_neg z2]
  obtain ⟨t, ht, g1, g2, g3, g4, g5⟩ := hpm
  rw [g3, nI_clamp (by omega)]
  rcases fmst_max (ok := fun i => hbI (bitsOf (gd (tM M) a) P &&& ptyB (tM M) b) (nI i)) (sc := scoreK (tM M) P 1 0 a) P (by omega) with ⟨f1, -⟩ | ⟨u, f1, f2, f3, -, f5, -⟩
  · exact absurd ((hok t ht).mpr ⟨g1, g2⟩) (by rw [f1 t ht]; decide)
  · rw [f3, nI_clamp (by omega)]
    refine Int32.le_antisymm ?_ ?_
    · obtain ⟨k1, rfl | rfl⟩ := (hok u f1).mp f2
      · exact g4 k1
      · exact g5 k1
    · exact (val_le hv (by omega) (by omega) (by omega)).mp (f5 t ht ((hok t ht).mpr ⟨g1, g2⟩))
theorem eqv_cross {b c k : Int32} (h : Rl Q M K) (hQ : Q.1 = tM M) (hC : Cnt Q M P B) : Eqv (m_cross Q b c k) (m2_cross M b c k) M K := by
  have hv : VOk Q.1 := h.2.2.2.2.2.2
  have hpf := fun (a b : Nat) (hb : b < B) => hC.pf (a := a) hb
  have hgv := fun (a b : Nat) (hv : VOk (tM M)) ha hb hn => gv_eq (a := a) (b := b) hv hC ha hb hn
  obtain ⟨hP7, hB7, hP, hB, hPM, hBM, hI, eP, eB⟩ := hC
  unfold m_cross m2_cross crA
  rw [hB, hBM, eP, ← Bool.and_assoc, ← Bool.and_assoc]
  rw [hQ] at hv ⊢
  by_cases q : (lt0 b (nI B) && lt0 c (nI B) && !decide (b = c) && lt0 k 2) = true
  · rw [if_pos q, if_pos q]
    simp only [Bool.and_eq_true] at q
    obtain ⟨b, hb, rfl⟩ := lt0_of (by omega) q.1.1.1
    obtain ⟨c, hc, rfl⟩ := lt0_of (by omega) q.1.1.2
    rw [nI_clamp (by omega), nI_clamp (by omega)]
    have e : crM M b c = true ↔ ¬ (bitsOf (gd (tM M) b) P &&& ptyB (tM M) c = 0 ∨ bitsOf (gd (tM M) c) P &&& ptyB (tM M) b = 0) := by
      rw [hpf b c hc, hpf c b hb]
      unfold crM
      rw [Bool.and_eq_true, Bool.not_eq_true', Bool.not_eq_true', decide_eq_false_iff_not, decide_eq_false_iff_not, not_or]
    by_cases z : bitsOf (gd (tM M) b) P &&& ptyB (tM M) c = 0 ∨ bitsOf (gd (tM M) c) P &&& ptyB (tM M) b = 0
    · have e2 : crM M b c = false := Bool.not_eq_true _ ▸ (fun y => (e.mp y) z)
      rw [if_pos z, if_pos z, e2, if_neg (show ¬ false = true by decide)]
      split
      · exact eqv_id h
      · exact eqv_b5 h
    · have e2 := e.mpr z
      rw [if_neg z, if_neg z, e2, if_pos rfl]
      rw [hpf b c hc, hpf c b hb, not_or] at z
      rw [hgv b c hv hb hc z.1, hgv c b hv hc hb z.2]
      split
      · exact eqv_id h
      · exact eqv_id h
  · rw [if_neg q, if_neg q]
    exact eqv_b2 h
end EQVQ
