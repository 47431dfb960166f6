-- THE TWO SIDES: sets and greatest sums, richest, fair, hated
theorem lpF_cong {g g' : Nat → Int32 → Int32} : ∀ m i x, (∀ s, i ≤ s → s < i + m → ∀ y, g s y = g' s y) → lpF g m i x = lpF g' m i x
  | 0, _, _, _ => rfl
  | m + 1, i, x, h => by
    show lpF g m (i + 1) (g i x) = lpF g' m (i + 1) (g' i x)
    rw [h i (Nat.le_refl _) (by omega)]
    exact lpF_cong m (i + 1) _ (fun s h1 h2 => h s (by omega) (by omega))
def mxS (c : Nat → Bool) (v : Nat → Int32) (s : Nat) (x : Int32) : Int32 := if c s = true ∧ x < v s then v s else x
theorem lpF_max {c : Nat → Bool} {v : Nat → Int32} : ∀ m i x, x ≤ lpF (mxS c v) m i x ∧ (∀ s, i ≤ s → s < i + m → c s = true → v s ≤ lpF (mxS c v) m i x) ∧ (lpF (mxS c v) m i x = x ∨ ∃ s, i ≤ s ∧ s < i + m ∧ c s = true ∧ lpF (mxS c v) m i x = v s)
  | 0, i, x => ⟨Int32.le_refl _, fun s h1 h2 => absurd h2 (by omega), Or.inl rfl⟩
  | m + 1, i, x => by
    obtain ⟨h1, h2, h3⟩ := lpF_max (c := c) (v := v) m (i + 1) (mxS c v i x)
    have e : lpF (mxS c v) (m + 1) i x = lpF (mxS c v) m (i + 1) (mxS c v i x) := rfl
    rw [e]
    by_cases q : c i = true ∧ x < v i
    · have eq : mxS c v i x = v i := if_pos q
      rw [eq] at h1 h2 h3 ⊢
      refine ⟨Int32.le_trans (Int32.le_of_lt q.2) h1, fun s s1 s2 hs => ?_, ?_⟩
      · by_cases es : s = i
        · rw [es]
          exact h1
        · exact h2 s (by omega) (by omega) hs
      · rcases h3 with h3 | ⟨s, s1, s2, s3, s4⟩
        · exact Or.inr ⟨i, Nat.le_refl _, by omega, q.1, h3⟩
        · exact Or.inr ⟨s, by omega, by omega, s3, s4⟩
    · have eq : mxS c v i x = x := if_neg q
      rw [eq] at h1 h2 h3 ⊢
      refine ⟨h1, fun s s1 s2 hs => ?_, ?_⟩
      · by_cases es : s = i
        · subst es
          exact Int32.le_trans (Int32.not_lt.mp (fun z => q ⟨hs, z⟩)) h1
        · exact h2 s (by omega) (by omega) hs
      · rcases h3 with h3 | ⟨s, s1, s2, s3, s4⟩
        · exact Or.inl h3
        · exact Or.inr ⟨s, by omega, by omega, s3, s4⟩
theorem hv_s {S : aS} {W : Nat → Int32} {i : Nat} : hvF S W (i + 1) = if apS S i = true then (if hvF S W i < sumS W i 7 then sumS W i 7 else hvF S W i) else hvF S W i := rfl
theorem pg_s {f : Nat → Int32} {k : Nat} : pgF f (k + 1) = if f (pgF f k) < f (k + 1) then k + 1 else pgF f k := rfl
theorem hvF_lp {S : aS} {W : Nat → Int32} : ∀ n, hvF S W n = lpF (mxS (apS S) (fun s => sumS W s 7)) n 0 0 := by
  have snoc : ∀ (g : Nat → Int32 → Int32) m i x, lpF g (m + 1) i x = g (i + m) (lpF g m i x) := by
    intro g m
    induction m with
    | zero => exact fun i x => rfl
    | succ m ih =>
      intro i x
      show lpF g (m + 1) (i + 1) (g i x) = _
      rw [ih (i + 1) (g i x), show i + 1 + m = i + (m + 1) by omega]
      rfl
  intro n
  induction n with
  | zero => rfl
  | succ n ih =>
    rw [snoc, ← ih, Nat.zero_add, hv_s]
    unfold mxS
    by_cases q : apS S n = true
    · rw [if_pos q]
      by_cases q2 : hvF S W n < sumS W n 7
      · rw [if_pos q2, if_pos ⟨q, q2⟩]
      · rw [if_neg q2, if_neg (fun z => q2 z.2)]
    · rw [if_neg q, if_neg (fun z => q z.1)]
theorem hs_test : ∀ s, s < 128 → ∀ b, b < 7 → hsB (nI s) (nI b) = s.testBit b := by
  intro s hs b hb
  rw [hs_bt (by omega)]
  show (BitVec.ofNat 32 s).getLsbD b = _
  rw [BitVec.getLsbD_ofNat, decide_eq_true (show b < 32 by omega), Bool.true_and]
theorem bt_nI {s b : Nat} (hb : b < 32) : bt (nI s) b = s.testBit b := by
  show (BitVec.ofNat 32 s).getLsbD b = _
  rw [BitVec.getLsbD_ofNat, decide_eq_true hb, Bool.true_and]
theorem test_big {s B b : Nat} (hs : s < 2 ^ B) (hb : B ≤ b) : s.testBit b = false := Nat.testBit_lt_two_pow (Nat.lt_of_lt_of_le hs (Nat.pow_le_pow_right (by decide) hb))
theorem sumS_B {W : Nat → Int32} {s B : Nat} (hs : s < 2 ^ B) : ∀ m, sumS W s (B + m) = sumS W s B
  | 0 => rfl
  | m + 1 => by
    show (if s.testBit (B + m) then sumS W s (B + m) + W (B + m) else sumS W s (B + m)) = _
    rw [test_big hs (by omega), if_neg (by decide), sumS_B hs m]
theorem ibF_iff {M : aM} {x : Int32} : ∀ m b, ibF M x m b = false ↔ ∀ i, b ≤ i → i < b + m → hsB x (nI i) = true → M.2.1 (21 + i) 4 &&& x = 0
  | 0, b => ⟨fun _ i h1 h2 => absurd h2 (by omega), fun _ => rfl⟩
  | m + 1, b => by
    have ih := ibF_iff (M := M) (x := x) m (b + 1)
    unfold ibF
    by_cases q : (hsB x (nI b) && !decide (M.2.1 (21 + b) 4 &&& x = 0)) = true
    · rw [if_pos q]
      rw [Bool.and_eq_true] at q
      refine ⟨fun z => absurd z (by decide), fun h => ?_⟩
      have := h b (Nat.le_refl _) (by omega) q.1
      rw [decide_eq_true this] at q
      exact absurd q.2 (by decide)
    · rw [if_neg q, ih]
      constructor
      · intro h i h1 h2 h3
        by_cases e : i = b
        · subst e
          rw [h3, Bool.true_and] at q
          exact Classical.byContradiction (fun z => q (by rw [decide_eq_false z]; rfl))
        · exact h i (by omega) (by omega) h3
      · exact fun h i h1 h2 h3 => h i (by omega) (by omega) h3
theorem hi_test (s b i : Nat) : (hiB s b).testBit i = (decide (b < i) && s.testBit i) := by
  unfold hiB
  rw [Nat.testBit_shiftLeft, Nat.testBit_shiftRight]
  by_cases q : b < i
  · rw [decide_eq_true q, decide_eq_true (show i ≥ b + 1 by omega), Bool.true_and, Bool.true_and, show b + 1 + (i - (b + 1)) = i by omega]
  · rw [decide_eq_false q, decide_eq_false (show ¬ i ≥ b + 1 by omega), Bool.false_and, Bool.false_and]
theorem and0_iff {x : Int32} {s : Nat} (hs : s < 128) : x &&& nI s = 0 ↔ ∀ i, i < 7 → s.testBit i = true → bt x i = false := by
  constructor
  · intro h i hi h1
    have := congrArg (fun y => bt y i) h
    simp only [b_and, b_0, bt_nI (show i < 32 by omega), h1, Bool.and_true] at this
    exact this
  · intro h
    refine b_ext (fun i hi => ?_)
    rw [b_and, b_0, bt_nI hi]
    by_cases q : s.testBit i = true
    · have hi7 : i < 7 := Nat.lt_of_not_le (fun z => by rw [test_big (B := 7) hs z] at q; exact absurd q (by decide))
      rw [h i hi7 q, Bool.false_and]
    · rw [Bool.not_eq_true] at q
      rw [q, Bool.and_false]
section EQVP
variable {Q : aQ} {M K : aM} {P B : Nat}
theorem ap_ib {S : aS} {s : Nat} (hb : bSym S) (hT : TQ S M) (hB7 : B ≤ 7) (hs : s < 2 ^ B) : ibF M (nI s) B 0 = !apS S s := by
  have h128 : s < 128 := Nat.lt_of_lt_of_le hs (pow7 hB7)
  have key : ibF M (nI s) B 0 = false ↔ apS S s = true := by
    rw [ibF_iff, apS_iff]
    have e6 : ∀ i, i < 7 → S.2 6 i = M.2.1 (21 + i) 4 := fun i hi => hT.2.2.2.2.2.1 4 i (by decide) hi
    constructor
    · intro h b hb7 hbs
      have hbB : b < B := Nat.lt_of_not_le (fun z => by rw [test_big hs z] at hbs; exact absurd hbs (by decide))
      have h1 := h b (Nat.zero_le _) (by omega) (by rw [hs_test s h128 b hb7]; exact hbs)
      rw [← e6 b hb7, and0_iff h128] at h1
      rw [and0_iff (show hiB s b < 128 from by
        unfold hiB
        rw [Nat.shiftRight_eq_div_pow, Nat.shiftLeft_eq]
        exact Nat.lt_of_le_of_lt (Nat.div_mul_le_self _ _) h128)]
      intro i hi hi2
      rw [hi_test, Bool.and_eq_true] at hi2
      exact h1 i hi hi2.2
    · intro h i _ hi hi2
      have hi7 : i < 7 := by omega
      rw [hs_test s h128 i hi7] at hi2
      rw [← e6 i hi7, and0_iff h128]
      intro c hc hc2
      rcases Nat.lt_trichotomy i c with q | q | q
      · have h1 := h i hi7 hi2
        rw [and0_iff (show hiB s i < 128 from by
          unfold hiB
          rw [Nat.shiftRight_eq_div_pow, Nat.shiftLeft_eq]
          exact Nat.lt_of_le_of_lt (Nat.div_mul_le_self _ _) h128)] at h1
        exact h1 c hc (by rw [hi_test, decide_eq_true q, hc2]; rfl)
      · subst q
        exact (hb i i hi7 hi7).2
      · have h1 := h c hc hc2
        rw [and0_iff (show hiB s c < 128 from by
          unfold hiB
          rw [Nat.shiftRight_eq_div_pow, Nat.shiftLeft_eq]
          exact Nat.lt_of_le_of_lt (Nat.div_mul_le_self _ _) h128)] at h1
        rw [(hb i c hi7 hc).1]
        exact h1 i hi7 (by rw [hi_test, decide_eq_true q, hi2]; rfl)
  cases h1 : apS S s with
  | true =>
    rw [key.mpr h1]
    rfl
  | false =>
    cases h2 : ibF M (nI s) B 0 with
    | true => rfl
    | false =>
      have := key.mp h2
      rw [h1] at this
      exact absurd this (by decide)
theorem smM_sum {s : Nat} (hs : s < 128) (hB7 : B ≤ 7) : smM M s B = sumS (gainN (tM M)) s B := by
  have gen : ∀ m b x, b + m = B → x = sumS (gainN (tM M)) s b → lpF (smT M s) m b x = sumS (gainN (tM M)) s B := by
    intro m
    induction m with
    | zero =>
      intro b x hb hx
      have hb : b = B := by omega
      subst hb
      exact hx
    | succ m ih =>
      intro b x hb hx
      refine ih (b + 1) _ (by omega) ?_
      unfold smT sumS
      rw [hs_test s hs b (by omega), hx]
  exact gen B 0 0 (by omega) rfl
theorem eqv_free (h : Rl Q M K) (hQ : Q.1 = tM M) (hC : Cnt Q M P B) : Eqv (m_free Q) (lpF (frT M B) (2 ^ B) 0 0, M) M K := by
  obtain ⟨hP7, hB7, hP, hB, hPM, hBM, hI, eP, eB⟩ := hC
  refine eqv_v h ?_
  have hb := h.2.2.2.2.2.2.2.2.2.2.2.2.2
  rw [eB, hvF_lp]
  refine lpF_cong _ _ _ (fun s _ hs y => ?_)
  have hs : s < 2 ^ B := by omega
  have h128 : s < 128 := Nat.lt_of_lt_of_le hs (pow7 hB7)
  unfold mxS frT
  rw [ap_ib hb h.1 hB7 hs, smM_sum h128 hB7, hQ]
  have e7 : sumS (gainN (tM M)) s 7 = sumS (gainN (tM M)) s B := by
    have := sumS_B (W := gainN (tM M)) hs (7 - B)
    rwa [show B + (7 - B) = 7 by omega] at this
  show (if apS (tM M) s = true ∧ y < sumS (gainN (tM M)) s 7 then sumS (gainN (tM M)) s 7 else y) = _
  rw [e7]
  by_cases q : apS (tM M) s = true
  · rw [q]
    by_cases q2 : y < sumS (gainN (tM M)) s B
    · rw [if_pos ⟨rfl, q2⟩, if_pos ⟨q2, rfl⟩]
    · rw [if_neg (fun z => q2 z.2), if_neg (fun z => q2 z.1)]
  · rw [if_neg (fun z => q z.1), if_neg (fun z => by rw [Bool.not_eq_true] at q; rw [q] at z; exact absurd z.2 (by decide))]
theorem rc_eq {f : Nat → Int32} : ∀ k, k < 7 → pkF (fun _ => true) (fun t i => decide (f i < f t)) (k + 1) = nI (pgF f k)
  | 0, _ => rfl
  | k + 1, hk => by
    have ih := rc_eq (f := f) k (by omega)
    have e : pkF (fun _ => true) (fun t i => decide (f i < f t)) (k + 1 + 1) = if (true && (decide (pkF (fun _ => true) (fun t i => decide (f i < f t)) (k + 1) = -1) || decide (f (pkF (fun _ => true) (fun t i => decide (f i < f t)) (k + 1)).toNatClampNeg < f (k + 1)))) = true then nI (k + 1) else pkF (fun _ => true) (fun t i => decide (f i < f t)) (k + 1) := rfl
    have hle := pgF_le f k
    rw [e, ih, decide_eq_false (nI_nem1 (by omega)), nI_clamp (by omega), Bool.true_and, Bool.false_or, pg_s]
    by_cases q : f (pgF f k) < f (k + 1)
    · rw [if_pos (decide_eq_true q), if_pos q]
    · rw [if_neg (by rw [decide_eq_false q]; decide), if_neg q]
theorem eqv_richest (h : Rl Q M K) (hQ : Q.1 = tM M) (hC : Cnt Q M P B) : Eqv (m_richest Q) (m2_richest M P) M K := by
  obtain ⟨hP7, hB7, hP, hB, hPM, hBM, hI, eP, eB⟩ := hC
  unfold m_richest m2_richest
  rw [hP, eP]
  by_cases q : P = 0
  · subst q
    rw [if_pos (show nI 0 = 0 from rfl), if_pos (show rcM M 0 = -1 from rfl)]
    exact eqv_5 h
  · have e : rcM M P = nI (pgF (M.2.1 18) (P - 1)) := by
      have := rc_eq (f := M.2.1 18) (P - 1) (by omega)
      rwa [show P - 1 + 1 = P by omega] at this
    have hle := pgF_le (M.2.1 18) (P - 1)
    rw [if_neg (show ¬ nI P = 0 from fun z => q ((nI_eq (a := P) (b := 0) (by omega) (by decide)).mp z)), e, if_neg (nI_nem1 (by omega)), hQ]
    exact eqv_id h
theorem eqv_fair (h : Rl Q M K) (hQ : Q.1 = tM M) (hC : Cnt Q M P B) : Eqv (m_fair Q) (m2_fair M P) M K := by
  obtain ⟨hP7, hB7, hP, hB, hPM, hBM, hI, eP, eB⟩ := hC
  unfold m_fair m2_fair
  rw [hP, eP]
  by_cases q : P = 0
  · subst q
    rw [if_pos (show nI 0 = 0 from rfl), if_pos rfl]
    exact eqv_5 h
  · rw [if_neg (show ¬ nI P = 0 from fun z => q ((nI_eq (a := P) (b := 0) (by omega) (by decide)).mp z)), if_neg q, hQ]
    refine eqv_v h ?_
    have eT : (tM M).2 1 = M.2.1 19 := rfl
    rw [eT]
    generalize hf : M.2.1 19 = f
    have f1 : ∀ k, (fpF M k).1 = f (pgF f k) := by
      intro k
      induction k with
      | zero =>
        show M.2.1 19 0 = _
        rw [hf]
        rfl
      | succ k ih =>
        show (if (fpF M k).1 < M.2.1 19 (k + 1) then M.2.1 19 (k + 1) else (fpF M k).1) = _
        rw [ih, hf, pg_s]
        split <;> rfl
    have mono : ∀ k j, j ≤ k → f j ≤ f (pgF f k) := by
      intro k
      induction k with
      | zero =>
        intro j hj
        rw [show j = 0 by omega]
        exact Int32.le_refl _
      | succ k ih =>
        intro j hj
        rw [pg_s]
        by_cases q2 : f (pgF f k) < f (k + 1)
        · rw [if_pos q2]
          rcases Nat.lt_or_ge j (k + 1) with z | z
          · exact Int32.le_trans (ih j (by omega)) (Int32.le_of_lt q2)
          · rw [show j = k + 1 by omega]
            exact Int32.le_refl _
        · rw [if_neg q2]
          rcases Nat.lt_or_ge j (k + 1) with z | z
          · exact ih j (by omega)
          · rw [show j = k + 1 by omega]
            exact Int32.not_lt.mp q2
    have f2 : ∀ x, f 0 ≤ x → ∀ k, (fpF M k).2 = mnF f x (k + 1) := by
      intro x hx k
      induction k with
      | zero =>
        show M.2.1 19 0 = if f 0 < x then f 0 else x
        rw [hf]
        by_cases q2 : f 0 < x
        · rw [if_pos q2]
        · rw [if_neg q2]
          exact Int32.le_antisymm hx (Int32.not_lt.mp q2)
      | succ k ih =>
        show (if M.2.1 19 (k + 1) < (fpF M k).2 then M.2.1 19 (k + 1) else (fpF M k).2) = if f (k + 1) < mnF f x (k + 1) then f (k + 1) else mnF f x (k + 1)
        rw [ih, hf]
    have f3 := f2 (f (pgF f (P - 1))) (mono (P - 1) 0 (Nat.zero_le _)) (P - 1)
    rw [show P - 1 + 1 = P by omega] at f3
    rw [f1, f3]
theorem arg_eq {f : Nat → Int32} : ∀ k, k ≤ 7 → (argM f k).1 = pkF (fun _ => true) (gtF f) k ∧ (¬ (argM f k).1 = -1 → (argM f k).2 = f (argM f k).1.toNatClampNeg)
  | 0, _ => ⟨rfl, fun z => absurd rfl z⟩
  | k + 1, hk => by
    obtain ⟨i1, i2⟩ := arg_eq (f := f) k (by omega)
    have e1 : argM f (k + 1) = if (argM f k).1 = -1 ∨ (argM f k).2 < f k then (nI k, f k) else argM f k := rfl
    have e2 : pkF (fun _ => true) (gtF f) (k + 1) = if (true && (decide (pkF (fun _ => true) (gtF f) k = -1) || decide (f (pkF (fun _ => true) (gtF f) k).toNatClampNeg < f k))) = true then nI k else pkF (fun _ => true) (gtF f) k := rfl
    rw [e1, e2, ← i1, Bool.true_and]
    by_cases q : (argM f k).1 = -1
    · rw [if_pos (Or.inl q), if_pos (by rw [decide_eq_true q, Bool.true_or])]
      exact ⟨rfl, fun _ => by rw [nI_clamp (by omega)]⟩
    · rw [decide_eq_false q, Bool.false_or, ← i2 q]
      by_cases q2 : (argM f k).2 < f k
      · rw [if_pos (Or.inr q2), if_pos (decide_eq_true q2)]
        exact ⟨rfl, fun _ => by rw [nI_clamp (by omega)]⟩
      · rw [if_neg (fun z => z.elim q q2), if_neg (by rw [decide_eq_false q2]; decide)]
        exact ⟨rfl, i2⟩
theorem argM_cong {f g : Nat → Int32} : ∀ k, (∀ i, i < k → f i = g i) → argM f k = argM g k
  | 0, _ => rfl
  | k + 1, h => by
    have ih := argM_cong (f := f) (g := g) k (fun i hi => h i (by omega))
    unfold argM
    rw [ih, h k (by omega)]
theorem eqv_fr {v v2 : Int32} (h : Rl Q M K) (e : v = v2) : Eqv (frst Q v) (frM M v2) M K := by
  subst e
  unfold frst frM
  split
  · exact eqv_5 h
  · exact eqv_id h
theorem bc_tab : ∀ b, b < 7 → ∀ x, x < 2 ^ b → bcount (nI (x + 2 ^ b)) = bcount (nI x) + 1 := by decide +kernel
theorem hat_eq {i : Nat} : ∀ b, b ≤ 7 → bcount (bitsOf (fun b => gd (tM M) b i) b) = hatM M i b := by
  intro b hb
  rw [bits_gdN (S := tM M) (B := 7) (c := i) b hb]
  induction b with
  | zero =>
    show bcount (nI 0) = (0 : Int32)
    decide +kernel
  | succ b ih =>
    have ih := ih (by omega)
    have hlt := gdN_lt (S := tM M) (B := 7) (c := i) b
    unfold gdN hatM
    by_cases q : gd (tM M) b i = true
    · rw [if_pos q, if_pos q, bc_tab b (by omega) _ hlt, ih]
    · rw [if_neg q, if_neg q, ih]
theorem eqv_hated (h : Rl Q M K) (hQ : Q.1 = tM M) (hC : Cnt Q M P B) : Eqv (m_hated Q) (frM M (pkF (fun _ => true) (gtF (fun t => hatM M t B)) P)) M K := by
  obtain ⟨hP7, hB7, hP, hB, hPM, hBM, hI, eP, eB⟩ := hC
  unfold m_hated
  refine eqv_fr h ?_
  rw [eP, ← (arg_eq (f := fun t => hatM M t B) P hP7).1]
  refine congrArg Prod.fst (argM_cong P (fun i _ => ?_))
  unfold hatF
  rw [eB, hQ]
  exact hat_eq B hB7
end EQVP
