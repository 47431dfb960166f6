-- THE TWO SIDES: whom a rule names
theorem may_M {M : aM} {P b t : Nat} {x : Int32} (hv : VOk (tM M)) (hP7 : P ≤ 7) (ht : t < P) : hbI (mayB (tM M) b P x) (nI t) = mayM M b t x := by
  rw [hb_bt (by omega), mayB_bt hP7 (by omega), decide_eq_true ht, Bool.true_and]
  unfold mayM
  rw [hs_bt (by omega)]
  have hone : M.2.1 36 1 = 0 ∨ M.2.1 36 1 = 1 := hv.2.2.2.2.1
  have e : (tM M).1 3 = M.2.1 36 1 := rfl
  rw [e]
  rcases hone with h | h <;> rw [h] <;> rfl
theorem pk_fmst {ok ok' : Nat → Bool} {sc : Nat → Int32} {better : Nat → Nat → Bool} : ∀ k, k ≤ 32 → (∀ t, t < k → ok' t = ok t) → (∀ t u, t < k → u < k → better t u = decide (sc u < sc t)) → pkF ok' better k = (fmst ok sc k).1
  | 0, _, _, _ => rfl
  | k + 1, hk, h1, h2 => by
    have ih := pk_fmst (ok := ok) (ok' := ok') (sc := sc) (better := better) k (by omega) (fun t ht => h1 t (by omega)) (fun t u ht hu => h2 t u (by omega) (by omega))
    have e1 : fmst ok sc (k + 1) = if ok k && (decide ((fmst ok sc k).1 = -1) || decide ((fmst ok sc k).2 < sc k)) then (nI k, sc k) else fmst ok sc k := rfl
    have e2 : pkF ok' better (k + 1) = if ok' k && (decide (pkF ok' better k = -1) || better k (pkF ok' better k).toNatClampNeg) then nI k else pkF ok' better k := rfl
    rw [e1, e2, ih, h1 k (by omega)]
    have e3 : (ok k && (decide ((fmst ok sc k).1 = -1) || better k (fmst ok sc k).1.toNatClampNeg)) = (ok k && (decide ((fmst ok sc k).1 = -1) || decide ((fmst ok sc k).2 < sc k))) := by
      rcases fmst_max (ok := ok) (sc := sc) k (by omega) with ⟨-, q⟩ | ⟨t, q1, -, q2, q3, -⟩
      · rw [q, decide_eq_true (show (-1 : Int32) = -1 from rfl), Bool.true_or, Bool.true_or]
      · rw [q2, q3, nI_clamp (by omega), h2 k t (by omega) (by omega)]
    rw [e3]
    split <;> rfl
theorem neg_loss {S : aS} {b t u : Nat} (hv : VOk S) (hb : b < 7) (ht : t < 7) (hu : u < 7) : -lossN S b u < -lossN S b t ↔ lossN S b t < lossN S b u := by
  have l1 := hv.2.2.1 b t hb ht
  have l2 := hv.2.2.1 b u hb hu
  have n1 : (-lossN S b t).toInt = -(lossN S b t).toInt := by
    rw [Int32.toInt_neg, Int.bmod_eq_of_le (by omega) (by omega)]
  have n2 : (-lossN S b u).toInt = -(lossN S b u).toInt := by
    rw [Int32.toInt_neg, Int.bmod_eq_of_le (by omega) (by omega)]
  rw [Int32.lt_iff_toInt_lt, Int32.lt_iff_toInt_lt, n1, n2]
  omega
theorem lt0_nn {a b : Nat} (ha : a < 2 ^ 31) (hb : b < 2 ^ 31) : lt0 (nI a) (nI b) = decide (a < b) := by
  by_cases q : a < b
  · rw [decide_eq_true q]
    exact decide_eq_true ⟨nI_pos ha, nI_ge q hb⟩
  · rw [decide_eq_false q]
    exact decide_eq_false (fun z => z.2 (nI_le (by omega) ha))
theorem st_tab : ∀ P, P < 8 → ∀ a, a < 100 → ∀ i, i < P → -stepsR ((a + i) % P) (nI a) P = -nI i := by decide +kernel
theorem st_ex : ∀ P, P < 8 → ∀ a, a < 100 → ∀ t, t < P → ∃ i, i < P ∧ (a + i) % P = t := by decide +kernel
theorem nneg_le : ∀ i, i < 7 → ∀ j, j < 7 → (-nI i ≤ -nI j ↔ j ≤ i) := by decide +kernel
section EQVN
variable {Q : aQ} {M K : aM} {P B : Nat}
theorem mild_eq {b kd : Nat} {x a : Int32} (hv : VOk (tM M)) (hP7 : P ≤ 7) (hb : b < 7) (hkd : kd = 1 ∨ kd = 2 ∨ kd = 5) : mildM M b x P = (fmst (fun i => hbI (mayB (tM M) b P x) (nI i)) (scoreK (tM M) P kd a b) P).1 := by
  refine pk_fmst P (by omega) (fun t ht => (may_M hv hP7 ht).symm) (fun t u ht hu => ?_)
  have e : ∀ t, scoreK (tM M) P kd a b t = -lossN (tM M) b t := fun t => by
    unfold scoreK
    rw [if_neg (by omega), if_neg (by omega), if_neg (by omega)]
  show decide (M.2.1 (29 + b) t < M.2.1 (29 + b) u) = _
  refine decide_eq_decide.mpr ?_
  rw [e, e, neg_loss hv hb (t := t) (u := u) (by omega) (by omega), t_loss (by omega), t_loss (by omega)]
theorem rd_eq {b a : Nat} {x : Int32} (hv : VOk (tM M)) (hP7 : P ≤ 7) (ha : a ≤ 99) : rdM M b x a P P 0 = (fmst (fun i => hbI (mayB (tM M) b P x) (nI i)) (scoreK (tM M) P 6 (nI a) b) P).1 := by
  have e : ∀ t, scoreK (tM M) P 6 (nI a) b t = -stepsR t (nI a) P := fun t => rfl
  rcases fmst_max (ok := fun i => hbI (mayB (tM M) b P x) (nI i)) (sc := scoreK (tM M) P 6 (nI a) b) P (by omega) with ⟨h1, h2⟩ | ⟨t, h1, h2, h3, -, h5, -⟩
  · rw [h2]
    have gen : ∀ m i, i + m = P → rdM M b x a P m i = -1 := by
      intro m
      induction m with
      | zero => exact fun _ _ => rfl
      | succ m ih =>
        intro i hi
        show (if mayM M b ((a + i) % P) x = true then nI ((a + i) % P) else rdM M b x a P m (i + 1)) = -1
        have hlt : (a + i) % P < P := Nat.mod_lt _ (by omega)
        rw [if_neg (by rw [← may_M hv hP7 hlt, h1 _ hlt]; decide), ih (i + 1) (by omega)]
    exact gen P 0 (by omega)
  · rw [h3]
    obtain ⟨j, hj, ej⟩ := st_ex P (by omega) a (by omega) t h1
    have gen : ∀ m i, i + m = P → i ≤ j → rdM M b x a P m i = nI t := by
      intro m
      induction m with
      | zero => exact fun i hi hij => absurd hij (by omega)
      | succ m ih =>
        intro i hi hij
        show (if mayM M b ((a + i) % P) x = true then nI ((a + i) % P) else rdM M b x a P m (i + 1)) = nI t
        have hlt : (a + i) % P < P := Nat.mod_lt _ (by omega)
        by_cases q : i = j
        · subst q
          rw [ej, if_pos (by rw [← may_M hv hP7 h1]; exact h2)]
        · rw [if_neg (fun z => ?_), ih (i + 1) (by omega) (by omega)]
          rw [← may_M hv hP7 hlt] at z
          have := h5 _ hlt z
          rw [e, e, ← ej, st_tab P (by omega) a (by omega) i (by omega), st_tab P (by omega) a (by omega) j hj, nneg_le i (by omega) j (by omega)] at this
          omega
    exact gen P 0 (by omega) (Nat.zero_le _)
theorem third_eq {kd a b : Nat} {x : Int32} (hv : VOk (tM M)) (hP7 : P ≤ 7) (hb : b < 7) (k1 : 1 ≤ kd) (k6 : kd ≤ 6) (ha : a ≤ 99) : thirdN (tM M) P kd (nI a) b (mayB (tM M) b P x) = namM M P kd a b x := by
  unfold thirdN namM
  rcases (show kd = 1 ∨ kd = 2 ∨ kd = 3 ∨ kd = 4 ∨ kd = 5 ∨ kd = 6 by omega) with rfl | rfl | rfl | rfl | rfl | rfl
  · rw [if_neg (fun z => absurd z.1 (by decide)), if_neg (fun z => absurd z.1 (by decide)), if_pos rfl, mild_eq hv hP7 hb (Or.inl rfl)]
  · rw [if_neg (show ¬ (2 : Nat) = 1 by decide), if_pos (show (2 : Nat) = 2 from rfl)]
    unfold swM
    have e : hbI (mayB (tM M) b P x) (nI a) = (lt0 (nI a) (nI P) && mayM M b (nI a).toNatClampNeg x) := by
      rw [nI_clamp (by omega)]
      by_cases q : a < P
      · rw [lt0_nn (by omega) (by omega), may_M hv hP7 q, show decide (a < P) = true from decide_eq_true q, Bool.true_and]
      · rw [lt0_nn (by omega) (by omega), decide_eq_false q, Bool.false_and]
        cases z : hbI (mayB (tM M) b P x) (nI a) with
        | false => rfl
        | true =>
          obtain ⟨i, hi, ei, -⟩ := may_in hP7 z
          exact absurd ((nI_eq (by omega) (by omega)).mp ei) (by omega)
    rw [e]
    by_cases q : (lt0 (nI a) (nI P) && mayM M b (nI a).toNatClampNeg x) = true
    · rw [if_pos ⟨rfl, q⟩, if_pos q]
    · rw [if_neg (fun z => q z.2), if_neg (fun z => absurd z.1 (by decide)), if_neg q, mild_eq hv hP7 hb (Or.inr (Or.inl rfl))]
  · rw [if_neg (fun z => absurd z.1 (by decide)), if_neg (fun z => absurd z.1 (by decide)), if_neg (show ¬ (3 : Nat) = 1 by decide), if_neg (show ¬ (3 : Nat) = 2 by decide), if_pos (show (3 : Nat) = 3 from rfl)]
    exact (pk_fmst P (by omega) (fun t ht => (may_M hv hP7 ht).symm) (fun t u ht hu => rfl)).symm
  · rw [if_neg (fun z => absurd z.1 (by decide)), if_neg (fun z => absurd z.1 (by decide)), if_neg (show ¬ (4 : Nat) = 1 by decide), if_neg (show ¬ (4 : Nat) = 2 by decide), if_neg (show ¬ (4 : Nat) = 3 by decide), if_pos (show (4 : Nat) = 4 from rfl)]
    refine (pk_fmst P (by omega) (fun t ht => (may_M hv hP7 ht).symm) (fun t u ht hu => ?_)).symm
    have e : ∀ t, scoreK (tM M) P 4 (nI a) b t = lossN (tM M) b t := fun t => rfl
    rw [e, e, t_loss (by omega), t_loss (by omega)]
  · rw [if_neg (fun z => absurd z.1 (by decide)), if_neg (show ¬ (5 : Nat) = 1 by decide), if_neg (show ¬ (5 : Nat) = 2 by decide), if_neg (show ¬ (5 : Nat) = 3 by decide), if_neg (show ¬ (5 : Nat) = 4 by decide), if_pos (show (5 : Nat) = 5 from rfl)]
    unfold chM
    rw [mild_eq (kd := 5) (a := nI a) hv hP7 hb (Or.inr (Or.inr rfl))]
    generalize (fmst (fun i => hbI (mayB (tM M) b P x) (nI i)) (scoreK (tM M) P 5 (nI a) b) P).1 = y
    by_cases q : y = -1
    · rw [if_neg (fun z => z.2.1 q), if_pos q]
    · rw [if_neg q]
      by_cases q2 : valN (tM M) b y.toNatClampNeg < nI a
      · rw [if_pos ⟨rfl, q, q2⟩, if_pos q2]
      · rw [if_neg (fun z => q2 z.2.2), if_neg q2]
  · rw [if_neg (fun z => absurd z.1 (by decide)), if_neg (fun z => absurd z.1 (by decide)), if_neg (show ¬ (6 : Nat) = 1 by decide), if_neg (show ¬ (6 : Nat) = 2 by decide), if_neg (show ¬ (6 : Nat) = 3 by decide), if_neg (show ¬ (6 : Nat) = 4 by decide), if_neg (show ¬ (6 : Nat) = 5 by decide)]
    exact (rd_eq hv hP7 ha).symm
end EQVN
