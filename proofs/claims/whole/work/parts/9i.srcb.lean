-- SEARCH: the best of the reference is the best of all weeks
def Av (S : aS) (P B : Nat) (who : Int32) (f : Nat → Nat) : Prop := ∃ j, j < 2 ^ B ∧ Wp S who P j f
section SRCB
variable {M : aM} {P B : Nat} {only : Int32}
theorem ky_nn {U : Nat → Nat → Int} {f : Nat → Nat} (h : ∀ c b, 0 ≤ U c b) : ∀ m, 0 ≤ kyI U f m
  | 0 => Int.le_refl _
  | m + 1 => by
    have ih := ky_nn (f := f) h m
    have := h (f m - 1) m
    show 0 ≤ kyI U f m + (if f m = 0 then 0 else U (f m - 1) m)
    split <;> omega
theorem cdU_nn (c b : Nat) : 0 ≤ cdU c b := Int.mul_nonneg (by omega) (Int.le_of_lt (Int.pow_pos (by decide)))
theorem ky_0 {U : Nat → Nat → Int} : ∀ m, kyI U (fun _ => 0) m = 0
  | 0 => rfl
  | m + 1 => by
    show kyI U (fun _ => 0) m + (if (0 : Nat) = 0 then 0 else U (0 - 1) m) = 0
    rw [ky_0 m, if_pos rfl]
    rfl
theorem bb_spec {X : aT} (hv : VOk (tM M)) (hP7 : P ≤ 7) (hB7 : B ≤ 7) : ∃ f, Rd M P B only f ∧ vl (tM M) f = (bbX M P B only X).1.toInt ∧ (∀ i, i < B → (bbX M P B only X).2.2 i = enc (f i)) ∧ (∀ g, Rd M P B only g → vl (tM M) g ≤ (bbX M P B only X).1.toInt) ∧ ∀ g, Rd M P B only g → vl (tM M) g = (bbX M P B only X).1.toInt → cd f ≤ cd g := by
  have hr0 : Rd M P B only (fun _ => 0) := ⟨fun i => Or.inl rfl, fun i k hi => absurd rfl hi, Or.inr (fun i k hi => absurd rfl hi)⟩
  have hv0 : vl (tM M) (fun _ => 0) = 0 := ky_0 7
  have hd : Nd M P B only 0 (fun _ => 0) 0 0 0 (0, X.2.1, ngF X.2.2 B) := by
    refine ⟨hr0, fun _ _ => rfl, fun i hi => b_0 i, fun t ht => ⟨fun z => ?_, fun ⟨i, z⟩ => ?_⟩, ?_, fun i hi => absurd hi (by omega)⟩
    · rw [hs_bt (by omega), b_0] at z
      exact absurd z (by decide)
    · have z : (0 : Nat) = t + 1 := z
      omega
    · rw [hv0]
      rfl
  obtain ⟨⟨k1, k2, k3⟩, -⟩ := sek_spec hv hP7 hB7 B 0 _ _ _ _ _ (Nat.zero_add B) hd
  have e : bbX M P B only X = sekF M P B only B 0 0 0 (0, X.2.1, ngF X.2.2 B) := rfl
  rw [← e] at k1 k2 k3
  generalize bbX M P B only X = R at *
  have all : ∀ g, Rd M P B only g → vl (tM M) g ≤ R.1.toInt := fun g hg => k2 g ⟨hg, fun i hi => absurd hi (by omega)⟩
  rcases k3 with ⟨e1, e2⟩ | ⟨f, hf, e1, e2, e3, e4⟩
  · have e1 : R.1 = 0 := e1
    refine ⟨fun _ => 0, hr0, by rw [hv0, e1]; rfl, fun i hi => ?_, all, fun g hg _ => ?_⟩
    · rw [e2]
      exact if_pos hi
    · show kyI cdU (fun _ => 0) 7 ≤ kyI cdU g 7
      rw [ky_0]
      exact ky_nn cdU_nn 7
  · exact ⟨f, hf.1, e1, e3, all, fun g hg eg => e4 g ⟨hg, fun i hi => absurd hi (by omega)⟩ eg⟩
theorem hb_hs {x : Int32} {t : Nat} (ht : t < 32) : hbI x (nI t) = hsB x (nI t) := (hb_bt ht).trans (hs_bt ht).symm
/-- the mildest third that may be, by the reference -/
theorem mo_spec {b : Nat} (hv : VOk (tM M)) (hP7 : P ≤ 7) (hb : b < 7) : (mildO M b only P = -1 ∧ ∀ t, t < P → (hsB only (nI t) && gd (tM M) b t) = false) ∨ ∃ t, t < P ∧ mildO M b only P = nI t ∧ (hsB only (nI t) && gd (tM M) b t) = true ∧ ∀ u, u < P → (hsB only (nI u) && gd (tM M) b u) = true → (valN (tM M) b u).toInt ≤ (valN (tM M) b t).toInt ∧ ((valN (tM M) b u).toInt = (valN (tM M) b t).toInt → t ≤ u) := by
  have e : mildO M b only P = (fmst (fun t => hsB only (nI t) && gd (tM M) b t) (fun t => -lossN (tM M) b t) P).1 := by
    unfold mildO
    refine pk_fmst P (by omega) (fun t ht => ?_) (fun t u ht hu => ?_)
    · unfold onlM
      first | rfl | exact Bool.and_comm _ _
    · show decide (M.2.1 (29 + b) t < M.2.1 (29 + b) u) = _
      refine decide_eq_decide.mpr ?_
      rw [neg_loss hv hb (t := t) (u := u) (by omega) (by omega), t_loss (by omega), t_loss (by omega)]
  rw [e]
  rcases fmst_max (ok := fun t => hsB only (nI t) && gd (tM M) b t) (sc := fun t => -lossN (tM M) b t) P (by omega) with ⟨h1, h2⟩ | ⟨t, h1, h2, h3, -, h5, h6⟩
  · exact Or.inl ⟨h2, h1⟩
  · refine Or.inr ⟨t, h1, h3, h2, fun u hu hok => ⟨?_, fun eq => ?_⟩⟩
    · exact Int32.le_iff_toInt_le.mp ((val_le hv hb (by omega) (by omega)).mp (h5 u hu hok))
    · refine Nat.le_of_not_lt (fun z => ?_)
      have h9 := h6 u z hok
      have h8 := (val_le hv hb (t := t) (u := u) (by omega) (by omega)).mpr (Int32.le_iff_toInt_le.mpr (by omega))
      exact absurd h9 (Int32.not_lt.mpr h8)
theorem rd_av {f : Nat → Nat} (hv : VOk (tM M)) (hP7 : P ≤ 7) (hB7 : B ≤ 7) (h : Rd M P B only f) : Av (tM M) P B only f := by
  obtain ⟨k, hk, hkb⟩ := tb_mask (g := fun i => !decide (f i = 0)) B hB7
  have hsym : bSym (tM M) := hv.2.2.2.2.2.2.2
  have h128 := Nat.lt_of_lt_of_le hk (pow7 hB7)
  have tb : ∀ i, k.testBit i = true ↔ ¬ f i = 0 := by
    intro i
    rw [hkb, Bool.and_eq_true, decide_eq_true_iff, Bool.not_eq_true', decide_eq_false_iff_not]
    constructor
    · exact fun z => z.2
    · intro z
      rcases h.1 i with y | y
      · exact absurd y z
      · exact ⟨y.1, z⟩
  have lt7 : ∀ i, ¬ f i = 0 → i < 7 := fun i hi => by
    rcases h.1 i with y | y
    · exact absurd y hi
    · omega
  refine ⟨k, hk, fun i => ?_, ?_, fun i hi => ?_, h.2.2⟩
  · have := tb i
    cases q : k.testBit i
    · rw [q] at this
      exact ⟨fun _ => rfl, fun _ => Classical.byContradiction (fun z => absurd (this.mpr z) (by decide))⟩
    · exact ⟨fun z => absurd z (this.mp q), fun z => absurd z (by decide)⟩
  · rw [apS_iff]
    intro b hb hbk
    rw [and0_iff (show hiB k b < 128 from by
      unfold hiB
      rw [Nat.shiftRight_eq_div_pow, Nat.shiftLeft_eq]
      exact Nat.lt_of_le_of_lt (Nat.div_mul_le_self _ _) h128)]
    intro i hi hi2
    rw [hi_test, Bool.and_eq_true, decide_eq_true_iff] at hi2
    rw [(hsym b i hb hi).1]
    exact h.2.1 b i ((tb b).mp hbk) ((tb i).mp hi2.2) hi2.1
  · have hi7 := lt7 i hi
    rcases h.1 i with y | ⟨y1, y2, y3⟩
    · exact absurd y hi
    · refine ⟨y2, ?_⟩
      have ht : f i - 1 < P := by omega
      rw [hb_hs (by omega)]
      unfold alM at y3
      by_cases q : M.2.1 36 1 = 0
      · rw [if_pos q, decide_eq_true_iff] at y3
        rcases mo_spec (only := only) hv hP7 hi7 with ⟨m1, -⟩ | ⟨t, t1, t2, t3, -⟩
        · exact absurd (y3.trans m1) (nI_nem1 (by omega))
        · have : f i - 1 = t := (nI_eq (by omega) (by omega)).mp (y3.trans t2)
          rw [this]
          rw [Bool.and_eq_true] at t3
          exact t3
      · rw [if_neg q, Bool.and_eq_true] at y3
        exact y3
theorem ky_mono {U : Nat → Nat → Int} {f g : Nat → Nat} (h : ∀ b, b < 7 → (if f b = 0 then (0 : Int) else U (f b - 1) b) ≤ if g b = 0 then (0 : Int) else U (g b - 1) b) : ∀ m, m ≤ 7 → kyI U f m ≤ kyI U g m ∧ (kyI U f m = kyI U g m → ∀ b, b < m → (if f b = 0 then (0 : Int) else U (f b - 1) b) = if g b = 0 then (0 : Int) else U (g b - 1) b)
  | 0, _ => ⟨Int.le_refl _, fun _ b hb => absurd hb (by omega)⟩
  | m + 1, hm => by
    obtain ⟨i1, i2⟩ := ky_mono h m (by omega)
    have hm := h m (by omega)
    have e1 : kyI U f (m + 1) = kyI U f m + (if f m = 0 then 0 else U (f m - 1) m) := rfl
    have e2 : kyI U g (m + 1) = kyI U g m + (if g m = 0 then 0 else U (g m - 1) m) := rfl
    rw [e1, e2]
    refine ⟨by omega, fun e b hb => ?_⟩
    by_cases q : b = m
    · rw [q]
      omega
    · exact i2 (by omega) b (by omega)
theorem av_rd {f : Nat → Nat} (hv : VOk (tM M)) (hP7 : P ≤ 7) (hB7 : B ≤ 7) (h : Av (tM M) P B only f) : ∃ g, Rd M P B only g ∧ vl (tM M) f ≤ vl (tM M) g ∧ (vl (tM M) f = vl (tM M) g → cd g ≤ cd f) := by
  obtain ⟨j, hj, w1, w2, w3, w4⟩ := h
  have hsym : bSym (tM M) := hv.2.2.2.2.2.2.2
  have h128 := Nat.lt_of_lt_of_le hj (pow7 hB7)
  have tb : ∀ i, ¬ f i = 0 → j.testBit i = true := fun i hi => by
    cases q : j.testBit i
    · exact absurd ((w1 i).mpr q) hi
    · rfl
  have ltB : ∀ i, ¬ f i = 0 → i < B := fun i hi => Nat.lt_of_not_le (fun z => by
    have := tb i hi
    rw [test_big hj z] at this
    exact absurd this (by decide))
  have apart : ∀ i k, ¬ f i = 0 → ¬ f k = 0 → i < k → bt (M.2.1 (21 + k) 4) i = false := by
    intro i k hi hk hik
    have hk7 : k < 7 := Nat.lt_of_lt_of_le (ltB k hk) hB7
    have h1 := apS_iff.mp w2 i (by omega) (tb i hi)
    rw [and0_iff (show hiB j i < 128 from by
      unfold hiB
      rw [Nat.shiftRight_eq_div_pow, Nat.shiftLeft_eq]
      exact Nat.lt_of_le_of_lt (Nat.div_mul_le_self _ _) h128)] at h1
    have h2 := h1 k hk7 (by rw [hi_test, decide_eq_true hik, tb k hk]; rfl)
    rw [(hsym i k (by omega) hk7).1] at h2
    exact h2
  have al : ∀ i, ¬ f i = 0 → f i ≤ P ∧ (hsB only (nI (f i - 1)) && gd (tM M) i (f i - 1)) = true := by
    intro i hi
    have := w3 i hi
    refine ⟨this.1, ?_⟩
    rw [← hb_hs (by omega), Bool.and_eq_true]
    exact this.2
  by_cases q : M.2.1 36 1 = 0
  · let g : Nat → Nat := fun i => if f i = 0 then 0 else (mildO M i only P).toNatClampNeg + 1
    have hg : ∀ i, f i = 0 → g i = 0 := fun i hi => if_pos hi
    have hg2 : ∀ i, ¬ f i = 0 → ∃ t, t < P ∧ g i = t + 1 ∧ mildO M i only P = nI t ∧ (valN (tM M) i (f i - 1)).toInt ≤ (valN (tM M) i t).toInt ∧ ((valN (tM M) i (f i - 1)).toInt = (valN (tM M) i t).toInt → t ≤ f i - 1) := by
      intro i hi
      have hi7 : i < 7 := Nat.lt_of_lt_of_le (ltB i hi) hB7
      obtain ⟨a1, a2⟩ := al i hi
      rcases mo_spec (only := only) hv hP7 hi7 with ⟨m1, m2⟩ | ⟨t, t1, t2, t3, t4⟩
      · have := m2 (f i - 1) (by omega)
        rw [this] at a2
        exact absurd a2 (by decide)
      · have h9 := t4 (f i - 1) (by omega) a2
        refine ⟨t, t1, ?_, t2, h9.1, h9.2⟩
        show (if f i = 0 then 0 else (mildO M i only P).toNatClampNeg + 1) = _
        rw [if_neg hi, t2, nI_clamp (by omega)]
    have hg0 : ∀ i, g i = 0 ↔ f i = 0 := fun i => ⟨fun z => Classical.byContradiction (fun y => by
      obtain ⟨t, -, e, -⟩ := hg2 i y
      omega), hg i⟩
    have mono := ky_mono (U := vlU (tM M)) (f := f) (g := g) (fun b hb => by
      by_cases z : f b = 0
      · rw [if_pos z, if_pos (hg b z)]
        exact Int.le_refl _
      · obtain ⟨t, t1, t2, t3, t4, t5⟩ := hg2 b z
        have a1 := (al b z).1
        rw [if_neg z, if_neg (by omega), t2, Nat.add_sub_cancel]
        unfold vlU
        rw [if_pos ⟨by omega, hb⟩, if_pos ⟨by omega, hb⟩]
        exact t4) 7 (Nat.le_refl _)
    refine ⟨g, ⟨fun i => ?_, fun i k hi hk hik => apart i k (fun z => hi (hg i z)) (fun z => hk (hg k z)) hik, Or.inl q⟩, mono.1, fun e => ?_⟩
    · by_cases z : f i = 0
      · exact Or.inl (hg i z)
      · obtain ⟨t, t1, t2, t3, -⟩ := hg2 i z
        refine Or.inr ⟨ltB i z, by omega, ?_⟩
        unfold alM
        rw [if_pos q, t2, Nat.add_sub_cancel, t3]
        exact decide_eq_true rfl
    · have eqs := mono.2 e
      refine (ky_mono (U := cdU) (f := g) (g := f) (fun b hb => ?_) 7 (Nat.le_refl _)).1
      by_cases z : f b = 0
      · rw [if_pos z, if_pos (hg b z)]
        exact Int.le_refl _
      · obtain ⟨t, t1, t2, t3, t4, t5⟩ := hg2 b z
        have a1 := (al b z).1
        have h9 := eqs b hb
        rw [if_neg z, if_neg (by omega), t2, Nat.add_sub_cancel] at h9
        unfold vlU at h9
        rw [if_pos ⟨by omega, hb⟩, if_pos ⟨by omega, hb⟩] at h9
        have h8 := t5 h9
        rw [if_neg z, if_neg (by omega), t2, Nat.add_sub_cancel]
        unfold cdU
        exact Int.mul_le_mul_of_nonneg_right (by omega) (Int.le_of_lt (Int.pow_pos (by decide)))
  · refine ⟨f, ⟨fun i => ?_, apart, w4⟩, Int.le_refl _, fun _ => Int.le_refl _⟩
    by_cases z : f i = 0
    · exact Or.inl z
    · obtain ⟨a1, a2⟩ := al i z
      refine Or.inr ⟨ltB i z, a1, ?_⟩
      unfold alM
      rw [if_neg q]
      exact a2
/-- the reference's best: the first of the best of all weeks -/
theorem bb_all {X : aT} (hv : VOk (tM M)) (hP7 : P ≤ 7) (hB7 : B ≤ 7) : ∃ f, Av (tM M) P B only f ∧ vl (tM M) f = (bbX M P B only X).1.toInt ∧ (∀ i, i < B → (bbX M P B only X).2.2 i = enc (f i)) ∧ (∀ g, Av (tM M) P B only g → vl (tM M) g ≤ (bbX M P B only X).1.toInt) ∧ ∀ g, Av (tM M) P B only g → vl (tM M) g = (bbX M P B only X).1.toInt → cd f ≤ cd g := by
  obtain ⟨f, h1, h2, h3, h4, h5⟩ := bb_spec (X := X) (only := only) hv hP7 hB7
  refine ⟨f, rd_av hv hP7 hB7 h1, h2, h3, fun g hg => ?_, fun g hg e => ?_⟩
  · obtain ⟨g', a1, a2, -⟩ := av_rd hv hP7 hB7 hg
    have := h4 g' a1
    omega
  · obtain ⟨g', a1, a2, a3⟩ := av_rd hv hP7 hB7 hg
    have h6 := h4 g' a1
    have e2 : vl (tM M) g = vl (tM M) g' := by omega
    have h7 := h5 g' a1 (by omega)
    have h8 := a3 e2
    omega
end SRCB
