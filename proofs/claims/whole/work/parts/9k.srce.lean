-- SEARCH: the two sides' best are one
theorem i64_nat {x : Int64} {N : Nat} (h : x.toInt = N) (hN : N < 4611686018427387904) : x.toBitVec.toNat = N := by
  have h2 : x.toInt = x.toBitVec.toInt := rfl
  have h3 := BitVec.toInt_eq_toNat_cond x.toBitVec
  have h4 := x.toBitVec.isLt
  rw [h2, h3] at h
  split at h <;> omega
theorem sh_tab : ∀ b, b < 7 → ((shiftN b).toInt64 &&& 63).toBitVec.smod 64 = BitVec.ofNat 64 (4 * (6 - b)) ∧ (2 : Nat) ^ (4 * (6 - b)) = 16 ^ (6 - b) := by decide +kernel
theorem sh_dec {x : Int64} {N b : Nat} (hx : x.toInt = N) (hN : N < 268435456) (hb : b < 7) : ((x >>> ((shiftN b).toInt64 &&& 63)) &&& 15).toInt32 = nI (N / 16 ^ (6 - b) % 16) := by
  obtain ⟨s1, s2⟩ := sh_tab b hb
  have e1 : (x >>> ((shiftN b).toInt64 &&& 63)).toInt = (N / 16 ^ (6 - b) : Nat) := by
    show (x >>> ((shiftN b).toInt64 &&& 63)).toBitVec.toInt = _
    rw [Int64.toBitVec_shiftRight, s1]
    show (x.toBitVec.sshiftRight (BitVec.ofNat 64 (4 * (6 - b))).toNat).toInt = _
    rw [BitVec.toNat_ofNat, Nat.mod_eq_of_lt (by omega), BitVec.toInt_sshiftRight]
    show x.toInt >>> _ = _
    rw [hx, Int.shiftRight_eq_div_pow, s2, Int.natCast_ediv]
  have hle : N / 16 ^ (6 - b) ≤ N := Nat.div_le_self _ _
  have e2 := i64_nat e1 (by omega)
  generalize x >>> ((shiftN b).toInt64 &&& 63) = y at *
  generalize N / 16 ^ (6 - b) = D at *
  have e3 : (y &&& 15).toBitVec.toNat = D % 16 := by
    rw [Int64.toBitVec_and, BitVec.toNat_and, e2, show (15 : Int64).toBitVec.toNat = 2 ^ 4 - 1 from rfl, Nat.and_two_pow_sub_one_eq_mod]
  have e4 : (y &&& 15).toInt = (D % 16 : Nat) := by
    show (y &&& 15).toBitVec.toInt = _
    rw [BitVec.toInt_eq_toNat_cond, e3, if_pos (by omega)]
  refine Int32.toInt_inj.mp ?_
  rw [Int64.toInt_toInt32, e4, toInt_nI (by omega), Int.bmod_eq_of_le (by omega) (by omega)]
theorem VOk.T {S : aS} {M : aM} (hT : TQ S M) (hv : VOk S) : VOk (tM M) := by
  have hT2 := TQ_tM (M := M)
  obtain ⟨a1, a2, a3, a4, a5, a6, a7⟩ := hT
  obtain ⟨c1, c2, c3, c4, c5, c6, c7⟩ := hT2
  obtain ⟨⟨P, B, z1, z2, z3, z4, z5⟩, v2, v3, v4, v5, v6, v7, v8⟩ := hv
  have r0 : ∀ t, t < 7 → (tM M).2 0 t = S.2 0 t ∧ (tM M).2 1 t = S.2 1 t := fun t ht => ⟨(c5 t ht).1.trans (a5 t ht).1.symm, (c5 t ht).2.trans (a5 t ht).2.symm⟩
  have rj : ∀ j b, j < 5 → b < 7 → (tM M).2 (2 + j) b = S.2 (2 + j) b := fun j b hj hb => (c6 j b hj hb).trans (a6 j b hj hb).symm
  have rl : ∀ b t, b < 7 → t < 7 → lossN (tM M) b t = lossN S b t := fun b t hb ht => (c7 b t hb ht).trans (a7 b t hb ht).symm
  have rs : ∀ k, k < 4 → (tM M).1 (2 + k) = S.1 (2 + k) := fun k hk => (c3 k hk).trans (a3 k hk).symm
  refine ⟨⟨P, B, c1.trans (a1.symm.trans z1), z2, c2.trans (a2.symm.trans z3), z4, fun t ht ht7 => ?_, fun b hb hb7 => ?_, fun b t hb ht q => ?_⟩, fun b hb => ?_, fun b t hb ht => ?_, ?_, ?_, ?_, ?_, fun b c hb hc => ?_⟩
  · rw [(r0 t ht7).1, (r0 t ht7).2]
    exact z5.1 t ht ht7
  · rw [rj 4 b (by decide) hb7]
    exact z5.2.1 b hb hb7
  · rw [rl b t hb ht]
    exact z5.2.2 b t hb ht q
  · rw [rj 2 b (by decide) hb, rj 3 b (by decide) hb]
    exact v2 b hb
  · rw [rl b t hb ht]
    exact v3 b t hb ht
  · rw [rs 0 (by decide)]
    exact v4
  · rw [rs 1 (by decide)]
    exact v5
  · rw [rs 2 (by decide)]
    exact v6
  · rw [rs 3 (by decide)]
    exact v7
  · rw [rj 4 b (by decide) hb, rj 4 c (by decide) hc]
    exact v8 b c hb hc
theorem vlU_T {S : aS} {M : aM} (hT : TQ S M) : vlU S = vlU (tM M) := by
  have hT2 := TQ_tM (M := M)
  funext c b
  unfold vlU
  by_cases q : c < 7 ∧ b < 7
  · rw [if_pos q, if_pos q]
    unfold valN gainN
    rw [(hT.2.2.2.2.2.2 b c q.2 q.1).trans (hT2.2.2.2.2.2.2 b c q.2 q.1).symm, (hT.2.2.2.2.2.1 2 b (by decide) q.2).trans (hT2.2.2.2.2.2.1 2 b (by decide) q.2).symm, (hT.2.2.2.2.2.1 3 b (by decide) q.2).trans (hT2.2.2.2.2.2.1 3 b (by decide) q.2).symm]
  · rw [if_neg q, if_neg q]
theorem Av_of {S S' : aS} {P B : Nat} {who : Int32} {f : Nat → Nat} (hP7 : P ≤ 7) (hB7 : B ≤ 7) (h6 : ∀ b, b < 7 → S.2 6 b = S'.2 6 b) (hg : ∀ b t, b < 7 → t < 7 → gd S b t = true → gd S' b t = true) (h3 : S.1 3 = S'.1 3) (h : Av S P B who f) : Av S' P B who f := by
  obtain ⟨j, hj, w1, w2, w3, w4⟩ := h
  refine ⟨j, hj, w1, ?_, fun i hi => ?_, ?_⟩
  · rw [apS_iff] at w2 ⊢
    intro b hb hbj
    rw [← h6 b hb]
    exact w2 b hb hbj
  · have h9 := w3 i hi
    have hib : i < B := Nat.lt_of_not_le (fun z => hi ((w1 i).mpr (test_big hj z)))
    exact ⟨h9.1, h9.2.1, hg i _ (by omega) (by omega) h9.2.2⟩
  · rw [← h3]
    exact w4
theorem Av_T {S : aS} {M : aM} {P B : Nat} {who : Int32} {f : Nat → Nat} (hT : TQ S M) (hP7 : P ≤ 7) (hB7 : B ≤ 7) : Av S P B who f ↔ Av (tM M) P B who f := by
  have hT2 := TQ_tM (M := M)
  have e6 : ∀ b, b < 7 → S.2 6 b = (tM M).2 6 b := fun b hb => (hT.2.2.2.2.2.1 4 b (by decide) hb).trans (hT2.2.2.2.2.2.1 4 b (by decide) hb).symm
  have e3 : S.1 3 = (tM M).1 3 := (hT.2.2.1 1 (by decide)).trans (hT2.2.2.1 1 (by decide)).symm
  exact ⟨Av_of hP7 hB7 e6 (fun b t hb ht h => (gd_T hT hb ht) ▸ h) e3, Av_of hP7 hB7 (fun b hb => (e6 b hb).symm) (fun b t hb ht h => (gd_T hT hb ht).symm ▸ h) e3.symm⟩
/-- best values and weeks are the same on both sides -/
theorem best_eq {S : aS} {M : aM} {P B : Nat} {who : Int32} {X : aT} (hT : TQ S M) (hv : VOk S) (hP7 : P ≤ 7) (hB7 : B ≤ 7) : bestV S B P who = (bbX M P B who X).1 ∧ (∀ b, b < B → ((codK (gkey S B P who 1) >>> ((shiftN b).toInt64 &&& 63)) &&& 15).toInt32 - 1 = (bbX M P B who X).2.2 b) ∧ (-10000 ≤ (bbX M P B who X).1.toInt ∧ (bbX M P B who X).1.toInt ≤ 10000) ∧ ∃ f, Av S P B who f ∧ vl S f = (bbX M P B who X).1.toInt ∧ ∀ g, Av S P B who g → vl S g ≤ (bbX M P B who X).1.toInt := by
  obtain ⟨f, f1, f2, f3⟩ := gk1 (P := P) (B := B) (who := who) hv hP7 hB7
  obtain ⟨g, g1, g2, g3, g4, g5⟩ := bb_all (X := X) (only := who) (hv.T hT) hP7 hB7
  have ev : ∀ h, vl S h = vl (tM M) h := fun h => by
    unfold vl
    rw [vlU_T hT]
  have f1' := (Av_T hT hP7 hB7).mp f1
  have g1' := (Av_T hT hP7 hB7).mpr g1
  have bf := vl_bd (f := f) hv 7
  have efv : vl S f = kyI (vlU S) f 7 := rfl
  obtain ⟨-, cf⟩ := dig_at (f := f) (f1.le hP7) (b := 0) (by decide)
  obtain ⟨-, cg⟩ := dig_at (f := g) (g1.le hP7) (b := 0) (by decide)
  have h1 := g4 f f1'
  have h2 := f3 g g1'
  rw [cd_A, cd_A] at h2
  rw [ev g] at h2
  rw [← ev f] at h1
  have hVV : vl S f = (bbX M P B who X).1.toInt := by omega
  have h3 := g5 f f1' (by rw [← ev f]; exact hVV)
  rw [cd_A, cd_A] at h3
  have hA : digA f 7 = digA g 7 := by omega
  rw [cd_A] at f2
  obtain ⟨d1, d2⟩ := key_dec f2 (by omega) cf
  refine ⟨Int32.toInt_inj.mp (d1.trans hVV), fun b hb => ?_, by omega, f, f1, hVV, fun h hh => by rw [ev h]; exact g4 h ((Av_T hT hP7 hB7).mp hh)⟩
  have hb7 : b < 7 := by omega
  have hd := (dig_at (f := g) (g1.le hP7) hb7).1
  have hg7 := g1.le hP7 b
  rw [sh_dec d2 cf hb7, hA, hd, g3 b hb]
  unfold enc
  by_cases q : g b = 0
  · rw [if_pos q, q]
    rfl
  · rw [if_neg q]
    refine Int32.toInt_inj.mp ?_
    rw [i_sub (by rw [toInt_nI (by omega), show (1 : Int32).toInt = 1 from rfl]; omega) (by rw [toInt_nI (by omega), show (1 : Int32).toInt = 1 from rfl]; omega), toInt_nI (by omega), toInt_nI (by omega), show (1 : Int32).toInt = 1 from rfl]
    omega
