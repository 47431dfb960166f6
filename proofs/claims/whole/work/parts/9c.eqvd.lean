-- THE TWO SIDES: drawn weeks
theorem gd_T {S : aS} {M : aM} {b t : Nat} (hT : TQ S M) (hb : b < 7) (ht : t < 7) : gd S b t = gd (tM M) b t := by
  have hT2 := TQ_tM (M := M)
  unfold gd partyN
  rw [(hT.2.2.2.2.2.2 b t hb ht).trans (hT2.2.2.2.2.2.2 b t hb ht).symm, (hT.2.2.1 0 (by decide)).trans (hT2.2.2.1 0 (by decide)).symm, (hT.2.2.2.2.2.1 0 b (by decide) hb).trans (hT2.2.2.2.2.2.1 0 b (by decide) hb).symm, (hT.2.2.2.2.2.1 1 b (by decide) hb).trans (hT2.2.2.2.2.2.1 1 b (by decide) hb).symm]
theorem may_bits {S : aS} {M : aM} {P b : Nat} {x : Int32} (hT : TQ S M) (hv : VOk S) (hP7 : P ≤ 7) (hb : b < 7) : mayB S b P x = bitsOf (fun t => mayM M b t x) P := by
  refine b_ext (fun i hi => ?_)
  rw [mayB_bt hP7 hi, bits_bt hi P (by omega)]
  by_cases q : i < P
  · rw [decide_eq_true q, Bool.true_and, Bool.true_and, gd_T hT hb (by omega)]
    unfold mayM
    rw [hs_bt hi]
    have e : S.1 3 = M.2.1 36 1 := hT.2.2.1 1 (by decide)
    rw [← e]
    rcases hv.2.2.2.2.1 with z | z <;> rw [z] <;> rfl
  · rw [decide_eq_false q, Bool.false_and, Bool.false_and, Bool.false_and]
theorem bits_c {M : aM} {b : Nat} {x : Int32} : ∀ k, k ≤ 7 → ∃ y, y < 2 ^ k ∧ bitsOf (fun t => mayM M b t x) k = nI y ∧ bcount (nI y) = nI (cnP M b x k)
  | 0, _ => ⟨0, by decide, rfl, (show bcount 0 = (0 : Int32) by decide +kernel)⟩
  | k + 1, hk => by
    obtain ⟨y, h1, h2, h3⟩ := bits_c (M := M) (b := b) (x := x) k (by omega)
    have e1 : cnP M b x (k + 1) = if mayM M b k x = true then cnP M b x k + 1 else cnP M b x k := rfl
    rw [e1, bits_s, h2]
    by_cases q : mayM M b k x = true
    · rw [if_pos q, if_pos q]
      refine ⟨y + 2 ^ k, by rw [Nat.pow_succ]; omega, ?_, ?_⟩
      · rw [b1_nI k (by omega), or_add h1]
      · rw [bc_tab k (by omega) y h1, h3, nI_1]
    · rw [if_neg q, if_neg q]
      exact ⟨y, by rw [Nat.pow_succ]; omega, rfl, h3⟩
theorem bcn0 : ∀ y, y < 128 → bcount (nI y) = 0 → y = 0 := by decide +kernel
def cR (M : aM) (b : Nat) (x : Int32) : Nat → Nat → Nat
  | 0, _ => 0
  | m + 1, t => (if mayM M b t x = true then 1 else 0) + cR M b x m (t + 1)
theorem cnP_R {M : aM} {b : Nat} {x : Int32} : ∀ m t, cnP M b x (t + m) = cnP M b x t + cR M b x m t
  | 0, t => rfl
  | m + 1, t => by
    have ih := cnP_R (M := M) (b := b) (x := x) m (t + 1)
    have e : cnP M b x (t + 1) = if mayM M b t x = true then cnP M b x t + 1 else cnP M b x t := rfl
    rw [show t + (m + 1) = t + 1 + m by omega, ih, e]
    show _ = cnP M b x t + ((if mayM M b t x = true then 1 else 0) + cR M b x m (t + 1))
    split <;> omega
theorem bop_pk {M : aM} {b : Nat} {x z : Int32} {j : Nat} : ∀ m t l ah, ah + l < 100 → t + m ≤ 32 → (∀ i, t ≤ i → i < t + m → hbI z (nI i) = mayM M b i x) → l < cR M b x m t → bopF z (nI (ah + l)) (m + j) t (nI ah) = nI (pkN M b x m t l) ∧ pkN M b x m t l < t + m
  | 0, t, l, ah, _, _, _, hl => absurd hl (Nat.not_lt_zero _)
  | m + 1, t, l, ah, ha, ht, hz, hl => by
    have e1 : bopF z (nI (ah + l)) (m + 1 + j) t (nI ah) = if hbI z (nI t) then (if nI ah = nI (ah + l) then nI t else bopF z (nI (ah + l)) (m + j) (t + 1) (nI ah + 1)) else bopF z (nI (ah + l)) (m + j) (t + 1) (nI ah) := by
      rw [show m + 1 + j = m + j + 1 by omega]
      rfl
    have e2 : pkN M b x (m + 1) t l = if mayM M b t x = true then (if l = 0 then t else pkN M b x m (t + 1) (l - 1)) else pkN M b x m (t + 1) l := rfl
    have e3 : cR M b x (m + 1) t = (if mayM M b t x = true then 1 else 0) + cR M b x m (t + 1) := rfl
    rw [e3] at hl
    rw [e1, e2, hz t (Nat.le_refl _) (by omega)]
    by_cases q : mayM M b t x = true
    · rw [if_pos q] at hl
      rw [if_pos q, if_pos q]
      by_cases l0 : l = 0
      · subst l0
        rw [if_pos (show nI ah = nI (ah + 0) from rfl), if_pos rfl]
        exact ⟨rfl, by omega⟩
      · rw [if_neg (fun y => l0 (by have := (nI_eq (by omega) (by omega)).mp y; omega)), if_neg l0, nI_1]
        obtain ⟨g1, g2⟩ := bop_pk (M := M) (b := b) (x := x) (z := z) (j := j) m (t + 1) (l - 1) (ah + 1) (by omega) (by omega) (fun i h1 h2 => hz i (by omega) (by omega)) (by omega)
        rw [show ah + 1 + (l - 1) = ah + l by omega] at g1
        exact ⟨g1, by omega⟩
    · rw [if_neg q] at hl
      rw [if_neg q, if_neg q]
      obtain ⟨g1, g2⟩ := bop_pk (M := M) (b := b) (x := x) (z := z) (j := j) m (t + 1) l ah (by omega) (by omega) (fun i h1 h2 => hz i (by omega) (by omega)) (by omega)
      exact ⟨g1, by omega⟩
section EQVD
variable {Q : aQ} {M K : aM} {P B : Nat}
theorem wr_draw {S : aS} {X : aK} (hT : TQ S M) (hv : VOk S) (hP7 : P ≤ 7) : ∀ b, b ≤ 7 → Wr P (fdr S P X b).1 (dwM M P b).1 b ∧ (fdr S P X b).2 = (dwM M P b).2
  | 0, _ => ⟨Wr.z, hT.2.2.2.1.1⟩
  | b + 1, hb => by
    obtain ⟨hW, hs⟩ := wr_draw (X := X) hT hv hP7 b (by omega)
    have e1 : fdr S P X (b + 1) = if mayD S P b (fdr S P X b).1 = 0 then fdr S P X b else (takeW (fdr S P X b).1 b (bopF (mayD S P b (fdr S P X b).1) (drawV (nxtSeed (fdr S P X b).2) (bcount (mayD S P b (fdr S P X b).1))) 7 0 0), nxtSeed (fdr S P X b).2) := rfl
    have e2 : dwM M P (b + 1) = if 0 < cnP M b (dwM M P b).1.2.1 P ∧ M.2.1 (21 + b) 4 &&& (dwM M P b).1.1 = 0 then (tkW (dwM M P b).1 b (nI (pkN M b (dwM M P b).1.2.1 P 0 (drawV (nxtSeed (dwM M P b).2) (nI (cnP M b (dwM M P b).1.2.1 P))).toNatClampNeg)), nxtSeed (dwM M P b).2) else (tkW (dwM M P b).1 b (-1), (dwM M P b).2) := rfl
    rw [e1, e2, ← hW.1, ← hW.2.1, ← hs]
    generalize fdr S P X b = F at *
    generalize dwM M P b = D at *
    have e6 : S.2 6 b = M.2.1 (21 + b) 4 := hT.2.2.2.2.2.1 4 b (by decide) (by omega)
    have eD : mayD S P b F.1 = if M.2.1 (21 + b) 4 &&& F.1.1 = 0 then bitsOf (fun t => mayM M b t F.1.2.1) P else 0 := by
      unfold mayD barN
      rw [e6, may_bits hT hv hP7 (by omega)]
      by_cases q : M.2.1 (21 + b) 4 &&& F.1.1 = 0
      · rw [decide_eq_true q, if_neg (by decide), if_pos q]
      · rw [decide_eq_false q, if_pos (by decide), if_neg q]
    rw [eD]
    obtain ⟨y, y1, y2, y3⟩ := bits_c (M := M) (b := b) (x := F.1.2.1) P hP7
    have hle := cnP_le (M := M) (b := b) (x := F.1.2.1) P
    by_cases q : M.2.1 (21 + b) 4 &&& F.1.1 = 0
    · rw [if_pos q, y2, y3]
      by_cases q2 : 0 < cnP M b F.1.2.1 P
      · have hy : ¬ nI y = 0 := fun z => by
          rw [z] at y3
          have : nI (cnP M b F.1.2.1 P) = nI 0 := y3.symm.trans (show bcount 0 = (0 : Int32) by decide +kernel)
          have := (nI_eq (by omega) (by decide)).mp this
          omega
        rw [if_neg hy, if_pos ⟨q2, q⟩]
        obtain ⟨l, hl, el⟩ := drawV_lt (nxtSeed F.2) q2 (by omega)
        rw [el, nI_clamp (by omega)]
        have hR := cnP_R (M := M) (b := b) (x := F.1.2.1) P 0
        rw [Nat.zero_add, show cnP M b F.1.2.1 0 = 0 from rfl, Nat.zero_add] at hR
        obtain ⟨g1, g2⟩ := bop_pk (M := M) (b := b) (x := F.1.2.1) (z := nI y) (j := 7 - P) P 0 l 0 (by omega) (by omega) (fun i _ hi => by
          rw [← y2, hb_bt (by omega), bits_bt (by omega) P (by omega), decide_eq_true (show i < P by omega), Bool.true_and]) (by omega)
        rw [show P + (7 - P) = 7 by omega, Nat.zero_add] at g1
        rw [show bopF (nI y) (nI l) 7 0 0 = nI (pkN M b F.1.2.1 P 0 l) from g1]
        exact ⟨hW.take hP7 (by omega) (Or.inr ⟨_, by omega, rfl⟩), rfl⟩
      · have c0 : cnP M b F.1.2.1 P = 0 := by omega
        have y0 : y = 0 := bcn0 y (Nat.lt_of_lt_of_le y1 (pow7 hP7)) (by rw [y3, c0]; rfl)
        rw [if_pos (show nI y = 0 by rw [y0]; rfl), if_neg (fun z => q2 z.1)]
        have := hW.take hP7 (b := b) (c := -1) (by omega) (Or.inl rfl)
        rw [show takeW F.1 b (-1) = F.1 from if_pos rfl] at this
        exact ⟨this, rfl⟩
    · rw [if_neg q, if_pos (show (0 : Int32) = 0 from rfl), if_neg (fun z => q z.2)]
      have := hW.take hP7 (b := b) (c := -1) (by omega) (Or.inl rfl)
      rw [show takeW F.1 b (-1) = F.1 from if_pos rfl] at this
      exact ⟨this, rfl⟩
theorem cnt_of (h : Rl Q M K) (hP : Q.1.1 0 = nI P) (hP7 : P ≤ 7) (hB : Q.1.1 1 = nI B) (hB7 : B ≤ 7) : Cnt Q M P B := by
  obtain ⟨P', B', hC⟩ := h.cnt
  have e1 : P' = P := (nI_eq (by have := hC.1; omega) (by omega)).mp (hC.2.2.1.symm.trans hP)
  have e2 : B' = B := (nI_eq (by have := hC.2.1; omega) (by omega)).mp (hC.2.2.2.1.symm.trans hB)
  subst e1
  subst e2
  exact hC
theorem eqv_wk (h : Rl Q M K) (hC : Cnt Q M P B) : Eqv ((wk1 Q.1 P B).1, qT Q (wk1 Q.1 P B).2) (wdM M P B) M K := by
  have hv : VOk Q.1 := h.2.2.2.2.2.2
  have hok := qt_ok h.2.2.2.2.2.1 (wk1_ok (P := P) (B := B) h.2.2.2.2.2.1.1)
  obtain ⟨t1, t2, t3, ⟨t4, t5, t6⟩, t7, t8, t9⟩ := id h.1
  obtain ⟨hP7, hB7, hP, hB, hPM, hBM, hI, eP, eB⟩ := hC
  obtain ⟨hW, hs⟩ := wr_draw (X := K0) h.1 hv hP7 B hB7
  unfold wk1 wdM at *
  refine eqv_comes (S := upS Q.1 6 (fdr Q.1 P K0 B).2) (N := dmM M (dwM M P B).1.2.2 (dwM M P B).2) h ?_ (fun j hj => mA_ne (by omega)) rfl rfl hv mA_eq hW (fun b hb => ?_) hP hP7 hB7 hok
  · refine ⟨t1, t2, fun k hk => ?_, ⟨hs, t5, t6⟩, t7, fun j b hj hb => ?_, fun b t hb ht => ?_⟩
    · have e : (upS Q.1 6 (fdr Q.1 P K0 B).2).1 (2 + k) = Q.1.1 (2 + k) := if_neg (by omega)
      rw [e]
      exact t3 k hk
    · exact (t8 j b hj hb).trans (congrFun (mA_ne (M := M) (by omega)).symm j)
    · exact (t9 b t hb ht).trans (congrFun (mA_ne (M := M) (by omega)).symm t)
  · obtain ⟨p, q, hp, hq, ep, eq⟩ := hI b hb
    exact ⟨p, q, hp, hq, (t8 0 b (by decide) (by omega)).trans ep, (t8 1 b (by decide) (by omega)).trans eq⟩
theorem eqv_week (h : Rl Q M K) (hC : Cnt Q M P B) : Eqv (m_week Q) (wdM M P B) M K := by
  have h2 := eqv_wk h hC
  unfold m_week
  rw [hC.2.2.2.2.2.2.2.1, hC.2.2.2.2.2.2.2.2]
  exact h2
theorem eqv_wks (h : Rl Q M K) (hC : Cnt Q M P B) : ∀ k, Eqv ((wkN Q.1 P B k).1, qT Q (wkN Q.1 P B k).2) (wsM M P B k) M K
  | 0 => ⟨rfl, h, rfl⟩
  | k + 1 => by
    obtain ⟨g1, g2, g3⟩ := eqv_wks h hC k
    have hPB := wkN_PB (S := Q.1) (P := P) (B := B) k
    have hC2 : Cnt (qT Q (wkN Q.1 P B k).2) (wsM M P B k).2 P B := cnt_of g2 (hPB.1.trans hC.2.2.1) hC.1 (hPB.2.1.trans hC.2.2.2.1) hC.2.1
    obtain ⟨k1, k2, k3⟩ := eqv_wk g2 hC2
    refine ⟨?_, k2, k3.trans g3⟩
    show (wkN Q.1 P B k).1 + (wk1 (wkN Q.1 P B k).2 P B).1 = (wsM M P B k).1 + (wdM (wsM M P B k).2 P B).1
    have k1 : (wk1 (wkN Q.1 P B k).2 P B).1 = (wdM (wsM M P B k).2 P B).1 := k1
    have g1 : (wkN Q.1 P B k).1 = (wsM M P B k).1 := g1
    rw [g1, k1]
theorem eqv_weeks {v : Int32} (h : Rl Q M K) (hC : Cnt Q M P B) : Eqv (m_weeks Q v) (m2_weeks M P B v) M K := by
  have h2 := eqv_wks h hC v.toNatClampNeg
  unfold m_weeks m2_weeks
  rw [hC.2.2.2.2.2.2.2.1, hC.2.2.2.2.2.2.2.2]
  split
  · exact h2
  · exact eqv_2 h
end EQVD
