-- THE TWO SIDES AS ONE
def bSym (S : aS) : Prop := ∀ b c, b < 7 → c < 7 → bt (S.2 6 b) c = bt (S.2 6 c) b ∧ bt (S.2 6 b) b = false
def VOk (S : aS) : Prop := ZBS S ∧ (∀ b, b < 7 → (∃ g, g ≤ 99 ∧ S.2 4 b = nI g) ∧ ∃ g, g ≤ 99 ∧ S.2 5 b = nI g) ∧ (∀ b t, b < 7 → t < 7 → -99 ≤ (lossN S b t).toInt ∧ (lossN S b t).toInt ≤ 99) ∧ (1 ≤ (S.1 2).toInt ∧ (S.1 2).toInt ≤ 99) ∧ (S.1 3 = 0 ∨ S.1 3 = 1) ∧ (0 ≤ (S.1 4).toInt ∧ (S.1 4).toInt ≤ 10) ∧ (0 ≤ (S.1 5).toInt ∧ (S.1 5).toInt ≤ 999) ∧ bSym S
def SRs (X : aH) (M : aM) (s : Nat) : Prop := (∃ c, c < 5 ∧ M.2.1 2 s = nI c) ∧ (∃ m, m ≤ 40 ∧ M.2.1 3 s = nI m) ∧ ((M.2.1 1 s = 0 ∧ X.1 s = -1) ∨ (M.2.1 1 s = 1 ∧ X.1 s = M.2.1 2 s ∧ X.2.1 s = M.2.1 3 s ∧ ∀ i, i < (M.2.1 3 s).toNatClampNeg → X.2.2.2 (40 * s + i) = M.2.2.1 (5 + s) i ∧ lowb (M.2.1 2 s) (M.2.2.1 (5 + s) i) = M.2.2.1 (5 + s) i) ∨ (M.2.1 1 s = 2 ∧ ∃ kd a, 1 ≤ kd ∧ kd ≤ 6 ∧ a ≤ 99 ∧ M.2.1 14 s = nI kd ∧ X.1 s = nI (10 + kd) ∧ M.2.1 15 s = nI a ∧ X.2.2.1 s = nI a))
def SR (X : aH) (M : aM) : Prop := ∀ s, s < 8 → SRs X M s
def KR (Q : aQ) (M K : aM) : Prop := (Q.2.2.1 = 0 ∧ M.2.2.2.1 = .null) ∨ (¬ Q.2.2.1 = 0 ∧ ¬ M.2.2.2.1 = .null ∧ TQ Q.2.1 K ∧ VOk Q.2.1)
def Rl (Q : aQ) (M K : aM) : Prop := TQ Q.1 M ∧ KR Q M K ∧ SR Q.2.2.2.1 M ∧ (M.2.1 16 = Q.2.2.2.2.1 ∧ M.1 8 = nI Q.2.2.2.2.2.1) ∧ (∀ k, k < 5 → Q.2.2.2.2.2.2 k = M.2.1 17 (k + 2)) ∧ QOk Q ∧ VOk Q.1
theorem TQ.mE {S : aS} {M N : aM} (h : TQ S M) (hE : mE N M) : TQ S N := by
  obtain ⟨h1, h2, h3, ⟨h4, h5, h6⟩, h7, h8, h9⟩ := h
  obtain ⟨s2, s1⟩ := hE
  refine ⟨h1.trans (s2 10 (by omega)).symm, h2.trans (s2 13 (by omega)).symm, fun k hk => ?_, ⟨h4.trans (s2 19 (by omega)).symm, h5.trans (s2 17 (by omega)).symm, h6.trans (s2 18 (by omega)).symm⟩, fun t ht => ?_, fun j b hj hb => ?_, fun b t hb ht => ?_⟩
  · rw [s1 36 (by omega)]
    exact h3 k hk
  · rw [s1 18 (by omega), s1 19 (by omega)]
    exact h7 t ht
  · rw [s1 (21 + b) (by omega)]
    exact h8 j b hj hb
  · rw [s1 (29 + b) (by omega)]
    exact h9 b t hb ht
theorem SRs.of {X : aH} {M N : aM} {s : Nat} (h : SRs X M s) (h1 : ∀ j, (j = 1 ∨ j = 2 ∨ j = 3 ∨ j = 14 ∨ j = 15) → N.2.1 j s = M.2.1 j s) (h2 : N.2.2.1 (5 + s) = M.2.2.1 (5 + s)) : SRs X N s := by
  unfold SRs
  rw [h1 1 (by omega), h1 2 (by omega), h1 3 (by omega), h1 14 (by omega), h1 15 (by omega), h2]
  exact h
theorem Rl.mE {Q : aQ} {M N K : aM} (h : Rl Q M K) (hE : mE N M) (h2 : N.2.2 = M.2.2) : Rl Q N K := by
  obtain ⟨h0, hk, hs, ⟨ht, hz⟩, hr, hq, hv⟩ := h
  refine ⟨h0.mE hE, ?_, fun s hs8 => (hs s hs8).of (fun j hj => by rw [hE.2 j (by omega)]) (by rw [h2]), ⟨(hE.2 16 (by omega)).trans ht, (hE.1 8 (by omega)).trans hz⟩, fun k hk => by rw [hE.2 17 (by omega)]; exact hr k hk, hq, hv⟩
  unfold KR
  rw [h2]
  exact hk
theorem rfF_at {f : Nat → Int32} {i k : Nat} (h2 : 2 ≤ i) (h6 : i ≤ 6) (hk : k < 5) : rfF f (-nI i) k = if k = i - 2 then f k + 1 else f k := by
  have e : -2 - (-nI i) = nI (i - 2) := by
    rcases (show i = 2 ∨ i = 3 ∨ i = 4 ∨ i = 5 ∨ i = 6 by omega) with rfl | rfl | rfl | rfl | rfl <;> decide
  unfold rfF
  rw [e, if_pos ⟨nI_pos (by omega), nI_ge (by omega) (by decide)⟩, nI_clamp (by omega), atI_in (by omega) (by decide)]
  unfold upd
  by_cases q : k = i - 2
  · rw [if_pos q, if_pos q, q]
  · rw [if_neg q, if_neg q]
theorem Rl.rg {Q : aQ} {M K : aM} {i : Nat} {g : Nat → Int32} (h : Rl Q M K) (hg : ∀ k, k < 5 → g k = (mR M i).2.1 17 (k + 2)) : Rl (Q.1, Q.2.1, Q.2.2.1, Q.2.2.2.1, Q.2.2.2.2.1, Q.2.2.2.2.2.1, g) (mR M i) K := by
  obtain ⟨h0, hk, hs, ⟨ht, hz⟩, hr, hq, hv⟩ := h
  have ne : ∀ j, ¬ j = 17 → (mR M i).2.1 j = M.2.1 j := fun j hj => mA_ne hj
  have hT : TQ Q.1 (mR M i) := by
    obtain ⟨h1, h2, h3, h4, h7, h8, h9⟩ := h0
    refine ⟨h1, h2, fun k hk => ?_, h4, fun t ht => ?_, fun j b hj hb => ?_, fun b t hb ht => ?_⟩
    · rw [ne 36 (by omega)]
      exact h3 k hk
    · rw [ne 18 (by omega), ne 19 (by omega)]
      exact h7 t ht
    · rw [ne (21 + b) (by omega)]
      exact h8 j b hj hb
    · rw [ne (29 + b) (by omega)]
      exact h9 b t hb ht
  have hS : SR Q.2.2.2.1 (mR M i) := fun s hs8 => (hs s hs8).of (fun j hj => by rw [ne j (by omega)]) rfl
  exact ⟨hT, hk, hS, ⟨(ne 16 (by omega)).trans ht, hz⟩, hg, qok_g hq, hv⟩
theorem Rl.rf {Q : aQ} {M K : aM} {i : Nat} (h : Rl Q M K) (h2 : 2 ≤ i) (h6 : i ≤ 6) : Rl (rfQ Q (-nI i)) (mR M i) K := by
  unfold rfQ
  refine h.rg (fun k hk => ?_)
  rw [rfF_at h2 h6 hk, show (mR M i).2.1 17 = upd (M.2.1 17) i (M.2.1 17 i + 1) from mA_eq]
  have hr := h.2.2.2.2.1
  unfold upd
  by_cases q : k = i - 2
  · rw [if_pos q, if_pos (by omega), hr k hk, show k + 2 = i by omega]
  · rw [if_neg q, if_neg (by omega)]
    exact hr k hk
/-- the town moves on, all else stays -/
theorem Rl.tw {Q : aQ} {M N K : aM} {S : aS} (h : Rl Q M K) (hT : TQ S N) (h1 : ∀ j, j < 18 → N.2.1 j = M.2.1 j) (h8 : N.1 8 = M.1 8) (h2 : N.2.2 = M.2.2) (hq : QOk (qT Q S)) (hv : VOk S) : Rl (qT Q S) N K := by
  obtain ⟨h0, hk, hs, ⟨ht, hz⟩, hr, -, -⟩ := h
  refine ⟨hT, ?_, fun s hs8 => (hs s hs8).of (fun j hj => by rw [h1 j (by omega)]) (by rw [h2]), ⟨(h1 16 (by omega)).trans ht, h8.trans hz⟩, fun k hk => by rw [h1 17 (by omega)]; exact hr k hk, hq, hv⟩
  unfold KR at hk ⊢
  rw [h2]
  exact hk
theorem TQ_tM {M : aM} : TQ (tM M) M := by
  refine ⟨rfl, rfl, fun k hk => ?_, ⟨rfl, rfl, rfl⟩, fun t _ => ⟨rfl, rfl⟩, fun j b hj hb => ?_, fun b t _ ht => t_loss ht⟩
  · rcases (show k = 0 ∨ k = 1 ∨ k = 2 ∨ k = 3 by omega) with rfl | rfl | rfl | rfl <;> rfl
  · show (if 2 + j < 2 then _ else if 2 + j < 7 then M.2.1 (21 + b) (2 + j - 2) else _) = _
    rw [if_neg (by omega), if_pos (by omega), show 2 + j - 2 = j by omega]
-- the class's town in its model's words
theorem TW_norm {w : aW} {t n : Nat} {S : aS} {M : aM} (h : TW w t S n) (hT : TQ S M) : ∃ w', (∀ k, k < n → cEq (w k) (w' k)) ∧ TW w' t (tM M) n ∧ ∀ k, (k < t ∨ t + 8 < k) → w' k = w k := by
  obtain ⟨g0, g1, g2, g3, g4, g5, g6, g7, g8, hn⟩ := h
  obtain ⟨h1, h2, h3, ⟨h4, h5, h6⟩, h7, h8, h9⟩ := hT
  obtain ⟨t1, t2, t3, ⟨t4, t5, t6⟩, t7, t8, t9⟩ := TQ_tM (M := M)
  have e0 : tob t S = tob t (tM M) := by
    have a2 := (h3 0 (by decide)).trans (t3 0 (by decide)).symm
    have a3 := (h3 1 (by decide)).trans (t3 1 (by decide)).symm
    have a4 := (h3 2 (by decide)).trans (t3 2 (by decide)).symm
    have a5 := (h3 3 (by decide)).trans (t3 3 (by decide)).symm
    show [_, _, _, _, _, _, _, _, _, _, _, _, _, _, _, _, _] = _
    rw [h1.trans t1.symm, h2.trans t2.symm, a2, a3, a4, a5, h4.trans t4.symm, h5.trans t5.symm, h6.trans t6.symm]
  have row : ∀ j, j < 7 → ∀ i, i < 7 → S.2 j i = (tM M).2 j i := by
    intro j hj i hi
    rcases (show j = 0 ∨ j = 1 ∨ ∃ q, q < 5 ∧ j = 2 + q by
      rcases Nat.lt_or_ge j 2 with q | q
      · omega
      · exact Or.inr (Or.inr ⟨j - 2, by omega, by omega⟩)) with rfl | rfl | ⟨q, hq, rfl⟩
    · exact (h7 i hi).1.trans (t7 i hi).1.symm
    · exact (h7 i hi).2.trans (t7 i hi).2.symm
    · exact (h8 q i hq hi).trans (t8 q i hq hi).symm
  have los : ∀ i, i < 49 → S.2 7 i = (tM M).2 7 i := by
    intro i hi
    have e := (h9 (i / 7) (i % 7) (by omega) (by omega)).trans (t9 (i / 7) (i % 7) (by omega) (by omega)).symm
    unfold lossN at e
    rwa [show 7 * (i / 7) + i % 7 = i by omega] at e
  refine ⟨fun k => if t ≤ k ∧ k ≤ t + 8 then (if k = t then w t else if k = t + 8 then ai 49 ((tM M).2 7) else ai 7 ((tM M).2 (k - t - 1))) else w k, fun k hk => ?_, ?_, fun k hk => if_neg (by omega)⟩
  · by_cases e : t ≤ k ∧ k ≤ t + 8
    · show cEq (w k) (if t ≤ k ∧ k ≤ t + 8 then _ else _)
      rw [if_pos e]
      by_cases e1 : k = t
      · rw [if_pos e1, e1]
        exact Or.inl rfl
      · rw [if_neg e1]
        by_cases e2 : k = t + 8
        · rw [if_pos e2, e2, g8]
          exact Or.inr (Or.inl ⟨0, 49, _, _, rfl, rfl, los⟩)
        · rw [if_neg e2]
          have hj : ∃ j, j < 7 ∧ k = t + 1 + j := ⟨k - t - 1, by omega, by omega⟩
          obtain ⟨j, hj, rfl⟩ := hj
          have gw : w (t + 1 + j) = ai 7 (S.2 j) := by
            rcases (show j = 0 ∨ j = 1 ∨ j = 2 ∨ j = 3 ∨ j = 4 ∨ j = 5 ∨ j = 6 by omega) with rfl | rfl | rfl | rfl | rfl | rfl | rfl
            · exact g1
            · exact g2
            · exact g3
            · exact g4
            · exact g5
            · exact g6
            · exact g7
          rw [gw, show t + 1 + j - t - 1 = j by omega]
          exact Or.inr (Or.inl ⟨0, 7, _, _, rfl, rfl, row j hj⟩)
    · show cEq (w k) (if t ≤ k ∧ k ≤ t + 8 then _ else w k)
      rw [if_neg e]
      exact Or.inl rfl
  · have hj : ∀ j, j < 7 → (if t ≤ t + (j + 1) ∧ t + (j + 1) ≤ t + 8 then (if t + (j + 1) = t then w t else if t + (j + 1) = t + 8 then ai 49 ((tM M).2 7) else ai 7 ((tM M).2 (t + (j + 1) - t - 1))) else w (t + (j + 1))) = ai 7 ((tM M).2 j) := by
      intro j hj
      rw [if_pos (by omega), if_neg (by omega), if_neg (by omega), show t + (j + 1) - t - 1 = j by omega]
    refine ⟨?_, hj 0 (by decide), hj 1 (by decide), hj 2 (by decide), hj 3 (by decide), hj 4 (by decide), hj 5 (by decide), hj 6 (by decide), ?_, hn⟩
    · show (if t ≤ t ∧ t ≤ t + 8 then (if t = t then w t else _) else _) = _
      rw [if_pos (by omega), if_pos rfl, g0, e0]
    · show (if t ≤ t + 8 ∧ t + 8 ≤ t + 8 then (if t + 8 = t then w t else if t + 8 = t + 8 then ai 49 ((tM M).2 7) else _) else _) = _
      rw [if_pos (by omega), if_neg (by omega), if_pos rfl]
