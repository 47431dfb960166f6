-- THE LAW: what stands at the head of its loop
theorem CX.fr {w w' : aW} {Q : aQ} {D : aS} {L : aL} {fa : Int32} {K : aK} {Z : aZ} {n n' : Nat} (h : CX w Q D L fa K Z n) (hf : ∀ j, j ≤ 43 → w' j = w j) (hn : n ≤ n') : CX w' Q D L fa K Z n' := by
  obtain ⟨g0, gT, gK, gD, gS, gR, gW, gE, g43, g⟩ := h
  exact ⟨(hf 0 (by omega)).trans g0, (gT.fr (fun j a b => hf j (by omega))).up hn, (gK.fr (fun j a b => hf j (by omega))).up hn, (gD.fr (fun j a b => hf j (by omega))).up hn, (gS.fr (fun j a b => hf j (by omega))).up hn, (gR.fr (fun j a b => hf j (by omega))).up hn, (gW.fr (fun j a b => hf j (by omega))).up hn, (gE.fr (fun j a b => hf j (by omega))).up hn, (hf 43 (by omega)).trans g43, Nat.lt_of_lt_of_le g hn⟩
theorem XW.cf {w w' : aW} {M K : aM} {n : Nat} (h : XW w M K n) (hf : ∀ j, 43 < j → w' j = w j) : XW w' M K n := by
  obtain ⟨g0, g1, g2, g3⟩ := h
  exact ⟨g0.fr (fun j a b => hf j (by omega)), g1.imp id (fun ⟨k, k1, k2, k3⟩ => ⟨k, k1, k2, k3.fr (fun j a b => hf j (by omega))⟩), g2.imp id (fun ⟨k, T, k1, k2, k3, k4⟩ => ⟨k, T, k1, k2, k3.fr (fun j a b => hf j (by omega)), k4⟩), g3⟩
def LI (w : aW) (n : Nat) : Prop := ∃ (Q : aQ) (M K : aM), CW w Q n ∧ XW w M K n ∧ Rl Q M K ∧ Q.1 = tM M
def LN (w : aW) (n : Nat) : Prop := ∃ w', (∀ k, k < n → cEq (w k) (w' k)) ∧ LI w' n
theorem TOk.T {S : aS} {M : aM} (hT : TQ S M) (h : TOk S) : TOk (tM M) := by
  have hT2 := TQ_tM (M := M)
  obtain ⟨P, B, hP, hP7, hB, hB7, hI⟩ := h
  refine ⟨P, B, hT2.1.trans (hT.1.symm.trans hP), hP7, hT2.2.1.trans (hT.2.1.symm.trans hB), hB7, fun b hb => ?_⟩
  obtain ⟨p, q, hp, hq, ep, eq⟩ := hI b hb
  exact ⟨p, q, hp, hq, (hT2.2.2.2.2.2.1 0 b (by decide) (by omega)).trans ((hT.2.2.2.2.2.1 0 b (by decide) (by omega)).symm.trans ep), (hT2.2.2.2.2.2.1 1 b (by decide) (by omega)).trans ((hT.2.2.2.2.2.1 1 b (by decide) (by omega)).symm.trans eq)⟩
theorem law_norm {w : aW} {Q : aQ} {M K : aM} {n : Nat} (hC : CW w Q n) (hX : XW w M K n) (hR : Rl Q M K) : LN w n := by
  obtain ⟨D, L, fa, K1, Z, hC⟩ := hC
  obtain ⟨w', e1, hT', e3⟩ := TW_norm hC.2.1 hR.1
  refine ⟨w', e1, (tM M, Q.2), M, K, (hC.now hT' (fun j hj => e3 j (by omega))).cw, hX.cf (fun j hj => e3 j (by omega)), ?_, rfl⟩
  obtain ⟨h0, hk, hs, ht, hr, hq, hv⟩ := hR
  exact ⟨TQ_tM, hk, hs, ht, hr, ⟨TOk.T h0 hq.1, hq.2⟩, hv.T h0⟩
theorem law_next {w w1 w2 : aW} {m : Int32 × aQ} {m2 : Int32 × aM} {M K : aM} {n : Nat} (hX : XW w M K n) (hC1 : CW w1 m.2 n) (hF1 : cFr w w1) (hM : MW w2 44 m2.2 n) (hF2 : mFr w1 w2 44) (hE : Eqv m m2 M K) : LN w2 n := by
  obtain ⟨D, L, fa, K1, Z, hC1⟩ := hC1
  obtain ⟨hX2, -⟩ := (hX.cf hF1).mm hM hF2 hE.2.2
  exact law_norm (hC1.fr (fun j hj => hF2 j (by omega)) (Nat.le_refl n)).cw hX2 hE.2.1
theorem sc_in {L i k : Nat} (hi : i + 6 ≤ L) (hL : L ≤ 384) (hk : k < 6) : vp_in (nI i + nI k) L := by
  rw [show nI i + nI k = nI (i + k) from (Int32.ofNat_add i k).symm]
  exact vp_in_nI (by omega) (by omega)
theorem CW.ob {w : aW} {Q : aQ} {n : Nat} (h : CW w Q n) : w 0 = .inr (0, nob Q.2.2.1) := by
  obtain ⟨D, L, fa, K, Z, h⟩ := h
  exact h.1
theorem CW.lt {w : aW} {Q : aQ} {n : Nat} (h : CW w Q n) : 43 < n := by
  obtain ⟨D, L, fa, K, Z, h⟩ := h
  exact h.2.2.2.2.2.2.2.2.2
theorem XW.lt44 {w : aW} {M K : aM} {n : Nat} (h : XW w M K n) : 84 < n := by
  have := h.2.2.2
  omega
theorem Rl.mh {Q : aQ} {M K : aM} (h : Rl Q M K) : MHOk M := by
  intro s hs
  obtain ⟨h1, h2, h3⟩ := h.2.2.1 s hs
  refine ⟨?_, h1, h2⟩
  rcases h3 with h3 | h3 | h3
  · exact Or.inl h3.1
  · exact Or.inr (Or.inl h3.1)
  · exact Or.inr (Or.inr h3.1)
theorem Rl.mo {Q : aQ} {M K : aM} (h : Rl Q M K) : MOk M := by
  obtain ⟨P, B, hC⟩ := h.cnt
  exact ⟨P, B, Q.2.2.2.2.2.1, hC.2.2.2.2.1, hC.1, hC.2.2.2.2.2.1, hC.2.1, h.2.2.2.1.2, h.2.2.2.2.2.1.2.2.2⟩
