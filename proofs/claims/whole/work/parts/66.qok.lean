-- WHAT STAYS TRUE OF THE STATE
section QOK
variable {S : aS} {X : aH} {Q : aQ}
theorem ho_row {s c m : Nat} (h : HOk X) (hc : c < 5) (hm : m ≤ 40) : HOk (rowX X s c m m) := fun q hq => by
  obtain ⟨h1, h2⟩ := h q hq
  show ((upd X.1 s (nI c) q = -1) ∨ (∃ c', c' < 5 ∧ upd X.1 s (nI c) q = nI c') ∨ (∃ kd, 1 ≤ kd ∧ kd ≤ 6 ∧ upd X.1 s (nI c) q = nI (10 + kd))) ∧ (∃ m', m' ≤ 40 ∧ upd X.2.1 s (nI m) q = nI m')
  unfold upd
  by_cases e : q = s
  · rw [if_pos e, if_pos e]
    exact ⟨Or.inr (Or.inl ⟨c, hc, rfl⟩), m, hm, rfl⟩
  · rw [if_neg e, if_neg e]
    exact ⟨h1, h2⟩
theorem ho_rule {s kd : Nat} {a : Int32} (h : HOk X) (h1 : 1 ≤ kd) (h6 : kd ≤ 6) : HOk (upd X.1 s (10 + nI kd), X.2.1, upd X.2.2.1 s a, X.2.2.2) := fun q hq => by
  obtain ⟨g1, g2⟩ := h q hq
  refine ⟨?_, g2⟩
  show (upd X.1 s (10 + nI kd) q = -1) ∨ (∃ c', c' < 5 ∧ upd X.1 s (10 + nI kd) q = nI c') ∨ (∃ kd', 1 ≤ kd' ∧ kd' ≤ 6 ∧ upd X.1 s (10 + nI kd) q = nI (10 + kd'))
  unfold upd
  by_cases e : q = s
  · rw [if_pos e]
    exact Or.inr (Or.inr ⟨kd, h1, h6, (nI_add (a := 10) (b := kd))⟩)
  · rw [if_neg e]
    exact g1
theorem ho_E {Y : aH} (h1 : Y.1 = X.1) (h2 : Y.2.1 = X.2.1) (h : HOk X) : HOk Y := fun q hq => by
  rw [h1, h2]
  exact h q hq
theorem to_E {S' : aS} (h0 : S'.1 0 = S.1 0) (h1 : S'.1 1 = S.1 1) (h2 : S'.2 2 = S.2 2) (h3 : S'.2 3 = S.2 3) (h : TOk S) : TOk S' := by
  obtain ⟨P, B, hP, hP7, hB, hB7, hI⟩ := h
  refine ⟨P, B, h0.trans hP, hP7, h1.trans hB, hB7, fun b hb => ?_⟩
  rw [h2, h3]
  exact hI b hb
theorem to_law {k : Nat} {v : Int32} (h : TOk S) : TOk (upS S (2 + k) v) := to_E (if_neg (by omega)) (if_neg (by omega)) rfl rfl h
theorem to_loss {b c v : Int32} (h : TOk S) : TOk (putLS S b c v) := to_E rfl rfl rfl rfl h
theorem to_bar {b c : Nat} {v : Int32} (h : TOk S) : TOk (putB S b c v) := to_E rfl rfl rfl rfl h
theorem to_one (h : TOk S) (hlt : S.1 0 < 7) : TOk (upS S 0 (S.1 0 + 1)) := by
  obtain ⟨P, B, hP, hP7, hB, hB7, hI⟩ := h
  have h7 : P < 7 := by
    rcases Nat.lt_or_ge P 7 with r | r
    · exact r
    · exact absurd hlt (by rw [hP]; exact nI_nlt (b := 7) r (by omega))
  refine ⟨P + 1, B, ?_, h7, hB, hB7, fun b hb => ?_⟩
  · show S.1 0 + 1 = _
    rw [hP]; exact nI_1 _
  · obtain ⟨p, q, hp, hq, e1, e2⟩ := hI b hb
    exact ⟨p, q, by omega, by omega, e1, e2⟩
theorem to_deal {P B p q : Nat} {g k : Int32} (hP : S.1 0 = nI P) (hP7 : P ≤ 7) (hB : S.1 1 = nI B) (hI : PIn S B P) (h7 : B < 7) (hp : p < P) (hq : q < P) : TOk (addB S B (nI p) (nI q) g k) := by
  refine ⟨P, B + 1, hP, hP7, ?_, h7, fun b hb => ?_⟩
  · show S.1 1 + 1 = _
    rw [hB]; exact nI_1 _
  · show ∃ p' q', p' < P ∧ q' < P ∧ upd (S.2 2) B (nI p) b = nI p' ∧ upd (S.2 3) B (nI q) b = nI q'
    unfold upd
    by_cases e : b = B
    · rw [if_pos e, if_pos e]
      exact ⟨p, q, hp, hq, rfl, rfl⟩
    · rw [if_neg e, if_neg e]
      exact hI b (by omega)
theorem hur_23 {f : Nat → Int32} {z : Nat} {b : Int32} : ∀ m (q : aP), (hurF f z b m q).2.2.2 2 = q.2.2.2 2 ∧ (hurF f z b m q).2.2.2 3 = q.2.2.2 3
  | 0, _ => ⟨rfl, rfl⟩
  | m + 1, q => by
    unfold hurF
    split
    · obtain ⟨h1, h2⟩ := hur_23 (f := f) (z := z) (b := b) m (huS b q (rn1 f z (q.2.2.1 0) q) (rn9 f z (rn1 f z (q.2.2.1 0) q)))
      rw [h1, h2]
      generalize rn9 f z (rn1 f z (q.2.2.1 0) q) = v2
      generalize rn1 f z (q.2.2.1 0) q = v1
      unfold huS
      dsimp only
      split
      · exact ⟨rfl, rfl⟩
      · exact ⟨rfl, rfl⟩
    · exact ⟨rfl, rfl⟩
theorem to_hur {f : Nat → Int32} {z m : Nat} {b : Int32} {q : aP} (h : TOk q.2.2) : TOk (hurF f z b m q).2.2 :=
  to_E (congrFun (hur_P m q) 0) (congrFun (hur_P m q) 1) (hur_23 m q).1 (hur_23 m q).2 h
theorem to_stDeal {f : Nat → Int32} {z : Nat} {q : aP} (hz : z ≤ 250) (hL : LOk q.1 z) (h : TOk q.2.2) : TOk (stDeal f z q).2.2 := by
  unfold stDeal
  split
  · rename_i hlt
    have hlx := lex_le (f := f) hL.2.1
    obtain ⟨P, B, hP, hP7, hB, hB7, hI⟩ := id h
    obtain ⟨v1, E1⟩ : ∃ v, rnR f z (lexF f z q.1.1) q.2.1 0 (q.2.2.1 0 - 1) (-1) = v := ⟨_, rfl⟩
    have hl1 : LOk v1.2.1 z := rn_okE E1 hlx
    obtain ⟨v2, E2⟩ : ∃ v, rnR f z v1.2.1 v1.2.2 0 (q.2.2.1 0 - 1) v1.1 = v := ⟨_, rfl⟩
    have hl2 : LOk v2.2.1 z := rn_okE E2 hl1
    obtain ⟨v3, E3⟩ : ∃ v, rnR f z v2.2.1 v2.2.2 0 99 (-1) = v := ⟨_, rfl⟩
    have hl3 : LOk v3.2.1 z := rn_okE E3 hl2
    obtain ⟨v4, E4⟩ : ∃ v, rnR f z v3.2.1 v3.2.2 0 99 (-1) = v := ⟨_, rfl⟩
    have hst : dlS f z q (rn1 f z (q.2.2.1 0) q) (rnP f z (q.2.2.1 0) (rn1 f z (q.2.2.1 0) q).1 (rn1 f z (q.2.2.1 0) q)) (rn9 f z (rnP f z (q.2.2.1 0) (rn1 f z (q.2.2.1 0) q).1 (rn1 f z (q.2.2.1 0) q))) (rn9 f z (rn9 f z (rnP f z (q.2.2.1 0) (rn1 f z (q.2.2.1 0) q).1 (rn1 f z (q.2.2.1 0) q)))) = dlS f z q v1 v2 v3 v4 := by unfold rn9 rnP rn1; rw [E1, E2, E3, E4]
    rw [hst]
    unfold dlS
    split
    · rename_i h4
      obtain ⟨f3, j4, -, -⟩ := rn_v99E E4 hl3 hz h4
      obtain ⟨f2, j3, -, -⟩ := rn_v99E E3 hl2 hz f3
      obtain ⟨f1, j2, b2, u2, -⟩ := rn_valE (by rw [hP] at E2; exact E2) hl1 hz hP7 f2
      obtain ⟨f0, j1, b1, u1, -⟩ := rn_valE (by rw [hP] at E1; exact E1) hlx hz hP7 f1
      have h7 : B < 7 := by
        rcases Nat.lt_or_ge B 7 with r | r
        · exact r
        · exact absurd hlt (by rw [hB]; exact nI_nlt (b := 7) r (by omega))
      refine to_hur ?_
      show TOk (addB q.2.2 (q.2.2.1 1).toNatClampNeg v1.1 v2.1 v3.1 v4.1)
      rw [u1, u2, hB, nI_clamp (by omega)]
      exact to_deal hP hP7 hB hI h7 b1 b2
    · exact h
  · exact h
theorem to_gnS {q : aP} {v1 v2 v3 : aV} (h : TOk q.2.2) : TOk (gnS q v1 v2 v3).2.2 := by
  unfold gnS
  dsimp only
  split
  · exact to_loss h
  · exact h
theorem to_brS {q : aP} {v1 v2 : aV} (h : TOk q.2.2) : TOk (brS q v1 v2).2.2 := by
  unfold brS
  dsimp only
  split
  · exact to_bar h
  · exact h
theorem to_lwS {c : Nat} {q : aP} {v : aV} (h : TOk q.2.2) : TOk (lwS c q v).2.2 := by
  unfold lwS
  dsimp only
  split
  · exact to_law h
  · exact h
theorem to_stOne {f : Nat → Int32} {z : Nat} {q : aP} (h : TOk q.2.2) : TOk (stOne f z q).2.2 := by
  unfold stOne
  split
  · rename_i hlt
    exact to_one h hlt
  · exact h
theorem to_stGains {f : Nat → Int32} {z : Nat} {q : aP} (h : TOk q.2.2) : TOk (stGains f z q).2.2 := by
  unfold stGains
  exact to_gnS h
theorem to_stBars {f : Nat → Int32} {z : Nat} {q : aP} (h : TOk q.2.2) : TOk (stBars f z q).2.2 := by
  unfold stBars
  exact to_brS h
theorem to_stLaw {f : Nat → Int32} {z c : Nat} {q : aP} (h : TOk q.2.2) : TOk (stLaw f z c q).2.2 := by
  unfold stLaw
  exact to_lwS h
theorem to_stM {f : Nat → Int32} {z : Nat} {q : aP} (hz : z ≤ 250) (hL : LOk q.1 z) (h : TOk q.2.2) : TOk (stM f z q).2.2 :=
  stM_ind (Pr := fun x => TOk x.2.2) (to_stOne h) (to_stDeal hz hL h) (to_stGains h) (to_stBars h) (fun _ => to_stLaw h) h
theorem to_rdF {f : Nat → Int32} {z : Nat} (hz : z ≤ 250) : ∀ m c (q : aP), LOk q.1 z → TOk q.2.2 → TOk (rdF f z m c q).2.2.2
  | 0, _, _, _, h => h
  | m + 1, c, q, hL, h => by
    have hok := stM_ok (f := f) hL
    have h2 := to_stM (f := f) hz hL h
    unfold rdF
    generalize stM f z q = q' at *
    split
    · exact to_rdF hz m (c + 1) (lexF f z q'.1.1, q'.2.1, q'.2.2) (lex_le hok.2.1) h2
    · exact h2
theorem to_read {f : Nat → Int32} {z : Nat} (hz : z ≤ 250) (h : TOk S) : TOk (rdE (readS f z S).2).2.2 := by
  have h1 := to_rdF (f := f) hz 251 0 (lexF f z 0, -1, S) (lex_le (Nat.zero_le _)) h
  unfold readS rdE
  generalize (rdF f z 251 0 (lexF f z 0, -1, S)).2 = q' at *
  split
  · exact h1
  · exact h1
end QOK
